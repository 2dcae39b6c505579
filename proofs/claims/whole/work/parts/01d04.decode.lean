theorem dX6_shown_78 : decode cX6_shown 78 = .ok (.iaload, 1) := by decide +kernel
theorem dX6_shown_79 : decode cX6_shown 79 = .ok (.i2l, 1) := by decide +kernel
theorem dX6_shown_80 : decode cX6_shown 80 = .ok (.lmul, 1) := by decide +kernel
theorem dX6_shown_81 : decode cX6_shown 81 = .ok (.lstore 4, 2) := by decide +kernel
theorem dX6_shown_83 : decode cX6_shown 83 = .ok (.iinc 6 1, 3) := by decide +kernel
theorem dX6_shown_86 : decode cX6_shown 86 = .ok (.goto (-73), 3) := by decide +kernel
theorem dX6_shown_89 : decode cX6_shown 89 = .ok (.lload_n 2, 1) := by decide +kernel
theorem dX6_shown_90 : decode cX6_shown 90 = .ok (.lreturn, 1) := by decide +kernel
theorem dX6_digits_0 : decode cX6_digits 0 = .ok (.iconst 0, 1) := by decide +kernel
theorem dX6_digits_1 : decode cX6_digits 1 = .ok (.istore_n 3, 1) := by decide +kernel
theorem dX6_digits_2 : decode cX6_digits 2 = .ok (.lload_n 0, 1) := by decide +kernel
theorem dX6_digits_3 : decode cX6_digits 3 = .ok (.lstore 4, 2) := by decide +kernel
theorem dX6_digits_5 : decode cX6_digits 5 = .ok (.lload 4, 2) := by decide +kernel
theorem dX6_digits_7 : decode cX6_digits 7 = .ok (.lconst 0, 1) := by decide +kernel
theorem dX6_digits_8 : decode cX6_digits 8 = .ok (.lcmp, 1) := by decide +kernel
theorem dX6_digits_9 : decode cX6_digits 9 = .ok (.ifCond .le 16, 3) := by decide +kernel
theorem dX6_digits_12 : decode cX6_digits 12 = .ok (.iinc 3 1, 3) := by decide +kernel
theorem dX6_digits_15 : decode cX6_digits 15 = .ok (.lload 4, 2) := by decide +kernel
theorem dX6_digits_17 : decode cX6_digits 17 = .ok (.iload_n 2, 1) := by decide +kernel
theorem dX6_digits_18 : decode cX6_digits 18 = .ok (.i2l, 1) := by decide +kernel
theorem dX6_digits_19 : decode cX6_digits 19 = .ok (.ldiv, 1) := by decide +kernel
theorem dX6_digits_20 : decode cX6_digits 20 = .ok (.lstore 4, 2) := by decide +kernel
theorem dX6_digits_22 : decode cX6_digits 22 = .ok (.goto (-17), 3) := by decide +kernel
theorem dX6_digits_25 : decode cX6_digits 25 = .ok (.iload_n 3, 1) := by decide +kernel
theorem dX6_digits_26 : decode cX6_digits 26 = .ok (.ireturn, 1) := by decide +kernel
theorem dX6_power_0 : decode cX6_power 0 = .ok (.lconst 1, 1) := by decide +kernel
theorem dX6_power_1 : decode cX6_power 1 = .ok (.lstore_n 2, 1) := by decide +kernel
theorem dX6_power_2 : decode cX6_power 2 = .ok (.iconst 0, 1) := by decide +kernel
theorem dX6_power_3 : decode cX6_power 3 = .ok (.istore 4, 2) := by decide +kernel
theorem dX6_power_5 : decode cX6_power 5 = .ok (.iload 4, 2) := by decide +kernel
theorem dX6_power_7 : decode cX6_power 7 = .ok (.iload_n 1, 1) := by decide +kernel
theorem dX6_power_8 : decode cX6_power 8 = .ok (.if_icmp .ge 14, 3) := by decide +kernel
theorem dX6_power_11 : decode cX6_power 11 = .ok (.lload_n 2, 1) := by decide +kernel
theorem dX6_power_12 : decode cX6_power 12 = .ok (.iload_n 0, 1) := by decide +kernel
theorem dX6_power_13 : decode cX6_power 13 = .ok (.i2l, 1) := by decide +kernel
theorem dX6_power_14 : decode cX6_power 14 = .ok (.lmul, 1) := by decide +kernel
theorem dX6_power_15 : decode cX6_power 15 = .ok (.lstore_n 2, 1) := by decide +kernel
theorem dX6_power_16 : decode cX6_power 16 = .ok (.iinc 4 1, 3) := by decide +kernel
theorem dX6_power_19 : decode cX6_power 19 = .ok (.goto (-14), 3) := by decide +kernel
theorem dX6_power_22 : decode cX6_power 22 = .ok (.lload_n 2, 1) := by decide +kernel
theorem dX6_power_23 : decode cX6_power 23 = .ok (.lreturn, 1) := by decide +kernel
theorem dX6_digitOf_0 : decode cX6_digitOf 0 = .ok (.lload_n 0, 1) := by decide +kernel
theorem dX6_digitOf_1 : decode cX6_digitOf 1 = .ok (.lstore 4, 2) := by decide +kernel
theorem dX6_digitOf_3 : decode cX6_digitOf 3 = .ok (.iconst 0, 1) := by decide +kernel
theorem dX6_digitOf_4 : decode cX6_digitOf 4 = .ok (.istore 6, 2) := by decide +kernel
theorem dX6_digitOf_6 : decode cX6_digitOf 6 = .ok (.iload 6, 2) := by decide +kernel
theorem dX6_digitOf_8 : decode cX6_digitOf 8 = .ok (.iload_n 3, 1) := by decide +kernel
theorem dX6_digitOf_9 : decode cX6_digitOf 9 = .ok (.if_icmp .ge 16, 3) := by decide +kernel
theorem dX6_digitOf_12 : decode cX6_digitOf 12 = .ok (.lload 4, 2) := by decide +kernel
theorem dX6_digitOf_14 : decode cX6_digitOf 14 = .ok (.iload_n 2, 1) := by decide +kernel
theorem dX6_digitOf_15 : decode cX6_digitOf 15 = .ok (.i2l, 1) := by decide +kernel
theorem dX6_digitOf_16 : decode cX6_digitOf 16 = .ok (.ldiv, 1) := by decide +kernel
theorem dX6_digitOf_17 : decode cX6_digitOf 17 = .ok (.lstore 4, 2) := by decide +kernel
theorem dX6_digitOf_19 : decode cX6_digitOf 19 = .ok (.iinc 6 1, 3) := by decide +kernel
theorem dX6_digitOf_22 : decode cX6_digitOf 22 = .ok (.goto (-16), 3) := by decide +kernel
theorem dX6_digitOf_25 : decode cX6_digitOf 25 = .ok (.lload 4, 2) := by decide +kernel
theorem dX6_digitOf_27 : decode cX6_digitOf 27 = .ok (.iload_n 2, 1) := by decide +kernel
theorem dX6_digitOf_28 : decode cX6_digitOf 28 = .ok (.i2l, 1) := by decide +kernel
theorem dX6_digitOf_29 : decode cX6_digitOf 29 = .ok (.lrem, 1) := by decide +kernel
theorem dX6_digitOf_30 : decode cX6_digitOf 30 = .ok (.l2i, 1) := by decide +kernel
theorem dX6_digitOf_31 : decode cX6_digitOf 31 = .ok (.ireturn, 1) := by decide +kernel
theorem dX6_frame_0 : decode cX6_frame 0 = .ok (.iload_n 1, 1) := by decide +kernel
theorem dX6_frame_1 : decode cX6_frame 1 = .ok (.i2l, 1) := by decide +kernel
theorem dX6_frame_2 : decode cX6_frame 2 = .ok (.lconst 0, 1) := by decide +kernel
theorem dX6_frame_3 : decode cX6_frame 3 = .ok (.ldc2_w 127, 3) := by decide +kernel
theorem dX6_frame_6 : decode cX6_frame 6 = .ok (.invokestatic 92, 3) := by decide +kernel
theorem dX6_frame_9 : decode cX6_frame 9 = .ok (.ifCond .eq 19, 3) := by decide +kernel
theorem dX6_frame_12 : decode cX6_frame 12 = .ok (.iload_n 2, 1) := by decide +kernel
theorem dX6_frame_13 : decode cX6_frame 13 = .ok (.iload_n 1, 1) := by decide +kernel
theorem dX6_frame_14 : decode cX6_frame 14 = .ok (.iconst 3, 1) := by decide +kernel
theorem dX6_frame_15 : decode cX6_frame 15 = .ok (.if_icmp .ne 8, 3) := by decide +kernel
theorem dX6_frame_18 : decode cX6_frame 18 = .ok (.bipush 14, 2) := by decide +kernel
theorem dX6_frame_20 : decode cX6_frame 20 = .ok (.goto 5, 3) := by decide +kernel
theorem dX6_frame_23 : decode cX6_frame 23 = .ok (.bipush 18, 2) := by decide +kernel
theorem dX6_frame_25 : decode cX6_frame 25 = .ok (.if_icmp .le 6, 3) := by decide +kernel
theorem dX6_frame_28 : decode cX6_frame 28 = .ok (.bipush (-2), 2) := by decide +kernel
theorem dX6_frame_30 : decode cX6_frame 30 = .ok (.ireturn, 1) := by decide +kernel
theorem dX6_frame_31 : decode cX6_frame 31 = .ok (.aload_n 0, 1) := by decide +kernel
theorem dX6_frame_32 : decode cX6_frame 32 = .ok (.getfield 89, 3) := by decide +kernel
theorem dX6_frame_35 : decode cX6_frame 35 = .ok (.bipush 30, 2) := by decide +kernel
theorem dX6_frame_37 : decode cX6_frame 37 = .ok (.if_icmp .ne 6, 3) := by decide +kernel
theorem dX6_frame_40 : decode cX6_frame 40 = .ok (.bipush (-4), 2) := by decide +kernel
theorem dX6_frame_42 : decode cX6_frame 42 = .ok (.ireturn, 1) := by decide +kernel
theorem dX6_frame_43 : decode cX6_frame 43 = .ok (.iload_n 2, 1) := by decide +kernel
theorem dX6_frame_44 : decode cX6_frame 44 = .ok (.ifCond .ge 9, 3) := by decide +kernel
theorem dX6_frame_47 : decode cX6_frame 47 = .ok (.aload_n 0, 1) := by decide +kernel
theorem dX6_frame_48 : decode cX6_frame 48 = .ok (.iconst 4, 1) := by decide +kernel
theorem dX6_frame_49 : decode cX6_frame 49 = .ok (.invokevirtual 102, 3) := by decide +kernel
theorem dX6_frame_52 : decode cX6_frame 52 = .ok (.ireturn, 1) := by decide +kernel
theorem dX6_frame_53 : decode cX6_frame 53 = .ok (.aload_n 0, 1) := by decide +kernel
theorem dX6_frame_54 : decode cX6_frame 54 = .ok (.getfield 89, 3) := by decide +kernel
theorem dX6_frame_57 : decode cX6_frame 57 = .ok (.istore_n 3, 1) := by decide +kernel
theorem dX6_frame_58 : decode cX6_frame 58 = .ok (.aload_n 0, 1) := by decide +kernel
theorem dX6_frame_59 : decode cX6_frame 59 = .ok (.getfield 7, 3) := by decide +kernel
theorem dX6_frame_62 : decode cX6_frame 62 = .ok (.iload_n 3, 1) := by decide +kernel
theorem dX6_frame_63 : decode cX6_frame 63 = .ok (.iload_n 1, 1) := by decide +kernel
theorem dX6_frame_64 : decode cX6_frame 64 = .ok (.iastore, 1) := by decide +kernel
theorem dX6_frame_65 : decode cX6_frame 65 = .ok (.aload_n 0, 1) := by decide +kernel
theorem dX6_frame_66 : decode cX6_frame 66 = .ok (.getfield 13, 3) := by decide +kernel
theorem dX6_frame_69 : decode cX6_frame 69 = .ok (.iload_n 3, 1) := by decide +kernel
theorem dX6_frame_70 : decode cX6_frame 70 = .ok (.iload_n 2, 1) := by decide +kernel
theorem dX6_frame_71 : decode cX6_frame 71 = .ok (.iastore, 1) := by decide +kernel
theorem dX6_frame_72 : decode cX6_frame 72 = .ok (.aload_n 0, 1) := by decide +kernel
theorem dX6_frame_73 : decode cX6_frame 73 = .ok (.getfield 16, 3) := by decide +kernel
theorem dX6_frame_76 : decode cX6_frame 76 = .ok (.iload_n 3, 1) := by decide +kernel
theorem dX6_frame_77 : decode cX6_frame 77 = .ok (.iload_n 1, 1) := by decide +kernel
theorem dX6_frame_78 : decode cX6_frame 78 = .ok (.iconst 3, 1) := by decide +kernel
theorem dX6_frame_79 : decode cX6_frame 79 = .ok (.if_icmp .ne 8, 3) := by decide +kernel
theorem dX6_frame_82 : decode cX6_frame 82 = .ok (.bipush 16, 2) := by decide +kernel
theorem dX6_frame_84 : decode cX6_frame 84 = .ok (.goto 5, 3) := by decide +kernel
theorem dX6_frame_87 : decode cX6_frame 87 = .ok (.bipush 10, 2) := by decide +kernel
theorem dX6_frame_89 : decode cX6_frame 89 = .ok (.iastore, 1) := by decide +kernel
theorem dX6_frame_90 : decode cX6_frame 90 = .ok (.aload_n 0, 1) := by decide +kernel
theorem dX6_frame_91 : decode cX6_frame 91 = .ok (.getfield 19, 3) := by decide +kernel
theorem dX6_frame_94 : decode cX6_frame 94 = .ok (.iload_n 3, 1) := by decide +kernel
theorem dX6_frame_95 : decode cX6_frame 95 = .ok (.iconst 0, 1) := by decide +kernel
theorem dX6_frame_96 : decode cX6_frame 96 = .ok (.iastore, 1) := by decide +kernel
theorem dX6_frame_97 : decode cX6_frame 97 = .ok (.aload_n 0, 1) := by decide +kernel
theorem dX6_frame_98 : decode cX6_frame 98 = .ok (.getfield 28, 3) := by decide +kernel
theorem dX6_frame_101 : decode cX6_frame 101 = .ok (.iload_n 3, 1) := by decide +kernel
theorem dX6_frame_102 : decode cX6_frame 102 = .ok (.iconst 1, 1) := by decide +kernel
theorem dX6_frame_103 : decode cX6_frame 103 = .ok (.iload_n 3, 1) := by decide +kernel
theorem dX6_frame_104 : decode cX6_frame 104 = .ok (.ishl, 1) := by decide +kernel
theorem dX6_frame_105 : decode cX6_frame 105 = .ok (.iastore, 1) := by decide +kernel
theorem dX6_frame_106 : decode cX6_frame 106 = .ok (.iconst 0, 1) := by decide +kernel
theorem dX6_frame_107 : decode cX6_frame 107 = .ok (.istore 4, 2) := by decide +kernel
theorem dX6_frame_109 : decode cX6_frame 109 = .ok (.iload 4, 2) := by decide +kernel
theorem dX6_frame_111 : decode cX6_frame 111 = .ok (.iload_n 2, 1) := by decide +kernel
theorem dX6_frame_112 : decode cX6_frame 112 = .ok (.if_icmp .ge 60, 3) := by decide +kernel
theorem dX6_frame_115 : decode cX6_frame 115 = .ok (.bipush 18, 2) := by decide +kernel
theorem dX6_frame_117 : decode cX6_frame 117 = .ok (.iload_n 3, 1) := by decide +kernel
theorem dX6_frame_118 : decode cX6_frame 118 = .ok (.imul, 1) := by decide +kernel
theorem dX6_frame_119 : decode cX6_frame 119 = .ok (.iload 4, 2) := by decide +kernel
theorem dX6_frame_121 : decode cX6_frame 121 = .ok (.iadd, 1) := by decide +kernel
theorem dX6_frame_122 : decode cX6_frame 122 = .ok (.istore 5, 2) := by decide +kernel
theorem dX6_frame_124 : decode cX6_frame 124 = .ok (.aload_n 0, 1) := by decide +kernel
theorem dX6_frame_125 : decode cX6_frame 125 = .ok (.getfield 31, 3) := by decide +kernel
theorem dX6_frame_128 : decode cX6_frame 128 = .ok (.iload 5, 2) := by decide +kernel
theorem dX6_frame_130 : decode cX6_frame 130 = .ok (.iload 5, 2) := by decide +kernel
theorem dX6_frame_132 : decode cX6_frame 132 = .ok (.iastore, 1) := by decide +kernel
theorem dX6_frame_133 : decode cX6_frame 133 = .ok (.aload_n 0, 1) := by decide +kernel
theorem dX6_frame_134 : decode cX6_frame 134 = .ok (.getfield 34, 3) := by decide +kernel
theorem dX6_frame_137 : decode cX6_frame 137 = .ok (.iload 5, 2) := by decide +kernel
theorem dX6_frame_139 : decode cX6_frame 139 = .ok (.iload_n 1, 1) := by decide +kernel
theorem dX6_frame_140 : decode cX6_frame 140 = .ok (.iconst 2, 1) := by decide +kernel
theorem dX6_frame_141 : decode cX6_frame 141 = .ok (.if_icmp .ne 7, 3) := by decide +kernel
theorem dX6_frame_144 : decode cX6_frame 144 = .ok (.iconst 1, 1) := by decide +kernel
theorem dX6_frame_145 : decode cX6_frame 145 = .ok (.goto 4, 3) := by decide +kernel
theorem dX6_frame_148 : decode cX6_frame 148 = .ok (.iconst 2, 1) := by decide +kernel
theorem dX6_frame_149 : decode cX6_frame 149 = .ok (.iastore, 1) := by decide +kernel
theorem dX6_frame_150 : decode cX6_frame 150 = .ok (.aload_n 0, 1) := by decide +kernel
theorem dX6_frame_151 : decode cX6_frame 151 = .ok (.getfield 37, 3) := by decide +kernel
theorem dX6_frame_154 : decode cX6_frame 154 = .ok (.iload 5, 2) := by decide +kernel
theorem dX6_frame_156 : decode cX6_frame 156 = .ok (.iconst 0, 1) := by decide +kernel
theorem dX6_frame_157 : decode cX6_frame 157 = .ok (.iastore, 1) := by decide +kernel
theorem dX6_frame_158 : decode cX6_frame 158 = .ok (.aload_n 0, 1) := by decide +kernel
theorem dX6_frame_159 : decode cX6_frame 159 = .ok (.getfield 40, 3) := by decide +kernel
theorem dX6_frame_162 : decode cX6_frame 162 = .ok (.iload 5, 2) := by decide +kernel
theorem dX6_frame_164 : decode cX6_frame 164 = .ok (.iconst 0, 1) := by decide +kernel
theorem dX6_frame_165 : decode cX6_frame 165 = .ok (.iastore, 1) := by decide +kernel
theorem dX6_frame_166 : decode cX6_frame 166 = .ok (.iinc 4 1, 3) := by decide +kernel
theorem dX6_frame_169 : decode cX6_frame 169 = .ok (.goto (-60), 3) := by decide +kernel
theorem dX6_frame_172 : decode cX6_frame 172 = .ok (.aload_n 0, 1) := by decide +kernel
theorem dX6_frame_173 : decode cX6_frame 173 = .ok (.dup, 1) := by decide +kernel
theorem dX6_frame_174 : decode cX6_frame 174 = .ok (.getfield 89, 3) := by decide +kernel
theorem dX6_frame_177 : decode cX6_frame 177 = .ok (.iconst 1, 1) := by decide +kernel
theorem dX6_frame_178 : decode cX6_frame 178 = .ok (.iadd, 1) := by decide +kernel
theorem dX6_frame_179 : decode cX6_frame 179 = .ok (.putfield 89, 3) := by decide +kernel
theorem dX6_frame_182 : decode cX6_frame 182 = .ok (.iload_n 3, 1) := by decide +kernel
theorem dX6_frame_183 : decode cX6_frame 183 = .ok (.ireturn, 1) := by decide +kernel
theorem dX6_both_0 : decode cX6_both 0 = .ok (.aload_n 0, 1) := by decide +kernel
theorem dX6_both_1 : decode cX6_both 1 = .ok (.iload_n 1, 1) := by decide +kernel
theorem dX6_both_2 : decode cX6_both 2 = .ok (.invokevirtual 129, 3) := by decide +kernel
theorem dX6_both_5 : decode cX6_both 5 = .ok (.ifCond .eq 11, 3) := by decide +kernel
theorem dX6_both_8 : decode cX6_both 8 = .ok (.aload_n 0, 1) := by decide +kernel
theorem dX6_both_9 : decode cX6_both 9 = .ok (.iload_n 2, 1) := by decide +kernel
theorem dX6_both_10 : decode cX6_both 10 = .ok (.invokevirtual 129, 3) := by decide +kernel
theorem dX6_both_13 : decode cX6_both 13 = .ok (.ifCond .ne 5, 3) := by decide +kernel
theorem dX6_both_16 : decode cX6_both 16 = .ok (.iconst (-1), 1) := by decide +kernel
theorem dX6_both_17 : decode cX6_both 17 = .ok (.ireturn, 1) := by decide +kernel
theorem dX6_both_18 : decode cX6_both 18 = .ok (.iconst 1, 1) := by decide +kernel
theorem dX6_both_19 : decode cX6_both 19 = .ok (.aload_n 0, 1) := by decide +kernel
theorem dX6_both_20 : decode cX6_both 20 = .ok (.getfield 19, 3) := by decide +kernel
theorem dX6_both_23 : decode cX6_both 23 = .ok (.iload_n 1, 1) := by decide +kernel
theorem dX6_both_24 : decode cX6_both 24 = .ok (.iaload, 1) := by decide +kernel
theorem dX6_both_25 : decode cX6_both 25 = .ok (.aload_n 0, 1) := by decide +kernel
theorem dX6_both_26 : decode cX6_both 26 = .ok (.getfield 19, 3) := by decide +kernel
theorem dX6_both_29 : decode cX6_both 29 = .ok (.iload_n 2, 1) := by decide +kernel
theorem dX6_both_30 : decode cX6_both 30 = .ok (.iaload, 1) := by decide +kernel
theorem dX6_both_31 : decode cX6_both 31 = .ok (.if_icmp .le 12, 3) := by decide +kernel
theorem dX6_both_34 : decode cX6_both 34 = .ok (.aload_n 0, 1) := by decide +kernel
theorem dX6_both_35 : decode cX6_both 35 = .ok (.getfield 19, 3) := by decide +kernel
theorem dX6_both_38 : decode cX6_both 38 = .ok (.iload_n 1, 1) := by decide +kernel
theorem dX6_both_39 : decode cX6_both 39 = .ok (.iaload, 1) := by decide +kernel
theorem dX6_both_40 : decode cX6_both 40 = .ok (.goto 9, 3) := by decide +kernel
theorem dX6_both_43 : decode cX6_both 43 = .ok (.aload_n 0, 1) := by decide +kernel
theorem dX6_both_44 : decode cX6_both 44 = .ok (.getfield 19, 3) := by decide +kernel
theorem dX6_both_47 : decode cX6_both 47 = .ok (.iload_n 2, 1) := by decide +kernel
theorem dX6_both_48 : decode cX6_both 48 = .ok (.iaload, 1) := by decide +kernel
theorem dX6_both_49 : decode cX6_both 49 = .ok (.iadd, 1) := by decide +kernel
theorem dX6_both_50 : decode cX6_both 50 = .ok (.istore_n 3, 1) := by decide +kernel
theorem dX6_both_51 : decode cX6_both 51 = .ok (.aload_n 0, 1) := by decide +kernel
theorem dX6_both_52 : decode cX6_both 52 = .ok (.getfield 16, 3) := by decide +kernel
theorem dX6_both_55 : decode cX6_both 55 = .ok (.iload_n 1, 1) := by decide +kernel
theorem dX6_both_56 : decode cX6_both 56 = .ok (.iaload, 1) := by decide +kernel
theorem dX6_both_57 : decode cX6_both 57 = .ok (.aload_n 0, 1) := by decide +kernel
theorem dX6_both_58 : decode cX6_both 58 = .ok (.getfield 16, 3) := by decide +kernel
theorem dX6_both_61 : decode cX6_both 61 = .ok (.iload_n 2, 1) := by decide +kernel
theorem dX6_both_62 : decode cX6_both 62 = .ok (.iaload, 1) := by decide +kernel
theorem dX6_both_63 : decode cX6_both 63 = .ok (.if_icmp .ne 58, 3) := by decide +kernel
theorem dX6_both_66 : decode cX6_both 66 = .ok (.aload_n 0, 1) := by decide +kernel
theorem dX6_both_67 : decode cX6_both 67 = .ok (.getfield 28, 3) := by decide +kernel
theorem dX6_both_70 : decode cX6_both 70 = .ok (.iload_n 1, 1) := by decide +kernel
theorem dX6_both_71 : decode cX6_both 71 = .ok (.iaload, 1) := by decide +kernel
theorem dX6_both_72 : decode cX6_both 72 = .ok (.aload_n 0, 1) := by decide +kernel
theorem dX6_both_73 : decode cX6_both 73 = .ok (.getfield 28, 3) := by decide +kernel
theorem dX6_both_76 : decode cX6_both 76 = .ok (.iload_n 2, 1) := by decide +kernel
theorem dX6_both_77 : decode cX6_both 77 = .ok (.iaload, 1) := by decide +kernel
theorem dX6_both_78 : decode cX6_both 78 = .ok (.iand, 1) := by decide +kernel
theorem dX6_both_79 : decode cX6_both 79 = .ok (.ifCond .ne 42, 3) := by decide +kernel
theorem dX6_both_82 : decode cX6_both 82 = .ok (.aload_n 0, 1) := by decide +kernel
theorem dX6_both_83 : decode cX6_both 83 = .ok (.getfield 13, 3) := by decide +kernel
theorem dX6_both_86 : decode cX6_both 86 = .ok (.iload_n 1, 1) := by decide +kernel
theorem dX6_both_87 : decode cX6_both 87 = .ok (.iaload, 1) := by decide +kernel
theorem dX6_both_88 : decode cX6_both 88 = .ok (.aload_n 0, 1) := by decide +kernel
theorem dX6_both_89 : decode cX6_both 89 = .ok (.getfield 13, 3) := by decide +kernel
theorem dX6_both_92 : decode cX6_both 92 = .ok (.iload_n 2, 1) := by decide +kernel
theorem dX6_both_93 : decode cX6_both 93 = .ok (.iaload, 1) := by decide +kernel
theorem dX6_both_94 : decode cX6_both 94 = .ok (.iadd, 1) := by decide +kernel
theorem dX6_both_95 : decode cX6_both 95 = .ok (.aload_n 0, 1) := by decide +kernel
theorem dX6_both_96 : decode cX6_both 96 = .ok (.getfield 16, 3) := by decide +kernel
theorem dX6_both_99 : decode cX6_both 99 = .ok (.iload_n 1, 1) := by decide +kernel
theorem dX6_both_100 : decode cX6_both 100 = .ok (.iaload, 1) := by decide +kernel
theorem dX6_both_101 : decode cX6_both 101 = .ok (.bipush 16, 2) := by decide +kernel
theorem dX6_both_103 : decode cX6_both 103 = .ok (.if_icmp .ne 8, 3) := by decide +kernel
theorem dX6_both_106 : decode cX6_both 106 = .ok (.bipush 14, 2) := by decide +kernel
theorem dX6_both_108 : decode cX6_both 108 = .ok (.goto 5, 3) := by decide +kernel
theorem dX6_both_111 : decode cX6_both 111 = .ok (.bipush 18, 2) := by decide +kernel
theorem dX6_both_113 : decode cX6_both 113 = .ok (.if_icmp .gt 8, 3) := by decide +kernel
theorem dX6_both_116 : decode cX6_both 116 = .ok (.iload_n 3, 1) := by decide +kernel
theorem dX6_both_117 : decode cX6_both 117 = .ok (.iconst 5, 1) := by decide +kernel
theorem dX6_both_118 : decode cX6_both 118 = .ok (.if_icmp .le 6, 3) := by decide +kernel
theorem dX6_both_121 : decode cX6_both 121 = .ok (.bipush (-3), 2) := by decide +kernel
theorem dX6_both_123 : decode cX6_both 123 = .ok (.ireturn, 1) := by decide +kernel
theorem dX6_both_124 : decode cX6_both 124 = .ok (.aload_n 0, 1) := by decide +kernel
theorem dX6_both_125 : decode cX6_both 125 = .ok (.getfield 89, 3) := by decide +kernel
theorem dX6_both_128 : decode cX6_both 128 = .ok (.bipush 30, 2) := by decide +kernel
theorem dX6_both_130 : decode cX6_both 130 = .ok (.if_icmp .ne 6, 3) := by decide +kernel
theorem dX6_both_133 : decode cX6_both 133 = .ok (.bipush (-4), 2) := by decide +kernel
theorem dX6_both_135 : decode cX6_both 135 = .ok (.ireturn, 1) := by decide +kernel
theorem dX6_both_136 : decode cX6_both 136 = .ok (.aload_n 0, 1) := by decide +kernel
theorem dX6_both_137 : decode cX6_both 137 = .ok (.getfield 89, 3) := by decide +kernel
theorem dX6_both_140 : decode cX6_both 140 = .ok (.istore 4, 2) := by decide +kernel
theorem dX6_both_142 : decode cX6_both 142 = .ok (.aload_n 0, 1) := by decide +kernel
theorem dX6_both_143 : decode cX6_both 143 = .ok (.getfield 7, 3) := by decide +kernel
theorem dX6_both_146 : decode cX6_both 146 = .ok (.iload 4, 2) := by decide +kernel
theorem dX6_both_148 : decode cX6_both 148 = .ok (.iconst 4, 1) := by decide +kernel
theorem dX6_both_149 : decode cX6_both 149 = .ok (.iastore, 1) := by decide +kernel
theorem dX6_both_150 : decode cX6_both 150 = .ok (.aload_n 0, 1) := by decide +kernel
theorem dX6_both_151 : decode cX6_both 151 = .ok (.getfield 13, 3) := by decide +kernel
theorem dX6_both_154 : decode cX6_both 154 = .ok (.iload 4, 2) := by decide +kernel
theorem dX6_both_156 : decode cX6_both 156 = .ok (.aload_n 0, 1) := by decide +kernel
theorem dX6_both_157 : decode cX6_both 157 = .ok (.getfield 13, 3) := by decide +kernel
theorem dX6_both_160 : decode cX6_both 160 = .ok (.iload_n 1, 1) := by decide +kernel
theorem dX6_both_161 : decode cX6_both 161 = .ok (.iaload, 1) := by decide +kernel
theorem dX6_both_162 : decode cX6_both 162 = .ok (.aload_n 0, 1) := by decide +kernel
theorem dX6_both_163 : decode cX6_both 163 = .ok (.getfield 13, 3) := by decide +kernel
theorem dX6_both_166 : decode cX6_both 166 = .ok (.iload_n 2, 1) := by decide +kernel
theorem dX6_both_167 : decode cX6_both 167 = .ok (.iaload, 1) := by decide +kernel
theorem dX6_both_168 : decode cX6_both 168 = .ok (.iadd, 1) := by decide +kernel
theorem dX6_both_169 : decode cX6_both 169 = .ok (.iastore, 1) := by decide +kernel
theorem dX6_both_170 : decode cX6_both 170 = .ok (.aload_n 0, 1) := by decide +kernel
theorem dX6_both_171 : decode cX6_both 171 = .ok (.getfield 16, 3) := by decide +kernel
theorem dX6_both_174 : decode cX6_both 174 = .ok (.iload 4, 2) := by decide +kernel
theorem dX6_both_176 : decode cX6_both 176 = .ok (.aload_n 0, 1) := by decide +kernel
theorem dX6_both_177 : decode cX6_both 177 = .ok (.getfield 16, 3) := by decide +kernel
theorem dX6_both_180 : decode cX6_both 180 = .ok (.iload_n 1, 1) := by decide +kernel
theorem dX6_both_181 : decode cX6_both 181 = .ok (.iaload, 1) := by decide +kernel
theorem dX6_both_182 : decode cX6_both 182 = .ok (.iastore, 1) := by decide +kernel
theorem dX6_both_183 : decode cX6_both 183 = .ok (.aload_n 0, 1) := by decide +kernel
theorem dX6_both_184 : decode cX6_both 184 = .ok (.getfield 19, 3) := by decide +kernel
theorem dX6_both_187 : decode cX6_both 187 = .ok (.iload 4, 2) := by decide +kernel
theorem dX6_both_189 : decode cX6_both 189 = .ok (.iload_n 3, 1) := by decide +kernel
theorem dX6_both_190 : decode cX6_both 190 = .ok (.iastore, 1) := by decide +kernel
theorem dX6_both_191 : decode cX6_both 191 = .ok (.aload_n 0, 1) := by decide +kernel
theorem dX6_both_192 : decode cX6_both 192 = .ok (.getfield 22, 3) := by decide +kernel
theorem dX6_both_195 : decode cX6_both 195 = .ok (.iload 4, 2) := by decide +kernel
theorem dX6_both_197 : decode cX6_both 197 = .ok (.iload_n 1, 1) := by decide +kernel
theorem dX6_both_198 : decode cX6_both 198 = .ok (.iastore, 1) := by decide +kernel
theorem dX6_both_199 : decode cX6_both 199 = .ok (.aload_n 0, 1) := by decide +kernel
theorem dX6_both_200 : decode cX6_both 200 = .ok (.getfield 25, 3) := by decide +kernel
theorem dX6_both_203 : decode cX6_both 203 = .ok (.iload 4, 2) := by decide +kernel
theorem dX6_both_205 : decode cX6_both 205 = .ok (.iload_n 2, 1) := by decide +kernel
theorem dX6_both_206 : decode cX6_both 206 = .ok (.iastore, 1) := by decide +kernel
theorem dX6_both_207 : decode cX6_both 207 = .ok (.aload_n 0, 1) := by decide +kernel
theorem dX6_both_208 : decode cX6_both 208 = .ok (.getfield 28, 3) := by decide +kernel
theorem dX6_both_211 : decode cX6_both 211 = .ok (.iload 4, 2) := by decide +kernel
theorem dX6_both_213 : decode cX6_both 213 = .ok (.aload_n 0, 1) := by decide +kernel
theorem dX6_both_214 : decode cX6_both 214 = .ok (.getfield 28, 3) := by decide +kernel
theorem dX6_both_217 : decode cX6_both 217 = .ok (.iload_n 1, 1) := by decide +kernel
theorem dX6_both_218 : decode cX6_both 218 = .ok (.iaload, 1) := by decide +kernel
theorem dX6_both_219 : decode cX6_both 219 = .ok (.aload_n 0, 1) := by decide +kernel
theorem dX6_both_220 : decode cX6_both 220 = .ok (.getfield 28, 3) := by decide +kernel
theorem dX6_both_223 : decode cX6_both 223 = .ok (.iload_n 2, 1) := by decide +kernel
theorem dX6_both_224 : decode cX6_both 224 = .ok (.iaload, 1) := by decide +kernel
theorem dX6_both_225 : decode cX6_both 225 = .ok (.ior, 1) := by decide +kernel
theorem dX6_both_226 : decode cX6_both 226 = .ok (.iconst 1, 1) := by decide +kernel
theorem dX6_both_227 : decode cX6_both 227 = .ok (.iload 4, 2) := by decide +kernel
theorem dX6_both_229 : decode cX6_both 229 = .ok (.ishl, 1) := by decide +kernel
theorem dX6_both_230 : decode cX6_both 230 = .ok (.ior, 1) := by decide +kernel
theorem dX6_both_231 : decode cX6_both 231 = .ok (.iastore, 1) := by decide +kernel
theorem dX6_both_232 : decode cX6_both 232 = .ok (.iconst 0, 1) := by decide +kernel
theorem dX6_both_233 : decode cX6_both 233 = .ok (.istore 5, 2) := by decide +kernel
theorem dX6_both_235 : decode cX6_both 235 = .ok (.iload 5, 2) := by decide +kernel
theorem dX6_both_237 : decode cX6_both 237 = .ok (.aload_n 0, 1) := by decide +kernel
theorem dX6_both_238 : decode cX6_both 238 = .ok (.getfield 13, 3) := by decide +kernel
theorem dX6_both_241 : decode cX6_both 241 = .ok (.iload 4, 2) := by decide +kernel
theorem dX6_both_243 : decode cX6_both 243 = .ok (.iaload, 1) := by decide +kernel
theorem dX6_both_244 : decode cX6_both 244 = .ok (.if_icmp .ge 57, 3) := by decide +kernel
theorem dX6_both_247 : decode cX6_both 247 = .ok (.aload_n 0, 1) := by decide +kernel
theorem dX6_both_248 : decode cX6_both 248 = .ok (.getfield 31, 3) := by decide +kernel
theorem dX6_both_251 : decode cX6_both 251 = .ok (.bipush 18, 2) := by decide +kernel
theorem dX6_both_253 : decode cX6_both 253 = .ok (.iload 4, 2) := by decide +kernel
theorem dX6_both_255 : decode cX6_both 255 = .ok (.imul, 1) := by decide +kernel
theorem dX6_both_256 : decode cX6_both 256 = .ok (.iload 5, 2) := by decide +kernel
theorem dX6_both_258 : decode cX6_both 258 = .ok (.iadd, 1) := by decide +kernel
theorem dX6_both_259 : decode cX6_both 259 = .ok (.iload 5, 2) := by decide +kernel
theorem dX6_both_261 : decode cX6_both 261 = .ok (.aload_n 0, 1) := by decide +kernel
theorem dX6_both_262 : decode cX6_both 262 = .ok (.getfield 13, 3) := by decide +kernel
theorem dX6_both_265 : decode cX6_both 265 = .ok (.iload_n 2, 1) := by decide +kernel
theorem dX6_both_266 : decode cX6_both 266 = .ok (.iaload, 1) := by decide +kernel
theorem dX6_both_267 : decode cX6_both 267 = .ok (.if_icmp .ge 13, 3) := by decide +kernel
theorem dX6_both_270 : decode cX6_both 270 = .ok (.aload_n 0, 1) := by decide +kernel
theorem dX6_both_271 : decode cX6_both 271 = .ok (.iload_n 2, 1) := by decide +kernel
theorem dX6_both_272 : decode cX6_both 272 = .ok (.iload 5, 2) := by decide +kernel
theorem dX6_both_274 : decode cX6_both 274 = .ok (.invokevirtual 108, 3) := by decide +kernel
theorem dX6_both_277 : decode cX6_both 277 = .ok (.goto 17, 3) := by decide +kernel
theorem dX6_both_280 : decode cX6_both 280 = .ok (.aload_n 0, 1) := by decide +kernel
theorem dX6_both_281 : decode cX6_both 281 = .ok (.iload_n 1, 1) := by decide +kernel
theorem dX6_both_282 : decode cX6_both 282 = .ok (.iload 5, 2) := by decide +kernel
theorem dX6_both_284 : decode cX6_both 284 = .ok (.aload_n 0, 1) := by decide +kernel
theorem dX6_both_285 : decode cX6_both 285 = .ok (.getfield 13, 3) := by decide +kernel
theorem dX6_both_288 : decode cX6_both 288 = .ok (.iload_n 2, 1) := by decide +kernel
theorem dX6_both_289 : decode cX6_both 289 = .ok (.iaload, 1) := by decide +kernel
theorem dX6_both_290 : decode cX6_both 290 = .ok (.isub, 1) := by decide +kernel
theorem dX6_both_291 : decode cX6_both 291 = .ok (.invokevirtual 108, 3) := by decide +kernel
theorem dX6_both_294 : decode cX6_both 294 = .ok (.iastore, 1) := by decide +kernel
theorem dX6_both_295 : decode cX6_both 295 = .ok (.iinc 5 1, 3) := by decide +kernel
theorem dX6_both_298 : decode cX6_both 298 = .ok (.goto (-63), 3) := by decide +kernel
theorem dX6_both_301 : decode cX6_both 301 = .ok (.aload_n 0, 1) := by decide +kernel
theorem dX6_both_302 : decode cX6_both 302 = .ok (.dup, 1) := by decide +kernel
theorem dX6_both_303 : decode cX6_both 303 = .ok (.getfield 89, 3) := by decide +kernel
theorem dX6_both_306 : decode cX6_both 306 = .ok (.iconst 1, 1) := by decide +kernel
theorem dX6_both_307 : decode cX6_both 307 = .ok (.iadd, 1) := by decide +kernel
theorem dX6_both_308 : decode cX6_both 308 = .ok (.putfield 89, 3) := by decide +kernel
theorem dX6_both_311 : decode cX6_both 311 = .ok (.iload 4, 2) := by decide +kernel
theorem dX6_both_313 : decode cX6_both 313 = .ok (.ireturn, 1) := by decide +kernel
theorem dX6_rod_0 : decode cX6_rod 0 = .ok (.aload_n 0, 1) := by decide +kernel
theorem dX6_rod_1 : decode cX6_rod 1 = .ok (.iload_n 1, 1) := by decide +kernel
theorem dX6_rod_2 : decode cX6_rod 2 = .ok (.invokevirtual 129, 3) := by decide +kernel
theorem dX6_rod_5 : decode cX6_rod 5 = .ok (.ifCond .ne 5, 3) := by decide +kernel
theorem dX6_rod_8 : decode cX6_rod 8 = .ok (.iconst (-1), 1) := by decide +kernel
theorem dX6_rod_9 : decode cX6_rod 9 = .ok (.ireturn, 1) := by decide +kernel
theorem dX6_rod_10 : decode cX6_rod 10 = .ok (.iload_n 3, 1) := by decide +kernel
theorem dX6_rod_11 : decode cX6_rod 11 = .ok (.i2l, 1) := by decide +kernel
theorem dX6_rod_12 : decode cX6_rod 12 = .ok (.ldc2_w 133, 3) := by decide +kernel
theorem dX6_rod_15 : decode cX6_rod 15 = .ok (.aload_n 0, 1) := by decide +kernel
theorem dX6_rod_16 : decode cX6_rod 16 = .ok (.getfield 7, 3) := by decide +kernel
theorem dX6_rod_19 : decode cX6_rod 19 = .ok (.iload_n 1, 1) := by decide +kernel
theorem dX6_rod_20 : decode cX6_rod 20 = .ok (.iaload, 1) := by decide +kernel
theorem dX6_rod_21 : decode cX6_rod 21 = .ok (.iconst 2, 1) := by decide +kernel
theorem dX6_rod_22 : decode cX6_rod 22 = .ok (.if_icmp .ne 7, 3) := by decide +kernel
theorem dX6_rod_25 : decode cX6_rod 25 = .ok (.lconst 1, 1) := by decide +kernel
theorem dX6_rod_26 : decode cX6_rod 26 = .ok (.goto 6, 3) := by decide +kernel
theorem dX6_rod_29 : decode cX6_rod 29 = .ok (.ldc2_w 135, 3) := by decide +kernel
theorem dX6_rod_32 : decode cX6_rod 32 = .ok (.invokestatic 92, 3) := by decide +kernel
theorem dX6_rod_35 : decode cX6_rod 35 = .ok (.ifCond .ne 6, 3) := by decide +kernel
theorem dX6_rod_38 : decode cX6_rod 38 = .ok (.bipush (-2), 2) := by decide +kernel
theorem dX6_rod_40 : decode cX6_rod 40 = .ok (.ireturn, 1) := by decide +kernel
theorem dX6_rod_41 : decode cX6_rod 41 = .ok (.aload_n 0, 1) := by decide +kernel
theorem dX6_rod_42 : decode cX6_rod 42 = .ok (.getfield 7, 3) := by decide +kernel
theorem dX6_rod_45 : decode cX6_rod 45 = .ok (.iload_n 1, 1) := by decide +kernel
theorem dX6_rod_46 : decode cX6_rod 46 = .ok (.iaload, 1) := by decide +kernel
theorem dX6_rod_47 : decode cX6_rod 47 = .ok (.iconst 4, 1) := by decide +kernel
theorem dX6_rod_48 : decode cX6_rod 48 = .ok (.if_icmp .ne 9, 3) := by decide +kernel
theorem dX6_rod_51 : decode cX6_rod 51 = .ok (.aload_n 0, 1) := by decide +kernel
theorem dX6_rod_52 : decode cX6_rod 52 = .ok (.iconst 3, 1) := by decide +kernel
theorem dX6_rod_53 : decode cX6_rod 53 = .ok (.invokevirtual 102, 3) := by decide +kernel
theorem dX6_rod_56 : decode cX6_rod 56 = .ok (.ireturn, 1) := by decide +kernel
theorem dX6_rod_57 : decode cX6_rod 57 = .ok (.iload_n 2, 1) := by decide +kernel
theorem dX6_rod_58 : decode cX6_rod 58 = .ok (.i2l, 1) := by decide +kernel
theorem dX6_rod_59 : decode cX6_rod 59 = .ok (.lconst 0, 1) := by decide +kernel
theorem dX6_rod_60 : decode cX6_rod 60 = .ok (.aload_n 0, 1) := by decide +kernel
theorem dX6_rod_61 : decode cX6_rod 61 = .ok (.getfield 13, 3) := by decide +kernel
theorem dX6_rod_64 : decode cX6_rod 64 = .ok (.iload_n 1, 1) := by decide +kernel
theorem dX6_rod_65 : decode cX6_rod 65 = .ok (.iaload, 1) := by decide +kernel
theorem dX6_rod_66 : decode cX6_rod 66 = .ok (.iconst 1, 1) := by decide +kernel
theorem dX6_rod_67 : decode cX6_rod 67 = .ok (.isub, 1) := by decide +kernel
theorem dX6_rod_68 : decode cX6_rod 68 = .ok (.i2l, 1) := by decide +kernel
theorem dX6_rod_69 : decode cX6_rod 69 = .ok (.invokestatic 92, 3) := by decide +kernel
theorem dX6_rod_72 : decode cX6_rod 72 = .ok (.ifCond .ne 9, 3) := by decide +kernel
theorem dX6_rod_75 : decode cX6_rod 75 = .ok (.aload_n 0, 1) := by decide +kernel
theorem dX6_rod_76 : decode cX6_rod 76 = .ok (.iconst 2, 1) := by decide +kernel
theorem dX6_rod_77 : decode cX6_rod 77 = .ok (.invokevirtual 102, 3) := by decide +kernel
theorem dX6_rod_80 : decode cX6_rod 80 = .ok (.ireturn, 1) := by decide +kernel
theorem dX6_rod_81 : decode cX6_rod 81 = .ok (.aload_n 0, 1) := by decide +kernel
theorem dX6_rod_82 : decode cX6_rod 82 = .ok (.iload_n 1, 1) := by decide +kernel
theorem dX6_rod_83 : decode cX6_rod 83 = .ok (.iload_n 2, 1) := by decide +kernel
theorem dX6_rod_84 : decode cX6_rod 84 = .ok (.invokevirtual 108, 3) := by decide +kernel
theorem dX6_rod_87 : decode cX6_rod 87 = .ok (.istore 4, 2) := by decide +kernel
theorem dX6_rod_89 : decode cX6_rod 89 = .ok (.aload_n 0, 1) := by decide +kernel
theorem dX6_rod_90 : decode cX6_rod 90 = .ok (.getfield 34, 3) := by decide +kernel
theorem dX6_rod_93 : decode cX6_rod 93 = .ok (.iload 4, 2) := by decide +kernel
theorem dX6_rod_95 : decode cX6_rod 95 = .ok (.iload_n 3, 1) := by decide +kernel
theorem dX6_rod_96 : decode cX6_rod 96 = .ok (.iastore, 1) := by decide +kernel
theorem dX6_rod_97 : decode cX6_rod 97 = .ok (.aload_n 0, 1) := by decide +kernel
theorem dX6_rod_98 : decode cX6_rod 98 = .ok (.getfield 37, 3) := by decide +kernel
theorem dX6_rod_101 : decode cX6_rod 101 = .ok (.iload 4, 2) := by decide +kernel
theorem dX6_rod_103 : decode cX6_rod 103 = .ok (.iconst 0, 1) := by decide +kernel
theorem dX6_rod_104 : decode cX6_rod 104 = .ok (.iastore, 1) := by decide +kernel
theorem dX6_rod_105 : decode cX6_rod 105 = .ok (.aload_n 0, 1) := by decide +kernel
theorem dX6_rod_106 : decode cX6_rod 106 = .ok (.getfield 40, 3) := by decide +kernel
theorem dX6_rod_109 : decode cX6_rod 109 = .ok (.iload 4, 2) := by decide +kernel
theorem dX6_rod_111 : decode cX6_rod 111 = .ok (.iconst 0, 1) := by decide +kernel
theorem dX6_rod_112 : decode cX6_rod 112 = .ok (.iastore, 1) := by decide +kernel
theorem dX6_rod_113 : decode cX6_rod 113 = .ok (.aload_n 0, 1) := by decide +kernel
theorem dX6_rod_114 : decode cX6_rod 114 = .ok (.iconst 1, 1) := by decide +kernel
theorem dX6_rod_115 : decode cX6_rod 115 = .ok (.putfield 137, 3) := by decide +kernel
theorem dX6_rod_118 : decode cX6_rod 118 = .ok (.iconst 1, 1) := by decide +kernel
theorem dX6_rod_119 : decode cX6_rod 119 = .ok (.ireturn, 1) := by decide +kernel
theorem dX6_againstOne_0 : decode cX6_againstOne 0 = .ok (.iload_n 2, 1) := by decide +kernel
theorem dX6_againstOne_1 : decode cX6_againstOne 1 = .ok (.i2l, 1) := by decide +kernel
theorem dX6_againstOne_2 : decode cX6_againstOne 2 = .ok (.lconst 0, 1) := by decide +kernel
theorem dX6_againstOne_3 : decode cX6_againstOne 3 = .ok (.aload_n 0, 1) := by decide +kernel
theorem dX6_againstOne_4 : decode cX6_againstOne 4 = .ok (.getfield 13, 3) := by decide +kernel
theorem dX6_againstOne_7 : decode cX6_againstOne 7 = .ok (.iload_n 1, 1) := by decide +kernel
theorem dX6_againstOne_8 : decode cX6_againstOne 8 = .ok (.iaload, 1) := by decide +kernel
theorem dX6_againstOne_9 : decode cX6_againstOne 9 = .ok (.iconst 1, 1) := by decide +kernel
theorem dX6_againstOne_10 : decode cX6_againstOne 10 = .ok (.isub, 1) := by decide +kernel
theorem dX6_againstOne_11 : decode cX6_againstOne 11 = .ok (.i2l, 1) := by decide +kernel
theorem dX6_againstOne_12 : decode cX6_againstOne 12 = .ok (.invokestatic 92, 3) := by decide +kernel
theorem dX6_againstOne_15 : decode cX6_againstOne 15 = .ok (.ifCond .ne 5, 3) := by decide +kernel
theorem dX6_againstOne_18 : decode cX6_againstOne 18 = .ok (.iconst 2, 1) := by decide +kernel
theorem dX6_againstOne_19 : decode cX6_againstOne 19 = .ok (.ireturn, 1) := by decide +kernel
theorem dX6_againstOne_20 : decode cX6_againstOne 20 = .ok (.aload_n 0, 1) := by decide +kernel
theorem dX6_againstOne_21 : decode cX6_againstOne 21 = .ok (.getfield 34, 3) := by decide +kernel
theorem dX6_againstOne_24 : decode cX6_againstOne 24 = .ok (.aload_n 0, 1) := by decide +kernel
theorem dX6_againstOne_25 : decode cX6_againstOne 25 = .ok (.iload_n 1, 1) := by decide +kernel
theorem dX6_againstOne_26 : decode cX6_againstOne 26 = .ok (.iload_n 2, 1) := by decide +kernel
theorem dX6_againstOne_27 : decode cX6_againstOne 27 = .ok (.invokevirtual 108, 3) := by decide +kernel
theorem dX6_againstOne_30 : decode cX6_againstOne 30 = .ok (.iaload, 1) := by decide +kernel
theorem dX6_againstOne_31 : decode cX6_againstOne 31 = .ok (.istore 4, 2) := by decide +kernel
theorem dX6_againstOne_33 : decode cX6_againstOne 33 = .ok (.iload 4, 2) := by decide +kernel
theorem dX6_againstOne_35 : decode cX6_againstOne 35 = .ok (.ifCond .ge 7, 3) := by decide +kernel
theorem dX6_againstOne_38 : decode cX6_againstOne 38 = .ok (.iconst 1, 1) := by decide +kernel
theorem dX6_againstOne_39 : decode cX6_againstOne 39 = .ok (.goto 14, 3) := by decide +kernel
theorem dX6_againstOne_42 : decode cX6_againstOne 42 = .ok (.iload_n 3, 1) := by decide +kernel
theorem dX6_againstOne_43 : decode cX6_againstOne 43 = .ok (.iload 4, 2) := by decide +kernel
theorem dX6_againstOne_45 : decode cX6_againstOne 45 = .ok (.if_icmp .lt 7, 3) := by decide +kernel
theorem dX6_againstOne_48 : decode cX6_againstOne 48 = .ok (.iconst 2, 1) := by decide +kernel
theorem dX6_againstOne_49 : decode cX6_againstOne 49 = .ok (.goto 4, 3) := by decide +kernel
theorem dX6_againstOne_52 : decode cX6_againstOne 52 = .ok (.iconst 0, 1) := by decide +kernel
theorem dX6_againstOne_53 : decode cX6_againstOne 53 = .ok (.ireturn, 1) := by decide +kernel
theorem dX6_mostOf_0 : decode cX6_mostOf 0 = .ok (.iload_n 1, 1) := by decide +kernel
theorem dX6_mostOf_1 : decode cX6_mostOf 1 = .ok (.ifCond .ne 23, 3) := by decide +kernel
theorem dX6_mostOf_4 : decode cX6_mostOf 4 = .ok (.iload_n 0, 1) := by decide +kernel
theorem dX6_mostOf_5 : decode cX6_mostOf 5 = .ok (.ifCond .ne 7, 3) := by decide +kernel
theorem dX6_mostOf_8 : decode cX6_mostOf 8 = .ok (.iconst 4, 1) := by decide +kernel
theorem dX6_mostOf_9 : decode cX6_mostOf 9 = .ok (.goto 14, 3) := by decide +kernel
theorem dX6_mostOf_12 : decode cX6_mostOf 12 = .ok (.iload_n 0, 1) := by decide +kernel
theorem dX6_mostOf_13 : decode cX6_mostOf 13 = .ok (.iconst 2, 1) := by decide +kernel
theorem dX6_mostOf_14 : decode cX6_mostOf 14 = .ok (.if_icmp .ne 8, 3) := by decide +kernel
theorem dX6_mostOf_17 : decode cX6_mostOf 17 = .ok (.bipush 10, 2) := by decide +kernel
theorem dX6_mostOf_19 : decode cX6_mostOf 19 = .ok (.goto 4, 3) := by decide +kernel
theorem dX6_mostOf_22 : decode cX6_mostOf 22 = .ok (.iconst 5, 1) := by decide +kernel
theorem dX6_mostOf_23 : decode cX6_mostOf 23 = .ok (.ireturn, 1) := by decide +kernel
theorem dX6_mostOf_24 : decode cX6_mostOf 24 = .ok (.iload_n 0, 1) := by decide +kernel
theorem dX6_mostOf_25 : decode cX6_mostOf 25 = .ok (.ifCond .ne 7, 3) := by decide +kernel
theorem dX6_mostOf_28 : decode cX6_mostOf 28 = .ok (.iconst 1, 1) := by decide +kernel
theorem dX6_mostOf_29 : decode cX6_mostOf 29 = .ok (.goto 4, 3) := by decide +kernel
theorem dX6_mostOf_32 : decode cX6_mostOf 32 = .ok (.iconst 2, 1) := by decide +kernel
theorem dX6_mostOf_33 : decode cX6_mostOf 33 = .ok (.ireturn, 1) := by decide +kernel
theorem dX6_push_0 : decode cX6_push 0 = .ok (.aload_n 0, 1) := by decide +kernel
theorem dX6_push_1 : decode cX6_push 1 = .ok (.iload_n 1, 1) := by decide +kernel
theorem dX6_push_2 : decode cX6_push 2 = .ok (.invokevirtual 129, 3) := by decide +kernel
theorem dX6_push_5 : decode cX6_push 5 = .ok (.ifCond .ne 5, 3) := by decide +kernel
theorem dX6_push_8 : decode cX6_push 8 = .ok (.iconst (-1), 1) := by decide +kernel
theorem dX6_push_9 : decode cX6_push 9 = .ok (.ireturn, 1) := by decide +kernel
theorem dX6_push_10 : decode cX6_push 10 = .ok (.iload_n 3, 1) := by decide +kernel
theorem dX6_push_11 : decode cX6_push 11 = .ok (.i2l, 1) := by decide +kernel
theorem dX6_push_12 : decode cX6_push 12 = .ok (.lconst 0, 1) := by decide +kernel
theorem dX6_push_13 : decode cX6_push 13 = .ok (.lconst 1, 1) := by decide +kernel
theorem dX6_push_14 : decode cX6_push 14 = .ok (.invokestatic 92, 3) := by decide +kernel
theorem dX6_push_17 : decode cX6_push 17 = .ok (.ifCond .ne 6, 3) := by decide +kernel
theorem dX6_push_20 : decode cX6_push 20 = .ok (.bipush (-2), 2) := by decide +kernel
theorem dX6_push_22 : decode cX6_push 22 = .ok (.ireturn, 1) := by decide +kernel
theorem dX6_push_23 : decode cX6_push 23 = .ok (.aload_n 0, 1) := by decide +kernel
theorem dX6_push_24 : decode cX6_push 24 = .ok (.iload_n 1, 1) := by decide +kernel
theorem dX6_push_25 : decode cX6_push 25 = .ok (.iload_n 2, 1) := by decide +kernel
theorem dX6_push_26 : decode cX6_push 26 = .ok (.iload_n 3, 1) := by decide +kernel
theorem dX6_push_27 : decode cX6_push 27 = .ok (.invokevirtual 141, 3) := by decide +kernel
theorem dX6_push_30 : decode cX6_push 30 = .ok (.istore 5, 2) := by decide +kernel
theorem dX6_push_32 : decode cX6_push 32 = .ok (.iload 5, 2) := by decide +kernel
theorem dX6_push_34 : decode cX6_push 34 = .ok (.ifCond .le 10, 3) := by decide +kernel
theorem dX6_push_37 : decode cX6_push 37 = .ok (.aload_n 0, 1) := by decide +kernel
theorem dX6_push_38 : decode cX6_push 38 = .ok (.iload 5, 2) := by decide +kernel
theorem dX6_push_40 : decode cX6_push 40 = .ok (.invokevirtual 102, 3) := by decide +kernel
theorem dX6_push_43 : decode cX6_push 43 = .ok (.ireturn, 1) := by decide +kernel
theorem dX6_push_44 : decode cX6_push 44 = .ok (.aload_n 0, 1) := by decide +kernel
theorem dX6_push_45 : decode cX6_push 45 = .ok (.iload_n 1, 1) := by decide +kernel
theorem dX6_push_46 : decode cX6_push 46 = .ok (.iload_n 2, 1) := by decide +kernel
theorem dX6_push_47 : decode cX6_push 47 = .ok (.invokevirtual 108, 3) := by decide +kernel
theorem dX6_push_50 : decode cX6_push 50 = .ok (.istore 6, 2) := by decide +kernel
theorem dX6_push_52 : decode cX6_push 52 = .ok (.iload 4, 2) := by decide +kernel
theorem dX6_push_54 : decode cX6_push 54 = .ok (.i2l, 1) := by decide +kernel
theorem dX6_push_55 : decode cX6_push 55 = .ok (.iload_n 3, 1) := by decide +kernel
theorem dX6_push_56 : decode cX6_push 56 = .ok (.ifCond .ne 13, 3) := by decide +kernel
theorem dX6_push_59 : decode cX6_push 59 = .ok (.aload_n 0, 1) := by decide +kernel
theorem dX6_push_60 : decode cX6_push 60 = .ok (.getfield 37, 3) := by decide +kernel
theorem dX6_push_63 : decode cX6_push 63 = .ok (.iload 6, 2) := by decide +kernel
theorem dX6_push_65 : decode cX6_push 65 = .ok (.iaload, 1) := by decide +kernel
theorem dX6_push_66 : decode cX6_push 66 = .ok (.goto 10, 3) := by decide +kernel
theorem dX6_push_69 : decode cX6_push 69 = .ok (.aload_n 0, 1) := by decide +kernel
theorem dX6_push_70 : decode cX6_push 70 = .ok (.getfield 40, 3) := by decide +kernel
theorem dX6_push_73 : decode cX6_push 73 = .ok (.iload 6, 2) := by decide +kernel
theorem dX6_push_75 : decode cX6_push 75 = .ok (.iaload, 1) := by decide +kernel
theorem dX6_push_76 : decode cX6_push 76 = .ok (.i2l, 1) := by decide +kernel
theorem dX6_push_77 : decode cX6_push 77 = .ok (.ladd, 1) := by decide +kernel
theorem dX6_push_78 : decode cX6_push 78 = .ok (.lstore 7, 2) := by decide +kernel
theorem dX6_push_80 : decode cX6_push 80 = .ok (.lload 7, 2) := by decide +kernel
theorem dX6_push_82 : decode cX6_push 82 = .ok (.lconst 0, 1) := by decide +kernel
theorem dX6_push_83 : decode cX6_push 83 = .ok (.aload_n 0, 1) := by decide +kernel
theorem dX6_push_84 : decode cX6_push 84 = .ok (.iload 6, 2) := by decide +kernel
theorem dX6_push_86 : decode cX6_push 86 = .ok (.invokevirtual 112, 3) := by decide +kernel
theorem dX6_push_89 : decode cX6_push 89 = .ok (.iload_n 3, 1) := by decide +kernel
theorem dX6_push_90 : decode cX6_push 90 = .ok (.invokestatic 145, 3) := by decide +kernel
theorem dX6_push_93 : decode cX6_push 93 = .ok (.i2l, 1) := by decide +kernel
theorem dX6_push_94 : decode cX6_push 94 = .ok (.invokestatic 92, 3) := by decide +kernel
theorem dX6_push_97 : decode cX6_push 97 = .ok (.ifCond .ne 6, 3) := by decide +kernel
theorem dX6_push_100 : decode cX6_push 100 = .ok (.bipush (-3), 2) := by decide +kernel
theorem dX6_push_102 : decode cX6_push 102 = .ok (.ireturn, 1) := by decide +kernel
theorem dX6_push_103 : decode cX6_push 103 = .ok (.iload_n 3, 1) := by decide +kernel
theorem dX6_push_104 : decode cX6_push 104 = .ok (.ifCond .ne 16, 3) := by decide +kernel
theorem dX6_push_107 : decode cX6_push 107 = .ok (.aload_n 0, 1) := by decide +kernel
theorem dX6_push_108 : decode cX6_push 108 = .ok (.getfield 37, 3) := by decide +kernel
theorem dX6_push_111 : decode cX6_push 111 = .ok (.iload 6, 2) := by decide +kernel
theorem dX6_push_113 : decode cX6_push 113 = .ok (.lload 7, 2) := by decide +kernel
theorem dX6_push_115 : decode cX6_push 115 = .ok (.l2i, 1) := by decide +kernel
theorem dX6_push_116 : decode cX6_push 116 = .ok (.iastore, 1) := by decide +kernel
theorem dX6_push_117 : decode cX6_push 117 = .ok (.goto 13, 3) := by decide +kernel
theorem dX6_push_120 : decode cX6_push 120 = .ok (.aload_n 0, 1) := by decide +kernel
theorem dX6_push_121 : decode cX6_push 121 = .ok (.getfield 40, 3) := by decide +kernel
theorem dX6_push_124 : decode cX6_push 124 = .ok (.iload 6, 2) := by decide +kernel
theorem dX6_push_126 : decode cX6_push 126 = .ok (.lload 7, 2) := by decide +kernel
theorem dX6_push_128 : decode cX6_push 128 = .ok (.l2i, 1) := by decide +kernel
theorem dX6_push_129 : decode cX6_push 129 = .ok (.iastore, 1) := by decide +kernel
theorem dX6_push_130 : decode cX6_push 130 = .ok (.aload_n 0, 1) := by decide +kernel
theorem dX6_push_131 : decode cX6_push 131 = .ok (.iconst 1, 1) := by decide +kernel
theorem dX6_push_132 : decode cX6_push 132 = .ok (.putfield 137, 3) := by decide +kernel
theorem dX6_push_135 : decode cX6_push 135 = .ok (.lload 7, 2) := by decide +kernel
theorem dX6_push_137 : decode cX6_push 137 = .ok (.l2i, 1) := by decide +kernel
theorem dX6_push_138 : decode cX6_push 138 = .ok (.ireturn, 1) := by decide +kernel
theorem dX6_beads_0 : decode cX6_beads 0 = .ok (.aload_n 0, 1) := by decide +kernel
theorem dX6_beads_1 : decode cX6_beads 1 = .ok (.iload_n 1, 1) := by decide +kernel
theorem dX6_beads_2 : decode cX6_beads 2 = .ok (.invokevirtual 129, 3) := by decide +kernel
theorem dX6_beads_5 : decode cX6_beads 5 = .ok (.ifCond .ne 5, 3) := by decide +kernel
theorem dX6_beads_8 : decode cX6_beads 8 = .ok (.iconst (-1), 1) := by decide +kernel
theorem dX6_beads_9 : decode cX6_beads 9 = .ok (.ireturn, 1) := by decide +kernel
theorem dX6_beads_10 : decode cX6_beads 10 = .ok (.iload_n 3, 1) := by decide +kernel
theorem dX6_beads_11 : decode cX6_beads 11 = .ok (.i2l, 1) := by decide +kernel
theorem dX6_beads_12 : decode cX6_beads 12 = .ok (.lconst 0, 1) := by decide +kernel
theorem dX6_beads_13 : decode cX6_beads 13 = .ok (.lconst 1, 1) := by decide +kernel
theorem dX6_beads_14 : decode cX6_beads 14 = .ok (.invokestatic 92, 3) := by decide +kernel
theorem dX6_beads_17 : decode cX6_beads 17 = .ok (.ifCond .ne 6, 3) := by decide +kernel
theorem dX6_beads_20 : decode cX6_beads 20 = .ok (.bipush (-2), 2) := by decide +kernel
theorem dX6_beads_22 : decode cX6_beads 22 = .ok (.ireturn, 1) := by decide +kernel
theorem dX6_beads_23 : decode cX6_beads 23 = .ok (.aload_n 0, 1) := by decide +kernel
theorem dX6_beads_24 : decode cX6_beads 24 = .ok (.iload_n 1, 1) := by decide +kernel
theorem dX6_beads_25 : decode cX6_beads 25 = .ok (.iload_n 2, 1) := by decide +kernel
theorem dX6_beads_26 : decode cX6_beads 26 = .ok (.iload_n 3, 1) := by decide +kernel
theorem dX6_beads_27 : decode cX6_beads 27 = .ok (.invokevirtual 141, 3) := by decide +kernel
theorem dX6_beads_30 : decode cX6_beads 30 = .ok (.istore 4, 2) := by decide +kernel
theorem dX6_beads_32 : decode cX6_beads 32 = .ok (.iload 4, 2) := by decide +kernel
theorem dX6_beads_34 : decode cX6_beads 34 = .ok (.ifCond .le 12, 3) := by decide +kernel
theorem dX6_beads_37 : decode cX6_beads 37 = .ok (.aload_n 0, 1) := by decide +kernel
theorem dX6_beads_38 : decode cX6_beads 38 = .ok (.iload 4, 2) := by decide +kernel
theorem dX6_beads_40 : decode cX6_beads 40 = .ok (.invokevirtual 102, 3) := by decide +kernel
theorem dX6_beads_43 : decode cX6_beads 43 = .ok (.goto 32, 3) := by decide +kernel
theorem dX6_beads_46 : decode cX6_beads 46 = .ok (.iload_n 3, 1) := by decide +kernel
theorem dX6_beads_47 : decode cX6_beads 47 = .ok (.ifCond .ne 17, 3) := by decide +kernel
theorem dX6_beads_50 : decode cX6_beads 50 = .ok (.aload_n 0, 1) := by decide +kernel
theorem dX6_beads_51 : decode cX6_beads 51 = .ok (.getfield 37, 3) := by decide +kernel
theorem dX6_beads_54 : decode cX6_beads 54 = .ok (.aload_n 0, 1) := by decide +kernel
theorem dX6_beads_55 : decode cX6_beads 55 = .ok (.iload_n 1, 1) := by decide +kernel
theorem dX6_beads_56 : decode cX6_beads 56 = .ok (.iload_n 2, 1) := by decide +kernel
theorem dX6_beads_57 : decode cX6_beads 57 = .ok (.invokevirtual 108, 3) := by decide +kernel
theorem dX6_beads_60 : decode cX6_beads 60 = .ok (.iaload, 1) := by decide +kernel
theorem dX6_beads_61 : decode cX6_beads 61 = .ok (.goto 14, 3) := by decide +kernel
theorem dX6_beads_64 : decode cX6_beads 64 = .ok (.aload_n 0, 1) := by decide +kernel
theorem dX6_beads_65 : decode cX6_beads 65 = .ok (.getfield 40, 3) := by decide +kernel
theorem dX6_beads_68 : decode cX6_beads 68 = .ok (.aload_n 0, 1) := by decide +kernel
theorem dX6_beads_69 : decode cX6_beads 69 = .ok (.iload_n 1, 1) := by decide +kernel
theorem dX6_beads_70 : decode cX6_beads 70 = .ok (.iload_n 2, 1) := by decide +kernel
theorem dX6_beads_71 : decode cX6_beads 71 = .ok (.invokevirtual 108, 3) := by decide +kernel
theorem dX6_beads_74 : decode cX6_beads 74 = .ok (.iaload, 1) := by decide +kernel
theorem dX6_beads_75 : decode cX6_beads 75 = .ok (.ireturn, 1) := by decide +kernel
theorem dX6_digit_0 : decode cX6_digit 0 = .ok (.aload_n 0, 1) := by decide +kernel
theorem dX6_digit_1 : decode cX6_digit 1 = .ok (.iload_n 1, 1) := by decide +kernel
theorem dX6_digit_2 : decode cX6_digit 2 = .ok (.invokevirtual 129, 3) := by decide +kernel
theorem dX6_digit_5 : decode cX6_digit 5 = .ok (.ifCond .ne 5, 3) := by decide +kernel
theorem dX6_digit_8 : decode cX6_digit 8 = .ok (.iconst (-1), 1) := by decide +kernel
theorem dX6_digit_9 : decode cX6_digit 9 = .ok (.ireturn, 1) := by decide +kernel
theorem dX6_digit_10 : decode cX6_digit 10 = .ok (.aload_n 0, 1) := by decide +kernel
theorem dX6_digit_11 : decode cX6_digit 11 = .ok (.iload_n 1, 1) := by decide +kernel
theorem dX6_digit_12 : decode cX6_digit 12 = .ok (.iload_n 2, 1) := by decide +kernel
theorem dX6_digit_13 : decode cX6_digit 13 = .ok (.invokevirtual 118, 3) := by decide +kernel
theorem dX6_digit_16 : decode cX6_digit 16 = .ok (.istore_n 3, 1) := by decide +kernel
theorem dX6_digit_17 : decode cX6_digit 17 = .ok (.iload_n 3, 1) := by decide +kernel
theorem dX6_digit_18 : decode cX6_digit 18 = .ok (.ifCond .le 11, 3) := by decide +kernel
theorem dX6_digit_21 : decode cX6_digit 21 = .ok (.aload_n 0, 1) := by decide +kernel
theorem dX6_digit_22 : decode cX6_digit 22 = .ok (.iload_n 3, 1) := by decide +kernel
theorem dX6_digit_23 : decode cX6_digit 23 = .ok (.invokevirtual 102, 3) := by decide +kernel
theorem dX6_digit_26 : decode cX6_digit 26 = .ok (.goto 13, 3) := by decide +kernel
theorem dX6_digit_29 : decode cX6_digit 29 = .ok (.aload_n 0, 1) := by decide +kernel
theorem dX6_digit_30 : decode cX6_digit 30 = .ok (.aload_n 0, 1) := by decide +kernel
theorem dX6_digit_31 : decode cX6_digit 31 = .ok (.iload_n 1, 1) := by decide +kernel
theorem dX6_digit_32 : decode cX6_digit 32 = .ok (.iload_n 2, 1) := by decide +kernel
theorem dX6_digit_33 : decode cX6_digit 33 = .ok (.invokevirtual 108, 3) := by decide +kernel
theorem dX6_digit_36 : decode cX6_digit 36 = .ok (.invokevirtual 121, 3) := by decide +kernel
theorem dX6_digit_39 : decode cX6_digit 39 = .ok (.ireturn, 1) := by decide +kernel
theorem dX6_shows_0 : decode cX6_shows 0 = .ok (.aload_n 0, 1) := by decide +kernel
theorem dX6_shows_1 : decode cX6_shows 1 = .ok (.iload_n 1, 1) := by decide +kernel
theorem dX6_shows_2 : decode cX6_shows 2 = .ok (.invokevirtual 129, 3) := by decide +kernel
theorem dX6_shows_5 : decode cX6_shows 5 = .ok (.ifCond .ne 7, 3) := by decide +kernel
theorem dX6_shows_8 : decode cX6_shows 8 = .ok (.ldc2_w 106, 3) := by decide +kernel
theorem dX6_shows_11 : decode cX6_shows 11 = .ok (.lreturn, 1) := by decide +kernel
theorem dX6_shows_12 : decode cX6_shows 12 = .ok (.aload_n 0, 1) := by decide +kernel
theorem dX6_shows_13 : decode cX6_shows 13 = .ok (.iload_n 1, 1) := by decide +kernel
theorem dX6_shows_14 : decode cX6_shows 14 = .ok (.invokevirtual 148, 3) := by decide +kernel
theorem dX6_shows_17 : decode cX6_shows 17 = .ok (.lstore_n 2, 1) := by decide +kernel
theorem dX6_shows_18 : decode cX6_shows 18 = .ok (.aload_n 0, 1) := by decide +kernel
theorem dX6_shows_19 : decode cX6_shows 19 = .ok (.getfield 124, 3) := by decide +kernel
theorem dX6_shows_22 : decode cX6_shows 22 = .ok (.ifCond .le 14, 3) := by decide +kernel
theorem dX6_shows_25 : decode cX6_shows 25 = .ok (.aload_n 0, 1) := by decide +kernel
theorem dX6_shows_26 : decode cX6_shows 26 = .ok (.aload_n 0, 1) := by decide +kernel
theorem dX6_shows_27 : decode cX6_shows 27 = .ok (.getfield 124, 3) := by decide +kernel
theorem dX6_shows_30 : decode cX6_shows 30 = .ok (.invokevirtual 152, 3) := by decide +kernel
theorem dX6_shows_33 : decode cX6_shows 33 = .ok (.goto 4, 3) := by decide +kernel
theorem dX6_shows_36 : decode cX6_shows 36 = .ok (.lload_n 2, 1) := by decide +kernel
theorem dX6_shows_37 : decode cX6_shows 37 = .ok (.lreturn, 1) := by decide +kernel
theorem dX6_set_0 : decode cX6_set 0 = .ok (.aload_n 0, 1) := by decide +kernel
theorem dX6_set_1 : decode cX6_set 1 = .ok (.iload_n 1, 1) := by decide +kernel
theorem dX6_set_2 : decode cX6_set 2 = .ok (.invokevirtual 129, 3) := by decide +kernel
theorem dX6_set_5 : decode cX6_set 5 = .ok (.ifCond .ne 5, 3) := by decide +kernel
theorem dX6_set_8 : decode cX6_set 8 = .ok (.iconst (-1), 1) := by decide +kernel
theorem dX6_set_9 : decode cX6_set 9 = .ok (.ireturn, 1) := by decide +kernel
theorem dX6_set_10 : decode cX6_set 10 = .ok (.lload_n 2, 1) := by decide +kernel
theorem dX6_set_11 : decode cX6_set 11 = .ok (.lconst 0, 1) := by decide +kernel
theorem dX6_set_12 : decode cX6_set 12 = .ok (.lcmp, 1) := by decide +kernel
theorem dX6_set_13 : decode cX6_set 13 = .ok (.ifCond .ge 6, 3) := by decide +kernel
theorem dX6_set_16 : decode cX6_set 16 = .ok (.bipush (-2), 2) := by decide +kernel
theorem dX6_set_18 : decode cX6_set 18 = .ok (.ireturn, 1) := by decide +kernel
theorem dX6_set_19 : decode cX6_set 19 = .ok (.lload_n 2, 1) := by decide +kernel
theorem dX6_set_20 : decode cX6_set 20 = .ok (.aload_n 0, 1) := by decide +kernel
theorem dX6_set_21 : decode cX6_set 21 = .ok (.getfield 16, 3) := by decide +kernel
theorem dX6_set_24 : decode cX6_set 24 = .ok (.iload_n 1, 1) := by decide +kernel
theorem dX6_set_25 : decode cX6_set 25 = .ok (.iaload, 1) := by decide +kernel
theorem dX6_set_26 : decode cX6_set 26 = .ok (.invokestatic 155, 3) := by decide +kernel
theorem dX6_set_29 : decode cX6_set 29 = .ok (.aload_n 0, 1) := by decide +kernel
theorem dX6_set_30 : decode cX6_set 30 = .ok (.getfield 13, 3) := by decide +kernel
theorem dX6_set_33 : decode cX6_set 33 = .ok (.iload_n 1, 1) := by decide +kernel
theorem dX6_set_34 : decode cX6_set 34 = .ok (.iaload, 1) := by decide +kernel
theorem dX6_set_35 : decode cX6_set 35 = .ok (.if_icmp .le 6, 3) := by decide +kernel
theorem dX6_set_38 : decode cX6_set 38 = .ok (.bipush (-3), 2) := by decide +kernel
theorem dX6_set_40 : decode cX6_set 40 = .ok (.ireturn, 1) := by decide +kernel
theorem dX6_set_41 : decode cX6_set 41 = .ok (.aload_n 0, 1) := by decide +kernel
theorem dX6_set_42 : decode cX6_set 42 = .ok (.iload_n 1, 1) := by decide +kernel
theorem dX6_set_43 : decode cX6_set 43 = .ok (.invokevirtual 148, 3) := by decide +kernel
theorem dX6_set_46 : decode cX6_set 46 = .ok (.lstore 4, 2) := by decide +kernel
theorem dX6_set_48 : decode cX6_set 48 = .ok (.aload_n 0, 1) := by decide +kernel
theorem dX6_set_49 : decode cX6_set 49 = .ok (.getfield 124, 3) := by decide +kernel
theorem dX6_set_52 : decode cX6_set 52 = .ok (.ifCond .le 12, 3) := by decide +kernel
theorem dX6_set_55 : decode cX6_set 55 = .ok (.aload_n 0, 1) := by decide +kernel
theorem dX6_set_56 : decode cX6_set 56 = .ok (.aload_n 0, 1) := by decide +kernel
theorem dX6_set_57 : decode cX6_set 57 = .ok (.getfield 124, 3) := by decide +kernel
theorem dX6_set_60 : decode cX6_set 60 = .ok (.invokevirtual 102, 3) := by decide +kernel
theorem dX6_set_63 : decode cX6_set 63 = .ok (.ireturn, 1) := by decide +kernel
theorem dX6_set_64 : decode cX6_set 64 = .ok (.lload_n 2, 1) := by decide +kernel
theorem dX6_set_65 : decode cX6_set 65 = .ok (.lstore 6, 2) := by decide +kernel
theorem dX6_set_67 : decode cX6_set 67 = .ok (.iconst 0, 1) := by decide +kernel
theorem dX6_set_68 : decode cX6_set 68 = .ok (.istore 8, 2) := by decide +kernel
theorem dX6_set_70 : decode cX6_set 70 = .ok (.iload 8, 2) := by decide +kernel
theorem dX6_set_72 : decode cX6_set 72 = .ok (.aload_n 0, 1) := by decide +kernel
theorem dX6_set_73 : decode cX6_set 73 = .ok (.getfield 13, 3) := by decide +kernel
theorem dX6_set_76 : decode cX6_set 76 = .ok (.iload_n 1, 1) := by decide +kernel
theorem dX6_set_77 : decode cX6_set 77 = .ok (.iaload, 1) := by decide +kernel
theorem dX6_set_78 : decode cX6_set 78 = .ok (.if_icmp .ge 43, 3) := by decide +kernel
theorem dX6_set_81 : decode cX6_set 81 = .ok (.aload_n 0, 1) := by decide +kernel
theorem dX6_set_82 : decode cX6_set 82 = .ok (.aload_n 0, 1) := by decide +kernel
theorem dX6_set_83 : decode cX6_set 83 = .ok (.iload_n 1, 1) := by decide +kernel
theorem dX6_set_84 : decode cX6_set 84 = .ok (.iload 8, 2) := by decide +kernel
theorem dX6_set_86 : decode cX6_set 86 = .ok (.invokevirtual 108, 3) := by decide +kernel
theorem dX6_set_89 : decode cX6_set 89 = .ok (.lload 6, 2) := by decide +kernel
theorem dX6_set_91 : decode cX6_set 91 = .ok (.aload_n 0, 1) := by decide +kernel
theorem dX6_set_92 : decode cX6_set 92 = .ok (.getfield 16, 3) := by decide +kernel
theorem dX6_set_95 : decode cX6_set 95 = .ok (.iload_n 1, 1) := by decide +kernel
theorem dX6_set_96 : decode cX6_set 96 = .ok (.iaload, 1) := by decide +kernel
theorem dX6_set_97 : decode cX6_set 97 = .ok (.i2l, 1) := by decide +kernel
theorem dX6_set_98 : decode cX6_set 98 = .ok (.lrem, 1) := by decide +kernel
theorem dX6_set_99 : decode cX6_set 99 = .ok (.l2i, 1) := by decide +kernel
theorem dX6_set_100 : decode cX6_set 100 = .ok (.invokevirtual 159, 3) := by decide +kernel
theorem dX6_set_103 : decode cX6_set 103 = .ok (.lload 6, 2) := by decide +kernel
theorem dX6_set_105 : decode cX6_set 105 = .ok (.aload_n 0, 1) := by decide +kernel
theorem dX6_set_106 : decode cX6_set 106 = .ok (.getfield 16, 3) := by decide +kernel
theorem dX6_set_109 : decode cX6_set 109 = .ok (.iload_n 1, 1) := by decide +kernel
theorem dX6_set_110 : decode cX6_set 110 = .ok (.iaload, 1) := by decide +kernel
theorem dX6_set_111 : decode cX6_set 111 = .ok (.i2l, 1) := by decide +kernel
theorem dX6_set_112 : decode cX6_set 112 = .ok (.ldiv, 1) := by decide +kernel
theorem dX6_set_113 : decode cX6_set 113 = .ok (.lstore 6, 2) := by decide +kernel
theorem dX6_set_115 : decode cX6_set 115 = .ok (.iinc 8 1, 3) := by decide +kernel
theorem dX6_set_118 : decode cX6_set 118 = .ok (.goto (-48), 3) := by decide +kernel
theorem dX6_set_121 : decode cX6_set 121 = .ok (.aload_n 0, 1) := by decide +kernel
theorem dX6_set_122 : decode cX6_set 122 = .ok (.iconst 1, 1) := by decide +kernel
theorem dX6_set_123 : decode cX6_set 123 = .ok (.putfield 137, 3) := by decide +kernel
theorem dX6_set_126 : decode cX6_set 126 = .ok (.iconst 1, 1) := by decide +kernel
theorem dX6_set_127 : decode cX6_set 127 = .ok (.ireturn, 1) := by decide +kernel
theorem dX6_proper_0 : decode cX6_proper 0 = .ok (.aload_n 0, 1) := by decide +kernel
theorem dX6_proper_1 : decode cX6_proper 1 = .ok (.iload_n 1, 1) := by decide +kernel
theorem dX6_proper_2 : decode cX6_proper 2 = .ok (.invokevirtual 129, 3) := by decide +kernel
theorem dX6_proper_5 : decode cX6_proper 5 = .ok (.ifCond .ne 7, 3) := by decide +kernel
theorem dX6_proper_8 : decode cX6_proper 8 = .ok (.iconst (-1), 1) := by decide +kernel
theorem dX6_proper_9 : decode cX6_proper 9 = .ok (.goto 16, 3) := by decide +kernel
theorem dX6_proper_12 : decode cX6_proper 12 = .ok (.aload_n 0, 1) := by decide +kernel
theorem dX6_proper_13 : decode cX6_proper 13 = .ok (.iload_n 1, 1) := by decide +kernel
theorem dX6_proper_14 : decode cX6_proper 14 = .ok (.invokevirtual 163, 3) := by decide +kernel
theorem dX6_proper_17 : decode cX6_proper 17 = .ok (.ifCond .eq 7, 3) := by decide +kernel
theorem dX6_proper_20 : decode cX6_proper 20 = .ok (.iconst 1, 1) := by decide +kernel
theorem dX6_proper_21 : decode cX6_proper 21 = .ok (.goto 4, 3) := by decide +kernel
theorem dX6_proper_24 : decode cX6_proper 24 = .ok (.iconst 0, 1) := by decide +kernel
theorem dX6_proper_25 : decode cX6_proper 25 = .ok (.ireturn, 1) := by decide +kernel
theorem dX6_size_0 : decode cX6_size 0 = .ok (.aload_n 0, 1) := by decide +kernel
theorem dX6_size_1 : decode cX6_size 1 = .ok (.iload_n 1, 1) := by decide +kernel
theorem dX6_size_2 : decode cX6_size 2 = .ok (.invokevirtual 129, 3) := by decide +kernel
theorem dX6_size_5 : decode cX6_size 5 = .ok (.ifCond .ne 5, 3) := by decide +kernel
theorem dX6_size_8 : decode cX6_size 8 = .ok (.iconst (-1), 1) := by decide +kernel
theorem dX6_size_9 : decode cX6_size 9 = .ok (.ireturn, 1) := by decide +kernel
theorem dX6_size_10 : decode cX6_size 10 = .ok (.iconst 0, 1) := by decide +kernel
theorem dX6_size_11 : decode cX6_size 11 = .ok (.istore_n 3, 1) := by decide +kernel
theorem dX6_size_12 : decode cX6_size 12 = .ok (.iconst 0, 1) := by decide +kernel
theorem dX6_size_13 : decode cX6_size 13 = .ok (.istore 4, 2) := by decide +kernel
theorem dX6_size_15 : decode cX6_size 15 = .ok (.iload 4, 2) := by decide +kernel
theorem dX6_size_17 : decode cX6_size 17 = .ok (.aload_n 0, 1) := by decide +kernel
theorem dX6_size_18 : decode cX6_size 18 = .ok (.getfield 13, 3) := by decide +kernel
theorem dX6_size_21 : decode cX6_size 21 = .ok (.iload_n 1, 1) := by decide +kernel
theorem dX6_size_22 : decode cX6_size 22 = .ok (.iaload, 1) := by decide +kernel
theorem dX6_size_23 : decode cX6_size 23 = .ok (.if_icmp .ge 27, 3) := by decide +kernel
theorem dX6_size_26 : decode cX6_size 26 = .ok (.iload_n 3, 1) := by decide +kernel
theorem dX6_size_27 : decode cX6_size 27 = .ok (.aload_n 0, 1) := by decide +kernel
theorem dX6_size_28 : decode cX6_size 28 = .ok (.iload_n 1, 1) := by decide +kernel
theorem dX6_size_29 : decode cX6_size 29 = .ok (.iload 4, 2) := by decide +kernel
theorem dX6_size_31 : decode cX6_size 31 = .ok (.invokevirtual 118, 3) := by decide +kernel
theorem dX6_size_34 : decode cX6_size 34 = .ok (.ifCond .ne 7, 3) := by decide +kernel
theorem dX6_size_37 : decode cX6_size 37 = .ok (.iconst 1, 1) := by decide +kernel
theorem dX6_size_38 : decode cX6_size 38 = .ok (.goto 4, 3) := by decide +kernel
theorem dX6_size_41 : decode cX6_size 41 = .ok (.iconst 0, 1) := by decide +kernel
theorem dX6_size_42 : decode cX6_size 42 = .ok (.iadd, 1) := by decide +kernel
theorem dX6_size_43 : decode cX6_size 43 = .ok (.istore_n 3, 1) := by decide +kernel
theorem dX6_size_44 : decode cX6_size 44 = .ok (.iinc 4 1, 3) := by decide +kernel
theorem dX6_size_47 : decode cX6_size 47 = .ok (.goto (-32), 3) := by decide +kernel
theorem dX6_size_50 : decode cX6_size 50 = .ok (.iload_n 2, 1) := by decide +kernel
theorem dX6_size_51 : decode cX6_size 51 = .ok (.tableswitch 63 0 4 #[33, 40, 47, 54, 56], 33) := by decide +kernel
theorem dX6_size_84 : decode cX6_size 84 = .ok (.aload_n 0, 1) := by decide +kernel
theorem dX6_size_85 : decode cX6_size 85 = .ok (.getfield 13, 3) := by decide +kernel
theorem dX6_size_88 : decode cX6_size 88 = .ok (.iload_n 1, 1) := by decide +kernel
theorem dX6_size_89 : decode cX6_size 89 = .ok (.iaload, 1) := by decide +kernel
theorem dX6_size_90 : decode cX6_size 90 = .ok (.ireturn, 1) := by decide +kernel
theorem dX6_size_91 : decode cX6_size 91 = .ok (.aload_n 0, 1) := by decide +kernel
theorem dX6_size_92 : decode cX6_size 92 = .ok (.getfield 7, 3) := by decide +kernel
theorem dX6_size_95 : decode cX6_size 95 = .ok (.iload_n 1, 1) := by decide +kernel
theorem dX6_size_96 : decode cX6_size 96 = .ok (.iaload, 1) := by decide +kernel
theorem dX6_size_97 : decode cX6_size 97 = .ok (.ireturn, 1) := by decide +kernel
theorem dX6_size_98 : decode cX6_size 98 = .ok (.aload_n 0, 1) := by decide +kernel
theorem dX6_size_99 : decode cX6_size 99 = .ok (.getfield 16, 3) := by decide +kernel
theorem dX6_size_102 : decode cX6_size 102 = .ok (.iload_n 1, 1) := by decide +kernel
theorem dX6_size_103 : decode cX6_size 103 = .ok (.iaload, 1) := by decide +kernel
theorem dX6_size_104 : decode cX6_size 104 = .ok (.ireturn, 1) := by decide +kernel
theorem dX6_size_105 : decode cX6_size 105 = .ok (.iload_n 3, 1) := by decide +kernel
theorem dX6_size_106 : decode cX6_size 106 = .ok (.ireturn, 1) := by decide +kernel
theorem dX6_size_107 : decode cX6_size 107 = .ok (.aload_n 0, 1) := by decide +kernel
theorem dX6_size_108 : decode cX6_size 108 = .ok (.getfield 19, 3) := by decide +kernel
theorem dX6_size_111 : decode cX6_size 111 = .ok (.iload_n 1, 1) := by decide +kernel
theorem dX6_size_112 : decode cX6_size 112 = .ok (.iaload, 1) := by decide +kernel
theorem dX6_size_113 : decode cX6_size 113 = .ok (.ireturn, 1) := by decide +kernel
theorem dX6_size_114 : decode cX6_size 114 = .ok (.bipush (-2), 2) := by decide +kernel
theorem dX6_size_116 : decode cX6_size 116 = .ok (.ireturn, 1) := by decide +kernel
theorem dX6_meant_0 : decode cX6_meant 0 = .ok (.aload_n 0, 1) := by decide +kernel
theorem dX6_meant_1 : decode cX6_meant 1 = .ok (.iload_n 1, 1) := by decide +kernel
theorem dX6_meant_2 : decode cX6_meant 2 = .ok (.invokevirtual 129, 3) := by decide +kernel
theorem dX6_meant_5 : decode cX6_meant 5 = .ok (.ifCond .ne 5, 3) := by decide +kernel
theorem dX6_meant_8 : decode cX6_meant 8 = .ok (.iconst (-1), 1) := by decide +kernel
theorem dX6_meant_9 : decode cX6_meant 9 = .ok (.ireturn, 1) := by decide +kernel
theorem dX6_meant_10 : decode cX6_meant 10 = .ok (.iload_n 2, 1) := by decide +kernel
theorem dX6_meant_11 : decode cX6_meant 11 = .ok (.i2l, 1) := by decide +kernel
theorem dX6_meant_12 : decode cX6_meant 12 = .ok (.lconst 0, 1) := by decide +kernel
theorem dX6_meant_13 : decode cX6_meant 13 = .ok (.ldc2_w 166, 3) := by decide +kernel
theorem dX6_meant_16 : decode cX6_meant 16 = .ok (.invokestatic 92, 3) := by decide +kernel
theorem dX6_meant_19 : decode cX6_meant 19 = .ok (.ifCond .ne 6, 3) := by decide +kernel
theorem dX6_meant_22 : decode cX6_meant 22 = .ok (.bipush (-2), 2) := by decide +kernel
theorem dX6_meant_24 : decode cX6_meant 24 = .ok (.ireturn, 1) := by decide +kernel
theorem dX6_meant_25 : decode cX6_meant 25 = .ok (.aload_n 0, 1) := by decide +kernel
theorem dX6_meant_26 : decode cX6_meant 26 = .ok (.getfield 7, 3) := by decide +kernel
theorem dX6_meant_29 : decode cX6_meant 29 = .ok (.iload_n 1, 1) := by decide +kernel
theorem dX6_meant_30 : decode cX6_meant 30 = .ok (.iaload, 1) := by decide +kernel
theorem dX6_meant_31 : decode cX6_meant 31 = .ok (.istore_n 3, 1) := by decide +kernel
theorem dX6_meant_32 : decode cX6_meant 32 = .ok (.iload_n 3, 1) := by decide +kernel
theorem dX6_meant_33 : decode cX6_meant 33 = .ok (.iload_n 2, 1) := by decide +kernel
theorem dX6_meant_34 : decode cX6_meant 34 = .ok (.if_icmp .eq 26, 3) := by decide +kernel
theorem dX6_meant_37 : decode cX6_meant 37 = .ok (.iload_n 3, 1) := by decide +kernel
theorem dX6_meant_38 : decode cX6_meant 38 = .ok (.iconst 1, 1) := by decide +kernel
theorem dX6_meant_39 : decode cX6_meant 39 = .ok (.if_icmp .ne 7, 3) := by decide +kernel
theorem dX6_meant_42 : decode cX6_meant 42 = .ok (.iload_n 2, 1) := by decide +kernel
theorem dX6_meant_43 : decode cX6_meant 43 = .ok (.ifCond .eq 17, 3) := by decide +kernel
theorem dX6_meant_46 : decode cX6_meant 46 = .ok (.iload_n 3, 1) := by decide +kernel
theorem dX6_meant_47 : decode cX6_meant 47 = .ok (.iconst 3, 1) := by decide +kernel
theorem dX6_meant_48 : decode cX6_meant 48 = .ok (.if_icmp .ne 16, 3) := by decide +kernel
theorem dX6_meant_51 : decode cX6_meant 51 = .ok (.iload_n 2, 1) := by decide +kernel
theorem dX6_meant_52 : decode cX6_meant 52 = .ok (.iconst 1, 1) := by decide +kernel
theorem dX6_meant_53 : decode cX6_meant 53 = .ok (.if_icmp .eq 7, 3) := by decide +kernel
theorem dX6_meant_56 : decode cX6_meant 56 = .ok (.iload_n 2, 1) := by decide +kernel
theorem dX6_meant_57 : decode cX6_meant 57 = .ok (.ifCond .ne 7, 3) := by decide +kernel
theorem dX6_meant_60 : decode cX6_meant 60 = .ok (.iconst 1, 1) := by decide +kernel
theorem dX6_meant_61 : decode cX6_meant 61 = .ok (.goto 4, 3) := by decide +kernel
theorem dX6_meant_64 : decode cX6_meant 64 = .ok (.iconst 0, 1) := by decide +kernel
theorem dX6_meant_65 : decode cX6_meant 65 = .ok (.istore 4, 2) := by decide +kernel
theorem dX6_meant_67 : decode cX6_meant 67 = .ok (.iload 4, 2) := by decide +kernel
theorem dX6_meant_69 : decode cX6_meant 69 = .ok (.ifCond .eq 7, 3) := by decide +kernel
theorem dX6_meant_72 : decode cX6_meant 72 = .ok (.iconst 1, 1) := by decide +kernel
theorem dX6_meant_73 : decode cX6_meant 73 = .ok (.goto 8, 3) := by decide +kernel
theorem dX6_meant_76 : decode cX6_meant 76 = .ok (.aload_n 0, 1) := by decide +kernel
theorem dX6_meant_77 : decode cX6_meant 77 = .ok (.iconst 3, 1) := by decide +kernel
theorem dX6_meant_78 : decode cX6_meant 78 = .ok (.invokevirtual 102, 3) := by decide +kernel
theorem dX6_meant_81 : decode cX6_meant 81 = .ok (.ireturn, 1) := by decide +kernel
theorem dX6_body_0 : decode cX6_body 0 = .ok (.aload_n 0, 1) := by decide +kernel
theorem dX6_body_1 : decode cX6_body 1 = .ok (.bipush 31, 2) := by decide +kernel
theorem dX6_body_3 : decode cX6_body 3 = .ok (.aload_n 0, 1) := by decide +kernel
theorem dX6_body_4 : decode cX6_body 4 = .ok (.getfield 168, 3) := by decide +kernel
theorem dX6_body_7 : decode cX6_body 7 = .ok (.imul, 1) := by decide +kernel
theorem dX6_body_8 : decode cX6_body 8 = .ok (.iload_n 1, 1) := by decide +kernel
theorem dX6_body_9 : decode cX6_body 9 = .ok (.iadd, 1) := by decide +kernel
theorem dX6_body_10 : decode cX6_body 10 = .ok (.putfield 168, 3) := by decide +kernel
theorem dX6_body_13 : decode cX6_body 13 = .ok (.return_, 1) := by decide +kernel
theorem dX6_askedBase_0 : decode cX6_askedBase 0 = .ok (.iload_n 1, 1) := by decide +kernel
theorem dX6_askedBase_1 : decode cX6_askedBase 1 = .ok (.istore_n 2, 1) := by decide +kernel
theorem dX6_askedBase_2 : decode cX6_askedBase 2 = .ok (.aload_n 0, 1) := by decide +kernel
theorem dX6_askedBase_3 : decode cX6_askedBase 3 = .ok (.getfield 7, 3) := by decide +kernel
theorem dX6_askedBase_6 : decode cX6_askedBase 6 = .ok (.iload_n 2, 1) := by decide +kernel
theorem dX6_askedBase_7 : decode cX6_askedBase 7 = .ok (.iaload, 1) := by decide +kernel
theorem dX6_askedBase_8 : decode cX6_askedBase 8 = .ok (.iconst 4, 1) := by decide +kernel
theorem dX6_askedBase_9 : decode cX6_askedBase 9 = .ok (.if_icmp .ne 18, 3) := by decide +kernel
theorem dX6_askedBase_12 : decode cX6_askedBase 12 = .ok (.aload_n 0, 1) := by decide +kernel
theorem dX6_askedBase_13 : decode cX6_askedBase 13 = .ok (.iconst 3, 1) := by decide +kernel
theorem dX6_askedBase_14 : decode cX6_askedBase 14 = .ok (.invokevirtual 171, 3) := by decide +kernel
theorem dX6_askedBase_17 : decode cX6_askedBase 17 = .ok (.aload_n 0, 1) := by decide +kernel
theorem dX6_askedBase_18 : decode cX6_askedBase 18 = .ok (.getfield 22, 3) := by decide +kernel
theorem dX6_askedBase_21 : decode cX6_askedBase 21 = .ok (.iload_n 2, 1) := by decide +kernel
theorem dX6_askedBase_22 : decode cX6_askedBase 22 = .ok (.iaload, 1) := by decide +kernel
theorem dX6_askedBase_23 : decode cX6_askedBase 23 = .ok (.istore_n 2, 1) := by decide +kernel
theorem dX6_askedBase_24 : decode cX6_askedBase 24 = .ok (.goto (-22), 3) := by decide +kernel
theorem dX6_askedBase_27 : decode cX6_askedBase 27 = .ok (.aload_n 0, 1) := by decide +kernel
theorem dX6_askedBase_28 : decode cX6_askedBase 28 = .ok (.aload_n 0, 1) := by decide +kernel
theorem dX6_askedBase_29 : decode cX6_askedBase 29 = .ok (.getfield 7, 3) := by decide +kernel
theorem dX6_askedBase_32 : decode cX6_askedBase 32 = .ok (.iload_n 2, 1) := by decide +kernel
theorem dX6_askedBase_33 : decode cX6_askedBase 33 = .ok (.iaload, 1) := by decide +kernel
theorem dX6_askedBase_34 : decode cX6_askedBase 34 = .ok (.iconst 3, 1) := by decide +kernel
theorem dX6_askedBase_35 : decode cX6_askedBase 35 = .ok (.if_icmp .ne 7, 3) := by decide +kernel
theorem dX6_askedBase_38 : decode cX6_askedBase 38 = .ok (.iconst 2, 1) := by decide +kernel
theorem dX6_askedBase_39 : decode cX6_askedBase 39 = .ok (.goto 4, 3) := by decide +kernel
theorem dX6_askedBase_42 : decode cX6_askedBase 42 = .ok (.iconst 1, 1) := by decide +kernel
theorem dX6_askedBase_43 : decode cX6_askedBase 43 = .ok (.invokevirtual 171, 3) := by decide +kernel
theorem dX6_askedBase_46 : decode cX6_askedBase 46 = .ok (.aload_n 0, 1) := by decide +kernel
theorem dX6_askedBase_47 : decode cX6_askedBase 47 = .ok (.getfield 7, 3) := by decide +kernel
theorem dX6_askedBase_50 : decode cX6_askedBase 50 = .ok (.iload_n 2, 1) := by decide +kernel
theorem dX6_askedBase_51 : decode cX6_askedBase 51 = .ok (.iaload, 1) := by decide +kernel
theorem dX6_askedBase_52 : decode cX6_askedBase 52 = .ok (.iconst 3, 1) := by decide +kernel
theorem dX6_askedBase_53 : decode cX6_askedBase 53 = .ok (.if_icmp .ne 8, 3) := by decide +kernel
theorem dX6_askedBase_56 : decode cX6_askedBase 56 = .ok (.bipush 16, 2) := by decide +kernel
theorem dX6_askedBase_58 : decode cX6_askedBase 58 = .ok (.goto 5, 3) := by decide +kernel
theorem dX6_askedBase_61 : decode cX6_askedBase 61 = .ok (.bipush 10, 2) := by decide +kernel
theorem dX6_askedBase_63 : decode cX6_askedBase 63 = .ok (.ireturn, 1) := by decide +kernel
theorem dX6_askedBeads_0 : decode cX6_askedBeads 0 = .ok (.aload_n 0, 1) := by decide +kernel
theorem dX6_askedBeads_1 : decode cX6_askedBeads 1 = .ok (.getfield 7, 3) := by decide +kernel
theorem dX6_askedBeads_4 : decode cX6_askedBeads 4 = .ok (.iload_n 1, 1) := by decide +kernel
theorem dX6_askedBeads_5 : decode cX6_askedBeads 5 = .ok (.iaload, 1) := by decide +kernel
theorem dX6_askedBeads_6 : decode cX6_askedBeads 6 = .ok (.iconst 2, 1) := by decide +kernel
theorem dX6_askedBeads_7 : decode cX6_askedBeads 7 = .ok (.if_icmp .ne 12, 3) := by decide +kernel
theorem dX6_askedBeads_10 : decode cX6_askedBeads 10 = .ok (.aload_n 0, 1) := by decide +kernel
theorem dX6_askedBeads_11 : decode cX6_askedBeads 11 = .ok (.bipush 6, 2) := by decide +kernel
theorem dX6_askedBeads_13 : decode cX6_askedBeads 13 = .ok (.invokevirtual 171, 3) := by decide +kernel
theorem dX6_askedBeads_16 : decode cX6_askedBeads 16 = .ok (.bipush 10, 2) := by decide +kernel
theorem dX6_askedBeads_18 : decode cX6_askedBeads 18 = .ok (.ireturn, 1) := by decide +kernel
theorem dX6_askedBeads_19 : decode cX6_askedBeads 19 = .ok (.aload_n 0, 1) := by decide +kernel
theorem dX6_askedBeads_20 : decode cX6_askedBeads 20 = .ok (.getfield 7, 3) := by decide +kernel
theorem dX6_askedBeads_23 : decode cX6_askedBeads 23 = .ok (.iload_n 1, 1) := by decide +kernel
theorem dX6_askedBeads_24 : decode cX6_askedBeads 24 = .ok (.iaload, 1) := by decide +kernel
theorem dX6_askedBeads_25 : decode cX6_askedBeads 25 = .ok (.ifCond .eq 7, 3) := by decide +kernel
theorem dX6_askedBeads_28 : decode cX6_askedBeads 28 = .ok (.iconst 1, 1) := by decide +kernel
theorem dX6_askedBeads_29 : decode cX6_askedBeads 29 = .ok (.goto 4, 3) := by decide +kernel
theorem dX6_askedBeads_32 : decode cX6_askedBeads 32 = .ok (.iconst 0, 1) := by decide +kernel
theorem dX6_askedBeads_33 : decode cX6_askedBeads 33 = .ok (.istore_n 2, 1) := by decide +kernel
theorem dX6_askedBeads_34 : decode cX6_askedBeads 34 = .ok (.iload_n 2, 1) := by decide +kernel
theorem dX6_askedBeads_35 : decode cX6_askedBeads 35 = .ok (.ifCond .eq 8, 3) := by decide +kernel
theorem dX6_askedBeads_38 : decode cX6_askedBeads 38 = .ok (.aload_n 0, 1) := by decide +kernel
theorem dX6_askedBeads_39 : decode cX6_askedBeads 39 = .ok (.iconst 5, 1) := by decide +kernel
theorem dX6_askedBeads_40 : decode cX6_askedBeads 40 = .ok (.invokevirtual 171, 3) := by decide +kernel
theorem dX6_askedBeads_43 : decode cX6_askedBeads 43 = .ok (.aload_n 0, 1) := by decide +kernel
theorem dX6_askedBeads_44 : decode cX6_askedBeads 44 = .ok (.iconst 4, 1) := by decide +kernel
theorem dX6_askedBeads_45 : decode cX6_askedBeads 45 = .ok (.invokevirtual 171, 3) := by decide +kernel
theorem dX6_askedBeads_48 : decode cX6_askedBeads 48 = .ok (.iload_n 2, 1) := by decide +kernel
theorem dX6_askedBeads_49 : decode cX6_askedBeads 49 = .ok (.ifCond .eq 8, 3) := by decide +kernel
theorem dX6_askedBeads_52 : decode cX6_askedBeads 52 = .ok (.bipush 7, 2) := by decide +kernel
theorem dX6_askedBeads_54 : decode cX6_askedBeads 54 = .ok (.goto 4, 3) := by decide +kernel
theorem dX6_askedBeads_57 : decode cX6_askedBeads 57 = .ok (.iconst 5, 1) := by decide +kernel
theorem dX6_askedBeads_58 : decode cX6_askedBeads 58 = .ok (.ireturn, 1) := by decide +kernel
theorem dX6_askedCarry_0 : decode cX6_askedCarry 0 = .ok (.iconst 1, 1) := by decide +kernel
theorem dX6_askedCarry_1 : decode cX6_askedCarry 1 = .ok (.istore_n 2, 1) := by decide +kernel
theorem dX6_askedCarry_2 : decode cX6_askedCarry 2 = .ok (.iconst 0, 1) := by decide +kernel
theorem dX6_askedCarry_3 : decode cX6_askedCarry 3 = .ok (.istore_n 3, 1) := by decide +kernel
theorem dX6_askedCarry_4 : decode cX6_askedCarry 4 = .ok (.aload_n 0, 1) := by decide +kernel
theorem dX6_askedCarry_5 : decode cX6_askedCarry 5 = .ok (.getfield 43, 3) := by decide +kernel
theorem dX6_askedCarry_8 : decode cX6_askedCarry 8 = .ok (.iconst 0, 1) := by decide +kernel
theorem dX6_askedCarry_9 : decode cX6_askedCarry 9 = .ok (.iload_n 1, 1) := by decide +kernel
theorem dX6_askedCarry_10 : decode cX6_askedCarry 10 = .ok (.iastore, 1) := by decide +kernel
theorem dX6_askedCarry_11 : decode cX6_askedCarry 11 = .ok (.iload_n 2, 1) := by decide +kernel
theorem dX6_askedCarry_12 : decode cX6_askedCarry 12 = .ok (.ifCond .le 132, 3) := by decide +kernel
theorem dX6_askedCarry_15 : decode cX6_askedCarry 15 = .ok (.iinc 2 (-1), 3) := by decide +kernel
theorem dX6_askedCarry_18 : decode cX6_askedCarry 18 = .ok (.aload_n 0, 1) := by decide +kernel
theorem dX6_askedCarry_19 : decode cX6_askedCarry 19 = .ok (.getfield 43, 3) := by decide +kernel
theorem dX6_askedCarry_22 : decode cX6_askedCarry 22 = .ok (.iload_n 2, 1) := by decide +kernel
theorem dX6_askedCarry_23 : decode cX6_askedCarry 23 = .ok (.iaload, 1) := by decide +kernel
theorem dX6_askedCarry_24 : decode cX6_askedCarry 24 = .ok (.istore 4, 2) := by decide +kernel
theorem dX6_askedCarry_26 : decode cX6_askedCarry 26 = .ok (.aload_n 0, 1) := by decide +kernel
theorem dX6_askedCarry_27 : decode cX6_askedCarry 27 = .ok (.getfield 7, 3) := by decide +kernel
theorem dX6_askedCarry_30 : decode cX6_askedCarry 30 = .ok (.iload 4, 2) := by decide +kernel
theorem dX6_askedCarry_32 : decode cX6_askedCarry 32 = .ok (.iaload, 1) := by decide +kernel
theorem dX6_askedCarry_33 : decode cX6_askedCarry 33 = .ok (.iconst 2, 1) := by decide +kernel
theorem dX6_askedCarry_34 : decode cX6_askedCarry 34 = .ok (.if_icmp .ne 9, 3) := by decide +kernel
theorem dX6_askedCarry_37 : decode cX6_askedCarry 37 = .ok (.aload_n 0, 1) := by decide +kernel
theorem dX6_askedCarry_38 : decode cX6_askedCarry 38 = .ok (.iconst 3, 1) := by decide +kernel
theorem dX6_askedCarry_39 : decode cX6_askedCarry 39 = .ok (.invokevirtual 102, 3) := by decide +kernel
theorem dX6_askedCarry_42 : decode cX6_askedCarry 42 = .ok (.ireturn, 1) := by decide +kernel
theorem dX6_askedCarry_43 : decode cX6_askedCarry 43 = .ok (.aload_n 0, 1) := by decide +kernel
theorem dX6_askedCarry_44 : decode cX6_askedCarry 44 = .ok (.getfield 7, 3) := by decide +kernel
theorem dX6_askedCarry_47 : decode cX6_askedCarry 47 = .ok (.iload 4, 2) := by decide +kernel
theorem dX6_askedCarry_49 : decode cX6_askedCarry 49 = .ok (.iaload, 1) := by decide +kernel
theorem dX6_askedCarry_50 : decode cX6_askedCarry 50 = .ok (.iconst 4, 1) := by decide +kernel
theorem dX6_askedCarry_51 : decode cX6_askedCarry 51 = .ok (.if_icmp .ne 43, 3) := by decide +kernel
theorem dX6_askedCarry_54 : decode cX6_askedCarry 54 = .ok (.aload_n 0, 1) := by decide +kernel
theorem dX6_askedCarry_55 : decode cX6_askedCarry 55 = .ok (.bipush 9, 2) := by decide +kernel
theorem dX6_askedCarry_57 : decode cX6_askedCarry 57 = .ok (.invokevirtual 171, 3) := by decide +kernel
theorem dX6_askedCarry_60 : decode cX6_askedCarry 60 = .ok (.aload_n 0, 1) := by decide +kernel
theorem dX6_askedCarry_61 : decode cX6_askedCarry 61 = .ok (.getfield 43, 3) := by decide +kernel
theorem dX6_askedCarry_64 : decode cX6_askedCarry 64 = .ok (.iload_n 2, 1) := by decide +kernel
theorem dX6_askedCarry_65 : decode cX6_askedCarry 65 = .ok (.aload_n 0, 1) := by decide +kernel
theorem dX6_askedCarry_66 : decode cX6_askedCarry 66 = .ok (.getfield 25, 3) := by decide +kernel
theorem dX6_askedCarry_69 : decode cX6_askedCarry 69 = .ok (.iload 4, 2) := by decide +kernel
theorem dX6_askedCarry_71 : decode cX6_askedCarry 71 = .ok (.iaload, 1) := by decide +kernel
theorem dX6_askedCarry_72 : decode cX6_askedCarry 72 = .ok (.iastore, 1) := by decide +kernel
theorem dX6_askedCarry_73 : decode cX6_askedCarry 73 = .ok (.aload_n 0, 1) := by decide +kernel
theorem dX6_askedCarry_74 : decode cX6_askedCarry 74 = .ok (.getfield 43, 3) := by decide +kernel
theorem dX6_askedCarry_77 : decode cX6_askedCarry 77 = .ok (.iload_n 2, 1) := by decide +kernel
theorem dX6_askedCarry_78 : decode cX6_askedCarry 78 = .ok (.iconst 1, 1) := by decide +kernel
theorem dX6_askedCarry_79 : decode cX6_askedCarry 79 = .ok (.iadd, 1) := by decide +kernel
theorem dX6_askedCarry_80 : decode cX6_askedCarry 80 = .ok (.aload_n 0, 1) := by decide +kernel
theorem dX6_askedCarry_81 : decode cX6_askedCarry 81 = .ok (.getfield 22, 3) := by decide +kernel
theorem dX6_askedCarry_84 : decode cX6_askedCarry 84 = .ok (.iload 4, 2) := by decide +kernel
theorem dX6_askedCarry_86 : decode cX6_askedCarry 86 = .ok (.iaload, 1) := by decide +kernel
theorem dX6_askedCarry_87 : decode cX6_askedCarry 87 = .ok (.iastore, 1) := by decide +kernel
theorem dX6_askedCarry_88 : decode cX6_askedCarry 88 = .ok (.iinc 2 2, 3) := by decide +kernel
theorem dX6_askedCarry_91 : decode cX6_askedCarry 91 = .ok (.goto 50, 3) := by decide +kernel
theorem dX6_askedCarry_94 : decode cX6_askedCarry 94 = .ok (.aload_n 0, 1) := by decide +kernel
theorem dX6_askedCarry_95 : decode cX6_askedCarry 95 = .ok (.getfield 7, 3) := by decide +kernel
theorem dX6_askedCarry_98 : decode cX6_askedCarry 98 = .ok (.iload 4, 2) := by decide +kernel
theorem dX6_askedCarry_100 : decode cX6_askedCarry 100 = .ok (.iaload, 1) := by decide +kernel
theorem dX6_askedCarry_101 : decode cX6_askedCarry 101 = .ok (.ifCond .ne 23, 3) := by decide +kernel
theorem dX6_askedCarry_104 : decode cX6_askedCarry 104 = .ok (.aload_n 0, 1) := by decide +kernel
theorem dX6_askedCarry_105 : decode cX6_askedCarry 105 = .ok (.bipush 7, 2) := by decide +kernel
theorem dX6_askedCarry_107 : decode cX6_askedCarry 107 = .ok (.invokevirtual 171, 3) := by decide +kernel
theorem dX6_askedCarry_110 : decode cX6_askedCarry 110 = .ok (.iload_n 3, 1) := by decide +kernel
theorem dX6_askedCarry_111 : decode cX6_askedCarry 111 = .ok (.aload_n 0, 1) := by decide +kernel
theorem dX6_askedCarry_112 : decode cX6_askedCarry 112 = .ok (.iload 4, 2) := by decide +kernel
theorem dX6_askedCarry_114 : decode cX6_askedCarry 114 = .ok (.invokevirtual 175, 3) := by decide +kernel
theorem dX6_askedCarry_117 : decode cX6_askedCarry 117 = .ok (.iconst 1, 1) := by decide +kernel
theorem dX6_askedCarry_118 : decode cX6_askedCarry 118 = .ok (.isub, 1) := by decide +kernel
theorem dX6_askedCarry_119 : decode cX6_askedCarry 119 = .ok (.iadd, 1) := by decide +kernel
theorem dX6_askedCarry_120 : decode cX6_askedCarry 120 = .ok (.istore_n 3, 1) := by decide +kernel
theorem dX6_askedCarry_121 : decode cX6_askedCarry 121 = .ok (.goto 20, 3) := by decide +kernel
theorem dX6_askedCarry_124 : decode cX6_askedCarry 124 = .ok (.aload_n 0, 1) := by decide +kernel
theorem dX6_askedCarry_125 : decode cX6_askedCarry 125 = .ok (.bipush 8, 2) := by decide +kernel
theorem dX6_askedCarry_127 : decode cX6_askedCarry 127 = .ok (.invokevirtual 171, 3) := by decide +kernel
theorem dX6_askedCarry_130 : decode cX6_askedCarry 130 = .ok (.iload_n 3, 1) := by decide +kernel
theorem dX6_askedCarry_131 : decode cX6_askedCarry 131 = .ok (.iconst 5, 1) := by decide +kernel
theorem dX6_askedCarry_132 : decode cX6_askedCarry 132 = .ok (.aload_n 0, 1) := by decide +kernel
theorem dX6_askedCarry_133 : decode cX6_askedCarry 133 = .ok (.iload 4, 2) := by decide +kernel
theorem dX6_askedCarry_135 : decode cX6_askedCarry 135 = .ok (.invokevirtual 178, 3) := by decide +kernel
theorem dX6_askedCarry_138 : decode cX6_askedCarry 138 = .ok (.iadd, 1) := by decide +kernel
theorem dX6_askedCarry_139 : decode cX6_askedCarry 139 = .ok (.iadd, 1) := by decide +kernel
theorem dX6_askedCarry_140 : decode cX6_askedCarry 140 = .ok (.istore_n 3, 1) := by decide +kernel
theorem dX6_askedCarry_141 : decode cX6_askedCarry 141 = .ok (.goto (-130), 3) := by decide +kernel
theorem dX6_askedCarry_144 : decode cX6_askedCarry 144 = .ok (.iload_n 3, 1) := by decide +kernel
theorem dX6_askedCarry_145 : decode cX6_askedCarry 145 = .ok (.ireturn, 1) := by decide +kernel
theorem dX6_askedJudge_0 : decode cX6_askedJudge 0 = .ok (.aload_n 0, 1) := by decide +kernel
theorem dX6_askedJudge_1 : decode cX6_askedJudge 1 = .ok (.getfield 7, 3) := by decide +kernel
theorem dX6_askedJudge_4 : decode cX6_askedJudge 4 = .ok (.iload_n 1, 1) := by decide +kernel
theorem dX6_askedJudge_5 : decode cX6_askedJudge 5 = .ok (.iaload, 1) := by decide +kernel
theorem dX6_askedJudge_6 : decode cX6_askedJudge 6 = .ok (.iconst 3, 1) := by decide +kernel
theorem dX6_askedJudge_7 : decode cX6_askedJudge 7 = .ok (.if_icmp .ne 9, 3) := by decide +kernel
theorem dX6_askedJudge_10 : decode cX6_askedJudge 10 = .ok (.aload_n 0, 1) := by decide +kernel
theorem dX6_askedJudge_11 : decode cX6_askedJudge 11 = .ok (.bipush 12, 2) := by decide +kernel
theorem dX6_askedJudge_13 : decode cX6_askedJudge 13 = .ok (.invokevirtual 171, 3) := by decide +kernel
theorem dX6_askedJudge_16 : decode cX6_askedJudge 16 = .ok (.aload_n 0, 1) := by decide +kernel
theorem dX6_askedJudge_17 : decode cX6_askedJudge 17 = .ok (.getfield 7, 3) := by decide +kernel
theorem dX6_askedJudge_20 : decode cX6_askedJudge 20 = .ok (.iload_n 1, 1) := by decide +kernel
theorem dX6_askedJudge_21 : decode cX6_askedJudge 21 = .ok (.iaload, 1) := by decide +kernel
theorem dX6_askedJudge_22 : decode cX6_askedJudge 22 = .ok (.ifCond .eq 9, 3) := by decide +kernel
theorem dX6_askedJudge_25 : decode cX6_askedJudge 25 = .ok (.aload_n 0, 1) := by decide +kernel
theorem dX6_askedJudge_26 : decode cX6_askedJudge 26 = .ok (.bipush 11, 2) := by decide +kernel
theorem dX6_askedJudge_28 : decode cX6_askedJudge 28 = .ok (.invokevirtual 171, 3) := by decide +kernel
theorem dX6_askedJudge_31 : decode cX6_askedJudge 31 = .ok (.aload_n 0, 1) := by decide +kernel
theorem dX6_askedJudge_32 : decode cX6_askedJudge 32 = .ok (.bipush 10, 2) := by decide +kernel
theorem dX6_askedJudge_34 : decode cX6_askedJudge 34 = .ok (.invokevirtual 171, 3) := by decide +kernel
theorem dX6_askedJudge_37 : decode cX6_askedJudge 37 = .ok (.aload_n 0, 1) := by decide +kernel
theorem dX6_askedJudge_38 : decode cX6_askedJudge 38 = .ok (.getfield 7, 3) := by decide +kernel
theorem dX6_askedJudge_41 : decode cX6_askedJudge 41 = .ok (.iload_n 1, 1) := by decide +kernel
theorem dX6_askedJudge_42 : decode cX6_askedJudge 42 = .ok (.iaload, 1) := by decide +kernel
theorem dX6_askedJudge_43 : decode cX6_askedJudge 43 = .ok (.ifCond .ne 12, 3) := by decide +kernel
theorem dX6_askedJudge_46 : decode cX6_askedJudge 46 = .ok (.aload_n 0, 1) := by decide +kernel
theorem dX6_askedJudge_47 : decode cX6_askedJudge 47 = .ok (.getfield 13, 3) := by decide +kernel
theorem dX6_askedJudge_50 : decode cX6_askedJudge 50 = .ok (.iload_n 1, 1) := by decide +kernel
theorem dX6_askedJudge_51 : decode cX6_askedJudge 51 = .ok (.iaload, 1) := by decide +kernel
theorem dX6_askedJudge_52 : decode cX6_askedJudge 52 = .ok (.goto 34, 3) := by decide +kernel
theorem dX6_askedJudge_55 : decode cX6_askedJudge 55 = .ok (.aload_n 0, 1) := by decide +kernel
theorem dX6_askedJudge_56 : decode cX6_askedJudge 56 = .ok (.getfield 7, 3) := by decide +kernel
theorem dX6_askedJudge_59 : decode cX6_askedJudge 59 = .ok (.iload_n 1, 1) := by decide +kernel
theorem dX6_askedJudge_60 : decode cX6_askedJudge 60 = .ok (.iaload, 1) := by decide +kernel
theorem dX6_askedJudge_61 : decode cX6_askedJudge 61 = .ok (.iconst 1, 1) := by decide +kernel
theorem dX6_askedJudge_62 : decode cX6_askedJudge 62 = .ok (.if_icmp .ne 14, 3) := by decide +kernel
theorem dX6_askedJudge_65 : decode cX6_askedJudge 65 = .ok (.iconst 2, 1) := by decide +kernel
theorem dX6_askedJudge_66 : decode cX6_askedJudge 66 = .ok (.aload_n 0, 1) := by decide +kernel
theorem dX6_askedJudge_67 : decode cX6_askedJudge 67 = .ok (.getfield 13, 3) := by decide +kernel
theorem dX6_askedJudge_70 : decode cX6_askedJudge 70 = .ok (.iload_n 1, 1) := by decide +kernel
theorem dX6_askedJudge_71 : decode cX6_askedJudge 71 = .ok (.iaload, 1) := by decide +kernel
theorem dX6_askedJudge_72 : decode cX6_askedJudge 72 = .ok (.imul, 1) := by decide +kernel
theorem dX6_askedJudge_73 : decode cX6_askedJudge 73 = .ok (.goto 13, 3) := by decide +kernel
theorem dX6_askedJudge_76 : decode cX6_askedJudge 76 = .ok (.iconst 2, 1) := by decide +kernel
theorem dX6_askedJudge_77 : decode cX6_askedJudge 77 = .ok (.aload_n 0, 1) := by decide +kernel
theorem dX6_askedJudge_78 : decode cX6_askedJudge 78 = .ok (.getfield 13, 3) := by decide +kernel
theorem dX6_askedJudge_81 : decode cX6_askedJudge 81 = .ok (.iload_n 1, 1) := by decide +kernel
theorem dX6_askedJudge_82 : decode cX6_askedJudge 82 = .ok (.iaload, 1) := by decide +kernel
theorem dX6_askedJudge_83 : decode cX6_askedJudge 83 = .ok (.imul, 1) := by decide +kernel
theorem dX6_askedJudge_84 : decode cX6_askedJudge 84 = .ok (.iconst 1, 1) := by decide +kernel
theorem dX6_askedJudge_85 : decode cX6_askedJudge 85 = .ok (.iadd, 1) := by decide +kernel
theorem dX6_askedJudge_86 : decode cX6_askedJudge 86 = .ok (.ireturn, 1) := by decide +kernel
theorem dX6_asks_0 : decode cX6_asks 0 = .ok (.aload_n 0, 1) := by decide +kernel
theorem dX6_asks_1 : decode cX6_asks 1 = .ok (.iload_n 1, 1) := by decide +kernel
theorem dX6_asks_2 : decode cX6_asks 2 = .ok (.invokevirtual 129, 3) := by decide +kernel
theorem dX6_asks_5 : decode cX6_asks 5 = .ok (.ifCond .ne 5, 3) := by decide +kernel
theorem dX6_asks_8 : decode cX6_asks 8 = .ok (.iconst (-1), 1) := by decide +kernel
theorem dX6_asks_9 : decode cX6_asks 9 = .ok (.ireturn, 1) := by decide +kernel
theorem dX6_asks_10 : decode cX6_asks 10 = .ok (.iload_n 2, 1) := by decide +kernel
theorem dX6_asks_11 : decode cX6_asks 11 = .ok (.tableswitch 99 0 3 #[29, 35, 59, 65], 29) := by decide +kernel
theorem dX6_asks_40 : decode cX6_asks 40 = .ok (.aload_n 0, 1) := by decide +kernel
theorem dX6_asks_41 : decode cX6_asks 41 = .ok (.iload_n 1, 1) := by decide +kernel
theorem dX6_asks_42 : decode cX6_asks 42 = .ok (.invokevirtual 175, 3) := by decide +kernel
theorem dX6_asks_45 : decode cX6_asks 45 = .ok (.ireturn, 1) := by decide +kernel
theorem dX6_asks_46 : decode cX6_asks 46 = .ok (.aload_n 0, 1) := by decide +kernel
theorem dX6_asks_47 : decode cX6_asks 47 = .ok (.getfield 7, 3) := by decide +kernel
theorem dX6_asks_50 : decode cX6_asks 50 = .ok (.iload_n 1, 1) := by decide +kernel
theorem dX6_asks_51 : decode cX6_asks 51 = .ok (.iaload, 1) := by decide +kernel
theorem dX6_asks_52 : decode cX6_asks 52 = .ok (.iconst 4, 1) := by decide +kernel
theorem dX6_asks_53 : decode cX6_asks 53 = .ok (.if_icmp .ne 11, 3) := by decide +kernel
theorem dX6_asks_56 : decode cX6_asks 56 = .ok (.aload_n 0, 1) := by decide +kernel
theorem dX6_asks_57 : decode cX6_asks 57 = .ok (.iconst 3, 1) := by decide +kernel
theorem dX6_asks_58 : decode cX6_asks 58 = .ok (.invokevirtual 102, 3) := by decide +kernel
theorem dX6_asks_61 : decode cX6_asks 61 = .ok (.goto 8, 3) := by decide +kernel
theorem dX6_asks_64 : decode cX6_asks 64 = .ok (.aload_n 0, 1) := by decide +kernel
theorem dX6_asks_65 : decode cX6_asks 65 = .ok (.iload_n 1, 1) := by decide +kernel
theorem dX6_asks_66 : decode cX6_asks 66 = .ok (.invokevirtual 178, 3) := by decide +kernel
theorem dX6_asks_69 : decode cX6_asks 69 = .ok (.ireturn, 1) := by decide +kernel
theorem dX6_asks_70 : decode cX6_asks 70 = .ok (.aload_n 0, 1) := by decide +kernel
theorem dX6_asks_71 : decode cX6_asks 71 = .ok (.iload_n 1, 1) := by decide +kernel
theorem dX6_asks_72 : decode cX6_asks 72 = .ok (.invokevirtual 181, 3) := by decide +kernel
theorem dX6_asks_75 : decode cX6_asks 75 = .ok (.ireturn, 1) := by decide +kernel
theorem dX6_asks_76 : decode cX6_asks 76 = .ok (.aload_n 0, 1) := by decide +kernel
theorem dX6_asks_77 : decode cX6_asks 77 = .ok (.getfield 7, 3) := by decide +kernel
theorem dX6_asks_80 : decode cX6_asks 80 = .ok (.iload_n 1, 1) := by decide +kernel
theorem dX6_asks_81 : decode cX6_asks 81 = .ok (.iaload, 1) := by decide +kernel
theorem dX6_asks_82 : decode cX6_asks 82 = .ok (.iconst 4, 1) := by decide +kernel
theorem dX6_asks_83 : decode cX6_asks 83 = .ok (.if_icmp .eq 13, 3) := by decide +kernel
theorem dX6_asks_86 : decode cX6_asks 86 = .ok (.aload_n 0, 1) := by decide +kernel
theorem dX6_asks_87 : decode cX6_asks 87 = .ok (.getfield 7, 3) := by decide +kernel
