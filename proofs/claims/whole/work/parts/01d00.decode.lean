theorem dX0_init_0 : decode cX0_init 0 = .ok (.aload_n 0, 1) := by decide +kernel
theorem dX0_init_1 : decode cX0_init 1 = .ok (.invokespecial 1, 3) := by decide +kernel
theorem dX0_init_4 : decode cX0_init 4 = .ok (.aload_n 0, 1) := by decide +kernel
theorem dX0_init_5 : decode cX0_init 5 = .ok (.bipush 12, 2) := by decide +kernel
theorem dX0_init_7 : decode cX0_init 7 = .ok (.newarray .int, 2) := by decide +kernel
theorem dX0_init_9 : decode cX0_init 9 = .ok (.putfield 9, 3) := by decide +kernel
theorem dX0_init_12 : decode cX0_init 12 = .ok (.aload_n 0, 1) := by decide +kernel
theorem dX0_init_13 : decode cX0_init 13 = .ok (.iconst (-1), 1) := by decide +kernel
theorem dX0_init_14 : decode cX0_init 14 = .ok (.putfield 13, 3) := by decide +kernel
theorem dX0_init_17 : decode cX0_init 17 = .ok (.aload_n 0, 1) := by decide +kernel
theorem dX0_init_18 : decode cX0_init 18 = .ok (.iload_n 1, 1) := by decide +kernel
theorem dX0_init_19 : decode cX0_init 19 = .ok (.putfield 17, 3) := by decide +kernel
theorem dX0_init_22 : decode cX0_init 22 = .ok (.return_, 1) := by decide +kernel
theorem dX0_draw_0 : decode cX0_draw 0 = .ok (.iload_n 1, 1) := by decide +kernel
theorem dX0_draw_1 : decode cX0_draw 1 = .ok (.invokestatic 20, 3) := by decide +kernel
theorem dX0_draw_4 : decode cX0_draw 4 = .ok (.istore_n 2, 1) := by decide +kernel
theorem dX0_draw_5 : decode cX0_draw 5 = .ok (.iload_n 2, 1) := by decide +kernel
theorem dX0_draw_6 : decode cX0_draw 6 = .ok (.sipush 1000, 3) := by decide +kernel
theorem dX0_draw_9 : decode cX0_draw 9 = .ok (.invokestatic 24, 3) := by decide +kernel
theorem dX0_draw_12 : decode cX0_draw 12 = .ok (.istore_n 3, 1) := by decide +kernel
theorem dX0_draw_13 : decode cX0_draw 13 = .ok (.iload_n 2, 1) := by decide +kernel
theorem dX0_draw_14 : decode cX0_draw 14 = .ok (.invokestatic 20, 3) := by decide +kernel
theorem dX0_draw_17 : decode cX0_draw 17 = .ok (.istore_n 2, 1) := by decide +kernel
theorem dX0_draw_18 : decode cX0_draw 18 = .ok (.iload_n 2, 1) := by decide +kernel
theorem dX0_draw_19 : decode cX0_draw 19 = .ok (.sipush 1000, 3) := by decide +kernel
theorem dX0_draw_22 : decode cX0_draw 22 = .ok (.invokestatic 24, 3) := by decide +kernel
theorem dX0_draw_25 : decode cX0_draw 25 = .ok (.istore 4, 2) := by decide +kernel
theorem dX0_draw_27 : decode cX0_draw 27 = .ok (.aload_n 0, 1) := by decide +kernel
theorem dX0_draw_28 : decode cX0_draw 28 = .ok (.getfield 17, 3) := by decide +kernel
theorem dX0_draw_31 : decode cX0_draw 31 = .ok (.iconst 1, 1) := by decide +kernel
theorem dX0_draw_32 : decode cX0_draw 32 = .ok (.if_icmp .ne 12, 3) := by decide +kernel
theorem dX0_draw_35 : decode cX0_draw 35 = .ok (.iload_n 3, 1) := by decide +kernel
theorem dX0_draw_36 : decode cX0_draw 36 = .ok (.iload 4, 2) := by decide +kernel
theorem dX0_draw_38 : decode cX0_draw 38 = .ok (.invokestatic 28, 3) := by decide +kernel
theorem dX0_draw_41 : decode cX0_draw 41 = .ok (.goto 4, 3) := by decide +kernel
theorem dX0_draw_44 : decode cX0_draw 44 = .ok (.iload_n 3, 1) := by decide +kernel
theorem dX0_draw_45 : decode cX0_draw 45 = .ok (.istore 5, 2) := by decide +kernel
theorem dX0_draw_47 : decode cX0_draw 47 = .ok (.aload_n 0, 1) := by decide +kernel
theorem dX0_draw_48 : decode cX0_draw 48 = .ok (.getfield 17, 3) := by decide +kernel
theorem dX0_draw_51 : decode cX0_draw 51 = .ok (.iconst 1, 1) := by decide +kernel
theorem dX0_draw_52 : decode cX0_draw 52 = .ok (.if_icmp .ne 12, 3) := by decide +kernel
theorem dX0_draw_55 : decode cX0_draw 55 = .ok (.iload_n 3, 1) := by decide +kernel
theorem dX0_draw_56 : decode cX0_draw 56 = .ok (.iload 4, 2) := by decide +kernel
theorem dX0_draw_58 : decode cX0_draw 58 = .ok (.invokestatic 33, 3) := by decide +kernel
theorem dX0_draw_61 : decode cX0_draw 61 = .ok (.goto 5, 3) := by decide +kernel
theorem dX0_draw_64 : decode cX0_draw 64 = .ok (.iload 4, 2) := by decide +kernel
theorem dX0_draw_66 : decode cX0_draw 66 = .ok (.istore 6, 2) := by decide +kernel
theorem dX0_draw_68 : decode cX0_draw 68 = .ok (.iload 5, 2) := by decide +kernel
theorem dX0_draw_70 : decode cX0_draw 70 = .ok (.iload 6, 2) := by decide +kernel
theorem dX0_draw_72 : decode cX0_draw 72 = .ok (.aload_n 0, 1) := by decide +kernel
theorem dX0_draw_73 : decode cX0_draw 73 = .ok (.getfield 17, 3) := by decide +kernel
theorem dX0_draw_76 : decode cX0_draw 76 = .ok (.iload 5, 2) := by decide +kernel
theorem dX0_draw_78 : decode cX0_draw 78 = .ok (.iload 6, 2) := by decide +kernel
theorem dX0_draw_80 : decode cX0_draw 80 = .ok (.invokestatic 36, 3) := by decide +kernel
theorem dX0_draw_83 : decode cX0_draw 83 = .ok (.aload_n 0, 1) := by decide +kernel
theorem dX0_draw_84 : decode cX0_draw 84 = .ok (.getfield 9, 3) := by decide +kernel
theorem dX0_draw_87 : decode cX0_draw 87 = .ok (.invokestatic 40, 3) := by decide +kernel
theorem dX0_draw_90 : decode cX0_draw 90 = .ok (.iload_n 2, 1) := by decide +kernel
theorem dX0_draw_91 : decode cX0_draw 91 = .ok (.invokestatic 20, 3) := by decide +kernel
theorem dX0_draw_94 : decode cX0_draw 94 = .ok (.istore_n 2, 1) := by decide +kernel
theorem dX0_draw_95 : decode cX0_draw 95 = .ok (.iconst 1, 1) := by decide +kernel
theorem dX0_draw_96 : decode cX0_draw 96 = .ok (.iload_n 2, 1) := by decide +kernel
theorem dX0_draw_97 : decode cX0_draw 97 = .ok (.iconst 4, 1) := by decide +kernel
theorem dX0_draw_98 : decode cX0_draw 98 = .ok (.invokestatic 24, 3) := by decide +kernel
theorem dX0_draw_101 : decode cX0_draw 101 = .ok (.iadd, 1) := by decide +kernel
theorem dX0_draw_102 : decode cX0_draw 102 = .ok (.istore 7, 2) := by decide +kernel
theorem dX0_draw_104 : decode cX0_draw 104 = .ok (.iconst 0, 1) := by decide +kernel
theorem dX0_draw_105 : decode cX0_draw 105 = .ok (.istore 8, 2) := by decide +kernel
theorem dX0_draw_107 : decode cX0_draw 107 = .ok (.iload 8, 2) := by decide +kernel
theorem dX0_draw_109 : decode cX0_draw 109 = .ok (.iload 7, 2) := by decide +kernel
theorem dX0_draw_111 : decode cX0_draw 111 = .ok (.if_icmp .ge 38, 3) := by decide +kernel
theorem dX0_draw_114 : decode cX0_draw 114 = .ok (.iload_n 2, 1) := by decide +kernel
theorem dX0_draw_115 : decode cX0_draw 115 = .ok (.invokestatic 20, 3) := by decide +kernel
theorem dX0_draw_118 : decode cX0_draw 118 = .ok (.istore_n 2, 1) := by decide +kernel
theorem dX0_draw_119 : decode cX0_draw 119 = .ok (.aload_n 0, 1) := by decide +kernel
theorem dX0_draw_120 : decode cX0_draw 120 = .ok (.dup, 1) := by decide +kernel
theorem dX0_draw_121 : decode cX0_draw 121 = .ok (.getfield 44, 3) := by decide +kernel
theorem dX0_draw_124 : decode cX0_draw 124 = .ok (.iconst 1, 1) := by decide +kernel
theorem dX0_draw_125 : decode cX0_draw 125 = .ok (.aload_n 0, 1) := by decide +kernel
theorem dX0_draw_126 : decode cX0_draw 126 = .ok (.getfield 44, 3) := by decide +kernel
theorem dX0_draw_129 : decode cX0_draw 129 = .ok (.iload_n 2, 1) := by decide +kernel
theorem dX0_draw_130 : decode cX0_draw 130 = .ok (.bipush 12, 2) := by decide +kernel
theorem dX0_draw_132 : decode cX0_draw 132 = .ok (.invokestatic 24, 3) := by decide +kernel
theorem dX0_draw_135 : decode cX0_draw 135 = .ok (.invokestatic 47, 3) := by decide +kernel
theorem dX0_draw_138 : decode cX0_draw 138 = .ok (.ishl, 1) := by decide +kernel
theorem dX0_draw_139 : decode cX0_draw 139 = .ok (.ior, 1) := by decide +kernel
theorem dX0_draw_140 : decode cX0_draw 140 = .ok (.putfield 44, 3) := by decide +kernel
theorem dX0_draw_143 : decode cX0_draw 143 = .ok (.iinc 8 1, 3) := by decide +kernel
theorem dX0_draw_146 : decode cX0_draw 146 = .ok (.goto (-39), 3) := by decide +kernel
theorem dX0_draw_149 : decode cX0_draw 149 = .ok (.return_, 1) := by decide +kernel
theorem dX0_next_0 : decode cX0_next 0 = .ok (.ldc 50, 2) := by decide +kernel
theorem dX0_next_2 : decode cX0_next 2 = .ok (.iload_n 0, 1) := by decide +kernel
theorem dX0_next_3 : decode cX0_next 3 = .ok (.imul, 1) := by decide +kernel
theorem dX0_next_4 : decode cX0_next 4 = .ok (.sipush 12345, 3) := by decide +kernel
theorem dX0_next_7 : decode cX0_next 7 = .ok (.iadd, 1) := by decide +kernel
theorem dX0_next_8 : decode cX0_next 8 = .ok (.ireturn, 1) := by decide +kernel
theorem dX0_drawn_0 : decode cX0_drawn 0 = .ok (.iload_n 1, 1) := by decide +kernel
theorem dX0_drawn_1 : decode cX0_drawn 1 = .ok (.ifCond .gt 7, 3) := by decide +kernel
theorem dX0_drawn_4 : decode cX0_drawn 4 = .ok (.iconst 0, 1) := by decide +kernel
theorem dX0_drawn_5 : decode cX0_drawn 5 = .ok (.goto 9, 3) := by decide +kernel
theorem dX0_drawn_8 : decode cX0_drawn 8 = .ok (.iload_n 0, 1) := by decide +kernel
theorem dX0_drawn_9 : decode cX0_drawn 9 = .ok (.bipush 16, 2) := by decide +kernel
theorem dX0_drawn_11 : decode cX0_drawn 11 = .ok (.iushr, 1) := by decide +kernel
theorem dX0_drawn_12 : decode cX0_drawn 12 = .ok (.iload_n 1, 1) := by decide +kernel
theorem dX0_drawn_13 : decode cX0_drawn 13 = .ok (.irem, 1) := by decide +kernel
theorem dX0_drawn_14 : decode cX0_drawn 14 = .ok (.ireturn, 1) := by decide +kernel
theorem dX0_freePlace_0 : decode cX0_freePlace 0 = .ok (.iload_n 1, 1) := by decide +kernel
theorem dX0_freePlace_1 : decode cX0_freePlace 1 = .ok (.istore_n 2, 1) := by decide +kernel
theorem dX0_freePlace_2 : decode cX0_freePlace 2 = .ok (.iconst 0, 1) := by decide +kernel
theorem dX0_freePlace_3 : decode cX0_freePlace 3 = .ok (.istore_n 3, 1) := by decide +kernel
theorem dX0_freePlace_4 : decode cX0_freePlace 4 = .ok (.iload_n 3, 1) := by decide +kernel
theorem dX0_freePlace_5 : decode cX0_freePlace 5 = .ok (.bipush 12, 2) := by decide +kernel
theorem dX0_freePlace_7 : decode cX0_freePlace 7 = .ok (.if_icmp .ge 33, 3) := by decide +kernel
theorem dX0_freePlace_10 : decode cX0_freePlace 10 = .ok (.iload_n 0, 1) := by decide +kernel
theorem dX0_freePlace_11 : decode cX0_freePlace 11 = .ok (.iload_n 2, 1) := by decide +kernel
theorem dX0_freePlace_12 : decode cX0_freePlace 12 = .ok (.ishr, 1) := by decide +kernel
theorem dX0_freePlace_13 : decode cX0_freePlace 13 = .ok (.iconst 1, 1) := by decide +kernel
theorem dX0_freePlace_14 : decode cX0_freePlace 14 = .ok (.iand, 1) := by decide +kernel
theorem dX0_freePlace_15 : decode cX0_freePlace 15 = .ok (.ifCond .eq 25, 3) := by decide +kernel
theorem dX0_freePlace_18 : decode cX0_freePlace 18 = .ok (.iload_n 2, 1) := by decide +kernel
theorem dX0_freePlace_19 : decode cX0_freePlace 19 = .ok (.iconst 1, 1) := by decide +kernel
theorem dX0_freePlace_20 : decode cX0_freePlace 20 = .ok (.iadd, 1) := by decide +kernel
theorem dX0_freePlace_21 : decode cX0_freePlace 21 = .ok (.bipush 12, 2) := by decide +kernel
theorem dX0_freePlace_23 : decode cX0_freePlace 23 = .ok (.if_icmp .ge 9, 3) := by decide +kernel
theorem dX0_freePlace_26 : decode cX0_freePlace 26 = .ok (.iload_n 2, 1) := by decide +kernel
theorem dX0_freePlace_27 : decode cX0_freePlace 27 = .ok (.iconst 1, 1) := by decide +kernel
theorem dX0_freePlace_28 : decode cX0_freePlace 28 = .ok (.iadd, 1) := by decide +kernel
theorem dX0_freePlace_29 : decode cX0_freePlace 29 = .ok (.goto 4, 3) := by decide +kernel
theorem dX0_freePlace_32 : decode cX0_freePlace 32 = .ok (.iconst 0, 1) := by decide +kernel
theorem dX0_freePlace_33 : decode cX0_freePlace 33 = .ok (.istore_n 2, 1) := by decide +kernel
theorem dX0_freePlace_34 : decode cX0_freePlace 34 = .ok (.iinc 3 1, 3) := by decide +kernel
theorem dX0_freePlace_37 : decode cX0_freePlace 37 = .ok (.goto (-33), 3) := by decide +kernel
theorem dX0_freePlace_40 : decode cX0_freePlace 40 = .ok (.iload_n 2, 1) := by decide +kernel
theorem dX0_freePlace_41 : decode cX0_freePlace 41 = .ok (.ireturn, 1) := by decide +kernel
theorem dX0_result_0 : decode cX0_result 0 = .ok (.iload_n 0, 1) := by decide +kernel
theorem dX0_result_1 : decode cX0_result 1 = .ok (.ifCond .ne 9, 3) := by decide +kernel
theorem dX0_result_4 : decode cX0_result 4 = .ok (.iload_n 1, 1) := by decide +kernel
theorem dX0_result_5 : decode cX0_result 5 = .ok (.iload_n 2, 1) := by decide +kernel
theorem dX0_result_6 : decode cX0_result 6 = .ok (.iadd, 1) := by decide +kernel
theorem dX0_result_7 : decode cX0_result 7 = .ok (.goto 17, 3) := by decide +kernel
theorem dX0_result_10 : decode cX0_result 10 = .ok (.iload_n 0, 1) := by decide +kernel
theorem dX0_result_11 : decode cX0_result 11 = .ok (.iconst 1, 1) := by decide +kernel
theorem dX0_result_12 : decode cX0_result 12 = .ok (.if_icmp .ne 9, 3) := by decide +kernel
theorem dX0_result_15 : decode cX0_result 15 = .ok (.iload_n 1, 1) := by decide +kernel
theorem dX0_result_16 : decode cX0_result 16 = .ok (.iload_n 2, 1) := by decide +kernel
theorem dX0_result_17 : decode cX0_result 17 = .ok (.isub, 1) := by decide +kernel
theorem dX0_result_18 : decode cX0_result 18 = .ok (.goto 6, 3) := by decide +kernel
theorem dX0_result_21 : decode cX0_result 21 = .ok (.iload_n 1, 1) := by decide +kernel
theorem dX0_result_22 : decode cX0_result 22 = .ok (.iload_n 2, 1) := by decide +kernel
theorem dX0_result_23 : decode cX0_result 23 = .ok (.imul, 1) := by decide +kernel
theorem dX0_result_24 : decode cX0_result 24 = .ok (.ireturn, 1) := by decide +kernel
theorem dX0_spread_0 : decode cX0_spread 0 = .ok (.aload_n 3, 1) := by decide +kernel
theorem dX0_spread_1 : decode cX0_spread 1 = .ok (.arraylength, 1) := by decide +kernel
theorem dX0_spread_2 : decode cX0_spread 2 = .ok (.bipush 12, 2) := by decide +kernel
theorem dX0_spread_4 : decode cX0_spread 4 = .ok (.if_icmp .ge 4, 3) := by decide +kernel
theorem dX0_spread_7 : decode cX0_spread 7 = .ok (.return_, 1) := by decide +kernel
theorem dX0_spread_8 : decode cX0_spread 8 = .ok (.iload_n 2, 1) := by decide +kernel
theorem dX0_spread_9 : decode cX0_spread 9 = .ok (.istore 4, 2) := by decide +kernel
theorem dX0_spread_11 : decode cX0_spread 11 = .ok (.bipush 11, 2) := by decide +kernel
theorem dX0_spread_13 : decode cX0_spread 13 = .ok (.istore 5, 2) := by decide +kernel
theorem dX0_spread_15 : decode cX0_spread 15 = .ok (.iload 5, 2) := by decide +kernel
theorem dX0_spread_17 : decode cX0_spread 17 = .ok (.bipush 6, 2) := by decide +kernel
theorem dX0_spread_19 : decode cX0_spread 19 = .ok (.if_icmp .lt 25, 3) := by decide +kernel
theorem dX0_spread_22 : decode cX0_spread 22 = .ok (.aload_n 3, 1) := by decide +kernel
theorem dX0_spread_23 : decode cX0_spread 23 = .ok (.iload 5, 2) := by decide +kernel
theorem dX0_spread_25 : decode cX0_spread 25 = .ok (.iload 4, 2) := by decide +kernel
theorem dX0_spread_27 : decode cX0_spread 27 = .ok (.bipush 10, 2) := by decide +kernel
theorem dX0_spread_29 : decode cX0_spread 29 = .ok (.irem, 1) := by decide +kernel
theorem dX0_spread_30 : decode cX0_spread 30 = .ok (.iastore, 1) := by decide +kernel
theorem dX0_spread_31 : decode cX0_spread 31 = .ok (.iload 4, 2) := by decide +kernel
theorem dX0_spread_33 : decode cX0_spread 33 = .ok (.bipush 10, 2) := by decide +kernel
theorem dX0_spread_35 : decode cX0_spread 35 = .ok (.idiv, 1) := by decide +kernel
theorem dX0_spread_36 : decode cX0_spread 36 = .ok (.istore 4, 2) := by decide +kernel
theorem dX0_spread_38 : decode cX0_spread 38 = .ok (.iinc 5 (-1), 3) := by decide +kernel
theorem dX0_spread_41 : decode cX0_spread 41 = .ok (.goto (-26), 3) := by decide +kernel
theorem dX0_spread_44 : decode cX0_spread 44 = .ok (.iconst 0, 1) := by decide +kernel
theorem dX0_spread_45 : decode cX0_spread 45 = .ok (.istore 5, 2) := by decide +kernel
theorem dX0_spread_47 : decode cX0_spread 47 = .ok (.iload 5, 2) := by decide +kernel
theorem dX0_spread_49 : decode cX0_spread 49 = .ok (.iconst 3, 1) := by decide +kernel
theorem dX0_spread_50 : decode cX0_spread 50 = .ok (.if_icmp .ge 41, 3) := by decide +kernel
theorem dX0_spread_53 : decode cX0_spread 53 = .ok (.aload_n 3, 1) := by decide +kernel
theorem dX0_spread_54 : decode cX0_spread 54 = .ok (.iload 5, 2) := by decide +kernel
theorem dX0_spread_56 : decode cX0_spread 56 = .ok (.iload_n 0, 1) := by decide +kernel
theorem dX0_spread_57 : decode cX0_spread 57 = .ok (.i2l, 1) := by decide +kernel
theorem dX0_spread_58 : decode cX0_spread 58 = .ok (.bipush 10, 2) := by decide +kernel
theorem dX0_spread_60 : decode cX0_spread 60 = .ok (.iconst 2, 1) := by decide +kernel
theorem dX0_spread_61 : decode cX0_spread 61 = .ok (.iload 5, 2) := by decide +kernel
theorem dX0_spread_63 : decode cX0_spread 63 = .ok (.isub, 1) := by decide +kernel
theorem dX0_spread_64 : decode cX0_spread 64 = .ok (.invokestatic 51, 3) := by decide +kernel
theorem dX0_spread_67 : decode cX0_spread 67 = .ok (.iastore, 1) := by decide +kernel
theorem dX0_spread_68 : decode cX0_spread 68 = .ok (.aload_n 3, 1) := by decide +kernel
theorem dX0_spread_69 : decode cX0_spread 69 = .ok (.iload 5, 2) := by decide +kernel
theorem dX0_spread_71 : decode cX0_spread 71 = .ok (.iconst 3, 1) := by decide +kernel
theorem dX0_spread_72 : decode cX0_spread 72 = .ok (.iadd, 1) := by decide +kernel
theorem dX0_spread_73 : decode cX0_spread 73 = .ok (.iload_n 1, 1) := by decide +kernel
theorem dX0_spread_74 : decode cX0_spread 74 = .ok (.i2l, 1) := by decide +kernel
theorem dX0_spread_75 : decode cX0_spread 75 = .ok (.bipush 10, 2) := by decide +kernel
theorem dX0_spread_77 : decode cX0_spread 77 = .ok (.iconst 2, 1) := by decide +kernel
theorem dX0_spread_78 : decode cX0_spread 78 = .ok (.iload 5, 2) := by decide +kernel
theorem dX0_spread_80 : decode cX0_spread 80 = .ok (.isub, 1) := by decide +kernel
theorem dX0_spread_81 : decode cX0_spread 81 = .ok (.invokestatic 51, 3) := by decide +kernel
theorem dX0_spread_84 : decode cX0_spread 84 = .ok (.iastore, 1) := by decide +kernel
theorem dX0_spread_85 : decode cX0_spread 85 = .ok (.iinc 5 1, 3) := by decide +kernel
theorem dX0_spread_88 : decode cX0_spread 88 = .ok (.goto (-41), 3) := by decide +kernel
theorem dX0_spread_91 : decode cX0_spread 91 = .ok (.return_, 1) := by decide +kernel
theorem dX0_isBlank_0 : decode cX0_isBlank 0 = .ok (.aload_n 0, 1) := by decide +kernel
theorem dX0_isBlank_1 : decode cX0_isBlank 1 = .ok (.getfield 44, 3) := by decide +kernel
theorem dX0_isBlank_4 : decode cX0_isBlank 4 = .ok (.iload_n 1, 1) := by decide +kernel
theorem dX0_isBlank_5 : decode cX0_isBlank 5 = .ok (.ishr, 1) := by decide +kernel
theorem dX0_isBlank_6 : decode cX0_isBlank 6 = .ok (.iconst 1, 1) := by decide +kernel
theorem dX0_isBlank_7 : decode cX0_isBlank 7 = .ok (.iand, 1) := by decide +kernel
theorem dX0_isBlank_8 : decode cX0_isBlank 8 = .ok (.ifCond .eq 7, 3) := by decide +kernel
theorem dX0_isBlank_11 : decode cX0_isBlank 11 = .ok (.iconst 1, 1) := by decide +kernel
theorem dX0_isBlank_12 : decode cX0_isBlank 12 = .ok (.goto 4, 3) := by decide +kernel
theorem dX0_isBlank_15 : decode cX0_isBlank 15 = .ok (.iconst 0, 1) := by decide +kernel
theorem dX0_isBlank_16 : decode cX0_isBlank 16 = .ok (.ireturn, 1) := by decide +kernel
theorem dX0_fits_0 : decode cX0_fits 0 = .ok (.iload_n 1, 1) := by decide +kernel
theorem dX0_fits_1 : decode cX0_fits 1 = .ok (.istore_n 2, 1) := by decide +kernel
theorem dX0_fits_2 : decode cX0_fits 2 = .ok (.bipush 11, 2) := by decide +kernel
theorem dX0_fits_4 : decode cX0_fits 4 = .ok (.istore_n 3, 1) := by decide +kernel
theorem dX0_fits_5 : decode cX0_fits 5 = .ok (.iload_n 3, 1) := by decide +kernel
theorem dX0_fits_6 : decode cX0_fits 6 = .ok (.bipush 6, 2) := by decide +kernel
theorem dX0_fits_8 : decode cX0_fits 8 = .ok (.if_icmp .lt 37, 3) := by decide +kernel
theorem dX0_fits_11 : decode cX0_fits 11 = .ok (.aload_n 0, 1) := by decide +kernel
theorem dX0_fits_12 : decode cX0_fits 12 = .ok (.iload_n 3, 1) := by decide +kernel
theorem dX0_fits_13 : decode cX0_fits 13 = .ok (.invokevirtual 57, 3) := by decide +kernel
theorem dX0_fits_16 : decode cX0_fits 16 = .ok (.ifCond .ne 18, 3) := by decide +kernel
theorem dX0_fits_19 : decode cX0_fits 19 = .ok (.aload_n 0, 1) := by decide +kernel
theorem dX0_fits_20 : decode cX0_fits 20 = .ok (.getfield 9, 3) := by decide +kernel
theorem dX0_fits_23 : decode cX0_fits 23 = .ok (.iload_n 3, 1) := by decide +kernel
theorem dX0_fits_24 : decode cX0_fits 24 = .ok (.iaload, 1) := by decide +kernel
theorem dX0_fits_25 : decode cX0_fits 25 = .ok (.iload_n 2, 1) := by decide +kernel
theorem dX0_fits_26 : decode cX0_fits 26 = .ok (.bipush 10, 2) := by decide +kernel
theorem dX0_fits_28 : decode cX0_fits 28 = .ok (.irem, 1) := by decide +kernel
theorem dX0_fits_29 : decode cX0_fits 29 = .ok (.if_icmp .eq 5, 3) := by decide +kernel
theorem dX0_fits_32 : decode cX0_fits 32 = .ok (.iconst 0, 1) := by decide +kernel
theorem dX0_fits_33 : decode cX0_fits 33 = .ok (.ireturn, 1) := by decide +kernel
theorem dX0_fits_34 : decode cX0_fits 34 = .ok (.iload_n 2, 1) := by decide +kernel
theorem dX0_fits_35 : decode cX0_fits 35 = .ok (.bipush 10, 2) := by decide +kernel
theorem dX0_fits_37 : decode cX0_fits 37 = .ok (.idiv, 1) := by decide +kernel
theorem dX0_fits_38 : decode cX0_fits 38 = .ok (.istore_n 2, 1) := by decide +kernel
theorem dX0_fits_39 : decode cX0_fits 39 = .ok (.iinc 3 (-1), 3) := by decide +kernel
theorem dX0_fits_42 : decode cX0_fits 42 = .ok (.goto (-37), 3) := by decide +kernel
theorem dX0_fits_45 : decode cX0_fits 45 = .ok (.iload_n 1, 1) := by decide +kernel
theorem dX0_fits_46 : decode cX0_fits 46 = .ok (.ifCond .lt 7, 3) := by decide +kernel
theorem dX0_fits_49 : decode cX0_fits 49 = .ok (.iconst 1, 1) := by decide +kernel
theorem dX0_fits_50 : decode cX0_fits 50 = .ok (.goto 4, 3) := by decide +kernel
theorem dX0_fits_53 : decode cX0_fits 53 = .ok (.iconst 0, 1) := by decide +kernel
theorem dX0_fits_54 : decode cX0_fits 54 = .ok (.ireturn, 1) := by decide +kernel
theorem dX0_solve_0 : decode cX0_solve 0 = .ok (.aload_n 0, 1) := by decide +kernel
theorem dX0_solve_1 : decode cX0_solve 1 = .ok (.iconst 0, 1) := by decide +kernel
theorem dX0_solve_2 : decode cX0_solve 2 = .ok (.iconst 0, 1) := by decide +kernel
theorem dX0_solve_3 : decode cX0_solve 3 = .ok (.invokevirtual 61, 3) := by decide +kernel
theorem dX0_solve_6 : decode cX0_solve 6 = .ok (.aload_n 0, 1) := by decide +kernel
theorem dX0_solve_7 : decode cX0_solve 7 = .ok (.getfield 13, 3) := by decide +kernel
theorem dX0_solve_10 : decode cX0_solve 10 = .ok (.ifCond .lt 49, 3) := by decide +kernel
theorem dX0_solve_13 : decode cX0_solve 13 = .ok (.aload_n 0, 1) := by decide +kernel
theorem dX0_solve_14 : decode cX0_solve 14 = .ok (.getfield 13, 3) := by decide +kernel
theorem dX0_solve_17 : decode cX0_solve 17 = .ok (.sipush 1000, 3) := by decide +kernel
theorem dX0_solve_20 : decode cX0_solve 20 = .ok (.idiv, 1) := by decide +kernel
theorem dX0_solve_21 : decode cX0_solve 21 = .ok (.aload_n 0, 1) := by decide +kernel
theorem dX0_solve_22 : decode cX0_solve 22 = .ok (.getfield 13, 3) := by decide +kernel
theorem dX0_solve_25 : decode cX0_solve 25 = .ok (.sipush 1000, 3) := by decide +kernel
theorem dX0_solve_28 : decode cX0_solve 28 = .ok (.irem, 1) := by decide +kernel
theorem dX0_solve_29 : decode cX0_solve 29 = .ok (.aload_n 0, 1) := by decide +kernel
theorem dX0_solve_30 : decode cX0_solve 30 = .ok (.getfield 17, 3) := by decide +kernel
theorem dX0_solve_33 : decode cX0_solve 33 = .ok (.aload_n 0, 1) := by decide +kernel
theorem dX0_solve_34 : decode cX0_solve 34 = .ok (.getfield 13, 3) := by decide +kernel
theorem dX0_solve_37 : decode cX0_solve 37 = .ok (.sipush 1000, 3) := by decide +kernel
theorem dX0_solve_40 : decode cX0_solve 40 = .ok (.idiv, 1) := by decide +kernel
theorem dX0_solve_41 : decode cX0_solve 41 = .ok (.aload_n 0, 1) := by decide +kernel
theorem dX0_solve_42 : decode cX0_solve 42 = .ok (.getfield 13, 3) := by decide +kernel
theorem dX0_solve_45 : decode cX0_solve 45 = .ok (.sipush 1000, 3) := by decide +kernel
theorem dX0_solve_48 : decode cX0_solve 48 = .ok (.irem, 1) := by decide +kernel
theorem dX0_solve_49 : decode cX0_solve 49 = .ok (.invokestatic 36, 3) := by decide +kernel
theorem dX0_solve_52 : decode cX0_solve 52 = .ok (.aload_n 0, 1) := by decide +kernel
theorem dX0_solve_53 : decode cX0_solve 53 = .ok (.getfield 9, 3) := by decide +kernel
theorem dX0_solve_56 : decode cX0_solve 56 = .ok (.invokestatic 40, 3) := by decide +kernel
theorem dX0_solve_59 : decode cX0_solve 59 = .ok (.return_, 1) := by decide +kernel
theorem dX0_tryFrom_0 : decode cX0_tryFrom 0 = .ok (.iload_n 1, 1) := by decide +kernel
theorem dX0_tryFrom_1 : decode cX0_tryFrom 1 = .ok (.ifCond .lt 9, 3) := by decide +kernel
theorem dX0_tryFrom_4 : decode cX0_tryFrom 4 = .ok (.iload_n 1, 1) := by decide +kernel
theorem dX0_tryFrom_5 : decode cX0_tryFrom 5 = .ok (.bipush 6, 2) := by decide +kernel
theorem dX0_tryFrom_7 : decode cX0_tryFrom 7 = .ok (.if_icmp .lt 9, 3) := by decide +kernel
theorem dX0_tryFrom_10 : decode cX0_tryFrom 10 = .ok (.aload_n 0, 1) := by decide +kernel
theorem dX0_tryFrom_11 : decode cX0_tryFrom 11 = .ok (.iload_n 2, 1) := by decide +kernel
theorem dX0_tryFrom_12 : decode cX0_tryFrom 12 = .ok (.invokevirtual 65, 3) := by decide +kernel
theorem dX0_tryFrom_15 : decode cX0_tryFrom 15 = .ok (.return_, 1) := by decide +kernel
theorem dX0_tryFrom_16 : decode cX0_tryFrom 16 = .ok (.aload_n 0, 1) := by decide +kernel
theorem dX0_tryFrom_17 : decode cX0_tryFrom 17 = .ok (.iload_n 1, 1) := by decide +kernel
theorem dX0_tryFrom_18 : decode cX0_tryFrom 18 = .ok (.invokevirtual 57, 3) := by decide +kernel
theorem dX0_tryFrom_21 : decode cX0_tryFrom 21 = .ok (.ifCond .eq 7, 3) := by decide +kernel
theorem dX0_tryFrom_24 : decode cX0_tryFrom 24 = .ok (.iconst 0, 1) := by decide +kernel
theorem dX0_tryFrom_25 : decode cX0_tryFrom 25 = .ok (.goto 9, 3) := by decide +kernel
theorem dX0_tryFrom_28 : decode cX0_tryFrom 28 = .ok (.aload_n 0, 1) := by decide +kernel
theorem dX0_tryFrom_29 : decode cX0_tryFrom 29 = .ok (.getfield 9, 3) := by decide +kernel
theorem dX0_tryFrom_32 : decode cX0_tryFrom 32 = .ok (.iload_n 1, 1) := by decide +kernel
theorem dX0_tryFrom_33 : decode cX0_tryFrom 33 = .ok (.iaload, 1) := by decide +kernel
theorem dX0_tryFrom_34 : decode cX0_tryFrom 34 = .ok (.istore_n 3, 1) := by decide +kernel
theorem dX0_tryFrom_35 : decode cX0_tryFrom 35 = .ok (.aload_n 0, 1) := by decide +kernel
theorem dX0_tryFrom_36 : decode cX0_tryFrom 36 = .ok (.iload_n 1, 1) := by decide +kernel
theorem dX0_tryFrom_37 : decode cX0_tryFrom 37 = .ok (.invokevirtual 57, 3) := by decide +kernel
theorem dX0_tryFrom_40 : decode cX0_tryFrom 40 = .ok (.ifCond .eq 8, 3) := by decide +kernel
theorem dX0_tryFrom_43 : decode cX0_tryFrom 43 = .ok (.bipush 9, 2) := by decide +kernel
theorem dX0_tryFrom_45 : decode cX0_tryFrom 45 = .ok (.goto 9, 3) := by decide +kernel
theorem dX0_tryFrom_48 : decode cX0_tryFrom 48 = .ok (.aload_n 0, 1) := by decide +kernel
theorem dX0_tryFrom_49 : decode cX0_tryFrom 49 = .ok (.getfield 9, 3) := by decide +kernel
theorem dX0_tryFrom_52 : decode cX0_tryFrom 52 = .ok (.iload_n 1, 1) := by decide +kernel
theorem dX0_tryFrom_53 : decode cX0_tryFrom 53 = .ok (.iaload, 1) := by decide +kernel
theorem dX0_tryFrom_54 : decode cX0_tryFrom 54 = .ok (.istore 4, 2) := by decide +kernel
theorem dX0_tryFrom_56 : decode cX0_tryFrom 56 = .ok (.iload_n 3, 1) := by decide +kernel
theorem dX0_tryFrom_57 : decode cX0_tryFrom 57 = .ok (.istore 5, 2) := by decide +kernel
theorem dX0_tryFrom_59 : decode cX0_tryFrom 59 = .ok (.iload 5, 2) := by decide +kernel
theorem dX0_tryFrom_61 : decode cX0_tryFrom 61 = .ok (.iload 4, 2) := by decide +kernel
theorem dX0_tryFrom_63 : decode cX0_tryFrom 63 = .ok (.if_icmp .gt 26, 3) := by decide +kernel
theorem dX0_tryFrom_66 : decode cX0_tryFrom 66 = .ok (.aload_n 0, 1) := by decide +kernel
theorem dX0_tryFrom_67 : decode cX0_tryFrom 67 = .ok (.iload_n 1, 1) := by decide +kernel
theorem dX0_tryFrom_68 : decode cX0_tryFrom 68 = .ok (.iconst 1, 1) := by decide +kernel
theorem dX0_tryFrom_69 : decode cX0_tryFrom 69 = .ok (.iadd, 1) := by decide +kernel
theorem dX0_tryFrom_70 : decode cX0_tryFrom 70 = .ok (.iload_n 2, 1) := by decide +kernel
theorem dX0_tryFrom_71 : decode cX0_tryFrom 71 = .ok (.getstatic 69, 3) := by decide +kernel
theorem dX0_tryFrom_74 : decode cX0_tryFrom 74 = .ok (.iload_n 1, 1) := by decide +kernel
theorem dX0_tryFrom_75 : decode cX0_tryFrom 75 = .ok (.iaload, 1) := by decide +kernel
theorem dX0_tryFrom_76 : decode cX0_tryFrom 76 = .ok (.iload 5, 2) := by decide +kernel
theorem dX0_tryFrom_78 : decode cX0_tryFrom 78 = .ok (.imul, 1) := by decide +kernel
theorem dX0_tryFrom_79 : decode cX0_tryFrom 79 = .ok (.iadd, 1) := by decide +kernel
theorem dX0_tryFrom_80 : decode cX0_tryFrom 80 = .ok (.invokevirtual 61, 3) := by decide +kernel
theorem dX0_tryFrom_83 : decode cX0_tryFrom 83 = .ok (.iinc 5 1, 3) := by decide +kernel
theorem dX0_tryFrom_86 : decode cX0_tryFrom 86 = .ok (.goto (-27), 3) := by decide +kernel
theorem dX0_tryFrom_89 : decode cX0_tryFrom 89 = .ok (.return_, 1) := by decide +kernel
theorem dX0_note_0 : decode cX0_note 0 = .ok (.aload_n 0, 1) := by decide +kernel
theorem dX0_note_1 : decode cX0_note 1 = .ok (.aload_n 0, 1) := by decide +kernel
theorem dX0_note_2 : decode cX0_note 2 = .ok (.getfield 17, 3) := by decide +kernel
theorem dX0_note_5 : decode cX0_note 5 = .ok (.iload_n 1, 1) := by decide +kernel
theorem dX0_note_6 : decode cX0_note 6 = .ok (.sipush 1000, 3) := by decide +kernel
theorem dX0_note_9 : decode cX0_note 9 = .ok (.idiv, 1) := by decide +kernel
theorem dX0_note_10 : decode cX0_note 10 = .ok (.iload_n 1, 1) := by decide +kernel
theorem dX0_note_11 : decode cX0_note 11 = .ok (.sipush 1000, 3) := by decide +kernel
theorem dX0_note_14 : decode cX0_note 14 = .ok (.irem, 1) := by decide +kernel
theorem dX0_note_15 : decode cX0_note 15 = .ok (.invokestatic 36, 3) := by decide +kernel
theorem dX0_note_18 : decode cX0_note 18 = .ok (.invokevirtual 72, 3) := by decide +kernel
theorem dX0_note_21 : decode cX0_note 21 = .ok (.ifCond .eq 32, 3) := by decide +kernel
theorem dX0_note_24 : decode cX0_note 24 = .ok (.aload_n 0, 1) := by decide +kernel
theorem dX0_note_25 : decode cX0_note 25 = .ok (.aload_n 0, 1) := by decide +kernel
theorem dX0_note_26 : decode cX0_note 26 = .ok (.getfield 13, 3) := by decide +kernel
theorem dX0_note_29 : decode cX0_note 29 = .ok (.ifCond .ge 7, 3) := by decide +kernel
theorem dX0_note_32 : decode cX0_note 32 = .ok (.iload_n 1, 1) := by decide +kernel
theorem dX0_note_33 : decode cX0_note 33 = .ok (.goto 7, 3) := by decide +kernel
theorem dX0_note_36 : decode cX0_note 36 = .ok (.aload_n 0, 1) := by decide +kernel
theorem dX0_note_37 : decode cX0_note 37 = .ok (.getfield 13, 3) := by decide +kernel
theorem dX0_note_40 : decode cX0_note 40 = .ok (.putfield 13, 3) := by decide +kernel
theorem dX0_note_43 : decode cX0_note 43 = .ok (.aload_n 0, 1) := by decide +kernel
theorem dX0_note_44 : decode cX0_note 44 = .ok (.dup, 1) := by decide +kernel
theorem dX0_note_45 : decode cX0_note 45 = .ok (.getfield 75, 3) := by decide +kernel
theorem dX0_note_48 : decode cX0_note 48 = .ok (.iconst 1, 1) := by decide +kernel
theorem dX0_note_49 : decode cX0_note 49 = .ok (.iadd, 1) := by decide +kernel
theorem dX0_note_50 : decode cX0_note 50 = .ok (.putfield 75, 3) := by decide +kernel
theorem dX0_note_53 : decode cX0_note 53 = .ok (.return_, 1) := by decide +kernel
theorem dX1_init_0 : decode cX1_init 0 = .ok (.aload_n 0, 1) := by decide +kernel
theorem dX1_init_1 : decode cX1_init 1 = .ok (.invokespecial 3, 3) := by decide +kernel
theorem dX1_init_4 : decode cX1_init 4 = .ok (.aload_n 0, 1) := by decide +kernel
theorem dX1_init_5 : decode cX1_init 5 = .ok (.iload_n 1, 1) := by decide +kernel
theorem dX1_init_6 : decode cX1_init 6 = .ok (.putfield 9, 3) := by decide +kernel
theorem dX1_init_9 : decode cX1_init 9 = .ok (.aload_n 0, 1) := by decide +kernel
theorem dX1_init_10 : decode cX1_init 10 = .ok (.iload_n 2, 1) := by decide +kernel
theorem dX1_init_11 : decode cX1_init 11 = .ok (.putfield 15, 3) := by decide +kernel
theorem dX1_init_14 : decode cX1_init 14 = .ok (.aload_n 0, 1) := by decide +kernel
theorem dX1_init_15 : decode cX1_init 15 = .ok (.iload_n 2, 1) := by decide +kernel
theorem dX1_init_16 : decode cX1_init 16 = .ok (.invokestatic 18, 3) := by decide +kernel
theorem dX1_init_19 : decode cX1_init 19 = .ok (.putfield 22, 3) := by decide +kernel
theorem dX1_init_22 : decode cX1_init 22 = .ok (.aload_n 0, 1) := by decide +kernel
theorem dX1_init_23 : decode cX1_init 23 = .ok (.iconst 0, 1) := by decide +kernel
theorem dX1_init_24 : decode cX1_init 24 = .ok (.putfield 25, 3) := by decide +kernel
theorem dX1_init_27 : decode cX1_init 27 = .ok (.aload_n 0, 1) := by decide +kernel
theorem dX1_init_28 : decode cX1_init 28 = .ok (.iconst 1, 1) := by decide +kernel
theorem dX1_init_29 : decode cX1_init 29 = .ok (.iload_n 1, 1) := by decide +kernel
theorem dX1_init_30 : decode cX1_init 30 = .ok (.ishl, 1) := by decide +kernel
theorem dX1_init_31 : decode cX1_init 31 = .ok (.putfield 28, 3) := by decide +kernel
theorem dX1_init_34 : decode cX1_init 34 = .ok (.aload_n 0, 1) := by decide +kernel
theorem dX1_init_35 : decode cX1_init 35 = .ok (.iload_n 3, 1) := by decide +kernel
theorem dX1_init_36 : decode cX1_init 36 = .ok (.iconst 0, 1) := by decide +kernel
theorem dX1_init_37 : decode cX1_init 37 = .ok (.invokestatic 31, 3) := by decide +kernel
theorem dX1_init_40 : decode cX1_init 40 = .ok (.anewarray 37, 3) := by decide +kernel
theorem dX1_init_43 : decode cX1_init 43 = .ok (.putfield 39, 3) := by decide +kernel
theorem dX1_init_46 : decode cX1_init 46 = .ok (.iconst 0, 1) := by decide +kernel
theorem dX1_init_47 : decode cX1_init 47 = .ok (.istore 4, 2) := by decide +kernel
theorem dX1_init_49 : decode cX1_init 49 = .ok (.iload 4, 2) := by decide +kernel
theorem dX1_init_51 : decode cX1_init 51 = .ok (.aload_n 0, 1) := by decide +kernel
theorem dX1_init_52 : decode cX1_init 52 = .ok (.getfield 39, 3) := by decide +kernel
theorem dX1_init_55 : decode cX1_init 55 = .ok (.arraylength, 1) := by decide +kernel
theorem dX1_init_56 : decode cX1_init 56 = .ok (.if_icmp .ge 24, 3) := by decide +kernel
theorem dX1_init_59 : decode cX1_init 59 = .ok (.aload_n 0, 1) := by decide +kernel
theorem dX1_init_60 : decode cX1_init 60 = .ok (.getfield 39, 3) := by decide +kernel
theorem dX1_init_63 : decode cX1_init 63 = .ok (.iload 4, 2) := by decide +kernel
theorem dX1_init_65 : decode cX1_init 65 = .ok (.new 37, 3) := by decide +kernel
theorem dX1_init_68 : decode cX1_init 68 = .ok (.dup, 1) := by decide +kernel
theorem dX1_init_69 : decode cX1_init 69 = .ok (.iload_n 2, 1) := by decide +kernel
theorem dX1_init_70 : decode cX1_init 70 = .ok (.invokespecial 43, 3) := by decide +kernel
theorem dX1_init_73 : decode cX1_init 73 = .ok (.aastore, 1) := by decide +kernel
theorem dX1_init_74 : decode cX1_init 74 = .ok (.iinc 4 1, 3) := by decide +kernel
theorem dX1_init_77 : decode cX1_init 77 = .ok (.goto (-28), 3) := by decide +kernel
theorem dX1_init_80 : decode cX1_init 80 = .ok (.aload_n 0, 1) := by decide +kernel
theorem dX1_init_81 : decode cX1_init 81 = .ok (.aconst_null, 1) := by decide +kernel
theorem dX1_init_82 : decode cX1_init 82 = .ok (.putfield 46, 3) := by decide +kernel
theorem dX1_init_85 : decode cX1_init 85 = .ok (.aload_n 0, 1) := by decide +kernel
theorem dX1_init_86 : decode cX1_init 86 = .ok (.aconst_null, 1) := by decide +kernel
theorem dX1_init_87 : decode cX1_init 87 = .ok (.putfield 50, 3) := by decide +kernel
theorem dX1_init_90 : decode cX1_init 90 = .ok (.return_, 1) := by decide +kernel
theorem dX1_init__0 : decode cX1_init_ 0 = .ok (.aload_n 0, 1) := by decide +kernel
theorem dX1_init__1 : decode cX1_init_ 1 = .ok (.invokespecial 3, 3) := by decide +kernel
theorem dX1_init__4 : decode cX1_init_ 4 = .ok (.aload_n 0, 1) := by decide +kernel
theorem dX1_init__5 : decode cX1_init_ 5 = .ok (.iload_n 1, 1) := by decide +kernel
theorem dX1_init__6 : decode cX1_init_ 6 = .ok (.putfield 9, 3) := by decide +kernel
theorem dX1_init__9 : decode cX1_init_ 9 = .ok (.aload_n 0, 1) := by decide +kernel
theorem dX1_init__10 : decode cX1_init_ 10 = .ok (.iconst 4, 1) := by decide +kernel
theorem dX1_init__11 : decode cX1_init_ 11 = .ok (.putfield 15, 3) := by decide +kernel
theorem dX1_init__14 : decode cX1_init_ 14 = .ok (.aload_n 0, 1) := by decide +kernel
theorem dX1_init__15 : decode cX1_init_ 15 = .ok (.aload_n 2, 1) := by decide +kernel
theorem dX1_init__16 : decode cX1_init_ 16 = .ok (.getfield 22, 3) := by decide +kernel
theorem dX1_init__19 : decode cX1_init_ 19 = .ok (.putfield 22, 3) := by decide +kernel
theorem dX1_init__22 : decode cX1_init_ 22 = .ok (.aload_n 0, 1) := by decide +kernel
theorem dX1_init__23 : decode cX1_init_ 23 = .ok (.iconst 1, 1) := by decide +kernel
theorem dX1_init__24 : decode cX1_init_ 24 = .ok (.aload_n 2, 1) := by decide +kernel
theorem dX1_init__25 : decode cX1_init_ 25 = .ok (.getfield 25, 3) := by decide +kernel
theorem dX1_init__28 : decode cX1_init_ 28 = .ok (.aload_n 3, 1) := by decide +kernel
theorem dX1_init__29 : decode cX1_init_ 29 = .ok (.getfield 25, 3) := by decide +kernel
theorem dX1_init__32 : decode cX1_init_ 32 = .ok (.invokestatic 31, 3) := by decide +kernel
theorem dX1_init__35 : decode cX1_init_ 35 = .ok (.iadd, 1) := by decide +kernel
theorem dX1_init__36 : decode cX1_init_ 36 = .ok (.putfield 25, 3) := by decide +kernel
theorem dX1_init__39 : decode cX1_init_ 39 = .ok (.aload_n 0, 1) := by decide +kernel
theorem dX1_init__40 : decode cX1_init_ 40 = .ok (.aload_n 2, 1) := by decide +kernel
theorem dX1_init__41 : decode cX1_init_ 41 = .ok (.getfield 28, 3) := by decide +kernel
theorem dX1_init__44 : decode cX1_init_ 44 = .ok (.aload_n 3, 1) := by decide +kernel
theorem dX1_init__45 : decode cX1_init_ 45 = .ok (.getfield 28, 3) := by decide +kernel
theorem dX1_init__48 : decode cX1_init_ 48 = .ok (.ior, 1) := by decide +kernel
theorem dX1_init__49 : decode cX1_init_ 49 = .ok (.iconst 1, 1) := by decide +kernel
theorem dX1_init__50 : decode cX1_init_ 50 = .ok (.iload_n 1, 1) := by decide +kernel
theorem dX1_init__51 : decode cX1_init_ 51 = .ok (.ishl, 1) := by decide +kernel
theorem dX1_init__52 : decode cX1_init_ 52 = .ok (.ior, 1) := by decide +kernel
theorem dX1_init__53 : decode cX1_init_ 53 = .ok (.putfield 28, 3) := by decide +kernel
theorem dX1_init__56 : decode cX1_init_ 56 = .ok (.aload_n 3, 1) := by decide +kernel
theorem dX1_init__57 : decode cX1_init_ 57 = .ok (.getfield 39, 3) := by decide +kernel
theorem dX1_init__60 : decode cX1_init_ 60 = .ok (.arraylength, 1) := by decide +kernel
theorem dX1_init__61 : decode cX1_init_ 61 = .ok (.istore 4, 2) := by decide +kernel
theorem dX1_init__63 : decode cX1_init_ 63 = .ok (.aload_n 0, 1) := by decide +kernel
theorem dX1_init__64 : decode cX1_init_ 64 = .ok (.iload 4, 2) := by decide +kernel
theorem dX1_init__66 : decode cX1_init_ 66 = .ok (.aload_n 2, 1) := by decide +kernel
theorem dX1_init__67 : decode cX1_init_ 67 = .ok (.getfield 39, 3) := by decide +kernel
theorem dX1_init__70 : decode cX1_init_ 70 = .ok (.arraylength, 1) := by decide +kernel
theorem dX1_init__71 : decode cX1_init_ 71 = .ok (.iadd, 1) := by decide +kernel
theorem dX1_init__72 : decode cX1_init_ 72 = .ok (.anewarray 37, 3) := by decide +kernel
theorem dX1_init__75 : decode cX1_init_ 75 = .ok (.putfield 39, 3) := by decide +kernel
theorem dX1_init__78 : decode cX1_init_ 78 = .ok (.iconst 0, 1) := by decide +kernel
theorem dX1_init__79 : decode cX1_init_ 79 = .ok (.istore 5, 2) := by decide +kernel
theorem dX1_init__81 : decode cX1_init_ 81 = .ok (.iload 5, 2) := by decide +kernel
theorem dX1_init__83 : decode cX1_init_ 83 = .ok (.aload_n 0, 1) := by decide +kernel
theorem dX1_init__84 : decode cX1_init_ 84 = .ok (.getfield 39, 3) := by decide +kernel
theorem dX1_init__87 : decode cX1_init_ 87 = .ok (.arraylength, 1) := by decide +kernel
theorem dX1_init__88 : decode cX1_init_ 88 = .ok (.if_icmp .ge 43, 3) := by decide +kernel
theorem dX1_init__91 : decode cX1_init_ 91 = .ok (.aload_n 0, 1) := by decide +kernel
theorem dX1_init__92 : decode cX1_init_ 92 = .ok (.getfield 39, 3) := by decide +kernel
theorem dX1_init__95 : decode cX1_init_ 95 = .ok (.iload 5, 2) := by decide +kernel
theorem dX1_init__97 : decode cX1_init_ 97 = .ok (.iload 5, 2) := by decide +kernel
theorem dX1_init__99 : decode cX1_init_ 99 = .ok (.iload 4, 2) := by decide +kernel
theorem dX1_init__101 : decode cX1_init_ 101 = .ok (.if_icmp .ge 13, 3) := by decide +kernel
theorem dX1_init__104 : decode cX1_init_ 104 = .ok (.aload_n 3, 1) := by decide +kernel
theorem dX1_init__105 : decode cX1_init_ 105 = .ok (.getfield 39, 3) := by decide +kernel
theorem dX1_init__108 : decode cX1_init_ 108 = .ok (.iload 5, 2) := by decide +kernel
theorem dX1_init__110 : decode cX1_init_ 110 = .ok (.aaload, 1) := by decide +kernel
theorem dX1_init__111 : decode cX1_init_ 111 = .ok (.goto 13, 3) := by decide +kernel
theorem dX1_init__114 : decode cX1_init_ 114 = .ok (.aload_n 2, 1) := by decide +kernel
theorem dX1_init__115 : decode cX1_init_ 115 = .ok (.getfield 39, 3) := by decide +kernel
theorem dX1_init__118 : decode cX1_init_ 118 = .ok (.iload 5, 2) := by decide +kernel
theorem dX1_init__120 : decode cX1_init_ 120 = .ok (.iload 4, 2) := by decide +kernel
theorem dX1_init__122 : decode cX1_init_ 122 = .ok (.isub, 1) := by decide +kernel
theorem dX1_init__123 : decode cX1_init_ 123 = .ok (.aaload, 1) := by decide +kernel
theorem dX1_init__124 : decode cX1_init_ 124 = .ok (.aastore, 1) := by decide +kernel
theorem dX1_init__125 : decode cX1_init_ 125 = .ok (.iinc 5 1, 3) := by decide +kernel
theorem dX1_init__128 : decode cX1_init_ 128 = .ok (.goto (-47), 3) := by decide +kernel
theorem dX1_init__131 : decode cX1_init_ 131 = .ok (.aload_n 0, 1) := by decide +kernel
theorem dX1_init__132 : decode cX1_init_ 132 = .ok (.aload_n 2, 1) := by decide +kernel
theorem dX1_init__133 : decode cX1_init_ 133 = .ok (.putfield 46, 3) := by decide +kernel
theorem dX1_init__136 : decode cX1_init_ 136 = .ok (.aload_n 0, 1) := by decide +kernel
theorem dX1_init__137 : decode cX1_init_ 137 = .ok (.aload_n 3, 1) := by decide +kernel
theorem dX1_init__138 : decode cX1_init_ 138 = .ok (.putfield 50, 3) := by decide +kernel
theorem dX1_init__141 : decode cX1_init_ 141 = .ok (.return_, 1) := by decide +kernel
theorem dX1_holds_0 : decode cX1_holds 0 = .ok (.iload_n 1, 1) := by decide +kernel
theorem dX1_holds_1 : decode cX1_holds 1 = .ok (.ifCond .lt 16, 3) := by decide +kernel
theorem dX1_holds_4 : decode cX1_holds 4 = .ok (.iload_n 1, 1) := by decide +kernel
theorem dX1_holds_5 : decode cX1_holds 5 = .ok (.aload_n 0, 1) := by decide +kernel
theorem dX1_holds_6 : decode cX1_holds 6 = .ok (.getfield 39, 3) := by decide +kernel
theorem dX1_holds_9 : decode cX1_holds 9 = .ok (.arraylength, 1) := by decide +kernel
theorem dX1_holds_10 : decode cX1_holds 10 = .ok (.if_icmp .ge 7, 3) := by decide +kernel
theorem dX1_holds_13 : decode cX1_holds 13 = .ok (.iconst 1, 1) := by decide +kernel
theorem dX1_holds_14 : decode cX1_holds 14 = .ok (.goto 4, 3) := by decide +kernel
theorem dX1_holds_17 : decode cX1_holds 17 = .ok (.iconst 0, 1) := by decide +kernel
theorem dX1_holds_18 : decode cX1_holds 18 = .ok (.ireturn, 1) := by decide +kernel
theorem dX1_holdsAll_0 : decode cX1_holdsAll 0 = .ok (.aload_n 0, 1) := by decide +kernel
theorem dX1_holdsAll_1 : decode cX1_holdsAll 1 = .ok (.getfield 39, 3) := by decide +kernel
theorem dX1_holdsAll_4 : decode cX1_holdsAll 4 = .ok (.arraylength, 1) := by decide +kernel
theorem dX1_holdsAll_5 : decode cX1_holdsAll 5 = .ok (.istore 4, 2) := by decide +kernel
theorem dX1_holdsAll_7 : decode cX1_holdsAll 7 = .ok (.iload_n 3, 1) := by decide +kernel
theorem dX1_holdsAll_8 : decode cX1_holdsAll 8 = .ok (.ifCond .lt 37, 3) := by decide +kernel
theorem dX1_holdsAll_11 : decode cX1_holdsAll 11 = .ok (.iload_n 3, 1) := by decide +kernel
theorem dX1_holdsAll_12 : decode cX1_holdsAll 12 = .ok (.iload 4, 2) := by decide +kernel
theorem dX1_holdsAll_14 : decode cX1_holdsAll 14 = .ok (.if_icmp .gt 31, 3) := by decide +kernel
theorem dX1_holdsAll_17 : decode cX1_holdsAll 17 = .ok (.iload_n 1, 1) := by decide +kernel
theorem dX1_holdsAll_18 : decode cX1_holdsAll 18 = .ok (.ifCond .lt 27, 3) := by decide +kernel
theorem dX1_holdsAll_21 : decode cX1_holdsAll 21 = .ok (.iload_n 1, 1) := by decide +kernel
theorem dX1_holdsAll_22 : decode cX1_holdsAll 22 = .ok (.iload 4, 2) := by decide +kernel
theorem dX1_holdsAll_24 : decode cX1_holdsAll 24 = .ok (.iload_n 3, 1) := by decide +kernel
theorem dX1_holdsAll_25 : decode cX1_holdsAll 25 = .ok (.isub, 1) := by decide +kernel
theorem dX1_holdsAll_26 : decode cX1_holdsAll 26 = .ok (.if_icmp .gt 19, 3) := by decide +kernel
theorem dX1_holdsAll_29 : decode cX1_holdsAll 29 = .ok (.iload_n 2, 1) := by decide +kernel
theorem dX1_holdsAll_30 : decode cX1_holdsAll 30 = .ok (.ifCond .lt 15, 3) := by decide +kernel
theorem dX1_holdsAll_33 : decode cX1_holdsAll 33 = .ok (.iload_n 2, 1) := by decide +kernel
theorem dX1_holdsAll_34 : decode cX1_holdsAll 34 = .ok (.iload 4, 2) := by decide +kernel
theorem dX1_holdsAll_36 : decode cX1_holdsAll 36 = .ok (.iload_n 3, 1) := by decide +kernel
theorem dX1_holdsAll_37 : decode cX1_holdsAll 37 = .ok (.isub, 1) := by decide +kernel
theorem dX1_holdsAll_38 : decode cX1_holdsAll 38 = .ok (.if_icmp .gt 7, 3) := by decide +kernel
theorem dX1_holdsAll_41 : decode cX1_holdsAll 41 = .ok (.iconst 1, 1) := by decide +kernel
theorem dX1_holdsAll_42 : decode cX1_holdsAll 42 = .ok (.goto 4, 3) := by decide +kernel
theorem dX1_holdsAll_45 : decode cX1_holdsAll 45 = .ok (.iconst 0, 1) := by decide +kernel
theorem dX1_holdsAll_46 : decode cX1_holdsAll 46 = .ok (.ireturn, 1) := by decide +kernel
theorem dX1_readFault_0 : decode cX1_readFault 0 = .ok (.aload_n 0, 1) := by decide +kernel
theorem dX1_readFault_1 : decode cX1_readFault 1 = .ok (.iload_n 1, 1) := by decide +kernel
theorem dX1_readFault_2 : decode cX1_readFault 2 = .ok (.invokevirtual 53, 3) := by decide +kernel
theorem dX1_readFault_5 : decode cX1_readFault 5 = .ok (.ifCond .eq 15, 3) := by decide +kernel
theorem dX1_readFault_8 : decode cX1_readFault 8 = .ok (.aload_n 0, 1) := by decide +kernel
theorem dX1_readFault_9 : decode cX1_readFault 9 = .ok (.getfield 39, 3) := by decide +kernel
theorem dX1_readFault_12 : decode cX1_readFault 12 = .ok (.iload_n 1, 1) := by decide +kernel
theorem dX1_readFault_13 : decode cX1_readFault 13 = .ok (.aaload, 1) := by decide +kernel
theorem dX1_readFault_14 : decode cX1_readFault 14 = .ok (.invokevirtual 57, 3) := by decide +kernel
theorem dX1_readFault_17 : decode cX1_readFault 17 = .ok (.goto 4, 3) := by decide +kernel
theorem dX1_readFault_20 : decode cX1_readFault 20 = .ok (.iconst 2, 1) := by decide +kernel
theorem dX1_readFault_21 : decode cX1_readFault 21 = .ok (.ireturn, 1) := by decide +kernel
theorem dX1_numberFault_0 : decode cX1_numberFault 0 = .ok (.aload_n 0, 1) := by decide +kernel
theorem dX1_numberFault_1 : decode cX1_numberFault 1 = .ok (.iload_n 1, 1) := by decide +kernel
theorem dX1_numberFault_2 : decode cX1_numberFault 2 = .ok (.invokevirtual 53, 3) := by decide +kernel
theorem dX1_numberFault_5 : decode cX1_numberFault 5 = .ok (.ifCond .eq 16, 3) := by decide +kernel
theorem dX1_numberFault_8 : decode cX1_numberFault 8 = .ok (.aload_n 0, 1) := by decide +kernel
theorem dX1_numberFault_9 : decode cX1_numberFault 9 = .ok (.getfield 39, 3) := by decide +kernel
theorem dX1_numberFault_12 : decode cX1_numberFault 12 = .ok (.iload_n 1, 1) := by decide +kernel
theorem dX1_numberFault_13 : decode cX1_numberFault 13 = .ok (.aaload, 1) := by decide +kernel
theorem dX1_numberFault_14 : decode cX1_numberFault 14 = .ok (.iload_n 2, 1) := by decide +kernel
theorem dX1_numberFault_15 : decode cX1_numberFault 15 = .ok (.invokevirtual 61, 3) := by decide +kernel
theorem dX1_numberFault_18 : decode cX1_numberFault 18 = .ok (.goto 4, 3) := by decide +kernel
theorem dX1_numberFault_21 : decode cX1_numberFault 21 = .ok (.iconst 2, 1) := by decide +kernel
theorem dX1_numberFault_22 : decode cX1_numberFault 22 = .ok (.ireturn, 1) := by decide +kernel
theorem dX1_firstFault_0 : decode cX1_firstFault 0 = .ok (.iconst 0, 1) := by decide +kernel
theorem dX1_firstFault_1 : decode cX1_firstFault 1 = .ok (.istore_n 1, 1) := by decide +kernel
theorem dX1_firstFault_2 : decode cX1_firstFault 2 = .ok (.iload_n 1, 1) := by decide +kernel
theorem dX1_firstFault_3 : decode cX1_firstFault 3 = .ok (.aload_n 0, 1) := by decide +kernel
theorem dX1_firstFault_4 : decode cX1_firstFault 4 = .ok (.getfield 39, 3) := by decide +kernel
theorem dX1_firstFault_7 : decode cX1_firstFault 7 = .ok (.arraylength, 1) := by decide +kernel
theorem dX1_firstFault_8 : decode cX1_firstFault 8 = .ok (.if_icmp .ge 25, 3) := by decide +kernel
theorem dX1_firstFault_11 : decode cX1_firstFault 11 = .ok (.aload_n 0, 1) := by decide +kernel
theorem dX1_firstFault_12 : decode cX1_firstFault 12 = .ok (.getfield 39, 3) := by decide +kernel
theorem dX1_firstFault_15 : decode cX1_firstFault 15 = .ok (.iload_n 1, 1) := by decide +kernel
theorem dX1_firstFault_16 : decode cX1_firstFault 16 = .ok (.aaload, 1) := by decide +kernel
theorem dX1_firstFault_17 : decode cX1_firstFault 17 = .ok (.invokevirtual 57, 3) := by decide +kernel
theorem dX1_firstFault_20 : decode cX1_firstFault 20 = .ok (.istore_n 2, 1) := by decide +kernel
theorem dX1_firstFault_21 : decode cX1_firstFault 21 = .ok (.iload_n 2, 1) := by decide +kernel
theorem dX1_firstFault_22 : decode cX1_firstFault 22 = .ok (.ifCond .eq 5, 3) := by decide +kernel
theorem dX1_firstFault_25 : decode cX1_firstFault 25 = .ok (.iload_n 2, 1) := by decide +kernel
theorem dX1_firstFault_26 : decode cX1_firstFault 26 = .ok (.ireturn, 1) := by decide +kernel
theorem dX1_firstFault_27 : decode cX1_firstFault 27 = .ok (.iinc 1 1, 3) := by decide +kernel
theorem dX1_firstFault_30 : decode cX1_firstFault 30 = .ok (.goto (-28), 3) := by decide +kernel
theorem dX1_firstFault_33 : decode cX1_firstFault 33 = .ok (.iconst 0, 1) := by decide +kernel
theorem dX1_firstFault_34 : decode cX1_firstFault 34 = .ok (.ireturn, 1) := by decide +kernel
theorem dX1_sum_0 : decode cX1_sum 0 = .ok (.lconst 0, 1) := by decide +kernel
theorem dX1_sum_1 : decode cX1_sum 1 = .ok (.lstore_n 1, 1) := by decide +kernel
theorem dX1_sum_2 : decode cX1_sum 2 = .ok (.aload_n 0, 1) := by decide +kernel
theorem dX1_sum_3 : decode cX1_sum 3 = .ok (.getfield 39, 3) := by decide +kernel
theorem dX1_sum_6 : decode cX1_sum 6 = .ok (.arraylength, 1) := by decide +kernel
theorem dX1_sum_7 : decode cX1_sum 7 = .ok (.iconst 1, 1) := by decide +kernel
theorem dX1_sum_8 : decode cX1_sum 8 = .ok (.isub, 1) := by decide +kernel
theorem dX1_sum_9 : decode cX1_sum 9 = .ok (.istore_n 3, 1) := by decide +kernel
theorem dX1_sum_10 : decode cX1_sum 10 = .ok (.iload_n 3, 1) := by decide +kernel
theorem dX1_sum_11 : decode cX1_sum 11 = .ok (.ifCond .lt 28, 3) := by decide +kernel
theorem dX1_sum_14 : decode cX1_sum 14 = .ok (.lload_n 1, 1) := by decide +kernel
theorem dX1_sum_15 : decode cX1_sum 15 = .ok (.aload_n 0, 1) := by decide +kernel
theorem dX1_sum_16 : decode cX1_sum 16 = .ok (.getfield 22, 3) := by decide +kernel
theorem dX1_sum_19 : decode cX1_sum 19 = .ok (.i2l, 1) := by decide +kernel
theorem dX1_sum_20 : decode cX1_sum 20 = .ok (.lmul, 1) := by decide +kernel
theorem dX1_sum_21 : decode cX1_sum 21 = .ok (.aload_n 0, 1) := by decide +kernel
theorem dX1_sum_22 : decode cX1_sum 22 = .ok (.getfield 39, 3) := by decide +kernel
theorem dX1_sum_25 : decode cX1_sum 25 = .ok (.iload_n 3, 1) := by decide +kernel
theorem dX1_sum_26 : decode cX1_sum 26 = .ok (.aaload, 1) := by decide +kernel
theorem dX1_sum_27 : decode cX1_sum 27 = .ok (.invokevirtual 64, 3) := by decide +kernel
theorem dX1_sum_30 : decode cX1_sum 30 = .ok (.i2l, 1) := by decide +kernel
theorem dX1_sum_31 : decode cX1_sum 31 = .ok (.ladd, 1) := by decide +kernel
theorem dX1_sum_32 : decode cX1_sum 32 = .ok (.lstore_n 1, 1) := by decide +kernel
theorem dX1_sum_33 : decode cX1_sum 33 = .ok (.iinc 3 (-1), 3) := by decide +kernel
theorem dX1_sum_36 : decode cX1_sum 36 = .ok (.goto (-26), 3) := by decide +kernel
theorem dX1_sum_39 : decode cX1_sum 39 = .ok (.lload_n 1, 1) := by decide +kernel
theorem dX1_sum_40 : decode cX1_sum 40 = .ok (.lreturn, 1) := by decide +kernel
theorem dX1_writeNumber_0 : decode cX1_writeNumber 0 = .ok (.iconst 0, 1) := by decide +kernel
theorem dX1_writeNumber_1 : decode cX1_writeNumber 1 = .ok (.istore_n 3, 1) := by decide +kernel
theorem dX1_writeNumber_2 : decode cX1_writeNumber 2 = .ok (.iload_n 3, 1) := by decide +kernel
theorem dX1_writeNumber_3 : decode cX1_writeNumber 3 = .ok (.aload_n 0, 1) := by decide +kernel
theorem dX1_writeNumber_4 : decode cX1_writeNumber 4 = .ok (.getfield 39, 3) := by decide +kernel
theorem dX1_writeNumber_7 : decode cX1_writeNumber 7 = .ok (.arraylength, 1) := by decide +kernel
theorem dX1_writeNumber_8 : decode cX1_writeNumber 8 = .ok (.if_icmp .ge 27, 3) := by decide +kernel
theorem dX1_writeNumber_11 : decode cX1_writeNumber 11 = .ok (.aload_n 0, 1) := by decide +kernel
theorem dX1_writeNumber_12 : decode cX1_writeNumber 12 = .ok (.getfield 39, 3) := by decide +kernel
theorem dX1_writeNumber_15 : decode cX1_writeNumber 15 = .ok (.iload_n 3, 1) := by decide +kernel
theorem dX1_writeNumber_16 : decode cX1_writeNumber 16 = .ok (.aaload, 1) := by decide +kernel
theorem dX1_writeNumber_17 : decode cX1_writeNumber 17 = .ok (.lload_n 1, 1) := by decide +kernel
theorem dX1_writeNumber_18 : decode cX1_writeNumber 18 = .ok (.aload_n 0, 1) := by decide +kernel
theorem dX1_writeNumber_19 : decode cX1_writeNumber 19 = .ok (.getfield 22, 3) := by decide +kernel
theorem dX1_writeNumber_22 : decode cX1_writeNumber 22 = .ok (.iload_n 3, 1) := by decide +kernel
theorem dX1_writeNumber_23 : decode cX1_writeNumber 23 = .ok (.invokestatic 67, 3) := by decide +kernel
theorem dX1_writeNumber_26 : decode cX1_writeNumber 26 = .ok (.invokevirtual 71, 3) := by decide +kernel
theorem dX1_writeNumber_29 : decode cX1_writeNumber 29 = .ok (.iinc 3 1, 3) := by decide +kernel
theorem dX1_writeNumber_32 : decode cX1_writeNumber 32 = .ok (.goto (-30), 3) := by decide +kernel
theorem dX1_writeNumber_35 : decode cX1_writeNumber 35 = .ok (.return_, 1) := by decide +kernel
theorem dX1_allProper_0 : decode cX1_allProper 0 = .ok (.iconst 0, 1) := by decide +kernel
theorem dX1_allProper_1 : decode cX1_allProper 1 = .ok (.istore_n 1, 1) := by decide +kernel
theorem dX1_allProper_2 : decode cX1_allProper 2 = .ok (.iload_n 1, 1) := by decide +kernel
theorem dX1_allProper_3 : decode cX1_allProper 3 = .ok (.aload_n 0, 1) := by decide +kernel
theorem dX1_allProper_4 : decode cX1_allProper 4 = .ok (.getfield 39, 3) := by decide +kernel
theorem dX1_allProper_7 : decode cX1_allProper 7 = .ok (.arraylength, 1) := by decide +kernel
theorem dX1_allProper_8 : decode cX1_allProper 8 = .ok (.if_icmp .ge 39, 3) := by decide +kernel
theorem dX1_allProper_11 : decode cX1_allProper 11 = .ok (.aload_n 0, 1) := by decide +kernel
theorem dX1_allProper_12 : decode cX1_allProper 12 = .ok (.getfield 39, 3) := by decide +kernel
theorem dX1_allProper_15 : decode cX1_allProper 15 = .ok (.iload_n 1, 1) := by decide +kernel
theorem dX1_allProper_16 : decode cX1_allProper 16 = .ok (.aaload, 1) := by decide +kernel
theorem dX1_allProper_17 : decode cX1_allProper 17 = .ok (.invokevirtual 57, 3) := by decide +kernel
theorem dX1_allProper_20 : decode cX1_allProper 20 = .ok (.ifCond .ne 21, 3) := by decide +kernel
theorem dX1_allProper_23 : decode cX1_allProper 23 = .ok (.aload_n 0, 1) := by decide +kernel
theorem dX1_allProper_24 : decode cX1_allProper 24 = .ok (.getfield 39, 3) := by decide +kernel
theorem dX1_allProper_27 : decode cX1_allProper 27 = .ok (.iload_n 1, 1) := by decide +kernel
theorem dX1_allProper_28 : decode cX1_allProper 28 = .ok (.aaload, 1) := by decide +kernel
theorem dX1_allProper_29 : decode cX1_allProper 29 = .ok (.aload_n 0, 1) := by decide +kernel
theorem dX1_allProper_30 : decode cX1_allProper 30 = .ok (.getfield 22, 3) := by decide +kernel
theorem dX1_allProper_33 : decode cX1_allProper 33 = .ok (.invokevirtual 74, 3) := by decide +kernel
theorem dX1_allProper_36 : decode cX1_allProper 36 = .ok (.ifCond .ne 5, 3) := by decide +kernel
theorem dX1_allProper_39 : decode cX1_allProper 39 = .ok (.iconst 0, 1) := by decide +kernel
theorem dX1_allProper_40 : decode cX1_allProper 40 = .ok (.ireturn, 1) := by decide +kernel
theorem dX1_allProper_41 : decode cX1_allProper 41 = .ok (.iinc 1 1, 3) := by decide +kernel
theorem dX1_allProper_44 : decode cX1_allProper 44 = .ok (.goto (-42), 3) := by decide +kernel
theorem dX1_allProper_47 : decode cX1_allProper 47 = .ok (.iconst 1, 1) := by decide +kernel
theorem dX1_allProper_48 : decode cX1_allProper 48 = .ok (.ireturn, 1) := by decide +kernel
theorem dX1_readable_0 : decode cX1_readable 0 = .ok (.iconst 0, 1) := by decide +kernel
theorem dX1_readable_1 : decode cX1_readable 1 = .ok (.istore_n 1, 1) := by decide +kernel
theorem dX1_readable_2 : decode cX1_readable 2 = .ok (.iconst 0, 1) := by decide +kernel
theorem dX1_readable_3 : decode cX1_readable 3 = .ok (.istore_n 2, 1) := by decide +kernel
theorem dX1_readable_4 : decode cX1_readable 4 = .ok (.iload_n 2, 1) := by decide +kernel
theorem dX1_readable_5 : decode cX1_readable 5 = .ok (.aload_n 0, 1) := by decide +kernel
theorem dX1_readable_6 : decode cX1_readable 6 = .ok (.getfield 39, 3) := by decide +kernel
theorem dX1_readable_9 : decode cX1_readable 9 = .ok (.arraylength, 1) := by decide +kernel
theorem dX1_readable_10 : decode cX1_readable 10 = .ok (.if_icmp .ge 24, 3) := by decide +kernel
theorem dX1_readable_13 : decode cX1_readable 13 = .ok (.aload_n 0, 1) := by decide +kernel
theorem dX1_readable_14 : decode cX1_readable 14 = .ok (.getfield 39, 3) := by decide +kernel
theorem dX1_readable_17 : decode cX1_readable 17 = .ok (.iload_n 2, 1) := by decide +kernel
theorem dX1_readable_18 : decode cX1_readable 18 = .ok (.aaload, 1) := by decide +kernel
theorem dX1_readable_19 : decode cX1_readable 19 = .ok (.invokevirtual 57, 3) := by decide +kernel
theorem dX1_readable_22 : decode cX1_readable 22 = .ok (.ifCond .ne 6, 3) := by decide +kernel
theorem dX1_readable_25 : decode cX1_readable 25 = .ok (.iinc 1 1, 3) := by decide +kernel
theorem dX1_readable_28 : decode cX1_readable 28 = .ok (.iinc 2 1, 3) := by decide +kernel
theorem dX1_readable_31 : decode cX1_readable 31 = .ok (.goto (-27), 3) := by decide +kernel
theorem dX1_readable_34 : decode cX1_readable 34 = .ok (.iload_n 1, 1) := by decide +kernel
theorem dX1_readable_35 : decode cX1_readable 35 = .ok (.ireturn, 1) := by decide +kernel
theorem dX1_digestSum_0 : decode cX1_digestSum 0 = .ok (.ldc2_w 77, 3) := by decide +kernel
theorem dX1_digestSum_3 : decode cX1_digestSum 3 = .ok (.lstore_n 1, 1) := by decide +kernel
theorem dX1_digestSum_4 : decode cX1_digestSum 4 = .ok (.iconst 0, 1) := by decide +kernel
theorem dX1_digestSum_5 : decode cX1_digestSum 5 = .ok (.istore_n 3, 1) := by decide +kernel
theorem dX1_digestSum_6 : decode cX1_digestSum 6 = .ok (.iload_n 3, 1) := by decide +kernel
theorem dX1_digestSum_7 : decode cX1_digestSum 7 = .ok (.aload_n 0, 1) := by decide +kernel
theorem dX1_digestSum_8 : decode cX1_digestSum 8 = .ok (.getfield 39, 3) := by decide +kernel
theorem dX1_digestSum_11 : decode cX1_digestSum 11 = .ok (.arraylength, 1) := by decide +kernel
theorem dX1_digestSum_12 : decode cX1_digestSum 12 = .ok (.if_icmp .ge 20, 3) := by decide +kernel
theorem dX1_digestSum_15 : decode cX1_digestSum 15 = .ok (.aload_n 0, 1) := by decide +kernel
theorem dX1_digestSum_16 : decode cX1_digestSum 16 = .ok (.getfield 39, 3) := by decide +kernel
theorem dX1_digestSum_19 : decode cX1_digestSum 19 = .ok (.iload_n 3, 1) := by decide +kernel
theorem dX1_digestSum_20 : decode cX1_digestSum 20 = .ok (.aaload, 1) := by decide +kernel
theorem dX1_digestSum_21 : decode cX1_digestSum 21 = .ok (.lload_n 1, 1) := by decide +kernel
theorem dX1_digestSum_22 : decode cX1_digestSum 22 = .ok (.invokevirtual 79, 3) := by decide +kernel
theorem dX1_digestSum_25 : decode cX1_digestSum 25 = .ok (.lstore_n 1, 1) := by decide +kernel
theorem dX1_digestSum_26 : decode cX1_digestSum 26 = .ok (.iinc 3 1, 3) := by decide +kernel
theorem dX1_digestSum_29 : decode cX1_digestSum 29 = .ok (.goto (-23), 3) := by decide +kernel
theorem dX1_digestSum_32 : decode cX1_digestSum 32 = .ok (.lload_n 1, 1) := by decide +kernel
theorem dX1_digestSum_33 : decode cX1_digestSum 33 = .ok (.lreturn, 1) := by decide +kernel
theorem dX2_init_0 : decode cX2_init 0 = .ok (.aload_n 0, 1) := by decide +kernel
theorem dX2_init_1 : decode cX2_init 1 = .ok (.invokespecial 3, 3) := by decide +kernel
theorem dX2_init_4 : decode cX2_init 4 = .ok (.return_, 1) := by decide +kernel
theorem dX2_open_0 : decode cX2_open 0 = .ok (.aload_n 0, 1) := by decide +kernel
theorem dX2_open_1 : decode cX2_open 1 = .ok (.iload_n 1, 1) := by decide +kernel
theorem dX2_open_2 : decode cX2_open 2 = .ok (.putfield 9, 3) := by decide +kernel
theorem dX2_open_5 : decode cX2_open 5 = .ok (.aload_n 0, 1) := by decide +kernel
theorem dX2_open_6 : decode cX2_open 6 = .ok (.lload_n 2, 1) := by decide +kernel
theorem dX2_open_7 : decode cX2_open 7 = .ok (.putfield 15, 3) := by decide +kernel
theorem dX2_open_10 : decode cX2_open 10 = .ok (.aload_n 0, 1) := by decide +kernel
theorem dX2_open_11 : decode cX2_open 11 = .ok (.lload 4, 2) := by decide +kernel
theorem dX2_open_13 : decode cX2_open 13 = .ok (.putfield 19, 3) := by decide +kernel
theorem dX2_open_16 : decode cX2_open 16 = .ok (.aload_n 0, 1) := by decide +kernel
theorem dX2_open_17 : decode cX2_open 17 = .ok (.bipush 64, 2) := by decide +kernel
theorem dX2_open_19 : decode cX2_open 19 = .ok (.putfield 22, 3) := by decide +kernel
theorem dX2_open_22 : decode cX2_open 22 = .ok (.aload_n 0, 1) := by decide +kernel
theorem dX2_open_23 : decode cX2_open 23 = .ok (.bipush 64, 2) := by decide +kernel
theorem dX2_open_25 : decode cX2_open 25 = .ok (.putfield 25, 3) := by decide +kernel
theorem dX2_open_28 : decode cX2_open 28 = .ok (.return_, 1) := by decide +kernel
theorem dX2_comeTo_0 : decode cX2_comeTo 0 = .ok (.aload_n 0, 1) := by decide +kernel
theorem dX2_comeTo_1 : decode cX2_comeTo 1 = .ok (.iload_n 1, 1) := by decide +kernel
theorem dX2_comeTo_2 : decode cX2_comeTo 2 = .ok (.putfield 22, 3) := by decide +kernel
theorem dX2_comeTo_5 : decode cX2_comeTo 5 = .ok (.aload_n 0, 1) := by decide +kernel
theorem dX2_comeTo_6 : decode cX2_comeTo 6 = .ok (.iload_n 2, 1) := by decide +kernel
theorem dX2_comeTo_7 : decode cX2_comeTo 7 = .ok (.putfield 25, 3) := by decide +kernel
theorem dX2_comeTo_10 : decode cX2_comeTo 10 = .ok (.return_, 1) := by decide +kernel
theorem dX2_faultAt_0 : decode cX2_faultAt 0 = .ok (.aload_n 0, 1) := by decide +kernel
theorem dX2_faultAt_1 : decode cX2_faultAt 1 = .ok (.getfield 9, 3) := by decide +kernel
theorem dX2_faultAt_4 : decode cX2_faultAt 4 = .ok (.ifCond .ne 5, 3) := by decide +kernel
theorem dX2_faultAt_7 : decode cX2_faultAt 7 = .ok (.iconst 1, 1) := by decide +kernel
theorem dX2_faultAt_8 : decode cX2_faultAt 8 = .ok (.ireturn, 1) := by decide +kernel
theorem dX2_faultAt_9 : decode cX2_faultAt 9 = .ok (.iload_n 1, 1) := by decide +kernel
theorem dX2_faultAt_10 : decode cX2_faultAt 10 = .ok (.ifCond .lt 18, 3) := by decide +kernel
theorem dX2_faultAt_13 : decode cX2_faultAt 13 = .ok (.iload_n 1, 1) := by decide +kernel
theorem dX2_faultAt_14 : decode cX2_faultAt 14 = .ok (.aload_n 0, 1) := by decide +kernel
theorem dX2_faultAt_15 : decode cX2_faultAt 15 = .ok (.getfield 15, 3) := by decide +kernel
theorem dX2_faultAt_18 : decode cX2_faultAt 18 = .ok (.aload_n 0, 1) := by decide +kernel
theorem dX2_faultAt_19 : decode cX2_faultAt 19 = .ok (.getfield 9, 3) := by decide +kernel
theorem dX2_faultAt_22 : decode cX2_faultAt 22 = .ok (.invokestatic 28, 3) := by decide +kernel
theorem dX2_faultAt_25 : decode cX2_faultAt 25 = .ok (.if_icmp .lt 5, 3) := by decide +kernel
theorem dX2_faultAt_28 : decode cX2_faultAt 28 = .ok (.iconst 2, 1) := by decide +kernel
theorem dX2_faultAt_29 : decode cX2_faultAt 29 = .ok (.ireturn, 1) := by decide +kernel
theorem dX2_faultAt_30 : decode cX2_faultAt 30 = .ok (.aload_n 0, 1) := by decide +kernel
theorem dX2_faultAt_31 : decode cX2_faultAt 31 = .ok (.getfield 15, 3) := by decide +kernel
theorem dX2_faultAt_34 : decode cX2_faultAt 34 = .ok (.aload_n 0, 1) := by decide +kernel
theorem dX2_faultAt_35 : decode cX2_faultAt 35 = .ok (.getfield 9, 3) := by decide +kernel
theorem dX2_faultAt_38 : decode cX2_faultAt 38 = .ok (.iload_n 1, 1) := by decide +kernel
theorem dX2_faultAt_39 : decode cX2_faultAt 39 = .ok (.invokestatic 32, 3) := by decide +kernel
theorem dX2_faultAt_42 : decode cX2_faultAt 42 = .ok (.ifCond .ne 5, 3) := by decide +kernel
theorem dX2_faultAt_45 : decode cX2_faultAt 45 = .ok (.iconst 1, 1) := by decide +kernel
theorem dX2_faultAt_46 : decode cX2_faultAt 46 = .ok (.ireturn, 1) := by decide +kernel
theorem dX2_faultAt_47 : decode cX2_faultAt 47 = .ok (.iload_n 2, 1) := by decide +kernel
theorem dX2_faultAt_48 : decode cX2_faultAt 48 = .ok (.ifCond .lt 18, 3) := by decide +kernel
theorem dX2_faultAt_51 : decode cX2_faultAt 51 = .ok (.iload_n 2, 1) := by decide +kernel
theorem dX2_faultAt_52 : decode cX2_faultAt 52 = .ok (.aload_n 0, 1) := by decide +kernel
theorem dX2_faultAt_53 : decode cX2_faultAt 53 = .ok (.getfield 19, 3) := by decide +kernel
theorem dX2_faultAt_56 : decode cX2_faultAt 56 = .ok (.aload_n 0, 1) := by decide +kernel
theorem dX2_faultAt_57 : decode cX2_faultAt 57 = .ok (.getfield 9, 3) := by decide +kernel
theorem dX2_faultAt_60 : decode cX2_faultAt 60 = .ok (.invokestatic 28, 3) := by decide +kernel
theorem dX2_faultAt_63 : decode cX2_faultAt 63 = .ok (.if_icmp .lt 7, 3) := by decide +kernel
theorem dX2_faultAt_66 : decode cX2_faultAt 66 = .ok (.iconst 2, 1) := by decide +kernel
theorem dX2_faultAt_67 : decode cX2_faultAt 67 = .ok (.goto 4, 3) := by decide +kernel
theorem dX2_faultAt_70 : decode cX2_faultAt 70 = .ok (.iconst 0, 1) := by decide +kernel
theorem dX2_faultAt_71 : decode cX2_faultAt 71 = .ok (.ireturn, 1) := by decide +kernel
theorem dX2_at_0 : decode cX2_at 0 = .ok (.aload_n 0, 1) := by decide +kernel
theorem dX2_at_1 : decode cX2_at 1 = .ok (.getfield 9, 3) := by decide +kernel
theorem dX2_at_4 : decode cX2_at 4 = .ok (.ifCond .ne 5, 3) := by decide +kernel
theorem dX2_at_7 : decode cX2_at 7 = .ok (.lconst 0, 1) := by decide +kernel
theorem dX2_at_8 : decode cX2_at 8 = .ok (.lreturn, 1) := by decide +kernel
theorem dX2_at_9 : decode cX2_at 9 = .ok (.iload_n 1, 1) := by decide +kernel
theorem dX2_at_10 : decode cX2_at 10 = .ok (.aload_n 0, 1) := by decide +kernel
theorem dX2_at_11 : decode cX2_at 11 = .ok (.getfield 22, 3) := by decide +kernel
theorem dX2_at_14 : decode cX2_at 14 = .ok (.if_icmp .gt 19, 3) := by decide +kernel
theorem dX2_at_17 : decode cX2_at 17 = .ok (.iload_n 1, 1) := by decide +kernel
theorem dX2_at_18 : decode cX2_at 18 = .ok (.aload_n 0, 1) := by decide +kernel
theorem dX2_at_19 : decode cX2_at 19 = .ok (.getfield 22, 3) := by decide +kernel
theorem dX2_at_22 : decode cX2_at 22 = .ok (.if_icmp .ne 15, 3) := by decide +kernel
theorem dX2_at_25 : decode cX2_at 25 = .ok (.iload_n 2, 1) := by decide +kernel
theorem dX2_at_26 : decode cX2_at 26 = .ok (.aload_n 0, 1) := by decide +kernel
theorem dX2_at_27 : decode cX2_at 27 = .ok (.getfield 25, 3) := by decide +kernel
theorem dX2_at_30 : decode cX2_at 30 = .ok (.if_icmp .lt 7, 3) := by decide +kernel
theorem dX2_at_33 : decode cX2_at 33 = .ok (.iconst 1, 1) := by decide +kernel
theorem dX2_at_34 : decode cX2_at 34 = .ok (.goto 4, 3) := by decide +kernel
theorem dX2_at_37 : decode cX2_at 37 = .ok (.iconst 0, 1) := by decide +kernel
theorem dX2_at_38 : decode cX2_at 38 = .ok (.istore_n 3, 1) := by decide +kernel
theorem dX2_at_39 : decode cX2_at 39 = .ok (.iload_n 3, 1) := by decide +kernel
theorem dX2_at_40 : decode cX2_at 40 = .ok (.ifCond .eq 32, 3) := by decide +kernel
theorem dX2_at_43 : decode cX2_at 43 = .ok (.aload_n 0, 1) := by decide +kernel
theorem dX2_at_44 : decode cX2_at 44 = .ok (.getfield 15, 3) := by decide +kernel
theorem dX2_at_47 : decode cX2_at 47 = .ok (.aload_n 0, 1) := by decide +kernel
theorem dX2_at_48 : decode cX2_at 48 = .ok (.getfield 9, 3) := by decide +kernel
theorem dX2_at_51 : decode cX2_at 51 = .ok (.iload_n 1, 1) := by decide +kernel
theorem dX2_at_52 : decode cX2_at 52 = .ok (.invokestatic 32, 3) := by decide +kernel
theorem dX2_at_55 : decode cX2_at 55 = .ok (.aload_n 0, 1) := by decide +kernel
theorem dX2_at_56 : decode cX2_at 56 = .ok (.getfield 19, 3) := by decide +kernel
theorem dX2_at_59 : decode cX2_at 59 = .ok (.aload_n 0, 1) := by decide +kernel
theorem dX2_at_60 : decode cX2_at 60 = .ok (.getfield 9, 3) := by decide +kernel
theorem dX2_at_63 : decode cX2_at 63 = .ok (.iload_n 2, 1) := by decide +kernel
theorem dX2_at_64 : decode cX2_at 64 = .ok (.invokestatic 32, 3) := by decide +kernel
theorem dX2_at_67 : decode cX2_at 67 = .ok (.imul, 1) := by decide +kernel
theorem dX2_at_68 : decode cX2_at 68 = .ok (.i2l, 1) := by decide +kernel
theorem dX2_at_69 : decode cX2_at 69 = .ok (.goto 4, 3) := by decide +kernel
theorem dX2_at_72 : decode cX2_at 72 = .ok (.lconst 0, 1) := by decide +kernel
theorem dX2_at_73 : decode cX2_at 73 = .ok (.lreturn, 1) := by decide +kernel
theorem dX3_init_0 : decode cX3_init 0 = .ok (.aload_n 0, 1) := by decide +kernel
theorem dX3_init_1 : decode cX3_init 1 = .ok (.invokespecial 3, 3) := by decide +kernel
theorem dX3_init_4 : decode cX3_init 4 = .ok (.aload_n 0, 1) := by decide +kernel
theorem dX3_init_5 : decode cX3_init 5 = .ok (.new 9, 3) := by decide +kernel
theorem dX3_init_8 : decode cX3_init 8 = .ok (.dup, 1) := by decide +kernel
theorem dX3_init_9 : decode cX3_init 9 = .ok (.invokespecial 11, 3) := by decide +kernel
theorem dX3_init_12 : decode cX3_init 12 = .ok (.putfield 12, 3) := by decide +kernel
theorem dX3_init_15 : decode cX3_init 15 = .ok (.aload_n 0, 1) := by decide +kernel
theorem dX3_init_16 : decode cX3_init 16 = .ok (.sipush 224, 3) := by decide +kernel
theorem dX3_init_19 : decode cX3_init 19 = .ok (.newarray .int, 2) := by decide +kernel
theorem dX3_init_21 : decode cX3_init 21 = .ok (.putfield 18, 3) := by decide +kernel
theorem dX3_init_24 : decode cX3_init 24 = .ok (.aload_n 0, 1) := by decide +kernel
theorem dX3_init_25 : decode cX3_init 25 = .ok (.bipush (-5), 2) := by decide +kernel
theorem dX3_init_27 : decode cX3_init 27 = .ok (.putfield 22, 3) := by decide +kernel
theorem dX3_init_30 : decode cX3_init 30 = .ok (.aload_n 0, 1) := by decide +kernel
theorem dX3_init_31 : decode cX3_init 31 = .ok (.bipush (-5), 2) := by decide +kernel
theorem dX3_init_33 : decode cX3_init 33 = .ok (.putfield 26, 3) := by decide +kernel
theorem dX3_init_36 : decode cX3_init 36 = .ok (.return_, 1) := by decide +kernel
theorem dX3_open_0 : decode cX3_open 0 = .ok (.aload_n 0, 1) := by decide +kernel
theorem dX3_open_1 : decode cX3_open 1 = .ok (.aload_n 1, 1) := by decide +kernel
theorem dX3_open_2 : decode cX3_open 2 = .ok (.putfield 29, 3) := by decide +kernel
theorem dX3_open_5 : decode cX3_open 5 = .ok (.aload_n 0, 1) := by decide +kernel
theorem dX3_open_6 : decode cX3_open 6 = .ok (.aload_n 2, 1) := by decide +kernel
theorem dX3_open_7 : decode cX3_open 7 = .ok (.putfield 33, 3) := by decide +kernel
theorem dX3_open_10 : decode cX3_open 10 = .ok (.aload_n 0, 1) := by decide +kernel
theorem dX3_open_11 : decode cX3_open 11 = .ok (.iconst 0, 1) := by decide +kernel
theorem dX3_open_12 : decode cX3_open 12 = .ok (.putfield 36, 3) := by decide +kernel
theorem dX3_open_15 : decode cX3_open 15 = .ok (.aload_n 0, 1) := by decide +kernel
theorem dX3_open_16 : decode cX3_open 16 = .ok (.iconst 0, 1) := by decide +kernel
theorem dX3_open_17 : decode cX3_open 17 = .ok (.putfield 39, 3) := by decide +kernel
theorem dX3_open_20 : decode cX3_open 20 = .ok (.aload_n 0, 1) := by decide +kernel
theorem dX3_open_21 : decode cX3_open 21 = .ok (.iconst 0, 1) := by decide +kernel
theorem dX3_open_22 : decode cX3_open 22 = .ok (.putfield 42, 3) := by decide +kernel
theorem dX3_open_25 : decode cX3_open 25 = .ok (.aload_n 0, 1) := by decide +kernel
theorem dX3_open_26 : decode cX3_open 26 = .ok (.iconst 0, 1) := by decide +kernel
theorem dX3_open_27 : decode cX3_open 27 = .ok (.putfield 46, 3) := by decide +kernel
theorem dX3_open_30 : decode cX3_open 30 = .ok (.aload_n 0, 1) := by decide +kernel
theorem dX3_open_31 : decode cX3_open 31 = .ok (.bipush (-5), 2) := by decide +kernel
theorem dX3_open_33 : decode cX3_open 33 = .ok (.putfield 22, 3) := by decide +kernel
theorem dX3_open_36 : decode cX3_open 36 = .ok (.aload_n 0, 1) := by decide +kernel
theorem dX3_open_37 : decode cX3_open 37 = .ok (.bipush (-5), 2) := by decide +kernel
theorem dX3_open_39 : decode cX3_open 39 = .ok (.putfield 26, 3) := by decide +kernel
theorem dX3_open_42 : decode cX3_open 42 = .ok (.return_, 1) := by decide +kernel
theorem dX3_close_0 : decode cX3_close 0 = .ok (.iload_n 1, 1) := by decide +kernel
theorem dX3_close_1 : decode cX3_close 1 = .ok (.ifCond .eq 26, 3) := by decide +kernel
theorem dX3_close_4 : decode cX3_close 4 = .ok (.aload_n 0, 1) := by decide +kernel
theorem dX3_close_5 : decode cX3_close 5 = .ok (.aload_n 0, 1) := by decide +kernel
theorem dX3_close_6 : decode cX3_close 6 = .ok (.getfield 36, 3) := by decide +kernel
theorem dX3_close_9 : decode cX3_close 9 = .ok (.putfield 39, 3) := by decide +kernel
theorem dX3_close_12 : decode cX3_close 12 = .ok (.aload_n 0, 1) := by decide +kernel
theorem dX3_close_13 : decode cX3_close 13 = .ok (.dup, 1) := by decide +kernel
theorem dX3_close_14 : decode cX3_close 14 = .ok (.getfield 49, 3) := by decide +kernel
theorem dX3_close_17 : decode cX3_close 17 = .ok (.iconst 1, 1) := by decide +kernel
theorem dX3_close_18 : decode cX3_close 18 = .ok (.iadd, 1) := by decide +kernel
theorem dX3_close_19 : decode cX3_close 19 = .ok (.putfield 49, 3) := by decide +kernel
theorem dX3_close_22 : decode cX3_close 22 = .ok (.aload_n 0, 1) := by decide +kernel
theorem dX3_close_23 : decode cX3_close 23 = .ok (.getfield 36, 3) := by decide +kernel
theorem dX3_close_26 : decode cX3_close 26 = .ok (.ireturn, 1) := by decide +kernel
theorem dX3_close_27 : decode cX3_close 27 = .ok (.aload_n 0, 1) := by decide +kernel
theorem dX3_close_28 : decode cX3_close 28 = .ok (.getfield 36, 3) := by decide +kernel
theorem dX3_close_31 : decode cX3_close 31 = .ok (.iconst 1, 1) := by decide +kernel
theorem dX3_close_32 : decode cX3_close 32 = .ok (.isub, 1) := by decide +kernel
theorem dX3_close_33 : decode cX3_close 33 = .ok (.istore_n 2, 1) := by decide +kernel
theorem dX3_close_34 : decode cX3_close 34 = .ok (.iload_n 2, 1) := by decide +kernel
theorem dX3_close_35 : decode cX3_close 35 = .ok (.ifCond .lt 14, 3) := by decide +kernel
theorem dX3_close_38 : decode cX3_close 38 = .ok (.aload_n 0, 1) := by decide +kernel
theorem dX3_close_39 : decode cX3_close 39 = .ok (.iload_n 2, 1) := by decide +kernel
theorem dX3_close_40 : decode cX3_close 40 = .ok (.invokevirtual 52, 3) := by decide +kernel
theorem dX3_close_43 : decode cX3_close 43 = .ok (.iinc 2 (-1), 3) := by decide +kernel
theorem dX3_close_46 : decode cX3_close 46 = .ok (.goto (-12), 3) := by decide +kernel
theorem dX3_close_49 : decode cX3_close 49 = .ok (.aload_n 0, 1) := by decide +kernel
theorem dX3_close_50 : decode cX3_close 50 = .ok (.dup, 1) := by decide +kernel
theorem dX3_close_51 : decode cX3_close 51 = .ok (.getfield 56, 3) := by decide +kernel
theorem dX3_close_54 : decode cX3_close 54 = .ok (.iconst 1, 1) := by decide +kernel
theorem dX3_close_55 : decode cX3_close 55 = .ok (.iadd, 1) := by decide +kernel
theorem dX3_close_56 : decode cX3_close 56 = .ok (.putfield 56, 3) := by decide +kernel
theorem dX3_close_59 : decode cX3_close 59 = .ok (.bipush (-100), 2) := by decide +kernel
theorem dX3_close_61 : decode cX3_close 61 = .ok (.aload_n 0, 1) := by decide +kernel
theorem dX3_close_62 : decode cX3_close 62 = .ok (.getfield 36, 3) := by decide +kernel
theorem dX3_close_65 : decode cX3_close 65 = .ok (.isub, 1) := by decide +kernel
theorem dX3_close_66 : decode cX3_close 66 = .ok (.ireturn, 1) := by decide +kernel
theorem dX3_tell_0 : decode cX3_tell 0 = .ok (.aload_n 0, 1) := by decide +kernel
theorem dX3_tell_1 : decode cX3_tell 1 = .ok (.getfield 18, 3) := by decide +kernel
theorem dX3_tell_4 : decode cX3_tell 4 = .ok (.bipush 7, 2) := by decide +kernel
theorem dX3_tell_6 : decode cX3_tell 6 = .ok (.iload_n 1, 1) := by decide +kernel
theorem dX3_tell_7 : decode cX3_tell 7 = .ok (.imul, 1) := by decide +kernel
theorem dX3_tell_8 : decode cX3_tell 8 = .ok (.iload_n 2, 1) := by decide +kernel
theorem dX3_tell_9 : decode cX3_tell 9 = .ok (.iadd, 1) := by decide +kernel
theorem dX3_tell_10 : decode cX3_tell 10 = .ok (.iaload, 1) := by decide +kernel
theorem dX3_tell_11 : decode cX3_tell 11 = .ok (.ireturn, 1) := by decide +kernel
theorem dX3_countOn_0 : decode cX3_countOn 0 = .ok (.iconst 0, 1) := by decide +kernel
theorem dX3_countOn_1 : decode cX3_countOn 1 = .ok (.istore 4, 2) := by decide +kernel
theorem dX3_countOn_3 : decode cX3_countOn 3 = .ok (.iconst 0, 1) := by decide +kernel
theorem dX3_countOn_4 : decode cX3_countOn 4 = .ok (.istore 5, 2) := by decide +kernel
theorem dX3_countOn_6 : decode cX3_countOn 6 = .ok (.iload 5, 2) := by decide +kernel
theorem dX3_countOn_8 : decode cX3_countOn 8 = .ok (.aload_n 0, 1) := by decide +kernel
theorem dX3_countOn_9 : decode cX3_countOn 9 = .ok (.getfield 36, 3) := by decide +kernel
theorem dX3_countOn_12 : decode cX3_countOn 12 = .ok (.if_icmp .ge 49, 3) := by decide +kernel
theorem dX3_countOn_15 : decode cX3_countOn 15 = .ok (.aload_n 0, 1) := by decide +kernel
theorem dX3_countOn_16 : decode cX3_countOn 16 = .ok (.iload 5, 2) := by decide +kernel
theorem dX3_countOn_18 : decode cX3_countOn 18 = .ok (.iconst 0, 1) := by decide +kernel
theorem dX3_countOn_19 : decode cX3_countOn 19 = .ok (.invokevirtual 59, 3) := by decide +kernel
theorem dX3_countOn_22 : decode cX3_countOn 22 = .ok (.iload_n 1, 1) := by decide +kernel
theorem dX3_countOn_23 : decode cX3_countOn 23 = .ok (.if_icmp .ne 32, 3) := by decide +kernel
theorem dX3_countOn_26 : decode cX3_countOn 26 = .ok (.aload_n 0, 1) := by decide +kernel
theorem dX3_countOn_27 : decode cX3_countOn 27 = .ok (.iload 5, 2) := by decide +kernel
theorem dX3_countOn_29 : decode cX3_countOn 29 = .ok (.iconst 1, 1) := by decide +kernel
theorem dX3_countOn_30 : decode cX3_countOn 30 = .ok (.invokevirtual 59, 3) := by decide +kernel
theorem dX3_countOn_33 : decode cX3_countOn 33 = .ok (.iload_n 2, 1) := by decide +kernel
theorem dX3_countOn_34 : decode cX3_countOn 34 = .ok (.if_icmp .ne 21, 3) := by decide +kernel
theorem dX3_countOn_37 : decode cX3_countOn 37 = .ok (.iload_n 3, 1) := by decide +kernel
theorem dX3_countOn_38 : decode cX3_countOn 38 = .ok (.ifCond .eq 14, 3) := by decide +kernel
theorem dX3_countOn_41 : decode cX3_countOn 41 = .ok (.aload_n 0, 1) := by decide +kernel
theorem dX3_countOn_42 : decode cX3_countOn 42 = .ok (.iload 5, 2) := by decide +kernel
theorem dX3_countOn_44 : decode cX3_countOn 44 = .ok (.iconst 4, 1) := by decide +kernel
theorem dX3_countOn_45 : decode cX3_countOn 45 = .ok (.invokevirtual 59, 3) := by decide +kernel
theorem dX3_countOn_48 : decode cX3_countOn 48 = .ok (.iload_n 3, 1) := by decide +kernel
theorem dX3_countOn_49 : decode cX3_countOn 49 = .ok (.if_icmp .ne 6, 3) := by decide +kernel
theorem dX3_countOn_52 : decode cX3_countOn 52 = .ok (.iinc 4 1, 3) := by decide +kernel
theorem dX3_countOn_55 : decode cX3_countOn 55 = .ok (.iinc 5 1, 3) := by decide +kernel
theorem dX3_countOn_58 : decode cX3_countOn 58 = .ok (.goto (-52), 3) := by decide +kernel
theorem dX3_countOn_61 : decode cX3_countOn 61 = .ok (.iload 4, 2) := by decide +kernel
theorem dX3_countOn_63 : decode cX3_countOn 63 = .ok (.ireturn, 1) := by decide +kernel
theorem dX3_takeBack_0 : decode cX3_takeBack 0 = .ok (.aload_n 0, 1) := by decide +kernel
theorem dX3_takeBack_1 : decode cX3_takeBack 1 = .ok (.getfield 29, 3) := by decide +kernel
theorem dX3_takeBack_4 : decode cX3_takeBack 4 = .ok (.ifnull 26, 3) := by decide +kernel
theorem dX3_takeBack_7 : decode cX3_takeBack 7 = .ok (.aload_n 0, 1) := by decide +kernel
theorem dX3_takeBack_8 : decode cX3_takeBack 8 = .ok (.getfield 29, 3) := by decide +kernel
theorem dX3_takeBack_11 : decode cX3_takeBack 11 = .ok (.getfield 63, 3) := by decide +kernel
theorem dX3_takeBack_14 : decode cX3_takeBack 14 = .ok (.aload_n 0, 1) := by decide +kernel
theorem dX3_takeBack_15 : decode cX3_takeBack 15 = .ok (.iload_n 1, 1) := by decide +kernel
theorem dX3_takeBack_16 : decode cX3_takeBack 16 = .ok (.iconst 0, 1) := by decide +kernel
theorem dX3_takeBack_17 : decode cX3_takeBack 17 = .ok (.invokevirtual 59, 3) := by decide +kernel
theorem dX3_takeBack_20 : decode cX3_takeBack 20 = .ok (.if_icmp .ne 10, 3) := by decide +kernel
theorem dX3_takeBack_23 : decode cX3_takeBack 23 = .ok (.aload_n 0, 1) := by decide +kernel
theorem dX3_takeBack_24 : decode cX3_takeBack 24 = .ok (.getfield 29, 3) := by decide +kernel
theorem dX3_takeBack_27 : decode cX3_takeBack 27 = .ok (.goto 7, 3) := by decide +kernel
theorem dX3_takeBack_30 : decode cX3_takeBack 30 = .ok (.aload_n 0, 1) := by decide +kernel
theorem dX3_takeBack_31 : decode cX3_takeBack 31 = .ok (.getfield 33, 3) := by decide +kernel
theorem dX3_takeBack_34 : decode cX3_takeBack 34 = .ok (.astore_n 2, 1) := by decide +kernel
theorem dX3_takeBack_35 : decode cX3_takeBack 35 = .ok (.aload_n 0, 1) := by decide +kernel
theorem dX3_takeBack_36 : decode cX3_takeBack 36 = .ok (.iload_n 1, 1) := by decide +kernel
theorem dX3_takeBack_37 : decode cX3_takeBack 37 = .ok (.iconst 1, 1) := by decide +kernel
theorem dX3_takeBack_38 : decode cX3_takeBack 38 = .ok (.invokevirtual 59, 3) := by decide +kernel
theorem dX3_takeBack_41 : decode cX3_takeBack 41 = .ok (.istore_n 3, 1) := by decide +kernel
theorem dX3_takeBack_42 : decode cX3_takeBack 42 = .ok (.aload_n 2, 1) := by decide +kernel
theorem dX3_takeBack_43 : decode cX3_takeBack 43 = .ok (.ifnull 51, 3) := by decide +kernel
theorem dX3_takeBack_46 : decode cX3_takeBack 46 = .ok (.aload_n 2, 1) := by decide +kernel
theorem dX3_takeBack_47 : decode cX3_takeBack 47 = .ok (.iload_n 3, 1) := by decide +kernel
theorem dX3_takeBack_48 : decode cX3_takeBack 48 = .ok (.invokevirtual 68, 3) := by decide +kernel
theorem dX3_takeBack_51 : decode cX3_takeBack 51 = .ok (.ifCond .eq 43, 3) := by decide +kernel
theorem dX3_takeBack_54 : decode cX3_takeBack 54 = .ok (.aload_n 2, 1) := by decide +kernel
theorem dX3_takeBack_55 : decode cX3_takeBack 55 = .ok (.getfield 72, 3) := by decide +kernel
theorem dX3_takeBack_58 : decode cX3_takeBack 58 = .ok (.iload_n 3, 1) := by decide +kernel
theorem dX3_takeBack_59 : decode cX3_takeBack 59 = .ok (.aaload, 1) := by decide +kernel
theorem dX3_takeBack_60 : decode cX3_takeBack 60 = .ok (.astore 4, 2) := by decide +kernel
theorem dX3_takeBack_62 : decode cX3_takeBack 62 = .ok (.aload 4, 2) := by decide +kernel
theorem dX3_takeBack_64 : decode cX3_takeBack 64 = .ok (.dup, 1) := by decide +kernel
theorem dX3_takeBack_65 : decode cX3_takeBack 65 = .ok (.getfield 76, 3) := by decide +kernel
theorem dX3_takeBack_68 : decode cX3_takeBack 68 = .ok (.aload_n 0, 1) := by decide +kernel
theorem dX3_takeBack_69 : decode cX3_takeBack 69 = .ok (.iload_n 1, 1) := by decide +kernel
theorem dX3_takeBack_70 : decode cX3_takeBack 70 = .ok (.iconst 2, 1) := by decide +kernel
theorem dX3_takeBack_71 : decode cX3_takeBack 71 = .ok (.invokevirtual 59, 3) := by decide +kernel
theorem dX3_takeBack_74 : decode cX3_takeBack 74 = .ok (.isub, 1) := by decide +kernel
theorem dX3_takeBack_75 : decode cX3_takeBack 75 = .ok (.putfield 76, 3) := by decide +kernel
theorem dX3_takeBack_78 : decode cX3_takeBack 78 = .ok (.aload 4, 2) := by decide +kernel
theorem dX3_takeBack_80 : decode cX3_takeBack 80 = .ok (.dup, 1) := by decide +kernel
theorem dX3_takeBack_81 : decode cX3_takeBack 81 = .ok (.getfield 81, 3) := by decide +kernel
theorem dX3_takeBack_84 : decode cX3_takeBack 84 = .ok (.aload_n 0, 1) := by decide +kernel
theorem dX3_takeBack_85 : decode cX3_takeBack 85 = .ok (.iload_n 1, 1) := by decide +kernel
theorem dX3_takeBack_86 : decode cX3_takeBack 86 = .ok (.iconst 3, 1) := by decide +kernel
theorem dX3_takeBack_87 : decode cX3_takeBack 87 = .ok (.invokevirtual 59, 3) := by decide +kernel
theorem dX3_takeBack_90 : decode cX3_takeBack 90 = .ok (.isub, 1) := by decide +kernel
theorem dX3_takeBack_91 : decode cX3_takeBack 91 = .ok (.putfield 81, 3) := by decide +kernel
theorem dX3_takeBack_94 : decode cX3_takeBack 94 = .ok (.return_, 1) := by decide +kernel
theorem dX3_canRead_0 : decode cX3_canRead 0 = .ok (.aload_n 1, 1) := by decide +kernel
theorem dX3_canRead_1 : decode cX3_canRead 1 = .ok (.iload_n 2, 1) := by decide +kernel
theorem dX3_canRead_2 : decode cX3_canRead 2 = .ok (.invokevirtual 68, 3) := by decide +kernel
theorem dX3_canRead_5 : decode cX3_canRead 5 = .ok (.ifCond .eq 15, 3) := by decide +kernel
theorem dX3_canRead_8 : decode cX3_canRead 8 = .ok (.aload_n 1, 1) := by decide +kernel
theorem dX3_canRead_9 : decode cX3_canRead 9 = .ok (.getfield 72, 3) := by decide +kernel
theorem dX3_canRead_12 : decode cX3_canRead 12 = .ok (.iload_n 2, 1) := by decide +kernel
theorem dX3_canRead_13 : decode cX3_canRead 13 = .ok (.aaload, 1) := by decide +kernel
theorem dX3_canRead_14 : decode cX3_canRead 14 = .ok (.invokevirtual 84, 3) := by decide +kernel
theorem dX3_canRead_17 : decode cX3_canRead 17 = .ok (.goto 4, 3) := by decide +kernel
theorem dX3_canRead_20 : decode cX3_canRead 20 = .ok (.iconst 2, 1) := by decide +kernel
theorem dX3_canRead_21 : decode cX3_canRead 21 = .ok (.istore_n 3, 1) := by decide +kernel
theorem dX3_canRead_22 : decode cX3_canRead 22 = .ok (.iload_n 3, 1) := by decide +kernel
theorem dX3_canRead_23 : decode cX3_canRead 23 = .ok (.ifCond .eq 21, 3) := by decide +kernel
theorem dX3_canRead_26 : decode cX3_canRead 26 = .ok (.aload_n 0, 1) := by decide +kernel
theorem dX3_canRead_27 : decode cX3_canRead 27 = .ok (.iload_n 3, 1) := by decide +kernel
theorem dX3_canRead_28 : decode cX3_canRead 28 = .ok (.putfield 46, 3) := by decide +kernel
theorem dX3_canRead_31 : decode cX3_canRead 31 = .ok (.aload_n 0, 1) := by decide +kernel
theorem dX3_canRead_32 : decode cX3_canRead 32 = .ok (.iload_n 2, 1) := by decide +kernel
theorem dX3_canRead_33 : decode cX3_canRead 33 = .ok (.putfield 22, 3) := by decide +kernel
theorem dX3_canRead_36 : decode cX3_canRead 36 = .ok (.aload_n 0, 1) := by decide +kernel
theorem dX3_canRead_37 : decode cX3_canRead 37 = .ok (.aload_n 1, 1) := by decide +kernel
theorem dX3_canRead_38 : decode cX3_canRead 38 = .ok (.getfield 63, 3) := by decide +kernel
theorem dX3_canRead_41 : decode cX3_canRead 41 = .ok (.putfield 26, 3) := by decide +kernel
theorem dX3_canRead_44 : decode cX3_canRead 44 = .ok (.iload_n 3, 1) := by decide +kernel
theorem dX3_canRead_45 : decode cX3_canRead 45 = .ok (.ifCond .ne 7, 3) := by decide +kernel
theorem dX3_canRead_48 : decode cX3_canRead 48 = .ok (.iconst 1, 1) := by decide +kernel
theorem dX3_canRead_49 : decode cX3_canRead 49 = .ok (.goto 4, 3) := by decide +kernel
theorem dX3_canRead_52 : decode cX3_canRead 52 = .ok (.iconst 0, 1) := by decide +kernel
theorem dX3_canRead_53 : decode cX3_canRead 53 = .ok (.ireturn, 1) := by decide +kernel
theorem dX3_oneStep_0 : decode cX3_oneStep 0 = .ok (.aload_n 0, 1) := by decide +kernel
theorem dX3_oneStep_1 : decode cX3_oneStep 1 = .ok (.aload_n 1, 1) := by decide +kernel
theorem dX3_oneStep_2 : decode cX3_oneStep 2 = .ok (.iload_n 2, 1) := by decide +kernel
theorem dX3_oneStep_3 : decode cX3_oneStep 3 = .ok (.invokevirtual 88, 3) := by decide +kernel
theorem dX3_oneStep_6 : decode cX3_oneStep 6 = .ok (.ifCond .ne 6, 3) := by decide +kernel
theorem dX3_oneStep_9 : decode cX3_oneStep 9 = .ok (.bipush 99, 2) := by decide +kernel
theorem dX3_oneStep_11 : decode cX3_oneStep 11 = .ok (.ireturn, 1) := by decide +kernel
theorem dX3_oneStep_12 : decode cX3_oneStep 12 = .ok (.aload_n 1, 1) := by decide +kernel
theorem dX3_oneStep_13 : decode cX3_oneStep 13 = .ok (.getfield 72, 3) := by decide +kernel
theorem dX3_oneStep_16 : decode cX3_oneStep 16 = .ok (.iload_n 2, 1) := by decide +kernel
theorem dX3_oneStep_17 : decode cX3_oneStep 17 = .ok (.aaload, 1) := by decide +kernel
theorem dX3_oneStep_18 : decode cX3_oneStep 18 = .ok (.astore 4, 2) := by decide +kernel
theorem dX3_oneStep_20 : decode cX3_oneStep 20 = .ok (.aload 4, 2) := by decide +kernel
theorem dX3_oneStep_22 : decode cX3_oneStep 22 = .ok (.getfield 76, 3) := by decide +kernel
theorem dX3_oneStep_25 : decode cX3_oneStep 25 = .ok (.istore 5, 2) := by decide +kernel
theorem dX3_oneStep_27 : decode cX3_oneStep 27 = .ok (.aload 4, 2) := by decide +kernel
theorem dX3_oneStep_29 : decode cX3_oneStep 29 = .ok (.getfield 81, 3) := by decide +kernel
theorem dX3_oneStep_32 : decode cX3_oneStep 32 = .ok (.istore 6, 2) := by decide +kernel
theorem dX3_oneStep_34 : decode cX3_oneStep 34 = .ok (.aload 4, 2) := by decide +kernel
theorem dX3_oneStep_36 : decode cX3_oneStep 36 = .ok (.invokevirtual 92, 3) := by decide +kernel
theorem dX3_oneStep_39 : decode cX3_oneStep 39 = .ok (.iload_n 3, 1) := by decide +kernel
theorem dX3_oneStep_40 : decode cX3_oneStep 40 = .ok (.iadd, 1) := by decide +kernel
theorem dX3_oneStep_41 : decode cX3_oneStep 41 = .ok (.istore 7, 2) := by decide +kernel
theorem dX3_oneStep_43 : decode cX3_oneStep 43 = .ok (.iload 7, 2) := by decide +kernel
theorem dX3_oneStep_45 : decode cX3_oneStep 45 = .ok (.aload_n 1, 1) := by decide +kernel
theorem dX3_oneStep_46 : decode cX3_oneStep 46 = .ok (.getfield 95, 3) := by decide +kernel
theorem dX3_oneStep_49 : decode cX3_oneStep 49 = .ok (.if_icmp .lt 7, 3) := by decide +kernel
theorem dX3_oneStep_52 : decode cX3_oneStep 52 = .ok (.iconst 1, 1) := by decide +kernel
theorem dX3_oneStep_53 : decode cX3_oneStep 53 = .ok (.goto 13, 3) := by decide +kernel
theorem dX3_oneStep_56 : decode cX3_oneStep 56 = .ok (.iload 7, 2) := by decide +kernel
theorem dX3_oneStep_58 : decode cX3_oneStep 58 = .ok (.ifCond .ge 7, 3) := by decide +kernel
theorem dX3_oneStep_61 : decode cX3_oneStep 61 = .ok (.iconst (-1), 1) := by decide +kernel
theorem dX3_oneStep_62 : decode cX3_oneStep 62 = .ok (.goto 4, 3) := by decide +kernel
theorem dX3_oneStep_65 : decode cX3_oneStep 65 = .ok (.iconst 0, 1) := by decide +kernel
theorem dX3_oneStep_66 : decode cX3_oneStep 66 = .ok (.istore 8, 2) := by decide +kernel
theorem dX3_oneStep_68 : decode cX3_oneStep 68 = .ok (.aload 4, 2) := by decide +kernel
theorem dX3_oneStep_70 : decode cX3_oneStep 70 = .ok (.iload 7, 2) := by decide +kernel
theorem dX3_oneStep_72 : decode cX3_oneStep 72 = .ok (.iload 8, 2) := by decide +kernel
theorem dX3_oneStep_74 : decode cX3_oneStep 74 = .ok (.aload_n 1, 1) := by decide +kernel
theorem dX3_oneStep_75 : decode cX3_oneStep 75 = .ok (.getfield 95, 3) := by decide +kernel
theorem dX3_oneStep_78 : decode cX3_oneStep 78 = .ok (.imul, 1) := by decide +kernel
theorem dX3_oneStep_79 : decode cX3_oneStep 79 = .ok (.isub, 1) := by decide +kernel
theorem dX3_oneStep_80 : decode cX3_oneStep 80 = .ok (.invokevirtual 98, 3) := by decide +kernel
theorem dX3_oneStep_83 : decode cX3_oneStep 83 = .ok (.bipush 7, 2) := by decide +kernel
theorem dX3_oneStep_85 : decode cX3_oneStep 85 = .ok (.aload_n 0, 1) := by decide +kernel
theorem dX3_oneStep_86 : decode cX3_oneStep 86 = .ok (.getfield 36, 3) := by decide +kernel
theorem dX3_oneStep_89 : decode cX3_oneStep 89 = .ok (.imul, 1) := by decide +kernel
theorem dX3_oneStep_90 : decode cX3_oneStep 90 = .ok (.istore 9, 2) := by decide +kernel
theorem dX3_oneStep_92 : decode cX3_oneStep 92 = .ok (.iload 9, 2) := by decide +kernel
theorem dX3_oneStep_94 : decode cX3_oneStep 94 = .ok (.bipush 7, 2) := by decide +kernel
theorem dX3_oneStep_96 : decode cX3_oneStep 96 = .ok (.iadd, 1) := by decide +kernel
theorem dX3_oneStep_97 : decode cX3_oneStep 97 = .ok (.aload_n 0, 1) := by decide +kernel
theorem dX3_oneStep_98 : decode cX3_oneStep 98 = .ok (.getfield 18, 3) := by decide +kernel
theorem dX3_oneStep_101 : decode cX3_oneStep 101 = .ok (.arraylength, 1) := by decide +kernel
theorem dX3_oneStep_102 : decode cX3_oneStep 102 = .ok (.if_icmp .le 21, 3) := by decide +kernel
theorem dX3_oneStep_105 : decode cX3_oneStep 105 = .ok (.aload_n 0, 1) := by decide +kernel
theorem dX3_oneStep_106 : decode cX3_oneStep 106 = .ok (.aload_n 0, 1) := by decide +kernel
theorem dX3_oneStep_107 : decode cX3_oneStep 107 = .ok (.getfield 18, 3) := by decide +kernel
theorem dX3_oneStep_110 : decode cX3_oneStep 110 = .ok (.iconst 2, 1) := by decide +kernel
theorem dX3_oneStep_111 : decode cX3_oneStep 111 = .ok (.aload_n 0, 1) := by decide +kernel
theorem dX3_oneStep_112 : decode cX3_oneStep 112 = .ok (.getfield 18, 3) := by decide +kernel
theorem dX3_oneStep_115 : decode cX3_oneStep 115 = .ok (.arraylength, 1) := by decide +kernel
theorem dX3_oneStep_116 : decode cX3_oneStep 116 = .ok (.imul, 1) := by decide +kernel
theorem dX3_oneStep_117 : decode cX3_oneStep 117 = .ok (.invokestatic 101, 3) := by decide +kernel
theorem dX3_oneStep_120 : decode cX3_oneStep 120 = .ok (.putfield 18, 3) := by decide +kernel
theorem dX3_oneStep_123 : decode cX3_oneStep 123 = .ok (.aload_n 0, 1) := by decide +kernel
theorem dX3_oneStep_124 : decode cX3_oneStep 124 = .ok (.getfield 18, 3) := by decide +kernel
theorem dX3_oneStep_127 : decode cX3_oneStep 127 = .ok (.iload 9, 2) := by decide +kernel
theorem dX3_oneStep_129 : decode cX3_oneStep 129 = .ok (.aload_n 1, 1) := by decide +kernel
theorem dX3_oneStep_130 : decode cX3_oneStep 130 = .ok (.getfield 63, 3) := by decide +kernel
theorem dX3_oneStep_133 : decode cX3_oneStep 133 = .ok (.iastore, 1) := by decide +kernel
theorem dX3_oneStep_134 : decode cX3_oneStep 134 = .ok (.aload_n 0, 1) := by decide +kernel
theorem dX3_oneStep_135 : decode cX3_oneStep 135 = .ok (.getfield 18, 3) := by decide +kernel
theorem dX3_oneStep_138 : decode cX3_oneStep 138 = .ok (.iload 9, 2) := by decide +kernel
theorem dX3_oneStep_140 : decode cX3_oneStep 140 = .ok (.iconst 1, 1) := by decide +kernel
theorem dX3_oneStep_141 : decode cX3_oneStep 141 = .ok (.iadd, 1) := by decide +kernel
theorem dX3_oneStep_142 : decode cX3_oneStep 142 = .ok (.iload_n 2, 1) := by decide +kernel
theorem dX3_oneStep_143 : decode cX3_oneStep 143 = .ok (.iastore, 1) := by decide +kernel
theorem dX3_oneStep_144 : decode cX3_oneStep 144 = .ok (.aload_n 0, 1) := by decide +kernel
theorem dX3_oneStep_145 : decode cX3_oneStep 145 = .ok (.getfield 18, 3) := by decide +kernel
theorem dX3_oneStep_148 : decode cX3_oneStep 148 = .ok (.iload 9, 2) := by decide +kernel
theorem dX3_oneStep_150 : decode cX3_oneStep 150 = .ok (.iconst 2, 1) := by decide +kernel
theorem dX3_oneStep_151 : decode cX3_oneStep 151 = .ok (.iadd, 1) := by decide +kernel
theorem dX3_oneStep_152 : decode cX3_oneStep 152 = .ok (.aload 4, 2) := by decide +kernel
theorem dX3_oneStep_154 : decode cX3_oneStep 154 = .ok (.getfield 76, 3) := by decide +kernel
theorem dX3_oneStep_157 : decode cX3_oneStep 157 = .ok (.iload 5, 2) := by decide +kernel
theorem dX3_oneStep_159 : decode cX3_oneStep 159 = .ok (.isub, 1) := by decide +kernel
theorem dX3_oneStep_160 : decode cX3_oneStep 160 = .ok (.iastore, 1) := by decide +kernel
theorem dX3_oneStep_161 : decode cX3_oneStep 161 = .ok (.aload_n 0, 1) := by decide +kernel
theorem dX3_oneStep_162 : decode cX3_oneStep 162 = .ok (.getfield 18, 3) := by decide +kernel
theorem dX3_oneStep_165 : decode cX3_oneStep 165 = .ok (.iload 9, 2) := by decide +kernel
theorem dX3_oneStep_167 : decode cX3_oneStep 167 = .ok (.iconst 3, 1) := by decide +kernel
theorem dX3_oneStep_168 : decode cX3_oneStep 168 = .ok (.iadd, 1) := by decide +kernel
theorem dX3_oneStep_169 : decode cX3_oneStep 169 = .ok (.aload 4, 2) := by decide +kernel
theorem dX3_oneStep_171 : decode cX3_oneStep 171 = .ok (.getfield 81, 3) := by decide +kernel
theorem dX3_oneStep_174 : decode cX3_oneStep 174 = .ok (.iload 6, 2) := by decide +kernel
theorem dX3_oneStep_176 : decode cX3_oneStep 176 = .ok (.isub, 1) := by decide +kernel
theorem dX3_oneStep_177 : decode cX3_oneStep 177 = .ok (.iastore, 1) := by decide +kernel
theorem dX3_oneStep_178 : decode cX3_oneStep 178 = .ok (.aload_n 0, 1) := by decide +kernel
theorem dX3_oneStep_179 : decode cX3_oneStep 179 = .ok (.getfield 18, 3) := by decide +kernel
theorem dX3_oneStep_182 : decode cX3_oneStep 182 = .ok (.iload 9, 2) := by decide +kernel
theorem dX3_oneStep_184 : decode cX3_oneStep 184 = .ok (.iconst 4, 1) := by decide +kernel
theorem dX3_oneStep_185 : decode cX3_oneStep 185 = .ok (.iadd, 1) := by decide +kernel
theorem dX3_oneStep_186 : decode cX3_oneStep 186 = .ok (.iload_n 3, 1) := by decide +kernel
theorem dX3_oneStep_187 : decode cX3_oneStep 187 = .ok (.iload 8, 2) := by decide +kernel
theorem dX3_oneStep_189 : decode cX3_oneStep 189 = .ok (.aload 4, 2) := by decide +kernel
theorem dX3_oneStep_191 : decode cX3_oneStep 191 = .ok (.getfield 76, 3) := by decide +kernel
