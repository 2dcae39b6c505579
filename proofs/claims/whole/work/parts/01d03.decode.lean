theorem dX5_sumUp_20 : decode cX5_sumUp 20 = .ok (.ireturn, 1) := by decide +kernel
theorem dX5_sumUp_21 : decode cX5_sumUp 21 = .ok (.aload_n 0, 1) := by decide +kernel
theorem dX5_sumUp_22 : decode cX5_sumUp 22 = .ok (.getfield 26, 3) := by decide +kernel
theorem dX5_sumUp_25 : decode cX5_sumUp 25 = .ok (.aload_n 1, 1) := by decide +kernel
theorem dX5_sumUp_26 : decode cX5_sumUp 26 = .ok (.aconst_null, 1) := by decide +kernel
theorem dX5_sumUp_27 : decode cX5_sumUp 27 = .ok (.invokevirtual 329, 3) := by decide +kernel
theorem dX5_sumUp_30 : decode cX5_sumUp 30 = .ok (.aload_n 0, 1) := by decide +kernel
theorem dX5_sumUp_31 : decode cX5_sumUp 31 = .ok (.getfield 26, 3) := by decide +kernel
theorem dX5_sumUp_34 : decode cX5_sumUp 34 = .ok (.aload_n 0, 1) := by decide +kernel
theorem dX5_sumUp_35 : decode cX5_sumUp 35 = .ok (.getfield 26, 3) := by decide +kernel
theorem dX5_sumUp_38 : decode cX5_sumUp 38 = .ok (.aload_n 1, 1) := by decide +kernel
theorem dX5_sumUp_39 : decode cX5_sumUp 39 = .ok (.lload_n 2, 1) := by decide +kernel
theorem dX5_sumUp_40 : decode cX5_sumUp 40 = .ok (.iconst 0, 1) := by decide +kernel
theorem dX5_sumUp_41 : decode cX5_sumUp 41 = .ok (.iload 4, 2) := by decide +kernel
theorem dX5_sumUp_43 : decode cX5_sumUp 43 = .ok (.invokevirtual 333, 3) := by decide +kernel
theorem dX5_sumUp_46 : decode cX5_sumUp 46 = .ok (.invokevirtual 201, 3) := by decide +kernel
theorem dX5_sumUp_49 : decode cX5_sumUp 49 = .ok (.ireturn, 1) := by decide +kernel
theorem dX5_rootBy_0 : decode cX5_rootBy 0 = .ok (.aload_n 1, 1) := by decide +kernel
theorem dX5_rootBy_1 : decode cX5_rootBy 1 = .ok (.ifnull 7, 3) := by decide +kernel
theorem dX5_rootBy_4 : decode cX5_rootBy 4 = .ok (.aload_n 2, 1) := by decide +kernel
theorem dX5_rootBy_5 : decode cX5_rootBy 5 = .ok (.ifnonnull 5, 3) := by decide +kernel
theorem dX5_rootBy_8 : decode cX5_rootBy 8 = .ok (.iconst (-1), 1) := by decide +kernel
theorem dX5_rootBy_9 : decode cX5_rootBy 9 = .ok (.ireturn, 1) := by decide +kernel
theorem dX5_rootBy_10 : decode cX5_rootBy 10 = .ok (.aload_n 0, 1) := by decide +kernel
theorem dX5_rootBy_11 : decode cX5_rootBy 11 = .ok (.aload_n 1, 1) := by decide +kernel
theorem dX5_rootBy_12 : decode cX5_rootBy 12 = .ok (.aload_n 2, 1) := by decide +kernel
theorem dX5_rootBy_13 : decode cX5_rootBy 13 = .ok (.aload_n 1, 1) := by decide +kernel
theorem dX5_rootBy_14 : decode cX5_rootBy 14 = .ok (.aload_n 2, 1) := by decide +kernel
theorem dX5_rootBy_15 : decode cX5_rootBy 15 = .ok (.lconst 0, 1) := by decide +kernel
theorem dX5_rootBy_16 : decode cX5_rootBy 16 = .ok (.iconst 1, 1) := by decide +kernel
theorem dX5_rootBy_17 : decode cX5_rootBy 17 = .ok (.invokestatic 205, 3) := by decide +kernel
theorem dX5_rootBy_20 : decode cX5_rootBy 20 = .ok (.iconst 0, 1) := by decide +kernel
theorem dX5_rootBy_21 : decode cX5_rootBy 21 = .ok (.invokevirtual 193, 3) := by decide +kernel
theorem dX5_rootBy_24 : decode cX5_rootBy 24 = .ok (.istore 4, 2) := by decide +kernel
theorem dX5_rootBy_26 : decode cX5_rootBy 26 = .ok (.iload 4, 2) := by decide +kernel
theorem dX5_rootBy_28 : decode cX5_rootBy 28 = .ok (.ifCond .eq 8, 3) := by decide +kernel
theorem dX5_rootBy_31 : decode cX5_rootBy 31 = .ok (.iload 4, 2) := by decide +kernel
theorem dX5_rootBy_33 : decode cX5_rootBy 33 = .ok (.goto 20, 3) := by decide +kernel
theorem dX5_rootBy_36 : decode cX5_rootBy 36 = .ok (.aload_n 0, 1) := by decide +kernel
theorem dX5_rootBy_37 : decode cX5_rootBy 37 = .ok (.getfield 26, 3) := by decide +kernel
theorem dX5_rootBy_40 : decode cX5_rootBy 40 = .ok (.aload_n 0, 1) := by decide +kernel
theorem dX5_rootBy_41 : decode cX5_rootBy 41 = .ok (.getfield 26, 3) := by decide +kernel
theorem dX5_rootBy_44 : decode cX5_rootBy 44 = .ok (.aload_n 1, 1) := by decide +kernel
theorem dX5_rootBy_45 : decode cX5_rootBy 45 = .ok (.aload_n 2, 1) := by decide +kernel
theorem dX5_rootBy_46 : decode cX5_rootBy 46 = .ok (.iload_n 3, 1) := by decide +kernel
theorem dX5_rootBy_47 : decode cX5_rootBy 47 = .ok (.invokevirtual 337, 3) := by decide +kernel
theorem dX5_rootBy_50 : decode cX5_rootBy 50 = .ok (.invokevirtual 201, 3) := by decide +kernel
theorem dX5_rootBy_53 : decode cX5_rootBy 53 = .ok (.ireturn, 1) := by decide +kernel
theorem dX5_begun_0 : decode cX5_begun 0 = .ok (.aload_n 0, 1) := by decide +kernel
theorem dX5_begun_1 : decode cX5_begun 1 = .ok (.bipush 31, 2) := by decide +kernel
theorem dX5_begun_3 : decode cX5_begun 3 = .ok (.aload_n 0, 1) := by decide +kernel
theorem dX5_begun_4 : decode cX5_begun 4 = .ok (.getfield 156, 3) := by decide +kernel
theorem dX5_begun_7 : decode cX5_begun 7 = .ok (.imul, 1) := by decide +kernel
theorem dX5_begun_8 : decode cX5_begun 8 = .ok (.iload_n 1, 1) := by decide +kernel
theorem dX5_begun_9 : decode cX5_begun 9 = .ok (.iadd, 1) := by decide +kernel
theorem dX5_begun_10 : decode cX5_begun 10 = .ok (.putfield 156, 3) := by decide +kernel
theorem dX5_begun_13 : decode cX5_begun 13 = .ok (.return_, 1) := by decide +kernel
theorem dX5_askBase_0 : decode cX5_askBase 0 = .ok (.aload_n 1, 1) := by decide +kernel
theorem dX5_askBase_1 : decode cX5_askBase 1 = .ok (.getfield 77, 3) := by decide +kernel
theorem dX5_askBase_4 : decode cX5_askBase 4 = .ok (.iconst 4, 1) := by decide +kernel
theorem dX5_askBase_5 : decode cX5_askBase 5 = .ok (.if_icmp .ne 35, 3) := by decide +kernel
theorem dX5_askBase_8 : decode cX5_askBase 8 = .ok (.aload_n 0, 1) := by decide +kernel
theorem dX5_askBase_9 : decode cX5_askBase 9 = .ok (.iconst 3, 1) := by decide +kernel
theorem dX5_askBase_10 : decode cX5_askBase 10 = .ok (.invokevirtual 341, 3) := by decide +kernel
theorem dX5_askBase_13 : decode cX5_askBase 13 = .ok (.aload_n 1, 1) := by decide +kernel
theorem dX5_askBase_14 : decode cX5_askBase 14 = .ok (.getfield 344, 3) := by decide +kernel
theorem dX5_askBase_17 : decode cX5_askBase 17 = .ok (.astore_n 3, 1) := by decide +kernel
theorem dX5_askBase_18 : decode cX5_askBase 18 = .ok (.aload_n 3, 1) := by decide +kernel
theorem dX5_askBase_19 : decode cX5_askBase 19 = .ok (.ifnull 8, 3) := by decide +kernel
theorem dX5_askBase_22 : decode cX5_askBase 22 = .ok (.iload_n 2, 1) := by decide +kernel
theorem dX5_askBase_23 : decode cX5_askBase 23 = .ok (.iconst 5, 1) := by decide +kernel
theorem dX5_askBase_24 : decode cX5_askBase 24 = .ok (.if_icmp .le 7, 3) := by decide +kernel
theorem dX5_askBase_27 : decode cX5_askBase 27 = .ok (.iconst (-1), 1) := by decide +kernel
theorem dX5_askBase_28 : decode cX5_askBase 28 = .ok (.goto 11, 3) := by decide +kernel
theorem dX5_askBase_31 : decode cX5_askBase 31 = .ok (.aload_n 0, 1) := by decide +kernel
theorem dX5_askBase_32 : decode cX5_askBase 32 = .ok (.aload_n 3, 1) := by decide +kernel
theorem dX5_askBase_33 : decode cX5_askBase 33 = .ok (.iload_n 2, 1) := by decide +kernel
theorem dX5_askBase_34 : decode cX5_askBase 34 = .ok (.iconst 1, 1) := by decide +kernel
theorem dX5_askBase_35 : decode cX5_askBase 35 = .ok (.iadd, 1) := by decide +kernel
theorem dX5_askBase_36 : decode cX5_askBase 36 = .ok (.invokevirtual 142, 3) := by decide +kernel
theorem dX5_askBase_39 : decode cX5_askBase 39 = .ok (.ireturn, 1) := by decide +kernel
theorem dX5_askBase_40 : decode cX5_askBase 40 = .ok (.aload_n 1, 1) := by decide +kernel
theorem dX5_askBase_41 : decode cX5_askBase 41 = .ok (.getfield 77, 3) := by decide +kernel
theorem dX5_askBase_44 : decode cX5_askBase 44 = .ok (.iconst 3, 1) := by decide +kernel
theorem dX5_askBase_45 : decode cX5_askBase 45 = .ok (.if_icmp .ne 11, 3) := by decide +kernel
theorem dX5_askBase_48 : decode cX5_askBase 48 = .ok (.aload_n 0, 1) := by decide +kernel
theorem dX5_askBase_49 : decode cX5_askBase 49 = .ok (.iconst 2, 1) := by decide +kernel
theorem dX5_askBase_50 : decode cX5_askBase 50 = .ok (.invokevirtual 341, 3) := by decide +kernel
theorem dX5_askBase_53 : decode cX5_askBase 53 = .ok (.bipush 16, 2) := by decide +kernel
theorem dX5_askBase_55 : decode cX5_askBase 55 = .ok (.ireturn, 1) := by decide +kernel
theorem dX5_askBase_56 : decode cX5_askBase 56 = .ok (.aload_n 0, 1) := by decide +kernel
theorem dX5_askBase_57 : decode cX5_askBase 57 = .ok (.iconst 1, 1) := by decide +kernel
theorem dX5_askBase_58 : decode cX5_askBase 58 = .ok (.invokevirtual 341, 3) := by decide +kernel
theorem dX5_askBase_61 : decode cX5_askBase 61 = .ok (.bipush 10, 2) := by decide +kernel
theorem dX5_askBase_63 : decode cX5_askBase 63 = .ok (.ireturn, 1) := by decide +kernel
theorem dX5_askBeads_0 : decode cX5_askBeads 0 = .ok (.aload_n 1, 1) := by decide +kernel
theorem dX5_askBeads_1 : decode cX5_askBeads 1 = .ok (.getfield 77, 3) := by decide +kernel
theorem dX5_askBeads_4 : decode cX5_askBeads 4 = .ok (.iconst 4, 1) := by decide +kernel
theorem dX5_askBeads_5 : decode cX5_askBeads 5 = .ok (.if_icmp .ne 5, 3) := by decide +kernel
theorem dX5_askBeads_8 : decode cX5_askBeads 8 = .ok (.iconst (-1), 1) := by decide +kernel
theorem dX5_askBeads_9 : decode cX5_askBeads 9 = .ok (.ireturn, 1) := by decide +kernel
theorem dX5_askBeads_10 : decode cX5_askBeads 10 = .ok (.aload_n 1, 1) := by decide +kernel
theorem dX5_askBeads_11 : decode cX5_askBeads 11 = .ok (.getfield 77, 3) := by decide +kernel
theorem dX5_askBeads_14 : decode cX5_askBeads 14 = .ok (.iconst 2, 1) := by decide +kernel
theorem dX5_askBeads_15 : decode cX5_askBeads 15 = .ok (.if_icmp .ne 12, 3) := by decide +kernel
theorem dX5_askBeads_18 : decode cX5_askBeads 18 = .ok (.aload_n 0, 1) := by decide +kernel
theorem dX5_askBeads_19 : decode cX5_askBeads 19 = .ok (.bipush 6, 2) := by decide +kernel
theorem dX5_askBeads_21 : decode cX5_askBeads 21 = .ok (.invokevirtual 341, 3) := by decide +kernel
theorem dX5_askBeads_24 : decode cX5_askBeads 24 = .ok (.bipush 10, 2) := by decide +kernel
theorem dX5_askBeads_26 : decode cX5_askBeads 26 = .ok (.ireturn, 1) := by decide +kernel
theorem dX5_askBeads_27 : decode cX5_askBeads 27 = .ok (.aload_n 1, 1) := by decide +kernel
theorem dX5_askBeads_28 : decode cX5_askBeads 28 = .ok (.getfield 77, 3) := by decide +kernel
theorem dX5_askBeads_31 : decode cX5_askBeads 31 = .ok (.ifCond .ne 10, 3) := by decide +kernel
theorem dX5_askBeads_34 : decode cX5_askBeads 34 = .ok (.aload_n 0, 1) := by decide +kernel
theorem dX5_askBeads_35 : decode cX5_askBeads 35 = .ok (.iconst 4, 1) := by decide +kernel
theorem dX5_askBeads_36 : decode cX5_askBeads 36 = .ok (.invokevirtual 341, 3) := by decide +kernel
theorem dX5_askBeads_39 : decode cX5_askBeads 39 = .ok (.iconst 5, 1) := by decide +kernel
theorem dX5_askBeads_40 : decode cX5_askBeads 40 = .ok (.ireturn, 1) := by decide +kernel
theorem dX5_askBeads_41 : decode cX5_askBeads 41 = .ok (.aload_n 0, 1) := by decide +kernel
theorem dX5_askBeads_42 : decode cX5_askBeads 42 = .ok (.iconst 5, 1) := by decide +kernel
theorem dX5_askBeads_43 : decode cX5_askBeads 43 = .ok (.invokevirtual 341, 3) := by decide +kernel
theorem dX5_askBeads_46 : decode cX5_askBeads 46 = .ok (.aload_n 0, 1) := by decide +kernel
theorem dX5_askBeads_47 : decode cX5_askBeads 47 = .ok (.iconst 4, 1) := by decide +kernel
theorem dX5_askBeads_48 : decode cX5_askBeads 48 = .ok (.invokevirtual 341, 3) := by decide +kernel
theorem dX5_askBeads_51 : decode cX5_askBeads 51 = .ok (.bipush 7, 2) := by decide +kernel
theorem dX5_askBeads_53 : decode cX5_askBeads 53 = .ok (.ireturn, 1) := by decide +kernel
theorem dX5_askCarry_0 : decode cX5_askCarry 0 = .ok (.aload_n 1, 1) := by decide +kernel
theorem dX5_askCarry_1 : decode cX5_askCarry 1 = .ok (.getfield 77, 3) := by decide +kernel
theorem dX5_askCarry_4 : decode cX5_askCarry 4 = .ok (.iconst 2, 1) := by decide +kernel
theorem dX5_askCarry_5 : decode cX5_askCarry 5 = .ok (.if_icmp .ne 5, 3) := by decide +kernel
theorem dX5_askCarry_8 : decode cX5_askCarry 8 = .ok (.iconst (-1), 1) := by decide +kernel
theorem dX5_askCarry_9 : decode cX5_askCarry 9 = .ok (.ireturn, 1) := by decide +kernel
theorem dX5_askCarry_10 : decode cX5_askCarry 10 = .ok (.aload_n 1, 1) := by decide +kernel
theorem dX5_askCarry_11 : decode cX5_askCarry 11 = .ok (.getfield 77, 3) := by decide +kernel
theorem dX5_askCarry_14 : decode cX5_askCarry 14 = .ok (.ifCond .ne 18, 3) := by decide +kernel
theorem dX5_askCarry_17 : decode cX5_askCarry 17 = .ok (.aload_n 0, 1) := by decide +kernel
theorem dX5_askCarry_18 : decode cX5_askCarry 18 = .ok (.bipush 7, 2) := by decide +kernel
theorem dX5_askCarry_20 : decode cX5_askCarry 20 = .ok (.invokevirtual 341, 3) := by decide +kernel
theorem dX5_askCarry_23 : decode cX5_askCarry 23 = .ok (.aload_n 0, 1) := by decide +kernel
theorem dX5_askCarry_24 : decode cX5_askCarry 24 = .ok (.aload_n 1, 1) := by decide +kernel
theorem dX5_askCarry_25 : decode cX5_askCarry 25 = .ok (.iload_n 2, 1) := by decide +kernel
theorem dX5_askCarry_26 : decode cX5_askCarry 26 = .ok (.invokevirtual 142, 3) := by decide +kernel
theorem dX5_askCarry_29 : decode cX5_askCarry 29 = .ok (.iconst 1, 1) := by decide +kernel
theorem dX5_askCarry_30 : decode cX5_askCarry 30 = .ok (.isub, 1) := by decide +kernel
theorem dX5_askCarry_31 : decode cX5_askCarry 31 = .ok (.ireturn, 1) := by decide +kernel
theorem dX5_askCarry_32 : decode cX5_askCarry 32 = .ok (.aload_n 1, 1) := by decide +kernel
theorem dX5_askCarry_33 : decode cX5_askCarry 33 = .ok (.getfield 77, 3) := by decide +kernel
theorem dX5_askCarry_36 : decode cX5_askCarry 36 = .ok (.iconst 4, 1) := by decide +kernel
theorem dX5_askCarry_37 : decode cX5_askCarry 37 = .ok (.if_icmp .eq 17, 3) := by decide +kernel
theorem dX5_askCarry_40 : decode cX5_askCarry 40 = .ok (.aload_n 0, 1) := by decide +kernel
theorem dX5_askCarry_41 : decode cX5_askCarry 41 = .ok (.bipush 8, 2) := by decide +kernel
theorem dX5_askCarry_43 : decode cX5_askCarry 43 = .ok (.invokevirtual 341, 3) := by decide +kernel
theorem dX5_askCarry_46 : decode cX5_askCarry 46 = .ok (.iconst 5, 1) := by decide +kernel
theorem dX5_askCarry_47 : decode cX5_askCarry 47 = .ok (.aload_n 0, 1) := by decide +kernel
theorem dX5_askCarry_48 : decode cX5_askCarry 48 = .ok (.aload_n 1, 1) := by decide +kernel
theorem dX5_askCarry_49 : decode cX5_askCarry 49 = .ok (.invokevirtual 146, 3) := by decide +kernel
theorem dX5_askCarry_52 : decode cX5_askCarry 52 = .ok (.iadd, 1) := by decide +kernel
theorem dX5_askCarry_53 : decode cX5_askCarry 53 = .ok (.ireturn, 1) := by decide +kernel
theorem dX5_askCarry_54 : decode cX5_askCarry 54 = .ok (.aload_n 0, 1) := by decide +kernel
theorem dX5_askCarry_55 : decode cX5_askCarry 55 = .ok (.bipush 9, 2) := by decide +kernel
theorem dX5_askCarry_57 : decode cX5_askCarry 57 = .ok (.invokevirtual 341, 3) := by decide +kernel
theorem dX5_askCarry_60 : decode cX5_askCarry 60 = .ok (.aload_n 1, 1) := by decide +kernel
theorem dX5_askCarry_61 : decode cX5_askCarry 61 = .ok (.getfield 344, 3) := by decide +kernel
theorem dX5_askCarry_64 : decode cX5_askCarry 64 = .ok (.astore_n 3, 1) := by decide +kernel
theorem dX5_askCarry_65 : decode cX5_askCarry 65 = .ok (.aload_n 1, 1) := by decide +kernel
theorem dX5_askCarry_66 : decode cX5_askCarry 66 = .ok (.getfield 347, 3) := by decide +kernel
theorem dX5_askCarry_69 : decode cX5_askCarry 69 = .ok (.astore 4, 2) := by decide +kernel
theorem dX5_askCarry_71 : decode cX5_askCarry 71 = .ok (.aload_n 3, 1) := by decide +kernel
theorem dX5_askCarry_72 : decode cX5_askCarry 72 = .ok (.ifnull 13, 3) := by decide +kernel
theorem dX5_askCarry_75 : decode cX5_askCarry 75 = .ok (.aload 4, 2) := by decide +kernel
theorem dX5_askCarry_77 : decode cX5_askCarry 77 = .ok (.ifnull 8, 3) := by decide +kernel
theorem dX5_askCarry_80 : decode cX5_askCarry 80 = .ok (.iload_n 2, 1) := by decide +kernel
theorem dX5_askCarry_81 : decode cX5_askCarry 81 = .ok (.iconst 5, 1) := by decide +kernel
theorem dX5_askCarry_82 : decode cX5_askCarry 82 = .ok (.if_icmp .le 5, 3) := by decide +kernel
theorem dX5_askCarry_85 : decode cX5_askCarry 85 = .ok (.iconst (-1), 1) := by decide +kernel
theorem dX5_askCarry_86 : decode cX5_askCarry 86 = .ok (.ireturn, 1) := by decide +kernel
theorem dX5_askCarry_87 : decode cX5_askCarry 87 = .ok (.aload_n 0, 1) := by decide +kernel
theorem dX5_askCarry_88 : decode cX5_askCarry 88 = .ok (.aload_n 3, 1) := by decide +kernel
theorem dX5_askCarry_89 : decode cX5_askCarry 89 = .ok (.iload_n 2, 1) := by decide +kernel
theorem dX5_askCarry_90 : decode cX5_askCarry 90 = .ok (.iconst 1, 1) := by decide +kernel
theorem dX5_askCarry_91 : decode cX5_askCarry 91 = .ok (.iadd, 1) := by decide +kernel
theorem dX5_askCarry_92 : decode cX5_askCarry 92 = .ok (.invokevirtual 150, 3) := by decide +kernel
theorem dX5_askCarry_95 : decode cX5_askCarry 95 = .ok (.istore 5, 2) := by decide +kernel
theorem dX5_askCarry_97 : decode cX5_askCarry 97 = .ok (.iload 5, 2) := by decide +kernel
theorem dX5_askCarry_99 : decode cX5_askCarry 99 = .ok (.ifCond .ge 6, 3) := by decide +kernel
theorem dX5_askCarry_102 : decode cX5_askCarry 102 = .ok (.iload 5, 2) := by decide +kernel
theorem dX5_askCarry_104 : decode cX5_askCarry 104 = .ok (.ireturn, 1) := by decide +kernel
theorem dX5_askCarry_105 : decode cX5_askCarry 105 = .ok (.aload_n 0, 1) := by decide +kernel
theorem dX5_askCarry_106 : decode cX5_askCarry 106 = .ok (.aload 4, 2) := by decide +kernel
theorem dX5_askCarry_108 : decode cX5_askCarry 108 = .ok (.iload_n 2, 1) := by decide +kernel
theorem dX5_askCarry_109 : decode cX5_askCarry 109 = .ok (.iconst 1, 1) := by decide +kernel
theorem dX5_askCarry_110 : decode cX5_askCarry 110 = .ok (.iadd, 1) := by decide +kernel
theorem dX5_askCarry_111 : decode cX5_askCarry 111 = .ok (.invokevirtual 150, 3) := by decide +kernel
theorem dX5_askCarry_114 : decode cX5_askCarry 114 = .ok (.istore 6, 2) := by decide +kernel
theorem dX5_askCarry_116 : decode cX5_askCarry 116 = .ok (.iload 6, 2) := by decide +kernel
theorem dX5_askCarry_118 : decode cX5_askCarry 118 = .ok (.ifCond .ge 8, 3) := by decide +kernel
theorem dX5_askCarry_121 : decode cX5_askCarry 121 = .ok (.iload 6, 2) := by decide +kernel
theorem dX5_askCarry_123 : decode cX5_askCarry 123 = .ok (.goto 8, 3) := by decide +kernel
theorem dX5_askCarry_126 : decode cX5_askCarry 126 = .ok (.iload 5, 2) := by decide +kernel
theorem dX5_askCarry_128 : decode cX5_askCarry 128 = .ok (.iload 6, 2) := by decide +kernel
theorem dX5_askCarry_130 : decode cX5_askCarry 130 = .ok (.iadd, 1) := by decide +kernel
theorem dX5_askCarry_131 : decode cX5_askCarry 131 = .ok (.ireturn, 1) := by decide +kernel
theorem dX5_askJudge_0 : decode cX5_askJudge 0 = .ok (.aload_n 1, 1) := by decide +kernel
theorem dX5_askJudge_1 : decode cX5_askJudge 1 = .ok (.getfield 77, 3) := by decide +kernel
theorem dX5_askJudge_4 : decode cX5_askJudge 4 = .ok (.iconst 4, 1) := by decide +kernel
theorem dX5_askJudge_5 : decode cX5_askJudge 5 = .ok (.if_icmp .eq 11, 3) := by decide +kernel
theorem dX5_askJudge_8 : decode cX5_askJudge 8 = .ok (.aload_n 1, 1) := by decide +kernel
theorem dX5_askJudge_9 : decode cX5_askJudge 9 = .ok (.getfield 77, 3) := by decide +kernel
theorem dX5_askJudge_12 : decode cX5_askJudge 12 = .ok (.iconst 2, 1) := by decide +kernel
theorem dX5_askJudge_13 : decode cX5_askJudge 13 = .ok (.if_icmp .ne 5, 3) := by decide +kernel
theorem dX5_askJudge_16 : decode cX5_askJudge 16 = .ok (.iconst (-1), 1) := by decide +kernel
theorem dX5_askJudge_17 : decode cX5_askJudge 17 = .ok (.ireturn, 1) := by decide +kernel
theorem dX5_askJudge_18 : decode cX5_askJudge 18 = .ok (.aload_n 1, 1) := by decide +kernel
theorem dX5_askJudge_19 : decode cX5_askJudge 19 = .ok (.getfield 61, 3) := by decide +kernel
theorem dX5_askJudge_22 : decode cX5_askJudge 22 = .ok (.arraylength, 1) := by decide +kernel
theorem dX5_askJudge_23 : decode cX5_askJudge 23 = .ok (.istore_n 2, 1) := by decide +kernel
theorem dX5_askJudge_24 : decode cX5_askJudge 24 = .ok (.aload_n 1, 1) := by decide +kernel
theorem dX5_askJudge_25 : decode cX5_askJudge 25 = .ok (.getfield 77, 3) := by decide +kernel
theorem dX5_askJudge_28 : decode cX5_askJudge 28 = .ok (.iconst 3, 1) := by decide +kernel
theorem dX5_askJudge_29 : decode cX5_askJudge 29 = .ok (.if_icmp .ne 9, 3) := by decide +kernel
theorem dX5_askJudge_32 : decode cX5_askJudge 32 = .ok (.aload_n 0, 1) := by decide +kernel
theorem dX5_askJudge_33 : decode cX5_askJudge 33 = .ok (.bipush 12, 2) := by decide +kernel
theorem dX5_askJudge_35 : decode cX5_askJudge 35 = .ok (.invokevirtual 341, 3) := by decide +kernel
theorem dX5_askJudge_38 : decode cX5_askJudge 38 = .ok (.aload_n 1, 1) := by decide +kernel
theorem dX5_askJudge_39 : decode cX5_askJudge 39 = .ok (.getfield 77, 3) := by decide +kernel
theorem dX5_askJudge_42 : decode cX5_askJudge 42 = .ok (.ifCond .eq 13, 3) := by decide +kernel
theorem dX5_askJudge_45 : decode cX5_askJudge 45 = .ok (.aload_n 0, 1) := by decide +kernel
theorem dX5_askJudge_46 : decode cX5_askJudge 46 = .ok (.bipush 11, 2) := by decide +kernel
theorem dX5_askJudge_48 : decode cX5_askJudge 48 = .ok (.invokevirtual 341, 3) := by decide +kernel
theorem dX5_askJudge_51 : decode cX5_askJudge 51 = .ok (.iconst 2, 1) := by decide +kernel
theorem dX5_askJudge_52 : decode cX5_askJudge 52 = .ok (.iload_n 2, 1) := by decide +kernel
theorem dX5_askJudge_53 : decode cX5_askJudge 53 = .ok (.imul, 1) := by decide +kernel
theorem dX5_askJudge_54 : decode cX5_askJudge 54 = .ok (.istore_n 2, 1) := by decide +kernel
theorem dX5_askJudge_55 : decode cX5_askJudge 55 = .ok (.aload_n 0, 1) := by decide +kernel
theorem dX5_askJudge_56 : decode cX5_askJudge 56 = .ok (.bipush 10, 2) := by decide +kernel
theorem dX5_askJudge_58 : decode cX5_askJudge 58 = .ok (.invokevirtual 341, 3) := by decide +kernel
theorem dX5_askJudge_61 : decode cX5_askJudge 61 = .ok (.aload_n 1, 1) := by decide +kernel
theorem dX5_askJudge_62 : decode cX5_askJudge 62 = .ok (.getfield 77, 3) := by decide +kernel
theorem dX5_askJudge_65 : decode cX5_askJudge 65 = .ok (.iconst 3, 1) := by decide +kernel
theorem dX5_askJudge_66 : decode cX5_askJudge 66 = .ok (.if_icmp .ne 9, 3) := by decide +kernel
theorem dX5_askJudge_69 : decode cX5_askJudge 69 = .ok (.iload_n 2, 1) := by decide +kernel
theorem dX5_askJudge_70 : decode cX5_askJudge 70 = .ok (.iconst 1, 1) := by decide +kernel
theorem dX5_askJudge_71 : decode cX5_askJudge 71 = .ok (.iadd, 1) := by decide +kernel
theorem dX5_askJudge_72 : decode cX5_askJudge 72 = .ok (.goto 4, 3) := by decide +kernel
theorem dX5_askJudge_75 : decode cX5_askJudge 75 = .ok (.iload_n 2, 1) := by decide +kernel
theorem dX5_askJudge_76 : decode cX5_askJudge 76 = .ok (.ireturn, 1) := by decide +kernel
theorem dX5_digitCount_0 : decode cX5_digitCount 0 = .ok (.iload_n 2, 1) := by decide +kernel
theorem dX5_digitCount_1 : decode cX5_digitCount 1 = .ok (.iconst 1, 1) := by decide +kernel
theorem dX5_digitCount_2 : decode cX5_digitCount 2 = .ok (.if_icmp .gt 5, 3) := by decide +kernel
theorem dX5_digitCount_5 : decode cX5_digitCount 5 = .ok (.iconst 0, 1) := by decide +kernel
theorem dX5_digitCount_6 : decode cX5_digitCount 6 = .ok (.ireturn, 1) := by decide +kernel
theorem dX5_digitCount_7 : decode cX5_digitCount 7 = .ok (.lload_n 0, 1) := by decide +kernel
theorem dX5_digitCount_8 : decode cX5_digitCount 8 = .ok (.lstore_n 3, 1) := by decide +kernel
theorem dX5_digitCount_9 : decode cX5_digitCount 9 = .ok (.iconst 0, 1) := by decide +kernel
theorem dX5_digitCount_10 : decode cX5_digitCount 10 = .ok (.istore 5, 2) := by decide +kernel
theorem dX5_digitCount_12 : decode cX5_digitCount 12 = .ok (.iload 5, 2) := by decide +kernel
theorem dX5_digitCount_14 : decode cX5_digitCount 14 = .ok (.bipush 64, 2) := by decide +kernel
theorem dX5_digitCount_16 : decode cX5_digitCount 16 = .ok (.if_icmp .ge 20, 3) := by decide +kernel
theorem dX5_digitCount_19 : decode cX5_digitCount 19 = .ok (.lload_n 3, 1) := by decide +kernel
theorem dX5_digitCount_20 : decode cX5_digitCount 20 = .ok (.lconst 0, 1) := by decide +kernel
theorem dX5_digitCount_21 : decode cX5_digitCount 21 = .ok (.lcmp, 1) := by decide +kernel
theorem dX5_digitCount_22 : decode cX5_digitCount 22 = .ok (.ifCond .le 14, 3) := by decide +kernel
theorem dX5_digitCount_25 : decode cX5_digitCount 25 = .ok (.lload_n 3, 1) := by decide +kernel
theorem dX5_digitCount_26 : decode cX5_digitCount 26 = .ok (.iload_n 2, 1) := by decide +kernel
theorem dX5_digitCount_27 : decode cX5_digitCount 27 = .ok (.i2l, 1) := by decide +kernel
theorem dX5_digitCount_28 : decode cX5_digitCount 28 = .ok (.ldiv, 1) := by decide +kernel
theorem dX5_digitCount_29 : decode cX5_digitCount 29 = .ok (.lstore_n 3, 1) := by decide +kernel
theorem dX5_digitCount_30 : decode cX5_digitCount 30 = .ok (.iinc 5 1, 3) := by decide +kernel
theorem dX5_digitCount_33 : decode cX5_digitCount 33 = .ok (.goto (-21), 3) := by decide +kernel
theorem dX5_digitCount_36 : decode cX5_digitCount 36 = .ok (.iload 5, 2) := by decide +kernel
theorem dX5_digitCount_38 : decode cX5_digitCount 38 = .ok (.ireturn, 1) := by decide +kernel
theorem dX5_digitAt_0 : decode cX5_digitAt 0 = .ok (.iload_n 2, 1) := by decide +kernel
theorem dX5_digitAt_1 : decode cX5_digitAt 1 = .ok (.iconst 1, 1) := by decide +kernel
theorem dX5_digitAt_2 : decode cX5_digitAt 2 = .ok (.if_icmp .gt 5, 3) := by decide +kernel
theorem dX5_digitAt_5 : decode cX5_digitAt 5 = .ok (.iconst 0, 1) := by decide +kernel
theorem dX5_digitAt_6 : decode cX5_digitAt 6 = .ok (.ireturn, 1) := by decide +kernel
theorem dX5_digitAt_7 : decode cX5_digitAt 7 = .ok (.lload_n 0, 1) := by decide +kernel
theorem dX5_digitAt_8 : decode cX5_digitAt 8 = .ok (.lstore 4, 2) := by decide +kernel
theorem dX5_digitAt_10 : decode cX5_digitAt 10 = .ok (.iconst 0, 1) := by decide +kernel
theorem dX5_digitAt_11 : decode cX5_digitAt 11 = .ok (.istore 6, 2) := by decide +kernel
theorem dX5_digitAt_13 : decode cX5_digitAt 13 = .ok (.iload 6, 2) := by decide +kernel
theorem dX5_digitAt_15 : decode cX5_digitAt 15 = .ok (.iload_n 3, 1) := by decide +kernel
theorem dX5_digitAt_16 : decode cX5_digitAt 16 = .ok (.if_icmp .ge 16, 3) := by decide +kernel
theorem dX5_digitAt_19 : decode cX5_digitAt 19 = .ok (.lload 4, 2) := by decide +kernel
theorem dX5_digitAt_21 : decode cX5_digitAt 21 = .ok (.iload_n 2, 1) := by decide +kernel
theorem dX5_digitAt_22 : decode cX5_digitAt 22 = .ok (.i2l, 1) := by decide +kernel
theorem dX5_digitAt_23 : decode cX5_digitAt 23 = .ok (.ldiv, 1) := by decide +kernel
theorem dX5_digitAt_24 : decode cX5_digitAt 24 = .ok (.lstore 4, 2) := by decide +kernel
theorem dX5_digitAt_26 : decode cX5_digitAt 26 = .ok (.iinc 6 1, 3) := by decide +kernel
theorem dX5_digitAt_29 : decode cX5_digitAt 29 = .ok (.goto (-16), 3) := by decide +kernel
theorem dX5_digitAt_32 : decode cX5_digitAt 32 = .ok (.lload 4, 2) := by decide +kernel
theorem dX5_digitAt_34 : decode cX5_digitAt 34 = .ok (.iload_n 2, 1) := by decide +kernel
theorem dX5_digitAt_35 : decode cX5_digitAt 35 = .ok (.i2l, 1) := by decide +kernel
theorem dX5_digitAt_36 : decode cX5_digitAt 36 = .ok (.lrem, 1) := by decide +kernel
theorem dX5_digitAt_37 : decode cX5_digitAt 37 = .ok (.l2i, 1) := by decide +kernel
theorem dX5_digitAt_38 : decode cX5_digitAt 38 = .ok (.ireturn, 1) := by decide +kernel
theorem dX5_power_0 : decode cX5_power 0 = .ok (.lconst 1, 1) := by decide +kernel
theorem dX5_power_1 : decode cX5_power 1 = .ok (.lstore_n 2, 1) := by decide +kernel
theorem dX5_power_2 : decode cX5_power 2 = .ok (.iconst 0, 1) := by decide +kernel
theorem dX5_power_3 : decode cX5_power 3 = .ok (.istore 4, 2) := by decide +kernel
theorem dX5_power_5 : decode cX5_power 5 = .ok (.iload 4, 2) := by decide +kernel
theorem dX5_power_7 : decode cX5_power 7 = .ok (.iload_n 1, 1) := by decide +kernel
theorem dX5_power_8 : decode cX5_power 8 = .ok (.if_icmp .ge 14, 3) := by decide +kernel
theorem dX5_power_11 : decode cX5_power 11 = .ok (.lload_n 2, 1) := by decide +kernel
theorem dX5_power_12 : decode cX5_power 12 = .ok (.iload_n 0, 1) := by decide +kernel
theorem dX5_power_13 : decode cX5_power 13 = .ok (.i2l, 1) := by decide +kernel
theorem dX5_power_14 : decode cX5_power 14 = .ok (.lmul, 1) := by decide +kernel
theorem dX5_power_15 : decode cX5_power 15 = .ok (.lstore_n 2, 1) := by decide +kernel
theorem dX5_power_16 : decode cX5_power 16 = .ok (.iinc 4 1, 3) := by decide +kernel
theorem dX5_power_19 : decode cX5_power 19 = .ok (.goto (-14), 3) := by decide +kernel
theorem dX5_power_22 : decode cX5_power 22 = .ok (.lload_n 2, 1) := by decide +kernel
theorem dX5_power_23 : decode cX5_power 23 = .ok (.lreturn, 1) := by decide +kernel
theorem dX5_endlessField_0 : decode cX5_endlessField 0 = .ok (.iload_n 0, 1) := by decide +kernel
theorem dX5_endlessField_1 : decode cX5_endlessField 1 = .ok (.bipush 23, 2) := by decide +kernel
theorem dX5_endlessField_3 : decode cX5_endlessField 3 = .ok (.if_icmp .ne 9, 3) := by decide +kernel
theorem dX5_endlessField_6 : decode cX5_endlessField 6 = .ok (.sipush 255, 3) := by decide +kernel
theorem dX5_endlessField_9 : decode cX5_endlessField 9 = .ok (.goto 6, 3) := by decide +kernel
theorem dX5_endlessField_12 : decode cX5_endlessField 12 = .ok (.sipush 2047, 3) := by decide +kernel
theorem dX5_endlessField_15 : decode cX5_endlessField 15 = .ok (.ireturn, 1) := by decide +kernel
theorem dX5_exponentField_0 : decode cX5_exponentField 0 = .ok (.lload_n 0, 1) := by decide +kernel
theorem dX5_exponentField_1 : decode cX5_exponentField 1 = .ok (.iload_n 2, 1) := by decide +kernel
theorem dX5_exponentField_2 : decode cX5_exponentField 2 = .ok (.lushr, 1) := by decide +kernel
theorem dX5_exponentField_3 : decode cX5_exponentField 3 = .ok (.l2i, 1) := by decide +kernel
theorem dX5_exponentField_4 : decode cX5_exponentField 4 = .ok (.iload_n 2, 1) := by decide +kernel
theorem dX5_exponentField_5 : decode cX5_exponentField 5 = .ok (.invokestatic 350, 3) := by decide +kernel
theorem dX5_exponentField_8 : decode cX5_exponentField 8 = .ok (.iand, 1) := by decide +kernel
theorem dX5_exponentField_9 : decode cX5_exponentField 9 = .ok (.ireturn, 1) := by decide +kernel
theorem dX5_fraction_0 : decode cX5_fraction 0 = .ok (.lload_n 0, 1) := by decide +kernel
theorem dX5_fraction_1 : decode cX5_fraction 1 = .ok (.lconst 1, 1) := by decide +kernel
theorem dX5_fraction_2 : decode cX5_fraction 2 = .ok (.iload_n 2, 1) := by decide +kernel
theorem dX5_fraction_3 : decode cX5_fraction 3 = .ok (.lshl, 1) := by decide +kernel
theorem dX5_fraction_4 : decode cX5_fraction 4 = .ok (.lconst 1, 1) := by decide +kernel
theorem dX5_fraction_5 : decode cX5_fraction 5 = .ok (.lsub, 1) := by decide +kernel
theorem dX5_fraction_6 : decode cX5_fraction 6 = .ok (.land, 1) := by decide +kernel
theorem dX5_fraction_7 : decode cX5_fraction 7 = .ok (.lreturn, 1) := by decide +kernel
theorem dX5_significand_0 : decode cX5_significand 0 = .ok (.lload_n 0, 1) := by decide +kernel
theorem dX5_significand_1 : decode cX5_significand 1 = .ok (.iload_n 2, 1) := by decide +kernel
theorem dX5_significand_2 : decode cX5_significand 2 = .ok (.invokestatic 353, 3) := by decide +kernel
theorem dX5_significand_5 : decode cX5_significand 5 = .ok (.lstore_n 3, 1) := by decide +kernel
theorem dX5_significand_6 : decode cX5_significand 6 = .ok (.lload_n 0, 1) := by decide +kernel
theorem dX5_significand_7 : decode cX5_significand 7 = .ok (.iload_n 2, 1) := by decide +kernel
theorem dX5_significand_8 : decode cX5_significand 8 = .ok (.invokestatic 357, 3) := by decide +kernel
theorem dX5_significand_11 : decode cX5_significand 11 = .ok (.ifCond .ne 7, 3) := by decide +kernel
theorem dX5_significand_14 : decode cX5_significand 14 = .ok (.lload_n 3, 1) := by decide +kernel
theorem dX5_significand_15 : decode cX5_significand 15 = .ok (.goto 8, 3) := by decide +kernel
theorem dX5_significand_18 : decode cX5_significand 18 = .ok (.lload_n 3, 1) := by decide +kernel
theorem dX5_significand_19 : decode cX5_significand 19 = .ok (.lconst 1, 1) := by decide +kernel
theorem dX5_significand_20 : decode cX5_significand 20 = .ok (.iload_n 2, 1) := by decide +kernel
theorem dX5_significand_21 : decode cX5_significand 21 = .ok (.lshl, 1) := by decide +kernel
theorem dX5_significand_22 : decode cX5_significand 22 = .ok (.lor, 1) := by decide +kernel
theorem dX5_significand_23 : decode cX5_significand 23 = .ok (.lreturn, 1) := by decide +kernel
theorem dX5_signBit_0 : decode cX5_signBit 0 = .ok (.lload_n 0, 1) := by decide +kernel
theorem dX5_signBit_1 : decode cX5_signBit 1 = .ok (.iload_n 2, 1) := by decide +kernel
theorem dX5_signBit_2 : decode cX5_signBit 2 = .ok (.bipush 23, 2) := by decide +kernel
theorem dX5_signBit_4 : decode cX5_signBit 4 = .ok (.if_icmp .ne 9, 3) := by decide +kernel
theorem dX5_signBit_7 : decode cX5_signBit 7 = .ok (.ldc2_w 360, 3) := by decide +kernel
theorem dX5_signBit_10 : decode cX5_signBit 10 = .ok (.goto 6, 3) := by decide +kernel
theorem dX5_signBit_13 : decode cX5_signBit 13 = .ok (.ldc2_w 114, 3) := by decide +kernel
theorem dX5_signBit_16 : decode cX5_signBit 16 = .ok (.land, 1) := by decide +kernel
theorem dX5_signBit_17 : decode cX5_signBit 17 = .ok (.lreturn, 1) := by decide +kernel
theorem dX5_writeWhole_0 : decode cX5_writeWhole 0 = .ok (.aload_n 1, 1) := by decide +kernel
theorem dX5_writeWhole_1 : decode cX5_writeWhole 1 = .ok (.ifnonnull 5, 3) := by decide +kernel
theorem dX5_writeWhole_4 : decode cX5_writeWhole 4 = .ok (.iconst (-1), 1) := by decide +kernel
theorem dX5_writeWhole_5 : decode cX5_writeWhole 5 = .ok (.ireturn, 1) := by decide +kernel
theorem dX5_writeWhole_6 : decode cX5_writeWhole 6 = .ok (.lload_n 2, 1) := by decide +kernel
theorem dX5_writeWhole_7 : decode cX5_writeWhole 7 = .ok (.iload 4, 2) := by decide +kernel
theorem dX5_writeWhole_9 : decode cX5_writeWhole 9 = .ok (.invokestatic 357, 3) := by decide +kernel
theorem dX5_writeWhole_12 : decode cX5_writeWhole 12 = .ok (.istore 5, 2) := by decide +kernel
theorem dX5_writeWhole_14 : decode cX5_writeWhole 14 = .ok (.lload_n 2, 1) := by decide +kernel
theorem dX5_writeWhole_15 : decode cX5_writeWhole 15 = .ok (.iload 4, 2) := by decide +kernel
theorem dX5_writeWhole_17 : decode cX5_writeWhole 17 = .ok (.invokestatic 362, 3) := by decide +kernel
theorem dX5_writeWhole_20 : decode cX5_writeWhole 20 = .ok (.lstore 6, 2) := by decide +kernel
theorem dX5_writeWhole_22 : decode cX5_writeWhole 22 = .ok (.iload 5, 2) := by decide +kernel
theorem dX5_writeWhole_24 : decode cX5_writeWhole 24 = .ok (.iload 4, 2) := by decide +kernel
theorem dX5_writeWhole_26 : decode cX5_writeWhole 26 = .ok (.invokestatic 350, 3) := by decide +kernel
theorem dX5_writeWhole_29 : decode cX5_writeWhole 29 = .ok (.if_icmp .eq 21, 3) := by decide +kernel
theorem dX5_writeWhole_32 : decode cX5_writeWhole 32 = .ok (.lload_n 2, 1) := by decide +kernel
theorem dX5_writeWhole_33 : decode cX5_writeWhole 33 = .ok (.iload 4, 2) := by decide +kernel
theorem dX5_writeWhole_35 : decode cX5_writeWhole 35 = .ok (.invokestatic 365, 3) := by decide +kernel
theorem dX5_writeWhole_38 : decode cX5_writeWhole 38 = .ok (.lconst 0, 1) := by decide +kernel
theorem dX5_writeWhole_39 : decode cX5_writeWhole 39 = .ok (.lcmp, 1) := by decide +kernel
theorem dX5_writeWhole_40 : decode cX5_writeWhole 40 = .ok (.ifCond .eq 13, 3) := by decide +kernel
theorem dX5_writeWhole_43 : decode cX5_writeWhole 43 = .ok (.lload 6, 2) := by decide +kernel
theorem dX5_writeWhole_45 : decode cX5_writeWhole 45 = .ok (.lconst 0, 1) := by decide +kernel
theorem dX5_writeWhole_46 : decode cX5_writeWhole 46 = .ok (.lcmp, 1) := by decide +kernel
theorem dX5_writeWhole_47 : decode cX5_writeWhole 47 = .ok (.ifCond .eq 6, 3) := by decide +kernel
theorem dX5_writeWhole_50 : decode cX5_writeWhole 50 = .ok (.bipush (-2), 2) := by decide +kernel
theorem dX5_writeWhole_52 : decode cX5_writeWhole 52 = .ok (.ireturn, 1) := by decide +kernel
theorem dX5_writeWhole_53 : decode cX5_writeWhole 53 = .ok (.iload 4, 2) := by decide +kernel
theorem dX5_writeWhole_55 : decode cX5_writeWhole 55 = .ok (.invokestatic 350, 3) := by decide +kernel
theorem dX5_writeWhole_58 : decode cX5_writeWhole 58 = .ok (.iconst 2, 1) := by decide +kernel
theorem dX5_writeWhole_59 : decode cX5_writeWhole 59 = .ok (.idiv, 1) := by decide +kernel
theorem dX5_writeWhole_60 : decode cX5_writeWhole 60 = .ok (.istore 8, 2) := by decide +kernel
theorem dX5_writeWhole_62 : decode cX5_writeWhole 62 = .ok (.aload_n 0, 1) := by decide +kernel
theorem dX5_writeWhole_63 : decode cX5_writeWhole 63 = .ok (.aload_n 1, 1) := by decide +kernel
theorem dX5_writeWhole_64 : decode cX5_writeWhole 64 = .ok (.lload 6, 2) := by decide +kernel
theorem dX5_writeWhole_66 : decode cX5_writeWhole 66 = .ok (.iload 5, 2) := by decide +kernel
theorem dX5_writeWhole_68 : decode cX5_writeWhole 68 = .ok (.iconst 1, 1) := by decide +kernel
theorem dX5_writeWhole_69 : decode cX5_writeWhole 69 = .ok (.invokestatic 68, 3) := by decide +kernel
theorem dX5_writeWhole_72 : decode cX5_writeWhole 72 = .ok (.iload 8, 2) := by decide +kernel
theorem dX5_writeWhole_74 : decode cX5_writeWhole 74 = .ok (.isub, 1) := by decide +kernel
theorem dX5_writeWhole_75 : decode cX5_writeWhole 75 = .ok (.iload 4, 2) := by decide +kernel
theorem dX5_writeWhole_77 : decode cX5_writeWhole 77 = .ok (.isub, 1) := by decide +kernel
theorem dX5_writeWhole_78 : decode cX5_writeWhole 78 = .ok (.invokestatic 368, 3) := by decide +kernel
theorem dX5_writeWhole_81 : decode cX5_writeWhole 81 = .ok (.invokevirtual 127, 3) := by decide +kernel
theorem dX5_writeWhole_84 : decode cX5_writeWhole 84 = .ok (.ireturn, 1) := by decide +kernel
theorem dX5_shifted_0 : decode cX5_shifted 0 = .ok (.lload_n 0, 1) := by decide +kernel
theorem dX5_shifted_1 : decode cX5_shifted 1 = .ok (.lconst 0, 1) := by decide +kernel
theorem dX5_shifted_2 : decode cX5_shifted 2 = .ok (.lcmp, 1) := by decide +kernel
theorem dX5_shifted_3 : decode cX5_shifted 3 = .ok (.ifCond .eq 9, 3) := by decide +kernel
theorem dX5_shifted_6 : decode cX5_shifted 6 = .ok (.iload_n 2, 1) := by decide +kernel
theorem dX5_shifted_7 : decode cX5_shifted 7 = .ok (.bipush (-64), 2) := by decide +kernel
theorem dX5_shifted_9 : decode cX5_shifted 9 = .ok (.if_icmp .gt 5, 3) := by decide +kernel
theorem dX5_shifted_12 : decode cX5_shifted 12 = .ok (.lconst 0, 1) := by decide +kernel
theorem dX5_shifted_13 : decode cX5_shifted 13 = .ok (.lreturn, 1) := by decide +kernel
theorem dX5_shifted_14 : decode cX5_shifted 14 = .ok (.iload_n 2, 1) := by decide +kernel
theorem dX5_shifted_15 : decode cX5_shifted 15 = .ok (.ifCond .gt 8, 3) := by decide +kernel
theorem dX5_shifted_18 : decode cX5_shifted 18 = .ok (.lload_n 0, 1) := by decide +kernel
theorem dX5_shifted_19 : decode cX5_shifted 19 = .ok (.iload_n 2, 1) := by decide +kernel
theorem dX5_shifted_20 : decode cX5_shifted 20 = .ok (.ineg, 1) := by decide +kernel
theorem dX5_shifted_21 : decode cX5_shifted 21 = .ok (.lushr, 1) := by decide +kernel
theorem dX5_shifted_22 : decode cX5_shifted 22 = .ok (.lreturn, 1) := by decide +kernel
theorem dX5_shifted_23 : decode cX5_shifted 23 = .ok (.iload_n 2, 1) := by decide +kernel
theorem dX5_shifted_24 : decode cX5_shifted 24 = .ok (.bipush 62, 2) := by decide +kernel
theorem dX5_shifted_26 : decode cX5_shifted 26 = .ok (.if_icmp .gt 13, 3) := by decide +kernel
theorem dX5_shifted_29 : decode cX5_shifted 29 = .ok (.lload_n 0, 1) := by decide +kernel
theorem dX5_shifted_30 : decode cX5_shifted 30 = .ok (.ldc2_w 371, 3) := by decide +kernel
theorem dX5_shifted_33 : decode cX5_shifted 33 = .ok (.iload_n 2, 1) := by decide +kernel
theorem dX5_shifted_34 : decode cX5_shifted 34 = .ok (.lshr, 1) := by decide +kernel
theorem dX5_shifted_35 : decode cX5_shifted 35 = .ok (.lcmp, 1) := by decide +kernel
theorem dX5_shifted_36 : decode cX5_shifted 36 = .ok (.ifCond .le 9, 3) := by decide +kernel
theorem dX5_shifted_39 : decode cX5_shifted 39 = .ok (.ldc2_w 371, 3) := by decide +kernel
theorem dX5_shifted_42 : decode cX5_shifted 42 = .ok (.goto 6, 3) := by decide +kernel
theorem dX5_shifted_45 : decode cX5_shifted 45 = .ok (.lload_n 0, 1) := by decide +kernel
theorem dX5_shifted_46 : decode cX5_shifted 46 = .ok (.iload_n 2, 1) := by decide +kernel
theorem dX5_shifted_47 : decode cX5_shifted 47 = .ok (.lshl, 1) := by decide +kernel
theorem dX5_shifted_48 : decode cX5_shifted 48 = .ok (.lreturn, 1) := by decide +kernel
theorem dX5_rest_0 : decode cX5_rest 0 = .ok (.iload 4, 2) := by decide +kernel
theorem dX5_rest_2 : decode cX5_rest 2 = .ok (.bipush 23, 2) := by decide +kernel
theorem dX5_rest_4 : decode cX5_rest 4 = .ok (.if_icmp .ne 9, 3) := by decide +kernel
theorem dX5_rest_7 : decode cX5_rest 7 = .ok (.ldc2_w 373, 3) := by decide +kernel
theorem dX5_rest_10 : decode cX5_rest 10 = .ok (.goto 6, 3) := by decide +kernel
theorem dX5_rest_13 : decode cX5_rest 13 = .ok (.ldc2_w 375, 3) := by decide +kernel
theorem dX5_rest_16 : decode cX5_rest 16 = .ok (.lstore 5, 2) := by decide +kernel
theorem dX5_rest_18 : decode cX5_rest 18 = .ok (.iload 4, 2) := by decide +kernel
theorem dX5_rest_20 : decode cX5_rest 20 = .ok (.invokestatic 350, 3) := by decide +kernel
theorem dX5_rest_23 : decode cX5_rest 23 = .ok (.istore 7, 2) := by decide +kernel
theorem dX5_rest_25 : decode cX5_rest 25 = .ok (.lload_n 2, 1) := by decide +kernel
theorem dX5_rest_26 : decode cX5_rest 26 = .ok (.iload 4, 2) := by decide +kernel
theorem dX5_rest_28 : decode cX5_rest 28 = .ok (.invokestatic 362, 3) := by decide +kernel
theorem dX5_rest_31 : decode cX5_rest 31 = .ok (.lstore 8, 2) := by decide +kernel
theorem dX5_rest_33 : decode cX5_rest 33 = .ok (.lload_n 0, 1) := by decide +kernel
theorem dX5_rest_34 : decode cX5_rest 34 = .ok (.iload 4, 2) := by decide +kernel
theorem dX5_rest_36 : decode cX5_rest 36 = .ok (.invokestatic 357, 3) := by decide +kernel
theorem dX5_rest_39 : decode cX5_rest 39 = .ok (.iload 7, 2) := by decide +kernel
theorem dX5_rest_41 : decode cX5_rest 41 = .ok (.if_icmp .eq 10, 3) := by decide +kernel
theorem dX5_rest_44 : decode cX5_rest 44 = .ok (.lload 8, 2) := by decide +kernel
theorem dX5_rest_46 : decode cX5_rest 46 = .ok (.lconst 0, 1) := by decide +kernel
theorem dX5_rest_47 : decode cX5_rest 47 = .ok (.lcmp, 1) := by decide +kernel
theorem dX5_rest_48 : decode cX5_rest 48 = .ok (.ifCond .ne 6, 3) := by decide +kernel
theorem dX5_rest_51 : decode cX5_rest 51 = .ok (.lload 5, 2) := by decide +kernel
theorem dX5_rest_53 : decode cX5_rest 53 = .ok (.lreturn, 1) := by decide +kernel
theorem dX5_rest_54 : decode cX5_rest 54 = .ok (.lload_n 2, 1) := by decide +kernel
theorem dX5_rest_55 : decode cX5_rest 55 = .ok (.iload 4, 2) := by decide +kernel
theorem dX5_rest_57 : decode cX5_rest 57 = .ok (.invokestatic 357, 3) := by decide +kernel
theorem dX5_rest_60 : decode cX5_rest 60 = .ok (.iload 7, 2) := by decide +kernel
theorem dX5_rest_62 : decode cX5_rest 62 = .ok (.if_icmp .ne 21, 3) := by decide +kernel
theorem dX5_rest_65 : decode cX5_rest 65 = .ok (.lload_n 2, 1) := by decide +kernel
theorem dX5_rest_66 : decode cX5_rest 66 = .ok (.iload 4, 2) := by decide +kernel
theorem dX5_rest_68 : decode cX5_rest 68 = .ok (.invokestatic 353, 3) := by decide +kernel
theorem dX5_rest_71 : decode cX5_rest 71 = .ok (.lconst 0, 1) := by decide +kernel
theorem dX5_rest_72 : decode cX5_rest 72 = .ok (.lcmp, 1) := by decide +kernel
theorem dX5_rest_73 : decode cX5_rest 73 = .ok (.ifCond .ne 7, 3) := by decide +kernel
theorem dX5_rest_76 : decode cX5_rest 76 = .ok (.lload_n 0, 1) := by decide +kernel
theorem dX5_rest_77 : decode cX5_rest 77 = .ok (.goto 5, 3) := by decide +kernel
theorem dX5_rest_80 : decode cX5_rest 80 = .ok (.lload 5, 2) := by decide +kernel
theorem dX5_rest_82 : decode cX5_rest 82 = .ok (.lreturn, 1) := by decide +kernel
theorem dX5_rest_83 : decode cX5_rest 83 = .ok (.lload_n 0, 1) := by decide +kernel
theorem dX5_rest_84 : decode cX5_rest 84 = .ok (.iload 4, 2) := by decide +kernel
theorem dX5_rest_86 : decode cX5_rest 86 = .ok (.invokestatic 357, 3) := by decide +kernel
theorem dX5_rest_89 : decode cX5_rest 89 = .ok (.iconst 1, 1) := by decide +kernel
theorem dX5_rest_90 : decode cX5_rest 90 = .ok (.invokestatic 68, 3) := by decide +kernel
theorem dX5_rest_93 : decode cX5_rest 93 = .ok (.istore 10, 2) := by decide +kernel
theorem dX5_rest_95 : decode cX5_rest 95 = .ok (.lload_n 2, 1) := by decide +kernel
theorem dX5_rest_96 : decode cX5_rest 96 = .ok (.iload 4, 2) := by decide +kernel
theorem dX5_rest_98 : decode cX5_rest 98 = .ok (.invokestatic 357, 3) := by decide +kernel
theorem dX5_rest_101 : decode cX5_rest 101 = .ok (.iconst 1, 1) := by decide +kernel
theorem dX5_rest_102 : decode cX5_rest 102 = .ok (.invokestatic 68, 3) := by decide +kernel
theorem dX5_rest_105 : decode cX5_rest 105 = .ok (.istore 11, 2) := by decide +kernel
theorem dX5_rest_107 : decode cX5_rest 107 = .ok (.iload 10, 2) := by decide +kernel
theorem dX5_rest_109 : decode cX5_rest 109 = .ok (.iload 11, 2) := by decide +kernel
theorem dX5_rest_111 : decode cX5_rest 111 = .ok (.if_icmp .ge 5, 3) := by decide +kernel
theorem dX5_rest_114 : decode cX5_rest 114 = .ok (.lload_n 0, 1) := by decide +kernel
theorem dX5_rest_115 : decode cX5_rest 115 = .ok (.lreturn, 1) := by decide +kernel
theorem dX5_rest_116 : decode cX5_rest 116 = .ok (.lload_n 0, 1) := by decide +kernel
theorem dX5_rest_117 : decode cX5_rest 117 = .ok (.iload 4, 2) := by decide +kernel
theorem dX5_rest_119 : decode cX5_rest 119 = .ok (.invokestatic 362, 3) := by decide +kernel
theorem dX5_rest_122 : decode cX5_rest 122 = .ok (.lload 8, 2) := by decide +kernel
theorem dX5_rest_124 : decode cX5_rest 124 = .ok (.lrem, 1) := by decide +kernel
theorem dX5_rest_125 : decode cX5_rest 125 = .ok (.lstore 12, 2) := by decide +kernel
theorem dX5_rest_127 : decode cX5_rest 127 = .ok (.iload 10, 2) := by decide +kernel
theorem dX5_rest_129 : decode cX5_rest 129 = .ok (.iload 11, 2) := by decide +kernel
theorem dX5_rest_131 : decode cX5_rest 131 = .ok (.isub, 1) := by decide +kernel
theorem dX5_rest_132 : decode cX5_rest 132 = .ok (.istore 14, 2) := by decide +kernel
theorem dX5_rest_134 : decode cX5_rest 134 = .ok (.iload 14, 2) := by decide +kernel
theorem dX5_rest_136 : decode cX5_rest 136 = .ok (.ifCond .le 24, 3) := by decide +kernel
theorem dX5_rest_139 : decode cX5_rest 139 = .ok (.lload 12, 2) := by decide +kernel
theorem dX5_rest_141 : decode cX5_rest 141 = .ok (.iload 14, 2) := by decide +kernel
theorem dX5_rest_143 : decode cX5_rest 143 = .ok (.bipush 10, 2) := by decide +kernel
theorem dX5_rest_145 : decode cX5_rest 145 = .ok (.invokestatic 377, 3) := by decide +kernel
theorem dX5_rest_148 : decode cX5_rest 148 = .ok (.lshl, 1) := by decide +kernel
theorem dX5_rest_149 : decode cX5_rest 149 = .ok (.lload 8, 2) := by decide +kernel
theorem dX5_rest_151 : decode cX5_rest 151 = .ok (.lrem, 1) := by decide +kernel
theorem dX5_rest_152 : decode cX5_rest 152 = .ok (.lstore 12, 2) := by decide +kernel
theorem dX5_rest_154 : decode cX5_rest 154 = .ok (.iinc 14 (-10), 3) := by decide +kernel
theorem dX5_rest_157 : decode cX5_rest 157 = .ok (.goto (-23), 3) := by decide +kernel
theorem dX5_rest_160 : decode cX5_rest 160 = .ok (.lload_n 0, 1) := by decide +kernel
theorem dX5_rest_161 : decode cX5_rest 161 = .ok (.iload 4, 2) := by decide +kernel
theorem dX5_rest_163 : decode cX5_rest 163 = .ok (.invokestatic 365, 3) := by decide +kernel
theorem dX5_rest_166 : decode cX5_rest 166 = .ok (.lload 12, 2) := by decide +kernel
theorem dX5_rest_168 : decode cX5_rest 168 = .ok (.iload 11, 2) := by decide +kernel
theorem dX5_rest_170 : decode cX5_rest 170 = .ok (.iload 4, 2) := by decide +kernel
theorem dX5_rest_172 : decode cX5_rest 172 = .ok (.invokestatic 380, 3) := by decide +kernel
theorem dX5_rest_175 : decode cX5_rest 175 = .ok (.lor, 1) := by decide +kernel
theorem dX5_rest_176 : decode cX5_rest 176 = .ok (.lreturn, 1) := by decide +kernel
theorem dX5_packed_0 : decode cX5_packed 0 = .ok (.lload_n 0, 1) := by decide +kernel
theorem dX5_packed_1 : decode cX5_packed 1 = .ok (.lstore 4, 2) := by decide +kernel
theorem dX5_packed_3 : decode cX5_packed 3 = .ok (.iload_n 2, 1) := by decide +kernel
theorem dX5_packed_4 : decode cX5_packed 4 = .ok (.istore 6, 2) := by decide +kernel
theorem dX5_packed_6 : decode cX5_packed 6 = .ok (.iconst 0, 1) := by decide +kernel
theorem dX5_packed_7 : decode cX5_packed 7 = .ok (.istore 7, 2) := by decide +kernel
theorem dX5_packed_9 : decode cX5_packed 9 = .ok (.iload 7, 2) := by decide +kernel
theorem dX5_packed_11 : decode cX5_packed 11 = .ok (.iload_n 3, 1) := by decide +kernel
theorem dX5_packed_12 : decode cX5_packed 12 = .ok (.if_icmp .ge 33, 3) := by decide +kernel
theorem dX5_packed_15 : decode cX5_packed 15 = .ok (.iload 6, 2) := by decide +kernel
theorem dX5_packed_17 : decode cX5_packed 17 = .ok (.iconst 1, 1) := by decide +kernel
theorem dX5_packed_18 : decode cX5_packed 18 = .ok (.if_icmp .le 27, 3) := by decide +kernel
theorem dX5_packed_21 : decode cX5_packed 21 = .ok (.lload 4, 2) := by decide +kernel
theorem dX5_packed_23 : decode cX5_packed 23 = .ok (.lconst 1, 1) := by decide +kernel
theorem dX5_packed_24 : decode cX5_packed 24 = .ok (.iload_n 3, 1) := by decide +kernel
theorem dX5_packed_25 : decode cX5_packed 25 = .ok (.lshl, 1) := by decide +kernel
theorem dX5_packed_26 : decode cX5_packed 26 = .ok (.lcmp, 1) := by decide +kernel
theorem dX5_packed_27 : decode cX5_packed 27 = .ok (.ifCond .ge 18, 3) := by decide +kernel
theorem dX5_packed_30 : decode cX5_packed 30 = .ok (.lload 4, 2) := by decide +kernel
theorem dX5_packed_32 : decode cX5_packed 32 = .ok (.iconst 1, 1) := by decide +kernel
theorem dX5_packed_33 : decode cX5_packed 33 = .ok (.lshl, 1) := by decide +kernel
theorem dX5_packed_34 : decode cX5_packed 34 = .ok (.lstore 4, 2) := by decide +kernel
theorem dX5_packed_36 : decode cX5_packed 36 = .ok (.iinc 6 (-1), 3) := by decide +kernel
theorem dX5_packed_39 : decode cX5_packed 39 = .ok (.iinc 7 1, 3) := by decide +kernel
theorem dX5_packed_42 : decode cX5_packed 42 = .ok (.goto (-33), 3) := by decide +kernel
theorem dX5_packed_45 : decode cX5_packed 45 = .ok (.lload 4, 2) := by decide +kernel
theorem dX5_packed_47 : decode cX5_packed 47 = .ok (.lconst 1, 1) := by decide +kernel
theorem dX5_packed_48 : decode cX5_packed 48 = .ok (.iload_n 3, 1) := by decide +kernel
theorem dX5_packed_49 : decode cX5_packed 49 = .ok (.lshl, 1) := by decide +kernel
theorem dX5_packed_50 : decode cX5_packed 50 = .ok (.lcmp, 1) := by decide +kernel
theorem dX5_packed_51 : decode cX5_packed 51 = .ok (.ifCond .ge 8, 3) := by decide +kernel
theorem dX5_packed_54 : decode cX5_packed 54 = .ok (.lload 4, 2) := by decide +kernel
theorem dX5_packed_56 : decode cX5_packed 56 = .ok (.goto 15, 3) := by decide +kernel
theorem dX5_packed_59 : decode cX5_packed 59 = .ok (.iload 6, 2) := by decide +kernel
theorem dX5_packed_61 : decode cX5_packed 61 = .ok (.i2l, 1) := by decide +kernel
theorem dX5_packed_62 : decode cX5_packed 62 = .ok (.iload_n 3, 1) := by decide +kernel
theorem dX5_packed_63 : decode cX5_packed 63 = .ok (.lshl, 1) := by decide +kernel
theorem dX5_packed_64 : decode cX5_packed 64 = .ok (.lload 4, 2) := by decide +kernel
theorem dX5_packed_66 : decode cX5_packed 66 = .ok (.iload_n 3, 1) := by decide +kernel
theorem dX5_packed_67 : decode cX5_packed 67 = .ok (.invokestatic 353, 3) := by decide +kernel
theorem dX5_packed_70 : decode cX5_packed 70 = .ok (.lor, 1) := by decide +kernel
theorem dX5_packed_71 : decode cX5_packed 71 = .ok (.lreturn, 1) := by decide +kernel
theorem dX5_writePupil_0 : decode cX5_writePupil 0 = .ok (.iconst 4, 1) := by decide +kernel
theorem dX5_writePupil_1 : decode cX5_writePupil 1 = .ok (.iload_n 1, 1) := by decide +kernel
theorem dX5_writePupil_2 : decode cX5_writePupil 2 = .ok (.imul, 1) := by decide +kernel
theorem dX5_writePupil_3 : decode cX5_writePupil 3 = .ok (.istore 6, 2) := by decide +kernel
theorem dX5_writePupil_5 : decode cX5_writePupil 5 = .ok (.iload 6, 2) := by decide +kernel
theorem dX5_writePupil_7 : decode cX5_writePupil 7 = .ok (.iconst 4, 1) := by decide +kernel
theorem dX5_writePupil_8 : decode cX5_writePupil 8 = .ok (.iadd, 1) := by decide +kernel
theorem dX5_writePupil_9 : decode cX5_writePupil 9 = .ok (.aload_n 0, 1) := by decide +kernel
theorem dX5_writePupil_10 : decode cX5_writePupil 10 = .ok (.getfield 30, 3) := by decide +kernel
theorem dX5_writePupil_13 : decode cX5_writePupil 13 = .ok (.arraylength, 1) := by decide +kernel
theorem dX5_writePupil_14 : decode cX5_writePupil 14 = .ok (.if_icmp .le 21, 3) := by decide +kernel
theorem dX5_writePupil_17 : decode cX5_writePupil 17 = .ok (.aload_n 0, 1) := by decide +kernel
theorem dX5_writePupil_18 : decode cX5_writePupil 18 = .ok (.aload_n 0, 1) := by decide +kernel
theorem dX5_writePupil_19 : decode cX5_writePupil 19 = .ok (.getfield 30, 3) := by decide +kernel
theorem dX5_writePupil_22 : decode cX5_writePupil 22 = .ok (.iconst 2, 1) := by decide +kernel
theorem dX5_writePupil_23 : decode cX5_writePupil 23 = .ok (.aload_n 0, 1) := by decide +kernel
theorem dX5_writePupil_24 : decode cX5_writePupil 24 = .ok (.getfield 30, 3) := by decide +kernel
theorem dX5_writePupil_27 : decode cX5_writePupil 27 = .ok (.arraylength, 1) := by decide +kernel
theorem dX5_writePupil_28 : decode cX5_writePupil 28 = .ok (.imul, 1) := by decide +kernel
theorem dX5_writePupil_29 : decode cX5_writePupil 29 = .ok (.invokestatic 384, 3) := by decide +kernel
theorem dX5_writePupil_32 : decode cX5_writePupil 32 = .ok (.putfield 30, 3) := by decide +kernel
theorem dX5_writePupil_35 : decode cX5_writePupil 35 = .ok (.aload_n 0, 1) := by decide +kernel
theorem dX5_writePupil_36 : decode cX5_writePupil 36 = .ok (.getfield 30, 3) := by decide +kernel
theorem dX5_writePupil_39 : decode cX5_writePupil 39 = .ok (.iload 6, 2) := by decide +kernel
theorem dX5_writePupil_41 : decode cX5_writePupil 41 = .ok (.iload_n 2, 1) := by decide +kernel
theorem dX5_writePupil_42 : decode cX5_writePupil 42 = .ok (.iastore, 1) := by decide +kernel
theorem dX5_writePupil_43 : decode cX5_writePupil 43 = .ok (.aload_n 0, 1) := by decide +kernel
theorem dX5_writePupil_44 : decode cX5_writePupil 44 = .ok (.getfield 30, 3) := by decide +kernel
theorem dX5_writePupil_47 : decode cX5_writePupil 47 = .ok (.iload 6, 2) := by decide +kernel
theorem dX5_writePupil_49 : decode cX5_writePupil 49 = .ok (.iconst 1, 1) := by decide +kernel
theorem dX5_writePupil_50 : decode cX5_writePupil 50 = .ok (.iadd, 1) := by decide +kernel
theorem dX5_writePupil_51 : decode cX5_writePupil 51 = .ok (.iload_n 3, 1) := by decide +kernel
theorem dX5_writePupil_52 : decode cX5_writePupil 52 = .ok (.iastore, 1) := by decide +kernel
theorem dX5_writePupil_53 : decode cX5_writePupil 53 = .ok (.aload_n 0, 1) := by decide +kernel
theorem dX5_writePupil_54 : decode cX5_writePupil 54 = .ok (.getfield 30, 3) := by decide +kernel
theorem dX5_writePupil_57 : decode cX5_writePupil 57 = .ok (.iload 6, 2) := by decide +kernel
theorem dX5_writePupil_59 : decode cX5_writePupil 59 = .ok (.iconst 2, 1) := by decide +kernel
theorem dX5_writePupil_60 : decode cX5_writePupil 60 = .ok (.iadd, 1) := by decide +kernel
theorem dX5_writePupil_61 : decode cX5_writePupil 61 = .ok (.iload 4, 2) := by decide +kernel
theorem dX5_writePupil_63 : decode cX5_writePupil 63 = .ok (.iastore, 1) := by decide +kernel
theorem dX5_writePupil_64 : decode cX5_writePupil 64 = .ok (.aload_n 0, 1) := by decide +kernel
theorem dX5_writePupil_65 : decode cX5_writePupil 65 = .ok (.getfield 30, 3) := by decide +kernel
theorem dX5_writePupil_68 : decode cX5_writePupil 68 = .ok (.iload 6, 2) := by decide +kernel
theorem dX5_writePupil_70 : decode cX5_writePupil 70 = .ok (.iconst 3, 1) := by decide +kernel
theorem dX5_writePupil_71 : decode cX5_writePupil 71 = .ok (.iadd, 1) := by decide +kernel
theorem dX5_writePupil_72 : decode cX5_writePupil 72 = .ok (.iload 5, 2) := by decide +kernel
theorem dX5_writePupil_74 : decode cX5_writePupil 74 = .ok (.iastore, 1) := by decide +kernel
theorem dX5_writePupil_75 : decode cX5_writePupil 75 = .ok (.return_, 1) := by decide +kernel
theorem dX5_alike_0 : decode cX5_alike 0 = .ok (.aload_n 0, 1) := by decide +kernel
theorem dX5_alike_1 : decode cX5_alike 1 = .ok (.getfield 30, 3) := by decide +kernel
theorem dX5_alike_4 : decode cX5_alike 4 = .ok (.iconst 4, 1) := by decide +kernel
theorem dX5_alike_5 : decode cX5_alike 5 = .ok (.iload_n 1, 1) := by decide +kernel
theorem dX5_alike_6 : decode cX5_alike 6 = .ok (.imul, 1) := by decide +kernel
theorem dX5_alike_7 : decode cX5_alike 7 = .ok (.iload_n 2, 1) := by decide +kernel
theorem dX5_alike_8 : decode cX5_alike 8 = .ok (.iadd, 1) := by decide +kernel
theorem dX5_alike_9 : decode cX5_alike 9 = .ok (.iaload, 1) := by decide +kernel
theorem dX5_alike_10 : decode cX5_alike 10 = .ok (.aload_n 0, 1) := by decide +kernel
theorem dX5_alike_11 : decode cX5_alike 11 = .ok (.getfield 26, 3) := by decide +kernel
theorem dX5_alike_14 : decode cX5_alike 14 = .ok (.iload_n 1, 1) := by decide +kernel
theorem dX5_alike_15 : decode cX5_alike 15 = .ok (.iload_n 2, 1) := by decide +kernel
theorem dX5_alike_16 : decode cX5_alike 16 = .ok (.invokevirtual 247, 3) := by decide +kernel
theorem dX5_alike_19 : decode cX5_alike 19 = .ok (.if_icmp .ne 7, 3) := by decide +kernel
theorem dX5_alike_22 : decode cX5_alike 22 = .ok (.iconst 1, 1) := by decide +kernel
theorem dX5_alike_23 : decode cX5_alike 23 = .ok (.goto 4, 3) := by decide +kernel
theorem dX5_alike_26 : decode cX5_alike 26 = .ok (.iconst 0, 1) := by decide +kernel
theorem dX5_alike_27 : decode cX5_alike 27 = .ok (.ireturn, 1) := by decide +kernel
theorem dX5_slipPlace_0 : decode cX5_slipPlace 0 = .ok (.aload_n 0, 1) := by decide +kernel
theorem dX5_slipPlace_1 : decode cX5_slipPlace 1 = .ok (.getfield 265, 3) := by decide +kernel
theorem dX5_slipPlace_4 : decode cX5_slipPlace 4 = .ok (.aload_n 0, 1) := by decide +kernel
theorem dX5_slipPlace_5 : decode cX5_slipPlace 5 = .ok (.getfield 26, 3) := by decide +kernel
theorem dX5_slipPlace_8 : decode cX5_slipPlace 8 = .ok (.getfield 244, 3) := by decide +kernel
theorem dX5_slipPlace_11 : decode cX5_slipPlace 11 = .ok (.invokestatic 377, 3) := by decide +kernel
theorem dX5_slipPlace_14 : decode cX5_slipPlace 14 = .ok (.istore_n 1, 1) := by decide +kernel
theorem dX5_slipPlace_15 : decode cX5_slipPlace 15 = .ok (.iconst 0, 1) := by decide +kernel
theorem dX5_slipPlace_16 : decode cX5_slipPlace 16 = .ok (.istore_n 2, 1) := by decide +kernel
theorem dX5_slipPlace_17 : decode cX5_slipPlace 17 = .ok (.iload_n 2, 1) := by decide +kernel
theorem dX5_slipPlace_18 : decode cX5_slipPlace 18 = .ok (.iload_n 1, 1) := by decide +kernel
theorem dX5_slipPlace_19 : decode cX5_slipPlace 19 = .ok (.if_icmp .ge 47, 3) := by decide +kernel
theorem dX5_slipPlace_22 : decode cX5_slipPlace 22 = .ok (.aload_n 0, 1) := by decide +kernel
theorem dX5_slipPlace_23 : decode cX5_slipPlace 23 = .ok (.iload_n 2, 1) := by decide +kernel
theorem dX5_slipPlace_24 : decode cX5_slipPlace 24 = .ok (.iconst 0, 1) := by decide +kernel
theorem dX5_slipPlace_25 : decode cX5_slipPlace 25 = .ok (.invokevirtual 390, 3) := by decide +kernel
theorem dX5_slipPlace_28 : decode cX5_slipPlace 28 = .ok (.ifCond .eq 30, 3) := by decide +kernel
theorem dX5_slipPlace_31 : decode cX5_slipPlace 31 = .ok (.aload_n 0, 1) := by decide +kernel
theorem dX5_slipPlace_32 : decode cX5_slipPlace 32 = .ok (.iload_n 2, 1) := by decide +kernel
theorem dX5_slipPlace_33 : decode cX5_slipPlace 33 = .ok (.iconst 1, 1) := by decide +kernel
theorem dX5_slipPlace_34 : decode cX5_slipPlace 34 = .ok (.invokevirtual 390, 3) := by decide +kernel
theorem dX5_slipPlace_37 : decode cX5_slipPlace 37 = .ok (.ifCond .eq 21, 3) := by decide +kernel
theorem dX5_slipPlace_40 : decode cX5_slipPlace 40 = .ok (.aload_n 0, 1) := by decide +kernel
theorem dX5_slipPlace_41 : decode cX5_slipPlace 41 = .ok (.iload_n 2, 1) := by decide +kernel
theorem dX5_slipPlace_42 : decode cX5_slipPlace 42 = .ok (.iconst 2, 1) := by decide +kernel
theorem dX5_slipPlace_43 : decode cX5_slipPlace 43 = .ok (.invokevirtual 390, 3) := by decide +kernel
theorem dX5_slipPlace_46 : decode cX5_slipPlace 46 = .ok (.ifCond .eq 12, 3) := by decide +kernel
theorem dX5_slipPlace_49 : decode cX5_slipPlace 49 = .ok (.aload_n 0, 1) := by decide +kernel
theorem dX5_slipPlace_50 : decode cX5_slipPlace 50 = .ok (.iload_n 2, 1) := by decide +kernel
theorem dX5_slipPlace_51 : decode cX5_slipPlace 51 = .ok (.iconst 3, 1) := by decide +kernel
theorem dX5_slipPlace_52 : decode cX5_slipPlace 52 = .ok (.invokevirtual 390, 3) := by decide +kernel
theorem dX5_slipPlace_55 : decode cX5_slipPlace 55 = .ok (.ifCond .ne 5, 3) := by decide +kernel
theorem dX5_slipPlace_58 : decode cX5_slipPlace 58 = .ok (.iload_n 2, 1) := by decide +kernel
theorem dX5_slipPlace_59 : decode cX5_slipPlace 59 = .ok (.ireturn, 1) := by decide +kernel
theorem dX5_slipPlace_60 : decode cX5_slipPlace 60 = .ok (.iinc 2 1, 3) := by decide +kernel
theorem dX5_slipPlace_63 : decode cX5_slipPlace 63 = .ok (.goto (-46), 3) := by decide +kernel
theorem dX5_slipPlace_66 : decode cX5_slipPlace 66 = .ok (.aload_n 0, 1) := by decide +kernel
theorem dX5_slipPlace_67 : decode cX5_slipPlace 67 = .ok (.getfield 265, 3) := by decide +kernel
theorem dX5_slipPlace_70 : decode cX5_slipPlace 70 = .ok (.aload_n 0, 1) := by decide +kernel
theorem dX5_slipPlace_71 : decode cX5_slipPlace 71 = .ok (.getfield 26, 3) := by decide +kernel
theorem dX5_slipPlace_74 : decode cX5_slipPlace 74 = .ok (.getfield 244, 3) := by decide +kernel
theorem dX5_slipPlace_77 : decode cX5_slipPlace 77 = .ok (.if_icmp .ne 8, 3) := by decide +kernel
theorem dX5_slipPlace_80 : decode cX5_slipPlace 80 = .ok (.bipush (-5), 2) := by decide +kernel
theorem dX5_slipPlace_82 : decode cX5_slipPlace 82 = .ok (.goto 4, 3) := by decide +kernel
theorem dX5_slipPlace_85 : decode cX5_slipPlace 85 = .ok (.iload_n 1, 1) := by decide +kernel
theorem dX5_slipPlace_86 : decode cX5_slipPlace 86 = .ok (.ireturn, 1) := by decide +kernel
theorem dX5_lapseAt_0 : decode cX5_lapseAt 0 = .ok (.iload_n 1, 1) := by decide +kernel
theorem dX5_lapseAt_1 : decode cX5_lapseAt 1 = .ok (.ifCond .ge 5, 3) := by decide +kernel
theorem dX5_lapseAt_4 : decode cX5_lapseAt 4 = .ok (.iconst 0, 1) := by decide +kernel
theorem dX5_lapseAt_5 : decode cX5_lapseAt 5 = .ok (.ireturn, 1) := by decide +kernel
theorem dX5_lapseAt_6 : decode cX5_lapseAt 6 = .ok (.iload_n 1, 1) := by decide +kernel
theorem dX5_lapseAt_7 : decode cX5_lapseAt 7 = .ok (.aload_n 0, 1) := by decide +kernel
theorem dX5_lapseAt_8 : decode cX5_lapseAt 8 = .ok (.getfield 265, 3) := by decide +kernel
theorem dX5_lapseAt_11 : decode cX5_lapseAt 11 = .ok (.if_icmp .lt 5, 3) := by decide +kernel
theorem dX5_lapseAt_14 : decode cX5_lapseAt 14 = .ok (.iconst 3, 1) := by decide +kernel
theorem dX5_lapseAt_15 : decode cX5_lapseAt 15 = .ok (.ireturn, 1) := by decide +kernel
theorem dX5_lapseAt_16 : decode cX5_lapseAt 16 = .ok (.iload_n 1, 1) := by decide +kernel
theorem dX5_lapseAt_17 : decode cX5_lapseAt 17 = .ok (.aload_n 0, 1) := by decide +kernel
theorem dX5_lapseAt_18 : decode cX5_lapseAt 18 = .ok (.getfield 26, 3) := by decide +kernel
theorem dX5_lapseAt_21 : decode cX5_lapseAt 21 = .ok (.getfield 244, 3) := by decide +kernel
theorem dX5_lapseAt_24 : decode cX5_lapseAt 24 = .ok (.if_icmp .lt 5, 3) := by decide +kernel
theorem dX5_lapseAt_27 : decode cX5_lapseAt 27 = .ok (.iconst 4, 1) := by decide +kernel
theorem dX5_lapseAt_28 : decode cX5_lapseAt 28 = .ok (.ireturn, 1) := by decide +kernel
theorem dX5_lapseAt_29 : decode cX5_lapseAt 29 = .ok (.aload_n 0, 1) := by decide +kernel
theorem dX5_lapseAt_30 : decode cX5_lapseAt 30 = .ok (.iload_n 1, 1) := by decide +kernel
theorem dX5_lapseAt_31 : decode cX5_lapseAt 31 = .ok (.iconst 0, 1) := by decide +kernel
theorem dX5_lapseAt_32 : decode cX5_lapseAt 32 = .ok (.invokevirtual 390, 3) := by decide +kernel
theorem dX5_lapseAt_35 : decode cX5_lapseAt 35 = .ok (.ifCond .eq 16, 3) := by decide +kernel
theorem dX5_lapseAt_38 : decode cX5_lapseAt 38 = .ok (.aload_n 0, 1) := by decide +kernel
theorem dX5_lapseAt_39 : decode cX5_lapseAt 39 = .ok (.iload_n 1, 1) := by decide +kernel
theorem dX5_lapseAt_40 : decode cX5_lapseAt 40 = .ok (.iconst 1, 1) := by decide +kernel
theorem dX5_lapseAt_41 : decode cX5_lapseAt 41 = .ok (.invokevirtual 390, 3) := by decide +kernel
theorem dX5_lapseAt_44 : decode cX5_lapseAt 44 = .ok (.ifCond .eq 7, 3) := by decide +kernel
theorem dX5_lapseAt_47 : decode cX5_lapseAt 47 = .ok (.iconst 2, 1) := by decide +kernel
theorem dX5_lapseAt_48 : decode cX5_lapseAt 48 = .ok (.goto 4, 3) := by decide +kernel
theorem dX5_lapseAt_51 : decode cX5_lapseAt 51 = .ok (.iconst 1, 1) := by decide +kernel
theorem dX5_lapseAt_52 : decode cX5_lapseAt 52 = .ok (.ireturn, 1) := by decide +kernel
theorem dX5_singleExercises_0 : decode cX5_singleExercises 0 = .ok (.iconst 0, 1) := by decide +kernel
theorem dX5_singleExercises_1 : decode cX5_singleExercises 1 = .ok (.istore_n 1, 1) := by decide +kernel
theorem dX5_singleExercises_2 : decode cX5_singleExercises 2 = .ok (.iconst 0, 1) := by decide +kernel
theorem dX5_singleExercises_3 : decode cX5_singleExercises 3 = .ok (.istore_n 2, 1) := by decide +kernel
theorem dX5_singleExercises_4 : decode cX5_singleExercises 4 = .ok (.iload_n 2, 1) := by decide +kernel
theorem dX5_singleExercises_5 : decode cX5_singleExercises 5 = .ok (.aload_n 0, 1) := by decide +kernel
theorem dX5_singleExercises_6 : decode cX5_singleExercises 6 = .ok (.getfield 278, 3) := by decide +kernel
theorem dX5_singleExercises_9 : decode cX5_singleExercises 9 = .ok (.if_icmp .ge 30, 3) := by decide +kernel
theorem dX5_singleExercises_12 : decode cX5_singleExercises 12 = .ok (.aload_n 0, 1) := by decide +kernel
theorem dX5_singleExercises_13 : decode cX5_singleExercises 13 = .ok (.iload_n 2, 1) := by decide +kernel
theorem dX5_singleExercises_14 : decode cX5_singleExercises 14 = .ok (.invokevirtual 289, 3) := by decide +kernel
theorem dX5_singleExercises_17 : decode cX5_singleExercises 17 = .ok (.astore_n 3, 1) := by decide +kernel
theorem dX5_singleExercises_18 : decode cX5_singleExercises 18 = .ok (.aload_n 3, 1) := by decide +kernel
theorem dX5_singleExercises_19 : decode cX5_singleExercises 19 = .ok (.ifnull 14, 3) := by decide +kernel
theorem dX5_singleExercises_22 : decode cX5_singleExercises 22 = .ok (.aload_n 3, 1) := by decide +kernel
theorem dX5_singleExercises_23 : decode cX5_singleExercises 23 = .ok (.getfield 299, 3) := by decide +kernel
theorem dX5_singleExercises_26 : decode cX5_singleExercises 26 = .ok (.iconst 1, 1) := by decide +kernel
theorem dX5_singleExercises_27 : decode cX5_singleExercises 27 = .ok (.if_icmp .ne 6, 3) := by decide +kernel
theorem dX5_singleExercises_30 : decode cX5_singleExercises 30 = .ok (.iinc 1 1, 3) := by decide +kernel
theorem dX5_singleExercises_33 : decode cX5_singleExercises 33 = .ok (.iinc 2 1, 3) := by decide +kernel
theorem dX5_singleExercises_36 : decode cX5_singleExercises 36 = .ok (.goto (-32), 3) := by decide +kernel
theorem dX5_singleExercises_39 : decode cX5_singleExercises 39 = .ok (.iload_n 1, 1) := by decide +kernel
theorem dX5_singleExercises_40 : decode cX5_singleExercises 40 = .ok (.ireturn, 1) := by decide +kernel
theorem dX6_init_0 : decode cX6_init 0 = .ok (.aload_n 0, 1) := by decide +kernel
theorem dX6_init_1 : decode cX6_init 1 = .ok (.invokespecial 1, 3) := by decide +kernel
theorem dX6_init_4 : decode cX6_init 4 = .ok (.aload_n 0, 1) := by decide +kernel
theorem dX6_init_5 : decode cX6_init 5 = .ok (.bipush 30, 2) := by decide +kernel
theorem dX6_init_7 : decode cX6_init 7 = .ok (.newarray .int, 2) := by decide +kernel
theorem dX6_init_9 : decode cX6_init 9 = .ok (.putfield 7, 3) := by decide +kernel
theorem dX6_init_12 : decode cX6_init 12 = .ok (.aload_n 0, 1) := by decide +kernel
theorem dX6_init_13 : decode cX6_init 13 = .ok (.bipush 30, 2) := by decide +kernel
theorem dX6_init_15 : decode cX6_init 15 = .ok (.newarray .int, 2) := by decide +kernel
theorem dX6_init_17 : decode cX6_init 17 = .ok (.putfield 13, 3) := by decide +kernel
theorem dX6_init_20 : decode cX6_init 20 = .ok (.aload_n 0, 1) := by decide +kernel
theorem dX6_init_21 : decode cX6_init 21 = .ok (.bipush 30, 2) := by decide +kernel
theorem dX6_init_23 : decode cX6_init 23 = .ok (.newarray .int, 2) := by decide +kernel
theorem dX6_init_25 : decode cX6_init 25 = .ok (.putfield 16, 3) := by decide +kernel
theorem dX6_init_28 : decode cX6_init 28 = .ok (.aload_n 0, 1) := by decide +kernel
theorem dX6_init_29 : decode cX6_init 29 = .ok (.bipush 30, 2) := by decide +kernel
theorem dX6_init_31 : decode cX6_init 31 = .ok (.newarray .int, 2) := by decide +kernel
theorem dX6_init_33 : decode cX6_init 33 = .ok (.putfield 19, 3) := by decide +kernel
theorem dX6_init_36 : decode cX6_init 36 = .ok (.aload_n 0, 1) := by decide +kernel
theorem dX6_init_37 : decode cX6_init 37 = .ok (.bipush 30, 2) := by decide +kernel
theorem dX6_init_39 : decode cX6_init 39 = .ok (.newarray .int, 2) := by decide +kernel
theorem dX6_init_41 : decode cX6_init 41 = .ok (.putfield 22, 3) := by decide +kernel
theorem dX6_init_44 : decode cX6_init 44 = .ok (.aload_n 0, 1) := by decide +kernel
theorem dX6_init_45 : decode cX6_init 45 = .ok (.bipush 30, 2) := by decide +kernel
theorem dX6_init_47 : decode cX6_init 47 = .ok (.newarray .int, 2) := by decide +kernel
theorem dX6_init_49 : decode cX6_init 49 = .ok (.putfield 25, 3) := by decide +kernel
theorem dX6_init_52 : decode cX6_init 52 = .ok (.aload_n 0, 1) := by decide +kernel
theorem dX6_init_53 : decode cX6_init 53 = .ok (.bipush 30, 2) := by decide +kernel
theorem dX6_init_55 : decode cX6_init 55 = .ok (.newarray .int, 2) := by decide +kernel
theorem dX6_init_57 : decode cX6_init 57 = .ok (.putfield 28, 3) := by decide +kernel
theorem dX6_init_60 : decode cX6_init 60 = .ok (.aload_n 0, 1) := by decide +kernel
theorem dX6_init_61 : decode cX6_init 61 = .ok (.sipush 540, 3) := by decide +kernel
theorem dX6_init_64 : decode cX6_init 64 = .ok (.newarray .int, 2) := by decide +kernel
theorem dX6_init_66 : decode cX6_init 66 = .ok (.putfield 31, 3) := by decide +kernel
theorem dX6_init_69 : decode cX6_init 69 = .ok (.aload_n 0, 1) := by decide +kernel
theorem dX6_init_70 : decode cX6_init 70 = .ok (.sipush 540, 3) := by decide +kernel
theorem dX6_init_73 : decode cX6_init 73 = .ok (.newarray .int, 2) := by decide +kernel
theorem dX6_init_75 : decode cX6_init 75 = .ok (.putfield 34, 3) := by decide +kernel
theorem dX6_init_78 : decode cX6_init 78 = .ok (.aload_n 0, 1) := by decide +kernel
theorem dX6_init_79 : decode cX6_init 79 = .ok (.sipush 540, 3) := by decide +kernel
theorem dX6_init_82 : decode cX6_init 82 = .ok (.newarray .int, 2) := by decide +kernel
theorem dX6_init_84 : decode cX6_init 84 = .ok (.putfield 37, 3) := by decide +kernel
theorem dX6_init_87 : decode cX6_init 87 = .ok (.aload_n 0, 1) := by decide +kernel
theorem dX6_init_88 : decode cX6_init 88 = .ok (.sipush 540, 3) := by decide +kernel
theorem dX6_init_91 : decode cX6_init 91 = .ok (.newarray .int, 2) := by decide +kernel
theorem dX6_init_93 : decode cX6_init 93 = .ok (.putfield 40, 3) := by decide +kernel
theorem dX6_init_96 : decode cX6_init 96 = .ok (.aload_n 0, 1) := by decide +kernel
theorem dX6_init_97 : decode cX6_init 97 = .ok (.bipush 60, 2) := by decide +kernel
theorem dX6_init_99 : decode cX6_init 99 = .ok (.newarray .int, 2) := by decide +kernel
theorem dX6_init_101 : decode cX6_init 101 = .ok (.putfield 43, 3) := by decide +kernel
theorem dX6_init_104 : decode cX6_init 104 = .ok (.aload_n 0, 1) := by decide +kernel
theorem dX6_init_105 : decode cX6_init 105 = .ok (.bipush (-5), 2) := by decide +kernel
theorem dX6_init_107 : decode cX6_init 107 = .ok (.putfield 46, 3) := by decide +kernel
theorem dX6_init_110 : decode cX6_init 110 = .ok (.aload_n 0, 1) := by decide +kernel
theorem dX6_init_111 : decode cX6_init 111 = .ok (.bipush (-5), 2) := by decide +kernel
theorem dX6_init_113 : decode cX6_init 113 = .ok (.putfield 50, 3) := by decide +kernel
theorem dX6_init_116 : decode cX6_init 116 = .ok (.aload_n 0, 1) := by decide +kernel
theorem dX6_init_117 : decode cX6_init 117 = .ok (.ldc 53, 2) := by decide +kernel
theorem dX6_init_119 : decode cX6_init 119 = .ok (.newarray .int, 2) := by decide +kernel
theorem dX6_init_121 : decode cX6_init 121 = .ok (.putfield 54, 3) := by decide +kernel
theorem dX6_init_124 : decode cX6_init 124 = .ok (.aload_n 0, 1) := by decide +kernel
theorem dX6_init_125 : decode cX6_init 125 = .ok (.bipush 20, 2) := by decide +kernel
theorem dX6_init_127 : decode cX6_init 127 = .ok (.newarray .boolean, 2) := by decide +kernel
theorem dX6_init_129 : decode cX6_init 129 = .ok (.putfield 57, 3) := by decide +kernel
theorem dX6_init_132 : decode cX6_init 132 = .ok (.aload_n 0, 1) := by decide +kernel
theorem dX6_init_133 : decode cX6_init 133 = .ok (.sipush 400, 3) := by decide +kernel
theorem dX6_init_136 : decode cX6_init 136 = .ok (.newarray .long, 2) := by decide +kernel
theorem dX6_init_138 : decode cX6_init 138 = .ok (.putfield 61, 3) := by decide +kernel
theorem dX6_init_141 : decode cX6_init 141 = .ok (.aload_n 0, 1) := by decide +kernel
theorem dX6_init_142 : decode cX6_init 142 = .ok (.sipush 1200, 3) := by decide +kernel
theorem dX6_init_145 : decode cX6_init 145 = .ok (.newarray .int, 2) := by decide +kernel
theorem dX6_init_147 : decode cX6_init 147 = .ok (.putfield 65, 3) := by decide +kernel
theorem dX6_init_150 : decode cX6_init 150 = .ok (.aload_n 0, 1) := by decide +kernel
theorem dX6_init_151 : decode cX6_init 151 = .ok (.sipush 200, 3) := by decide +kernel
theorem dX6_init_154 : decode cX6_init 154 = .ok (.newarray .int, 2) := by decide +kernel
theorem dX6_init_156 : decode cX6_init 156 = .ok (.putfield 68, 3) := by decide +kernel
theorem dX6_init_159 : decode cX6_init 159 = .ok (.aload_n 0, 1) := by decide +kernel
theorem dX6_init_160 : decode cX6_init 160 = .ok (.sipush 2400, 3) := by decide +kernel
theorem dX6_init_163 : decode cX6_init 163 = .ok (.newarray .int, 2) := by decide +kernel
theorem dX6_init_165 : decode cX6_init 165 = .ok (.putfield 71, 3) := by decide +kernel
theorem dX6_init_168 : decode cX6_init 168 = .ok (.aload_n 0, 1) := by decide +kernel
theorem dX6_init_169 : decode cX6_init 169 = .ok (.sipush 2400, 3) := by decide +kernel
theorem dX6_init_172 : decode cX6_init 172 = .ok (.newarray .boolean, 2) := by decide +kernel
theorem dX6_init_174 : decode cX6_init 174 = .ok (.putfield 74, 3) := by decide +kernel
theorem dX6_init_177 : decode cX6_init 177 = .ok (.aload_n 0, 1) := by decide +kernel
theorem dX6_init_178 : decode cX6_init 178 = .ok (.sipush 2400, 3) := by decide +kernel
theorem dX6_init_181 : decode cX6_init 181 = .ok (.newarray .int, 2) := by decide +kernel
theorem dX6_init_183 : decode cX6_init 183 = .ok (.putfield 77, 3) := by decide +kernel
theorem dX6_init_186 : decode cX6_init 186 = .ok (.aload_n 0, 1) := by decide +kernel
theorem dX6_init_187 : decode cX6_init 187 = .ok (.sipush 200, 3) := by decide +kernel
theorem dX6_init_190 : decode cX6_init 190 = .ok (.newarray .int, 2) := by decide +kernel
theorem dX6_init_192 : decode cX6_init 192 = .ok (.putfield 80, 3) := by decide +kernel
theorem dX6_init_195 : decode cX6_init 195 = .ok (.aload_n 0, 1) := by decide +kernel
theorem dX6_init_196 : decode cX6_init 196 = .ok (.bipush 12, 2) := by decide +kernel
theorem dX6_init_198 : decode cX6_init 198 = .ok (.newarray .int, 2) := by decide +kernel
theorem dX6_init_200 : decode cX6_init 200 = .ok (.putfield 83, 3) := by decide +kernel
theorem dX6_init_203 : decode cX6_init 203 = .ok (.aload_n 0, 1) := by decide +kernel
theorem dX6_init_204 : decode cX6_init 204 = .ok (.iconst 4, 1) := by decide +kernel
theorem dX6_init_205 : decode cX6_init 205 = .ok (.newarray .int, 2) := by decide +kernel
theorem dX6_init_207 : decode cX6_init 207 = .ok (.putfield 86, 3) := by decide +kernel
theorem dX6_init_210 : decode cX6_init 210 = .ok (.return_, 1) := by decide +kernel
theorem dX6_in_0 : decode cX6_in 0 = .ok (.lload_n 0, 1) := by decide +kernel
theorem dX6_in_1 : decode cX6_in 1 = .ok (.lload_n 2, 1) := by decide +kernel
theorem dX6_in_2 : decode cX6_in 2 = .ok (.lcmp, 1) := by decide +kernel
theorem dX6_in_3 : decode cX6_in 3 = .ok (.ifCond .lt 14, 3) := by decide +kernel
theorem dX6_in_6 : decode cX6_in 6 = .ok (.lload_n 0, 1) := by decide +kernel
theorem dX6_in_7 : decode cX6_in 7 = .ok (.lload 4, 2) := by decide +kernel
theorem dX6_in_9 : decode cX6_in 9 = .ok (.lcmp, 1) := by decide +kernel
theorem dX6_in_10 : decode cX6_in 10 = .ok (.ifCond .gt 7, 3) := by decide +kernel
theorem dX6_in_13 : decode cX6_in 13 = .ok (.iconst 1, 1) := by decide +kernel
theorem dX6_in_14 : decode cX6_in 14 = .ok (.goto 4, 3) := by decide +kernel
theorem dX6_in_17 : decode cX6_in 17 = .ok (.iconst 0, 1) := by decide +kernel
theorem dX6_in_18 : decode cX6_in 18 = .ok (.ireturn, 1) := by decide +kernel
theorem dX6_isFrame_0 : decode cX6_isFrame 0 = .ok (.iload_n 1, 1) := by decide +kernel
theorem dX6_isFrame_1 : decode cX6_isFrame 1 = .ok (.i2l, 1) := by decide +kernel
theorem dX6_isFrame_2 : decode cX6_isFrame 2 = .ok (.lconst 0, 1) := by decide +kernel
theorem dX6_isFrame_3 : decode cX6_isFrame 3 = .ok (.aload_n 0, 1) := by decide +kernel
theorem dX6_isFrame_4 : decode cX6_isFrame 4 = .ok (.getfield 89, 3) := by decide +kernel
theorem dX6_isFrame_7 : decode cX6_isFrame 7 = .ok (.iconst 1, 1) := by decide +kernel
theorem dX6_isFrame_8 : decode cX6_isFrame 8 = .ok (.isub, 1) := by decide +kernel
theorem dX6_isFrame_9 : decode cX6_isFrame 9 = .ok (.i2l, 1) := by decide +kernel
theorem dX6_isFrame_10 : decode cX6_isFrame 10 = .ok (.invokestatic 92, 3) := by decide +kernel
theorem dX6_isFrame_13 : decode cX6_isFrame 13 = .ok (.ireturn, 1) := by decide +kernel
theorem dX6_meets_0 : decode cX6_meets 0 = .ok (.aload_n 0, 1) := by decide +kernel
theorem dX6_meets_1 : decode cX6_meets 1 = .ok (.dup, 1) := by decide +kernel
theorem dX6_meets_2 : decode cX6_meets 2 = .ok (.getfield 96, 3) := by decide +kernel
theorem dX6_meets_5 : decode cX6_meets 5 = .ok (.iconst 1, 1) := by decide +kernel
theorem dX6_meets_6 : decode cX6_meets 6 = .ok (.iadd, 1) := by decide +kernel
theorem dX6_meets_7 : decode cX6_meets 7 = .ok (.putfield 96, 3) := by decide +kernel
theorem dX6_meets_10 : decode cX6_meets 10 = .ok (.aload_n 0, 1) := by decide +kernel
theorem dX6_meets_11 : decode cX6_meets 11 = .ok (.iload_n 1, 1) := by decide +kernel
theorem dX6_meets_12 : decode cX6_meets 12 = .ok (.putfield 99, 3) := by decide +kernel
theorem dX6_meets_15 : decode cX6_meets 15 = .ok (.bipush (-10), 2) := by decide +kernel
theorem dX6_meets_17 : decode cX6_meets 17 = .ok (.iload_n 1, 1) := by decide +kernel
theorem dX6_meets_18 : decode cX6_meets 18 = .ok (.isub, 1) := by decide +kernel
theorem dX6_meets_19 : decode cX6_meets 19 = .ok (.ireturn, 1) := by decide +kernel
theorem dX6_loses_0 : decode cX6_loses 0 = .ok (.aload_n 0, 1) := by decide +kernel
theorem dX6_loses_1 : decode cX6_loses 1 = .ok (.iload_n 1, 1) := by decide +kernel
theorem dX6_loses_2 : decode cX6_loses 2 = .ok (.invokevirtual 102, 3) := by decide +kernel
theorem dX6_loses_5 : decode cX6_loses 5 = .ok (.istore_n 2, 1) := by decide +kernel
theorem dX6_loses_6 : decode cX6_loses 6 = .ok (.ldc2_w 106, 3) := by decide +kernel
theorem dX6_loses_9 : decode cX6_loses 9 = .ok (.lreturn, 1) := by decide +kernel
theorem dX6_kindOf_0 : decode cX6_kindOf 0 = .ok (.aload_n 0, 1) := by decide +kernel
theorem dX6_kindOf_1 : decode cX6_kindOf 1 = .ok (.getfield 7, 3) := by decide +kernel
theorem dX6_kindOf_4 : decode cX6_kindOf 4 = .ok (.iload_n 1, 1) := by decide +kernel
theorem dX6_kindOf_5 : decode cX6_kindOf 5 = .ok (.bipush 18, 2) := by decide +kernel
theorem dX6_kindOf_7 : decode cX6_kindOf 7 = .ok (.idiv, 1) := by decide +kernel
theorem dX6_kindOf_8 : decode cX6_kindOf 8 = .ok (.iaload, 1) := by decide +kernel
theorem dX6_kindOf_9 : decode cX6_kindOf 9 = .ok (.ireturn, 1) := by decide +kernel
theorem dX6_rodOf_0 : decode cX6_rodOf 0 = .ok (.aload_n 0, 1) := by decide +kernel
theorem dX6_rodOf_1 : decode cX6_rodOf 1 = .ok (.getfield 31, 3) := by decide +kernel
theorem dX6_rodOf_4 : decode cX6_rodOf 4 = .ok (.bipush 18, 2) := by decide +kernel
theorem dX6_rodOf_6 : decode cX6_rodOf 6 = .ok (.iload_n 1, 1) := by decide +kernel
theorem dX6_rodOf_7 : decode cX6_rodOf 7 = .ok (.imul, 1) := by decide +kernel
theorem dX6_rodOf_8 : decode cX6_rodOf 8 = .ok (.iload_n 2, 1) := by decide +kernel
theorem dX6_rodOf_9 : decode cX6_rodOf 9 = .ok (.iadd, 1) := by decide +kernel
theorem dX6_rodOf_10 : decode cX6_rodOf 10 = .ok (.iaload, 1) := by decide +kernel
theorem dX6_rodOf_11 : decode cX6_rodOf 11 = .ok (.ireturn, 1) := by decide +kernel
theorem dX6_against_0 : decode cX6_against 0 = .ok (.iload_n 2, 1) := by decide +kernel
theorem dX6_against_1 : decode cX6_against 1 = .ok (.i2l, 1) := by decide +kernel
theorem dX6_against_2 : decode cX6_against 2 = .ok (.lconst 0, 1) := by decide +kernel
theorem dX6_against_3 : decode cX6_against 3 = .ok (.aload_n 0, 1) := by decide +kernel
theorem dX6_against_4 : decode cX6_against 4 = .ok (.getfield 13, 3) := by decide +kernel
theorem dX6_against_7 : decode cX6_against 7 = .ok (.iload_n 1, 1) := by decide +kernel
theorem dX6_against_8 : decode cX6_against 8 = .ok (.iaload, 1) := by decide +kernel
theorem dX6_against_9 : decode cX6_against 9 = .ok (.iconst 1, 1) := by decide +kernel
theorem dX6_against_10 : decode cX6_against 10 = .ok (.isub, 1) := by decide +kernel
theorem dX6_against_11 : decode cX6_against 11 = .ok (.i2l, 1) := by decide +kernel
theorem dX6_against_12 : decode cX6_against 12 = .ok (.invokestatic 92, 3) := by decide +kernel
theorem dX6_against_15 : decode cX6_against 15 = .ok (.ifCond .ne 5, 3) := by decide +kernel
theorem dX6_against_18 : decode cX6_against 18 = .ok (.iconst 2, 1) := by decide +kernel
theorem dX6_against_19 : decode cX6_against 19 = .ok (.ireturn, 1) := by decide +kernel
theorem dX6_against_20 : decode cX6_against 20 = .ok (.aload_n 0, 1) := by decide +kernel
theorem dX6_against_21 : decode cX6_against 21 = .ok (.iload_n 1, 1) := by decide +kernel
theorem dX6_against_22 : decode cX6_against 22 = .ok (.iload_n 2, 1) := by decide +kernel
theorem dX6_against_23 : decode cX6_against 23 = .ok (.invokevirtual 108, 3) := by decide +kernel
theorem dX6_against_26 : decode cX6_against 26 = .ok (.istore_n 3, 1) := by decide +kernel
theorem dX6_against_27 : decode cX6_against 27 = .ok (.aload_n 0, 1) := by decide +kernel
theorem dX6_against_28 : decode cX6_against 28 = .ok (.iload_n 3, 1) := by decide +kernel
theorem dX6_against_29 : decode cX6_against 29 = .ok (.invokevirtual 112, 3) := by decide +kernel
theorem dX6_against_32 : decode cX6_against 32 = .ok (.iconst 2, 1) := by decide +kernel
theorem dX6_against_33 : decode cX6_against 33 = .ok (.if_icmp .ne 7, 3) := by decide +kernel
theorem dX6_against_36 : decode cX6_against 36 = .ok (.iconst 1, 1) := by decide +kernel
theorem dX6_against_37 : decode cX6_against 37 = .ok (.goto 4, 3) := by decide +kernel
theorem dX6_against_40 : decode cX6_against 40 = .ok (.iconst 2, 1) := by decide +kernel
theorem dX6_against_41 : decode cX6_against 41 = .ok (.istore 4, 2) := by decide +kernel
theorem dX6_against_43 : decode cX6_against 43 = .ok (.aload_n 0, 1) := by decide +kernel
theorem dX6_against_44 : decode cX6_against 44 = .ok (.getfield 34, 3) := by decide +kernel
theorem dX6_against_47 : decode cX6_against 47 = .ok (.iload_n 3, 1) := by decide +kernel
theorem dX6_against_48 : decode cX6_against 48 = .ok (.iaload, 1) := by decide +kernel
theorem dX6_against_49 : decode cX6_against 49 = .ok (.ifCond .ge 7, 3) := by decide +kernel
theorem dX6_against_52 : decode cX6_against 52 = .ok (.iconst 1, 1) := by decide +kernel
theorem dX6_against_53 : decode cX6_against 53 = .ok (.goto 19, 3) := by decide +kernel
theorem dX6_against_56 : decode cX6_against 56 = .ok (.aload_n 0, 1) := by decide +kernel
theorem dX6_against_57 : decode cX6_against 57 = .ok (.getfield 34, 3) := by decide +kernel
theorem dX6_against_60 : decode cX6_against 60 = .ok (.iload_n 3, 1) := by decide +kernel
theorem dX6_against_61 : decode cX6_against 61 = .ok (.iaload, 1) := by decide +kernel
theorem dX6_against_62 : decode cX6_against 62 = .ok (.iload 4, 2) := by decide +kernel
theorem dX6_against_64 : decode cX6_against 64 = .ok (.if_icmp .ge 7, 3) := by decide +kernel
theorem dX6_against_67 : decode cX6_against 67 = .ok (.iconst 2, 1) := by decide +kernel
theorem dX6_against_68 : decode cX6_against 68 = .ok (.goto 4, 3) := by decide +kernel
theorem dX6_against_71 : decode cX6_against 71 = .ok (.iconst 0, 1) := by decide +kernel
theorem dX6_against_72 : decode cX6_against 72 = .ok (.ireturn, 1) := by decide +kernel
theorem dX6_digitAt_0 : decode cX6_digitAt 0 = .ok (.aload_n 0, 1) := by decide +kernel
theorem dX6_digitAt_1 : decode cX6_digitAt 1 = .ok (.iload_n 1, 1) := by decide +kernel
theorem dX6_digitAt_2 : decode cX6_digitAt 2 = .ok (.invokevirtual 112, 3) := by decide +kernel
theorem dX6_digitAt_5 : decode cX6_digitAt 5 = .ok (.iconst 2, 1) := by decide +kernel
theorem dX6_digitAt_6 : decode cX6_digitAt 6 = .ok (.if_icmp .ne 12, 3) := by decide +kernel
theorem dX6_digitAt_9 : decode cX6_digitAt 9 = .ok (.aload_n 0, 1) := by decide +kernel
theorem dX6_digitAt_10 : decode cX6_digitAt 10 = .ok (.getfield 37, 3) := by decide +kernel
theorem dX6_digitAt_13 : decode cX6_digitAt 13 = .ok (.iload_n 1, 1) := by decide +kernel
theorem dX6_digitAt_14 : decode cX6_digitAt 14 = .ok (.iaload, 1) := by decide +kernel
theorem dX6_digitAt_15 : decode cX6_digitAt 15 = .ok (.goto 18, 3) := by decide +kernel
theorem dX6_digitAt_18 : decode cX6_digitAt 18 = .ok (.aload_n 0, 1) := by decide +kernel
theorem dX6_digitAt_19 : decode cX6_digitAt 19 = .ok (.getfield 37, 3) := by decide +kernel
theorem dX6_digitAt_22 : decode cX6_digitAt 22 = .ok (.iload_n 1, 1) := by decide +kernel
theorem dX6_digitAt_23 : decode cX6_digitAt 23 = .ok (.iaload, 1) := by decide +kernel
theorem dX6_digitAt_24 : decode cX6_digitAt 24 = .ok (.iconst 5, 1) := by decide +kernel
theorem dX6_digitAt_25 : decode cX6_digitAt 25 = .ok (.aload_n 0, 1) := by decide +kernel
theorem dX6_digitAt_26 : decode cX6_digitAt 26 = .ok (.getfield 40, 3) := by decide +kernel
theorem dX6_digitAt_29 : decode cX6_digitAt 29 = .ok (.iload_n 1, 1) := by decide +kernel
theorem dX6_digitAt_30 : decode cX6_digitAt 30 = .ok (.iaload, 1) := by decide +kernel
theorem dX6_digitAt_31 : decode cX6_digitAt 31 = .ok (.imul, 1) := by decide +kernel
theorem dX6_digitAt_32 : decode cX6_digitAt 32 = .ok (.iadd, 1) := by decide +kernel
theorem dX6_digitAt_33 : decode cX6_digitAt 33 = .ok (.ireturn, 1) := by decide +kernel
theorem dX6_upperOf_0 : decode cX6_upperOf 0 = .ok (.iload_n 0, 1) := by decide +kernel
theorem dX6_upperOf_1 : decode cX6_upperOf 1 = .ok (.iconst 5, 1) := by decide +kernel
theorem dX6_upperOf_2 : decode cX6_upperOf 2 = .ok (.idiv, 1) := by decide +kernel
theorem dX6_upperOf_3 : decode cX6_upperOf 3 = .ok (.iconst 2, 1) := by decide +kernel
theorem dX6_upperOf_4 : decode cX6_upperOf 4 = .ok (.if_icmp .le 7, 3) := by decide +kernel
theorem dX6_upperOf_7 : decode cX6_upperOf 7 = .ok (.iconst 2, 1) := by decide +kernel
theorem dX6_upperOf_8 : decode cX6_upperOf 8 = .ok (.goto 6, 3) := by decide +kernel
theorem dX6_upperOf_11 : decode cX6_upperOf 11 = .ok (.iload_n 0, 1) := by decide +kernel
theorem dX6_upperOf_12 : decode cX6_upperOf 12 = .ok (.iconst 5, 1) := by decide +kernel
theorem dX6_upperOf_13 : decode cX6_upperOf 13 = .ok (.idiv, 1) := by decide +kernel
theorem dX6_upperOf_14 : decode cX6_upperOf 14 = .ok (.ireturn, 1) := by decide +kernel
theorem dX6_write_0 : decode cX6_write 0 = .ok (.aload_n 0, 1) := by decide +kernel
theorem dX6_write_1 : decode cX6_write 1 = .ok (.iload_n 1, 1) := by decide +kernel
theorem dX6_write_2 : decode cX6_write 2 = .ok (.invokevirtual 112, 3) := by decide +kernel
theorem dX6_write_5 : decode cX6_write 5 = .ok (.iconst 2, 1) := by decide +kernel
theorem dX6_write_6 : decode cX6_write 6 = .ok (.if_icmp .ne 7, 3) := by decide +kernel
theorem dX6_write_9 : decode cX6_write 9 = .ok (.iconst 1, 1) := by decide +kernel
theorem dX6_write_10 : decode cX6_write 10 = .ok (.goto 4, 3) := by decide +kernel
theorem dX6_write_13 : decode cX6_write 13 = .ok (.iconst 0, 1) := by decide +kernel
theorem dX6_write_14 : decode cX6_write 14 = .ok (.istore_n 3, 1) := by decide +kernel
theorem dX6_write_15 : decode cX6_write 15 = .ok (.aload_n 0, 1) := by decide +kernel
theorem dX6_write_16 : decode cX6_write 16 = .ok (.getfield 40, 3) := by decide +kernel
theorem dX6_write_19 : decode cX6_write 19 = .ok (.iload_n 1, 1) := by decide +kernel
theorem dX6_write_20 : decode cX6_write 20 = .ok (.iload_n 3, 1) := by decide +kernel
theorem dX6_write_21 : decode cX6_write 21 = .ok (.ifCond .eq 7, 3) := by decide +kernel
theorem dX6_write_24 : decode cX6_write 24 = .ok (.iconst 0, 1) := by decide +kernel
theorem dX6_write_25 : decode cX6_write 25 = .ok (.goto 7, 3) := by decide +kernel
theorem dX6_write_28 : decode cX6_write 28 = .ok (.iload_n 2, 1) := by decide +kernel
theorem dX6_write_29 : decode cX6_write 29 = .ok (.invokestatic 115, 3) := by decide +kernel
theorem dX6_write_32 : decode cX6_write 32 = .ok (.iastore, 1) := by decide +kernel
theorem dX6_write_33 : decode cX6_write 33 = .ok (.aload_n 0, 1) := by decide +kernel
theorem dX6_write_34 : decode cX6_write 34 = .ok (.getfield 37, 3) := by decide +kernel
theorem dX6_write_37 : decode cX6_write 37 = .ok (.iload_n 1, 1) := by decide +kernel
theorem dX6_write_38 : decode cX6_write 38 = .ok (.iload_n 3, 1) := by decide +kernel
theorem dX6_write_39 : decode cX6_write 39 = .ok (.ifCond .eq 7, 3) := by decide +kernel
theorem dX6_write_42 : decode cX6_write 42 = .ok (.iload_n 2, 1) := by decide +kernel
theorem dX6_write_43 : decode cX6_write 43 = .ok (.goto 11, 3) := by decide +kernel
theorem dX6_write_46 : decode cX6_write 46 = .ok (.iload_n 2, 1) := by decide +kernel
theorem dX6_write_47 : decode cX6_write 47 = .ok (.iconst 5, 1) := by decide +kernel
theorem dX6_write_48 : decode cX6_write 48 = .ok (.iload_n 2, 1) := by decide +kernel
theorem dX6_write_49 : decode cX6_write 49 = .ok (.invokestatic 115, 3) := by decide +kernel
theorem dX6_write_52 : decode cX6_write 52 = .ok (.imul, 1) := by decide +kernel
theorem dX6_write_53 : decode cX6_write 53 = .ok (.isub, 1) := by decide +kernel
theorem dX6_write_54 : decode cX6_write 54 = .ok (.iastore, 1) := by decide +kernel
theorem dX6_write_55 : decode cX6_write 55 = .ok (.return_, 1) := by decide +kernel
theorem dX6_isProper_0 : decode cX6_isProper 0 = .ok (.iconst 1, 1) := by decide +kernel
theorem dX6_isProper_1 : decode cX6_isProper 1 = .ok (.istore_n 2, 1) := by decide +kernel
theorem dX6_isProper_2 : decode cX6_isProper 2 = .ok (.iconst 0, 1) := by decide +kernel
theorem dX6_isProper_3 : decode cX6_isProper 3 = .ok (.istore_n 3, 1) := by decide +kernel
theorem dX6_isProper_4 : decode cX6_isProper 4 = .ok (.iload_n 3, 1) := by decide +kernel
theorem dX6_isProper_5 : decode cX6_isProper 5 = .ok (.aload_n 0, 1) := by decide +kernel
theorem dX6_isProper_6 : decode cX6_isProper 6 = .ok (.getfield 13, 3) := by decide +kernel
theorem dX6_isProper_9 : decode cX6_isProper 9 = .ok (.iload_n 1, 1) := by decide +kernel
theorem dX6_isProper_10 : decode cX6_isProper 10 = .ok (.iaload, 1) := by decide +kernel
theorem dX6_isProper_11 : decode cX6_isProper 11 = .ok (.if_icmp .ge 80, 3) := by decide +kernel
theorem dX6_isProper_14 : decode cX6_isProper 14 = .ok (.aload_n 0, 1) := by decide +kernel
theorem dX6_isProper_15 : decode cX6_isProper 15 = .ok (.iload_n 1, 1) := by decide +kernel
theorem dX6_isProper_16 : decode cX6_isProper 16 = .ok (.iload_n 3, 1) := by decide +kernel
theorem dX6_isProper_17 : decode cX6_isProper 17 = .ok (.invokevirtual 118, 3) := by decide +kernel
theorem dX6_isProper_20 : decode cX6_isProper 20 = .ok (.ifCond .ne 65, 3) := by decide +kernel
theorem dX6_isProper_23 : decode cX6_isProper 23 = .ok (.aload_n 0, 1) := by decide +kernel
theorem dX6_isProper_24 : decode cX6_isProper 24 = .ok (.iload_n 1, 1) := by decide +kernel
theorem dX6_isProper_25 : decode cX6_isProper 25 = .ok (.iload_n 3, 1) := by decide +kernel
theorem dX6_isProper_26 : decode cX6_isProper 26 = .ok (.invokevirtual 108, 3) := by decide +kernel
theorem dX6_isProper_29 : decode cX6_isProper 29 = .ok (.istore 4, 2) := by decide +kernel
theorem dX6_isProper_31 : decode cX6_isProper 31 = .ok (.aload_n 0, 1) := by decide +kernel
theorem dX6_isProper_32 : decode cX6_isProper 32 = .ok (.iload 4, 2) := by decide +kernel
theorem dX6_isProper_34 : decode cX6_isProper 34 = .ok (.invokevirtual 121, 3) := by decide +kernel
theorem dX6_isProper_37 : decode cX6_isProper 37 = .ok (.istore 5, 2) := by decide +kernel
theorem dX6_isProper_39 : decode cX6_isProper 39 = .ok (.iload_n 2, 1) := by decide +kernel
theorem dX6_isProper_40 : decode cX6_isProper 40 = .ok (.ifCond .eq 43, 3) := by decide +kernel
theorem dX6_isProper_43 : decode cX6_isProper 43 = .ok (.iload 5, 2) := by decide +kernel
theorem dX6_isProper_45 : decode cX6_isProper 45 = .ok (.aload_n 0, 1) := by decide +kernel
theorem dX6_isProper_46 : decode cX6_isProper 46 = .ok (.getfield 16, 3) := by decide +kernel
theorem dX6_isProper_49 : decode cX6_isProper 49 = .ok (.iload_n 1, 1) := by decide +kernel
theorem dX6_isProper_50 : decode cX6_isProper 50 = .ok (.iaload, 1) := by decide +kernel
theorem dX6_isProper_51 : decode cX6_isProper 51 = .ok (.if_icmp .ge 32, 3) := by decide +kernel
theorem dX6_isProper_54 : decode cX6_isProper 54 = .ok (.aload_n 0, 1) := by decide +kernel
theorem dX6_isProper_55 : decode cX6_isProper 55 = .ok (.iload 4, 2) := by decide +kernel
theorem dX6_isProper_57 : decode cX6_isProper 57 = .ok (.invokevirtual 112, 3) := by decide +kernel
theorem dX6_isProper_60 : decode cX6_isProper 60 = .ok (.iconst 2, 1) := by decide +kernel
theorem dX6_isProper_61 : decode cX6_isProper 61 = .ok (.if_icmp .eq 18, 3) := by decide +kernel
theorem dX6_isProper_64 : decode cX6_isProper 64 = .ok (.aload_n 0, 1) := by decide +kernel
theorem dX6_isProper_65 : decode cX6_isProper 65 = .ok (.getfield 40, 3) := by decide +kernel
theorem dX6_isProper_68 : decode cX6_isProper 68 = .ok (.iload 4, 2) := by decide +kernel
theorem dX6_isProper_70 : decode cX6_isProper 70 = .ok (.iaload, 1) := by decide +kernel
theorem dX6_isProper_71 : decode cX6_isProper 71 = .ok (.iload 5, 2) := by decide +kernel
theorem dX6_isProper_73 : decode cX6_isProper 73 = .ok (.invokestatic 115, 3) := by decide +kernel
theorem dX6_isProper_76 : decode cX6_isProper 76 = .ok (.if_icmp .ne 7, 3) := by decide +kernel
theorem dX6_isProper_79 : decode cX6_isProper 79 = .ok (.iconst 1, 1) := by decide +kernel
theorem dX6_isProper_80 : decode cX6_isProper 80 = .ok (.goto 4, 3) := by decide +kernel
theorem dX6_isProper_83 : decode cX6_isProper 83 = .ok (.iconst 0, 1) := by decide +kernel
theorem dX6_isProper_84 : decode cX6_isProper 84 = .ok (.istore_n 2, 1) := by decide +kernel
theorem dX6_isProper_85 : decode cX6_isProper 85 = .ok (.iinc 3 1, 3) := by decide +kernel
theorem dX6_isProper_88 : decode cX6_isProper 88 = .ok (.goto (-84), 3) := by decide +kernel
theorem dX6_isProper_91 : decode cX6_isProper 91 = .ok (.iload_n 2, 1) := by decide +kernel
theorem dX6_isProper_92 : decode cX6_isProper 92 = .ok (.ireturn, 1) := by decide +kernel
theorem dX6_shown_0 : decode cX6_shown 0 = .ok (.lconst 0, 1) := by decide +kernel
theorem dX6_shown_1 : decode cX6_shown 1 = .ok (.lstore_n 2, 1) := by decide +kernel
theorem dX6_shown_2 : decode cX6_shown 2 = .ok (.lconst 1, 1) := by decide +kernel
theorem dX6_shown_3 : decode cX6_shown 3 = .ok (.lstore 4, 2) := by decide +kernel
theorem dX6_shown_5 : decode cX6_shown 5 = .ok (.aload_n 0, 1) := by decide +kernel
theorem dX6_shown_6 : decode cX6_shown 6 = .ok (.iconst 0, 1) := by decide +kernel
theorem dX6_shown_7 : decode cX6_shown 7 = .ok (.putfield 124, 3) := by decide +kernel
theorem dX6_shown_10 : decode cX6_shown 10 = .ok (.iconst 0, 1) := by decide +kernel
theorem dX6_shown_11 : decode cX6_shown 11 = .ok (.istore 6, 2) := by decide +kernel
theorem dX6_shown_13 : decode cX6_shown 13 = .ok (.iload 6, 2) := by decide +kernel
theorem dX6_shown_15 : decode cX6_shown 15 = .ok (.aload_n 0, 1) := by decide +kernel
theorem dX6_shown_16 : decode cX6_shown 16 = .ok (.getfield 13, 3) := by decide +kernel
theorem dX6_shown_19 : decode cX6_shown 19 = .ok (.iload_n 1, 1) := by decide +kernel
theorem dX6_shown_20 : decode cX6_shown 20 = .ok (.iaload, 1) := by decide +kernel
theorem dX6_shown_21 : decode cX6_shown 21 = .ok (.if_icmp .ge 68, 3) := by decide +kernel
theorem dX6_shown_24 : decode cX6_shown 24 = .ok (.aload_n 0, 1) := by decide +kernel
theorem dX6_shown_25 : decode cX6_shown 25 = .ok (.getfield 124, 3) := by decide +kernel
theorem dX6_shown_28 : decode cX6_shown 28 = .ok (.ifCond .ne 61, 3) := by decide +kernel
theorem dX6_shown_31 : decode cX6_shown 31 = .ok (.aload_n 0, 1) := by decide +kernel
theorem dX6_shown_32 : decode cX6_shown 32 = .ok (.aload_n 0, 1) := by decide +kernel
theorem dX6_shown_33 : decode cX6_shown 33 = .ok (.iload_n 1, 1) := by decide +kernel
theorem dX6_shown_34 : decode cX6_shown 34 = .ok (.iload 6, 2) := by decide +kernel
theorem dX6_shown_36 : decode cX6_shown 36 = .ok (.invokevirtual 118, 3) := by decide +kernel
theorem dX6_shown_39 : decode cX6_shown 39 = .ok (.putfield 124, 3) := by decide +kernel
theorem dX6_shown_42 : decode cX6_shown 42 = .ok (.lload_n 2, 1) := by decide +kernel
theorem dX6_shown_43 : decode cX6_shown 43 = .ok (.aload_n 0, 1) := by decide +kernel
theorem dX6_shown_44 : decode cX6_shown 44 = .ok (.getfield 124, 3) := by decide +kernel
theorem dX6_shown_47 : decode cX6_shown 47 = .ok (.ifCond .ne 21, 3) := by decide +kernel
theorem dX6_shown_50 : decode cX6_shown 50 = .ok (.aload_n 0, 1) := by decide +kernel
theorem dX6_shown_51 : decode cX6_shown 51 = .ok (.aload_n 0, 1) := by decide +kernel
theorem dX6_shown_52 : decode cX6_shown 52 = .ok (.iload_n 1, 1) := by decide +kernel
theorem dX6_shown_53 : decode cX6_shown 53 = .ok (.iload 6, 2) := by decide +kernel
theorem dX6_shown_55 : decode cX6_shown 55 = .ok (.invokevirtual 108, 3) := by decide +kernel
theorem dX6_shown_58 : decode cX6_shown 58 = .ok (.invokevirtual 121, 3) := by decide +kernel
theorem dX6_shown_61 : decode cX6_shown 61 = .ok (.i2l, 1) := by decide +kernel
theorem dX6_shown_62 : decode cX6_shown 62 = .ok (.lload 4, 2) := by decide +kernel
theorem dX6_shown_64 : decode cX6_shown 64 = .ok (.lmul, 1) := by decide +kernel
theorem dX6_shown_65 : decode cX6_shown 65 = .ok (.goto 4, 3) := by decide +kernel
theorem dX6_shown_68 : decode cX6_shown 68 = .ok (.lconst 0, 1) := by decide +kernel
theorem dX6_shown_69 : decode cX6_shown 69 = .ok (.ladd, 1) := by decide +kernel
theorem dX6_shown_70 : decode cX6_shown 70 = .ok (.lstore_n 2, 1) := by decide +kernel
theorem dX6_shown_71 : decode cX6_shown 71 = .ok (.lload 4, 2) := by decide +kernel
theorem dX6_shown_73 : decode cX6_shown 73 = .ok (.aload_n 0, 1) := by decide +kernel
theorem dX6_shown_74 : decode cX6_shown 74 = .ok (.getfield 16, 3) := by decide +kernel
theorem dX6_shown_77 : decode cX6_shown 77 = .ok (.iload_n 1, 1) := by decide +kernel
