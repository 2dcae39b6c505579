theorem dX5_digit_13 : decode cX5_digit 13 = .ok (.iload_n 2, 1) := by decide +kernel
theorem dX5_digit_14 : decode cX5_digit 14 = .ok (.invokevirtual 107, 3) := by decide +kernel
theorem dX5_digit_17 : decode cX5_digit 17 = .ok (.istore 4, 2) := by decide +kernel
theorem dX5_digit_19 : decode cX5_digit 19 = .ok (.iload 4, 2) := by decide +kernel
theorem dX5_digit_21 : decode cX5_digit 21 = .ok (.ifCond .eq 12, 3) := by decide +kernel
theorem dX5_digit_24 : decode cX5_digit 24 = .ok (.aload_n 0, 1) := by decide +kernel
theorem dX5_digit_25 : decode cX5_digit 25 = .ok (.iload 4, 2) := by decide +kernel
theorem dX5_digit_27 : decode cX5_digit 27 = .ok (.invokevirtual 45, 3) := by decide +kernel
theorem dX5_digit_30 : decode cX5_digit 30 = .ok (.goto 12, 3) := by decide +kernel
theorem dX5_digit_33 : decode cX5_digit 33 = .ok (.aload_n 3, 1) := by decide +kernel
theorem dX5_digit_34 : decode cX5_digit 34 = .ok (.getfield 61, 3) := by decide +kernel
theorem dX5_digit_37 : decode cX5_digit 37 = .ok (.iload_n 2, 1) := by decide +kernel
theorem dX5_digit_38 : decode cX5_digit 38 = .ok (.aaload, 1) := by decide +kernel
theorem dX5_digit_39 : decode cX5_digit 39 = .ok (.invokevirtual 110, 3) := by decide +kernel
theorem dX5_digit_42 : decode cX5_digit 42 = .ok (.ireturn, 1) := by decide +kernel
theorem dX5_shows_0 : decode cX5_shows 0 = .ok (.aload_n 0, 1) := by decide +kernel
theorem dX5_shows_1 : decode cX5_shows 1 = .ok (.iload_n 1, 1) := by decide +kernel
theorem dX5_shows_2 : decode cX5_shows 2 = .ok (.invokevirtual 51, 3) := by decide +kernel
theorem dX5_shows_5 : decode cX5_shows 5 = .ok (.astore_n 2, 1) := by decide +kernel
theorem dX5_shows_6 : decode cX5_shows 6 = .ok (.aload_n 2, 1) := by decide +kernel
theorem dX5_shows_7 : decode cX5_shows 7 = .ok (.ifnonnull 7, 3) := by decide +kernel
theorem dX5_shows_10 : decode cX5_shows 10 = .ok (.ldc2_w 114, 3) := by decide +kernel
theorem dX5_shows_13 : decode cX5_shows 13 = .ok (.lreturn, 1) := by decide +kernel
theorem dX5_shows_14 : decode cX5_shows 14 = .ok (.aload_n 2, 1) := by decide +kernel
theorem dX5_shows_15 : decode cX5_shows 15 = .ok (.invokevirtual 116, 3) := by decide +kernel
theorem dX5_shows_18 : decode cX5_shows 18 = .ok (.istore_n 3, 1) := by decide +kernel
theorem dX5_shows_19 : decode cX5_shows 19 = .ok (.iload_n 3, 1) := by decide +kernel
theorem dX5_shows_20 : decode cX5_shows 20 = .ok (.ifCond .eq 11, 3) := by decide +kernel
theorem dX5_shows_23 : decode cX5_shows 23 = .ok (.aload_n 0, 1) := by decide +kernel
theorem dX5_shows_24 : decode cX5_shows 24 = .ok (.iload_n 3, 1) := by decide +kernel
theorem dX5_shows_25 : decode cX5_shows 25 = .ok (.invokevirtual 119, 3) := by decide +kernel
theorem dX5_shows_28 : decode cX5_shows 28 = .ok (.goto 7, 3) := by decide +kernel
theorem dX5_shows_31 : decode cX5_shows 31 = .ok (.aload_n 2, 1) := by decide +kernel
theorem dX5_shows_32 : decode cX5_shows 32 = .ok (.invokevirtual 123, 3) := by decide +kernel
theorem dX5_shows_35 : decode cX5_shows 35 = .ok (.lreturn, 1) := by decide +kernel
theorem dX5_set_0 : decode cX5_set 0 = .ok (.aload_n 0, 1) := by decide +kernel
theorem dX5_set_1 : decode cX5_set 1 = .ok (.aload_n 0, 1) := by decide +kernel
theorem dX5_set_2 : decode cX5_set 2 = .ok (.iload_n 1, 1) := by decide +kernel
theorem dX5_set_3 : decode cX5_set 3 = .ok (.invokevirtual 51, 3) := by decide +kernel
theorem dX5_set_6 : decode cX5_set 6 = .ok (.lload_n 2, 1) := by decide +kernel
theorem dX5_set_7 : decode cX5_set 7 = .ok (.invokevirtual 127, 3) := by decide +kernel
theorem dX5_set_10 : decode cX5_set 10 = .ok (.ireturn, 1) := by decide +kernel
theorem dX5_proper_0 : decode cX5_proper 0 = .ok (.aload_n 0, 1) := by decide +kernel
theorem dX5_proper_1 : decode cX5_proper 1 = .ok (.iload_n 1, 1) := by decide +kernel
theorem dX5_proper_2 : decode cX5_proper 2 = .ok (.invokevirtual 51, 3) := by decide +kernel
theorem dX5_proper_5 : decode cX5_proper 5 = .ok (.astore_n 2, 1) := by decide +kernel
theorem dX5_proper_6 : decode cX5_proper 6 = .ok (.aload_n 2, 1) := by decide +kernel
theorem dX5_proper_7 : decode cX5_proper 7 = .ok (.ifnonnull 5, 3) := by decide +kernel
theorem dX5_proper_10 : decode cX5_proper 10 = .ok (.iconst (-1), 1) := by decide +kernel
theorem dX5_proper_11 : decode cX5_proper 11 = .ok (.ireturn, 1) := by decide +kernel
theorem dX5_proper_12 : decode cX5_proper 12 = .ok (.aload_n 2, 1) := by decide +kernel
theorem dX5_proper_13 : decode cX5_proper 13 = .ok (.invokevirtual 131, 3) := by decide +kernel
theorem dX5_proper_16 : decode cX5_proper 16 = .ok (.ifCond .eq 7, 3) := by decide +kernel
theorem dX5_proper_19 : decode cX5_proper 19 = .ok (.iconst 1, 1) := by decide +kernel
theorem dX5_proper_20 : decode cX5_proper 20 = .ok (.goto 4, 3) := by decide +kernel
theorem dX5_proper_23 : decode cX5_proper 23 = .ok (.iconst 0, 1) := by decide +kernel
theorem dX5_proper_24 : decode cX5_proper 24 = .ok (.ireturn, 1) := by decide +kernel
theorem dX5_size_0 : decode cX5_size 0 = .ok (.aload_n 0, 1) := by decide +kernel
theorem dX5_size_1 : decode cX5_size 1 = .ok (.iload_n 1, 1) := by decide +kernel
theorem dX5_size_2 : decode cX5_size 2 = .ok (.invokevirtual 51, 3) := by decide +kernel
theorem dX5_size_5 : decode cX5_size 5 = .ok (.astore_n 3, 1) := by decide +kernel
theorem dX5_size_6 : decode cX5_size 6 = .ok (.aload_n 3, 1) := by decide +kernel
theorem dX5_size_7 : decode cX5_size 7 = .ok (.ifnonnull 5, 3) := by decide +kernel
theorem dX5_size_10 : decode cX5_size 10 = .ok (.iconst (-1), 1) := by decide +kernel
theorem dX5_size_11 : decode cX5_size 11 = .ok (.ireturn, 1) := by decide +kernel
theorem dX5_size_12 : decode cX5_size 12 = .ok (.iload_n 2, 1) := by decide +kernel
theorem dX5_size_13 : decode cX5_size 13 = .ok (.tableswitch 61 0 4 #[35, 41, 46, 51, 56], 35) := by decide +kernel
theorem dX5_size_48 : decode cX5_size 48 = .ok (.aload_n 3, 1) := by decide +kernel
theorem dX5_size_49 : decode cX5_size 49 = .ok (.getfield 61, 3) := by decide +kernel
theorem dX5_size_52 : decode cX5_size 52 = .ok (.arraylength, 1) := by decide +kernel
theorem dX5_size_53 : decode cX5_size 53 = .ok (.ireturn, 1) := by decide +kernel
theorem dX5_size_54 : decode cX5_size 54 = .ok (.aload_n 3, 1) := by decide +kernel
theorem dX5_size_55 : decode cX5_size 55 = .ok (.getfield 77, 3) := by decide +kernel
theorem dX5_size_58 : decode cX5_size 58 = .ok (.ireturn, 1) := by decide +kernel
theorem dX5_size_59 : decode cX5_size 59 = .ok (.aload_n 3, 1) := by decide +kernel
theorem dX5_size_60 : decode cX5_size 60 = .ok (.getfield 55, 3) := by decide +kernel
theorem dX5_size_63 : decode cX5_size 63 = .ok (.ireturn, 1) := by decide +kernel
theorem dX5_size_64 : decode cX5_size 64 = .ok (.aload_n 3, 1) := by decide +kernel
theorem dX5_size_65 : decode cX5_size 65 = .ok (.invokevirtual 135, 3) := by decide +kernel
theorem dX5_size_68 : decode cX5_size 68 = .ok (.ireturn, 1) := by decide +kernel
theorem dX5_size_69 : decode cX5_size 69 = .ok (.aload_n 3, 1) := by decide +kernel
theorem dX5_size_70 : decode cX5_size 70 = .ok (.getfield 65, 3) := by decide +kernel
theorem dX5_size_73 : decode cX5_size 73 = .ok (.ireturn, 1) := by decide +kernel
theorem dX5_size_74 : decode cX5_size 74 = .ok (.bipush (-2), 2) := by decide +kernel
theorem dX5_size_76 : decode cX5_size 76 = .ok (.ireturn, 1) := by decide +kernel
theorem dX5_meant_0 : decode cX5_meant 0 = .ok (.aload_n 0, 1) := by decide +kernel
theorem dX5_meant_1 : decode cX5_meant 1 = .ok (.iload_n 1, 1) := by decide +kernel
theorem dX5_meant_2 : decode cX5_meant 2 = .ok (.invokevirtual 51, 3) := by decide +kernel
theorem dX5_meant_5 : decode cX5_meant 5 = .ok (.astore_n 3, 1) := by decide +kernel
theorem dX5_meant_6 : decode cX5_meant 6 = .ok (.aload_n 3, 1) := by decide +kernel
theorem dX5_meant_7 : decode cX5_meant 7 = .ok (.ifnonnull 5, 3) := by decide +kernel
theorem dX5_meant_10 : decode cX5_meant 10 = .ok (.iconst (-1), 1) := by decide +kernel
theorem dX5_meant_11 : decode cX5_meant 11 = .ok (.ireturn, 1) := by decide +kernel
theorem dX5_meant_12 : decode cX5_meant 12 = .ok (.iload_n 2, 1) := by decide +kernel
theorem dX5_meant_13 : decode cX5_meant 13 = .ok (.ifCond .lt 8, 3) := by decide +kernel
theorem dX5_meant_16 : decode cX5_meant 16 = .ok (.iload_n 2, 1) := by decide +kernel
theorem dX5_meant_17 : decode cX5_meant 17 = .ok (.iconst 4, 1) := by decide +kernel
theorem dX5_meant_18 : decode cX5_meant 18 = .ok (.if_icmp .le 6, 3) := by decide +kernel
theorem dX5_meant_21 : decode cX5_meant 21 = .ok (.bipush (-2), 2) := by decide +kernel
theorem dX5_meant_23 : decode cX5_meant 23 = .ok (.ireturn, 1) := by decide +kernel
theorem dX5_meant_24 : decode cX5_meant 24 = .ok (.aload_n 3, 1) := by decide +kernel
theorem dX5_meant_25 : decode cX5_meant 25 = .ok (.getfield 77, 3) := by decide +kernel
theorem dX5_meant_28 : decode cX5_meant 28 = .ok (.iload_n 2, 1) := by decide +kernel
theorem dX5_meant_29 : decode cX5_meant 29 = .ok (.invokestatic 138, 3) := by decide +kernel
theorem dX5_meant_32 : decode cX5_meant 32 = .ok (.ifCond .eq 7, 3) := by decide +kernel
theorem dX5_meant_35 : decode cX5_meant 35 = .ok (.iconst 1, 1) := by decide +kernel
theorem dX5_meant_36 : decode cX5_meant 36 = .ok (.goto 8, 3) := by decide +kernel
theorem dX5_meant_39 : decode cX5_meant 39 = .ok (.aload_n 0, 1) := by decide +kernel
theorem dX5_meant_40 : decode cX5_meant 40 = .ok (.iconst 3, 1) := by decide +kernel
theorem dX5_meant_41 : decode cX5_meant 41 = .ok (.invokevirtual 45, 3) := by decide +kernel
theorem dX5_meant_44 : decode cX5_meant 44 = .ok (.ireturn, 1) := by decide +kernel
theorem dX5_asks_0 : decode cX5_asks 0 = .ok (.aload_n 0, 1) := by decide +kernel
theorem dX5_asks_1 : decode cX5_asks 1 = .ok (.iload_n 1, 1) := by decide +kernel
theorem dX5_asks_2 : decode cX5_asks 2 = .ok (.invokevirtual 51, 3) := by decide +kernel
theorem dX5_asks_5 : decode cX5_asks 5 = .ok (.astore_n 3, 1) := by decide +kernel
theorem dX5_asks_6 : decode cX5_asks 6 = .ok (.aload_n 3, 1) := by decide +kernel
theorem dX5_asks_7 : decode cX5_asks 7 = .ok (.ifnonnull 5, 3) := by decide +kernel
theorem dX5_asks_10 : decode cX5_asks 10 = .ok (.iconst (-1), 1) := by decide +kernel
theorem dX5_asks_11 : decode cX5_asks 11 = .ok (.ireturn, 1) := by decide +kernel
theorem dX5_asks_12 : decode cX5_asks 12 = .ok (.iload_n 2, 1) := by decide +kernel
theorem dX5_asks_13 : decode cX5_asks 13 = .ok (.ifCond .lt 8, 3) := by decide +kernel
theorem dX5_asks_16 : decode cX5_asks 16 = .ok (.iload_n 2, 1) := by decide +kernel
theorem dX5_asks_17 : decode cX5_asks 17 = .ok (.iconst 3, 1) := by decide +kernel
theorem dX5_asks_18 : decode cX5_asks 18 = .ok (.if_icmp .le 6, 3) := by decide +kernel
theorem dX5_asks_21 : decode cX5_asks 21 = .ok (.bipush (-2), 2) := by decide +kernel
theorem dX5_asks_23 : decode cX5_asks 23 = .ok (.ireturn, 1) := by decide +kernel
theorem dX5_asks_24 : decode cX5_asks 24 = .ok (.iload_n 2, 1) := by decide +kernel
theorem dX5_asks_25 : decode cX5_asks 25 = .ok (.ifCond .ne 12, 3) := by decide +kernel
theorem dX5_asks_28 : decode cX5_asks 28 = .ok (.aload_n 0, 1) := by decide +kernel
theorem dX5_asks_29 : decode cX5_asks 29 = .ok (.aload_n 3, 1) := by decide +kernel
theorem dX5_asks_30 : decode cX5_asks 30 = .ok (.iconst 0, 1) := by decide +kernel
theorem dX5_asks_31 : decode cX5_asks 31 = .ok (.invokevirtual 142, 3) := by decide +kernel
theorem dX5_asks_34 : decode cX5_asks 34 = .ok (.goto 35, 3) := by decide +kernel
theorem dX5_asks_37 : decode cX5_asks 37 = .ok (.iload_n 2, 1) := by decide +kernel
theorem dX5_asks_38 : decode cX5_asks 38 = .ok (.iconst 1, 1) := by decide +kernel
theorem dX5_asks_39 : decode cX5_asks 39 = .ok (.if_icmp .ne 11, 3) := by decide +kernel
theorem dX5_asks_42 : decode cX5_asks 42 = .ok (.aload_n 0, 1) := by decide +kernel
theorem dX5_asks_43 : decode cX5_asks 43 = .ok (.aload_n 3, 1) := by decide +kernel
theorem dX5_asks_44 : decode cX5_asks 44 = .ok (.invokevirtual 146, 3) := by decide +kernel
theorem dX5_asks_47 : decode cX5_asks 47 = .ok (.goto 22, 3) := by decide +kernel
theorem dX5_asks_50 : decode cX5_asks 50 = .ok (.iload_n 2, 1) := by decide +kernel
theorem dX5_asks_51 : decode cX5_asks 51 = .ok (.iconst 2, 1) := by decide +kernel
theorem dX5_asks_52 : decode cX5_asks 52 = .ok (.if_icmp .ne 12, 3) := by decide +kernel
theorem dX5_asks_55 : decode cX5_asks 55 = .ok (.aload_n 0, 1) := by decide +kernel
theorem dX5_asks_56 : decode cX5_asks 56 = .ok (.aload_n 3, 1) := by decide +kernel
theorem dX5_asks_57 : decode cX5_asks 57 = .ok (.iconst 0, 1) := by decide +kernel
theorem dX5_asks_58 : decode cX5_asks 58 = .ok (.invokevirtual 150, 3) := by decide +kernel
theorem dX5_asks_61 : decode cX5_asks 61 = .ok (.goto 8, 3) := by decide +kernel
theorem dX5_asks_64 : decode cX5_asks 64 = .ok (.aload_n 0, 1) := by decide +kernel
theorem dX5_asks_65 : decode cX5_asks 65 = .ok (.aload_n 3, 1) := by decide +kernel
theorem dX5_asks_66 : decode cX5_asks 66 = .ok (.invokevirtual 153, 3) := by decide +kernel
theorem dX5_asks_69 : decode cX5_asks 69 = .ok (.istore 4, 2) := by decide +kernel
theorem dX5_asks_71 : decode cX5_asks 71 = .ok (.iload 4, 2) := by decide +kernel
theorem dX5_asks_73 : decode cX5_asks 73 = .ok (.ifCond .ge 11, 3) := by decide +kernel
theorem dX5_asks_76 : decode cX5_asks 76 = .ok (.aload_n 0, 1) := by decide +kernel
theorem dX5_asks_77 : decode cX5_asks 77 = .ok (.iconst 3, 1) := by decide +kernel
theorem dX5_asks_78 : decode cX5_asks 78 = .ok (.invokevirtual 45, 3) := by decide +kernel
theorem dX5_asks_81 : decode cX5_asks 81 = .ok (.goto 5, 3) := by decide +kernel
theorem dX5_asks_84 : decode cX5_asks 84 = .ok (.iload 4, 2) := by decide +kernel
theorem dX5_asks_86 : decode cX5_asks 86 = .ok (.ireturn, 1) := by decide +kernel
theorem dX5_trace_0 : decode cX5_trace 0 = .ok (.aload_n 0, 1) := by decide +kernel
theorem dX5_trace_1 : decode cX5_trace 1 = .ok (.getfield 156, 3) := by decide +kernel
theorem dX5_trace_4 : decode cX5_trace 4 = .ok (.ireturn, 1) := by decide +kernel
theorem dX5_copy_0 : decode cX5_copy 0 = .ok (.aload_n 0, 1) := by decide +kernel
theorem dX5_copy_1 : decode cX5_copy 1 = .ok (.iload_n 1, 1) := by decide +kernel
theorem dX5_copy_2 : decode cX5_copy 2 = .ok (.invokevirtual 51, 3) := by decide +kernel
theorem dX5_copy_5 : decode cX5_copy 5 = .ok (.astore 6, 2) := by decide +kernel
theorem dX5_copy_7 : decode cX5_copy 7 = .ok (.aload_n 0, 1) := by decide +kernel
theorem dX5_copy_8 : decode cX5_copy 8 = .ok (.iload_n 3, 1) := by decide +kernel
theorem dX5_copy_9 : decode cX5_copy 9 = .ok (.invokevirtual 51, 3) := by decide +kernel
theorem dX5_copy_12 : decode cX5_copy 12 = .ok (.astore 7, 2) := by decide +kernel
theorem dX5_copy_14 : decode cX5_copy 14 = .ok (.aload 6, 2) := by decide +kernel
theorem dX5_copy_16 : decode cX5_copy 16 = .ok (.ifnull 8, 3) := by decide +kernel
theorem dX5_copy_19 : decode cX5_copy 19 = .ok (.aload 7, 2) := by decide +kernel
theorem dX5_copy_21 : decode cX5_copy 21 = .ok (.ifnonnull 5, 3) := by decide +kernel
theorem dX5_copy_24 : decode cX5_copy 24 = .ok (.iconst (-1), 1) := by decide +kernel
theorem dX5_copy_25 : decode cX5_copy 25 = .ok (.ireturn, 1) := by decide +kernel
theorem dX5_copy_26 : decode cX5_copy 26 = .ok (.aload 6, 2) := by decide +kernel
theorem dX5_copy_28 : decode cX5_copy 28 = .ok (.getfield 77, 3) := by decide +kernel
theorem dX5_copy_31 : decode cX5_copy 31 = .ok (.iconst 4, 1) := by decide +kernel
theorem dX5_copy_32 : decode cX5_copy 32 = .ok (.if_icmp .eq 12, 3) := by decide +kernel
theorem dX5_copy_35 : decode cX5_copy 35 = .ok (.aload 7, 2) := by decide +kernel
theorem dX5_copy_37 : decode cX5_copy 37 = .ok (.getfield 77, 3) := by decide +kernel
theorem dX5_copy_40 : decode cX5_copy 40 = .ok (.iconst 4, 1) := by decide +kernel
theorem dX5_copy_41 : decode cX5_copy 41 = .ok (.if_icmp .ne 7, 3) := by decide +kernel
theorem dX5_copy_44 : decode cX5_copy 44 = .ok (.iconst 1, 1) := by decide +kernel
theorem dX5_copy_45 : decode cX5_copy 45 = .ok (.goto 4, 3) := by decide +kernel
theorem dX5_copy_48 : decode cX5_copy 48 = .ok (.iconst 0, 1) := by decide +kernel
theorem dX5_copy_49 : decode cX5_copy 49 = .ok (.istore 8, 2) := by decide +kernel
theorem dX5_copy_51 : decode cX5_copy 51 = .ok (.iload 8, 2) := by decide +kernel
theorem dX5_copy_53 : decode cX5_copy 53 = .ok (.ifCond .ne 37, 3) := by decide +kernel
theorem dX5_copy_56 : decode cX5_copy 56 = .ok (.aload 6, 2) := by decide +kernel
theorem dX5_copy_58 : decode cX5_copy 58 = .ok (.getfield 77, 3) := by decide +kernel
theorem dX5_copy_61 : decode cX5_copy 61 = .ok (.iconst 2, 1) := by decide +kernel
theorem dX5_copy_62 : decode cX5_copy 62 = .ok (.if_icmp .ne 7, 3) := by decide +kernel
theorem dX5_copy_65 : decode cX5_copy 65 = .ok (.iconst 1, 1) := by decide +kernel
theorem dX5_copy_66 : decode cX5_copy 66 = .ok (.goto 4, 3) := by decide +kernel
theorem dX5_copy_69 : decode cX5_copy 69 = .ok (.iconst 0, 1) := by decide +kernel
theorem dX5_copy_70 : decode cX5_copy 70 = .ok (.aload 7, 2) := by decide +kernel
theorem dX5_copy_72 : decode cX5_copy 72 = .ok (.getfield 77, 3) := by decide +kernel
theorem dX5_copy_75 : decode cX5_copy 75 = .ok (.iconst 2, 1) := by decide +kernel
theorem dX5_copy_76 : decode cX5_copy 76 = .ok (.if_icmp .ne 7, 3) := by decide +kernel
theorem dX5_copy_79 : decode cX5_copy 79 = .ok (.iconst 1, 1) := by decide +kernel
theorem dX5_copy_80 : decode cX5_copy 80 = .ok (.goto 4, 3) := by decide +kernel
theorem dX5_copy_83 : decode cX5_copy 83 = .ok (.iconst 0, 1) := by decide +kernel
theorem dX5_copy_84 : decode cX5_copy 84 = .ok (.if_icmp .eq 6, 3) := by decide +kernel
theorem dX5_copy_87 : decode cX5_copy 87 = .ok (.bipush (-3), 2) := by decide +kernel
theorem dX5_copy_89 : decode cX5_copy 89 = .ok (.ireturn, 1) := by decide +kernel
theorem dX5_copy_90 : decode cX5_copy 90 = .ok (.iload 8, 2) := by decide +kernel
theorem dX5_copy_92 : decode cX5_copy 92 = .ok (.ifCond .eq 9, 3) := by decide +kernel
theorem dX5_copy_95 : decode cX5_copy 95 = .ok (.aload_n 0, 1) := by decide +kernel
theorem dX5_copy_96 : decode cX5_copy 96 = .ok (.iconst 3, 1) := by decide +kernel
theorem dX5_copy_97 : decode cX5_copy 97 = .ok (.invokevirtual 45, 3) := by decide +kernel
theorem dX5_copy_100 : decode cX5_copy 100 = .ok (.ireturn, 1) := by decide +kernel
theorem dX5_copy_101 : decode cX5_copy 101 = .ok (.aload_n 0, 1) := by decide +kernel
theorem dX5_copy_102 : decode cX5_copy 102 = .ok (.getfield 26, 3) := by decide +kernel
theorem dX5_copy_105 : decode cX5_copy 105 = .ok (.iconst 1, 1) := by decide +kernel
theorem dX5_copy_106 : decode cX5_copy 106 = .ok (.putfield 90, 3) := by decide +kernel
theorem dX5_copy_109 : decode cX5_copy 109 = .ok (.iload_n 1, 1) := by decide +kernel
theorem dX5_copy_110 : decode cX5_copy 110 = .ok (.iload_n 3, 1) := by decide +kernel
theorem dX5_copy_111 : decode cX5_copy 111 = .ok (.if_icmp .ne 27, 3) := by decide +kernel
theorem dX5_copy_114 : decode cX5_copy 114 = .ok (.aload 6, 2) := by decide +kernel
theorem dX5_copy_116 : decode cX5_copy 116 = .ok (.iload_n 2, 1) := by decide +kernel
theorem dX5_copy_117 : decode cX5_copy 117 = .ok (.iload 4, 2) := by decide +kernel
theorem dX5_copy_119 : decode cX5_copy 119 = .ok (.iload 5, 2) := by decide +kernel
theorem dX5_copy_121 : decode cX5_copy 121 = .ok (.invokevirtual 159, 3) := by decide +kernel
theorem dX5_copy_124 : decode cX5_copy 124 = .ok (.ifCond .ne 14, 3) := by decide +kernel
theorem dX5_copy_127 : decode cX5_copy 127 = .ok (.aload_n 0, 1) := by decide +kernel
theorem dX5_copy_128 : decode cX5_copy 128 = .ok (.iconst 0, 1) := by decide +kernel
theorem dX5_copy_129 : decode cX5_copy 129 = .ok (.putfield 163, 3) := by decide +kernel
theorem dX5_copy_132 : decode cX5_copy 132 = .ok (.aload_n 0, 1) := by decide +kernel
theorem dX5_copy_133 : decode cX5_copy 133 = .ok (.iconst 2, 1) := by decide +kernel
theorem dX5_copy_134 : decode cX5_copy 134 = .ok (.invokevirtual 45, 3) := by decide +kernel
theorem dX5_copy_137 : decode cX5_copy 137 = .ok (.ireturn, 1) := by decide +kernel
theorem dX5_copy_138 : decode cX5_copy 138 = .ok (.aload_n 0, 1) := by decide +kernel
theorem dX5_copy_139 : decode cX5_copy 139 = .ok (.iload_n 1, 1) := by decide +kernel
theorem dX5_copy_140 : decode cX5_copy 140 = .ok (.iload_n 3, 1) := by decide +kernel
theorem dX5_copy_141 : decode cX5_copy 141 = .ok (.if_icmp .ne 16, 3) := by decide +kernel
theorem dX5_copy_144 : decode cX5_copy 144 = .ok (.aload 6, 2) := by decide +kernel
theorem dX5_copy_146 : decode cX5_copy 146 = .ok (.iload_n 2, 1) := by decide +kernel
theorem dX5_copy_147 : decode cX5_copy 147 = .ok (.iload 4, 2) := by decide +kernel
theorem dX5_copy_149 : decode cX5_copy 149 = .ok (.iload 5, 2) := by decide +kernel
theorem dX5_copy_151 : decode cX5_copy 151 = .ok (.invokestatic 166, 3) := by decide +kernel
theorem dX5_copy_154 : decode cX5_copy 154 = .ok (.goto 15, 3) := by decide +kernel
theorem dX5_copy_157 : decode cX5_copy 157 = .ok (.aload 6, 2) := by decide +kernel
theorem dX5_copy_159 : decode cX5_copy 159 = .ok (.iload_n 2, 1) := by decide +kernel
theorem dX5_copy_160 : decode cX5_copy 160 = .ok (.aload 7, 2) := by decide +kernel
theorem dX5_copy_162 : decode cX5_copy 162 = .ok (.iload 4, 2) := by decide +kernel
theorem dX5_copy_164 : decode cX5_copy 164 = .ok (.iload 5, 2) := by decide +kernel
theorem dX5_copy_166 : decode cX5_copy 166 = .ok (.invokestatic 170, 3) := by decide +kernel
theorem dX5_copy_169 : decode cX5_copy 169 = .ok (.putfield 163, 3) := by decide +kernel
theorem dX5_copy_172 : decode cX5_copy 172 = .ok (.aload_n 0, 1) := by decide +kernel
theorem dX5_copy_173 : decode cX5_copy 173 = .ok (.getfield 163, 3) := by decide +kernel
theorem dX5_copy_176 : decode cX5_copy 176 = .ok (.iload 5, 2) := by decide +kernel
theorem dX5_copy_178 : decode cX5_copy 178 = .ok (.if_icmp .ge 11, 3) := by decide +kernel
theorem dX5_copy_181 : decode cX5_copy 181 = .ok (.aload_n 0, 1) := by decide +kernel
theorem dX5_copy_182 : decode cX5_copy 182 = .ok (.iconst 2, 1) := by decide +kernel
theorem dX5_copy_183 : decode cX5_copy 183 = .ok (.invokevirtual 45, 3) := by decide +kernel
theorem dX5_copy_186 : decode cX5_copy 186 = .ok (.goto 7, 3) := by decide +kernel
theorem dX5_copy_189 : decode cX5_copy 189 = .ok (.aload_n 0, 1) := by decide +kernel
theorem dX5_copy_190 : decode cX5_copy 190 = .ok (.getfield 163, 3) := by decide +kernel
theorem dX5_copy_193 : decode cX5_copy 193 = .ok (.ireturn, 1) := by decide +kernel
theorem dX5_copied_0 : decode cX5_copied 0 = .ok (.aload_n 0, 1) := by decide +kernel
theorem dX5_copied_1 : decode cX5_copied 1 = .ok (.getfield 163, 3) := by decide +kernel
theorem dX5_copied_4 : decode cX5_copied 4 = .ok (.ireturn, 1) := by decide +kernel
theorem dX5_digest_0 : decode cX5_digest 0 = .ok (.aload_n 0, 1) := by decide +kernel
theorem dX5_digest_1 : decode cX5_digest 1 = .ok (.iload_n 1, 1) := by decide +kernel
theorem dX5_digest_2 : decode cX5_digest 2 = .ok (.invokevirtual 51, 3) := by decide +kernel
theorem dX5_digest_5 : decode cX5_digest 5 = .ok (.astore_n 2, 1) := by decide +kernel
theorem dX5_digest_6 : decode cX5_digest 6 = .ok (.aload_n 2, 1) := by decide +kernel
theorem dX5_digest_7 : decode cX5_digest 7 = .ok (.ifnonnull 9, 3) := by decide +kernel
theorem dX5_digest_10 : decode cX5_digest 10 = .ok (.ldc2_w 114, 3) := by decide +kernel
theorem dX5_digest_13 : decode cX5_digest 13 = .ok (.goto 7, 3) := by decide +kernel
theorem dX5_digest_16 : decode cX5_digest 16 = .ok (.aload_n 2, 1) := by decide +kernel
theorem dX5_digest_17 : decode cX5_digest 17 = .ok (.invokevirtual 174, 3) := by decide +kernel
theorem dX5_digest_20 : decode cX5_digest 20 = .ok (.lreturn, 1) := by decide +kernel
theorem dX5_ofFloat_0 : decode cX5_ofFloat 0 = .ok (.aload_n 0, 1) := by decide +kernel
theorem dX5_ofFloat_1 : decode cX5_ofFloat 1 = .ok (.aload_n 0, 1) := by decide +kernel
theorem dX5_ofFloat_2 : decode cX5_ofFloat 2 = .ok (.iload_n 1, 1) := by decide +kernel
theorem dX5_ofFloat_3 : decode cX5_ofFloat 3 = .ok (.invokevirtual 51, 3) := by decide +kernel
theorem dX5_ofFloat_6 : decode cX5_ofFloat 6 = .ok (.iload_n 2, 1) := by decide +kernel
theorem dX5_ofFloat_7 : decode cX5_ofFloat 7 = .ok (.i2l, 1) := by decide +kernel
theorem dX5_ofFloat_8 : decode cX5_ofFloat 8 = .ok (.ldc2_w 177, 3) := by decide +kernel
theorem dX5_ofFloat_11 : decode cX5_ofFloat 11 = .ok (.land, 1) := by decide +kernel
theorem dX5_ofFloat_12 : decode cX5_ofFloat 12 = .ok (.bipush 23, 2) := by decide +kernel
theorem dX5_ofFloat_14 : decode cX5_ofFloat 14 = .ok (.invokevirtual 179, 3) := by decide +kernel
theorem dX5_ofFloat_17 : decode cX5_ofFloat 17 = .ok (.ireturn, 1) := by decide +kernel
theorem dX5_ofDouble_0 : decode cX5_ofDouble 0 = .ok (.aload_n 0, 1) := by decide +kernel
theorem dX5_ofDouble_1 : decode cX5_ofDouble 1 = .ok (.aload_n 0, 1) := by decide +kernel
theorem dX5_ofDouble_2 : decode cX5_ofDouble 2 = .ok (.iload_n 1, 1) := by decide +kernel
theorem dX5_ofDouble_3 : decode cX5_ofDouble 3 = .ok (.invokevirtual 51, 3) := by decide +kernel
theorem dX5_ofDouble_6 : decode cX5_ofDouble 6 = .ok (.lload_n 2, 1) := by decide +kernel
theorem dX5_ofDouble_7 : decode cX5_ofDouble 7 = .ok (.bipush 52, 2) := by decide +kernel
theorem dX5_ofDouble_9 : decode cX5_ofDouble 9 = .ok (.invokevirtual 179, 3) := by decide +kernel
theorem dX5_ofDouble_12 : decode cX5_ofDouble 12 = .ok (.ireturn, 1) := by decide +kernel
theorem dX5_restFloat_0 : decode cX5_restFloat 0 = .ok (.iload_n 1, 1) := by decide +kernel
theorem dX5_restFloat_1 : decode cX5_restFloat 1 = .ok (.i2l, 1) := by decide +kernel
theorem dX5_restFloat_2 : decode cX5_restFloat 2 = .ok (.ldc2_w 177, 3) := by decide +kernel
theorem dX5_restFloat_5 : decode cX5_restFloat 5 = .ok (.land, 1) := by decide +kernel
theorem dX5_restFloat_6 : decode cX5_restFloat 6 = .ok (.iload_n 2, 1) := by decide +kernel
theorem dX5_restFloat_7 : decode cX5_restFloat 7 = .ok (.i2l, 1) := by decide +kernel
theorem dX5_restFloat_8 : decode cX5_restFloat 8 = .ok (.ldc2_w 177, 3) := by decide +kernel
theorem dX5_restFloat_11 : decode cX5_restFloat 11 = .ok (.land, 1) := by decide +kernel
theorem dX5_restFloat_12 : decode cX5_restFloat 12 = .ok (.bipush 23, 2) := by decide +kernel
theorem dX5_restFloat_14 : decode cX5_restFloat 14 = .ok (.invokestatic 183, 3) := by decide +kernel
theorem dX5_restFloat_17 : decode cX5_restFloat 17 = .ok (.l2i, 1) := by decide +kernel
theorem dX5_restFloat_18 : decode cX5_restFloat 18 = .ok (.ireturn, 1) := by decide +kernel
theorem dX5_restDouble_0 : decode cX5_restDouble 0 = .ok (.lload_n 1, 1) := by decide +kernel
theorem dX5_restDouble_1 : decode cX5_restDouble 1 = .ok (.lload_n 3, 1) := by decide +kernel
theorem dX5_restDouble_2 : decode cX5_restDouble 2 = .ok (.bipush 52, 2) := by decide +kernel
theorem dX5_restDouble_4 : decode cX5_restDouble 4 = .ok (.invokestatic 183, 3) := by decide +kernel
theorem dX5_restDouble_7 : decode cX5_restDouble 7 = .ok (.lreturn, 1) := by decide +kernel
theorem dX5_add_0 : decode cX5_add 0 = .ok (.aload_n 0, 1) := by decide +kernel
theorem dX5_add_1 : decode cX5_add 1 = .ok (.aload_n 0, 1) := by decide +kernel
theorem dX5_add_2 : decode cX5_add 2 = .ok (.iload_n 1, 1) := by decide +kernel
theorem dX5_add_3 : decode cX5_add 3 = .ok (.invokevirtual 51, 3) := by decide +kernel
theorem dX5_add_6 : decode cX5_add 6 = .ok (.lload_n 2, 1) := by decide +kernel
theorem dX5_add_7 : decode cX5_add 7 = .ok (.iconst 1, 1) := by decide +kernel
theorem dX5_add_8 : decode cX5_add 8 = .ok (.invokevirtual 187, 3) := by decide +kernel
theorem dX5_add_11 : decode cX5_add 11 = .ok (.ireturn, 1) := by decide +kernel
theorem dX5_less_0 : decode cX5_less 0 = .ok (.aload_n 0, 1) := by decide +kernel
theorem dX5_less_1 : decode cX5_less 1 = .ok (.aload_n 0, 1) := by decide +kernel
theorem dX5_less_2 : decode cX5_less 2 = .ok (.iload_n 1, 1) := by decide +kernel
theorem dX5_less_3 : decode cX5_less 3 = .ok (.invokevirtual 51, 3) := by decide +kernel
theorem dX5_less_6 : decode cX5_less 6 = .ok (.lload_n 2, 1) := by decide +kernel
theorem dX5_less_7 : decode cX5_less 7 = .ok (.iconst (-1), 1) := by decide +kernel
theorem dX5_less_8 : decode cX5_less 8 = .ok (.invokevirtual 187, 3) := by decide +kernel
theorem dX5_less_11 : decode cX5_less 11 = .ok (.ireturn, 1) := by decide +kernel
theorem dX5_times_0 : decode cX5_times 0 = .ok (.aload_n 0, 1) := by decide +kernel
theorem dX5_times_1 : decode cX5_times 1 = .ok (.iload_n 1, 1) := by decide +kernel
theorem dX5_times_2 : decode cX5_times 2 = .ok (.invokevirtual 51, 3) := by decide +kernel
theorem dX5_times_5 : decode cX5_times 5 = .ok (.astore 4, 2) := by decide +kernel
theorem dX5_times_7 : decode cX5_times 7 = .ok (.aload 4, 2) := by decide +kernel
theorem dX5_times_9 : decode cX5_times 9 = .ok (.ifnonnull 5, 3) := by decide +kernel
theorem dX5_times_12 : decode cX5_times 12 = .ok (.iconst (-1), 1) := by decide +kernel
theorem dX5_times_13 : decode cX5_times 13 = .ok (.ireturn, 1) := by decide +kernel
theorem dX5_times_14 : decode cX5_times 14 = .ok (.aload_n 0, 1) := by decide +kernel
theorem dX5_times_15 : decode cX5_times 15 = .ok (.aload 4, 2) := by decide +kernel
theorem dX5_times_17 : decode cX5_times 17 = .ok (.aconst_null, 1) := by decide +kernel
theorem dX5_times_18 : decode cX5_times 18 = .ok (.aload 4, 2) := by decide +kernel
theorem dX5_times_20 : decode cX5_times 20 = .ok (.lload_n 2, 1) := by decide +kernel
theorem dX5_times_21 : decode cX5_times 21 = .ok (.invokestatic 190, 3) := by decide +kernel
theorem dX5_times_24 : decode cX5_times 24 = .ok (.iconst 0, 1) := by decide +kernel
theorem dX5_times_25 : decode cX5_times 25 = .ok (.invokevirtual 193, 3) := by decide +kernel
theorem dX5_times_28 : decode cX5_times 28 = .ok (.istore 5, 2) := by decide +kernel
theorem dX5_times_30 : decode cX5_times 30 = .ok (.iload 5, 2) := by decide +kernel
theorem dX5_times_32 : decode cX5_times 32 = .ok (.ifCond .eq 8, 3) := by decide +kernel
theorem dX5_times_35 : decode cX5_times 35 = .ok (.iload 5, 2) := by decide +kernel
theorem dX5_times_37 : decode cX5_times 37 = .ok (.goto 20, 3) := by decide +kernel
theorem dX5_times_40 : decode cX5_times 40 = .ok (.aload_n 0, 1) := by decide +kernel
theorem dX5_times_41 : decode cX5_times 41 = .ok (.getfield 26, 3) := by decide +kernel
theorem dX5_times_44 : decode cX5_times 44 = .ok (.aload_n 0, 1) := by decide +kernel
theorem dX5_times_45 : decode cX5_times 45 = .ok (.getfield 26, 3) := by decide +kernel
theorem dX5_times_48 : decode cX5_times 48 = .ok (.aload 4, 2) := by decide +kernel
theorem dX5_times_50 : decode cX5_times 50 = .ok (.lload_n 2, 1) := by decide +kernel
theorem dX5_times_51 : decode cX5_times 51 = .ok (.invokevirtual 197, 3) := by decide +kernel
theorem dX5_times_54 : decode cX5_times 54 = .ok (.invokevirtual 201, 3) := by decide +kernel
theorem dX5_times_57 : decode cX5_times 57 = .ok (.ireturn, 1) := by decide +kernel
theorem dX5_divide_0 : decode cX5_divide 0 = .ok (.aload_n 0, 1) := by decide +kernel
theorem dX5_divide_1 : decode cX5_divide 1 = .ok (.iload_n 1, 1) := by decide +kernel
theorem dX5_divide_2 : decode cX5_divide 2 = .ok (.invokevirtual 51, 3) := by decide +kernel
theorem dX5_divide_5 : decode cX5_divide 5 = .ok (.astore 5, 2) := by decide +kernel
theorem dX5_divide_7 : decode cX5_divide 7 = .ok (.aload_n 0, 1) := by decide +kernel
theorem dX5_divide_8 : decode cX5_divide 8 = .ok (.iload_n 2, 1) := by decide +kernel
theorem dX5_divide_9 : decode cX5_divide 9 = .ok (.invokevirtual 51, 3) := by decide +kernel
theorem dX5_divide_12 : decode cX5_divide 12 = .ok (.astore 6, 2) := by decide +kernel
theorem dX5_divide_14 : decode cX5_divide 14 = .ok (.aload 5, 2) := by decide +kernel
theorem dX5_divide_16 : decode cX5_divide 16 = .ok (.ifnull 8, 3) := by decide +kernel
theorem dX5_divide_19 : decode cX5_divide 19 = .ok (.aload 6, 2) := by decide +kernel
theorem dX5_divide_21 : decode cX5_divide 21 = .ok (.ifnonnull 5, 3) := by decide +kernel
theorem dX5_divide_24 : decode cX5_divide 24 = .ok (.iconst (-1), 1) := by decide +kernel
theorem dX5_divide_25 : decode cX5_divide 25 = .ok (.ireturn, 1) := by decide +kernel
theorem dX5_divide_26 : decode cX5_divide 26 = .ok (.aload_n 0, 1) := by decide +kernel
theorem dX5_divide_27 : decode cX5_divide 27 = .ok (.aload 5, 2) := by decide +kernel
theorem dX5_divide_29 : decode cX5_divide 29 = .ok (.aload 6, 2) := by decide +kernel
theorem dX5_divide_31 : decode cX5_divide 31 = .ok (.aload 5, 2) := by decide +kernel
theorem dX5_divide_33 : decode cX5_divide 33 = .ok (.aload 6, 2) := by decide +kernel
theorem dX5_divide_35 : decode cX5_divide 35 = .ok (.lload_n 3, 1) := by decide +kernel
theorem dX5_divide_36 : decode cX5_divide 36 = .ok (.iconst 1, 1) := by decide +kernel
theorem dX5_divide_37 : decode cX5_divide 37 = .ok (.invokestatic 205, 3) := by decide +kernel
theorem dX5_divide_40 : decode cX5_divide 40 = .ok (.lload_n 3, 1) := by decide +kernel
theorem dX5_divide_41 : decode cX5_divide 41 = .ok (.lconst 0, 1) := by decide +kernel
theorem dX5_divide_42 : decode cX5_divide 42 = .ok (.lcmp, 1) := by decide +kernel
theorem dX5_divide_43 : decode cX5_divide 43 = .ok (.ifCond .ne 7, 3) := by decide +kernel
theorem dX5_divide_46 : decode cX5_divide 46 = .ok (.iconst 1, 1) := by decide +kernel
theorem dX5_divide_47 : decode cX5_divide 47 = .ok (.goto 4, 3) := by decide +kernel
theorem dX5_divide_50 : decode cX5_divide 50 = .ok (.iconst 0, 1) := by decide +kernel
theorem dX5_divide_51 : decode cX5_divide 51 = .ok (.invokevirtual 193, 3) := by decide +kernel
theorem dX5_divide_54 : decode cX5_divide 54 = .ok (.istore 7, 2) := by decide +kernel
theorem dX5_divide_56 : decode cX5_divide 56 = .ok (.iload 7, 2) := by decide +kernel
theorem dX5_divide_58 : decode cX5_divide 58 = .ok (.ifCond .eq 8, 3) := by decide +kernel
theorem dX5_divide_61 : decode cX5_divide 61 = .ok (.iload 7, 2) := by decide +kernel
theorem dX5_divide_63 : decode cX5_divide 63 = .ok (.goto 22, 3) := by decide +kernel
theorem dX5_divide_66 : decode cX5_divide 66 = .ok (.aload_n 0, 1) := by decide +kernel
theorem dX5_divide_67 : decode cX5_divide 67 = .ok (.getfield 26, 3) := by decide +kernel
theorem dX5_divide_70 : decode cX5_divide 70 = .ok (.aload_n 0, 1) := by decide +kernel
theorem dX5_divide_71 : decode cX5_divide 71 = .ok (.getfield 26, 3) := by decide +kernel
theorem dX5_divide_74 : decode cX5_divide 74 = .ok (.aload 5, 2) := by decide +kernel
theorem dX5_divide_76 : decode cX5_divide 76 = .ok (.aload 6, 2) := by decide +kernel
theorem dX5_divide_78 : decode cX5_divide 78 = .ok (.lload_n 3, 1) := by decide +kernel
theorem dX5_divide_79 : decode cX5_divide 79 = .ok (.invokevirtual 209, 3) := by decide +kernel
theorem dX5_divide_82 : decode cX5_divide 82 = .ok (.invokevirtual 201, 3) := by decide +kernel
theorem dX5_divide_85 : decode cX5_divide 85 = .ok (.ireturn, 1) := by decide +kernel
theorem dX5_root_0 : decode cX5_root 0 = .ok (.aload_n 0, 1) := by decide +kernel
theorem dX5_root_1 : decode cX5_root 1 = .ok (.aload_n 0, 1) := by decide +kernel
theorem dX5_root_2 : decode cX5_root 2 = .ok (.iload_n 1, 1) := by decide +kernel
theorem dX5_root_3 : decode cX5_root 3 = .ok (.invokevirtual 51, 3) := by decide +kernel
theorem dX5_root_6 : decode cX5_root 6 = .ok (.aload_n 0, 1) := by decide +kernel
theorem dX5_root_7 : decode cX5_root 7 = .ok (.iload_n 2, 1) := by decide +kernel
theorem dX5_root_8 : decode cX5_root 8 = .ok (.invokevirtual 51, 3) := by decide +kernel
theorem dX5_root_11 : decode cX5_root 11 = .ok (.iconst 2, 1) := by decide +kernel
theorem dX5_root_12 : decode cX5_root 12 = .ok (.invokevirtual 213, 3) := by decide +kernel
theorem dX5_root_15 : decode cX5_root 15 = .ok (.ireturn, 1) := by decide +kernel
theorem dX5_cube_0 : decode cX5_cube 0 = .ok (.aload_n 0, 1) := by decide +kernel
theorem dX5_cube_1 : decode cX5_cube 1 = .ok (.aload_n 0, 1) := by decide +kernel
theorem dX5_cube_2 : decode cX5_cube 2 = .ok (.iload_n 1, 1) := by decide +kernel
theorem dX5_cube_3 : decode cX5_cube 3 = .ok (.invokevirtual 51, 3) := by decide +kernel
theorem dX5_cube_6 : decode cX5_cube 6 = .ok (.aload_n 0, 1) := by decide +kernel
theorem dX5_cube_7 : decode cX5_cube 7 = .ok (.iload_n 2, 1) := by decide +kernel
theorem dX5_cube_8 : decode cX5_cube 8 = .ok (.invokevirtual 51, 3) := by decide +kernel
theorem dX5_cube_11 : decode cX5_cube 11 = .ok (.iconst 3, 1) := by decide +kernel
theorem dX5_cube_12 : decode cX5_cube 12 = .ok (.invokevirtual 213, 3) := by decide +kernel
theorem dX5_cube_15 : decode cX5_cube 15 = .ok (.ireturn, 1) := by decide +kernel
theorem dX5_turn_0 : decode cX5_turn 0 = .ok (.aload_n 0, 1) := by decide +kernel
theorem dX5_turn_1 : decode cX5_turn 1 = .ok (.iload_n 1, 1) := by decide +kernel
theorem dX5_turn_2 : decode cX5_turn 2 = .ok (.invokevirtual 51, 3) := by decide +kernel
theorem dX5_turn_5 : decode cX5_turn 5 = .ok (.astore_n 3, 1) := by decide +kernel
theorem dX5_turn_6 : decode cX5_turn 6 = .ok (.aload_n 0, 1) := by decide +kernel
theorem dX5_turn_7 : decode cX5_turn 7 = .ok (.iload_n 2, 1) := by decide +kernel
theorem dX5_turn_8 : decode cX5_turn 8 = .ok (.invokevirtual 51, 3) := by decide +kernel
theorem dX5_turn_11 : decode cX5_turn 11 = .ok (.astore 4, 2) := by decide +kernel
theorem dX5_turn_13 : decode cX5_turn 13 = .ok (.aload_n 3, 1) := by decide +kernel
theorem dX5_turn_14 : decode cX5_turn 14 = .ok (.ifnull 8, 3) := by decide +kernel
theorem dX5_turn_17 : decode cX5_turn 17 = .ok (.aload 4, 2) := by decide +kernel
theorem dX5_turn_19 : decode cX5_turn 19 = .ok (.ifnonnull 5, 3) := by decide +kernel
theorem dX5_turn_22 : decode cX5_turn 22 = .ok (.iconst (-1), 1) := by decide +kernel
theorem dX5_turn_23 : decode cX5_turn 23 = .ok (.ireturn, 1) := by decide +kernel
theorem dX5_turn_24 : decode cX5_turn 24 = .ok (.aload_n 0, 1) := by decide +kernel
theorem dX5_turn_25 : decode cX5_turn 25 = .ok (.aload_n 3, 1) := by decide +kernel
theorem dX5_turn_26 : decode cX5_turn 26 = .ok (.aload 4, 2) := by decide +kernel
theorem dX5_turn_28 : decode cX5_turn 28 = .ok (.aload_n 3, 1) := by decide +kernel
theorem dX5_turn_29 : decode cX5_turn 29 = .ok (.aload 4, 2) := by decide +kernel
theorem dX5_turn_31 : decode cX5_turn 31 = .ok (.lconst 0, 1) := by decide +kernel
theorem dX5_turn_32 : decode cX5_turn 32 = .ok (.iconst 0, 1) := by decide +kernel
theorem dX5_turn_33 : decode cX5_turn 33 = .ok (.invokestatic 205, 3) := by decide +kernel
theorem dX5_turn_36 : decode cX5_turn 36 = .ok (.iconst 0, 1) := by decide +kernel
theorem dX5_turn_37 : decode cX5_turn 37 = .ok (.invokevirtual 193, 3) := by decide +kernel
theorem dX5_turn_40 : decode cX5_turn 40 = .ok (.istore 5, 2) := by decide +kernel
theorem dX5_turn_42 : decode cX5_turn 42 = .ok (.iload 5, 2) := by decide +kernel
theorem dX5_turn_44 : decode cX5_turn 44 = .ok (.ifCond .eq 8, 3) := by decide +kernel
theorem dX5_turn_47 : decode cX5_turn 47 = .ok (.iload 5, 2) := by decide +kernel
theorem dX5_turn_49 : decode cX5_turn 49 = .ok (.goto 20, 3) := by decide +kernel
theorem dX5_turn_52 : decode cX5_turn 52 = .ok (.aload_n 0, 1) := by decide +kernel
theorem dX5_turn_53 : decode cX5_turn 53 = .ok (.getfield 26, 3) := by decide +kernel
theorem dX5_turn_56 : decode cX5_turn 56 = .ok (.aload_n 0, 1) := by decide +kernel
theorem dX5_turn_57 : decode cX5_turn 57 = .ok (.getfield 26, 3) := by decide +kernel
theorem dX5_turn_60 : decode cX5_turn 60 = .ok (.aload_n 3, 1) := by decide +kernel
theorem dX5_turn_61 : decode cX5_turn 61 = .ok (.aload 4, 2) := by decide +kernel
theorem dX5_turn_63 : decode cX5_turn 63 = .ok (.invokevirtual 217, 3) := by decide +kernel
theorem dX5_turn_66 : decode cX5_turn 66 = .ok (.invokevirtual 201, 3) := by decide +kernel
theorem dX5_turn_69 : decode cX5_turn 69 = .ok (.ireturn, 1) := by decide +kernel
theorem dX5_part_0 : decode cX5_part 0 = .ok (.aload_n 0, 1) := by decide +kernel
theorem dX5_part_1 : decode cX5_part 1 = .ok (.getfield 26, 3) := by decide +kernel
theorem dX5_part_4 : decode cX5_part 4 = .ok (.getfield 221, 3) := by decide +kernel
theorem dX5_part_7 : decode cX5_part 7 = .ok (.astore_n 3, 1) := by decide +kernel
theorem dX5_part_8 : decode cX5_part 8 = .ok (.aload_n 3, 1) := by decide +kernel
theorem dX5_part_9 : decode cX5_part 9 = .ok (.iload_n 1, 1) := by decide +kernel
theorem dX5_part_10 : decode cX5_part 10 = .ok (.iload_n 2, 1) := by decide +kernel
theorem dX5_part_11 : decode cX5_part 11 = .ok (.invokevirtual 225, 3) := by decide +kernel
theorem dX5_part_14 : decode cX5_part 14 = .ok (.istore 4, 2) := by decide +kernel
theorem dX5_part_16 : decode cX5_part 16 = .ok (.iload 4, 2) := by decide +kernel
theorem dX5_part_18 : decode cX5_part 18 = .ok (.ifCond .eq 12, 3) := by decide +kernel
theorem dX5_part_21 : decode cX5_part 21 = .ok (.aload_n 0, 1) := by decide +kernel
theorem dX5_part_22 : decode cX5_part 22 = .ok (.iload 4, 2) := by decide +kernel
theorem dX5_part_24 : decode cX5_part 24 = .ok (.invokevirtual 119, 3) := by decide +kernel
theorem dX5_part_27 : decode cX5_part 27 = .ok (.goto 9, 3) := by decide +kernel
theorem dX5_part_30 : decode cX5_part 30 = .ok (.aload_n 3, 1) := by decide +kernel
theorem dX5_part_31 : decode cX5_part 31 = .ok (.iload_n 1, 1) := by decide +kernel
theorem dX5_part_32 : decode cX5_part 32 = .ok (.iload_n 2, 1) := by decide +kernel
theorem dX5_part_33 : decode cX5_part 33 = .ok (.invokevirtual 230, 3) := by decide +kernel
theorem dX5_part_36 : decode cX5_part 36 = .ok (.lreturn, 1) := by decide +kernel
theorem dX5_tally_0 : decode cX5_tally 0 = .ok (.aload_n 0, 1) := by decide +kernel
theorem dX5_tally_1 : decode cX5_tally 1 = .ok (.getfield 26, 3) := by decide +kernel
theorem dX5_tally_4 : decode cX5_tally 4 = .ok (.getfield 234, 3) := by decide +kernel
theorem dX5_tally_7 : decode cX5_tally 7 = .ok (.astore_n 3, 1) := by decide +kernel
theorem dX5_tally_8 : decode cX5_tally 8 = .ok (.aload_n 3, 1) := by decide +kernel
theorem dX5_tally_9 : decode cX5_tally 9 = .ok (.ifnonnull 9, 3) := by decide +kernel
theorem dX5_tally_12 : decode cX5_tally 12 = .ok (.aload_n 0, 1) := by decide +kernel
theorem dX5_tally_13 : decode cX5_tally 13 = .ok (.iconst 1, 1) := by decide +kernel
theorem dX5_tally_14 : decode cX5_tally 14 = .ok (.invokevirtual 45, 3) := by decide +kernel
theorem dX5_tally_17 : decode cX5_tally 17 = .ok (.ireturn, 1) := by decide +kernel
theorem dX5_tally_18 : decode cX5_tally 18 = .ok (.aload_n 3, 1) := by decide +kernel
theorem dX5_tally_19 : decode cX5_tally 19 = .ok (.iload_n 1, 1) := by decide +kernel
theorem dX5_tally_20 : decode cX5_tally 20 = .ok (.invokevirtual 80, 3) := by decide +kernel
theorem dX5_tally_23 : decode cX5_tally 23 = .ok (.ifCond .ne 9, 3) := by decide +kernel
theorem dX5_tally_26 : decode cX5_tally 26 = .ok (.aload_n 0, 1) := by decide +kernel
theorem dX5_tally_27 : decode cX5_tally 27 = .ok (.iconst 2, 1) := by decide +kernel
theorem dX5_tally_28 : decode cX5_tally 28 = .ok (.invokevirtual 45, 3) := by decide +kernel
theorem dX5_tally_31 : decode cX5_tally 31 = .ok (.ireturn, 1) := by decide +kernel
theorem dX5_tally_32 : decode cX5_tally 32 = .ok (.aload_n 0, 1) := by decide +kernel
theorem dX5_tally_33 : decode cX5_tally 33 = .ok (.getfield 26, 3) := by decide +kernel
theorem dX5_tally_36 : decode cX5_tally 36 = .ok (.aload_n 3, 1) := by decide +kernel
theorem dX5_tally_37 : decode cX5_tally 37 = .ok (.getfield 238, 3) := by decide +kernel
theorem dX5_tally_40 : decode cX5_tally 40 = .ok (.iload_n 1, 1) := by decide +kernel
theorem dX5_tally_41 : decode cX5_tally 41 = .ok (.iconst 0, 1) := by decide +kernel
theorem dX5_tally_42 : decode cX5_tally 42 = .ok (.invokevirtual 240, 3) := by decide +kernel
theorem dX5_tally_45 : decode cX5_tally 45 = .ok (.ifCond .ne 9, 3) := by decide +kernel
theorem dX5_tally_48 : decode cX5_tally 48 = .ok (.aload_n 0, 1) := by decide +kernel
theorem dX5_tally_49 : decode cX5_tally 49 = .ok (.iconst 1, 1) := by decide +kernel
theorem dX5_tally_50 : decode cX5_tally 50 = .ok (.invokevirtual 45, 3) := by decide +kernel
theorem dX5_tally_53 : decode cX5_tally 53 = .ok (.ireturn, 1) := by decide +kernel
theorem dX5_tally_54 : decode cX5_tally 54 = .ok (.iload_n 2, 1) := by decide +kernel
theorem dX5_tally_55 : decode cX5_tally 55 = .ok (.iconst 1, 1) := by decide +kernel
theorem dX5_tally_56 : decode cX5_tally 56 = .ok (.if_icmp .lt 8, 3) := by decide +kernel
theorem dX5_tally_59 : decode cX5_tally 59 = .ok (.iload_n 2, 1) := by decide +kernel
theorem dX5_tally_60 : decode cX5_tally 60 = .ok (.iconst 4, 1) := by decide +kernel
theorem dX5_tally_61 : decode cX5_tally 61 = .ok (.if_icmp .le 9, 3) := by decide +kernel
theorem dX5_tally_64 : decode cX5_tally 64 = .ok (.aload_n 0, 1) := by decide +kernel
theorem dX5_tally_65 : decode cX5_tally 65 = .ok (.iconst 2, 1) := by decide +kernel
theorem dX5_tally_66 : decode cX5_tally 66 = .ok (.invokevirtual 45, 3) := by decide +kernel
theorem dX5_tally_69 : decode cX5_tally 69 = .ok (.ireturn, 1) := by decide +kernel
theorem dX5_tally_70 : decode cX5_tally 70 = .ok (.aload_n 0, 1) := by decide +kernel
theorem dX5_tally_71 : decode cX5_tally 71 = .ok (.getfield 26, 3) := by decide +kernel
theorem dX5_tally_74 : decode cX5_tally 74 = .ok (.aload_n 3, 1) := by decide +kernel
theorem dX5_tally_75 : decode cX5_tally 75 = .ok (.getfield 238, 3) := by decide +kernel
theorem dX5_tally_78 : decode cX5_tally 78 = .ok (.iload_n 1, 1) := by decide +kernel
theorem dX5_tally_79 : decode cX5_tally 79 = .ok (.iload_n 2, 1) := by decide +kernel
theorem dX5_tally_80 : decode cX5_tally 80 = .ok (.invokevirtual 240, 3) := by decide +kernel
theorem dX5_tally_83 : decode cX5_tally 83 = .ok (.ireturn, 1) := by decide +kernel
theorem dX5_steps_0 : decode cX5_steps 0 = .ok (.aload_n 0, 1) := by decide +kernel
theorem dX5_steps_1 : decode cX5_steps 1 = .ok (.getfield 26, 3) := by decide +kernel
theorem dX5_steps_4 : decode cX5_steps 4 = .ok (.getfield 244, 3) := by decide +kernel
theorem dX5_steps_7 : decode cX5_steps 7 = .ok (.ireturn, 1) := by decide +kernel
theorem dX5_step_0 : decode cX5_step 0 = .ok (.iload_n 1, 1) := by decide +kernel
theorem dX5_step_1 : decode cX5_step 1 = .ok (.ifCond .lt 14, 3) := by decide +kernel
theorem dX5_step_4 : decode cX5_step 4 = .ok (.iload_n 1, 1) := by decide +kernel
theorem dX5_step_5 : decode cX5_step 5 = .ok (.aload_n 0, 1) := by decide +kernel
theorem dX5_step_6 : decode cX5_step 6 = .ok (.getfield 26, 3) := by decide +kernel
theorem dX5_step_9 : decode cX5_step 9 = .ok (.getfield 244, 3) := by decide +kernel
theorem dX5_step_12 : decode cX5_step 12 = .ok (.if_icmp .lt 5, 3) := by decide +kernel
theorem dX5_step_15 : decode cX5_step 15 = .ok (.iconst (-1), 1) := by decide +kernel
theorem dX5_step_16 : decode cX5_step 16 = .ok (.ireturn, 1) := by decide +kernel
theorem dX5_step_17 : decode cX5_step 17 = .ok (.iload_n 2, 1) := by decide +kernel
theorem dX5_step_18 : decode cX5_step 18 = .ok (.ifCond .lt 9, 3) := by decide +kernel
theorem dX5_step_21 : decode cX5_step 21 = .ok (.iload_n 2, 1) := by decide +kernel
theorem dX5_step_22 : decode cX5_step 22 = .ok (.bipush 7, 2) := by decide +kernel
theorem dX5_step_24 : decode cX5_step 24 = .ok (.if_icmp .lt 6, 3) := by decide +kernel
theorem dX5_step_27 : decode cX5_step 27 = .ok (.bipush (-2), 2) := by decide +kernel
theorem dX5_step_29 : decode cX5_step 29 = .ok (.ireturn, 1) := by decide +kernel
theorem dX5_step_30 : decode cX5_step 30 = .ok (.aload_n 0, 1) := by decide +kernel
theorem dX5_step_31 : decode cX5_step 31 = .ok (.getfield 26, 3) := by decide +kernel
theorem dX5_step_34 : decode cX5_step 34 = .ok (.iload_n 1, 1) := by decide +kernel
theorem dX5_step_35 : decode cX5_step 35 = .ok (.iload_n 2, 1) := by decide +kernel
theorem dX5_step_36 : decode cX5_step 36 = .ok (.invokevirtual 247, 3) := by decide +kernel
theorem dX5_step_39 : decode cX5_step 39 = .ok (.ireturn, 1) := by decide +kernel
theorem dX5_stuck_0 : decode cX5_stuck 0 = .ok (.iload_n 1, 1) := by decide +kernel
theorem dX5_stuck_1 : decode cX5_stuck 1 = .ok (.tableswitch 51 0 2 #[27, 35, 43], 27) := by decide +kernel
theorem dX5_stuck_28 : decode cX5_stuck 28 = .ok (.aload_n 0, 1) := by decide +kernel
theorem dX5_stuck_29 : decode cX5_stuck 29 = .ok (.getfield 26, 3) := by decide +kernel
theorem dX5_stuck_32 : decode cX5_stuck 32 = .ok (.getfield 250, 3) := by decide +kernel
theorem dX5_stuck_35 : decode cX5_stuck 35 = .ok (.ireturn, 1) := by decide +kernel
theorem dX5_stuck_36 : decode cX5_stuck 36 = .ok (.aload_n 0, 1) := by decide +kernel
theorem dX5_stuck_37 : decode cX5_stuck 37 = .ok (.getfield 26, 3) := by decide +kernel
theorem dX5_stuck_40 : decode cX5_stuck 40 = .ok (.getfield 253, 3) := by decide +kernel
theorem dX5_stuck_43 : decode cX5_stuck 43 = .ok (.ireturn, 1) := by decide +kernel
theorem dX5_stuck_44 : decode cX5_stuck 44 = .ok (.aload_n 0, 1) := by decide +kernel
theorem dX5_stuck_45 : decode cX5_stuck 45 = .ok (.getfield 26, 3) := by decide +kernel
theorem dX5_stuck_48 : decode cX5_stuck 48 = .ok (.getfield 256, 3) := by decide +kernel
theorem dX5_stuck_51 : decode cX5_stuck 51 = .ok (.ireturn, 1) := by decide +kernel
theorem dX5_stuck_52 : decode cX5_stuck 52 = .ok (.bipush (-2), 2) := by decide +kernel
theorem dX5_stuck_54 : decode cX5_stuck 54 = .ok (.ireturn, 1) := by decide +kernel
theorem dX5_undo_0 : decode cX5_undo 0 = .ok (.aload_n 0, 1) := by decide +kernel
theorem dX5_undo_1 : decode cX5_undo 1 = .ok (.getfield 26, 3) := by decide +kernel
theorem dX5_undo_4 : decode cX5_undo 4 = .ok (.getfield 259, 3) := by decide +kernel
theorem dX5_undo_7 : decode cX5_undo 7 = .ok (.ifCond .le 13, 3) := by decide +kernel
theorem dX5_undo_10 : decode cX5_undo 10 = .ok (.aload_n 0, 1) := by decide +kernel
theorem dX5_undo_11 : decode cX5_undo 11 = .ok (.getfield 26, 3) := by decide +kernel
theorem dX5_undo_14 : decode cX5_undo 14 = .ok (.getfield 90, 3) := by decide +kernel
theorem dX5_undo_17 : decode cX5_undo 17 = .ok (.ifCond .eq 6, 3) := by decide +kernel
theorem dX5_undo_20 : decode cX5_undo 20 = .ok (.bipush (-3), 2) := by decide +kernel
theorem dX5_undo_22 : decode cX5_undo 22 = .ok (.ireturn, 1) := by decide +kernel
theorem dX5_undo_23 : decode cX5_undo 23 = .ok (.aload_n 0, 1) := by decide +kernel
theorem dX5_undo_24 : decode cX5_undo 24 = .ok (.getfield 26, 3) := by decide +kernel
theorem dX5_undo_27 : decode cX5_undo 27 = .ok (.dup, 1) := by decide +kernel
theorem dX5_undo_28 : decode cX5_undo 28 = .ok (.getfield 259, 3) := by decide +kernel
theorem dX5_undo_31 : decode cX5_undo 31 = .ok (.iconst 1, 1) := by decide +kernel
theorem dX5_undo_32 : decode cX5_undo 32 = .ok (.isub, 1) := by decide +kernel
theorem dX5_undo_33 : decode cX5_undo 33 = .ok (.putfield 259, 3) := by decide +kernel
theorem dX5_undo_36 : decode cX5_undo 36 = .ok (.aload_n 0, 1) := by decide +kernel
theorem dX5_undo_37 : decode cX5_undo 37 = .ok (.getfield 26, 3) := by decide +kernel
theorem dX5_undo_40 : decode cX5_undo 40 = .ok (.aload_n 0, 1) := by decide +kernel
theorem dX5_undo_41 : decode cX5_undo 41 = .ok (.getfield 26, 3) := by decide +kernel
theorem dX5_undo_44 : decode cX5_undo 44 = .ok (.getfield 259, 3) := by decide +kernel
theorem dX5_undo_47 : decode cX5_undo 47 = .ok (.invokevirtual 262, 3) := by decide +kernel
theorem dX5_undo_50 : decode cX5_undo 50 = .ok (.aload_n 0, 1) := by decide +kernel
theorem dX5_undo_51 : decode cX5_undo 51 = .ok (.getfield 26, 3) := by decide +kernel
theorem dX5_undo_54 : decode cX5_undo 54 = .ok (.getfield 259, 3) := by decide +kernel
theorem dX5_undo_57 : decode cX5_undo 57 = .ok (.ireturn, 1) := by decide +kernel
theorem dX5_pupil_0 : decode cX5_pupil 0 = .ok (.aload_n 0, 1) := by decide +kernel
theorem dX5_pupil_1 : decode cX5_pupil 1 = .ok (.getfield 265, 3) := by decide +kernel
theorem dX5_pupil_4 : decode cX5_pupil 4 = .ok (.sipush 300, 3) := by decide +kernel
theorem dX5_pupil_7 : decode cX5_pupil 7 = .ok (.if_icmp .lt 6, 3) := by decide +kernel
theorem dX5_pupil_10 : decode cX5_pupil 10 = .ok (.bipush (-4), 2) := by decide +kernel
theorem dX5_pupil_12 : decode cX5_pupil 12 = .ok (.ireturn, 1) := by decide +kernel
theorem dX5_pupil_13 : decode cX5_pupil 13 = .ok (.aload_n 0, 1) := by decide +kernel
theorem dX5_pupil_14 : decode cX5_pupil 14 = .ok (.dup, 1) := by decide +kernel
theorem dX5_pupil_15 : decode cX5_pupil 15 = .ok (.getfield 265, 3) := by decide +kernel
theorem dX5_pupil_18 : decode cX5_pupil 18 = .ok (.iconst 1, 1) := by decide +kernel
theorem dX5_pupil_19 : decode cX5_pupil 19 = .ok (.iadd, 1) := by decide +kernel
theorem dX5_pupil_20 : decode cX5_pupil 20 = .ok (.putfield 265, 3) := by decide +kernel
theorem dX5_pupil_23 : decode cX5_pupil 23 = .ok (.aload_n 0, 1) := by decide +kernel
theorem dX5_pupil_24 : decode cX5_pupil 24 = .ok (.aload_n 0, 1) := by decide +kernel
theorem dX5_pupil_25 : decode cX5_pupil 25 = .ok (.getfield 265, 3) := by decide +kernel
theorem dX5_pupil_28 : decode cX5_pupil 28 = .ok (.iconst 1, 1) := by decide +kernel
theorem dX5_pupil_29 : decode cX5_pupil 29 = .ok (.isub, 1) := by decide +kernel
theorem dX5_pupil_30 : decode cX5_pupil 30 = .ok (.iload_n 1, 1) := by decide +kernel
theorem dX5_pupil_31 : decode cX5_pupil 31 = .ok (.iload_n 2, 1) := by decide +kernel
theorem dX5_pupil_32 : decode cX5_pupil 32 = .ok (.iload_n 3, 1) := by decide +kernel
theorem dX5_pupil_33 : decode cX5_pupil 33 = .ok (.iload 4, 2) := by decide +kernel
theorem dX5_pupil_35 : decode cX5_pupil 35 = .ok (.invokevirtual 268, 3) := by decide +kernel
theorem dX5_pupil_38 : decode cX5_pupil 38 = .ok (.aload_n 0, 1) := by decide +kernel
theorem dX5_pupil_39 : decode cX5_pupil 39 = .ok (.getfield 265, 3) := by decide +kernel
theorem dX5_pupil_42 : decode cX5_pupil 42 = .ok (.ireturn, 1) := by decide +kernel
theorem dX5_begin_0 : decode cX5_begin 0 = .ok (.aload_n 0, 1) := by decide +kernel
theorem dX5_begin_1 : decode cX5_begin 1 = .ok (.getfield 265, 3) := by decide +kernel
theorem dX5_begin_4 : decode cX5_begin 4 = .ok (.istore_n 1, 1) := by decide +kernel
theorem dX5_begin_5 : decode cX5_begin 5 = .ok (.aload_n 0, 1) := by decide +kernel
theorem dX5_begin_6 : decode cX5_begin 6 = .ok (.iconst 0, 1) := by decide +kernel
theorem dX5_begin_7 : decode cX5_begin 7 = .ok (.putfield 265, 3) := by decide +kernel
theorem dX5_begin_10 : decode cX5_begin 10 = .ok (.iload_n 1, 1) := by decide +kernel
theorem dX5_begin_11 : decode cX5_begin 11 = .ok (.ireturn, 1) := by decide +kernel
theorem dX5_slip_0 : decode cX5_slip 0 = .ok (.aload_n 0, 1) := by decide +kernel
theorem dX5_slip_1 : decode cX5_slip 1 = .ok (.invokevirtual 272, 3) := by decide +kernel
theorem dX5_slip_4 : decode cX5_slip 4 = .ok (.ireturn, 1) := by decide +kernel
theorem dX5_lapse_0 : decode cX5_lapse 0 = .ok (.aload_n 0, 1) := by decide +kernel
theorem dX5_lapse_1 : decode cX5_lapse 1 = .ok (.aload_n 0, 1) := by decide +kernel
theorem dX5_lapse_2 : decode cX5_lapse 2 = .ok (.invokevirtual 272, 3) := by decide +kernel
theorem dX5_lapse_5 : decode cX5_lapse 5 = .ok (.invokevirtual 275, 3) := by decide +kernel
theorem dX5_lapse_8 : decode cX5_lapse 8 = .ok (.ireturn, 1) := by decide +kernel
theorem dX5_fix_0 : decode cX5_fix 0 = .ok (.aload_n 0, 1) := by decide +kernel
theorem dX5_fix_1 : decode cX5_fix 1 = .ok (.invokevirtual 272, 3) := by decide +kernel
theorem dX5_fix_4 : decode cX5_fix 4 = .ok (.istore_n 1, 1) := by decide +kernel
theorem dX5_fix_5 : decode cX5_fix 5 = .ok (.aload_n 0, 1) := by decide +kernel
theorem dX5_fix_6 : decode cX5_fix 6 = .ok (.iload_n 1, 1) := by decide +kernel
theorem dX5_fix_7 : decode cX5_fix 7 = .ok (.invokevirtual 275, 3) := by decide +kernel
theorem dX5_fix_10 : decode cX5_fix 10 = .ok (.istore_n 2, 1) := by decide +kernel
theorem dX5_fix_11 : decode cX5_fix 11 = .ok (.iload_n 2, 1) := by decide +kernel
theorem dX5_fix_12 : decode cX5_fix 12 = .ok (.ifCond .ne 6, 3) := by decide +kernel
theorem dX5_fix_15 : decode cX5_fix 15 = .ok (.bipush (-3), 2) := by decide +kernel
theorem dX5_fix_17 : decode cX5_fix 17 = .ok (.ireturn, 1) := by decide +kernel
theorem dX5_fix_18 : decode cX5_fix 18 = .ok (.iload_n 2, 1) := by decide +kernel
theorem dX5_fix_19 : decode cX5_fix 19 = .ok (.iconst 4, 1) := by decide +kernel
theorem dX5_fix_20 : decode cX5_fix 20 = .ok (.if_icmp .ne 13, 3) := by decide +kernel
theorem dX5_fix_23 : decode cX5_fix 23 = .ok (.aload_n 0, 1) := by decide +kernel
theorem dX5_fix_24 : decode cX5_fix 24 = .ok (.iload_n 1, 1) := by decide +kernel
theorem dX5_fix_25 : decode cX5_fix 25 = .ok (.putfield 265, 3) := by decide +kernel
theorem dX5_fix_28 : decode cX5_fix 28 = .ok (.aload_n 0, 1) := by decide +kernel
theorem dX5_fix_29 : decode cX5_fix 29 = .ok (.invokevirtual 272, 3) := by decide +kernel
theorem dX5_fix_32 : decode cX5_fix 32 = .ok (.ireturn, 1) := by decide +kernel
theorem dX5_fix_33 : decode cX5_fix 33 = .ok (.iload_n 2, 1) := by decide +kernel
theorem dX5_fix_34 : decode cX5_fix 34 = .ok (.iconst 3, 1) := by decide +kernel
theorem dX5_fix_35 : decode cX5_fix 35 = .ok (.if_icmp .ne 26, 3) := by decide +kernel
theorem dX5_fix_38 : decode cX5_fix 38 = .ok (.aload_n 0, 1) := by decide +kernel
theorem dX5_fix_39 : decode cX5_fix 39 = .ok (.getfield 265, 3) := by decide +kernel
theorem dX5_fix_42 : decode cX5_fix 42 = .ok (.sipush 300, 3) := by decide +kernel
theorem dX5_fix_45 : decode cX5_fix 45 = .ok (.if_icmp .lt 6, 3) := by decide +kernel
theorem dX5_fix_48 : decode cX5_fix 48 = .ok (.bipush (-4), 2) := by decide +kernel
theorem dX5_fix_50 : decode cX5_fix 50 = .ok (.ireturn, 1) := by decide +kernel
theorem dX5_fix_51 : decode cX5_fix 51 = .ok (.aload_n 0, 1) := by decide +kernel
theorem dX5_fix_52 : decode cX5_fix 52 = .ok (.dup, 1) := by decide +kernel
theorem dX5_fix_53 : decode cX5_fix 53 = .ok (.getfield 265, 3) := by decide +kernel
theorem dX5_fix_56 : decode cX5_fix 56 = .ok (.iconst 1, 1) := by decide +kernel
theorem dX5_fix_57 : decode cX5_fix 57 = .ok (.iadd, 1) := by decide +kernel
theorem dX5_fix_58 : decode cX5_fix 58 = .ok (.putfield 265, 3) := by decide +kernel
theorem dX5_fix_61 : decode cX5_fix 61 = .ok (.aload_n 0, 1) := by decide +kernel
theorem dX5_fix_62 : decode cX5_fix 62 = .ok (.iload_n 1, 1) := by decide +kernel
theorem dX5_fix_63 : decode cX5_fix 63 = .ok (.aload_n 0, 1) := by decide +kernel
theorem dX5_fix_64 : decode cX5_fix 64 = .ok (.getfield 26, 3) := by decide +kernel
theorem dX5_fix_67 : decode cX5_fix 67 = .ok (.iload_n 1, 1) := by decide +kernel
theorem dX5_fix_68 : decode cX5_fix 68 = .ok (.iconst 0, 1) := by decide +kernel
theorem dX5_fix_69 : decode cX5_fix 69 = .ok (.invokevirtual 247, 3) := by decide +kernel
theorem dX5_fix_72 : decode cX5_fix 72 = .ok (.aload_n 0, 1) := by decide +kernel
theorem dX5_fix_73 : decode cX5_fix 73 = .ok (.getfield 26, 3) := by decide +kernel
theorem dX5_fix_76 : decode cX5_fix 76 = .ok (.iload_n 1, 1) := by decide +kernel
theorem dX5_fix_77 : decode cX5_fix 77 = .ok (.iconst 1, 1) := by decide +kernel
theorem dX5_fix_78 : decode cX5_fix 78 = .ok (.invokevirtual 247, 3) := by decide +kernel
theorem dX5_fix_81 : decode cX5_fix 81 = .ok (.aload_n 0, 1) := by decide +kernel
theorem dX5_fix_82 : decode cX5_fix 82 = .ok (.getfield 26, 3) := by decide +kernel
theorem dX5_fix_85 : decode cX5_fix 85 = .ok (.iload_n 1, 1) := by decide +kernel
theorem dX5_fix_86 : decode cX5_fix 86 = .ok (.iconst 2, 1) := by decide +kernel
theorem dX5_fix_87 : decode cX5_fix 87 = .ok (.invokevirtual 247, 3) := by decide +kernel
theorem dX5_fix_90 : decode cX5_fix 90 = .ok (.aload_n 0, 1) := by decide +kernel
theorem dX5_fix_91 : decode cX5_fix 91 = .ok (.getfield 26, 3) := by decide +kernel
theorem dX5_fix_94 : decode cX5_fix 94 = .ok (.iload_n 1, 1) := by decide +kernel
theorem dX5_fix_95 : decode cX5_fix 95 = .ok (.iconst 3, 1) := by decide +kernel
theorem dX5_fix_96 : decode cX5_fix 96 = .ok (.invokevirtual 247, 3) := by decide +kernel
theorem dX5_fix_99 : decode cX5_fix 99 = .ok (.invokevirtual 268, 3) := by decide +kernel
theorem dX5_fix_102 : decode cX5_fix 102 = .ok (.aload_n 0, 1) := by decide +kernel
theorem dX5_fix_103 : decode cX5_fix 103 = .ok (.invokevirtual 272, 3) := by decide +kernel
theorem dX5_fix_106 : decode cX5_fix 106 = .ok (.ireturn, 1) := by decide +kernel
theorem dX5_exercise_0 : decode cX5_exercise 0 = .ok (.iload_n 1, 1) := by decide +kernel
theorem dX5_exercise_1 : decode cX5_exercise 1 = .ok (.ifCond .lt 8, 3) := by decide +kernel
theorem dX5_exercise_4 : decode cX5_exercise 4 = .ok (.iload_n 1, 1) := by decide +kernel
theorem dX5_exercise_5 : decode cX5_exercise 5 = .ok (.iconst 2, 1) := by decide +kernel
theorem dX5_exercise_6 : decode cX5_exercise 6 = .ok (.if_icmp .le 6, 3) := by decide +kernel
theorem dX5_exercise_9 : decode cX5_exercise 9 = .ok (.bipush (-2), 2) := by decide +kernel
theorem dX5_exercise_11 : decode cX5_exercise 11 = .ok (.ireturn, 1) := by decide +kernel
theorem dX5_exercise_12 : decode cX5_exercise 12 = .ok (.aload_n 0, 1) := by decide +kernel
theorem dX5_exercise_13 : decode cX5_exercise 13 = .ok (.getfield 278, 3) := by decide +kernel
theorem dX5_exercise_16 : decode cX5_exercise 16 = .ok (.sipush 200, 3) := by decide +kernel
theorem dX5_exercise_19 : decode cX5_exercise 19 = .ok (.if_icmp .lt 6, 3) := by decide +kernel
theorem dX5_exercise_22 : decode cX5_exercise 22 = .ok (.bipush (-4), 2) := by decide +kernel
theorem dX5_exercise_24 : decode cX5_exercise 24 = .ok (.ireturn, 1) := by decide +kernel
theorem dX5_exercise_25 : decode cX5_exercise 25 = .ok (.new 17, 3) := by decide +kernel
theorem dX5_exercise_28 : decode cX5_exercise 28 = .ok (.dup, 1) := by decide +kernel
theorem dX5_exercise_29 : decode cX5_exercise 29 = .ok (.iload_n 1, 1) := by decide +kernel
theorem dX5_exercise_30 : decode cX5_exercise 30 = .ok (.invokespecial 281, 3) := by decide +kernel
theorem dX5_exercise_33 : decode cX5_exercise 33 = .ok (.astore_n 3, 1) := by decide +kernel
theorem dX5_exercise_34 : decode cX5_exercise 34 = .ok (.aload_n 3, 1) := by decide +kernel
theorem dX5_exercise_35 : decode cX5_exercise 35 = .ok (.iload_n 2, 1) := by decide +kernel
theorem dX5_exercise_36 : decode cX5_exercise 36 = .ok (.invokevirtual 283, 3) := by decide +kernel
theorem dX5_exercise_39 : decode cX5_exercise 39 = .ok (.aload_n 3, 1) := by decide +kernel
theorem dX5_exercise_40 : decode cX5_exercise 40 = .ok (.invokevirtual 286, 3) := by decide +kernel
theorem dX5_exercise_43 : decode cX5_exercise 43 = .ok (.aload_n 0, 1) := by decide +kernel
theorem dX5_exercise_44 : decode cX5_exercise 44 = .ok (.getfield 19, 3) := by decide +kernel
theorem dX5_exercise_47 : decode cX5_exercise 47 = .ok (.aload_n 0, 1) := by decide +kernel
theorem dX5_exercise_48 : decode cX5_exercise 48 = .ok (.getfield 278, 3) := by decide +kernel
theorem dX5_exercise_51 : decode cX5_exercise 51 = .ok (.aload_n 3, 1) := by decide +kernel
theorem dX5_exercise_52 : decode cX5_exercise 52 = .ok (.aastore, 1) := by decide +kernel
theorem dX5_exercise_53 : decode cX5_exercise 53 = .ok (.aload_n 0, 1) := by decide +kernel
theorem dX5_exercise_54 : decode cX5_exercise 54 = .ok (.dup, 1) := by decide +kernel
theorem dX5_exercise_55 : decode cX5_exercise 55 = .ok (.getfield 278, 3) := by decide +kernel
theorem dX5_exercise_58 : decode cX5_exercise 58 = .ok (.iconst 1, 1) := by decide +kernel
theorem dX5_exercise_59 : decode cX5_exercise 59 = .ok (.iadd, 1) := by decide +kernel
theorem dX5_exercise_60 : decode cX5_exercise 60 = .ok (.putfield 278, 3) := by decide +kernel
theorem dX5_exercise_63 : decode cX5_exercise 63 = .ok (.aload_n 0, 1) := by decide +kernel
theorem dX5_exercise_64 : decode cX5_exercise 64 = .ok (.getfield 278, 3) := by decide +kernel
theorem dX5_exercise_67 : decode cX5_exercise 67 = .ok (.iconst 1, 1) := by decide +kernel
theorem dX5_exercise_68 : decode cX5_exercise 68 = .ok (.isub, 1) := by decide +kernel
theorem dX5_exercise_69 : decode cX5_exercise 69 = .ok (.ireturn, 1) := by decide +kernel
theorem dX5_place_0 : decode cX5_place 0 = .ok (.aload_n 0, 1) := by decide +kernel
theorem dX5_place_1 : decode cX5_place 1 = .ok (.iload_n 1, 1) := by decide +kernel
theorem dX5_place_2 : decode cX5_place 2 = .ok (.invokevirtual 289, 3) := by decide +kernel
theorem dX5_place_5 : decode cX5_place 5 = .ok (.astore_n 3, 1) := by decide +kernel
theorem dX5_place_6 : decode cX5_place 6 = .ok (.aload_n 3, 1) := by decide +kernel
theorem dX5_place_7 : decode cX5_place 7 = .ok (.ifnonnull 5, 3) := by decide +kernel
theorem dX5_place_10 : decode cX5_place 10 = .ok (.iconst (-1), 1) := by decide +kernel
theorem dX5_place_11 : decode cX5_place 11 = .ok (.ireturn, 1) := by decide +kernel
theorem dX5_place_12 : decode cX5_place 12 = .ok (.iload_n 2, 1) := by decide +kernel
theorem dX5_place_13 : decode cX5_place 13 = .ok (.ifCond .lt 9, 3) := by decide +kernel
theorem dX5_place_16 : decode cX5_place 16 = .ok (.iload_n 2, 1) := by decide +kernel
theorem dX5_place_17 : decode cX5_place 17 = .ok (.bipush 12, 2) := by decide +kernel
theorem dX5_place_19 : decode cX5_place 19 = .ok (.if_icmp .lt 6, 3) := by decide +kernel
theorem dX5_place_22 : decode cX5_place 22 = .ok (.bipush (-2), 2) := by decide +kernel
theorem dX5_place_24 : decode cX5_place 24 = .ok (.ireturn, 1) := by decide +kernel
theorem dX5_place_25 : decode cX5_place 25 = .ok (.aload_n 3, 1) := by decide +kernel
theorem dX5_place_26 : decode cX5_place 26 = .ok (.iload_n 2, 1) := by decide +kernel
theorem dX5_place_27 : decode cX5_place 27 = .ok (.invokevirtual 293, 3) := by decide +kernel
theorem dX5_place_30 : decode cX5_place 30 = .ok (.ifCond .eq 8, 3) := by decide +kernel
theorem dX5_place_33 : decode cX5_place 33 = .ok (.bipush (-5), 2) := by decide +kernel
theorem dX5_place_35 : decode cX5_place 35 = .ok (.goto 9, 3) := by decide +kernel
theorem dX5_place_38 : decode cX5_place 38 = .ok (.aload_n 3, 1) := by decide +kernel
theorem dX5_place_39 : decode cX5_place 39 = .ok (.getfield 296, 3) := by decide +kernel
theorem dX5_place_42 : decode cX5_place 42 = .ok (.iload_n 2, 1) := by decide +kernel
theorem dX5_place_43 : decode cX5_place 43 = .ok (.iaload, 1) := by decide +kernel
theorem dX5_place_44 : decode cX5_place 44 = .ok (.ireturn, 1) := by decide +kernel
theorem dX5_fillings_0 : decode cX5_fillings 0 = .ok (.aload_n 0, 1) := by decide +kernel
theorem dX5_fillings_1 : decode cX5_fillings 1 = .ok (.iload_n 1, 1) := by decide +kernel
theorem dX5_fillings_2 : decode cX5_fillings 2 = .ok (.invokevirtual 289, 3) := by decide +kernel
theorem dX5_fillings_5 : decode cX5_fillings 5 = .ok (.astore_n 2, 1) := by decide +kernel
theorem dX5_fillings_6 : decode cX5_fillings 6 = .ok (.aload_n 2, 1) := by decide +kernel
theorem dX5_fillings_7 : decode cX5_fillings 7 = .ok (.ifnonnull 7, 3) := by decide +kernel
theorem dX5_fillings_10 : decode cX5_fillings 10 = .ok (.iconst (-1), 1) := by decide +kernel
theorem dX5_fillings_11 : decode cX5_fillings 11 = .ok (.goto 7, 3) := by decide +kernel
theorem dX5_fillings_14 : decode cX5_fillings 14 = .ok (.aload_n 2, 1) := by decide +kernel
theorem dX5_fillings_15 : decode cX5_fillings 15 = .ok (.getfield 299, 3) := by decide +kernel
theorem dX5_fillings_18 : decode cX5_fillings 18 = .ok (.ireturn, 1) := by decide +kernel
theorem dX5_answer_0 : decode cX5_answer 0 = .ok (.aload_n 0, 1) := by decide +kernel
theorem dX5_answer_1 : decode cX5_answer 1 = .ok (.iload_n 1, 1) := by decide +kernel
theorem dX5_answer_2 : decode cX5_answer 2 = .ok (.invokevirtual 289, 3) := by decide +kernel
theorem dX5_answer_5 : decode cX5_answer 5 = .ok (.astore_n 3, 1) := by decide +kernel
theorem dX5_answer_6 : decode cX5_answer 6 = .ok (.aload_n 3, 1) := by decide +kernel
theorem dX5_answer_7 : decode cX5_answer 7 = .ok (.ifnonnull 5, 3) := by decide +kernel
theorem dX5_answer_10 : decode cX5_answer 10 = .ok (.iconst (-1), 1) := by decide +kernel
theorem dX5_answer_11 : decode cX5_answer 11 = .ok (.ireturn, 1) := by decide +kernel
theorem dX5_answer_12 : decode cX5_answer 12 = .ok (.iload_n 2, 1) := by decide +kernel
theorem dX5_answer_13 : decode cX5_answer 13 = .ok (.ifCond .lt 9, 3) := by decide +kernel
theorem dX5_answer_16 : decode cX5_answer 16 = .ok (.iload_n 2, 1) := by decide +kernel
theorem dX5_answer_17 : decode cX5_answer 17 = .ok (.bipush 12, 2) := by decide +kernel
theorem dX5_answer_19 : decode cX5_answer 19 = .ok (.if_icmp .lt 8, 3) := by decide +kernel
theorem dX5_answer_22 : decode cX5_answer 22 = .ok (.bipush (-2), 2) := by decide +kernel
theorem dX5_answer_24 : decode cX5_answer 24 = .ok (.goto 9, 3) := by decide +kernel
theorem dX5_answer_27 : decode cX5_answer 27 = .ok (.aload_n 3, 1) := by decide +kernel
theorem dX5_answer_28 : decode cX5_answer 28 = .ok (.getfield 296, 3) := by decide +kernel
theorem dX5_answer_31 : decode cX5_answer 31 = .ok (.iload_n 2, 1) := by decide +kernel
theorem dX5_answer_32 : decode cX5_answer 32 = .ok (.iaload, 1) := by decide +kernel
theorem dX5_answer_33 : decode cX5_answer 33 = .ok (.ireturn, 1) := by decide +kernel
theorem dX5_told_0 : decode cX5_told 0 = .ok (.iload_n 1, 1) := by decide +kernel
theorem dX5_told_1 : decode cX5_told 1 = .ok (.tableswitch 84 0 6 #[43, 48, 53, 61, 69, 74, 79], 43) := by decide +kernel
theorem dX5_told_44 : decode cX5_told 44 = .ok (.aload_n 0, 1) := by decide +kernel
theorem dX5_told_45 : decode cX5_told 45 = .ok (.getfield 41, 3) := by decide +kernel
theorem dX5_told_48 : decode cX5_told 48 = .ok (.ireturn, 1) := by decide +kernel
theorem dX5_told_49 : decode cX5_told 49 = .ok (.aload_n 0, 1) := by decide +kernel
theorem dX5_told_50 : decode cX5_told 50 = .ok (.getfield 278, 3) := by decide +kernel
theorem dX5_told_53 : decode cX5_told 53 = .ok (.ireturn, 1) := by decide +kernel
theorem dX5_told_54 : decode cX5_told 54 = .ok (.aload_n 0, 1) := by decide +kernel
theorem dX5_told_55 : decode cX5_told 55 = .ok (.getfield 26, 3) := by decide +kernel
theorem dX5_told_58 : decode cX5_told 58 = .ok (.getfield 302, 3) := by decide +kernel
theorem dX5_told_61 : decode cX5_told 61 = .ok (.ireturn, 1) := by decide +kernel
theorem dX5_told_62 : decode cX5_told 62 = .ok (.aload_n 0, 1) := by decide +kernel
theorem dX5_told_63 : decode cX5_told 63 = .ok (.getfield 26, 3) := by decide +kernel
theorem dX5_told_66 : decode cX5_told 66 = .ok (.getfield 305, 3) := by decide +kernel
theorem dX5_told_69 : decode cX5_told 69 = .ok (.ireturn, 1) := by decide +kernel
theorem dX5_told_70 : decode cX5_told 70 = .ok (.aload_n 0, 1) := by decide +kernel
theorem dX5_told_71 : decode cX5_told 71 = .ok (.getfield 308, 3) := by decide +kernel
theorem dX5_told_74 : decode cX5_told 74 = .ok (.ireturn, 1) := by decide +kernel
theorem dX5_told_75 : decode cX5_told 75 = .ok (.aload_n 0, 1) := by decide +kernel
theorem dX5_told_76 : decode cX5_told 76 = .ok (.getfield 265, 3) := by decide +kernel
theorem dX5_told_79 : decode cX5_told 79 = .ok (.ireturn, 1) := by decide +kernel
theorem dX5_told_80 : decode cX5_told 80 = .ok (.aload_n 0, 1) := by decide +kernel
theorem dX5_told_81 : decode cX5_told 81 = .ok (.invokevirtual 311, 3) := by decide +kernel
theorem dX5_told_84 : decode cX5_told 84 = .ok (.ireturn, 1) := by decide +kernel
theorem dX5_told_85 : decode cX5_told 85 = .ok (.bipush (-2), 2) := by decide +kernel
theorem dX5_told_87 : decode cX5_told 87 = .ok (.ireturn, 1) := by decide +kernel
theorem dX5_fault_0 : decode cX5_fault 0 = .ok (.aload_n 0, 1) := by decide +kernel
theorem dX5_fault_1 : decode cX5_fault 1 = .ok (.getfield 314, 3) := by decide +kernel
theorem dX5_fault_4 : decode cX5_fault 4 = .ok (.ireturn, 1) := by decide +kernel
theorem dX5_known_0 : decode cX5_known 0 = .ok (.iload_n 1, 1) := by decide +kernel
theorem dX5_known_1 : decode cX5_known 1 = .ok (.ifCond .lt 11, 3) := by decide +kernel
theorem dX5_known_4 : decode cX5_known 4 = .ok (.iload_n 1, 1) := by decide +kernel
theorem dX5_known_5 : decode cX5_known 5 = .ok (.aload_n 0, 1) := by decide +kernel
theorem dX5_known_6 : decode cX5_known 6 = .ok (.getfield 41, 3) := by decide +kernel
theorem dX5_known_9 : decode cX5_known 9 = .ok (.if_icmp .lt 7, 3) := by decide +kernel
theorem dX5_known_12 : decode cX5_known 12 = .ok (.aconst_null, 1) := by decide +kernel
theorem dX5_known_13 : decode cX5_known 13 = .ok (.goto 9, 3) := by decide +kernel
theorem dX5_known_16 : decode cX5_known 16 = .ok (.aload_n 0, 1) := by decide +kernel
theorem dX5_known_17 : decode cX5_known 17 = .ok (.getfield 13, 3) := by decide +kernel
theorem dX5_known_20 : decode cX5_known 20 = .ok (.iload_n 1, 1) := by decide +kernel
theorem dX5_known_21 : decode cX5_known 21 = .ok (.aaload, 1) := by decide +kernel
theorem dX5_known_22 : decode cX5_known 22 = .ok (.areturn, 1) := by decide +kernel
theorem dX5_knownExercise_0 : decode cX5_knownExercise 0 = .ok (.iload_n 1, 1) := by decide +kernel
theorem dX5_knownExercise_1 : decode cX5_knownExercise 1 = .ok (.ifCond .lt 11, 3) := by decide +kernel
theorem dX5_knownExercise_4 : decode cX5_knownExercise 4 = .ok (.iload_n 1, 1) := by decide +kernel
theorem dX5_knownExercise_5 : decode cX5_knownExercise 5 = .ok (.aload_n 0, 1) := by decide +kernel
theorem dX5_knownExercise_6 : decode cX5_knownExercise 6 = .ok (.getfield 278, 3) := by decide +kernel
theorem dX5_knownExercise_9 : decode cX5_knownExercise 9 = .ok (.if_icmp .lt 7, 3) := by decide +kernel
theorem dX5_knownExercise_12 : decode cX5_knownExercise 12 = .ok (.aconst_null, 1) := by decide +kernel
theorem dX5_knownExercise_13 : decode cX5_knownExercise 13 = .ok (.goto 9, 3) := by decide +kernel
theorem dX5_knownExercise_16 : decode cX5_knownExercise 16 = .ok (.aload_n 0, 1) := by decide +kernel
theorem dX5_knownExercise_17 : decode cX5_knownExercise 17 = .ok (.getfield 19, 3) := by decide +kernel
theorem dX5_knownExercise_20 : decode cX5_knownExercise 20 = .ok (.iload_n 1, 1) := by decide +kernel
theorem dX5_knownExercise_21 : decode cX5_knownExercise 21 = .ok (.aaload, 1) := by decide +kernel
theorem dX5_knownExercise_22 : decode cX5_knownExercise 22 = .ok (.areturn, 1) := by decide +kernel
theorem dX5_faulted_0 : decode cX5_faulted 0 = .ok (.aload_n 0, 1) := by decide +kernel
theorem dX5_faulted_1 : decode cX5_faulted 1 = .ok (.iload_n 1, 1) := by decide +kernel
theorem dX5_faulted_2 : decode cX5_faulted 2 = .ok (.putfield 314, 3) := by decide +kernel
theorem dX5_faulted_5 : decode cX5_faulted 5 = .ok (.aload_n 0, 1) := by decide +kernel
theorem dX5_faulted_6 : decode cX5_faulted 6 = .ok (.dup, 1) := by decide +kernel
theorem dX5_faulted_7 : decode cX5_faulted 7 = .ok (.getfield 308, 3) := by decide +kernel
theorem dX5_faulted_10 : decode cX5_faulted 10 = .ok (.iconst 1, 1) := by decide +kernel
theorem dX5_faulted_11 : decode cX5_faulted 11 = .ok (.iadd, 1) := by decide +kernel
theorem dX5_faulted_12 : decode cX5_faulted 12 = .ok (.putfield 308, 3) := by decide +kernel
theorem dX5_faulted_15 : decode cX5_faulted 15 = .ok (.bipush (-10), 2) := by decide +kernel
theorem dX5_faulted_17 : decode cX5_faulted 17 = .ok (.iload_n 1, 1) := by decide +kernel
theorem dX5_faulted_18 : decode cX5_faulted 18 = .ok (.isub, 1) := by decide +kernel
theorem dX5_faulted_19 : decode cX5_faulted 19 = .ok (.ireturn, 1) := by decide +kernel
theorem dX5_lost_0 : decode cX5_lost 0 = .ok (.aload_n 0, 1) := by decide +kernel
theorem dX5_lost_1 : decode cX5_lost 1 = .ok (.iload_n 1, 1) := by decide +kernel
theorem dX5_lost_2 : decode cX5_lost 2 = .ok (.invokevirtual 45, 3) := by decide +kernel
theorem dX5_lost_5 : decode cX5_lost 5 = .ok (.pop, 1) := by decide +kernel
theorem dX5_lost_6 : decode cX5_lost 6 = .ok (.ldc2_w 114, 3) := by decide +kernel
theorem dX5_lost_9 : decode cX5_lost 9 = .ok (.lreturn, 1) := by decide +kernel
theorem dX5_baseOf_0 : decode cX5_baseOf 0 = .ok (.iload_n 0, 1) := by decide +kernel
theorem dX5_baseOf_1 : decode cX5_baseOf 1 = .ok (.iconst 3, 1) := by decide +kernel
theorem dX5_baseOf_2 : decode cX5_baseOf 2 = .ok (.if_icmp .ne 8, 3) := by decide +kernel
theorem dX5_baseOf_5 : decode cX5_baseOf 5 = .ok (.bipush 16, 2) := by decide +kernel
theorem dX5_baseOf_7 : decode cX5_baseOf 7 = .ok (.goto 5, 3) := by decide +kernel
theorem dX5_baseOf_10 : decode cX5_baseOf 10 = .ok (.bipush 10, 2) := by decide +kernel
theorem dX5_baseOf_12 : decode cX5_baseOf 12 = .ok (.ireturn, 1) := by decide +kernel
theorem dX5_mostRods_0 : decode cX5_mostRods 0 = .ok (.iload_n 0, 1) := by decide +kernel
theorem dX5_mostRods_1 : decode cX5_mostRods 1 = .ok (.bipush 16, 2) := by decide +kernel
theorem dX5_mostRods_3 : decode cX5_mostRods 3 = .ok (.if_icmp .ne 8, 3) := by decide +kernel
theorem dX5_mostRods_6 : decode cX5_mostRods 6 = .ok (.bipush 14, 2) := by decide +kernel
theorem dX5_mostRods_8 : decode cX5_mostRods 8 = .ok (.goto 5, 3) := by decide +kernel
theorem dX5_mostRods_11 : decode cX5_mostRods 11 = .ok (.bipush 18, 2) := by decide +kernel
theorem dX5_mostRods_13 : decode cX5_mostRods 13 = .ok (.ireturn, 1) := by decide +kernel
theorem dX5_isA_0 : decode cX5_isA 0 = .ok (.iload_n 0, 1) := by decide +kernel
theorem dX5_isA_1 : decode cX5_isA 1 = .ok (.iload_n 1, 1) := by decide +kernel
theorem dX5_isA_2 : decode cX5_isA 2 = .ok (.if_icmp .eq 26, 3) := by decide +kernel
theorem dX5_isA_5 : decode cX5_isA 5 = .ok (.iload_n 0, 1) := by decide +kernel
theorem dX5_isA_6 : decode cX5_isA 6 = .ok (.iconst 1, 1) := by decide +kernel
theorem dX5_isA_7 : decode cX5_isA 7 = .ok (.if_icmp .ne 7, 3) := by decide +kernel
theorem dX5_isA_10 : decode cX5_isA 10 = .ok (.iload_n 1, 1) := by decide +kernel
theorem dX5_isA_11 : decode cX5_isA 11 = .ok (.ifCond .eq 17, 3) := by decide +kernel
theorem dX5_isA_14 : decode cX5_isA 14 = .ok (.iload_n 0, 1) := by decide +kernel
theorem dX5_isA_15 : decode cX5_isA 15 = .ok (.iconst 3, 1) := by decide +kernel
theorem dX5_isA_16 : decode cX5_isA 16 = .ok (.if_icmp .ne 16, 3) := by decide +kernel
theorem dX5_isA_19 : decode cX5_isA 19 = .ok (.iload_n 1, 1) := by decide +kernel
theorem dX5_isA_20 : decode cX5_isA 20 = .ok (.iconst 1, 1) := by decide +kernel
theorem dX5_isA_21 : decode cX5_isA 21 = .ok (.if_icmp .eq 7, 3) := by decide +kernel
theorem dX5_isA_24 : decode cX5_isA 24 = .ok (.iload_n 1, 1) := by decide +kernel
theorem dX5_isA_25 : decode cX5_isA 25 = .ok (.ifCond .ne 7, 3) := by decide +kernel
theorem dX5_isA_28 : decode cX5_isA 28 = .ok (.iconst 1, 1) := by decide +kernel
theorem dX5_isA_29 : decode cX5_isA 29 = .ok (.goto 4, 3) := by decide +kernel
theorem dX5_isA_32 : decode cX5_isA 32 = .ok (.iconst 0, 1) := by decide +kernel
theorem dX5_isA_33 : decode cX5_isA 33 = .ok (.ireturn, 1) := by decide +kernel
theorem dX5_writeAll_0 : decode cX5_writeAll 0 = .ok (.aload_n 1, 1) := by decide +kernel
theorem dX5_writeAll_1 : decode cX5_writeAll 1 = .ok (.ifnonnull 5, 3) := by decide +kernel
theorem dX5_writeAll_4 : decode cX5_writeAll 4 = .ok (.iconst (-1), 1) := by decide +kernel
theorem dX5_writeAll_5 : decode cX5_writeAll 5 = .ok (.ireturn, 1) := by decide +kernel
theorem dX5_writeAll_6 : decode cX5_writeAll 6 = .ok (.lload_n 2, 1) := by decide +kernel
theorem dX5_writeAll_7 : decode cX5_writeAll 7 = .ok (.lconst 0, 1) := by decide +kernel
theorem dX5_writeAll_8 : decode cX5_writeAll 8 = .ok (.lcmp, 1) := by decide +kernel
theorem dX5_writeAll_9 : decode cX5_writeAll 9 = .ok (.ifCond .ge 6, 3) := by decide +kernel
theorem dX5_writeAll_12 : decode cX5_writeAll 12 = .ok (.bipush (-2), 2) := by decide +kernel
theorem dX5_writeAll_14 : decode cX5_writeAll 14 = .ok (.ireturn, 1) := by decide +kernel
theorem dX5_writeAll_15 : decode cX5_writeAll 15 = .ok (.lload_n 2, 1) := by decide +kernel
theorem dX5_writeAll_16 : decode cX5_writeAll 16 = .ok (.aload_n 1, 1) := by decide +kernel
theorem dX5_writeAll_17 : decode cX5_writeAll 17 = .ok (.getfield 55, 3) := by decide +kernel
theorem dX5_writeAll_20 : decode cX5_writeAll 20 = .ok (.invokestatic 317, 3) := by decide +kernel
theorem dX5_writeAll_23 : decode cX5_writeAll 23 = .ok (.aload_n 1, 1) := by decide +kernel
theorem dX5_writeAll_24 : decode cX5_writeAll 24 = .ok (.getfield 61, 3) := by decide +kernel
theorem dX5_writeAll_27 : decode cX5_writeAll 27 = .ok (.arraylength, 1) := by decide +kernel
theorem dX5_writeAll_28 : decode cX5_writeAll 28 = .ok (.if_icmp .le 6, 3) := by decide +kernel
theorem dX5_writeAll_31 : decode cX5_writeAll 31 = .ok (.bipush (-3), 2) := by decide +kernel
theorem dX5_writeAll_33 : decode cX5_writeAll 33 = .ok (.ireturn, 1) := by decide +kernel
theorem dX5_writeAll_34 : decode cX5_writeAll 34 = .ok (.aload_n 1, 1) := by decide +kernel
theorem dX5_writeAll_35 : decode cX5_writeAll 35 = .ok (.invokevirtual 116, 3) := by decide +kernel
theorem dX5_writeAll_38 : decode cX5_writeAll 38 = .ok (.istore 4, 2) := by decide +kernel
theorem dX5_writeAll_40 : decode cX5_writeAll 40 = .ok (.iload 4, 2) := by decide +kernel
theorem dX5_writeAll_42 : decode cX5_writeAll 42 = .ok (.ifCond .eq 10, 3) := by decide +kernel
theorem dX5_writeAll_45 : decode cX5_writeAll 45 = .ok (.aload_n 0, 1) := by decide +kernel
theorem dX5_writeAll_46 : decode cX5_writeAll 46 = .ok (.iload 4, 2) := by decide +kernel
theorem dX5_writeAll_48 : decode cX5_writeAll 48 = .ok (.invokevirtual 45, 3) := by decide +kernel
theorem dX5_writeAll_51 : decode cX5_writeAll 51 = .ok (.ireturn, 1) := by decide +kernel
theorem dX5_writeAll_52 : decode cX5_writeAll 52 = .ok (.aload_n 1, 1) := by decide +kernel
theorem dX5_writeAll_53 : decode cX5_writeAll 53 = .ok (.lload_n 2, 1) := by decide +kernel
theorem dX5_writeAll_54 : decode cX5_writeAll 54 = .ok (.invokevirtual 321, 3) := by decide +kernel
theorem dX5_writeAll_57 : decode cX5_writeAll 57 = .ok (.aload_n 0, 1) := by decide +kernel
theorem dX5_writeAll_58 : decode cX5_writeAll 58 = .ok (.getfield 26, 3) := by decide +kernel
theorem dX5_writeAll_61 : decode cX5_writeAll 61 = .ok (.iconst 1, 1) := by decide +kernel
theorem dX5_writeAll_62 : decode cX5_writeAll 62 = .ok (.putfield 90, 3) := by decide +kernel
theorem dX5_writeAll_65 : decode cX5_writeAll 65 = .ok (.iconst 1, 1) := by decide +kernel
theorem dX5_writeAll_66 : decode cX5_writeAll 66 = .ok (.ireturn, 1) := by decide +kernel
theorem dX5_copyWithin_0 : decode cX5_copyWithin 0 = .ok (.iconst 0, 1) := by decide +kernel
theorem dX5_copyWithin_1 : decode cX5_copyWithin 1 = .ok (.istore 4, 2) := by decide +kernel
theorem dX5_copyWithin_3 : decode cX5_copyWithin 3 = .ok (.iload 4, 2) := by decide +kernel
theorem dX5_copyWithin_5 : decode cX5_copyWithin 5 = .ok (.iload_n 3, 1) := by decide +kernel
theorem dX5_copyWithin_6 : decode cX5_copyWithin 6 = .ok (.if_icmp .ge 48, 3) := by decide +kernel
theorem dX5_copyWithin_9 : decode cX5_copyWithin 9 = .ok (.iload_n 2, 1) := by decide +kernel
theorem dX5_copyWithin_10 : decode cX5_copyWithin 10 = .ok (.iload_n 1, 1) := by decide +kernel
theorem dX5_copyWithin_11 : decode cX5_copyWithin 11 = .ok (.if_icmp .gt 8, 3) := by decide +kernel
theorem dX5_copyWithin_14 : decode cX5_copyWithin 14 = .ok (.iload 4, 2) := by decide +kernel
theorem dX5_copyWithin_16 : decode cX5_copyWithin 16 = .ok (.goto 9, 3) := by decide +kernel
theorem dX5_copyWithin_19 : decode cX5_copyWithin 19 = .ok (.iload_n 3, 1) := by decide +kernel
theorem dX5_copyWithin_20 : decode cX5_copyWithin 20 = .ok (.iconst 1, 1) := by decide +kernel
theorem dX5_copyWithin_21 : decode cX5_copyWithin 21 = .ok (.isub, 1) := by decide +kernel
theorem dX5_copyWithin_22 : decode cX5_copyWithin 22 = .ok (.iload 4, 2) := by decide +kernel
theorem dX5_copyWithin_24 : decode cX5_copyWithin 24 = .ok (.isub, 1) := by decide +kernel
theorem dX5_copyWithin_25 : decode cX5_copyWithin 25 = .ok (.istore 5, 2) := by decide +kernel
theorem dX5_copyWithin_27 : decode cX5_copyWithin 27 = .ok (.aload_n 0, 1) := by decide +kernel
theorem dX5_copyWithin_28 : decode cX5_copyWithin 28 = .ok (.getfield 61, 3) := by decide +kernel
theorem dX5_copyWithin_31 : decode cX5_copyWithin 31 = .ok (.iload_n 2, 1) := by decide +kernel
theorem dX5_copyWithin_32 : decode cX5_copyWithin 32 = .ok (.iload 5, 2) := by decide +kernel
theorem dX5_copyWithin_34 : decode cX5_copyWithin 34 = .ok (.iadd, 1) := by decide +kernel
theorem dX5_copyWithin_35 : decode cX5_copyWithin 35 = .ok (.aaload, 1) := by decide +kernel
theorem dX5_copyWithin_36 : decode cX5_copyWithin 36 = .ok (.aload_n 0, 1) := by decide +kernel
theorem dX5_copyWithin_37 : decode cX5_copyWithin 37 = .ok (.getfield 61, 3) := by decide +kernel
theorem dX5_copyWithin_40 : decode cX5_copyWithin 40 = .ok (.iload_n 1, 1) := by decide +kernel
theorem dX5_copyWithin_41 : decode cX5_copyWithin 41 = .ok (.iload 5, 2) := by decide +kernel
theorem dX5_copyWithin_43 : decode cX5_copyWithin 43 = .ok (.iadd, 1) := by decide +kernel
theorem dX5_copyWithin_44 : decode cX5_copyWithin 44 = .ok (.aaload, 1) := by decide +kernel
theorem dX5_copyWithin_45 : decode cX5_copyWithin 45 = .ok (.invokevirtual 325, 3) := by decide +kernel
theorem dX5_copyWithin_48 : decode cX5_copyWithin 48 = .ok (.iinc 4 1, 3) := by decide +kernel
theorem dX5_copyWithin_51 : decode cX5_copyWithin 51 = .ok (.goto (-48), 3) := by decide +kernel
theorem dX5_copyWithin_54 : decode cX5_copyWithin 54 = .ok (.iload_n 3, 1) := by decide +kernel
theorem dX5_copyWithin_55 : decode cX5_copyWithin 55 = .ok (.ireturn, 1) := by decide +kernel
theorem dX5_copyAcross_0 : decode cX5_copyAcross 0 = .ok (.iconst 0, 1) := by decide +kernel
theorem dX5_copyAcross_1 : decode cX5_copyAcross 1 = .ok (.istore 5, 2) := by decide +kernel
theorem dX5_copyAcross_3 : decode cX5_copyAcross 3 = .ok (.iload 5, 2) := by decide +kernel
theorem dX5_copyAcross_5 : decode cX5_copyAcross 5 = .ok (.iload 4, 2) := by decide +kernel
theorem dX5_copyAcross_7 : decode cX5_copyAcross 7 = .ok (.if_icmp .ge 55, 3) := by decide +kernel
theorem dX5_copyAcross_10 : decode cX5_copyAcross 10 = .ok (.aload_n 0, 1) := by decide +kernel
theorem dX5_copyAcross_11 : decode cX5_copyAcross 11 = .ok (.iload_n 1, 1) := by decide +kernel
theorem dX5_copyAcross_12 : decode cX5_copyAcross 12 = .ok (.iload 5, 2) := by decide +kernel
theorem dX5_copyAcross_14 : decode cX5_copyAcross 14 = .ok (.iadd, 1) := by decide +kernel
theorem dX5_copyAcross_15 : decode cX5_copyAcross 15 = .ok (.invokevirtual 80, 3) := by decide +kernel
theorem dX5_copyAcross_18 : decode cX5_copyAcross 18 = .ok (.ifCond .eq 14, 3) := by decide +kernel
theorem dX5_copyAcross_21 : decode cX5_copyAcross 21 = .ok (.aload_n 2, 1) := by decide +kernel
theorem dX5_copyAcross_22 : decode cX5_copyAcross 22 = .ok (.iload_n 3, 1) := by decide +kernel
theorem dX5_copyAcross_23 : decode cX5_copyAcross 23 = .ok (.iload 5, 2) := by decide +kernel
theorem dX5_copyAcross_25 : decode cX5_copyAcross 25 = .ok (.iadd, 1) := by decide +kernel
theorem dX5_copyAcross_26 : decode cX5_copyAcross 26 = .ok (.invokevirtual 80, 3) := by decide +kernel
theorem dX5_copyAcross_29 : decode cX5_copyAcross 29 = .ok (.ifCond .ne 6, 3) := by decide +kernel
theorem dX5_copyAcross_32 : decode cX5_copyAcross 32 = .ok (.iload 5, 2) := by decide +kernel
theorem dX5_copyAcross_34 : decode cX5_copyAcross 34 = .ok (.ireturn, 1) := by decide +kernel
theorem dX5_copyAcross_35 : decode cX5_copyAcross 35 = .ok (.aload_n 2, 1) := by decide +kernel
theorem dX5_copyAcross_36 : decode cX5_copyAcross 36 = .ok (.getfield 61, 3) := by decide +kernel
theorem dX5_copyAcross_39 : decode cX5_copyAcross 39 = .ok (.iload_n 3, 1) := by decide +kernel
theorem dX5_copyAcross_40 : decode cX5_copyAcross 40 = .ok (.iload 5, 2) := by decide +kernel
theorem dX5_copyAcross_42 : decode cX5_copyAcross 42 = .ok (.iadd, 1) := by decide +kernel
theorem dX5_copyAcross_43 : decode cX5_copyAcross 43 = .ok (.aaload, 1) := by decide +kernel
theorem dX5_copyAcross_44 : decode cX5_copyAcross 44 = .ok (.aload_n 0, 1) := by decide +kernel
theorem dX5_copyAcross_45 : decode cX5_copyAcross 45 = .ok (.getfield 61, 3) := by decide +kernel
theorem dX5_copyAcross_48 : decode cX5_copyAcross 48 = .ok (.iload_n 1, 1) := by decide +kernel
theorem dX5_copyAcross_49 : decode cX5_copyAcross 49 = .ok (.iload 5, 2) := by decide +kernel
theorem dX5_copyAcross_51 : decode cX5_copyAcross 51 = .ok (.iadd, 1) := by decide +kernel
theorem dX5_copyAcross_52 : decode cX5_copyAcross 52 = .ok (.aaload, 1) := by decide +kernel
theorem dX5_copyAcross_53 : decode cX5_copyAcross 53 = .ok (.invokevirtual 325, 3) := by decide +kernel
theorem dX5_copyAcross_56 : decode cX5_copyAcross 56 = .ok (.iinc 5 1, 3) := by decide +kernel
theorem dX5_copyAcross_59 : decode cX5_copyAcross 59 = .ok (.goto (-56), 3) := by decide +kernel
theorem dX5_copyAcross_62 : decode cX5_copyAcross 62 = .ok (.iload 4, 2) := by decide +kernel
theorem dX5_copyAcross_64 : decode cX5_copyAcross 64 = .ok (.iconst 0, 1) := by decide +kernel
theorem dX5_copyAcross_65 : decode cX5_copyAcross 65 = .ok (.invokestatic 68, 3) := by decide +kernel
theorem dX5_copyAcross_68 : decode cX5_copyAcross 68 = .ok (.ireturn, 1) := by decide +kernel
theorem dX5_refusalOf_0 : decode cX5_refusalOf 0 = .ok (.lload_n 1, 1) := by decide +kernel
theorem dX5_refusalOf_1 : decode cX5_refusalOf 1 = .ok (.lconst 0, 1) := by decide +kernel
theorem dX5_refusalOf_2 : decode cX5_refusalOf 2 = .ok (.lcmp, 1) := by decide +kernel
theorem dX5_refusalOf_3 : decode cX5_refusalOf 3 = .ok (.ifCond .ge 6, 3) := by decide +kernel
theorem dX5_refusalOf_6 : decode cX5_refusalOf 6 = .ok (.bipush (-2), 2) := by decide +kernel
theorem dX5_refusalOf_8 : decode cX5_refusalOf 8 = .ok (.ireturn, 1) := by decide +kernel
theorem dX5_refusalOf_9 : decode cX5_refusalOf 9 = .ok (.aload_n 0, 1) := by decide +kernel
theorem dX5_refusalOf_10 : decode cX5_refusalOf 10 = .ok (.invokevirtual 131, 3) := by decide +kernel
theorem dX5_refusalOf_13 : decode cX5_refusalOf 13 = .ok (.ifCond .eq 7, 3) := by decide +kernel
theorem dX5_refusalOf_16 : decode cX5_refusalOf 16 = .ok (.iconst 0, 1) := by decide +kernel
theorem dX5_refusalOf_17 : decode cX5_refusalOf 17 = .ok (.goto 5, 3) := by decide +kernel
theorem dX5_refusalOf_20 : decode cX5_refusalOf 20 = .ok (.bipush (-3), 2) := by decide +kernel
theorem dX5_refusalOf_22 : decode cX5_refusalOf 22 = .ok (.ireturn, 1) := by decide +kernel
theorem dX5_refusalOfTwo_0 : decode cX5_refusalOfTwo 0 = .ok (.lload_n 2, 1) := by decide +kernel
theorem dX5_refusalOfTwo_1 : decode cX5_refusalOfTwo 1 = .ok (.lconst 0, 1) := by decide +kernel
theorem dX5_refusalOfTwo_2 : decode cX5_refusalOfTwo 2 = .ok (.lcmp, 1) := by decide +kernel
theorem dX5_refusalOfTwo_3 : decode cX5_refusalOfTwo 3 = .ok (.ifCond .ge 6, 3) := by decide +kernel
theorem dX5_refusalOfTwo_6 : decode cX5_refusalOfTwo 6 = .ok (.bipush (-2), 2) := by decide +kernel
theorem dX5_refusalOfTwo_8 : decode cX5_refusalOfTwo 8 = .ok (.ireturn, 1) := by decide +kernel
theorem dX5_refusalOfTwo_9 : decode cX5_refusalOfTwo 9 = .ok (.aload_n 0, 1) := by decide +kernel
theorem dX5_refusalOfTwo_10 : decode cX5_refusalOfTwo 10 = .ok (.invokevirtual 131, 3) := by decide +kernel
theorem dX5_refusalOfTwo_13 : decode cX5_refusalOfTwo 13 = .ok (.ifCond .eq 38, 3) := by decide +kernel
theorem dX5_refusalOfTwo_16 : decode cX5_refusalOfTwo 16 = .ok (.aload_n 1, 1) := by decide +kernel
theorem dX5_refusalOfTwo_17 : decode cX5_refusalOfTwo 17 = .ok (.invokevirtual 131, 3) := by decide +kernel
theorem dX5_refusalOfTwo_20 : decode cX5_refusalOfTwo 20 = .ok (.ifCond .eq 31, 3) := by decide +kernel
theorem dX5_refusalOfTwo_23 : decode cX5_refusalOfTwo 23 = .ok (.aload_n 0, 1) := by decide +kernel
theorem dX5_refusalOfTwo_24 : decode cX5_refusalOfTwo 24 = .ok (.getfield 58, 3) := by decide +kernel
theorem dX5_refusalOfTwo_27 : decode cX5_refusalOfTwo 27 = .ok (.aload_n 1, 1) := by decide +kernel
theorem dX5_refusalOfTwo_28 : decode cX5_refusalOfTwo 28 = .ok (.getfield 58, 3) := by decide +kernel
theorem dX5_refusalOfTwo_31 : decode cX5_refusalOfTwo 31 = .ok (.iand, 1) := by decide +kernel
theorem dX5_refusalOfTwo_32 : decode cX5_refusalOfTwo 32 = .ok (.ifCond .ne 19, 3) := by decide +kernel
theorem dX5_refusalOfTwo_35 : decode cX5_refusalOfTwo 35 = .ok (.iload 4, 2) := by decide +kernel
theorem dX5_refusalOfTwo_37 : decode cX5_refusalOfTwo 37 = .ok (.ifCond .eq 18, 3) := by decide +kernel
theorem dX5_refusalOfTwo_40 : decode cX5_refusalOfTwo 40 = .ok (.aload_n 0, 1) := by decide +kernel
theorem dX5_refusalOfTwo_41 : decode cX5_refusalOfTwo 41 = .ok (.getfield 55, 3) := by decide +kernel
theorem dX5_refusalOfTwo_44 : decode cX5_refusalOfTwo 44 = .ok (.aload_n 1, 1) := by decide +kernel
theorem dX5_refusalOfTwo_45 : decode cX5_refusalOfTwo 45 = .ok (.getfield 55, 3) := by decide +kernel
theorem dX5_refusalOfTwo_48 : decode cX5_refusalOfTwo 48 = .ok (.if_icmp .eq 7, 3) := by decide +kernel
theorem dX5_refusalOfTwo_51 : decode cX5_refusalOfTwo 51 = .ok (.iconst 1, 1) := by decide +kernel
theorem dX5_refusalOfTwo_52 : decode cX5_refusalOfTwo 52 = .ok (.goto 4, 3) := by decide +kernel
theorem dX5_refusalOfTwo_55 : decode cX5_refusalOfTwo 55 = .ok (.iconst 0, 1) := by decide +kernel
theorem dX5_refusalOfTwo_56 : decode cX5_refusalOfTwo 56 = .ok (.istore 5, 2) := by decide +kernel
theorem dX5_refusalOfTwo_58 : decode cX5_refusalOfTwo 58 = .ok (.iload 5, 2) := by decide +kernel
theorem dX5_refusalOfTwo_60 : decode cX5_refusalOfTwo 60 = .ok (.ifCond .eq 8, 3) := by decide +kernel
theorem dX5_refusalOfTwo_63 : decode cX5_refusalOfTwo 63 = .ok (.bipush (-3), 2) := by decide +kernel
theorem dX5_refusalOfTwo_65 : decode cX5_refusalOfTwo 65 = .ok (.goto 4, 3) := by decide +kernel
theorem dX5_refusalOfTwo_68 : decode cX5_refusalOfTwo 68 = .ok (.iconst 0, 1) := by decide +kernel
theorem dX5_refusalOfTwo_69 : decode cX5_refusalOfTwo 69 = .ok (.ireturn, 1) := by decide +kernel
theorem dX5_opened_0 : decode cX5_opened 0 = .ok (.iload_n 3, 1) := by decide +kernel
theorem dX5_opened_1 : decode cX5_opened 1 = .ok (.ifCond .eq 5, 3) := by decide +kernel
theorem dX5_opened_4 : decode cX5_opened 4 = .ok (.iload_n 3, 1) := by decide +kernel
theorem dX5_opened_5 : decode cX5_opened 5 = .ok (.ireturn, 1) := by decide +kernel
theorem dX5_opened_6 : decode cX5_opened 6 = .ok (.aload_n 1, 1) := by decide +kernel
theorem dX5_opened_7 : decode cX5_opened 7 = .ok (.invokevirtual 116, 3) := by decide +kernel
theorem dX5_opened_10 : decode cX5_opened 10 = .ok (.istore 5, 2) := by decide +kernel
theorem dX5_opened_12 : decode cX5_opened 12 = .ok (.iload 5, 2) := by decide +kernel
theorem dX5_opened_14 : decode cX5_opened 14 = .ok (.ifCond .ne 11, 3) := by decide +kernel
theorem dX5_opened_17 : decode cX5_opened 17 = .ok (.iload 4, 2) := by decide +kernel
theorem dX5_opened_19 : decode cX5_opened 19 = .ok (.ifCond .eq 6, 3) := by decide +kernel
theorem dX5_opened_22 : decode cX5_opened 22 = .ok (.iconst 5, 1) := by decide +kernel
theorem dX5_opened_23 : decode cX5_opened 23 = .ok (.istore 5, 2) := by decide +kernel
theorem dX5_opened_25 : decode cX5_opened 25 = .ok (.iload 5, 2) := by decide +kernel
theorem dX5_opened_27 : decode cX5_opened 27 = .ok (.ifCond .eq 10, 3) := by decide +kernel
theorem dX5_opened_30 : decode cX5_opened 30 = .ok (.aload_n 0, 1) := by decide +kernel
theorem dX5_opened_31 : decode cX5_opened 31 = .ok (.iload 5, 2) := by decide +kernel
theorem dX5_opened_33 : decode cX5_opened 33 = .ok (.invokevirtual 45, 3) := by decide +kernel
theorem dX5_opened_36 : decode cX5_opened 36 = .ok (.ireturn, 1) := by decide +kernel
theorem dX5_opened_37 : decode cX5_opened 37 = .ok (.aload_n 0, 1) := by decide +kernel
theorem dX5_opened_38 : decode cX5_opened 38 = .ok (.getfield 26, 3) := by decide +kernel
theorem dX5_opened_41 : decode cX5_opened 41 = .ok (.aload_n 1, 1) := by decide +kernel
theorem dX5_opened_42 : decode cX5_opened 42 = .ok (.aload_n 2, 1) := by decide +kernel
theorem dX5_opened_43 : decode cX5_opened 43 = .ok (.invokevirtual 329, 3) := by decide +kernel
theorem dX5_opened_46 : decode cX5_opened 46 = .ok (.iconst 0, 1) := by decide +kernel
theorem dX5_opened_47 : decode cX5_opened 47 = .ok (.ireturn, 1) := by decide +kernel
theorem dX5_sumUp_0 : decode cX5_sumUp 0 = .ok (.aload_n 1, 1) := by decide +kernel
theorem dX5_sumUp_1 : decode cX5_sumUp 1 = .ok (.ifnonnull 5, 3) := by decide +kernel
theorem dX5_sumUp_4 : decode cX5_sumUp 4 = .ok (.iconst (-1), 1) := by decide +kernel
theorem dX5_sumUp_5 : decode cX5_sumUp 5 = .ok (.ireturn, 1) := by decide +kernel
theorem dX5_sumUp_6 : decode cX5_sumUp 6 = .ok (.aload_n 1, 1) := by decide +kernel
theorem dX5_sumUp_7 : decode cX5_sumUp 7 = .ok (.lload_n 2, 1) := by decide +kernel
theorem dX5_sumUp_8 : decode cX5_sumUp 8 = .ok (.invokestatic 190, 3) := by decide +kernel
theorem dX5_sumUp_11 : decode cX5_sumUp 11 = .ok (.istore 5, 2) := by decide +kernel
theorem dX5_sumUp_13 : decode cX5_sumUp 13 = .ok (.iload 5, 2) := by decide +kernel
theorem dX5_sumUp_15 : decode cX5_sumUp 15 = .ok (.ifCond .eq 6, 3) := by decide +kernel
theorem dX5_sumUp_18 : decode cX5_sumUp 18 = .ok (.iload 5, 2) := by decide +kernel
