theorem d_Mo_wordOf_0 : decode prog_13_method_14_code 0 = .ok (.aload_n 0, 1) := by decide +kernel
theorem d_Mo_wordOf_1 : decode prog_13_method_14_code 1 = .ok (.iload_n 1, 1) := by decide +kernel
theorem d_Mo_wordOf_2 : decode prog_13_method_14_code 2 = .ok (.iload_n 2, 1) := by decide +kernel
theorem d_Mo_wordOf_3 : decode prog_13_method_14_code 3 = .ok (.invokevirtual 99, 3) := by decide +kernel
theorem d_Mo_wordOf_6 : decode prog_13_method_14_code 6 = .ok (.istore_n 3, 1) := by decide +kernel
theorem d_Mo_wordOf_7 : decode prog_13_method_14_code 7 = .ok (.iconst 0, 1) := by decide +kernel
theorem d_Mo_wordOf_8 : decode prog_13_method_14_code 8 = .ok (.istore 4, 2) := by decide +kernel
theorem d_Mo_wordOf_10 : decode prog_13_method_14_code 10 = .ok (.iconst 0, 1) := by decide +kernel
theorem d_Mo_wordOf_11 : decode prog_13_method_14_code 11 = .ok (.istore 5, 2) := by decide +kernel
theorem d_Mo_wordOf_13 : decode prog_13_method_14_code 13 = .ok (.iload 5, 2) := by decide +kernel
theorem d_Mo_wordOf_15 : decode prog_13_method_14_code 15 = .ok (.aload_n 0, 1) := by decide +kernel
theorem d_Mo_wordOf_16 : decode prog_13_method_14_code 16 = .ok (.getfield 7, 3) := by decide +kernel
theorem d_Mo_wordOf_19 : decode prog_13_method_14_code 19 = .ok (.iload_n 1, 1) := by decide +kernel
theorem d_Mo_wordOf_20 : decode prog_13_method_14_code 20 = .ok (.iaload, 1) := by decide +kernel
theorem d_Mo_wordOf_21 : decode prog_13_method_14_code 21 = .ok (.if_icmp .ge 51, 3) := by decide +kernel
theorem d_Mo_wordOf_24 : decode prog_13_method_14_code 24 = .ok (.aload_n 0, 1) := by decide +kernel
theorem d_Mo_wordOf_25 : decode prog_13_method_14_code 25 = .ok (.iload_n 1, 1) := by decide +kernel
theorem d_Mo_wordOf_26 : decode prog_13_method_14_code 26 = .ok (.iload 5, 2) := by decide +kernel
theorem d_Mo_wordOf_28 : decode prog_13_method_14_code 28 = .ok (.invokevirtual 99, 3) := by decide +kernel
theorem d_Mo_wordOf_31 : decode prog_13_method_14_code 31 = .ok (.istore 6, 2) := by decide +kernel
theorem d_Mo_wordOf_33 : decode prog_13_method_14_code 33 = .ok (.iload 6, 2) := by decide +kernel
theorem d_Mo_wordOf_35 : decode prog_13_method_14_code 35 = .ok (.ifCond .le 31, 3) := by decide +kernel
theorem d_Mo_wordOf_38 : decode prog_13_method_14_code 38 = .ok (.iload 6, 2) := by decide +kernel
theorem d_Mo_wordOf_40 : decode prog_13_method_14_code 40 = .ok (.iload_n 3, 1) := by decide +kernel
theorem d_Mo_wordOf_41 : decode prog_13_method_14_code 41 = .ok (.if_icmp .lt 15, 3) := by decide +kernel
theorem d_Mo_wordOf_44 : decode prog_13_method_14_code 44 = .ok (.iload 6, 2) := by decide +kernel
theorem d_Mo_wordOf_46 : decode prog_13_method_14_code 46 = .ok (.iload_n 3, 1) := by decide +kernel
theorem d_Mo_wordOf_47 : decode prog_13_method_14_code 47 = .ok (.if_icmp .ne 19, 3) := by decide +kernel
theorem d_Mo_wordOf_50 : decode prog_13_method_14_code 50 = .ok (.iload 5, 2) := by decide +kernel
theorem d_Mo_wordOf_52 : decode prog_13_method_14_code 52 = .ok (.iload_n 2, 1) := by decide +kernel
theorem d_Mo_wordOf_53 : decode prog_13_method_14_code 53 = .ok (.if_icmp .ge 13, 3) := by decide +kernel
theorem d_Mo_wordOf_56 : decode prog_13_method_14_code 56 = .ok (.iload 4, 2) := by decide +kernel
theorem d_Mo_wordOf_58 : decode prog_13_method_14_code 58 = .ok (.ldc 103, 2) := by decide +kernel
theorem d_Mo_wordOf_60 : decode prog_13_method_14_code 60 = .ok (.iload 6, 2) := by decide +kernel
theorem d_Mo_wordOf_62 : decode prog_13_method_14_code 62 = .ok (.ishr, 1) := by decide +kernel
theorem d_Mo_wordOf_63 : decode prog_13_method_14_code 63 = .ok (.iadd, 1) := by decide +kernel
theorem d_Mo_wordOf_64 : decode prog_13_method_14_code 64 = .ok (.istore 4, 2) := by decide +kernel
theorem d_Mo_wordOf_66 : decode prog_13_method_14_code 66 = .ok (.iinc 5 1, 3) := by decide +kernel
theorem d_Mo_wordOf_69 : decode prog_13_method_14_code 69 = .ok (.goto (-56), 3) := by decide +kernel
theorem d_Mo_wordOf_72 : decode prog_13_method_14_code 72 = .ok (.iload 4, 2) := by decide +kernel
theorem d_Mo_wordOf_74 : decode prog_13_method_14_code 74 = .ok (.bipush 15, 2) := by decide +kernel
theorem d_Mo_wordOf_76 : decode prog_13_method_14_code 76 = .ok (.iload_n 3, 1) := by decide +kernel
theorem d_Mo_wordOf_77 : decode prog_13_method_14_code 77 = .ok (.isub, 1) := by decide +kernel
theorem d_Mo_wordOf_78 : decode prog_13_method_14_code 78 = .ok (.ishr, 1) := by decide +kernel
theorem d_Mo_wordOf_79 : decode prog_13_method_14_code 79 = .ok (.ireturn, 1) := by decide +kernel
theorem d_Mo_turn_0 : decode prog_13_method_15_code 0 = .ok (.iconst 0, 1) := by decide +kernel
theorem d_Mo_turn_1 : decode prog_13_method_15_code 1 = .ok (.istore_n 2, 1) := by decide +kernel
theorem d_Mo_turn_2 : decode prog_13_method_15_code 2 = .ok (.iconst 0, 1) := by decide +kernel
theorem d_Mo_turn_3 : decode prog_13_method_15_code 3 = .ok (.istore_n 3, 1) := by decide +kernel
theorem d_Mo_turn_4 : decode prog_13_method_15_code 4 = .ok (.iload_n 3, 1) := by decide +kernel
theorem d_Mo_turn_5 : decode prog_13_method_15_code 5 = .ok (.iload_n 1, 1) := by decide +kernel
theorem d_Mo_turn_6 : decode prog_13_method_15_code 6 = .ok (.if_icmp .ge 19, 3) := by decide +kernel
theorem d_Mo_turn_9 : decode prog_13_method_15_code 9 = .ok (.iconst 2, 1) := by decide +kernel
theorem d_Mo_turn_10 : decode prog_13_method_15_code 10 = .ok (.iload_n 2, 1) := by decide +kernel
theorem d_Mo_turn_11 : decode prog_13_method_15_code 11 = .ok (.imul, 1) := by decide +kernel
theorem d_Mo_turn_12 : decode prog_13_method_15_code 12 = .ok (.iload_n 0, 1) := by decide +kernel
theorem d_Mo_turn_13 : decode prog_13_method_15_code 13 = .ok (.iload_n 3, 1) := by decide +kernel
theorem d_Mo_turn_14 : decode prog_13_method_15_code 14 = .ok (.ishr, 1) := by decide +kernel
theorem d_Mo_turn_15 : decode prog_13_method_15_code 15 = .ok (.iconst 1, 1) := by decide +kernel
theorem d_Mo_turn_16 : decode prog_13_method_15_code 16 = .ok (.iand, 1) := by decide +kernel
theorem d_Mo_turn_17 : decode prog_13_method_15_code 17 = .ok (.iadd, 1) := by decide +kernel
theorem d_Mo_turn_18 : decode prog_13_method_15_code 18 = .ok (.istore_n 2, 1) := by decide +kernel
theorem d_Mo_turn_19 : decode prog_13_method_15_code 19 = .ok (.iinc 3 1, 3) := by decide +kernel
theorem d_Mo_turn_22 : decode prog_13_method_15_code 22 = .ok (.goto (-18), 3) := by decide +kernel
theorem d_Mo_turn_25 : decode prog_13_method_15_code 25 = .ok (.iload_n 2, 1) := by decide +kernel
theorem d_Mo_turn_26 : decode prog_13_method_15_code 26 = .ok (.ireturn, 1) := by decide +kernel
theorem d_Mo_word_0 : decode prog_13_method_16_code 0 = .ok (.aload_n 0, 1) := by decide +kernel
theorem d_Mo_word_1 : decode prog_13_method_16_code 1 = .ok (.iload_n 1, 1) := by decide +kernel
theorem d_Mo_word_2 : decode prog_13_method_16_code 2 = .ok (.iload_n 2, 1) := by decide +kernel
theorem d_Mo_word_3 : decode prog_13_method_16_code 3 = .ok (.invokevirtual 95, 3) := by decide +kernel
theorem d_Mo_word_6 : decode prog_13_method_16_code 6 = .ok (.ifCond .ne 6, 3) := by decide +kernel
theorem d_Mo_word_9 : decode prog_13_method_16_code 9 = .ok (.bipush (-101), 2) := by decide +kernel
theorem d_Mo_word_11 : decode prog_13_method_16_code 11 = .ok (.ireturn, 1) := by decide +kernel
theorem d_Mo_word_12 : decode prog_13_method_16_code 12 = .ok (.aload_n 0, 1) := by decide +kernel
theorem d_Mo_word_13 : decode prog_13_method_16_code 13 = .ok (.iload_n 1, 1) := by decide +kernel
theorem d_Mo_word_14 : decode prog_13_method_16_code 14 = .ok (.iload_n 2, 1) := by decide +kernel
theorem d_Mo_word_15 : decode prog_13_method_16_code 15 = .ok (.invokevirtual 99, 3) := by decide +kernel
theorem d_Mo_word_18 : decode prog_13_method_16_code 18 = .ok (.istore 4, 2) := by decide +kernel
theorem d_Mo_word_20 : decode prog_13_method_16_code 20 = .ok (.aload_n 0, 1) := by decide +kernel
theorem d_Mo_word_21 : decode prog_13_method_16_code 21 = .ok (.iload_n 1, 1) := by decide +kernel
theorem d_Mo_word_22 : decode prog_13_method_16_code 22 = .ok (.invokevirtual 113, 3) := by decide +kernel
theorem d_Mo_word_25 : decode prog_13_method_16_code 25 = .ok (.iconst 4, 1) := by decide +kernel
theorem d_Mo_word_26 : decode prog_13_method_16_code 26 = .ok (.if_icmp .eq 8, 3) := by decide +kernel
theorem d_Mo_word_29 : decode prog_13_method_16_code 29 = .ok (.iload 4, 2) := by decide +kernel
theorem d_Mo_word_31 : decode prog_13_method_16_code 31 = .ok (.ifCond .ne 6, 3) := by decide +kernel
theorem d_Mo_word_34 : decode prog_13_method_16_code 34 = .ok (.bipush (-103), 2) := by decide +kernel
theorem d_Mo_word_36 : decode prog_13_method_16_code 36 = .ok (.ireturn, 1) := by decide +kernel
theorem d_Mo_word_37 : decode prog_13_method_16_code 37 = .ok (.aload_n 0, 1) := by decide +kernel
theorem d_Mo_word_38 : decode prog_13_method_16_code 38 = .ok (.iload_n 1, 1) := by decide +kernel
theorem d_Mo_word_39 : decode prog_13_method_16_code 39 = .ok (.iload_n 2, 1) := by decide +kernel
theorem d_Mo_word_40 : decode prog_13_method_16_code 40 = .ok (.invokevirtual 116, 3) := by decide +kernel
theorem d_Mo_word_43 : decode prog_13_method_16_code 43 = .ok (.istore 5, 2) := by decide +kernel
theorem d_Mo_word_45 : decode prog_13_method_16_code 45 = .ok (.iload_n 3, 1) := by decide +kernel
theorem d_Mo_word_46 : decode prog_13_method_16_code 46 = .ok (.ifCond .eq 13, 3) := by decide +kernel
theorem d_Mo_word_49 : decode prog_13_method_16_code 49 = .ok (.iload 5, 2) := by decide +kernel
theorem d_Mo_word_51 : decode prog_13_method_16_code 51 = .ok (.iload 4, 2) := by decide +kernel
theorem d_Mo_word_53 : decode prog_13_method_16_code 53 = .ok (.invokestatic 119, 3) := by decide +kernel
theorem d_Mo_word_56 : decode prog_13_method_16_code 56 = .ok (.goto 5, 3) := by decide +kernel
theorem d_Mo_word_59 : decode prog_13_method_16_code 59 = .ok (.iload 5, 2) := by decide +kernel
theorem d_Mo_word_61 : decode prog_13_method_16_code 61 = .ok (.ireturn, 1) := by decide +kernel
theorem d_Mo_count_0 : decode prog_13_method_17_code 0 = .ok (.iload_n 1, 1) := by decide +kernel
theorem d_Mo_count_1 : decode prog_13_method_17_code 1 = .ok (.ifCond .lt 19, 3) := by decide +kernel
theorem d_Mo_count_4 : decode prog_13_method_17_code 4 = .ok (.iload_n 1, 1) := by decide +kernel
theorem d_Mo_count_5 : decode prog_13_method_17_code 5 = .ok (.bipush 64, 2) := by decide +kernel
theorem d_Mo_count_7 : decode prog_13_method_17_code 7 = .ok (.if_icmp .ge 13, 3) := by decide +kernel
theorem d_Mo_count_10 : decode prog_13_method_17_code 10 = .ok (.iload_n 2, 1) := by decide +kernel
theorem d_Mo_count_11 : decode prog_13_method_17_code 11 = .ok (.ifCond .lt 9, 3) := by decide +kernel
theorem d_Mo_count_14 : decode prog_13_method_17_code 14 = .ok (.iload_n 2, 1) := by decide +kernel
theorem d_Mo_count_15 : decode prog_13_method_17_code 15 = .ok (.ldc 122, 2) := by decide +kernel
theorem d_Mo_count_17 : decode prog_13_method_17_code 17 = .ok (.if_icmp .le 6, 3) := by decide +kernel
theorem d_Mo_count_20 : decode prog_13_method_17_code 20 = .ok (.bipush (-102), 2) := by decide +kernel
theorem d_Mo_count_22 : decode prog_13_method_17_code 22 = .ok (.ireturn, 1) := by decide +kernel
theorem d_Mo_count_23 : decode prog_13_method_17_code 23 = .ok (.aload_n 0, 1) := by decide +kernel
theorem d_Mo_count_24 : decode prog_13_method_17_code 24 = .ok (.getfield 16, 3) := by decide +kernel
theorem d_Mo_count_27 : decode prog_13_method_17_code 27 = .ok (.iload_n 1, 1) := by decide +kernel
theorem d_Mo_count_28 : decode prog_13_method_17_code 28 = .ok (.iaload, 1) := by decide +kernel
theorem d_Mo_count_29 : decode prog_13_method_17_code 29 = .ok (.istore_n 3, 1) := by decide +kernel
theorem d_Mo_count_30 : decode prog_13_method_17_code 30 = .ok (.aload_n 0, 1) := by decide +kernel
theorem d_Mo_count_31 : decode prog_13_method_17_code 31 = .ok (.getfield 16, 3) := by decide +kernel
theorem d_Mo_count_34 : decode prog_13_method_17_code 34 = .ok (.iload_n 1, 1) := by decide +kernel
theorem d_Mo_count_35 : decode prog_13_method_17_code 35 = .ok (.iload_n 2, 1) := by decide +kernel
theorem d_Mo_count_36 : decode prog_13_method_17_code 36 = .ok (.iastore, 1) := by decide +kernel
theorem d_Mo_count_37 : decode prog_13_method_17_code 37 = .ok (.iload_n 3, 1) := by decide +kernel
theorem d_Mo_count_38 : decode prog_13_method_17_code 38 = .ok (.ireturn, 1) := by decide +kernel
theorem d_Mo_different_0 : decode prog_13_method_19_code 0 = .ok (.iconst 0, 1) := by decide +kernel
theorem d_Mo_different_1 : decode prog_13_method_19_code 1 = .ok (.istore_n 2, 1) := by decide +kernel
theorem d_Mo_different_2 : decode prog_13_method_19_code 2 = .ok (.iconst 0, 1) := by decide +kernel
theorem d_Mo_different_3 : decode prog_13_method_19_code 3 = .ok (.istore_n 3, 1) := by decide +kernel
theorem d_Mo_different_4 : decode prog_13_method_19_code 4 = .ok (.iload_n 3, 1) := by decide +kernel
theorem d_Mo_different_5 : decode prog_13_method_19_code 5 = .ok (.iload_n 1, 1) := by decide +kernel
theorem d_Mo_different_6 : decode prog_13_method_19_code 6 = .ok (.if_icmp .ge 23, 3) := by decide +kernel
theorem d_Mo_different_9 : decode prog_13_method_19_code 9 = .ok (.iload_n 2, 1) := by decide +kernel
theorem d_Mo_different_10 : decode prog_13_method_19_code 10 = .ok (.aload_n 0, 1) := by decide +kernel
theorem d_Mo_different_11 : decode prog_13_method_19_code 11 = .ok (.iload_n 3, 1) := by decide +kernel
theorem d_Mo_different_12 : decode prog_13_method_19_code 12 = .ok (.iaload, 1) := by decide +kernel
theorem d_Mo_different_13 : decode prog_13_method_19_code 13 = .ok (.ifCond .le 7, 3) := by decide +kernel
theorem d_Mo_different_16 : decode prog_13_method_19_code 16 = .ok (.iconst 1, 1) := by decide +kernel
theorem d_Mo_different_17 : decode prog_13_method_19_code 17 = .ok (.goto 4, 3) := by decide +kernel
theorem d_Mo_different_20 : decode prog_13_method_19_code 20 = .ok (.iconst 0, 1) := by decide +kernel
theorem d_Mo_different_21 : decode prog_13_method_19_code 21 = .ok (.iadd, 1) := by decide +kernel
theorem d_Mo_different_22 : decode prog_13_method_19_code 22 = .ok (.istore_n 2, 1) := by decide +kernel
theorem d_Mo_different_23 : decode prog_13_method_19_code 23 = .ok (.iinc 3 1, 3) := by decide +kernel
theorem d_Mo_different_26 : decode prog_13_method_19_code 26 = .ok (.goto (-22), 3) := by decide +kernel
theorem d_Mo_different_29 : decode prog_13_method_19_code 29 = .ok (.iload_n 2, 1) := by decide +kernel
theorem d_Mo_different_30 : decode prog_13_method_19_code 30 = .ok (.ireturn, 1) := by decide +kernel
theorem d_Mo_countText_0 : decode prog_13_method_18_code 0 = .ok (.iconst 0, 1) := by decide +kernel
theorem d_Mo_countText_1 : decode prog_13_method_18_code 1 = .ok (.istore_n 1, 1) := by decide +kernel
theorem d_Mo_countText_2 : decode prog_13_method_18_code 2 = .ok (.iload_n 1, 1) := by decide +kernel
theorem d_Mo_countText_3 : decode prog_13_method_18_code 3 = .ok (.bipush 64, 2) := by decide +kernel
theorem d_Mo_countText_5 : decode prog_13_method_18_code 5 = .ok (.if_icmp .ge 16, 3) := by decide +kernel
theorem d_Mo_countText_8 : decode prog_13_method_18_code 8 = .ok (.aload_n 0, 1) := by decide +kernel
theorem d_Mo_countText_9 : decode prog_13_method_18_code 9 = .ok (.getfield 16, 3) := by decide +kernel
theorem d_Mo_countText_12 : decode prog_13_method_18_code 12 = .ok (.iload_n 1, 1) := by decide +kernel
theorem d_Mo_countText_13 : decode prog_13_method_18_code 13 = .ok (.iconst 0, 1) := by decide +kernel
theorem d_Mo_countText_14 : decode prog_13_method_18_code 14 = .ok (.iastore, 1) := by decide +kernel
theorem d_Mo_countText_15 : decode prog_13_method_18_code 15 = .ok (.iinc 1 1, 3) := by decide +kernel
theorem d_Mo_countText_18 : decode prog_13_method_18_code 18 = .ok (.goto (-16), 3) := by decide +kernel
theorem d_Mo_countText_21 : decode prog_13_method_18_code 21 = .ok (.iconst 0, 1) := by decide +kernel
theorem d_Mo_countText_22 : decode prog_13_method_18_code 22 = .ok (.istore_n 1, 1) := by decide +kernel
theorem d_Mo_countText_23 : decode prog_13_method_18_code 23 = .ok (.iload_n 1, 1) := by decide +kernel
theorem d_Mo_countText_24 : decode prog_13_method_18_code 24 = .ok (.aload_n 0, 1) := by decide +kernel
theorem d_Mo_countText_25 : decode prog_13_method_18_code 25 = .ok (.getfield 123, 3) := by decide +kernel
theorem d_Mo_countText_28 : decode prog_13_method_18_code 28 = .ok (.if_icmp .ge 24, 3) := by decide +kernel
theorem d_Mo_countText_31 : decode prog_13_method_18_code 31 = .ok (.aload_n 0, 1) := by decide +kernel
theorem d_Mo_countText_32 : decode prog_13_method_18_code 32 = .ok (.getfield 16, 3) := by decide +kernel
theorem d_Mo_countText_35 : decode prog_13_method_18_code 35 = .ok (.aload_n 0, 1) := by decide +kernel
theorem d_Mo_countText_36 : decode prog_13_method_18_code 36 = .ok (.getfield 59, 3) := by decide +kernel
theorem d_Mo_countText_39 : decode prog_13_method_18_code 39 = .ok (.iload_n 1, 1) := by decide +kernel
theorem d_Mo_countText_40 : decode prog_13_method_18_code 40 = .ok (.iaload, 1) := by decide +kernel
theorem d_Mo_countText_41 : decode prog_13_method_18_code 41 = .ok (.dup2, 1) := by decide +kernel
theorem d_Mo_countText_42 : decode prog_13_method_18_code 42 = .ok (.iaload, 1) := by decide +kernel
theorem d_Mo_countText_43 : decode prog_13_method_18_code 43 = .ok (.iconst 1, 1) := by decide +kernel
theorem d_Mo_countText_44 : decode prog_13_method_18_code 44 = .ok (.iadd, 1) := by decide +kernel
theorem d_Mo_countText_45 : decode prog_13_method_18_code 45 = .ok (.iastore, 1) := by decide +kernel
theorem d_Mo_countText_46 : decode prog_13_method_18_code 46 = .ok (.iinc 1 1, 3) := by decide +kernel
theorem d_Mo_countText_49 : decode prog_13_method_18_code 49 = .ok (.goto (-26), 3) := by decide +kernel
theorem d_Mo_countText_52 : decode prog_13_method_18_code 52 = .ok (.aload_n 0, 1) := by decide +kernel
theorem d_Mo_countText_53 : decode prog_13_method_18_code 53 = .ok (.getfield 16, 3) := by decide +kernel
theorem d_Mo_countText_56 : decode prog_13_method_18_code 56 = .ok (.bipush 64, 2) := by decide +kernel
theorem d_Mo_countText_58 : decode prog_13_method_18_code 58 = .ok (.invokestatic 126, 3) := by decide +kernel
theorem d_Mo_countText_61 : decode prog_13_method_18_code 61 = .ok (.ireturn, 1) := by decide +kernel
theorem d_Mo_join_0 : decode prog_13_method_21_code 0 = .ok (.sipush 128, 3) := by decide +kernel
theorem d_Mo_join_3 : decode prog_13_method_21_code 3 = .ok (.iload_n 1, 1) := by decide +kernel
theorem d_Mo_join_4 : decode prog_13_method_21_code 4 = .ok (.iconst 1, 1) := by decide +kernel
theorem d_Mo_join_5 : decode prog_13_method_21_code 5 = .ok (.isub, 1) := by decide +kernel
theorem d_Mo_join_6 : decode prog_13_method_21_code 6 = .ok (.imul, 1) := by decide +kernel
theorem d_Mo_join_7 : decode prog_13_method_21_code 7 = .ok (.istore_n 3, 1) := by decide +kernel
theorem d_Mo_join_8 : decode prog_13_method_21_code 8 = .ok (.aload_n 0, 1) := by decide +kernel
theorem d_Mo_join_9 : decode prog_13_method_21_code 9 = .ok (.getfield 29, 3) := by decide +kernel
theorem d_Mo_join_12 : decode prog_13_method_21_code 12 = .ok (.iload_n 1, 1) := by decide +kernel
theorem d_Mo_join_13 : decode prog_13_method_21_code 13 = .ok (.iconst 1, 1) := by decide +kernel
theorem d_Mo_join_14 : decode prog_13_method_21_code 14 = .ok (.isub, 1) := by decide +kernel
theorem d_Mo_join_15 : decode prog_13_method_21_code 15 = .ok (.iaload, 1) := by decide +kernel
theorem d_Mo_join_16 : decode prog_13_method_21_code 16 = .ok (.iconst 2, 1) := by decide +kernel
theorem d_Mo_join_17 : decode prog_13_method_21_code 17 = .ok (.idiv, 1) := by decide +kernel
theorem d_Mo_join_18 : decode prog_13_method_21_code 18 = .ok (.istore 4, 2) := by decide +kernel
theorem d_Mo_join_20 : decode prog_13_method_21_code 20 = .ok (.iconst 0, 1) := by decide +kernel
theorem d_Mo_join_21 : decode prog_13_method_21_code 21 = .ok (.istore 5, 2) := by decide +kernel
theorem d_Mo_join_23 : decode prog_13_method_21_code 23 = .ok (.iconst 0, 1) := by decide +kernel
theorem d_Mo_join_24 : decode prog_13_method_21_code 24 = .ok (.istore 6, 2) := by decide +kernel
theorem d_Mo_join_26 : decode prog_13_method_21_code 26 = .ok (.iconst 0, 1) := by decide +kernel
theorem d_Mo_join_27 : decode prog_13_method_21_code 27 = .ok (.istore 7, 2) := by decide +kernel
theorem d_Mo_join_29 : decode prog_13_method_21_code 29 = .ok (.iload 5, 2) := by decide +kernel
theorem d_Mo_join_31 : decode prog_13_method_21_code 31 = .ok (.iload_n 2, 1) := by decide +kernel
theorem d_Mo_join_32 : decode prog_13_method_21_code 32 = .ok (.if_icmp .lt 10, 3) := by decide +kernel
theorem d_Mo_join_35 : decode prog_13_method_21_code 35 = .ok (.iload 6, 2) := by decide +kernel
theorem d_Mo_join_37 : decode prog_13_method_21_code 37 = .ok (.iload 4, 2) := by decide +kernel
theorem d_Mo_join_39 : decode prog_13_method_21_code 39 = .ok (.if_icmp .ge 174, 3) := by decide +kernel
theorem d_Mo_join_42 : decode prog_13_method_21_code 42 = .ok (.iload 6, 2) := by decide +kernel
theorem d_Mo_join_44 : decode prog_13_method_21_code 44 = .ok (.iload 4, 2) := by decide +kernel
theorem d_Mo_join_46 : decode prog_13_method_21_code 46 = .ok (.if_icmp .ge 31, 3) := by decide +kernel
theorem d_Mo_join_49 : decode prog_13_method_21_code 49 = .ok (.aload_n 0, 1) := by decide +kernel
theorem d_Mo_join_50 : decode prog_13_method_21_code 50 = .ok (.getfield 19, 3) := by decide +kernel
theorem d_Mo_join_53 : decode prog_13_method_21_code 53 = .ok (.iload_n 3, 1) := by decide +kernel
theorem d_Mo_join_54 : decode prog_13_method_21_code 54 = .ok (.iconst 2, 1) := by decide +kernel
theorem d_Mo_join_55 : decode prog_13_method_21_code 55 = .ok (.iload 6, 2) := by decide +kernel
theorem d_Mo_join_57 : decode prog_13_method_21_code 57 = .ok (.imul, 1) := by decide +kernel
theorem d_Mo_join_58 : decode prog_13_method_21_code 58 = .ok (.iadd, 1) := by decide +kernel
theorem d_Mo_join_59 : decode prog_13_method_21_code 59 = .ok (.laload, 1) := by decide +kernel
theorem d_Mo_join_60 : decode prog_13_method_21_code 60 = .ok (.aload_n 0, 1) := by decide +kernel
theorem d_Mo_join_61 : decode prog_13_method_21_code 61 = .ok (.getfield 19, 3) := by decide +kernel
theorem d_Mo_join_64 : decode prog_13_method_21_code 64 = .ok (.iload_n 3, 1) := by decide +kernel
theorem d_Mo_join_65 : decode prog_13_method_21_code 65 = .ok (.iconst 2, 1) := by decide +kernel
theorem d_Mo_join_66 : decode prog_13_method_21_code 66 = .ok (.iload 6, 2) := by decide +kernel
theorem d_Mo_join_68 : decode prog_13_method_21_code 68 = .ok (.imul, 1) := by decide +kernel
theorem d_Mo_join_69 : decode prog_13_method_21_code 69 = .ok (.iadd, 1) := by decide +kernel
theorem d_Mo_join_70 : decode prog_13_method_21_code 70 = .ok (.iconst 1, 1) := by decide +kernel
theorem d_Mo_join_71 : decode prog_13_method_21_code 71 = .ok (.iadd, 1) := by decide +kernel
theorem d_Mo_join_72 : decode prog_13_method_21_code 72 = .ok (.laload, 1) := by decide +kernel
theorem d_Mo_join_73 : decode prog_13_method_21_code 73 = .ok (.ladd, 1) := by decide +kernel
theorem d_Mo_join_74 : decode prog_13_method_21_code 74 = .ok (.goto 4, 3) := by decide +kernel
theorem d_Mo_join_77 : decode prog_13_method_21_code 77 = .ok (.lconst 0, 1) := by decide +kernel
theorem d_Mo_join_78 : decode prog_13_method_21_code 78 = .ok (.lstore 8, 2) := by decide +kernel
theorem d_Mo_join_80 : decode prog_13_method_21_code 80 = .ok (.iload 6, 2) := by decide +kernel
theorem d_Mo_join_82 : decode prog_13_method_21_code 82 = .ok (.iload 4, 2) := by decide +kernel
theorem d_Mo_join_84 : decode prog_13_method_21_code 84 = .ok (.if_icmp .eq 22, 3) := by decide +kernel
theorem d_Mo_join_87 : decode prog_13_method_21_code 87 = .ok (.iload 5, 2) := by decide +kernel
theorem d_Mo_join_89 : decode prog_13_method_21_code 89 = .ok (.iload_n 2, 1) := by decide +kernel
theorem d_Mo_join_90 : decode prog_13_method_21_code 90 = .ok (.if_icmp .ge 20, 3) := by decide +kernel
theorem d_Mo_join_93 : decode prog_13_method_21_code 93 = .ok (.aload_n 0, 1) := by decide +kernel
theorem d_Mo_join_94 : decode prog_13_method_21_code 94 = .ok (.getfield 19, 3) := by decide +kernel
theorem d_Mo_join_97 : decode prog_13_method_21_code 97 = .ok (.iload 5, 2) := by decide +kernel
theorem d_Mo_join_99 : decode prog_13_method_21_code 99 = .ok (.laload, 1) := by decide +kernel
theorem d_Mo_join_100 : decode prog_13_method_21_code 100 = .ok (.lload 8, 2) := by decide +kernel
theorem d_Mo_join_102 : decode prog_13_method_21_code 102 = .ok (.lcmp, 1) := by decide +kernel
theorem d_Mo_join_103 : decode prog_13_method_21_code 103 = .ok (.ifCond .gt 7, 3) := by decide +kernel
theorem d_Mo_join_106 : decode prog_13_method_21_code 106 = .ok (.iconst 1, 1) := by decide +kernel
theorem d_Mo_join_107 : decode prog_13_method_21_code 107 = .ok (.goto 4, 3) := by decide +kernel
theorem d_Mo_join_110 : decode prog_13_method_21_code 110 = .ok (.iconst 0, 1) := by decide +kernel
theorem d_Mo_join_111 : decode prog_13_method_21_code 111 = .ok (.istore 10, 2) := by decide +kernel
theorem d_Mo_join_113 : decode prog_13_method_21_code 113 = .ok (.sipush 128, 3) := by decide +kernel
theorem d_Mo_join_116 : decode prog_13_method_21_code 116 = .ok (.iload_n 1, 1) := by decide +kernel
theorem d_Mo_join_117 : decode prog_13_method_21_code 117 = .ok (.imul, 1) := by decide +kernel
theorem d_Mo_join_118 : decode prog_13_method_21_code 118 = .ok (.iload 7, 2) := by decide +kernel
theorem d_Mo_join_120 : decode prog_13_method_21_code 120 = .ok (.iadd, 1) := by decide +kernel
theorem d_Mo_join_121 : decode prog_13_method_21_code 121 = .ok (.istore 11, 2) := by decide +kernel
theorem d_Mo_join_123 : decode prog_13_method_21_code 123 = .ok (.aload_n 0, 1) := by decide +kernel
theorem d_Mo_join_124 : decode prog_13_method_21_code 124 = .ok (.getfield 19, 3) := by decide +kernel
theorem d_Mo_join_127 : decode prog_13_method_21_code 127 = .ok (.iload 11, 2) := by decide +kernel
theorem d_Mo_join_129 : decode prog_13_method_21_code 129 = .ok (.iload 10, 2) := by decide +kernel
theorem d_Mo_join_131 : decode prog_13_method_21_code 131 = .ok (.ifCond .eq 13, 3) := by decide +kernel
theorem d_Mo_join_134 : decode prog_13_method_21_code 134 = .ok (.aload_n 0, 1) := by decide +kernel
theorem d_Mo_join_135 : decode prog_13_method_21_code 135 = .ok (.getfield 19, 3) := by decide +kernel
theorem d_Mo_join_138 : decode prog_13_method_21_code 138 = .ok (.iload 5, 2) := by decide +kernel
theorem d_Mo_join_140 : decode prog_13_method_21_code 140 = .ok (.laload, 1) := by decide +kernel
theorem d_Mo_join_141 : decode prog_13_method_21_code 141 = .ok (.goto 5, 3) := by decide +kernel
theorem d_Mo_join_144 : decode prog_13_method_21_code 144 = .ok (.lload 8, 2) := by decide +kernel
theorem d_Mo_join_146 : decode prog_13_method_21_code 146 = .ok (.lastore, 1) := by decide +kernel
theorem d_Mo_join_147 : decode prog_13_method_21_code 147 = .ok (.aload_n 0, 1) := by decide +kernel
theorem d_Mo_join_148 : decode prog_13_method_21_code 148 = .ok (.getfield 23, 3) := by decide +kernel
theorem d_Mo_join_151 : decode prog_13_method_21_code 151 = .ok (.iload 11, 2) := by decide +kernel
theorem d_Mo_join_153 : decode prog_13_method_21_code 153 = .ok (.iload 10, 2) := by decide +kernel
theorem d_Mo_join_155 : decode prog_13_method_21_code 155 = .ok (.ifCond .eq 13, 3) := by decide +kernel
theorem d_Mo_join_158 : decode prog_13_method_21_code 158 = .ok (.aload_n 0, 1) := by decide +kernel
theorem d_Mo_join_159 : decode prog_13_method_21_code 159 = .ok (.getfield 23, 3) := by decide +kernel
theorem d_Mo_join_162 : decode prog_13_method_21_code 162 = .ok (.iload 5, 2) := by decide +kernel
theorem d_Mo_join_164 : decode prog_13_method_21_code 164 = .ok (.iaload, 1) := by decide +kernel
theorem d_Mo_join_165 : decode prog_13_method_21_code 165 = .ok (.goto 11, 3) := by decide +kernel
theorem d_Mo_join_168 : decode prog_13_method_21_code 168 = .ok (.sipush 1000, 3) := by decide +kernel
theorem d_Mo_join_171 : decode prog_13_method_21_code 171 = .ok (.iconst 2, 1) := by decide +kernel
theorem d_Mo_join_172 : decode prog_13_method_21_code 172 = .ok (.iload 6, 2) := by decide +kernel
theorem d_Mo_join_174 : decode prog_13_method_21_code 174 = .ok (.imul, 1) := by decide +kernel
theorem d_Mo_join_175 : decode prog_13_method_21_code 175 = .ok (.iadd, 1) := by decide +kernel
theorem d_Mo_join_176 : decode prog_13_method_21_code 176 = .ok (.iastore, 1) := by decide +kernel
theorem d_Mo_join_177 : decode prog_13_method_21_code 177 = .ok (.iload 5, 2) := by decide +kernel
theorem d_Mo_join_179 : decode prog_13_method_21_code 179 = .ok (.iload 10, 2) := by decide +kernel
theorem d_Mo_join_181 : decode prog_13_method_21_code 181 = .ok (.ifCond .eq 7, 3) := by decide +kernel
theorem d_Mo_join_184 : decode prog_13_method_21_code 184 = .ok (.iconst 1, 1) := by decide +kernel
theorem d_Mo_join_185 : decode prog_13_method_21_code 185 = .ok (.goto 4, 3) := by decide +kernel
theorem d_Mo_join_188 : decode prog_13_method_21_code 188 = .ok (.iconst 0, 1) := by decide +kernel
theorem d_Mo_join_189 : decode prog_13_method_21_code 189 = .ok (.iadd, 1) := by decide +kernel
theorem d_Mo_join_190 : decode prog_13_method_21_code 190 = .ok (.istore 5, 2) := by decide +kernel
theorem d_Mo_join_192 : decode prog_13_method_21_code 192 = .ok (.iload 6, 2) := by decide +kernel
theorem d_Mo_join_194 : decode prog_13_method_21_code 194 = .ok (.iload 10, 2) := by decide +kernel
theorem d_Mo_join_196 : decode prog_13_method_21_code 196 = .ok (.ifCond .eq 7, 3) := by decide +kernel
theorem d_Mo_join_199 : decode prog_13_method_21_code 199 = .ok (.iconst 0, 1) := by decide +kernel
theorem d_Mo_join_200 : decode prog_13_method_21_code 200 = .ok (.goto 4, 3) := by decide +kernel
theorem d_Mo_join_203 : decode prog_13_method_21_code 203 = .ok (.iconst 1, 1) := by decide +kernel
theorem d_Mo_join_204 : decode prog_13_method_21_code 204 = .ok (.iadd, 1) := by decide +kernel
theorem d_Mo_join_205 : decode prog_13_method_21_code 205 = .ok (.istore 6, 2) := by decide +kernel
theorem d_Mo_join_207 : decode prog_13_method_21_code 207 = .ok (.iinc 7 1, 3) := by decide +kernel
theorem d_Mo_join_210 : decode prog_13_method_21_code 210 = .ok (.goto (-181), 3) := by decide +kernel
theorem d_Mo_join_213 : decode prog_13_method_21_code 213 = .ok (.aload_n 0, 1) := by decide +kernel
theorem d_Mo_join_214 : decode prog_13_method_21_code 214 = .ok (.getfield 29, 3) := by decide +kernel
theorem d_Mo_join_217 : decode prog_13_method_21_code 217 = .ok (.iload_n 1, 1) := by decide +kernel
theorem d_Mo_join_218 : decode prog_13_method_21_code 218 = .ok (.iload 7, 2) := by decide +kernel
theorem d_Mo_join_220 : decode prog_13_method_21_code 220 = .ok (.iastore, 1) := by decide +kernel
theorem d_Mo_join_221 : decode prog_13_method_21_code 221 = .ok (.return_, 1) := by decide +kernel
noncomputable def lb_Mo_wordOf_13 (a1 : Int32) (a2 : Int32) (x2 : Int32) (σ : St) (v4 : Int32) (v5 : Int32) : Option ((St × Int32 × Int32) ⊕ ((St × Int32 × Int32))) :=
  gd (ib a1 13) <|
  if (σ.1 49 0 a1.toNatClampNeg) ≤ v5 then
    some (.inr (σ, v4, v5))
  else
  b2 (f_Mo_lengthOf σ a1 v5) fun σ3 x4 =>
  if x4 ≤ 0 then
    nm (v5 + 1) fun x5 =>
    some (.inl (σ3, v4, x5))
  else
  if x4 < x2 then
    nm (v4 + (32768 >>> (x4 &&& 31))) fun x6 =>
    nm (v5 + 1) fun x7 =>
    some (.inl (σ3, x6, x7))
  else
  if x4 = x2 then
    if a2 ≤ v5 then
      nm (v5 + 1) fun x9 =>
      some (.inl (σ3, v4, x9))
    else
    nm (v4 + (32768 >>> (x4 &&& 31))) fun x10 =>
    nm (v5 + 1) fun x11 =>
    some (.inl (σ3, x10, x11))
  else
  nm (v5 + 1) fun x8 =>
  some (.inl (σ3, v4, x8))
noncomputable def f_Mo_wordOf (σ : St) (a1 : Int32) (a2 : Int32) : Option (St × Int32) :=
  b2 (f_Mo_lengthOf σ a1 a2) fun σ1 x2 =>
  b3 (lpE (fun q => lb_Mo_wordOf_13 a1 a2 x2 q.1 q.2.1 q.2.2) (σ1, 0, 0)) fun σ12 x13 x14 =>
  some (σ12, x13 >>> ((15 - x2) &&& 31))
noncomputable def lb_Mo_turn_4 (a1 : Int32) (a2 : Int32) (σ : St) (v2 : Int32) (v3 : Int32) : Option ((St × Int32 × Int32) ⊕ ((St × Int32 × Int32))) :=
  if a2 ≤ v3 then
    some (.inr (σ, v2, v3))
  else
  nm ((2 * v2) + ((a1 >>> (v3 &&& 31)) &&& 1)) fun x1 =>
  nm (v3 + 1) fun x2 =>
  some (.inl (σ, x1, x2))
noncomputable def f_Mo_turn (σ : St) (a1 : Int32) (a2 : Int32) : Option (St × Int32) :=
  b3 (lpE (fun q => lb_Mo_turn_4 a1 a2 q.1 q.2.1 q.2.2) (σ, 0, 0)) fun σ3 x4 x5 =>
  some (σ3, x4)
noncomputable def f_Mo_word (σ : St) (a1 : Int32) (a2 : Int32) (a3 : Int32) : Option (St × Int32) :=
  b2 (f_Mo_hasSymbol σ a1 a2) fun σ1 x2 =>
  if x2 = 0 then
    some (σ1, (-101))
  else
  b2 (f_Mo_lengthOf σ1 a1 a2) fun σ3 x4 =>
  b2 (f_Mo_kind σ3 a1) fun σ5 x6 =>
  if x6 = 4 then
    some (σ5, (-103))
  else
  if x4 = 0 then
    some (σ5, (-103))
  else
  b2 (f_Mo_wordOf σ5 a1 a2) fun σ7 x8 =>
  if a3 = 0 then
    some (σ7, x8)
  else
  b2 (f_Mo_turn σ7 x8 x4) fun σ9 x10 =>
  some (σ9, x10)
noncomputable def f_Mo_count (σ : St) (a1 : Int32) (a2 : Int32) : Option (St × Int32) :=
  if a1 < 0 then
    some (σ, (-102))
  else
  if 64 ≤ a1 then
    some (σ, (-102))
  else
  if a2 < 0 then
    some (σ, (-102))
  else
  if a2 ≤ 1000000 then
    gd (ib a1 64) <|
    nm (σ.1 51 0 a1.toNatClampNeg) fun x1 =>
    gd (ib a1 64) <|
    nm (sI σ 51 0 (a1.toNatClampNeg) a2) fun σ2 =>
    some (σ2, x1)
  else
  some (σ, (-102))
noncomputable def lb_Mo_different_4 (fa1 ia1 na1 : Nat) (a2 : Int32) (σ : St) (v2 : Int32) (v3 : Int32) : Option ((St × Int32 × Int32) ⊕ ((St × Int32 × Int32))) :=
  if a2 ≤ v3 then
    some (.inr (σ, v2, v3))
  else
  gd (ib v3 na1) <|
  if (σ.1 fa1 ia1 v3.toNatClampNeg) ≤ 0 then
    nm (v2 + 0) fun x1 =>
    nm (v3 + 1) fun x2 =>
    some (.inl (σ, x1, x2))
  else
  nm (v2 + 1) fun x3 =>
  nm (v3 + 1) fun x4 =>
  some (.inl (σ, x3, x4))
noncomputable def f_Mo_different (σ : St) (fa1 ia1 na1 : Nat) (a2 : Int32) : Option (St × Int32) :=
  b3 (lpE (fun q => lb_Mo_different_4 fa1 ia1 na1 a2 q.1 q.2.1 q.2.2) (σ, 0, 0)) fun σ5 x6 x7 =>
  some (σ5, x6)
noncomputable def lb_Mo_countText_2 (σ : St) (v1 : Int32) : Option ((St × Int32) ⊕ ((St × Int32))) :=
  if 64 ≤ v1 then
    some (.inr (σ, v1))
  else
  gd (ib v1 64) <|
  nm (sI σ 51 0 (v1.toNatClampNeg) 0) fun σ1 =>
  nm (v1 + 1) fun x2 =>
  some (.inl (σ1, x2))
noncomputable def lb_Mo_countText_23 (σ : St) (v1 : Int32) : Option ((St × Int32) ⊕ ((St × Int32))) :=
  if (σ.1 48 0 22) ≤ v1 then
    some (.inr (σ, v1))
  else
  gd (ib v1 1000) <|
  gd (ib (σ.1 64 0 v1.toNatClampNeg) 64) <|
  gd (ib (σ.1 64 0 v1.toNatClampNeg) 64) <|
  nm (sI σ 51 0 ((σ.1 64 0 v1.toNatClampNeg).toNatClampNeg) ((σ.1 51 0 (σ.1 64 0 v1.toNatClampNeg).toNatClampNeg) + 1)) fun σ5 =>
  nm (v1 + 1) fun x6 =>
  some (.inl (σ5, x6))
noncomputable def f_Mo_countText (σ : St) : Option (St × Int32) :=
  b2 (lpE (fun q => lb_Mo_countText_2 q.1 q.2) (σ, 0)) fun σ3 x4 =>
  b2 (lpE (fun q => lb_Mo_countText_23 q.1 q.2) (σ3, 0)) fun σ7 x8 =>
  b2 (f_Mo_different σ7 51 0 64 64) fun σ9 x10 =>
  some (σ9, x10)
noncomputable def jn_Mo_join_176_6 (a1 : Int32) (a2 : Int32) (x1 : Int32) (x2 : Int32) (σ : St) (p5 : Int32) (p6 : Int32) (p7 : Int32) (p10 : Int32) (k1 : Int32) (k2 : Int32) : Option ((St × Int32 × Int32 × Int32) ⊕ ((St × Int32 × Int32 × Int32))) :=
  gd (ib k1 1920) <|
  nm (sI σ 53 0 (k1.toNatClampNeg) k2) fun σ5 =>
  if p10 = 0 then
    nm (p5 + 0) fun x6 =>
    nm (p6 + 1) fun x7 =>
    nm (p7 + 1) fun x8 =>
    some (.inl (σ5, x6, x7, x8))
  else
  nm (p5 + 1) fun x9 =>
  nm (p6 + 0) fun x10 =>
  nm (p7 + 1) fun x11 =>
  some (.inl (σ5, x9, x10, x11))
noncomputable def jn_Mo_join_146_5 (a1 : Int32) (a2 : Int32) (x1 : Int32) (x2 : Int32) (σ : St) (p5 : Int32) (p6 : Int32) (p7 : Int32) (p10 : Int32) (p11 : Int32) (k1 : Int32) (k2 : Int64) : Option ((St × Int32 × Int32 × Int32) ⊕ ((St × Int32 × Int32 × Int32))) :=
  gd (ib k1 1920) <|
  nm (sL σ 52 0 (k1.toNatClampNeg) k2) fun σ4 =>
  if p10 = 0 then
    jn_Mo_join_176_6 a1 a2 x1 x2 σ4 p5 p6 p7 p10 p11 (1000 + (2 * p6))
  else
  gd (ib p5 1920) <|
  jn_Mo_join_176_6 a1 a2 x1 x2 σ4 p5 p6 p7 p10 p11 (σ4.1 53 0 p5.toNatClampNeg)
noncomputable def jn_Mo_join_111_4 (a1 : Int32) (a2 : Int32) (x1 : Int32) (x2 : Int32) (σ : St) (p5 : Int32) (p6 : Int32) (p7 : Int32) (p8 : Int64) (k0 : Int32) : Option ((St × Int32 × Int32 × Int32) ⊕ ((St × Int32 × Int32 × Int32))) :=
  nm ((128 * a1) + p7) fun x3 =>
  if k0 = 0 then
    jn_Mo_join_146_5 a1 a2 x1 x2 σ p5 p6 p7 k0 x3 x3 p8
  else
  gd (ib p5 1920) <|
  jn_Mo_join_146_5 a1 a2 x1 x2 σ p5 p6 p7 k0 x3 x3 (σ.2.1 52 0 p5.toNatClampNeg)
noncomputable def jn_Mo_join_106_3 (a1 : Int32) (a2 : Int32) (x1 : Int32) (x2 : Int32) (σ : St) (p5 : Int32) (p6 : Int32) (p7 : Int32) (p8 : Int64) : Option ((St × Int32 × Int32 × Int32) ⊕ ((St × Int32 × Int32 × Int32))) :=
  jn_Mo_join_111_4 a1 a2 x1 x2 σ p5 p6 p7 p8 1
noncomputable def jn_Mo_join_110_7 (a1 : Int32) (a2 : Int32) (x1 : Int32) (x2 : Int32) (σ : St) (p5 : Int32) (p6 : Int32) (p7 : Int32) (p8 : Int64) : Option ((St × Int32 × Int32 × Int32) ⊕ ((St × Int32 × Int32 × Int32))) :=
  jn_Mo_join_111_4 a1 a2 x1 x2 σ p5 p6 p7 p8 0
noncomputable def jn_Mo_join_78_2 (a1 : Int32) (a2 : Int32) (x1 : Int32) (x2 : Int32) (σ : St) (p5 : Int32) (p6 : Int32) (p7 : Int32) (k0 : Int64) : Option ((St × Int32 × Int32 × Int32) ⊕ ((St × Int32 × Int32 × Int32))) :=
  if p6 = x2 then
    jn_Mo_join_106_3 a1 a2 x1 x2 σ p5 p6 p7 k0
  else
  if a2 ≤ p5 then
    jn_Mo_join_110_7 a1 a2 x1 x2 σ p5 p6 p7 k0
  else
  gd (ib p5 1920) <|
  if k0 < (σ.2.1 52 0 p5.toNatClampNeg) then
    jn_Mo_join_110_7 a1 a2 x1 x2 σ p5 p6 p7 k0
  else
  jn_Mo_join_106_3 a1 a2 x1 x2 σ p5 p6 p7 k0
noncomputable def jn_Mo_join_42 (a1 : Int32) (a2 : Int32) (x1 : Int32) (x2 : Int32) (σ : St) (p5 : Int32) (p6 : Int32) (p7 : Int32) : Option ((St × Int32 × Int32 × Int32) ⊕ ((St × Int32 × Int32 × Int32))) :=
  if x2 ≤ p6 then
    jn_Mo_join_78_2 a1 a2 x1 x2 σ p5 p6 p7 0
  else
  gd (ib (x1 + (2 * p6)) 1920) <|
  gd (ib ((x1 + (2 * p6)) + 1) 1920) <|
  jn_Mo_join_78_2 a1 a2 x1 x2 σ p5 p6 p7 ((σ.2.1 52 0 (x1 + (2 * p6)).toNatClampNeg) + (σ.2.1 52 0 ((x1 + (2 * p6)) + 1).toNatClampNeg))
noncomputable def lb_Mo_join_29 (a1 : Int32) (a2 : Int32) (x1 : Int32) (x2 : Int32) (σ : St) (v5 : Int32) (v6 : Int32) (v7 : Int32) : Option ((St × Int32 × Int32 × Int32) ⊕ ((St × Int32 × Int32 × Int32))) :=
  if v5 < a2 then
    jn_Mo_join_42 a1 a2 x1 x2 σ v5 v6 v7
  else
  if x2 ≤ v6 then
    some (.inr (σ, v5, v6, v7))
  else
  jn_Mo_join_42 a1 a2 x1 x2 σ v5 v6 v7
noncomputable def f_Mo_join (σ : St) (a1 : Int32) (a2 : Int32) : Option (St) :=
  nm (128 * (a1 - 1)) fun x1 =>
  gd (ib (a1 - 1) 15) <|
  nm ((σ.1 55 0 (a1 - 1).toNatClampNeg) / 2) fun x2 =>
  b4 (lpE (fun q => lb_Mo_join_29 a1 a2 x1 x2 q.1 q.2.1 q.2.2.1 q.2.2.2) (σ, 0, 0, 0)) fun σ12 x13 x14 x15 =>
  gd (ib a1 15) <|
  nm (sI σ12 55 0 (a1.toNatClampNeg) x15) fun σ16 =>
  some σ16
set_option maxHeartbeats 4000000 in
set_option maxRecDepth 100000 in
theorem c_Mo_wordOf (l : Launch) (D : va_G) (aC : Nat → ClassId) (A : Nat → Prop) (ad : Nat → Nat → Nat) (n : Nat) (σ : St) (a1 : Int32) (a2 : Int32) (o : St × Int32) (h : f_Mo_wordOf σ a1 a2 = some o) : Met l y_Mo_wordOf w_Mo_wordOf rm_Mo_wordOf (va_Pc [.ref (ad 48 0), .int a1, .int a2] (Pre D aC A ad n σ)) (va_Qi (fun r (_ : Unit) => r = o.2) (fun _ t => Hold D aC A ad n o.1 t.heap) A) 0 0 A := by
  refine Met.ofW (cc := prog_13_method_14_code) (maxL := 7) (ret := (some .int)) (by decide) rfl ?_
  intro p e s m args below meth c s₁ B hml hv
  obtain ⟨hargs, hH, hK, hZ⟩ := hv
  have hx := B.exec
  have hb := B.bytes
  have hr := B.returns
  have hts := atoms_spec (ws := w_Mo_wordOf) B.pre
  have hg : ∀ w ∈ gW, w.before args s = true := fun w h => hts w (List.mem_cons_of_mem _ h)
  have hown : s.vm.findClass "PrefixCodesModel" = some m.cls := findClass_of_methodNamed B.named
  have hlocks := B.notSynchronized
  have hS : va_S A s.heap s.heap [] := va_S.rf
  have hl := lv_entry ([.ref (ad 48 0), .int a1, .int a2]) (n := 7) (Nat.le_of_ble_eq_true rfl)
  rw [show entryFrame m args 7 = entryFrame m (([.ref (ad 48 0), .int a1, .int a2] : List Value).toArray) 7 by rw [hargs], lg_entry_eq]
  generalize (lg_sl ([.ref (ad 48 0), .int a1, .int a2]) ++ List.replicate (7 - (lg_sl ([.ref (ad 48 0), .int a1, .int a2])).length) Slot.unset).toArray = ls at hl ⊢
  have hl : lv_has ls 7 [(0, .ref (ad 48 0)), (1, .int a1), (2, .int a2)] := hl
  generalize hQ0 : MQ below (va_Qi (fun r (_ : Unit) => r = o.2) (fun _ t => Hold D aC A ad n o.1 t.heap) A) args s 0 0 A = Q0
  unfold f_Mo_wordOf at h
  refine lv_aload_n hx hb d_Mo_wordOf_0 rfl (lv_at hl 0 rfl) ?_
  refine lv_iload_n hx hb d_Mo_wordOf_1 rfl (lv_at hl 1 rfl) ?_
  refine lv_iload_n hx hb d_Mo_wordOf_2 rfl (lv_at hl 2 rfl) ?_
  obtain ⟨qc, hc3, h⟩ := b2_some h
  obtain ⟨σ1, x2⟩ := qc
  have h := b2_at h
  refine st_Vi (As := [.int a1, .int a2]) (rest := []) ⟨hx, hb, hml, hown, hg⟩ (c_Mo_lengthOf l D aC A ad n _ a1 a2 _ hc3) (cwG hg wd_440 wd_441 wd_442 wd_443 wd_428 yd_Mo_lengthOf ⟨Nat.le_of_ble_eq_true rfl, Nat.le_of_ble_eq_true rfl⟩) hK hH hS hZ hd_48 rfl rfl rfl hl.1 rfl (Nat.le_of_ble_eq_true rfl) d_Mo_wordOf_3 ⟨Nat.zero_le _, Nat.zero_le _⟩ (fun H locs hH hS => ?_)
  refine lv_istore_n (lv' := [(3, .int x2), (0, .ref (ad 48 0)), (1, .int a1), (2, .int a2)]) hx hb d_Mo_wordOf_6 rfl hl (by decide) rfl (fun ls hl => ?_)
  refine lv_iconst (v := 0) hx hb d_Mo_wordOf_7 (by decide) ?_
  refine lv_istore (lv' := [(4, .int 0), (3, .int x2), (0, .ref (ad 48 0)), (1, .int a1), (2, .int a2)]) hx hb d_Mo_wordOf_8 hl (by decide) rfl (fun ls hl => ?_)
  refine lv_iconst (v := 0) hx hb d_Mo_wordOf_10 (by decide) ?_
  refine lv_istore (lv' := [(5, .int 0), (4, .int 0), (3, .int x2), (0, .ref (ad 48 0)), (1, .int a1), (2, .int a2)]) hx hb d_Mo_wordOf_11 hl (by decide) rfl (fun ls hl => ?_)
  obtain ⟨q1, hq1, h⟩ := b3_some h
  have K1 : ∀ (σ12 : St) (x13 : Int32) (x14 : Int32) (H : Heap) (locs : List Loc) (ls : Array Slot), q1 = (σ12, x13, x14) → Hold D aC A ad n σ12 H → va_S A s.heap H locs → lv_has ls 7 [(0, .ref (ad 48 0)), (1, .int a1), (2, .int a2), (3, .int x2), (4, .int x13), (5, .int x14)] → W p l e (headSpec w_Mo_wordOf rm_Mo_wordOf).room s m args below meth c H locs 0 0 Q0 (F0 m 72 ls []) := by
    intro σ12 x13 x14 H locs ls eq1 hH hS hl
    subst eq1
    have h := b3_at h
    refine lv_iload hx hb d_Mo_wordOf_72 (lv_at hl 4 rfl) ?_
    refine lv_bipush (v := 15) hx hb d_Mo_wordOf_74 (by decide) ?_
    refine lv_iload_n hx hb d_Mo_wordOf_76 rfl (lv_at hl 3 rfl) ?_
    refine lv_isub hx hb d_Mo_wordOf_77 ?_
    refine lv_ishr hx hb d_Mo_wordOf_78 ?_
    cases h
    rw [← hQ0]
    exact W.iret hx hb hr (fun t ht hW => ⟨⟨_, (), rfl, rfl, by dsimp only; rw [ht]; exact hH⟩, hS.F ht⟩) hS.2.2 d_Mo_wordOf_79
  have loop1 : ∀ (k : Nat) (σ : St) (v4 : Int32) (v5 : Int32) (H : Heap) (locs : List Loc) (ls : Array Slot), Hold D aC A ad n σ H → va_S A s.heap H locs → lv_has ls 7 [(0, .ref (ad 48 0)), (1, .int a1), (2, .int a2), (3, .int x2), (4, .int v4), (5, .int v5)] → lp (fun q => lb_Mo_wordOf_13 a1 a2 x2 q.1 q.2.1 q.2.2) k (σ, v4, v5) = some q1 → W p l e (headSpec w_Mo_wordOf rm_Mo_wordOf).room s m args below meth c H locs 0 0 Q0 (F0 m 13 ls []) := by
    intro k
    induction k with
    | zero => intro σ v4 v5 H locs ls hH hS hl hlp; exact absurd hlp (lp_zero _ _ _)
    | succ k ih1 =>
      intro σ v4 v5 H locs ls hH hS hl hlp
      obtain ⟨z1, h1, hk1⟩ := lp_succ hlp
      have h1 : lb_Mo_wordOf_13 a1 a2 x2 σ v4 v5 = some z1 := h1
      unfold lb_Mo_wordOf_13 at h1
      refine lv_iload hx hb d_Mo_wordOf_13 (lv_at hl 5 rfl) ?_
      refine lv_aload_n hx hb d_Mo_wordOf_15 rfl (lv_at hl 0 rfl) ?_
      refine st_get hx hb hg hown hK hH (f := 48) (i := 0) hd_48 rfl rfl u_Mo 2 (by decide) (hg _ wd_425) (v := .ref (ad 49 0)) rfl d_Mo_wordOf_16 ?_
      refine lv_iload_n hx hb d_Mo_wordOf_19 rfl (lv_at hl 1 rfl) ?_
      obtain ⟨g20, h1⟩ := gd_some h1
      refine st_iald hx hb hK hH (f := 49) (i := 0) hd_49 rfl g20 d_Mo_wordOf_20 ?_
      refine lv_icmp_ge (tgt := 72) hx hb d_Mo_wordOf_21 (by decide) (fun c21 => ?_) (fun c21 => ?_)
      · have h1 := it h1 c21
        cases h1
        exact K1 σ v4 v5 _ _ ls (Option.some.inj hk1).symm hH hS (lv_sub hl [0, 1, 2, 3, 4, 5] rfl)
      · have h1 := ie h1 c21
        refine lv_aload_n hx hb d_Mo_wordOf_24 rfl (lv_at hl 0 rfl) ?_
        refine lv_iload_n hx hb d_Mo_wordOf_25 rfl (lv_at hl 1 rfl) ?_
        refine lv_iload hx hb d_Mo_wordOf_26 (lv_at hl 5 rfl) ?_
        obtain ⟨qc, hc28, h1⟩ := b2_some h1
        obtain ⟨σ3, x4⟩ := qc
        have h1 := b2_at h1
        refine st_Vi (As := [.int a1, .int v5]) (rest := []) ⟨hx, hb, hml, hown, hg⟩ (c_Mo_lengthOf l D aC A ad n _ a1 v5 _ hc28) (cwG hg wd_440 wd_441 wd_442 wd_443 wd_428 yd_Mo_lengthOf ⟨Nat.le_of_ble_eq_true rfl, Nat.le_of_ble_eq_true rfl⟩) hK hH hS hZ hd_48 rfl rfl rfl hl.1 rfl (Nat.le_of_ble_eq_true rfl) d_Mo_wordOf_28 ⟨Nat.zero_le _, Nat.zero_le _⟩ (fun H locs hH hS => ?_)
        refine lv_istore (lv' := [(6, .int x4), (0, .ref (ad 48 0)), (1, .int a1), (2, .int a2), (3, .int x2), (4, .int v4), (5, .int v5)]) hx hb d_Mo_wordOf_31 hl (by decide) rfl (fun ls hl => ?_)
        refine lv_iload hx hb d_Mo_wordOf_33 (lv_at hl 0 rfl) ?_
        refine lv_if_le (tgt := 66) hx hb d_Mo_wordOf_35 (by decide) (fun c35 => ?_) (fun c35 => ?_)
        · have h1 := it h1 c35
          obtain ⟨x5, ex5⟩ : ∃ y : Int32, y = v5 + 1 := ⟨_, rfl⟩
          have h1 := nm_at ex5 h1
          refine lv_iinc (v := x5) (lv' := [(5, .int x5), (6, .int x4), (0, .ref (ad 48 0)), (1, .int a1), (2, .int a2), (3, .int x2), (4, .int v4)]) hx hb d_Mo_wordOf_66 hl (k := 6) rfl (by rw [ex5]; rfl) (by decide) rfl (fun ls hl => ?_)
          refine lv_goto (tgt := 13) hx hb d_Mo_wordOf_69 (by decide) ?_
          cases h1
          exact ih1 σ3 v4 x5 _ _ ls hH hS (lv_sub hl [2, 3, 4, 5, 6, 0] rfl) hk1
        · have h1 := ie h1 c35
          refine lv_iload hx hb d_Mo_wordOf_38 (lv_at hl 0 rfl) ?_
          refine lv_iload_n hx hb d_Mo_wordOf_40 rfl (lv_at hl 4 rfl) ?_
          refine lv_icmp_lt (tgt := 56) hx hb d_Mo_wordOf_41 (by decide) (fun c41 => ?_) (fun c41 => ?_)
          · have h1 := it h1 c41
            refine lv_iload hx hb d_Mo_wordOf_56 (lv_at hl 5 rfl) ?_
            refine lv_ldc (v := 32768) hx hb hown (hg _ wd_444) d_Mo_wordOf_58 ?_
            refine lv_iload hx hb d_Mo_wordOf_60 (lv_at hl 0 rfl) ?_
            refine lv_ishr hx hb d_Mo_wordOf_62 ?_
            refine lv_iadd hx hb d_Mo_wordOf_63 ?_
            refine lv_topi (fun x6 ex6 => ?_)
            have h1 := nm_at ex6 h1
            refine lv_istore (lv' := [(4, .int x6), (6, .int x4), (0, .ref (ad 48 0)), (1, .int a1), (2, .int a2), (3, .int x2), (5, .int v5)]) hx hb d_Mo_wordOf_64 hl (by decide) rfl (fun ls hl => ?_)
            obtain ⟨x7, ex7⟩ : ∃ y : Int32, y = v5 + 1 := ⟨_, rfl⟩
            have h1 := nm_at ex7 h1
            refine lv_iinc (v := x7) (lv' := [(5, .int x7), (4, .int x6), (6, .int x4), (0, .ref (ad 48 0)), (1, .int a1), (2, .int a2), (3, .int x2)]) hx hb d_Mo_wordOf_66 hl (k := 6) rfl (by rw [ex7]; rfl) (by decide) rfl (fun ls hl => ?_)
            refine lv_goto (tgt := 13) hx hb d_Mo_wordOf_69 (by decide) ?_
            cases h1
            exact ih1 σ3 x6 x7 _ _ ls hH hS (lv_sub hl [3, 4, 5, 6, 1, 0] rfl) hk1
          · have h1 := ie h1 c41
            refine lv_iload hx hb d_Mo_wordOf_44 (lv_at hl 0 rfl) ?_
            refine lv_iload_n hx hb d_Mo_wordOf_46 rfl (lv_at hl 4 rfl) ?_
            refine lv_icmp_ne (tgt := 66) hx hb d_Mo_wordOf_47 (by decide) (fun c47 => ?_) (fun c47 => ?_)
            · have h1 := ie h1 c47
              obtain ⟨x8, ex8⟩ : ∃ y : Int32, y = v5 + 1 := ⟨_, rfl⟩
              have h1 := nm_at ex8 h1
              refine lv_iinc (v := x8) (lv' := [(5, .int x8), (6, .int x4), (0, .ref (ad 48 0)), (1, .int a1), (2, .int a2), (3, .int x2), (4, .int v4)]) hx hb d_Mo_wordOf_66 hl (k := 6) rfl (by rw [ex8]; rfl) (by decide) rfl (fun ls hl => ?_)
              refine lv_goto (tgt := 13) hx hb d_Mo_wordOf_69 (by decide) ?_
              cases h1
              exact ih1 σ3 v4 x8 _ _ ls hH hS (lv_sub hl [2, 3, 4, 5, 6, 0] rfl) hk1
            · have h1 := it h1 c47
              refine lv_iload hx hb d_Mo_wordOf_50 (lv_at hl 6 rfl) ?_
              refine lv_iload_n hx hb d_Mo_wordOf_52 rfl (lv_at hl 3 rfl) ?_
              refine lv_icmp_ge (tgt := 66) hx hb d_Mo_wordOf_53 (by decide) (fun c53 => ?_) (fun c53 => ?_)
              · have h1 := it h1 c53
                obtain ⟨x9, ex9⟩ : ∃ y : Int32, y = v5 + 1 := ⟨_, rfl⟩
                have h1 := nm_at ex9 h1
                refine lv_iinc (v := x9) (lv' := [(5, .int x9), (6, .int x4), (0, .ref (ad 48 0)), (1, .int a1), (2, .int a2), (3, .int x2), (4, .int v4)]) hx hb d_Mo_wordOf_66 hl (k := 6) rfl (by rw [ex9]; rfl) (by decide) rfl (fun ls hl => ?_)
                refine lv_goto (tgt := 13) hx hb d_Mo_wordOf_69 (by decide) ?_
                cases h1
                exact ih1 σ3 v4 x9 _ _ ls hH hS (lv_sub hl [2, 3, 4, 5, 6, 0] rfl) hk1
              · have h1 := ie h1 c53
                refine lv_iload hx hb d_Mo_wordOf_56 (lv_at hl 5 rfl) ?_
                refine lv_ldc (v := 32768) hx hb hown (hg _ wd_444) d_Mo_wordOf_58 ?_
                refine lv_iload hx hb d_Mo_wordOf_60 (lv_at hl 0 rfl) ?_
                refine lv_ishr hx hb d_Mo_wordOf_62 ?_
                refine lv_iadd hx hb d_Mo_wordOf_63 ?_
                refine lv_topi (fun x10 ex10 => ?_)
                have h1 := nm_at ex10 h1
                refine lv_istore (lv' := [(4, .int x10), (6, .int x4), (0, .ref (ad 48 0)), (1, .int a1), (2, .int a2), (3, .int x2), (5, .int v5)]) hx hb d_Mo_wordOf_64 hl (by decide) rfl (fun ls hl => ?_)
                obtain ⟨x11, ex11⟩ : ∃ y : Int32, y = v5 + 1 := ⟨_, rfl⟩
                have h1 := nm_at ex11 h1
                refine lv_iinc (v := x11) (lv' := [(5, .int x11), (4, .int x10), (6, .int x4), (0, .ref (ad 48 0)), (1, .int a1), (2, .int a2), (3, .int x2)]) hx hb d_Mo_wordOf_66 hl (k := 6) rfl (by rw [ex11]; rfl) (by decide) rfl (fun ls hl => ?_)
                refine lv_goto (tgt := 13) hx hb d_Mo_wordOf_69 (by decide) ?_
                cases h1
                exact ih1 σ3 x10 x11 _ _ ls hH hS (lv_sub hl [3, 4, 5, 6, 1, 0] rfl) hk1
  obtain ⟨k1, hq1⟩ := lpE_some hq1
  exact loop1 k1 σ1 0 0 _ _ ls hH hS (lv_sub hl [3, 4, 5, 2, 1, 0] rfl) hq1
set_option maxHeartbeats 4000000 in
set_option maxRecDepth 100000 in
theorem c_Mo_turn (l : Launch) (D : va_G) (aC : Nat → ClassId) (A : Nat → Prop) (ad : Nat → Nat → Nat) (n : Nat) (σ : St) (a1 : Int32) (a2 : Int32) (o : St × Int32) (h : f_Mo_turn σ a1 a2 = some o) : Met l y_Mo_turn w_Mo_turn rm_Mo_turn (va_Pc [.int a1, .int a2] (Pre D aC A ad n σ)) (va_Qi (fun r (_ : Unit) => r = o.2) (fun _ t => Hold D aC A ad n o.1 t.heap) A) 0 0 A := by
  refine Met.ofW (cc := prog_13_method_15_code) (maxL := 4) (ret := (some .int)) (by decide) rfl ?_
  intro p e s m args below meth c s₁ B hml hv
  obtain ⟨hargs, hH, hK, hZ⟩ := hv
  have hx := B.exec
  have hb := B.bytes
  have hr := B.returns
  have hts := atoms_spec (ws := w_Mo_turn) B.pre
  have hg : ∀ w ∈ gW, w.before args s = true := fun w h => hts w (List.mem_cons_of_mem _ h)
  have hown : s.vm.findClass "PrefixCodesModel" = some m.cls := findClass_of_methodNamed B.named
  have hlocks := B.notSynchronized
  have hS : va_S A s.heap s.heap [] := va_S.rf
  have hl := lv_entry ([.int a1, .int a2]) (n := 4) (Nat.le_of_ble_eq_true rfl)
  rw [show entryFrame m args 4 = entryFrame m (([.int a1, .int a2] : List Value).toArray) 4 by rw [hargs], lg_entry_eq]
  generalize (lg_sl ([.int a1, .int a2]) ++ List.replicate (4 - (lg_sl ([.int a1, .int a2])).length) Slot.unset).toArray = ls at hl ⊢
  have hl : lv_has ls 4 [(0, .int a1), (1, .int a2)] := hl
  generalize hQ0 : MQ below (va_Qi (fun r (_ : Unit) => r = o.2) (fun _ t => Hold D aC A ad n o.1 t.heap) A) args s 0 0 A = Q0
  unfold f_Mo_turn at h
  refine lv_iconst (v := 0) hx hb d_Mo_turn_0 (by decide) ?_
  refine lv_istore_n (lv' := [(2, .int 0), (0, .int a1), (1, .int a2)]) hx hb d_Mo_turn_1 rfl hl (by decide) rfl (fun ls hl => ?_)
  refine lv_iconst (v := 0) hx hb d_Mo_turn_2 (by decide) ?_
  refine lv_istore_n (lv' := [(3, .int 0), (2, .int 0), (0, .int a1), (1, .int a2)]) hx hb d_Mo_turn_3 rfl hl (by decide) rfl (fun ls hl => ?_)
  obtain ⟨q1, hq1, h⟩ := b3_some h
  have K1 : ∀ (σ3 : St) (x4 : Int32) (x5 : Int32) (H : Heap) (locs : List Loc) (ls : Array Slot), q1 = (σ3, x4, x5) → Hold D aC A ad n σ3 H → va_S A s.heap H locs → lv_has ls 4 [(0, .int a1), (1, .int a2), (2, .int x4), (3, .int x5)] → W p l e (headSpec w_Mo_turn rm_Mo_turn).room s m args below meth c H locs 0 0 Q0 (F0 m 25 ls []) := by
    intro σ3 x4 x5 H locs ls eq1 hH hS hl
    subst eq1
    have h := b3_at h
    refine lv_iload_n hx hb d_Mo_turn_25 rfl (lv_at hl 2 rfl) ?_
    cases h
    rw [← hQ0]
    exact W.iret hx hb hr (fun t ht hW => ⟨⟨_, (), rfl, rfl, by dsimp only; rw [ht]; exact hH⟩, hS.F ht⟩) hS.2.2 d_Mo_turn_26
  have loop1 : ∀ (k : Nat) (σ : St) (v2 : Int32) (v3 : Int32) (H : Heap) (locs : List Loc) (ls : Array Slot), Hold D aC A ad n σ H → va_S A s.heap H locs → lv_has ls 4 [(0, .int a1), (1, .int a2), (2, .int v2), (3, .int v3)] → lp (fun q => lb_Mo_turn_4 a1 a2 q.1 q.2.1 q.2.2) k (σ, v2, v3) = some q1 → W p l e (headSpec w_Mo_turn rm_Mo_turn).room s m args below meth c H locs 0 0 Q0 (F0 m 4 ls []) := by
    intro k
    induction k with
    | zero => intro σ v2 v3 H locs ls hH hS hl hlp; exact absurd hlp (lp_zero _ _ _)
    | succ k ih1 =>
      intro σ v2 v3 H locs ls hH hS hl hlp
      obtain ⟨z1, h1, hk1⟩ := lp_succ hlp
      have h1 : lb_Mo_turn_4 a1 a2 σ v2 v3 = some z1 := h1
      unfold lb_Mo_turn_4 at h1
      refine lv_iload_n hx hb d_Mo_turn_4 rfl (lv_at hl 3 rfl) ?_
      refine lv_iload_n hx hb d_Mo_turn_5 rfl (lv_at hl 1 rfl) ?_
      refine lv_icmp_ge (tgt := 25) hx hb d_Mo_turn_6 (by decide) (fun c6 => ?_) (fun c6 => ?_)
      · have h1 := it h1 c6
        cases h1
        exact K1 σ v2 v3 _ _ ls (Option.some.inj hk1).symm hH hS (lv_sub hl [0, 1, 2, 3] rfl)
      · have h1 := ie h1 c6
        refine lv_iconst (v := 2) hx hb d_Mo_turn_9 (by decide) ?_
        refine lv_iload_n hx hb d_Mo_turn_10 rfl (lv_at hl 2 rfl) ?_
        refine lv_imul hx hb d_Mo_turn_11 ?_
        refine lv_iload_n hx hb d_Mo_turn_12 rfl (lv_at hl 0 rfl) ?_
        refine lv_iload_n hx hb d_Mo_turn_13 rfl (lv_at hl 3 rfl) ?_
        refine lv_ishr hx hb d_Mo_turn_14 ?_
        refine lv_iconst (v := 1) hx hb d_Mo_turn_15 (by decide) ?_
        refine lv_iand hx hb d_Mo_turn_16 ?_
        refine lv_iadd hx hb d_Mo_turn_17 ?_
        refine lv_topi (fun x1 ex1 => ?_)
        have h1 := nm_at ex1 h1
        refine lv_istore_n (lv' := [(2, .int x1), (0, .int a1), (1, .int a2), (3, .int v3)]) hx hb d_Mo_turn_18 rfl hl (by decide) rfl (fun ls hl => ?_)
        obtain ⟨x2, ex2⟩ : ∃ y : Int32, y = v3 + 1 := ⟨_, rfl⟩
        have h1 := nm_at ex2 h1
        refine lv_iinc (v := x2) (lv' := [(3, .int x2), (2, .int x1), (0, .int a1), (1, .int a2)]) hx hb d_Mo_turn_19 hl (k := 3) rfl (by rw [ex2]; rfl) (by decide) rfl (fun ls hl => ?_)
        refine lv_goto (tgt := 4) hx hb d_Mo_turn_22 (by decide) ?_
        cases h1
        exact ih1 σ x1 x2 _ _ ls hH hS (lv_sub hl [2, 3, 1, 0] rfl) hk1
  obtain ⟨k1, hq1⟩ := lpE_some hq1
  exact loop1 k1 σ 0 0 _ _ ls hH hS (lv_sub hl [2, 3, 1, 0] rfl) hq1
set_option maxHeartbeats 4000000 in
set_option maxRecDepth 100000 in
theorem c_Mo_word (l : Launch) (D : va_G) (aC : Nat → ClassId) (A : Nat → Prop) (ad : Nat → Nat → Nat) (n : Nat) (σ : St) (a1 : Int32) (a2 : Int32) (a3 : Int32) (o : St × Int32) (h : f_Mo_word σ a1 a2 a3 = some o) : Met l y_Mo_word w_Mo_word rm_Mo_word (va_Pc [.ref (ad 48 0), .int a1, .int a2, .int a3] (Pre D aC A ad n σ)) (va_Qi (fun r (_ : Unit) => r = o.2) (fun _ t => Hold D aC A ad n o.1 t.heap) A) 0 0 A := by
  refine Met.ofW (cc := prog_13_method_16_code) (maxL := 6) (ret := (some .int)) (by decide) rfl ?_
  intro p e s m args below meth c s₁ B hml hv
  obtain ⟨hargs, hH, hK, hZ⟩ := hv
  have hx := B.exec
  have hb := B.bytes
  have hr := B.returns
  have hts := atoms_spec (ws := w_Mo_word) B.pre
  have hg : ∀ w ∈ gW, w.before args s = true := fun w h => hts w (List.mem_cons_of_mem _ h)
  have hown : s.vm.findClass "PrefixCodesModel" = some m.cls := findClass_of_methodNamed B.named
  have hlocks := B.notSynchronized
  have hS : va_S A s.heap s.heap [] := va_S.rf
  have hl := lv_entry ([.ref (ad 48 0), .int a1, .int a2, .int a3]) (n := 6) (Nat.le_of_ble_eq_true rfl)
  rw [show entryFrame m args 6 = entryFrame m (([.ref (ad 48 0), .int a1, .int a2, .int a3] : List Value).toArray) 6 by rw [hargs], lg_entry_eq]
  generalize (lg_sl ([.ref (ad 48 0), .int a1, .int a2, .int a3]) ++ List.replicate (6 - (lg_sl ([.ref (ad 48 0), .int a1, .int a2, .int a3])).length) Slot.unset).toArray = ls at hl ⊢
  have hl : lv_has ls 6 [(0, .ref (ad 48 0)), (1, .int a1), (2, .int a2), (3, .int a3)] := hl
  generalize hQ0 : MQ below (va_Qi (fun r (_ : Unit) => r = o.2) (fun _ t => Hold D aC A ad n o.1 t.heap) A) args s 0 0 A = Q0
  unfold f_Mo_word at h
  refine lv_aload_n hx hb d_Mo_word_0 rfl (lv_at hl 0 rfl) ?_
  refine lv_iload_n hx hb d_Mo_word_1 rfl (lv_at hl 1 rfl) ?_
  refine lv_iload_n hx hb d_Mo_word_2 rfl (lv_at hl 2 rfl) ?_
  obtain ⟨qc, hc3, h⟩ := b2_some h
  obtain ⟨σ1, x2⟩ := qc
  have h := b2_at h
  refine st_Vi (As := [.int a1, .int a2]) (rest := []) ⟨hx, hb, hml, hown, hg⟩ (c_Mo_hasSymbol l D aC A ad n _ a1 a2 _ hc3) (cwG hg wd_436 wd_437 wd_438 wd_439 wd_428 yd_Mo_hasSymbol ⟨Nat.le_of_ble_eq_true rfl, Nat.le_of_ble_eq_true rfl⟩) hK hH hS hZ hd_48 rfl rfl rfl hl.1 rfl (Nat.le_of_ble_eq_true rfl) d_Mo_word_3 ⟨Nat.zero_le _, Nat.zero_le _⟩ (fun H locs hH hS => ?_)
  refine lv_if_ne (tgt := 12) hx hb d_Mo_word_6 (by decide) (fun c6 => ?_) (fun c6 => ?_)
  · have h := ie h c6
    refine lv_aload_n hx hb d_Mo_word_12 rfl (lv_at hl 0 rfl) ?_
    refine lv_iload_n hx hb d_Mo_word_13 rfl (lv_at hl 1 rfl) ?_
    refine lv_iload_n hx hb d_Mo_word_14 rfl (lv_at hl 2 rfl) ?_
    obtain ⟨qc, hc15, h⟩ := b2_some h
    obtain ⟨σ3, x4⟩ := qc
    have h := b2_at h
    refine st_Vi (As := [.int a1, .int a2]) (rest := []) ⟨hx, hb, hml, hown, hg⟩ (c_Mo_lengthOf l D aC A ad n _ a1 a2 _ hc15) (cwG hg wd_440 wd_441 wd_442 wd_443 wd_428 yd_Mo_lengthOf ⟨Nat.le_of_ble_eq_true rfl, Nat.le_of_ble_eq_true rfl⟩) hK hH hS hZ hd_48 rfl rfl rfl hl.1 rfl (Nat.le_of_ble_eq_true rfl) d_Mo_word_15 ⟨Nat.zero_le _, Nat.zero_le _⟩ (fun H locs hH hS => ?_)
    refine lv_istore (lv' := [(4, .int x4), (0, .ref (ad 48 0)), (1, .int a1), (2, .int a2), (3, .int a3)]) hx hb d_Mo_word_18 hl (by decide) rfl (fun ls hl => ?_)
    refine lv_aload_n hx hb d_Mo_word_20 rfl (lv_at hl 1 rfl) ?_
    refine lv_iload_n hx hb d_Mo_word_21 rfl (lv_at hl 2 rfl) ?_
    obtain ⟨qc, hc22, h⟩ := b2_some h
    obtain ⟨σ5, x6⟩ := qc
    have h := b2_at h
    refine st_Vi (As := [.int a1]) (rest := []) ⟨hx, hb, hml, hown, hg⟩ (c_Mo_kind l D aC A ad n _ a1 _ hc22) (cwG hg wd_457 wd_458 wd_459 wd_460 wd_428 yd_Mo_kind ⟨Nat.le_of_ble_eq_true rfl, Nat.le_of_ble_eq_true rfl⟩) hK hH hS hZ hd_48 rfl rfl rfl hl.1 rfl (Nat.le_of_ble_eq_true rfl) d_Mo_word_22 ⟨Nat.zero_le _, Nat.zero_le _⟩ (fun H locs hH hS => ?_)
    refine lv_iconst (v := 4) hx hb d_Mo_word_25 (by decide) ?_
    refine lv_icmp_eq (tgt := 34) hx hb d_Mo_word_26 (by decide) (fun c26 => ?_) (fun c26 => ?_)
    · have h := it h c26
      refine lv_bipush (v := (-103)) hx hb d_Mo_word_34 (by decide) ?_
      cases h
      rw [← hQ0]
      exact W.iret hx hb hr (fun t ht hW => ⟨⟨_, (), rfl, rfl, by dsimp only; rw [ht]; exact hH⟩, hS.F ht⟩) hS.2.2 d_Mo_word_36
    · have h := ie h c26
      refine lv_iload hx hb d_Mo_word_29 (lv_at hl 0 rfl) ?_
      refine lv_if_ne (tgt := 37) hx hb d_Mo_word_31 (by decide) (fun c31 => ?_) (fun c31 => ?_)
      · have h := ie h c31
        refine lv_aload_n hx hb d_Mo_word_37 rfl (lv_at hl 1 rfl) ?_
        refine lv_iload_n hx hb d_Mo_word_38 rfl (lv_at hl 2 rfl) ?_
        refine lv_iload_n hx hb d_Mo_word_39 rfl (lv_at hl 3 rfl) ?_
        obtain ⟨qc, hc40, h⟩ := b2_some h
        obtain ⟨σ7, x8⟩ := qc
        have h := b2_at h
        refine st_Vi (As := [.int a1, .int a2]) (rest := []) ⟨hx, hb, hml, hown, hg⟩ (c_Mo_wordOf l D aC A ad n _ a1 a2 _ hc40) (cwG hg wd_461 wd_462 wd_463 wd_464 wd_428 yd_Mo_wordOf ⟨Nat.le_of_ble_eq_true rfl, Nat.le_of_ble_eq_true rfl⟩) hK hH hS hZ hd_48 rfl rfl rfl hl.1 rfl (Nat.le_of_ble_eq_true rfl) d_Mo_word_40 ⟨Nat.zero_le _, Nat.zero_le _⟩ (fun H locs hH hS => ?_)
        refine lv_istore (lv' := [(5, .int x8), (4, .int x4), (0, .ref (ad 48 0)), (1, .int a1), (2, .int a2), (3, .int a3)]) hx hb d_Mo_word_43 hl (by decide) rfl (fun ls hl => ?_)
        refine lv_iload_n hx hb d_Mo_word_45 rfl (lv_at hl 5 rfl) ?_
        refine lv_if_eq (tgt := 59) hx hb d_Mo_word_46 (by decide) (fun c46 => ?_) (fun c46 => ?_)
        · have h := it h c46
          refine lv_iload hx hb d_Mo_word_59 (lv_at hl 0 rfl) ?_
          cases h
          rw [← hQ0]
          exact W.iret hx hb hr (fun t ht hW => ⟨⟨_, (), rfl, rfl, by dsimp only; rw [ht]; exact hH⟩, hS.F ht⟩) hS.2.2 d_Mo_word_61
        · have h := ie h c46
          refine lv_iload hx hb d_Mo_word_49 (lv_at hl 0 rfl) ?_
          refine lv_iload hx hb d_Mo_word_51 (lv_at hl 1 rfl) ?_
          obtain ⟨qc, hc53, h⟩ := b2_some h
          obtain ⟨σ9, x10⟩ := qc
          have h := b2_at h
          refine st_Si (As := [.int x8, .int x4]) (rest := []) ⟨hx, hb, hml, hown, hg⟩ (c_Mo_turn l D aC A ad n _ x8 x4 _ hc53) (cwGS hg wd_465 wd_466 wd_467 wd_428 yd_Mo_turn ⟨Nat.le_of_ble_eq_true rfl, Nat.le_of_ble_eq_true rfl⟩) hK hH hS hZ rfl hl.1 rfl (Nat.le_of_ble_eq_true rfl) d_Mo_word_53 ⟨Nat.zero_le _, Nat.zero_le _⟩ (fun H locs hH hS => ?_)
          refine lv_goto (tgt := 61) hx hb d_Mo_word_56 (by decide) ?_
          cases h
          rw [← hQ0]
          exact W.iret hx hb hr (fun t ht hW => ⟨⟨_, (), rfl, rfl, by dsimp only; rw [ht]; exact hH⟩, hS.F ht⟩) hS.2.2 d_Mo_word_61
      · have h := it h c31
        refine lv_bipush (v := (-103)) hx hb d_Mo_word_34 (by decide) ?_
        cases h
        rw [← hQ0]
        exact W.iret hx hb hr (fun t ht hW => ⟨⟨_, (), rfl, rfl, by dsimp only; rw [ht]; exact hH⟩, hS.F ht⟩) hS.2.2 d_Mo_word_36
  · have h := it h c6
    refine lv_bipush (v := (-101)) hx hb d_Mo_word_9 (by decide) ?_
    cases h
    rw [← hQ0]
    exact W.iret hx hb hr (fun t ht hW => ⟨⟨_, (), rfl, rfl, by dsimp only; rw [ht]; exact hH⟩, hS.F ht⟩) hS.2.2 d_Mo_word_11
set_option maxHeartbeats 4000000 in
set_option maxRecDepth 100000 in
theorem c_Mo_count (l : Launch) (D : va_G) (aC : Nat → ClassId) (A : Nat → Prop) (ad : Nat → Nat → Nat) (n : Nat) (σ : St) (a1 : Int32) (a2 : Int32) (o : St × Int32) (h : f_Mo_count σ a1 a2 = some o) : Met l y_Mo_count w_Mo_count rm_Mo_count (va_Pc [.ref (ad 48 0), .int a1, .int a2] (Pre D aC A ad n σ)) (va_Qi (fun r (_ : Unit) => r = o.2) (fun _ t => Hold D aC A ad n o.1 t.heap) A) 0 0 A := by
  refine Met.ofW (cc := prog_13_method_17_code) (maxL := 4) (ret := (some .int)) (by decide) rfl ?_
  intro p e s m args below meth c s₁ B hml hv
  obtain ⟨hargs, hH, hK, hZ⟩ := hv
  have hx := B.exec
  have hb := B.bytes
  have hr := B.returns
  have hts := atoms_spec (ws := w_Mo_count) B.pre
  have hg : ∀ w ∈ gW, w.before args s = true := fun w h => hts w (List.mem_cons_of_mem _ h)
  have hown : s.vm.findClass "PrefixCodesModel" = some m.cls := findClass_of_methodNamed B.named
  have hlocks := B.notSynchronized
  have hS : va_S A s.heap s.heap [] := va_S.rf
  have hl := lv_entry ([.ref (ad 48 0), .int a1, .int a2]) (n := 4) (Nat.le_of_ble_eq_true rfl)
  rw [show entryFrame m args 4 = entryFrame m (([.ref (ad 48 0), .int a1, .int a2] : List Value).toArray) 4 by rw [hargs], lg_entry_eq]
  generalize (lg_sl ([.ref (ad 48 0), .int a1, .int a2]) ++ List.replicate (4 - (lg_sl ([.ref (ad 48 0), .int a1, .int a2])).length) Slot.unset).toArray = ls at hl ⊢
  have hl : lv_has ls 4 [(0, .ref (ad 48 0)), (1, .int a1), (2, .int a2)] := hl
  generalize hQ0 : MQ below (va_Qi (fun r (_ : Unit) => r = o.2) (fun _ t => Hold D aC A ad n o.1 t.heap) A) args s 0 0 A = Q0
  unfold f_Mo_count at h
  refine lv_iload_n hx hb d_Mo_count_0 rfl (lv_at hl 1 rfl) ?_
  refine lv_if_lt (tgt := 20) hx hb d_Mo_count_1 (by decide) (fun c1 => ?_) (fun c1 => ?_)
  · have h := it h c1
    refine lv_bipush (v := (-102)) hx hb d_Mo_count_20 (by decide) ?_
    cases h
    rw [← hQ0]
    exact W.iret hx hb hr (fun t ht hW => ⟨⟨_, (), rfl, rfl, by dsimp only; rw [ht]; exact hH⟩, hS.F ht⟩) hS.2.2 d_Mo_count_22
  · have h := ie h c1
    refine lv_iload_n hx hb d_Mo_count_4 rfl (lv_at hl 1 rfl) ?_
    refine lv_bipush (v := 64) hx hb d_Mo_count_5 (by decide) ?_
    refine lv_icmp_ge (tgt := 20) hx hb d_Mo_count_7 (by decide) (fun c7 => ?_) (fun c7 => ?_)
    · have h := it h c7
      refine lv_bipush (v := (-102)) hx hb d_Mo_count_20 (by decide) ?_
      cases h
      rw [← hQ0]
      exact W.iret hx hb hr (fun t ht hW => ⟨⟨_, (), rfl, rfl, by dsimp only; rw [ht]; exact hH⟩, hS.F ht⟩) hS.2.2 d_Mo_count_22
    · have h := ie h c7
      refine lv_iload_n hx hb d_Mo_count_10 rfl (lv_at hl 2 rfl) ?_
      refine lv_if_lt (tgt := 20) hx hb d_Mo_count_11 (by decide) (fun c11 => ?_) (fun c11 => ?_)
      · have h := it h c11
        refine lv_bipush (v := (-102)) hx hb d_Mo_count_20 (by decide) ?_
        cases h
        rw [← hQ0]
        exact W.iret hx hb hr (fun t ht hW => ⟨⟨_, (), rfl, rfl, by dsimp only; rw [ht]; exact hH⟩, hS.F ht⟩) hS.2.2 d_Mo_count_22
      · have h := ie h c11
        refine lv_iload_n hx hb d_Mo_count_14 rfl (lv_at hl 2 rfl) ?_
        refine lv_ldc (v := 1000000) hx hb hown (hg _ wd_468) d_Mo_count_15 ?_
        refine lv_icmp_le (tgt := 23) hx hb d_Mo_count_17 (by decide) (fun c17 => ?_) (fun c17 => ?_)
        · have h := it h c17
          refine lv_aload_n hx hb d_Mo_count_23 rfl (lv_at hl 0 rfl) ?_
          refine st_get hx hb hg hown hK hH (f := 48) (i := 0) hd_48 rfl rfl u_Mo 4 (by decide) (hg _ wd_469) (v := .ref (ad 51 0)) rfl d_Mo_count_24 ?_
          refine lv_iload_n hx hb d_Mo_count_27 rfl (lv_at hl 1 rfl) ?_
          obtain ⟨g28, h⟩ := gd_some h
          refine st_iald hx hb hK hH (f := 51) (i := 0) hd_51 rfl g28 d_Mo_count_28 ?_
          refine lv_topi (fun x1 ex1 => ?_)
          have h := nm_at ex1 h
          refine lv_istore_n (lv' := [(3, .int x1), (0, .ref (ad 48 0)), (1, .int a1), (2, .int a2)]) hx hb d_Mo_count_29 rfl hl (by decide) rfl (fun ls hl => ?_)
          refine lv_aload_n hx hb d_Mo_count_30 rfl (lv_at hl 1 rfl) ?_
          refine st_get hx hb hg hown hK hH (f := 48) (i := 0) hd_48 rfl rfl u_Mo 4 (by decide) (hg _ wd_469) (v := .ref (ad 51 0)) rfl d_Mo_count_31 ?_
          refine lv_iload_n hx hb d_Mo_count_34 rfl (lv_at hl 2 rfl) ?_
          refine lv_iload_n hx hb d_Mo_count_35 rfl (lv_at hl 3 rfl) ?_
          obtain ⟨g36, h⟩ := gd_some h
          refine st_iast hx hb hK hH hS (f := 51) (i := 0) hd_51 rfl g36 d_Mo_count_36 (fun σ2 H locs eσ2 hH hS => ?_)
          have h := nm_at eσ2 h
          refine lv_iload_n hx hb d_Mo_count_37 rfl (lv_at hl 0 rfl) ?_
          cases h
          rw [← hQ0]
          exact W.iret hx hb hr (fun t ht hW => ⟨⟨_, (), rfl, rfl, by dsimp only; rw [ht]; exact hH⟩, hS.F ht⟩) hS.2.2 d_Mo_count_38
        · have h := ie h c17
          refine lv_bipush (v := (-102)) hx hb d_Mo_count_20 (by decide) ?_
          cases h
          rw [← hQ0]
          exact W.iret hx hb hr (fun t ht hW => ⟨⟨_, (), rfl, rfl, by dsimp only; rw [ht]; exact hH⟩, hS.F ht⟩) hS.2.2 d_Mo_count_22
set_option maxHeartbeats 4000000 in
set_option maxRecDepth 100000 in
theorem c_Mo_different (l : Launch) (D : va_G) (aC : Nat → ClassId) (A : Nat → Prop) (ad : Nat → Nat → Nat) (n : Nat) (σ : St) (fa1 ia1 na1 : Nat) (a2 : Int32) (hka1 : kd fa1 = .inr (0, na1)) (hda1 : dm n fa1 ia1) (o : St × Int32) (h : f_Mo_different σ fa1 ia1 na1 a2 = some o) : Met l y_Mo_different w_Mo_different rm_Mo_different (va_Pc [.ref (ad fa1 ia1), .int a2] (Pre D aC A ad n σ)) (va_Qi (fun r (_ : Unit) => r = o.2) (fun _ t => Hold D aC A ad n o.1 t.heap) A) 0 0 A := by
  refine Met.ofW (cc := prog_13_method_19_code) (maxL := 4) (ret := (some .int)) (by decide) rfl ?_
  intro p e s m args below meth c s₁ B hml hv
  obtain ⟨hargs, hH, hK, hZ⟩ := hv
  have hx := B.exec
  have hb := B.bytes
  have hr := B.returns
  have hts := atoms_spec (ws := w_Mo_different) B.pre
  have hg : ∀ w ∈ gW, w.before args s = true := fun w h => hts w (List.mem_cons_of_mem _ h)
  have hown : s.vm.findClass "PrefixCodesModel" = some m.cls := findClass_of_methodNamed B.named
  have hlocks := B.notSynchronized
  have hS : va_S A s.heap s.heap [] := va_S.rf
  have hl := lv_entry ([.ref (ad fa1 ia1), .int a2]) (n := 4) (Nat.le_of_ble_eq_true rfl)
  rw [show entryFrame m args 4 = entryFrame m (([.ref (ad fa1 ia1), .int a2] : List Value).toArray) 4 by rw [hargs], lg_entry_eq]
  generalize (lg_sl ([.ref (ad fa1 ia1), .int a2]) ++ List.replicate (4 - (lg_sl ([.ref (ad fa1 ia1), .int a2])).length) Slot.unset).toArray = ls at hl ⊢
  have hl : lv_has ls 4 [(0, .ref (ad fa1 ia1)), (1, .int a2)] := hl
  generalize hQ0 : MQ below (va_Qi (fun r (_ : Unit) => r = o.2) (fun _ t => Hold D aC A ad n o.1 t.heap) A) args s 0 0 A = Q0
  unfold f_Mo_different at h
  refine lv_iconst (v := 0) hx hb d_Mo_different_0 (by decide) ?_
  refine lv_istore_n (lv' := [(2, .int 0), (0, .ref (ad fa1 ia1)), (1, .int a2)]) hx hb d_Mo_different_1 rfl hl (by decide) rfl (fun ls hl => ?_)
  refine lv_iconst (v := 0) hx hb d_Mo_different_2 (by decide) ?_
  refine lv_istore_n (lv' := [(3, .int 0), (2, .int 0), (0, .ref (ad fa1 ia1)), (1, .int a2)]) hx hb d_Mo_different_3 rfl hl (by decide) rfl (fun ls hl => ?_)
  obtain ⟨q1, hq1, h⟩ := b3_some h
  have K1 : ∀ (σ5 : St) (x6 : Int32) (x7 : Int32) (H : Heap) (locs : List Loc) (ls : Array Slot), q1 = (σ5, x6, x7) → Hold D aC A ad n σ5 H → va_S A s.heap H locs → lv_has ls 4 [(0, .ref (ad fa1 ia1)), (1, .int a2), (2, .int x6), (3, .int x7)] → W p l e (headSpec w_Mo_different rm_Mo_different).room s m args below meth c H locs 0 0 Q0 (F0 m 29 ls []) := by
    intro σ5 x6 x7 H locs ls eq1 hH hS hl
    subst eq1
    have h := b3_at h
    refine lv_iload_n hx hb d_Mo_different_29 rfl (lv_at hl 2 rfl) ?_
    cases h
    rw [← hQ0]
    exact W.iret hx hb hr (fun t ht hW => ⟨⟨_, (), rfl, rfl, by dsimp only; rw [ht]; exact hH⟩, hS.F ht⟩) hS.2.2 d_Mo_different_30
  have loop1 : ∀ (k : Nat) (σ : St) (v2 : Int32) (v3 : Int32) (H : Heap) (locs : List Loc) (ls : Array Slot), Hold D aC A ad n σ H → va_S A s.heap H locs → lv_has ls 4 [(0, .ref (ad fa1 ia1)), (1, .int a2), (2, .int v2), (3, .int v3)] → lp (fun q => lb_Mo_different_4 fa1 ia1 na1 a2 q.1 q.2.1 q.2.2) k (σ, v2, v3) = some q1 → W p l e (headSpec w_Mo_different rm_Mo_different).room s m args below meth c H locs 0 0 Q0 (F0 m 4 ls []) := by
    intro k
    induction k with
    | zero => intro σ v2 v3 H locs ls hH hS hl hlp; exact absurd hlp (lp_zero _ _ _)
    | succ k ih1 =>
      intro σ v2 v3 H locs ls hH hS hl hlp
      obtain ⟨z1, h1, hk1⟩ := lp_succ hlp
      have h1 : lb_Mo_different_4 fa1 ia1 na1 a2 σ v2 v3 = some z1 := h1
      unfold lb_Mo_different_4 at h1
      refine lv_iload_n hx hb d_Mo_different_4 rfl (lv_at hl 3 rfl) ?_
      refine lv_iload_n hx hb d_Mo_different_5 rfl (lv_at hl 1 rfl) ?_
      refine lv_icmp_ge (tgt := 29) hx hb d_Mo_different_6 (by decide) (fun c6 => ?_) (fun c6 => ?_)
      · have h1 := it h1 c6
        cases h1
        exact K1 σ v2 v3 _ _ ls (Option.some.inj hk1).symm hH hS (lv_sub hl [0, 1, 2, 3] rfl)
      · have h1 := ie h1 c6
        refine lv_iload_n hx hb d_Mo_different_9 rfl (lv_at hl 2 rfl) ?_
        refine lv_aload_n hx hb d_Mo_different_10 rfl (lv_at hl 0 rfl) ?_
        refine lv_iload_n hx hb d_Mo_different_11 rfl (lv_at hl 3 rfl) ?_
        obtain ⟨g12, h1⟩ := gd_some h1
        refine st_iald hx hb hK hH (f := fa1) (i := ia1) hda1 hka1 g12 d_Mo_different_12 ?_
        refine lv_if_le (tgt := 20) hx hb d_Mo_different_13 (by decide) (fun c13 => ?_) (fun c13 => ?_)
        · have h1 := it h1 c13
          refine lv_iconst (v := 0) hx hb d_Mo_different_20 (by decide) ?_
          refine lv_iadd hx hb d_Mo_different_21 ?_
          refine lv_topi (fun x1 ex1 => ?_)
          have h1 := nm_at ex1 h1
          refine lv_istore_n (lv' := [(2, .int x1), (0, .ref (ad fa1 ia1)), (1, .int a2), (3, .int v3)]) hx hb d_Mo_different_22 rfl hl (by decide) rfl (fun ls hl => ?_)
          obtain ⟨x2, ex2⟩ : ∃ y : Int32, y = v3 + 1 := ⟨_, rfl⟩
          have h1 := nm_at ex2 h1
          refine lv_iinc (v := x2) (lv' := [(3, .int x2), (2, .int x1), (0, .ref (ad fa1 ia1)), (1, .int a2)]) hx hb d_Mo_different_23 hl (k := 3) rfl (by rw [ex2]; rfl) (by decide) rfl (fun ls hl => ?_)
          refine lv_goto (tgt := 4) hx hb d_Mo_different_26 (by decide) ?_
          cases h1
          exact ih1 σ x1 x2 _ _ ls hH hS (lv_sub hl [2, 3, 1, 0] rfl) hk1
        · have h1 := ie h1 c13
          refine lv_iconst (v := 1) hx hb d_Mo_different_16 (by decide) ?_
          refine lv_goto (tgt := 21) hx hb d_Mo_different_17 (by decide) ?_
          refine lv_iadd hx hb d_Mo_different_21 ?_
          refine lv_topi (fun x3 ex3 => ?_)
          have h1 := nm_at ex3 h1
          refine lv_istore_n (lv' := [(2, .int x3), (0, .ref (ad fa1 ia1)), (1, .int a2), (3, .int v3)]) hx hb d_Mo_different_22 rfl hl (by decide) rfl (fun ls hl => ?_)
          obtain ⟨x4, ex4⟩ : ∃ y : Int32, y = v3 + 1 := ⟨_, rfl⟩
          have h1 := nm_at ex4 h1
          refine lv_iinc (v := x4) (lv' := [(3, .int x4), (2, .int x3), (0, .ref (ad fa1 ia1)), (1, .int a2)]) hx hb d_Mo_different_23 hl (k := 3) rfl (by rw [ex4]; rfl) (by decide) rfl (fun ls hl => ?_)
          refine lv_goto (tgt := 4) hx hb d_Mo_different_26 (by decide) ?_
          cases h1
          exact ih1 σ x3 x4 _ _ ls hH hS (lv_sub hl [2, 3, 1, 0] rfl) hk1
  obtain ⟨k1, hq1⟩ := lpE_some hq1
  exact loop1 k1 σ 0 0 _ _ ls hH hS (lv_sub hl [2, 3, 1, 0] rfl) hq1
set_option maxHeartbeats 4000000 in
set_option maxRecDepth 100000 in
theorem c_Mo_countText (l : Launch) (D : va_G) (aC : Nat → ClassId) (A : Nat → Prop) (ad : Nat → Nat → Nat) (n : Nat) (σ : St) (o : St × Int32) (h : f_Mo_countText σ  = some o) : Met l y_Mo_countText w_Mo_countText rm_Mo_countText (va_Pc [.ref (ad 48 0)] (Pre D aC A ad n σ)) (va_Qi (fun r (_ : Unit) => r = o.2) (fun _ t => Hold D aC A ad n o.1 t.heap) A) 0 0 A := by
  refine Met.ofW (cc := prog_13_method_18_code) (maxL := 2) (ret := (some .int)) (by decide) rfl ?_
  intro p e s m args below meth c s₁ B hml hv
  obtain ⟨hargs, hH, hK, hZ⟩ := hv
  have hx := B.exec
  have hb := B.bytes
  have hr := B.returns
  have hts := atoms_spec (ws := w_Mo_countText) B.pre
  have hg : ∀ w ∈ gW, w.before args s = true := fun w h => hts w (List.mem_cons_of_mem _ h)
  have hown : s.vm.findClass "PrefixCodesModel" = some m.cls := findClass_of_methodNamed B.named
  have hlocks := B.notSynchronized
  have hS : va_S A s.heap s.heap [] := va_S.rf
  have hl := lv_entry ([.ref (ad 48 0)]) (n := 2) (Nat.le_of_ble_eq_true rfl)
  rw [show entryFrame m args 2 = entryFrame m (([.ref (ad 48 0)] : List Value).toArray) 2 by rw [hargs], lg_entry_eq]
  generalize (lg_sl ([.ref (ad 48 0)]) ++ List.replicate (2 - (lg_sl ([.ref (ad 48 0)])).length) Slot.unset).toArray = ls at hl ⊢
  have hl : lv_has ls 2 [(0, .ref (ad 48 0))] := hl
  generalize hQ0 : MQ below (va_Qi (fun r (_ : Unit) => r = o.2) (fun _ t => Hold D aC A ad n o.1 t.heap) A) args s 0 0 A = Q0
  unfold f_Mo_countText at h
  refine lv_iconst (v := 0) hx hb d_Mo_countText_0 (by decide) ?_
  refine lv_istore_n (lv' := [(1, .int 0), (0, .ref (ad 48 0))]) hx hb d_Mo_countText_1 rfl hl (by decide) rfl (fun ls hl => ?_)
  obtain ⟨q1, hq1, h⟩ := b2_some h
  have K1 : ∀ (σ3 : St) (x4 : Int32) (H : Heap) (locs : List Loc) (ls : Array Slot), q1 = (σ3, x4) → Hold D aC A ad n σ3 H → va_S A s.heap H locs → lv_has ls 2 [(0, .ref (ad 48 0)), (1, .int x4)] → W p l e (headSpec w_Mo_countText rm_Mo_countText).room s m args below meth c H locs 0 0 Q0 (F0 m 21 ls []) := by
    intro σ3 x4 H locs ls eq1 hH hS hl
    subst eq1
    have h := b2_at h
    refine lv_iconst (v := 0) hx hb d_Mo_countText_21 (by decide) ?_
    refine lv_istore_n (lv' := [(1, .int 0), (0, .ref (ad 48 0))]) hx hb d_Mo_countText_22 rfl hl (by decide) rfl (fun ls hl => ?_)
    obtain ⟨q1, hq1, h⟩ := b2_some h
    have K1 : ∀ (σ7 : St) (x8 : Int32) (H : Heap) (locs : List Loc) (ls : Array Slot), q1 = (σ7, x8) → Hold D aC A ad n σ7 H → va_S A s.heap H locs → lv_has ls 2 [(0, .ref (ad 48 0)), (1, .int x8)] → W p l e (headSpec w_Mo_countText rm_Mo_countText).room s m args below meth c H locs 0 0 Q0 (F0 m 52 ls []) := by
      intro σ7 x8 H locs ls eq1 hH hS hl
      subst eq1
      have h := b2_at h
      refine lv_aload_n hx hb d_Mo_countText_52 rfl (lv_at hl 0 rfl) ?_
      refine st_get hx hb hg hown hK hH (f := 48) (i := 0) hd_48 rfl rfl u_Mo 4 (by decide) (hg _ wd_469) (v := .ref (ad 51 0)) rfl d_Mo_countText_53 ?_
      refine lv_bipush (v := 64) hx hb d_Mo_countText_56 (by decide) ?_
      obtain ⟨qc, hc58, h⟩ := b2_some h
      obtain ⟨σ9, x10⟩ := qc
      have h := b2_at h
      refine st_Si (As := [.ref (ad 51 0), .int 64]) (rest := []) ⟨hx, hb, hml, hown, hg⟩ (c_Mo_different l D aC A ad n _ 51 0 64 64 rfl hd_51 _ hc58) (cwGS hg wd_472 wd_473 wd_474 wd_428 yd_Mo_different ⟨Nat.le_of_ble_eq_true rfl, Nat.le_of_ble_eq_true rfl⟩) hK hH hS hZ rfl hl.1 rfl (Nat.le_of_ble_eq_true rfl) d_Mo_countText_58 ⟨Nat.zero_le _, Nat.zero_le _⟩ (fun H locs hH hS => ?_)
      cases h
      rw [← hQ0]
      exact W.iret hx hb hr (fun t ht hW => ⟨⟨_, (), rfl, rfl, by dsimp only; rw [ht]; exact hH⟩, hS.F ht⟩) hS.2.2 d_Mo_countText_61
    have loop1 : ∀ (k : Nat) (σ : St) (v1 : Int32) (H : Heap) (locs : List Loc) (ls : Array Slot), Hold D aC A ad n σ H → va_S A s.heap H locs → lv_has ls 2 [(0, .ref (ad 48 0)), (1, .int v1)] → lp (fun q => lb_Mo_countText_23 q.1 q.2) k (σ, v1) = some q1 → W p l e (headSpec w_Mo_countText rm_Mo_countText).room s m args below meth c H locs 0 0 Q0 (F0 m 23 ls []) := by
      intro k
      induction k with
      | zero => intro σ v1 H locs ls hH hS hl hlp; exact absurd hlp (lp_zero _ _ _)
      | succ k ih1 =>
        intro σ v1 H locs ls hH hS hl hlp
        obtain ⟨z1, h1, hk1⟩ := lp_succ hlp
        have h1 : lb_Mo_countText_23 σ v1 = some z1 := h1
        unfold lb_Mo_countText_23 at h1
        refine lv_iload_n hx hb d_Mo_countText_23 rfl (lv_at hl 1 rfl) ?_
        refine lv_aload_n hx hb d_Mo_countText_24 rfl (lv_at hl 0 rfl) ?_
        refine st_get hx hb hg hown hK hH (f := 48) (i := 0) hd_48 rfl rfl u_Mo 22 (by decide) (hg _ wd_470) (v := .int (σ.1 48 0 22)) rfl d_Mo_countText_25 ?_
        refine lv_icmp_ge (tgt := 52) hx hb d_Mo_countText_28 (by decide) (fun c28 => ?_) (fun c28 => ?_)
        · have h1 := it h1 c28
          cases h1
          exact K1 σ v1 _ _ ls (Option.some.inj hk1).symm hH hS (lv_sub hl [0, 1] rfl)
        · have h1 := ie h1 c28
          refine lv_aload_n hx hb d_Mo_countText_31 rfl (lv_at hl 0 rfl) ?_
          refine st_get hx hb hg hown hK hH (f := 48) (i := 0) hd_48 rfl rfl u_Mo 4 (by decide) (hg _ wd_469) (v := .ref (ad 51 0)) rfl d_Mo_countText_32 ?_
          refine lv_aload_n hx hb d_Mo_countText_35 rfl (lv_at hl 0 rfl) ?_
          refine st_get hx hb hg hown hK hH (f := 48) (i := 0) hd_48 rfl rfl u_Mo 21 (by decide) (hg _ wd_471) (v := .ref (ad 64 0)) rfl d_Mo_countText_36 ?_
          refine lv_iload_n hx hb d_Mo_countText_39 rfl (lv_at hl 1 rfl) ?_
          obtain ⟨g40, h1⟩ := gd_some h1
          refine st_iald hx hb hK hH (f := 64) (i := 0) hd_64 rfl g40 d_Mo_countText_40 ?_
          refine lv_dup2_11 hx hb d_Mo_countText_41 rfl rfl ?_
          obtain ⟨g42, h1⟩ := gd_some h1
          refine st_iald hx hb hK hH (f := 51) (i := 0) hd_51 rfl g42 d_Mo_countText_42 ?_
          refine lv_iconst (v := 1) hx hb d_Mo_countText_43 (by decide) ?_
          refine lv_iadd hx hb d_Mo_countText_44 ?_
          obtain ⟨g45, h1⟩ := gd_some h1
          refine st_iast hx hb hK hH hS (f := 51) (i := 0) hd_51 rfl g45 d_Mo_countText_45 (fun σ5 H locs eσ5 hH hS => ?_)
          have h1 := nm_at eσ5 h1
          obtain ⟨x6, ex6⟩ : ∃ y : Int32, y = v1 + 1 := ⟨_, rfl⟩
          have h1 := nm_at ex6 h1
          refine lv_iinc (v := x6) (lv' := [(1, .int x6), (0, .ref (ad 48 0))]) hx hb d_Mo_countText_46 hl (k := 1) rfl (by rw [ex6]; rfl) (by decide) rfl (fun ls hl => ?_)
          refine lv_goto (tgt := 23) hx hb d_Mo_countText_49 (by decide) ?_
          cases h1
          exact ih1 σ5 x6 _ _ ls hH hS (lv_sub hl [1, 0] rfl) hk1
    obtain ⟨k1, hq1⟩ := lpE_some hq1
    exact loop1 k1 σ3 0 _ _ ls hH hS (lv_sub hl [1, 0] rfl) hq1
  have loop1 : ∀ (k : Nat) (σ : St) (v1 : Int32) (H : Heap) (locs : List Loc) (ls : Array Slot), Hold D aC A ad n σ H → va_S A s.heap H locs → lv_has ls 2 [(0, .ref (ad 48 0)), (1, .int v1)] → lp (fun q => lb_Mo_countText_2 q.1 q.2) k (σ, v1) = some q1 → W p l e (headSpec w_Mo_countText rm_Mo_countText).room s m args below meth c H locs 0 0 Q0 (F0 m 2 ls []) := by
    intro k
    induction k with
    | zero => intro σ v1 H locs ls hH hS hl hlp; exact absurd hlp (lp_zero _ _ _)
    | succ k ih1 =>
      intro σ v1 H locs ls hH hS hl hlp
      obtain ⟨z1, h1, hk1⟩ := lp_succ hlp
      have h1 : lb_Mo_countText_2 σ v1 = some z1 := h1
      unfold lb_Mo_countText_2 at h1
      refine lv_iload_n hx hb d_Mo_countText_2 rfl (lv_at hl 1 rfl) ?_
      refine lv_bipush (v := 64) hx hb d_Mo_countText_3 (by decide) ?_
      refine lv_icmp_ge (tgt := 21) hx hb d_Mo_countText_5 (by decide) (fun c5 => ?_) (fun c5 => ?_)
      · have h1 := it h1 c5
        cases h1
        exact K1 σ v1 _ _ ls (Option.some.inj hk1).symm hH hS (lv_sub hl [0, 1] rfl)
      · have h1 := ie h1 c5
        refine lv_aload_n hx hb d_Mo_countText_8 rfl (lv_at hl 0 rfl) ?_
        refine st_get hx hb hg hown hK hH (f := 48) (i := 0) hd_48 rfl rfl u_Mo 4 (by decide) (hg _ wd_469) (v := .ref (ad 51 0)) rfl d_Mo_countText_9 ?_
        refine lv_iload_n hx hb d_Mo_countText_12 rfl (lv_at hl 1 rfl) ?_
        refine lv_iconst (v := 0) hx hb d_Mo_countText_13 (by decide) ?_
        obtain ⟨g14, h1⟩ := gd_some h1
        refine st_iast hx hb hK hH hS (f := 51) (i := 0) hd_51 rfl g14 d_Mo_countText_14 (fun σ1 H locs eσ1 hH hS => ?_)
        have h1 := nm_at eσ1 h1
        obtain ⟨x2, ex2⟩ : ∃ y : Int32, y = v1 + 1 := ⟨_, rfl⟩
        have h1 := nm_at ex2 h1
        refine lv_iinc (v := x2) (lv' := [(1, .int x2), (0, .ref (ad 48 0))]) hx hb d_Mo_countText_15 hl (k := 1) rfl (by rw [ex2]; rfl) (by decide) rfl (fun ls hl => ?_)
        refine lv_goto (tgt := 2) hx hb d_Mo_countText_18 (by decide) ?_
        cases h1
        exact ih1 σ1 x2 _ _ ls hH hS (lv_sub hl [1, 0] rfl) hk1
  obtain ⟨k1, hq1⟩ := lpE_some hq1
  exact loop1 k1 σ 0 _ _ ls hH hS (lv_sub hl [1, 0] rfl) hq1
set_option maxHeartbeats 4000000 in
set_option maxRecDepth 100000 in
theorem c_Mo_join (l : Launch) (D : va_G) (aC : Nat → ClassId) (A : Nat → Prop) (ad : Nat → Nat → Nat) (n : Nat) (σ : St) (a1 : Int32) (a2 : Int32) (o : St) (h : f_Mo_join σ a1 a2 = some o) : Met l y_Mo_join w_Mo_join rm_Mo_join (va_Pc [.ref (ad 48 0), .int a1, .int a2] (Pre D aC A ad n σ)) (va_Qv (fun (_ : Unit) => True) (fun _ t => Hold D aC A ad n o t.heap) A) 0 0 A := by
  refine Met.ofW (cc := prog_13_method_21_code) (maxL := 12) (ret := none) (by decide) rfl ?_
  intro p e s m args below meth c s₁ B hml hv
  obtain ⟨hargs, hH, hK, hZ⟩ := hv
  have hx := B.exec
  have hb := B.bytes
  have hr := B.returns
  have hts := atoms_spec (ws := w_Mo_join) B.pre
  have hg : ∀ w ∈ gW, w.before args s = true := fun w h => hts w (List.mem_cons_of_mem _ h)
  have hown : s.vm.findClass "PrefixCodesModel" = some m.cls := findClass_of_methodNamed B.named
  have hlocks := B.notSynchronized
  have hS : va_S A s.heap s.heap [] := va_S.rf
  have hl := lv_entry ([.ref (ad 48 0), .int a1, .int a2]) (n := 12) (Nat.le_of_ble_eq_true rfl)
  rw [show entryFrame m args 12 = entryFrame m (([.ref (ad 48 0), .int a1, .int a2] : List Value).toArray) 12 by rw [hargs], lg_entry_eq]
  generalize (lg_sl ([.ref (ad 48 0), .int a1, .int a2]) ++ List.replicate (12 - (lg_sl ([.ref (ad 48 0), .int a1, .int a2])).length) Slot.unset).toArray = ls at hl ⊢
  have hl : lv_has ls 12 [(0, .ref (ad 48 0)), (1, .int a1), (2, .int a2)] := hl
  generalize hQ0 : MQ below (va_Qv (fun (_ : Unit) => True) (fun _ t => Hold D aC A ad n o t.heap) A) args s 0 0 A = Q0
  unfold f_Mo_join at h
  refine lv_sipush (v := 128) hx hb d_Mo_join_0 (by decide) ?_
  refine lv_iload_n hx hb d_Mo_join_3 rfl (lv_at hl 1 rfl) ?_
  refine lv_iconst (v := 1) hx hb d_Mo_join_4 (by decide) ?_
  refine lv_isub hx hb d_Mo_join_5 ?_
  refine lv_imul hx hb d_Mo_join_6 ?_
  refine lv_topi (fun x1 ex1 => ?_)
  have h := nm_at ex1 h
  refine lv_istore_n (lv' := [(3, .int x1), (0, .ref (ad 48 0)), (1, .int a1), (2, .int a2)]) hx hb d_Mo_join_7 rfl hl (by decide) rfl (fun ls hl => ?_)
  refine lv_aload_n hx hb d_Mo_join_8 rfl (lv_at hl 1 rfl) ?_
  refine st_get hx hb hg hown hK hH (f := 48) (i := 0) hd_48 rfl rfl u_Mo 8 (by decide) (hg _ wd_475) (v := .ref (ad 55 0)) rfl d_Mo_join_9 ?_
  refine lv_iload_n hx hb d_Mo_join_12 rfl (lv_at hl 2 rfl) ?_
  refine lv_iconst (v := 1) hx hb d_Mo_join_13 (by decide) ?_
  refine lv_isub hx hb d_Mo_join_14 ?_
  obtain ⟨g15, h⟩ := gd_some h
  refine st_iald hx hb hK hH (f := 55) (i := 0) hd_55 rfl g15 d_Mo_join_15 ?_
  refine lv_iconst (v := 2) hx hb d_Mo_join_16 (by decide) ?_
  refine lv_idiv hx hb d_Mo_join_17 (by decide) ?_
  refine lv_topi (fun x2 ex2 => ?_)
  have h := nm_at ex2 h
  refine lv_istore (lv' := [(4, .int x2), (3, .int x1), (0, .ref (ad 48 0)), (1, .int a1), (2, .int a2)]) hx hb d_Mo_join_18 hl (by decide) rfl (fun ls hl => ?_)
  refine lv_iconst (v := 0) hx hb d_Mo_join_20 (by decide) ?_
  refine lv_istore (lv' := [(5, .int 0), (4, .int x2), (3, .int x1), (0, .ref (ad 48 0)), (1, .int a1), (2, .int a2)]) hx hb d_Mo_join_21 hl (by decide) rfl (fun ls hl => ?_)
  refine lv_iconst (v := 0) hx hb d_Mo_join_23 (by decide) ?_
  refine lv_istore (lv' := [(6, .int 0), (5, .int 0), (4, .int x2), (3, .int x1), (0, .ref (ad 48 0)), (1, .int a1), (2, .int a2)]) hx hb d_Mo_join_24 hl (by decide) rfl (fun ls hl => ?_)
  refine lv_iconst (v := 0) hx hb d_Mo_join_26 (by decide) ?_
  refine lv_istore (lv' := [(7, .int 0), (6, .int 0), (5, .int 0), (4, .int x2), (3, .int x1), (0, .ref (ad 48 0)), (1, .int a1), (2, .int a2)]) hx hb d_Mo_join_27 hl (by decide) rfl (fun ls hl => ?_)
  obtain ⟨q1, hq1, h⟩ := b4_some h
  have K1 : ∀ (σ12 : St) (x13 : Int32) (x14 : Int32) (x15 : Int32) (H : Heap) (locs : List Loc) (ls : Array Slot), q1 = (σ12, x13, x14, x15) → Hold D aC A ad n σ12 H → va_S A s.heap H locs → lv_has ls 12 [(0, .ref (ad 48 0)), (1, .int a1), (2, .int a2), (3, .int x1), (4, .int x2), (5, .int x13), (6, .int x14), (7, .int x15)] → W p l e (headSpec w_Mo_join rm_Mo_join).room s m args below meth c H locs 0 0 Q0 (F0 m 213 ls []) := by
    intro σ12 x13 x14 x15 H locs ls eq1 hH hS hl
    subst eq1
    have h := b4_at h
    refine lv_aload_n hx hb d_Mo_join_213 rfl (lv_at hl 0 rfl) ?_
    refine st_get hx hb hg hown hK hH (f := 48) (i := 0) hd_48 rfl rfl u_Mo 8 (by decide) (hg _ wd_475) (v := .ref (ad 55 0)) rfl d_Mo_join_214 ?_
    refine lv_iload_n hx hb d_Mo_join_217 rfl (lv_at hl 1 rfl) ?_
    refine lv_iload hx hb d_Mo_join_218 (lv_at hl 7 rfl) ?_
    obtain ⟨g220, h⟩ := gd_some h
    refine st_iast hx hb hK hH hS (f := 55) (i := 0) hd_55 rfl g220 d_Mo_join_220 (fun σ16 H locs eσ16 hH hS => ?_)
    have h := nm_at eσ16 h
    cases h
    rw [← hQ0]
    exact W.vret hx hb hr (fun t ht hW => ⟨⟨(), rfl, trivial, by dsimp only; rw [ht]; exact hH⟩, hS.F ht⟩) hS.2.2 d_Mo_join_221
  have loop1 : ∀ (k : Nat) (σ : St) (v5 : Int32) (v6 : Int32) (v7 : Int32) (H : Heap) (locs : List Loc) (ls : Array Slot), Hold D aC A ad n σ H → va_S A s.heap H locs → lv_has ls 12 [(0, .ref (ad 48 0)), (1, .int a1), (2, .int a2), (3, .int x1), (4, .int x2), (5, .int v5), (6, .int v6), (7, .int v7)] → lp (fun q => lb_Mo_join_29 a1 a2 x1 x2 q.1 q.2.1 q.2.2.1 q.2.2.2) k (σ, v5, v6, v7) = some q1 → W p l e (headSpec w_Mo_join rm_Mo_join).room s m args below meth c H locs 0 0 Q0 (F0 m 29 ls []) := by
    intro k
    induction k with
    | zero => intro σ v5 v6 v7 H locs ls hH hS hl hlp; exact absurd hlp (lp_zero _ _ _)
    | succ k ih1 =>
      intro σ v5 v6 v7 H locs ls hH hS hl hlp
      obtain ⟨z1, h1, hk1⟩ := lp_succ hlp
      have h1 : lb_Mo_join_29 a1 a2 x1 x2 σ v5 v6 v7 = some z1 := h1
      unfold lb_Mo_join_29 at h1
      have J176 : ∀ (σ : St) (p5 : Int32) (p6 : Int32) (p7 : Int32) (p10 : Int32) (k1 : Int32) (k2 : Int32) (H : Heap) (locs : List Loc) (ls : Array Slot), Hold D aC A ad n σ H → va_S A s.heap H locs → lv_has ls 12 [(0, .ref (ad 48 0)), (1, .int a1), (2, .int a2), (3, .int x1), (4, .int x2), (5, .int p5), (6, .int p6), (7, .int p7), (10, .int p10)] → jn_Mo_join_176_6 a1 a2 x1 x2 σ p5 p6 p7 p10 k1 k2 = some z1 → W p l e (headSpec w_Mo_join rm_Mo_join).room s m args below meth c H locs 0 0 Q0 (F0 m 176 ls [.int k2, .int k1, .ref (ad 53 0)]) := by
        intro σ p5 p6 p7 p10 k1 k2  H locs ls hH hS hl h1
        unfold jn_Mo_join_176_6 at h1
        obtain ⟨g176, h1⟩ := gd_some h1
        refine st_iast hx hb hK hH hS (f := 53) (i := 0) hd_53 rfl g176 d_Mo_join_176 (fun σ5 H locs eσ5 hH hS => ?_)
        have h1 := nm_at eσ5 h1
        refine lv_iload hx hb d_Mo_join_177 (lv_at hl 5 rfl) ?_
        refine lv_iload hx hb d_Mo_join_179 (lv_at hl 8 rfl) ?_
        refine lv_if_eq (tgt := 188) hx hb d_Mo_join_181 (by decide) (fun c181 => ?_) (fun c181 => ?_)
        · have h1 := it h1 c181
          refine lv_iconst (v := 0) hx hb d_Mo_join_188 (by decide) ?_
          refine lv_iadd hx hb d_Mo_join_189 ?_
          refine lv_topi (fun x6 ex6 => ?_)
          have h1 := nm_at ex6 h1
          refine lv_istore (lv' := [(5, .int x6), (0, .ref (ad 48 0)), (1, .int a1), (2, .int a2), (3, .int x1), (4, .int x2), (6, .int p6), (7, .int p7), (10, .int p10)]) hx hb d_Mo_join_190 hl (by decide) rfl (fun ls hl => ?_)
          refine lv_iload hx hb d_Mo_join_192 (lv_at hl 6 rfl) ?_
          refine lv_iload hx hb d_Mo_join_194 (lv_at hl 8 rfl) ?_
          refine lv_if_eq (tgt := 203) hx hb d_Mo_join_196 (by decide) (fun c196 => ?_) (fun c196 => False.elim (by first | exact c196 c181 | exact c181 c196))
          refine lv_iconst (v := 1) hx hb d_Mo_join_203 (by decide) ?_
          refine lv_iadd hx hb d_Mo_join_204 ?_
          refine lv_topi (fun x7 ex7 => ?_)
          have h1 := nm_at ex7 h1
          refine lv_istore (lv' := [(6, .int x7), (5, .int x6), (0, .ref (ad 48 0)), (1, .int a1), (2, .int a2), (3, .int x1), (4, .int x2), (7, .int p7), (10, .int p10)]) hx hb d_Mo_join_205 hl (by decide) rfl (fun ls hl => ?_)
          obtain ⟨x8, ex8⟩ : ∃ y : Int32, y = p7 + 1 := ⟨_, rfl⟩
          have h1 := nm_at ex8 h1
          refine lv_iinc (v := x8) (lv' := [(7, .int x8), (6, .int x7), (5, .int x6), (0, .ref (ad 48 0)), (1, .int a1), (2, .int a2), (3, .int x1), (4, .int x2), (10, .int p10)]) hx hb d_Mo_join_207 hl (k := 7) rfl (by rw [ex8]; rfl) (by decide) rfl (fun ls hl => ?_)
          refine lv_goto (tgt := 29) hx hb d_Mo_join_210 (by decide) ?_
          cases h1
          exact ih1 σ5 x6 x7 x8 _ _ ls hH hS (lv_sub hl [3, 4, 5, 6, 7, 2, 1, 0] rfl) hk1
        · have h1 := ie h1 c181
          refine lv_iconst (v := 1) hx hb d_Mo_join_184 (by decide) ?_
          refine lv_goto (tgt := 189) hx hb d_Mo_join_185 (by decide) ?_
          refine lv_iadd hx hb d_Mo_join_189 ?_
          refine lv_topi (fun x9 ex9 => ?_)
          have h1 := nm_at ex9 h1
          refine lv_istore (lv' := [(5, .int x9), (0, .ref (ad 48 0)), (1, .int a1), (2, .int a2), (3, .int x1), (4, .int x2), (6, .int p6), (7, .int p7), (10, .int p10)]) hx hb d_Mo_join_190 hl (by decide) rfl (fun ls hl => ?_)
          refine lv_iload hx hb d_Mo_join_192 (lv_at hl 6 rfl) ?_
          refine lv_iload hx hb d_Mo_join_194 (lv_at hl 8 rfl) ?_
          refine lv_if_eq (tgt := 203) hx hb d_Mo_join_196 (by decide) (fun c196 => False.elim (by first | exact c196 c181 | exact c181 c196)) (fun c196 => ?_)
          refine lv_iconst (v := 0) hx hb d_Mo_join_199 (by decide) ?_
          refine lv_goto (tgt := 204) hx hb d_Mo_join_200 (by decide) ?_
          refine lv_iadd hx hb d_Mo_join_204 ?_
          refine lv_topi (fun x10 ex10 => ?_)
          have h1 := nm_at ex10 h1
          refine lv_istore (lv' := [(6, .int x10), (5, .int x9), (0, .ref (ad 48 0)), (1, .int a1), (2, .int a2), (3, .int x1), (4, .int x2), (7, .int p7), (10, .int p10)]) hx hb d_Mo_join_205 hl (by decide) rfl (fun ls hl => ?_)
          obtain ⟨x11, ex11⟩ : ∃ y : Int32, y = p7 + 1 := ⟨_, rfl⟩
          have h1 := nm_at ex11 h1
          refine lv_iinc (v := x11) (lv' := [(7, .int x11), (6, .int x10), (5, .int x9), (0, .ref (ad 48 0)), (1, .int a1), (2, .int a2), (3, .int x1), (4, .int x2), (10, .int p10)]) hx hb d_Mo_join_207 hl (k := 7) rfl (by rw [ex11]; rfl) (by decide) rfl (fun ls hl => ?_)
          refine lv_goto (tgt := 29) hx hb d_Mo_join_210 (by decide) ?_
          cases h1
          exact ih1 σ5 x9 x10 x11 _ _ ls hH hS (lv_sub hl [3, 4, 5, 6, 7, 2, 1, 0] rfl) hk1
      have J146 : ∀ (σ : St) (p5 : Int32) (p6 : Int32) (p7 : Int32) (p10 : Int32) (p11 : Int32) (k1 : Int32) (k2 : Int64) (H : Heap) (locs : List Loc) (ls : Array Slot), Hold D aC A ad n σ H → va_S A s.heap H locs → lv_has ls 12 [(0, .ref (ad 48 0)), (1, .int a1), (2, .int a2), (3, .int x1), (4, .int x2), (5, .int p5), (6, .int p6), (7, .int p7), (10, .int p10), (11, .int p11)] → jn_Mo_join_146_5 a1 a2 x1 x2 σ p5 p6 p7 p10 p11 k1 k2 = some z1 → W p l e (headSpec w_Mo_join rm_Mo_join).room s m args below meth c H locs 0 0 Q0 (F0 m 146 ls [.long k2, .int k1, .ref (ad 52 0)]) := by
        intro σ p5 p6 p7 p10 p11 k1 k2  H locs ls hH hS hl h1
        unfold jn_Mo_join_146_5 at h1
        obtain ⟨g146, h1⟩ := gd_some h1
        refine st_last hx hb hK hH hS (f := 52) (i := 0) hd_52 rfl g146 d_Mo_join_146 (fun σ4 H locs eσ4 hH hS => ?_)
        have h1 := nm_at eσ4 h1
        refine lv_aload_n hx hb d_Mo_join_147 rfl (lv_at hl 0 rfl) ?_
        refine st_get hx hb hg hown hK hH (f := 48) (i := 0) hd_48 rfl rfl u_Mo 6 (by decide) (hg _ wd_477) (v := .ref (ad 53 0)) rfl d_Mo_join_148 ?_
        refine lv_iload hx hb d_Mo_join_151 (lv_at hl 9 rfl) ?_
        refine lv_iload hx hb d_Mo_join_153 (lv_at hl 8 rfl) ?_
        refine lv_if_eq (tgt := 168) hx hb d_Mo_join_155 (by decide) (fun c155 => ?_) (fun c155 => ?_)
        · have h1 := it h1 c155
          refine lv_sipush (v := 1000) hx hb d_Mo_join_168 (by decide) ?_
          refine lv_iconst (v := 2) hx hb d_Mo_join_171 (by decide) ?_
          refine lv_iload hx hb d_Mo_join_172 (lv_at hl 6 rfl) ?_
          refine lv_imul hx hb d_Mo_join_174 ?_
          refine lv_iadd hx hb d_Mo_join_175 ?_
          exact J176 σ4 p5 p6 p7 p10 p11 (1000 + (2 * p6)) _ _ ls hH hS (lv_sub hl [0, 1, 2, 3, 4, 5, 6, 7, 8] rfl) h1
        · have h1 := ie h1 c155
          refine lv_aload_n hx hb d_Mo_join_158 rfl (lv_at hl 0 rfl) ?_
          refine st_get hx hb hg hown hK hH (f := 48) (i := 0) hd_48 rfl rfl u_Mo 6 (by decide) (hg _ wd_477) (v := .ref (ad 53 0)) rfl d_Mo_join_159 ?_
          refine lv_iload hx hb d_Mo_join_162 (lv_at hl 5 rfl) ?_
          obtain ⟨g164, h1⟩ := gd_some h1
          refine st_iald hx hb hK hH (f := 53) (i := 0) hd_53 rfl g164 d_Mo_join_164 ?_
          refine lv_goto (tgt := 176) hx hb d_Mo_join_165 (by decide) ?_
          exact J176 σ4 p5 p6 p7 p10 p11 (σ4.1 53 0 p5.toNatClampNeg) _ _ ls hH hS (lv_sub hl [0, 1, 2, 3, 4, 5, 6, 7, 8] rfl) h1
      have J111 : ∀ (σ : St) (p5 : Int32) (p6 : Int32) (p7 : Int32) (p8 : Int64) (k0 : Int32) (H : Heap) (locs : List Loc) (ls : Array Slot), Hold D aC A ad n σ H → va_S A s.heap H locs → lv_has ls 12 [(0, .ref (ad 48 0)), (1, .int a1), (2, .int a2), (3, .int x1), (4, .int x2), (5, .int p5), (6, .int p6), (7, .int p7), (8, .long p8)] → jn_Mo_join_111_4 a1 a2 x1 x2 σ p5 p6 p7 p8 k0 = some z1 → W p l e (headSpec w_Mo_join rm_Mo_join).room s m args below meth c H locs 0 0 Q0 (F0 m 111 ls [.int k0]) := by
        intro σ p5 p6 p7 p8 k0  H locs ls hH hS hl h1
        unfold jn_Mo_join_111_4 at h1
        refine lv_istore (lv' := [(10, .int k0), (0, .ref (ad 48 0)), (1, .int a1), (2, .int a2), (3, .int x1), (4, .int x2), (5, .int p5), (6, .int p6), (7, .int p7), (8, .long p8)]) hx hb d_Mo_join_111 hl (by decide) rfl (fun ls hl => ?_)
        refine lv_sipush (v := 128) hx hb d_Mo_join_113 (by decide) ?_
        refine lv_iload_n hx hb d_Mo_join_116 rfl (lv_at hl 2 rfl) ?_
        refine lv_imul hx hb d_Mo_join_117 ?_
        refine lv_iload hx hb d_Mo_join_118 (lv_at hl 8 rfl) ?_
        refine lv_iadd hx hb d_Mo_join_120 ?_
        refine lv_topi (fun x3 ex3 => ?_)
        have h1 := nm_at ex3 h1
        refine lv_istore (lv' := [(11, .int x3), (10, .int k0), (0, .ref (ad 48 0)), (1, .int a1), (2, .int a2), (3, .int x1), (4, .int x2), (5, .int p5), (6, .int p6), (7, .int p7), (8, .long p8)]) hx hb d_Mo_join_121 hl (by decide) rfl (fun ls hl => ?_)
        refine lv_aload_n hx hb d_Mo_join_123 rfl (lv_at hl 2 rfl) ?_
        refine st_get hx hb hg hown hK hH (f := 48) (i := 0) hd_48 rfl rfl u_Mo 5 (by decide) (hg _ wd_476) (v := .ref (ad 52 0)) rfl d_Mo_join_124 ?_
        refine lv_iload hx hb d_Mo_join_127 (lv_at hl 0 rfl) ?_
        refine lv_iload hx hb d_Mo_join_129 (lv_at hl 1 rfl) ?_
        refine lv_if_eq (tgt := 144) hx hb d_Mo_join_131 (by decide) (fun c131 => ?_) (fun c131 => ?_)
        · have h1 := it h1 c131
          refine lv_lload hx hb d_Mo_join_144 (lv_at hl 10 rfl) ?_
          exact J146 σ p5 p6 p7 k0 x3 x3 p8 _ _ ls hH hS (lv_sub hl [2, 3, 4, 5, 6, 7, 8, 9, 1, 0] rfl) h1
        · have h1 := ie h1 c131
          refine lv_aload_n hx hb d_Mo_join_134 rfl (lv_at hl 2 rfl) ?_
          refine st_get hx hb hg hown hK hH (f := 48) (i := 0) hd_48 rfl rfl u_Mo 5 (by decide) (hg _ wd_476) (v := .ref (ad 52 0)) rfl d_Mo_join_135 ?_
          refine lv_iload hx hb d_Mo_join_138 (lv_at hl 7 rfl) ?_
          obtain ⟨g140, h1⟩ := gd_some h1
          refine st_lald hx hb hK hH (f := 52) (i := 0) hd_52 rfl g140 d_Mo_join_140 ?_
          refine lv_goto (tgt := 146) hx hb d_Mo_join_141 (by decide) ?_
          exact J146 σ p5 p6 p7 k0 x3 x3 (σ.2.1 52 0 p5.toNatClampNeg) _ _ ls hH hS (lv_sub hl [2, 3, 4, 5, 6, 7, 8, 9, 1, 0] rfl) h1
      have J106 : ∀ (σ : St) (p5 : Int32) (p6 : Int32) (p7 : Int32) (p8 : Int64) (H : Heap) (locs : List Loc) (ls : Array Slot), Hold D aC A ad n σ H → va_S A s.heap H locs → lv_has ls 12 [(0, .ref (ad 48 0)), (1, .int a1), (2, .int a2), (3, .int x1), (4, .int x2), (5, .int p5), (6, .int p6), (7, .int p7), (8, .long p8)] → jn_Mo_join_106_3 a1 a2 x1 x2 σ p5 p6 p7 p8 = some z1 → W p l e (headSpec w_Mo_join rm_Mo_join).room s m args below meth c H locs 0 0 Q0 (F0 m 106 ls []) := by
        intro σ p5 p6 p7 p8  H locs ls hH hS hl h1
        unfold jn_Mo_join_106_3 at h1
        refine lv_iconst (v := 1) hx hb d_Mo_join_106 (by decide) ?_
        refine lv_goto (tgt := 111) hx hb d_Mo_join_107 (by decide) ?_
        exact J111 σ p5 p6 p7 p8 1 _ _ ls hH hS (lv_sub hl [0, 1, 2, 3, 4, 5, 6, 7, 8] rfl) h1
      have J110 : ∀ (σ : St) (p5 : Int32) (p6 : Int32) (p7 : Int32) (p8 : Int64) (H : Heap) (locs : List Loc) (ls : Array Slot), Hold D aC A ad n σ H → va_S A s.heap H locs → lv_has ls 12 [(0, .ref (ad 48 0)), (1, .int a1), (2, .int a2), (3, .int x1), (4, .int x2), (5, .int p5), (6, .int p6), (7, .int p7), (8, .long p8)] → jn_Mo_join_110_7 a1 a2 x1 x2 σ p5 p6 p7 p8 = some z1 → W p l e (headSpec w_Mo_join rm_Mo_join).room s m args below meth c H locs 0 0 Q0 (F0 m 110 ls []) := by
        intro σ p5 p6 p7 p8  H locs ls hH hS hl h1
        unfold jn_Mo_join_110_7 at h1
        refine lv_iconst (v := 0) hx hb d_Mo_join_110 (by decide) ?_
        exact J111 σ p5 p6 p7 p8 0 _ _ ls hH hS (lv_sub hl [0, 1, 2, 3, 4, 5, 6, 7, 8] rfl) h1
      have J78 : ∀ (σ : St) (p5 : Int32) (p6 : Int32) (p7 : Int32) (k0 : Int64) (H : Heap) (locs : List Loc) (ls : Array Slot), Hold D aC A ad n σ H → va_S A s.heap H locs → lv_has ls 12 [(0, .ref (ad 48 0)), (1, .int a1), (2, .int a2), (3, .int x1), (4, .int x2), (5, .int p5), (6, .int p6), (7, .int p7)] → jn_Mo_join_78_2 a1 a2 x1 x2 σ p5 p6 p7 k0 = some z1 → W p l e (headSpec w_Mo_join rm_Mo_join).room s m args below meth c H locs 0 0 Q0 (F0 m 78 ls [.long k0]) := by
        intro σ p5 p6 p7 k0  H locs ls hH hS hl h1
        unfold jn_Mo_join_78_2 at h1
        refine lv_lstore (lv' := [(8, .long k0), (0, .ref (ad 48 0)), (1, .int a1), (2, .int a2), (3, .int x1), (4, .int x2), (5, .int p5), (6, .int p6), (7, .int p7)]) hx hb d_Mo_join_78 hl (by decide) rfl (fun ls hl => ?_)
        refine lv_iload hx hb d_Mo_join_80 (lv_at hl 7 rfl) ?_
        refine lv_iload hx hb d_Mo_join_82 (lv_at hl 5 rfl) ?_
        refine lv_icmp_eq (tgt := 106) hx hb d_Mo_join_84 (by decide) (fun c84 => ?_) (fun c84 => ?_)
        · have h1 := it h1 c84
          exact J106 σ p5 p6 p7 k0 _ _ ls hH hS (lv_sub hl [1, 2, 3, 4, 5, 6, 7, 8, 0] rfl) h1
        · have h1 := ie h1 c84
          refine lv_iload hx hb d_Mo_join_87 (lv_at hl 6 rfl) ?_
          refine lv_iload_n hx hb d_Mo_join_89 rfl (lv_at hl 3 rfl) ?_
          refine lv_icmp_ge (tgt := 110) hx hb d_Mo_join_90 (by decide) (fun c90 => ?_) (fun c90 => ?_)
          · have h1 := it h1 c90
            exact J110 σ p5 p6 p7 k0 _ _ ls hH hS (lv_sub hl [1, 2, 3, 4, 5, 6, 7, 8, 0] rfl) h1
          · have h1 := ie h1 c90
            refine lv_aload_n hx hb d_Mo_join_93 rfl (lv_at hl 1 rfl) ?_
            refine st_get hx hb hg hown hK hH (f := 48) (i := 0) hd_48 rfl rfl u_Mo 5 (by decide) (hg _ wd_476) (v := .ref (ad 52 0)) rfl d_Mo_join_94 ?_
            refine lv_iload hx hb d_Mo_join_97 (lv_at hl 6 rfl) ?_
            obtain ⟨g99, h1⟩ := gd_some h1
            refine st_lald hx hb hK hH (f := 52) (i := 0) hd_52 rfl g99 d_Mo_join_99 ?_
            refine lv_lload hx hb d_Mo_join_100 (lv_at hl 0 rfl) ?_
            refine st_lcmp_gt (tgt := 110) hx hb d_Mo_join_102 d_Mo_join_103 (by decide) (fun c102 => ?_) (fun c102 => ?_)
            · have h1 := it h1 c102
              exact J110 σ p5 p6 p7 k0 _ _ ls hH hS (lv_sub hl [1, 2, 3, 4, 5, 6, 7, 8, 0] rfl) h1
            · have h1 := ie h1 c102
              exact J106 σ p5 p6 p7 k0 _ _ ls hH hS (lv_sub hl [1, 2, 3, 4, 5, 6, 7, 8, 0] rfl) h1
      have J42 : ∀ (σ : St) (p5 : Int32) (p6 : Int32) (p7 : Int32) (H : Heap) (locs : List Loc) (ls : Array Slot), Hold D aC A ad n σ H → va_S A s.heap H locs → lv_has ls 12 [(0, .ref (ad 48 0)), (1, .int a1), (2, .int a2), (3, .int x1), (4, .int x2), (5, .int p5), (6, .int p6), (7, .int p7)] → jn_Mo_join_42 a1 a2 x1 x2 σ p5 p6 p7 = some z1 → W p l e (headSpec w_Mo_join rm_Mo_join).room s m args below meth c H locs 0 0 Q0 (F0 m 42 ls []) := by
        intro σ p5 p6 p7  H locs ls hH hS hl h1
        unfold jn_Mo_join_42 at h1
        refine lv_iload hx hb d_Mo_join_42 (lv_at hl 6 rfl) ?_
        refine lv_iload hx hb d_Mo_join_44 (lv_at hl 4 rfl) ?_
        refine lv_icmp_ge (tgt := 77) hx hb d_Mo_join_46 (by decide) (fun c46 => ?_) (fun c46 => ?_)
        · have h1 := it h1 c46
          refine lv_lconst (v := 0) hx hb d_Mo_join_77 (by decide) ?_
          exact J78 σ p5 p6 p7 0 _ _ ls hH hS (lv_sub hl [0, 1, 2, 3, 4, 5, 6, 7] rfl) h1
        · have h1 := ie h1 c46
          refine lv_aload_n hx hb d_Mo_join_49 rfl (lv_at hl 0 rfl) ?_
          refine st_get hx hb hg hown hK hH (f := 48) (i := 0) hd_48 rfl rfl u_Mo 5 (by decide) (hg _ wd_476) (v := .ref (ad 52 0)) rfl d_Mo_join_50 ?_
          refine lv_iload_n hx hb d_Mo_join_53 rfl (lv_at hl 3 rfl) ?_
          refine lv_iconst (v := 2) hx hb d_Mo_join_54 (by decide) ?_
          refine lv_iload hx hb d_Mo_join_55 (lv_at hl 6 rfl) ?_
          refine lv_imul hx hb d_Mo_join_57 ?_
          refine lv_iadd hx hb d_Mo_join_58 ?_
          obtain ⟨g59, h1⟩ := gd_some h1
          refine st_lald hx hb hK hH (f := 52) (i := 0) hd_52 rfl g59 d_Mo_join_59 ?_
          refine lv_aload_n hx hb d_Mo_join_60 rfl (lv_at hl 0 rfl) ?_
          refine st_get hx hb hg hown hK hH (f := 48) (i := 0) hd_48 rfl rfl u_Mo 5 (by decide) (hg _ wd_476) (v := .ref (ad 52 0)) rfl d_Mo_join_61 ?_
          refine lv_iload_n hx hb d_Mo_join_64 rfl (lv_at hl 3 rfl) ?_
          refine lv_iconst (v := 2) hx hb d_Mo_join_65 (by decide) ?_
          refine lv_iload hx hb d_Mo_join_66 (lv_at hl 6 rfl) ?_
          refine lv_imul hx hb d_Mo_join_68 ?_
          refine lv_iadd hx hb d_Mo_join_69 ?_
          refine lv_iconst (v := 1) hx hb d_Mo_join_70 (by decide) ?_
          refine lv_iadd hx hb d_Mo_join_71 ?_
          obtain ⟨g72, h1⟩ := gd_some h1
          refine st_lald hx hb hK hH (f := 52) (i := 0) hd_52 rfl g72 d_Mo_join_72 ?_
          refine lv_ladd hx hb d_Mo_join_73 ?_
          refine lv_goto (tgt := 78) hx hb d_Mo_join_74 (by decide) ?_
          exact J78 σ p5 p6 p7 ((σ.2.1 52 0 (x1 + (2 * p6)).toNatClampNeg) + (σ.2.1 52 0 ((x1 + (2 * p6)) + 1).toNatClampNeg)) _ _ ls hH hS (lv_sub hl [0, 1, 2, 3, 4, 5, 6, 7] rfl) h1
      refine lv_iload hx hb d_Mo_join_29 (lv_at hl 5 rfl) ?_
      refine lv_iload_n hx hb d_Mo_join_31 rfl (lv_at hl 2 rfl) ?_
      refine lv_icmp_lt (tgt := 42) hx hb d_Mo_join_32 (by decide) (fun c32 => ?_) (fun c32 => ?_)
      · have h1 := it h1 c32
        exact J42 σ v5 v6 v7 _ _ ls hH hS (lv_sub hl [0, 1, 2, 3, 4, 5, 6, 7] rfl) h1
      · have h1 := ie h1 c32
        refine lv_iload hx hb d_Mo_join_35 (lv_at hl 6 rfl) ?_
        refine lv_iload hx hb d_Mo_join_37 (lv_at hl 4 rfl) ?_
        refine lv_icmp_ge (tgt := 213) hx hb d_Mo_join_39 (by decide) (fun c39 => ?_) (fun c39 => ?_)
        · have h1 := it h1 c39
          cases h1
          exact K1 σ v5 v6 v7 _ _ ls (Option.some.inj hk1).symm hH hS (lv_sub hl [0, 1, 2, 3, 4, 5, 6, 7] rfl)
        · have h1 := ie h1 c39
          exact J42 σ v5 v6 v7 _ _ ls hH hS (lv_sub hl [0, 1, 2, 3, 4, 5, 6, 7] rfl) h1
  obtain ⟨k1, hq1⟩ := lpE_some hq1
  exact loop1 k1 σ 0 0 0 _ _ ls hH hS (lv_sub hl [5, 6, 7, 4, 3, 2, 1, 0] rfl) hq1
