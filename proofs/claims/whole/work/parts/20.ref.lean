theorem d_Mo_thrown_0 : decode prog_13_method_2_code 0 = .ok (.aload_n 0, 1) := by decide +kernel
theorem d_Mo_thrown_1 : decode prog_13_method_2_code 1 = .ok (.getfield 81, 3) := by decide +kernel
theorem d_Mo_thrown_4 : decode prog_13_method_2_code 4 = .ok (.ireturn, 1) := by decide +kernel
theorem d_Mo_has_0 : decode prog_13_method_3_code 0 = .ok (.iload_n 1, 1) := by decide +kernel
theorem d_Mo_has_1 : decode prog_13_method_3_code 1 = .ok (.ifCond .lt 15, 3) := by decide +kernel
theorem d_Mo_has_4 : decode prog_13_method_3_code 4 = .ok (.iload_n 1, 1) := by decide +kernel
theorem d_Mo_has_5 : decode prog_13_method_3_code 5 = .ok (.aload_n 0, 1) := by decide +kernel
theorem d_Mo_has_6 : decode prog_13_method_3_code 6 = .ok (.getfield 84, 3) := by decide +kernel
theorem d_Mo_has_9 : decode prog_13_method_3_code 9 = .ok (.if_icmp .ge 7, 3) := by decide +kernel
theorem d_Mo_has_12 : decode prog_13_method_3_code 12 = .ok (.iconst 1, 1) := by decide +kernel
theorem d_Mo_has_13 : decode prog_13_method_3_code 13 = .ok (.goto 4, 3) := by decide +kernel
theorem d_Mo_has_16 : decode prog_13_method_3_code 16 = .ok (.iconst 0, 1) := by decide +kernel
theorem d_Mo_has_17 : decode prog_13_method_3_code 17 = .ok (.ireturn, 1) := by decide +kernel
theorem d_Mo_hasSymbol_0 : decode prog_13_method_4_code 0 = .ok (.aload_n 0, 1) := by decide +kernel
theorem d_Mo_hasSymbol_1 : decode prog_13_method_4_code 1 = .ok (.iload_n 1, 1) := by decide +kernel
theorem d_Mo_hasSymbol_2 : decode prog_13_method_4_code 2 = .ok (.invokevirtual 87, 3) := by decide +kernel
theorem d_Mo_hasSymbol_5 : decode prog_13_method_4_code 5 = .ok (.ifCond .eq 21, 3) := by decide +kernel
theorem d_Mo_hasSymbol_8 : decode prog_13_method_4_code 8 = .ok (.iload_n 2, 1) := by decide +kernel
theorem d_Mo_hasSymbol_9 : decode prog_13_method_4_code 9 = .ok (.ifCond .lt 17, 3) := by decide +kernel
theorem d_Mo_hasSymbol_12 : decode prog_13_method_4_code 12 = .ok (.iload_n 2, 1) := by decide +kernel
theorem d_Mo_hasSymbol_13 : decode prog_13_method_4_code 13 = .ok (.aload_n 0, 1) := by decide +kernel
theorem d_Mo_hasSymbol_14 : decode prog_13_method_4_code 14 = .ok (.getfield 7, 3) := by decide +kernel
theorem d_Mo_hasSymbol_17 : decode prog_13_method_4_code 17 = .ok (.iload_n 1, 1) := by decide +kernel
theorem d_Mo_hasSymbol_18 : decode prog_13_method_4_code 18 = .ok (.iaload, 1) := by decide +kernel
theorem d_Mo_hasSymbol_19 : decode prog_13_method_4_code 19 = .ok (.if_icmp .ge 7, 3) := by decide +kernel
theorem d_Mo_hasSymbol_22 : decode prog_13_method_4_code 22 = .ok (.iconst 1, 1) := by decide +kernel
theorem d_Mo_hasSymbol_23 : decode prog_13_method_4_code 23 = .ok (.goto 4, 3) := by decide +kernel
theorem d_Mo_hasSymbol_26 : decode prog_13_method_4_code 26 = .ok (.iconst 0, 1) := by decide +kernel
theorem d_Mo_hasSymbol_27 : decode prog_13_method_4_code 27 = .ok (.ireturn, 1) := by decide +kernel
theorem d_Mo_lengthOf_0 : decode prog_13_method_5_code 0 = .ok (.aload_n 0, 1) := by decide +kernel
theorem d_Mo_lengthOf_1 : decode prog_13_method_5_code 1 = .ok (.getfield 13, 3) := by decide +kernel
theorem d_Mo_lengthOf_4 : decode prog_13_method_5_code 4 = .ok (.bipush 64, 2) := by decide +kernel
theorem d_Mo_lengthOf_6 : decode prog_13_method_5_code 6 = .ok (.iload_n 1, 1) := by decide +kernel
theorem d_Mo_lengthOf_7 : decode prog_13_method_5_code 7 = .ok (.imul, 1) := by decide +kernel
theorem d_Mo_lengthOf_8 : decode prog_13_method_5_code 8 = .ok (.iload_n 2, 1) := by decide +kernel
theorem d_Mo_lengthOf_9 : decode prog_13_method_5_code 9 = .ok (.iadd, 1) := by decide +kernel
theorem d_Mo_lengthOf_10 : decode prog_13_method_5_code 10 = .ok (.iaload, 1) := by decide +kernel
theorem d_Mo_lengthOf_11 : decode prog_13_method_5_code 11 = .ok (.ireturn, 1) := by decide +kernel
theorem d_Mo_made_0 : decode prog_13_method_6_code 0 = .ok (.aload_n 0, 1) := by decide +kernel
theorem d_Mo_made_1 : decode prog_13_method_6_code 1 = .ok (.getfield 84, 3) := by decide +kernel
theorem d_Mo_made_4 : decode prog_13_method_6_code 4 = .ok (.istore_n 2, 1) := by decide +kernel
theorem d_Mo_made_5 : decode prog_13_method_6_code 5 = .ok (.aload_n 0, 1) := by decide +kernel
theorem d_Mo_made_6 : decode prog_13_method_6_code 6 = .ok (.getfield 7, 3) := by decide +kernel
theorem d_Mo_made_9 : decode prog_13_method_6_code 9 = .ok (.iload_n 2, 1) := by decide +kernel
theorem d_Mo_made_10 : decode prog_13_method_6_code 10 = .ok (.iload_n 1, 1) := by decide +kernel
theorem d_Mo_made_11 : decode prog_13_method_6_code 11 = .ok (.iastore, 1) := by decide +kernel
theorem d_Mo_made_12 : decode prog_13_method_6_code 12 = .ok (.iconst 0, 1) := by decide +kernel
theorem d_Mo_made_13 : decode prog_13_method_6_code 13 = .ok (.istore_n 3, 1) := by decide +kernel
theorem d_Mo_made_14 : decode prog_13_method_6_code 14 = .ok (.iload_n 3, 1) := by decide +kernel
theorem d_Mo_made_15 : decode prog_13_method_6_code 15 = .ok (.bipush 64, 2) := by decide +kernel
theorem d_Mo_made_17 : decode prog_13_method_6_code 17 = .ok (.if_icmp .ge 21, 3) := by decide +kernel
theorem d_Mo_made_20 : decode prog_13_method_6_code 20 = .ok (.aload_n 0, 1) := by decide +kernel
theorem d_Mo_made_21 : decode prog_13_method_6_code 21 = .ok (.getfield 13, 3) := by decide +kernel
theorem d_Mo_made_24 : decode prog_13_method_6_code 24 = .ok (.bipush 64, 2) := by decide +kernel
theorem d_Mo_made_26 : decode prog_13_method_6_code 26 = .ok (.iload_n 2, 1) := by decide +kernel
theorem d_Mo_made_27 : decode prog_13_method_6_code 27 = .ok (.imul, 1) := by decide +kernel
theorem d_Mo_made_28 : decode prog_13_method_6_code 28 = .ok (.iload_n 3, 1) := by decide +kernel
theorem d_Mo_made_29 : decode prog_13_method_6_code 29 = .ok (.iadd, 1) := by decide +kernel
theorem d_Mo_made_30 : decode prog_13_method_6_code 30 = .ok (.iconst 0, 1) := by decide +kernel
theorem d_Mo_made_31 : decode prog_13_method_6_code 31 = .ok (.iastore, 1) := by decide +kernel
theorem d_Mo_made_32 : decode prog_13_method_6_code 32 = .ok (.iinc 3 1, 3) := by decide +kernel
theorem d_Mo_made_35 : decode prog_13_method_6_code 35 = .ok (.goto (-21), 3) := by decide +kernel
theorem d_Mo_made_38 : decode prog_13_method_6_code 38 = .ok (.aload_n 0, 1) := by decide +kernel
theorem d_Mo_made_39 : decode prog_13_method_6_code 39 = .ok (.dup, 1) := by decide +kernel
theorem d_Mo_made_40 : decode prog_13_method_6_code 40 = .ok (.getfield 84, 3) := by decide +kernel
theorem d_Mo_made_43 : decode prog_13_method_6_code 43 = .ok (.iconst 1, 1) := by decide +kernel
theorem d_Mo_made_44 : decode prog_13_method_6_code 44 = .ok (.iadd, 1) := by decide +kernel
theorem d_Mo_made_45 : decode prog_13_method_6_code 45 = .ok (.putfield 84, 3) := by decide +kernel
theorem d_Mo_made_48 : decode prog_13_method_6_code 48 = .ok (.iload_n 2, 1) := by decide +kernel
theorem d_Mo_made_49 : decode prog_13_method_6_code 49 = .ok (.ireturn, 1) := by decide +kernel
theorem d_Mo_code_0 : decode prog_13_method_7_code 0 = .ok (.iload_n 1, 1) := by decide +kernel
theorem d_Mo_code_1 : decode prog_13_method_7_code 1 = .ok (.iconst 1, 1) := by decide +kernel
theorem d_Mo_code_2 : decode prog_13_method_7_code 2 = .ok (.if_icmp .lt 9, 3) := by decide +kernel
theorem d_Mo_code_5 : decode prog_13_method_7_code 5 = .ok (.iload_n 1, 1) := by decide +kernel
theorem d_Mo_code_6 : decode prog_13_method_7_code 6 = .ok (.bipush 64, 2) := by decide +kernel
theorem d_Mo_code_8 : decode prog_13_method_7_code 8 = .ok (.if_icmp .le 8, 3) := by decide +kernel
theorem d_Mo_code_11 : decode prog_13_method_7_code 11 = .ok (.bipush (-102), 2) := by decide +kernel
theorem d_Mo_code_13 : decode prog_13_method_7_code 13 = .ok (.goto 22, 3) := by decide +kernel
theorem d_Mo_code_16 : decode prog_13_method_7_code 16 = .ok (.aload_n 0, 1) := by decide +kernel
theorem d_Mo_code_17 : decode prog_13_method_7_code 17 = .ok (.getfield 84, 3) := by decide +kernel
theorem d_Mo_code_20 : decode prog_13_method_7_code 20 = .ok (.bipush 12, 2) := by decide +kernel
theorem d_Mo_code_22 : decode prog_13_method_7_code 22 = .ok (.if_icmp .ne 8, 3) := by decide +kernel
theorem d_Mo_code_25 : decode prog_13_method_7_code 25 = .ok (.bipush (-106), 2) := by decide +kernel
theorem d_Mo_code_27 : decode prog_13_method_7_code 27 = .ok (.goto 8, 3) := by decide +kernel
theorem d_Mo_code_30 : decode prog_13_method_7_code 30 = .ok (.aload_n 0, 1) := by decide +kernel
theorem d_Mo_code_31 : decode prog_13_method_7_code 31 = .ok (.iload_n 1, 1) := by decide +kernel
theorem d_Mo_code_32 : decode prog_13_method_7_code 32 = .ok (.invokevirtual 91, 3) := by decide +kernel
theorem d_Mo_code_35 : decode prog_13_method_7_code 35 = .ok (.ireturn, 1) := by decide +kernel
theorem d_Mo_length_0 : decode prog_13_method_8_code 0 = .ok (.aload_n 0, 1) := by decide +kernel
theorem d_Mo_length_1 : decode prog_13_method_8_code 1 = .ok (.iload_n 1, 1) := by decide +kernel
theorem d_Mo_length_2 : decode prog_13_method_8_code 2 = .ok (.iload_n 2, 1) := by decide +kernel
theorem d_Mo_length_3 : decode prog_13_method_8_code 3 = .ok (.invokevirtual 95, 3) := by decide +kernel
theorem d_Mo_length_6 : decode prog_13_method_8_code 6 = .ok (.ifCond .ne 6, 3) := by decide +kernel
theorem d_Mo_length_9 : decode prog_13_method_8_code 9 = .ok (.bipush (-101), 2) := by decide +kernel
theorem d_Mo_length_11 : decode prog_13_method_8_code 11 = .ok (.ireturn, 1) := by decide +kernel
theorem d_Mo_length_12 : decode prog_13_method_8_code 12 = .ok (.iload_n 3, 1) := by decide +kernel
theorem d_Mo_length_13 : decode prog_13_method_8_code 13 = .ok (.ifCond .lt 9, 3) := by decide +kernel
theorem d_Mo_length_16 : decode prog_13_method_8_code 16 = .ok (.iload_n 3, 1) := by decide +kernel
theorem d_Mo_length_17 : decode prog_13_method_8_code 17 = .ok (.bipush 15, 2) := by decide +kernel
theorem d_Mo_length_19 : decode prog_13_method_8_code 19 = .ok (.if_icmp .le 6, 3) := by decide +kernel
theorem d_Mo_length_22 : decode prog_13_method_8_code 22 = .ok (.bipush (-102), 2) := by decide +kernel
theorem d_Mo_length_24 : decode prog_13_method_8_code 24 = .ok (.ireturn, 1) := by decide +kernel
theorem d_Mo_length_25 : decode prog_13_method_8_code 25 = .ok (.aload_n 0, 1) := by decide +kernel
theorem d_Mo_length_26 : decode prog_13_method_8_code 26 = .ok (.iload_n 1, 1) := by decide +kernel
theorem d_Mo_length_27 : decode prog_13_method_8_code 27 = .ok (.iload_n 2, 1) := by decide +kernel
theorem d_Mo_length_28 : decode prog_13_method_8_code 28 = .ok (.invokevirtual 99, 3) := by decide +kernel
theorem d_Mo_length_31 : decode prog_13_method_8_code 31 = .ok (.istore 4, 2) := by decide +kernel
theorem d_Mo_length_33 : decode prog_13_method_8_code 33 = .ok (.aload_n 0, 1) := by decide +kernel
theorem d_Mo_length_34 : decode prog_13_method_8_code 34 = .ok (.getfield 13, 3) := by decide +kernel
theorem d_Mo_length_37 : decode prog_13_method_8_code 37 = .ok (.bipush 64, 2) := by decide +kernel
theorem d_Mo_length_39 : decode prog_13_method_8_code 39 = .ok (.iload_n 1, 1) := by decide +kernel
theorem d_Mo_length_40 : decode prog_13_method_8_code 40 = .ok (.imul, 1) := by decide +kernel
theorem d_Mo_length_41 : decode prog_13_method_8_code 41 = .ok (.iload_n 2, 1) := by decide +kernel
theorem d_Mo_length_42 : decode prog_13_method_8_code 42 = .ok (.iadd, 1) := by decide +kernel
theorem d_Mo_length_43 : decode prog_13_method_8_code 43 = .ok (.iload_n 3, 1) := by decide +kernel
theorem d_Mo_length_44 : decode prog_13_method_8_code 44 = .ok (.iastore, 1) := by decide +kernel
theorem d_Mo_length_45 : decode prog_13_method_8_code 45 = .ok (.iload 4, 2) := by decide +kernel
theorem d_Mo_length_47 : decode prog_13_method_8_code 47 = .ok (.ireturn, 1) := by decide +kernel
theorem d_Mo_filled_0 : decode prog_13_method_9_code 0 = .ok (.iconst 0, 1) := by decide +kernel
theorem d_Mo_filled_1 : decode prog_13_method_9_code 1 = .ok (.istore_n 2, 1) := by decide +kernel
theorem d_Mo_filled_2 : decode prog_13_method_9_code 2 = .ok (.iconst 0, 1) := by decide +kernel
theorem d_Mo_filled_3 : decode prog_13_method_9_code 3 = .ok (.istore_n 3, 1) := by decide +kernel
theorem d_Mo_filled_4 : decode prog_13_method_9_code 4 = .ok (.iload_n 3, 1) := by decide +kernel
theorem d_Mo_filled_5 : decode prog_13_method_9_code 5 = .ok (.aload_n 0, 1) := by decide +kernel
theorem d_Mo_filled_6 : decode prog_13_method_9_code 6 = .ok (.getfield 7, 3) := by decide +kernel
theorem d_Mo_filled_9 : decode prog_13_method_9_code 9 = .ok (.iload_n 1, 1) := by decide +kernel
theorem d_Mo_filled_10 : decode prog_13_method_9_code 10 = .ok (.iaload, 1) := by decide +kernel
theorem d_Mo_filled_11 : decode prog_13_method_9_code 11 = .ok (.if_icmp .ge 34, 3) := by decide +kernel
theorem d_Mo_filled_14 : decode prog_13_method_9_code 14 = .ok (.iload_n 2, 1) := by decide +kernel
theorem d_Mo_filled_15 : decode prog_13_method_9_code 15 = .ok (.aload_n 0, 1) := by decide +kernel
theorem d_Mo_filled_16 : decode prog_13_method_9_code 16 = .ok (.iload_n 1, 1) := by decide +kernel
theorem d_Mo_filled_17 : decode prog_13_method_9_code 17 = .ok (.iload_n 3, 1) := by decide +kernel
theorem d_Mo_filled_18 : decode prog_13_method_9_code 18 = .ok (.invokevirtual 99, 3) := by decide +kernel
theorem d_Mo_filled_21 : decode prog_13_method_9_code 21 = .ok (.ifCond .le 15, 3) := by decide +kernel
theorem d_Mo_filled_24 : decode prog_13_method_9_code 24 = .ok (.ldc 103, 2) := by decide +kernel
theorem d_Mo_filled_26 : decode prog_13_method_9_code 26 = .ok (.aload_n 0, 1) := by decide +kernel
theorem d_Mo_filled_27 : decode prog_13_method_9_code 27 = .ok (.iload_n 1, 1) := by decide +kernel
theorem d_Mo_filled_28 : decode prog_13_method_9_code 28 = .ok (.iload_n 3, 1) := by decide +kernel
theorem d_Mo_filled_29 : decode prog_13_method_9_code 29 = .ok (.invokevirtual 99, 3) := by decide +kernel
theorem d_Mo_filled_32 : decode prog_13_method_9_code 32 = .ok (.ishr, 1) := by decide +kernel
theorem d_Mo_filled_33 : decode prog_13_method_9_code 33 = .ok (.goto 4, 3) := by decide +kernel
theorem d_Mo_filled_36 : decode prog_13_method_9_code 36 = .ok (.iconst 0, 1) := by decide +kernel
theorem d_Mo_filled_37 : decode prog_13_method_9_code 37 = .ok (.iadd, 1) := by decide +kernel
theorem d_Mo_filled_38 : decode prog_13_method_9_code 38 = .ok (.istore_n 2, 1) := by decide +kernel
theorem d_Mo_filled_39 : decode prog_13_method_9_code 39 = .ok (.iinc 3 1, 3) := by decide +kernel
theorem d_Mo_filled_42 : decode prog_13_method_9_code 42 = .ok (.goto (-38), 3) := by decide +kernel
theorem d_Mo_filled_45 : decode prog_13_method_9_code 45 = .ok (.iload_n 2, 1) := by decide +kernel
theorem d_Mo_filled_46 : decode prog_13_method_9_code 46 = .ok (.ireturn, 1) := by decide +kernel
theorem d_Mo_words_0 : decode prog_13_method_10_code 0 = .ok (.iconst 0, 1) := by decide +kernel
theorem d_Mo_words_1 : decode prog_13_method_10_code 1 = .ok (.istore_n 2, 1) := by decide +kernel
theorem d_Mo_words_2 : decode prog_13_method_10_code 2 = .ok (.iconst 0, 1) := by decide +kernel
theorem d_Mo_words_3 : decode prog_13_method_10_code 3 = .ok (.istore_n 3, 1) := by decide +kernel
theorem d_Mo_words_4 : decode prog_13_method_10_code 4 = .ok (.iload_n 3, 1) := by decide +kernel
theorem d_Mo_words_5 : decode prog_13_method_10_code 5 = .ok (.aload_n 0, 1) := by decide +kernel
theorem d_Mo_words_6 : decode prog_13_method_10_code 6 = .ok (.getfield 7, 3) := by decide +kernel
theorem d_Mo_words_9 : decode prog_13_method_10_code 9 = .ok (.iload_n 1, 1) := by decide +kernel
theorem d_Mo_words_10 : decode prog_13_method_10_code 10 = .ok (.iaload, 1) := by decide +kernel
theorem d_Mo_words_11 : decode prog_13_method_10_code 11 = .ok (.if_icmp .ge 26, 3) := by decide +kernel
theorem d_Mo_words_14 : decode prog_13_method_10_code 14 = .ok (.iload_n 2, 1) := by decide +kernel
theorem d_Mo_words_15 : decode prog_13_method_10_code 15 = .ok (.aload_n 0, 1) := by decide +kernel
theorem d_Mo_words_16 : decode prog_13_method_10_code 16 = .ok (.iload_n 1, 1) := by decide +kernel
theorem d_Mo_words_17 : decode prog_13_method_10_code 17 = .ok (.iload_n 3, 1) := by decide +kernel
theorem d_Mo_words_18 : decode prog_13_method_10_code 18 = .ok (.invokevirtual 99, 3) := by decide +kernel
theorem d_Mo_words_21 : decode prog_13_method_10_code 21 = .ok (.ifCond .le 7, 3) := by decide +kernel
theorem d_Mo_words_24 : decode prog_13_method_10_code 24 = .ok (.iconst 1, 1) := by decide +kernel
theorem d_Mo_words_25 : decode prog_13_method_10_code 25 = .ok (.goto 4, 3) := by decide +kernel
theorem d_Mo_words_28 : decode prog_13_method_10_code 28 = .ok (.iconst 0, 1) := by decide +kernel
theorem d_Mo_words_29 : decode prog_13_method_10_code 29 = .ok (.iadd, 1) := by decide +kernel
theorem d_Mo_words_30 : decode prog_13_method_10_code 30 = .ok (.istore_n 2, 1) := by decide +kernel
theorem d_Mo_words_31 : decode prog_13_method_10_code 31 = .ok (.iinc 3 1, 3) := by decide +kernel
theorem d_Mo_words_34 : decode prog_13_method_10_code 34 = .ok (.goto (-30), 3) := by decide +kernel
theorem d_Mo_words_37 : decode prog_13_method_10_code 37 = .ok (.iload_n 2, 1) := by decide +kernel
theorem d_Mo_words_38 : decode prog_13_method_10_code 38 = .ok (.ireturn, 1) := by decide +kernel
theorem d_Mo_longest_0 : decode prog_13_method_11_code 0 = .ok (.iconst 0, 1) := by decide +kernel
theorem d_Mo_longest_1 : decode prog_13_method_11_code 1 = .ok (.istore_n 2, 1) := by decide +kernel
theorem d_Mo_longest_2 : decode prog_13_method_11_code 2 = .ok (.iconst 0, 1) := by decide +kernel
theorem d_Mo_longest_3 : decode prog_13_method_11_code 3 = .ok (.istore_n 3, 1) := by decide +kernel
theorem d_Mo_longest_4 : decode prog_13_method_11_code 4 = .ok (.iload_n 3, 1) := by decide +kernel
theorem d_Mo_longest_5 : decode prog_13_method_11_code 5 = .ok (.aload_n 0, 1) := by decide +kernel
theorem d_Mo_longest_6 : decode prog_13_method_11_code 6 = .ok (.getfield 7, 3) := by decide +kernel
theorem d_Mo_longest_9 : decode prog_13_method_11_code 9 = .ok (.iload_n 1, 1) := by decide +kernel
theorem d_Mo_longest_10 : decode prog_13_method_11_code 10 = .ok (.iaload, 1) := by decide +kernel
theorem d_Mo_longest_11 : decode prog_13_method_11_code 11 = .ok (.if_icmp .ge 30, 3) := by decide +kernel
theorem d_Mo_longest_14 : decode prog_13_method_11_code 14 = .ok (.aload_n 0, 1) := by decide +kernel
theorem d_Mo_longest_15 : decode prog_13_method_11_code 15 = .ok (.iload_n 1, 1) := by decide +kernel
theorem d_Mo_longest_16 : decode prog_13_method_11_code 16 = .ok (.iload_n 3, 1) := by decide +kernel
theorem d_Mo_longest_17 : decode prog_13_method_11_code 17 = .ok (.invokevirtual 99, 3) := by decide +kernel
theorem d_Mo_longest_20 : decode prog_13_method_11_code 20 = .ok (.iload_n 2, 1) := by decide +kernel
theorem d_Mo_longest_21 : decode prog_13_method_11_code 21 = .ok (.if_icmp .le 12, 3) := by decide +kernel
theorem d_Mo_longest_24 : decode prog_13_method_11_code 24 = .ok (.aload_n 0, 1) := by decide +kernel
theorem d_Mo_longest_25 : decode prog_13_method_11_code 25 = .ok (.iload_n 1, 1) := by decide +kernel
theorem d_Mo_longest_26 : decode prog_13_method_11_code 26 = .ok (.iload_n 3, 1) := by decide +kernel
theorem d_Mo_longest_27 : decode prog_13_method_11_code 27 = .ok (.invokevirtual 99, 3) := by decide +kernel
theorem d_Mo_longest_30 : decode prog_13_method_11_code 30 = .ok (.goto 4, 3) := by decide +kernel
theorem d_Mo_longest_33 : decode prog_13_method_11_code 33 = .ok (.iload_n 2, 1) := by decide +kernel
theorem d_Mo_longest_34 : decode prog_13_method_11_code 34 = .ok (.istore_n 2, 1) := by decide +kernel
theorem d_Mo_longest_35 : decode prog_13_method_11_code 35 = .ok (.iinc 3 1, 3) := by decide +kernel
theorem d_Mo_longest_38 : decode prog_13_method_11_code 38 = .ok (.goto (-34), 3) := by decide +kernel
theorem d_Mo_longest_41 : decode prog_13_method_11_code 41 = .ok (.iload_n 2, 1) := by decide +kernel
theorem d_Mo_longest_42 : decode prog_13_method_11_code 42 = .ok (.ireturn, 1) := by decide +kernel
theorem d_Mo_kind_0 : decode prog_13_method_12_code 0 = .ok (.aload_n 0, 1) := by decide +kernel
theorem d_Mo_kind_1 : decode prog_13_method_12_code 1 = .ok (.iload_n 1, 1) := by decide +kernel
theorem d_Mo_kind_2 : decode prog_13_method_12_code 2 = .ok (.invokevirtual 104, 3) := by decide +kernel
theorem d_Mo_kind_5 : decode prog_13_method_12_code 5 = .ok (.istore_n 2, 1) := by decide +kernel
theorem d_Mo_kind_6 : decode prog_13_method_12_code 6 = .ok (.aload_n 0, 1) := by decide +kernel
theorem d_Mo_kind_7 : decode prog_13_method_12_code 7 = .ok (.iload_n 1, 1) := by decide +kernel
theorem d_Mo_kind_8 : decode prog_13_method_12_code 8 = .ok (.invokevirtual 107, 3) := by decide +kernel
theorem d_Mo_kind_11 : decode prog_13_method_12_code 11 = .ok (.istore_n 3, 1) := by decide +kernel
theorem d_Mo_kind_12 : decode prog_13_method_12_code 12 = .ok (.iload_n 2, 1) := by decide +kernel
theorem d_Mo_kind_13 : decode prog_13_method_12_code 13 = .ok (.ifCond .ne 7, 3) := by decide +kernel
theorem d_Mo_kind_16 : decode prog_13_method_12_code 16 = .ok (.iconst 0, 1) := by decide +kernel
theorem d_Mo_kind_17 : decode prog_13_method_12_code 17 = .ok (.goto 42, 3) := by decide +kernel
theorem d_Mo_kind_20 : decode prog_13_method_12_code 20 = .ok (.iload_n 2, 1) := by decide +kernel
theorem d_Mo_kind_21 : decode prog_13_method_12_code 21 = .ok (.iconst 1, 1) := by decide +kernel
theorem d_Mo_kind_22 : decode prog_13_method_12_code 22 = .ok (.if_icmp .ne 16, 3) := by decide +kernel
theorem d_Mo_kind_25 : decode prog_13_method_12_code 25 = .ok (.aload_n 0, 1) := by decide +kernel
theorem d_Mo_kind_26 : decode prog_13_method_12_code 26 = .ok (.iload_n 1, 1) := by decide +kernel
theorem d_Mo_kind_27 : decode prog_13_method_12_code 27 = .ok (.invokevirtual 110, 3) := by decide +kernel
theorem d_Mo_kind_30 : decode prog_13_method_12_code 30 = .ok (.iconst 1, 1) := by decide +kernel
theorem d_Mo_kind_31 : decode prog_13_method_12_code 31 = .ok (.if_icmp .ne 7, 3) := by decide +kernel
theorem d_Mo_kind_34 : decode prog_13_method_12_code 34 = .ok (.iconst 1, 1) := by decide +kernel
theorem d_Mo_kind_35 : decode prog_13_method_12_code 35 = .ok (.goto 24, 3) := by decide +kernel
theorem d_Mo_kind_38 : decode prog_13_method_12_code 38 = .ok (.iload_n 3, 1) := by decide +kernel
theorem d_Mo_kind_39 : decode prog_13_method_12_code 39 = .ok (.ldc 103, 2) := by decide +kernel
theorem d_Mo_kind_41 : decode prog_13_method_12_code 41 = .ok (.if_icmp .ne 7, 3) := by decide +kernel
theorem d_Mo_kind_44 : decode prog_13_method_12_code 44 = .ok (.iconst 2, 1) := by decide +kernel
theorem d_Mo_kind_45 : decode prog_13_method_12_code 45 = .ok (.goto 14, 3) := by decide +kernel
theorem d_Mo_kind_48 : decode prog_13_method_12_code 48 = .ok (.iload_n 3, 1) := by decide +kernel
theorem d_Mo_kind_49 : decode prog_13_method_12_code 49 = .ok (.ldc 103, 2) := by decide +kernel
theorem d_Mo_kind_51 : decode prog_13_method_12_code 51 = .ok (.if_icmp .ge 7, 3) := by decide +kernel
theorem d_Mo_kind_54 : decode prog_13_method_12_code 54 = .ok (.iconst 3, 1) := by decide +kernel
theorem d_Mo_kind_55 : decode prog_13_method_12_code 55 = .ok (.goto 4, 3) := by decide +kernel
theorem d_Mo_kind_58 : decode prog_13_method_12_code 58 = .ok (.iconst 4, 1) := by decide +kernel
theorem d_Mo_kind_59 : decode prog_13_method_12_code 59 = .ok (.ireturn, 1) := by decide +kernel
theorem d_Mo_about_0 : decode prog_13_method_13_code 0 = .ok (.aload_n 0, 1) := by decide +kernel
theorem d_Mo_about_1 : decode prog_13_method_13_code 1 = .ok (.iload_n 1, 1) := by decide +kernel
theorem d_Mo_about_2 : decode prog_13_method_13_code 2 = .ok (.invokevirtual 87, 3) := by decide +kernel
theorem d_Mo_about_5 : decode prog_13_method_13_code 5 = .ok (.ifCond .ne 6, 3) := by decide +kernel
theorem d_Mo_about_8 : decode prog_13_method_13_code 8 = .ok (.bipush (-101), 2) := by decide +kernel
theorem d_Mo_about_10 : decode prog_13_method_13_code 10 = .ok (.ireturn, 1) := by decide +kernel
theorem d_Mo_about_11 : decode prog_13_method_13_code 11 = .ok (.iload_n 2, 1) := by decide +kernel
theorem d_Mo_about_12 : decode prog_13_method_13_code 12 = .ok (.tableswitch 67 0 4 #[36, 42, 49, 55, 61], 36) := by decide +kernel
theorem d_Mo_about_48 : decode prog_13_method_13_code 48 = .ok (.aload_n 0, 1) := by decide +kernel
theorem d_Mo_about_49 : decode prog_13_method_13_code 49 = .ok (.iload_n 1, 1) := by decide +kernel
theorem d_Mo_about_50 : decode prog_13_method_13_code 50 = .ok (.invokevirtual 113, 3) := by decide +kernel
theorem d_Mo_about_53 : decode prog_13_method_13_code 53 = .ok (.ireturn, 1) := by decide +kernel
theorem d_Mo_about_54 : decode prog_13_method_13_code 54 = .ok (.aload_n 0, 1) := by decide +kernel
theorem d_Mo_about_55 : decode prog_13_method_13_code 55 = .ok (.getfield 7, 3) := by decide +kernel
theorem d_Mo_about_58 : decode prog_13_method_13_code 58 = .ok (.iload_n 1, 1) := by decide +kernel
theorem d_Mo_about_59 : decode prog_13_method_13_code 59 = .ok (.iaload, 1) := by decide +kernel
theorem d_Mo_about_60 : decode prog_13_method_13_code 60 = .ok (.ireturn, 1) := by decide +kernel
theorem d_Mo_about_61 : decode prog_13_method_13_code 61 = .ok (.aload_n 0, 1) := by decide +kernel
theorem d_Mo_about_62 : decode prog_13_method_13_code 62 = .ok (.iload_n 1, 1) := by decide +kernel
theorem d_Mo_about_63 : decode prog_13_method_13_code 63 = .ok (.invokevirtual 107, 3) := by decide +kernel
theorem d_Mo_about_66 : decode prog_13_method_13_code 66 = .ok (.ireturn, 1) := by decide +kernel
theorem d_Mo_about_67 : decode prog_13_method_13_code 67 = .ok (.aload_n 0, 1) := by decide +kernel
theorem d_Mo_about_68 : decode prog_13_method_13_code 68 = .ok (.iload_n 1, 1) := by decide +kernel
theorem d_Mo_about_69 : decode prog_13_method_13_code 69 = .ok (.invokevirtual 104, 3) := by decide +kernel
theorem d_Mo_about_72 : decode prog_13_method_13_code 72 = .ok (.ireturn, 1) := by decide +kernel
theorem d_Mo_about_73 : decode prog_13_method_13_code 73 = .ok (.aload_n 0, 1) := by decide +kernel
theorem d_Mo_about_74 : decode prog_13_method_13_code 74 = .ok (.iload_n 1, 1) := by decide +kernel
theorem d_Mo_about_75 : decode prog_13_method_13_code 75 = .ok (.invokevirtual 110, 3) := by decide +kernel
theorem d_Mo_about_78 : decode prog_13_method_13_code 78 = .ok (.ireturn, 1) := by decide +kernel
theorem d_Mo_about_79 : decode prog_13_method_13_code 79 = .ok (.bipush (-102), 2) := by decide +kernel
theorem d_Mo_about_81 : decode prog_13_method_13_code 81 = .ok (.ireturn, 1) := by decide +kernel
noncomputable def f_Mo_thrown (σ : St) : Option (St × Int32) :=
  some (σ, σ.1 48 0 0)
noncomputable def f_Mo_has (σ : St) (a1 : Int32) : Option (St × Int32) :=
  if a1 < 0 then
    some (σ, 0)
  else
  if (σ.1 48 0 1) ≤ a1 then
    some (σ, 0)
  else
  some (σ, 1)
noncomputable def f_Mo_hasSymbol (σ : St) (a1 : Int32) (a2 : Int32) : Option (St × Int32) :=
  b2 (f_Mo_has σ a1) fun σ1 x2 =>
  if x2 = 0 then
    some (σ1, 0)
  else
  if a2 < 0 then
    some (σ1, 0)
  else
  gd (ib a1 13) <|
  if (σ1.1 49 0 a1.toNatClampNeg) ≤ a2 then
    some (σ1, 0)
  else
  some (σ1, 1)
noncomputable def f_Mo_lengthOf (σ : St) (a1 : Int32) (a2 : Int32) : Option (St × Int32) :=
  gd (ib ((64 * a1) + a2) 832) <|
  some (σ, σ.1 50 0 ((64 * a1) + a2).toNatClampNeg)
noncomputable def lb_Mo_made_14 (x1 : Int32) (σ : St) (v3 : Int32) : Option ((St × Int32) ⊕ ((St × Int32))) :=
  if 64 ≤ v3 then
    some (.inr (σ, v3))
  else
  gd (ib ((64 * x1) + v3) 832) <|
  nm (sI σ 50 0 (((64 * x1) + v3).toNatClampNeg) 0) fun σ3 =>
  nm (v3 + 1) fun x4 =>
  some (.inl (σ3, x4))
noncomputable def f_Mo_made (σ : St) (a1 : Int32) : Option (St × Int32) :=
  nm (σ.1 48 0 1) fun x1 =>
  gd (ib x1 13) <|
  nm (sI σ 49 0 (x1.toNatClampNeg) a1) fun σ2 =>
  b2 (lpE (fun q => lb_Mo_made_14 x1 q.1 q.2) (σ2, 0)) fun σ5 x6 =>
  nm (sI σ5 48 0 1 ((σ5.1 48 0 1) + 1)) fun σ7 =>
  some (σ7, x1)
noncomputable def f_Mo_code (σ : St) (a1 : Int32) : Option (St × Int32) :=
  if a1 < 1 then
    some (σ, (-102))
  else
  if a1 ≤ 64 then
    if (σ.1 48 0 1) = 12 then
      some (σ, (-106))
    else
    b2 (f_Mo_made σ a1) fun σ1 x2 =>
    some (σ1, x2)
  else
  some (σ, (-102))
noncomputable def f_Mo_length (σ : St) (a1 : Int32) (a2 : Int32) (a3 : Int32) : Option (St × Int32) :=
  b2 (f_Mo_hasSymbol σ a1 a2) fun σ1 x2 =>
  if x2 = 0 then
    some (σ1, (-101))
  else
  if a3 < 0 then
    some (σ1, (-102))
  else
  if a3 ≤ 15 then
    b2 (f_Mo_lengthOf σ1 a1 a2) fun σ3 x4 =>
    gd (ib ((64 * a1) + a2) 832) <|
    nm (sI σ3 50 0 (((64 * a1) + a2).toNatClampNeg) a3) fun σ5 =>
    some (σ5, x4)
  else
  some (σ1, (-102))
noncomputable def lb_Mo_filled_4 (a1 : Int32) (σ : St) (v2 : Int32) (v3 : Int32) : Option ((St × Int32 × Int32) ⊕ ((St × Int32 × Int32))) :=
  gd (ib a1 13) <|
  if (σ.1 49 0 a1.toNatClampNeg) ≤ v3 then
    some (.inr (σ, v2, v3))
  else
  b2 (f_Mo_lengthOf σ a1 v3) fun σ1 x2 =>
  if x2 ≤ 0 then
    nm (v2 + 0) fun x3 =>
    nm (v3 + 1) fun x4 =>
    some (.inl (σ1, x3, x4))
  else
  b2 (f_Mo_lengthOf σ1 a1 v3) fun σ5 x6 =>
  nm (v2 + (32768 >>> (x6 &&& 31))) fun x7 =>
  nm (v3 + 1) fun x8 =>
  some (.inl (σ5, x7, x8))
noncomputable def f_Mo_filled (σ : St) (a1 : Int32) : Option (St × Int32) :=
  b3 (lpE (fun q => lb_Mo_filled_4 a1 q.1 q.2.1 q.2.2) (σ, 0, 0)) fun σ9 x10 x11 =>
  some (σ9, x10)
noncomputable def lb_Mo_words_4 (a1 : Int32) (σ : St) (v2 : Int32) (v3 : Int32) : Option ((St × Int32 × Int32) ⊕ ((St × Int32 × Int32))) :=
  gd (ib a1 13) <|
  if (σ.1 49 0 a1.toNatClampNeg) ≤ v3 then
    some (.inr (σ, v2, v3))
  else
  b2 (f_Mo_lengthOf σ a1 v3) fun σ1 x2 =>
  if x2 ≤ 0 then
    nm (v2 + 0) fun x3 =>
    nm (v3 + 1) fun x4 =>
    some (.inl (σ1, x3, x4))
  else
  nm (v2 + 1) fun x5 =>
  nm (v3 + 1) fun x6 =>
  some (.inl (σ1, x5, x6))
noncomputable def f_Mo_words (σ : St) (a1 : Int32) : Option (St × Int32) :=
  b3 (lpE (fun q => lb_Mo_words_4 a1 q.1 q.2.1 q.2.2) (σ, 0, 0)) fun σ7 x8 x9 =>
  some (σ7, x8)
noncomputable def lb_Mo_longest_4 (a1 : Int32) (σ : St) (v2 : Int32) (v3 : Int32) : Option ((St × Int32 × Int32) ⊕ ((St × Int32 × Int32))) :=
  gd (ib a1 13) <|
  if (σ.1 49 0 a1.toNatClampNeg) ≤ v3 then
    some (.inr (σ, v2, v3))
  else
  b2 (f_Mo_lengthOf σ a1 v3) fun σ1 x2 =>
  if x2 ≤ v2 then
    nm (v3 + 1) fun x3 =>
    some (.inl (σ1, v2, x3))
  else
  b2 (f_Mo_lengthOf σ1 a1 v3) fun σ4 x5 =>
  nm (v3 + 1) fun x6 =>
  some (.inl (σ4, x5, x6))
noncomputable def f_Mo_longest (σ : St) (a1 : Int32) : Option (St × Int32) :=
  b3 (lpE (fun q => lb_Mo_longest_4 a1 q.1 q.2.1 q.2.2) (σ, 0, 0)) fun σ7 x8 x9 =>
  some (σ7, x8)
noncomputable def f_Mo_kind (σ : St) (a1 : Int32) : Option (St × Int32) :=
  b2 (f_Mo_words σ a1) fun σ1 x2 =>
  b2 (f_Mo_filled σ1 a1) fun σ3 x4 =>
  if x2 = 0 then
    some (σ3, 0)
  else
  if x2 = 1 then
    b2 (f_Mo_longest σ3 a1) fun σ5 x6 =>
    if x6 = 1 then
      some (σ5, 1)
    else
    if x4 = 32768 then
      some (σ5, 2)
    else
    if 32768 ≤ x4 then
      some (σ5, 4)
    else
    some (σ5, 3)
  else
  if x4 = 32768 then
    some (σ3, 2)
  else
  if 32768 ≤ x4 then
    some (σ3, 4)
  else
  some (σ3, 3)
noncomputable def f_Mo_about (σ : St) (a1 : Int32) (a2 : Int32) : Option (St × Int32) :=
  b2 (f_Mo_has σ a1) fun σ1 x2 =>
  if x2 = 0 then
    some (σ1, (-101))
  else
  if a2 = 0 then
    b2 (f_Mo_kind σ1 a1) fun σ3 x4 =>
    some (σ3, x4)
  else
  if a2 = 1 then
    gd (ib a1 13) <|
    some (σ1, σ1.1 49 0 a1.toNatClampNeg)
  else
  if a2 = 2 then
    b2 (f_Mo_filled σ1 a1) fun σ5 x6 =>
    some (σ5, x6)
  else
  if a2 = 3 then
    b2 (f_Mo_words σ1 a1) fun σ7 x8 =>
    some (σ7, x8)
  else
  if a2 = 4 then
    b2 (f_Mo_longest σ1 a1) fun σ9 x10 =>
    some (σ9, x10)
  else
  some (σ1, (-102))
set_option maxHeartbeats 4000000 in
set_option maxRecDepth 100000 in
theorem c_Mo_thrown (l : Launch) (D : va_G) (aC : Nat → ClassId) (A : Nat → Prop) (ad : Nat → Nat → Nat) (n : Nat) (σ : St) (o : St × Int32) (h : f_Mo_thrown σ  = some o) : Met l y_Mo_thrown w_Mo_thrown rm_Mo_thrown (va_Pc [.ref (ad 48 0)] (Pre D aC A ad n σ)) (va_Qi (fun r (_ : Unit) => r = o.2) (fun _ t => Hold D aC A ad n o.1 t.heap) A) 0 0 A := by
  refine Met.ofW (cc := prog_13_method_2_code) (maxL := 1) (ret := (some .int)) (by decide) rfl ?_
  intro p e s m args below meth c s₁ B hml hv
  obtain ⟨hargs, hH, hK, hZ⟩ := hv
  have hx := B.exec
  have hb := B.bytes
  have hr := B.returns
  have hts := atoms_spec (ws := w_Mo_thrown) B.pre
  have hg : ∀ w ∈ gW, w.before args s = true := fun w h => hts w (List.mem_cons_of_mem _ h)
  have hown : s.vm.findClass "PrefixCodesModel" = some m.cls := findClass_of_methodNamed B.named
  have hlocks := B.notSynchronized
  have hS : va_S A s.heap s.heap [] := va_S.rf
  have hl := lv_entry ([.ref (ad 48 0)]) (n := 1) (Nat.le_of_ble_eq_true rfl)
  rw [show entryFrame m args 1 = entryFrame m (([.ref (ad 48 0)] : List Value).toArray) 1 by rw [hargs], lg_entry_eq]
  generalize (lg_sl ([.ref (ad 48 0)]) ++ List.replicate (1 - (lg_sl ([.ref (ad 48 0)])).length) Slot.unset).toArray = ls at hl ⊢
  have hl : lv_has ls 1 [(0, .ref (ad 48 0))] := hl
  generalize hQ0 : MQ below (va_Qi (fun r (_ : Unit) => r = o.2) (fun _ t => Hold D aC A ad n o.1 t.heap) A) args s 0 0 A = Q0
  unfold f_Mo_thrown at h
  refine lv_aload_n hx hb d_Mo_thrown_0 rfl (lv_at hl 0 rfl) ?_
  refine st_get hx hb hg hown hK hH (f := 48) (i := 0) hd_48 rfl rfl u_Mo 0 (by decide) (hg _ wd_423) (v := .int (σ.1 48 0 0)) rfl d_Mo_thrown_1 ?_
  cases h
  rw [← hQ0]
  exact W.iret hx hb hr (fun t ht hW => ⟨⟨_, (), rfl, rfl, by dsimp only; rw [ht]; exact hH⟩, hS.F ht⟩) hS.2.2 d_Mo_thrown_4
set_option maxHeartbeats 4000000 in
set_option maxRecDepth 100000 in
theorem c_Mo_has (l : Launch) (D : va_G) (aC : Nat → ClassId) (A : Nat → Prop) (ad : Nat → Nat → Nat) (n : Nat) (σ : St) (a1 : Int32) (o : St × Int32) (h : f_Mo_has σ a1 = some o) : Met l y_Mo_has w_Mo_has rm_Mo_has (va_Pc [.ref (ad 48 0), .int a1] (Pre D aC A ad n σ)) (va_Qi (fun r (_ : Unit) => r = o.2) (fun _ t => Hold D aC A ad n o.1 t.heap) A) 0 0 A := by
  refine Met.ofW (cc := prog_13_method_3_code) (maxL := 2) (ret := (some .boolean)) (by decide) rfl ?_
  intro p e s m args below meth c s₁ B hml hv
  obtain ⟨hargs, hH, hK, hZ⟩ := hv
  have hx := B.exec
  have hb := B.bytes
  have hr := B.returns
  have hts := atoms_spec (ws := w_Mo_has) B.pre
  have hg : ∀ w ∈ gW, w.before args s = true := fun w h => hts w (List.mem_cons_of_mem _ h)
  have hown : s.vm.findClass "PrefixCodesModel" = some m.cls := findClass_of_methodNamed B.named
  have hlocks := B.notSynchronized
  have hS : va_S A s.heap s.heap [] := va_S.rf
  have hl := lv_entry ([.ref (ad 48 0), .int a1]) (n := 2) (Nat.le_of_ble_eq_true rfl)
  rw [show entryFrame m args 2 = entryFrame m (([.ref (ad 48 0), .int a1] : List Value).toArray) 2 by rw [hargs], lg_entry_eq]
  generalize (lg_sl ([.ref (ad 48 0), .int a1]) ++ List.replicate (2 - (lg_sl ([.ref (ad 48 0), .int a1])).length) Slot.unset).toArray = ls at hl ⊢
  have hl : lv_has ls 2 [(0, .ref (ad 48 0)), (1, .int a1)] := hl
  generalize hQ0 : MQ below (va_Qi (fun r (_ : Unit) => r = o.2) (fun _ t => Hold D aC A ad n o.1 t.heap) A) args s 0 0 A = Q0
  unfold f_Mo_has at h
  refine lv_iload_n hx hb d_Mo_has_0 rfl (lv_at hl 1 rfl) ?_
  refine lv_if_lt (tgt := 16) hx hb d_Mo_has_1 (by decide) (fun c1 => ?_) (fun c1 => ?_)
  · have h := it h c1
    refine lv_iconst (v := 0) hx hb d_Mo_has_16 (by decide) ?_
    cases h
    rw [← hQ0]
    exact W.zret hx hb hr rfl (fun t ht hW => ⟨⟨_, (), rfl, rfl, by dsimp only; rw [ht]; exact hH⟩, hS.F ht⟩) hS.2.2 d_Mo_has_17
  · have h := ie h c1
    refine lv_iload_n hx hb d_Mo_has_4 rfl (lv_at hl 1 rfl) ?_
    refine lv_aload_n hx hb d_Mo_has_5 rfl (lv_at hl 0 rfl) ?_
    refine st_get hx hb hg hown hK hH (f := 48) (i := 0) hd_48 rfl rfl u_Mo 1 (by decide) (hg _ wd_424) (v := .int (σ.1 48 0 1)) rfl d_Mo_has_6 ?_
    refine lv_icmp_ge (tgt := 16) hx hb d_Mo_has_9 (by decide) (fun c9 => ?_) (fun c9 => ?_)
    · have h := it h c9
      refine lv_iconst (v := 0) hx hb d_Mo_has_16 (by decide) ?_
      cases h
      rw [← hQ0]
      exact W.zret hx hb hr rfl (fun t ht hW => ⟨⟨_, (), rfl, rfl, by dsimp only; rw [ht]; exact hH⟩, hS.F ht⟩) hS.2.2 d_Mo_has_17
    · have h := ie h c9
      refine lv_iconst (v := 1) hx hb d_Mo_has_12 (by decide) ?_
      refine lv_goto (tgt := 17) hx hb d_Mo_has_13 (by decide) ?_
      cases h
      rw [← hQ0]
      exact W.zret hx hb hr rfl (fun t ht hW => ⟨⟨_, (), rfl, rfl, by dsimp only; rw [ht]; exact hH⟩, hS.F ht⟩) hS.2.2 d_Mo_has_17
set_option maxHeartbeats 4000000 in
set_option maxRecDepth 100000 in
theorem c_Mo_hasSymbol (l : Launch) (D : va_G) (aC : Nat → ClassId) (A : Nat → Prop) (ad : Nat → Nat → Nat) (n : Nat) (σ : St) (a1 : Int32) (a2 : Int32) (o : St × Int32) (h : f_Mo_hasSymbol σ a1 a2 = some o) : Met l y_Mo_hasSymbol w_Mo_hasSymbol rm_Mo_hasSymbol (va_Pc [.ref (ad 48 0), .int a1, .int a2] (Pre D aC A ad n σ)) (va_Qi (fun r (_ : Unit) => r = o.2) (fun _ t => Hold D aC A ad n o.1 t.heap) A) 0 0 A := by
  refine Met.ofW (cc := prog_13_method_4_code) (maxL := 3) (ret := (some .boolean)) (by decide) rfl ?_
  intro p e s m args below meth c s₁ B hml hv
  obtain ⟨hargs, hH, hK, hZ⟩ := hv
  have hx := B.exec
  have hb := B.bytes
  have hr := B.returns
  have hts := atoms_spec (ws := w_Mo_hasSymbol) B.pre
  have hg : ∀ w ∈ gW, w.before args s = true := fun w h => hts w (List.mem_cons_of_mem _ h)
  have hown : s.vm.findClass "PrefixCodesModel" = some m.cls := findClass_of_methodNamed B.named
  have hlocks := B.notSynchronized
  have hS : va_S A s.heap s.heap [] := va_S.rf
  have hl := lv_entry ([.ref (ad 48 0), .int a1, .int a2]) (n := 3) (Nat.le_of_ble_eq_true rfl)
  rw [show entryFrame m args 3 = entryFrame m (([.ref (ad 48 0), .int a1, .int a2] : List Value).toArray) 3 by rw [hargs], lg_entry_eq]
  generalize (lg_sl ([.ref (ad 48 0), .int a1, .int a2]) ++ List.replicate (3 - (lg_sl ([.ref (ad 48 0), .int a1, .int a2])).length) Slot.unset).toArray = ls at hl ⊢
  have hl : lv_has ls 3 [(0, .ref (ad 48 0)), (1, .int a1), (2, .int a2)] := hl
  generalize hQ0 : MQ below (va_Qi (fun r (_ : Unit) => r = o.2) (fun _ t => Hold D aC A ad n o.1 t.heap) A) args s 0 0 A = Q0
  unfold f_Mo_hasSymbol at h
  refine lv_aload_n hx hb d_Mo_hasSymbol_0 rfl (lv_at hl 0 rfl) ?_
  refine lv_iload_n hx hb d_Mo_hasSymbol_1 rfl (lv_at hl 1 rfl) ?_
  obtain ⟨qc, hc2, h⟩ := b2_some h
  obtain ⟨σ1, x2⟩ := qc
  have h := b2_at h
  refine st_Vi (As := [.int a1]) (rest := []) ⟨hx, hb, hml, hown, hg⟩ (c_Mo_has l D aC A ad n _ a1 _ hc2) (cwG hg wd_426 wd_427 wd_429 wd_430 wd_428 yd_Mo_has ⟨Nat.le_of_ble_eq_true rfl, Nat.le_of_ble_eq_true rfl⟩) hK hH hS hZ hd_48 rfl rfl rfl hl.1 rfl (Nat.le_of_ble_eq_true rfl) d_Mo_hasSymbol_2 ⟨Nat.zero_le _, Nat.zero_le _⟩ (fun H locs hH hS => ?_)
  refine lv_if_eq (tgt := 26) hx hb d_Mo_hasSymbol_5 (by decide) (fun c5 => ?_) (fun c5 => ?_)
  · have h := it h c5
    refine lv_iconst (v := 0) hx hb d_Mo_hasSymbol_26 (by decide) ?_
    cases h
    rw [← hQ0]
    exact W.zret hx hb hr rfl (fun t ht hW => ⟨⟨_, (), rfl, rfl, by dsimp only; rw [ht]; exact hH⟩, hS.F ht⟩) hS.2.2 d_Mo_hasSymbol_27
  · have h := ie h c5
    refine lv_iload_n hx hb d_Mo_hasSymbol_8 rfl (lv_at hl 2 rfl) ?_
    refine lv_if_lt (tgt := 26) hx hb d_Mo_hasSymbol_9 (by decide) (fun c9 => ?_) (fun c9 => ?_)
    · have h := it h c9
      refine lv_iconst (v := 0) hx hb d_Mo_hasSymbol_26 (by decide) ?_
      cases h
      rw [← hQ0]
      exact W.zret hx hb hr rfl (fun t ht hW => ⟨⟨_, (), rfl, rfl, by dsimp only; rw [ht]; exact hH⟩, hS.F ht⟩) hS.2.2 d_Mo_hasSymbol_27
    · have h := ie h c9
      refine lv_iload_n hx hb d_Mo_hasSymbol_12 rfl (lv_at hl 2 rfl) ?_
      refine lv_aload_n hx hb d_Mo_hasSymbol_13 rfl (lv_at hl 0 rfl) ?_
      refine st_get hx hb hg hown hK hH (f := 48) (i := 0) hd_48 rfl rfl u_Mo 2 (by decide) (hg _ wd_425) (v := .ref (ad 49 0)) rfl d_Mo_hasSymbol_14 ?_
      refine lv_iload_n hx hb d_Mo_hasSymbol_17 rfl (lv_at hl 1 rfl) ?_
      obtain ⟨g18, h⟩ := gd_some h
      refine st_iald hx hb hK hH (f := 49) (i := 0) hd_49 rfl g18 d_Mo_hasSymbol_18 ?_
      refine lv_icmp_ge (tgt := 26) hx hb d_Mo_hasSymbol_19 (by decide) (fun c19 => ?_) (fun c19 => ?_)
      · have h := it h c19
        refine lv_iconst (v := 0) hx hb d_Mo_hasSymbol_26 (by decide) ?_
        cases h
        rw [← hQ0]
        exact W.zret hx hb hr rfl (fun t ht hW => ⟨⟨_, (), rfl, rfl, by dsimp only; rw [ht]; exact hH⟩, hS.F ht⟩) hS.2.2 d_Mo_hasSymbol_27
      · have h := ie h c19
        refine lv_iconst (v := 1) hx hb d_Mo_hasSymbol_22 (by decide) ?_
        refine lv_goto (tgt := 27) hx hb d_Mo_hasSymbol_23 (by decide) ?_
        cases h
        rw [← hQ0]
        exact W.zret hx hb hr rfl (fun t ht hW => ⟨⟨_, (), rfl, rfl, by dsimp only; rw [ht]; exact hH⟩, hS.F ht⟩) hS.2.2 d_Mo_hasSymbol_27
set_option maxHeartbeats 4000000 in
set_option maxRecDepth 100000 in
theorem c_Mo_lengthOf (l : Launch) (D : va_G) (aC : Nat → ClassId) (A : Nat → Prop) (ad : Nat → Nat → Nat) (n : Nat) (σ : St) (a1 : Int32) (a2 : Int32) (o : St × Int32) (h : f_Mo_lengthOf σ a1 a2 = some o) : Met l y_Mo_lengthOf w_Mo_lengthOf rm_Mo_lengthOf (va_Pc [.ref (ad 48 0), .int a1, .int a2] (Pre D aC A ad n σ)) (va_Qi (fun r (_ : Unit) => r = o.2) (fun _ t => Hold D aC A ad n o.1 t.heap) A) 0 0 A := by
  refine Met.ofW (cc := prog_13_method_5_code) (maxL := 3) (ret := (some .int)) (by decide) rfl ?_
  intro p e s m args below meth c s₁ B hml hv
  obtain ⟨hargs, hH, hK, hZ⟩ := hv
  have hx := B.exec
  have hb := B.bytes
  have hr := B.returns
  have hts := atoms_spec (ws := w_Mo_lengthOf) B.pre
  have hg : ∀ w ∈ gW, w.before args s = true := fun w h => hts w (List.mem_cons_of_mem _ h)
  have hown : s.vm.findClass "PrefixCodesModel" = some m.cls := findClass_of_methodNamed B.named
  have hlocks := B.notSynchronized
  have hS : va_S A s.heap s.heap [] := va_S.rf
  have hl := lv_entry ([.ref (ad 48 0), .int a1, .int a2]) (n := 3) (Nat.le_of_ble_eq_true rfl)
  rw [show entryFrame m args 3 = entryFrame m (([.ref (ad 48 0), .int a1, .int a2] : List Value).toArray) 3 by rw [hargs], lg_entry_eq]
  generalize (lg_sl ([.ref (ad 48 0), .int a1, .int a2]) ++ List.replicate (3 - (lg_sl ([.ref (ad 48 0), .int a1, .int a2])).length) Slot.unset).toArray = ls at hl ⊢
  have hl : lv_has ls 3 [(0, .ref (ad 48 0)), (1, .int a1), (2, .int a2)] := hl
  generalize hQ0 : MQ below (va_Qi (fun r (_ : Unit) => r = o.2) (fun _ t => Hold D aC A ad n o.1 t.heap) A) args s 0 0 A = Q0
  unfold f_Mo_lengthOf at h
  refine lv_aload_n hx hb d_Mo_lengthOf_0 rfl (lv_at hl 0 rfl) ?_
  refine st_get hx hb hg hown hK hH (f := 48) (i := 0) hd_48 rfl rfl u_Mo 3 (by decide) (hg _ wd_431) (v := .ref (ad 50 0)) rfl d_Mo_lengthOf_1 ?_
  refine lv_bipush (v := 64) hx hb d_Mo_lengthOf_4 (by decide) ?_
  refine lv_iload_n hx hb d_Mo_lengthOf_6 rfl (lv_at hl 1 rfl) ?_
  refine lv_imul hx hb d_Mo_lengthOf_7 ?_
  refine lv_iload_n hx hb d_Mo_lengthOf_8 rfl (lv_at hl 2 rfl) ?_
  refine lv_iadd hx hb d_Mo_lengthOf_9 ?_
  obtain ⟨g10, h⟩ := gd_some h
  refine st_iald hx hb hK hH (f := 50) (i := 0) hd_50 rfl g10 d_Mo_lengthOf_10 ?_
  cases h
  rw [← hQ0]
  exact W.iret hx hb hr (fun t ht hW => ⟨⟨_, (), rfl, rfl, by dsimp only; rw [ht]; exact hH⟩, hS.F ht⟩) hS.2.2 d_Mo_lengthOf_11
set_option maxHeartbeats 4000000 in
set_option maxRecDepth 100000 in
theorem c_Mo_made (l : Launch) (D : va_G) (aC : Nat → ClassId) (A : Nat → Prop) (ad : Nat → Nat → Nat) (n : Nat) (σ : St) (a1 : Int32) (o : St × Int32) (h : f_Mo_made σ a1 = some o) : Met l y_Mo_made w_Mo_made rm_Mo_made (va_Pc [.ref (ad 48 0), .int a1] (Pre D aC A ad n σ)) (va_Qi (fun r (_ : Unit) => r = o.2) (fun _ t => Hold D aC A ad n o.1 t.heap) A) 0 0 A := by
  refine Met.ofW (cc := prog_13_method_6_code) (maxL := 4) (ret := (some .int)) (by decide) rfl ?_
  intro p e s m args below meth c s₁ B hml hv
  obtain ⟨hargs, hH, hK, hZ⟩ := hv
  have hx := B.exec
  have hb := B.bytes
  have hr := B.returns
  have hts := atoms_spec (ws := w_Mo_made) B.pre
  have hg : ∀ w ∈ gW, w.before args s = true := fun w h => hts w (List.mem_cons_of_mem _ h)
  have hown : s.vm.findClass "PrefixCodesModel" = some m.cls := findClass_of_methodNamed B.named
  have hlocks := B.notSynchronized
  have hS : va_S A s.heap s.heap [] := va_S.rf
  have hl := lv_entry ([.ref (ad 48 0), .int a1]) (n := 4) (Nat.le_of_ble_eq_true rfl)
  rw [show entryFrame m args 4 = entryFrame m (([.ref (ad 48 0), .int a1] : List Value).toArray) 4 by rw [hargs], lg_entry_eq]
  generalize (lg_sl ([.ref (ad 48 0), .int a1]) ++ List.replicate (4 - (lg_sl ([.ref (ad 48 0), .int a1])).length) Slot.unset).toArray = ls at hl ⊢
  have hl : lv_has ls 4 [(0, .ref (ad 48 0)), (1, .int a1)] := hl
  generalize hQ0 : MQ below (va_Qi (fun r (_ : Unit) => r = o.2) (fun _ t => Hold D aC A ad n o.1 t.heap) A) args s 0 0 A = Q0
  unfold f_Mo_made at h
  refine lv_aload_n hx hb d_Mo_made_0 rfl (lv_at hl 0 rfl) ?_
  refine st_get hx hb hg hown hK hH (f := 48) (i := 0) hd_48 rfl rfl u_Mo 1 (by decide) (hg _ wd_424) (v := .int (σ.1 48 0 1)) rfl d_Mo_made_1 ?_
  refine lv_topi (fun x1 ex1 => ?_)
  have h := nm_at ex1 h
  refine lv_istore_n (lv' := [(2, .int x1), (0, .ref (ad 48 0)), (1, .int a1)]) hx hb d_Mo_made_4 rfl hl (by decide) rfl (fun ls hl => ?_)
  refine lv_aload_n hx hb d_Mo_made_5 rfl (lv_at hl 1 rfl) ?_
  refine st_get hx hb hg hown hK hH (f := 48) (i := 0) hd_48 rfl rfl u_Mo 2 (by decide) (hg _ wd_425) (v := .ref (ad 49 0)) rfl d_Mo_made_6 ?_
  refine lv_iload_n hx hb d_Mo_made_9 rfl (lv_at hl 0 rfl) ?_
  refine lv_iload_n hx hb d_Mo_made_10 rfl (lv_at hl 2 rfl) ?_
  obtain ⟨g11, h⟩ := gd_some h
  refine st_iast hx hb hK hH hS (f := 49) (i := 0) hd_49 rfl g11 d_Mo_made_11 (fun σ2 H locs eσ2 hH hS => ?_)
  have h := nm_at eσ2 h
  refine lv_iconst (v := 0) hx hb d_Mo_made_12 (by decide) ?_
  refine lv_istore_n (lv' := [(3, .int 0), (2, .int x1), (0, .ref (ad 48 0)), (1, .int a1)]) hx hb d_Mo_made_13 rfl hl (by decide) rfl (fun ls hl => ?_)
  obtain ⟨q1, hq1, h⟩ := b2_some h
  have K1 : ∀ (σ5 : St) (x6 : Int32) (H : Heap) (locs : List Loc) (ls : Array Slot), q1 = (σ5, x6) → Hold D aC A ad n σ5 H → va_S A s.heap H locs → lv_has ls 4 [(0, .ref (ad 48 0)), (2, .int x1), (3, .int x6)] → W p l e (headSpec w_Mo_made rm_Mo_made).room s m args below meth c H locs 0 0 Q0 (F0 m 38 ls []) := by
    intro σ5 x6 H locs ls eq1 hH hS hl
    subst eq1
    have h := b2_at h
    refine lv_aload_n hx hb d_Mo_made_38 rfl (lv_at hl 0 rfl) ?_
    refine lv_dup hx hb d_Mo_made_39 rfl ?_
    refine st_get hx hb hg hown hK hH (f := 48) (i := 0) hd_48 rfl rfl u_Mo 1 (by decide) (hg _ wd_424) (v := .int (σ5.1 48 0 1)) rfl d_Mo_made_40 ?_
    refine lv_iconst (v := 1) hx hb d_Mo_made_43 (by decide) ?_
    refine lv_iadd hx hb d_Mo_made_44 ?_
    refine st_put hx hb hg hown hK hH hS (f := 48) (i := 0) hd_48 rfl rfl u_Mo t_Mo t_Mo_ok n_Mo 1 (by decide) (hg _ wd_424) rfl rfl rfl d_Mo_made_45 (fun σ7 H locs eσ7 hH hS => ?_)
    have h := nm_at eσ7 h
    refine lv_iload_n hx hb d_Mo_made_48 rfl (lv_at hl 1 rfl) ?_
    cases h
    rw [← hQ0]
    exact W.iret hx hb hr (fun t ht hW => ⟨⟨_, (), rfl, rfl, by dsimp only; rw [ht]; exact hH⟩, hS.F ht⟩) hS.2.2 d_Mo_made_49
  have loop1 : ∀ (k : Nat) (σ : St) (v3 : Int32) (H : Heap) (locs : List Loc) (ls : Array Slot), Hold D aC A ad n σ H → va_S A s.heap H locs → lv_has ls 4 [(0, .ref (ad 48 0)), (2, .int x1), (3, .int v3)] → lp (fun q => lb_Mo_made_14 x1 q.1 q.2) k (σ, v3) = some q1 → W p l e (headSpec w_Mo_made rm_Mo_made).room s m args below meth c H locs 0 0 Q0 (F0 m 14 ls []) := by
    intro k
    induction k with
    | zero => intro σ v3 H locs ls hH hS hl hlp; exact absurd hlp (lp_zero _ _ _)
    | succ k ih1 =>
      intro σ v3 H locs ls hH hS hl hlp
      obtain ⟨z1, h1, hk1⟩ := lp_succ hlp
      have h1 : lb_Mo_made_14 x1 σ v3 = some z1 := h1
      unfold lb_Mo_made_14 at h1
      refine lv_iload_n hx hb d_Mo_made_14 rfl (lv_at hl 2 rfl) ?_
      refine lv_bipush (v := 64) hx hb d_Mo_made_15 (by decide) ?_
      refine lv_icmp_ge (tgt := 38) hx hb d_Mo_made_17 (by decide) (fun c17 => ?_) (fun c17 => ?_)
      · have h1 := it h1 c17
        cases h1
        exact K1 σ v3 _ _ ls (Option.some.inj hk1).symm hH hS (lv_sub hl [0, 1, 2] rfl)
      · have h1 := ie h1 c17
        refine lv_aload_n hx hb d_Mo_made_20 rfl (lv_at hl 0 rfl) ?_
        refine st_get hx hb hg hown hK hH (f := 48) (i := 0) hd_48 rfl rfl u_Mo 3 (by decide) (hg _ wd_431) (v := .ref (ad 50 0)) rfl d_Mo_made_21 ?_
        refine lv_bipush (v := 64) hx hb d_Mo_made_24 (by decide) ?_
        refine lv_iload_n hx hb d_Mo_made_26 rfl (lv_at hl 1 rfl) ?_
        refine lv_imul hx hb d_Mo_made_27 ?_
        refine lv_iload_n hx hb d_Mo_made_28 rfl (lv_at hl 2 rfl) ?_
        refine lv_iadd hx hb d_Mo_made_29 ?_
        refine lv_iconst (v := 0) hx hb d_Mo_made_30 (by decide) ?_
        obtain ⟨g31, h1⟩ := gd_some h1
        refine st_iast hx hb hK hH hS (f := 50) (i := 0) hd_50 rfl g31 d_Mo_made_31 (fun σ3 H locs eσ3 hH hS => ?_)
        have h1 := nm_at eσ3 h1
        obtain ⟨x4, ex4⟩ : ∃ y : Int32, y = v3 + 1 := ⟨_, rfl⟩
        have h1 := nm_at ex4 h1
        refine lv_iinc (v := x4) (lv' := [(3, .int x4), (0, .ref (ad 48 0)), (2, .int x1)]) hx hb d_Mo_made_32 hl (k := 2) rfl (by rw [ex4]; rfl) (by decide) rfl (fun ls hl => ?_)
        refine lv_goto (tgt := 14) hx hb d_Mo_made_35 (by decide) ?_
        cases h1
        exact ih1 σ3 x4 _ _ ls hH hS (lv_sub hl [1, 2, 0] rfl) hk1
  obtain ⟨k1, hq1⟩ := lpE_some hq1
  exact loop1 k1 σ2 0 _ _ ls hH hS (lv_sub hl [2, 1, 0] rfl) hq1
set_option maxHeartbeats 4000000 in
set_option maxRecDepth 100000 in
theorem c_Mo_code (l : Launch) (D : va_G) (aC : Nat → ClassId) (A : Nat → Prop) (ad : Nat → Nat → Nat) (n : Nat) (σ : St) (a1 : Int32) (o : St × Int32) (h : f_Mo_code σ a1 = some o) : Met l y_Mo_code w_Mo_code rm_Mo_code (va_Pc [.ref (ad 48 0), .int a1] (Pre D aC A ad n σ)) (va_Qi (fun r (_ : Unit) => r = o.2) (fun _ t => Hold D aC A ad n o.1 t.heap) A) 0 0 A := by
  refine Met.ofW (cc := prog_13_method_7_code) (maxL := 2) (ret := (some .int)) (by decide) rfl ?_
  intro p e s m args below meth c s₁ B hml hv
  obtain ⟨hargs, hH, hK, hZ⟩ := hv
  have hx := B.exec
  have hb := B.bytes
  have hr := B.returns
  have hts := atoms_spec (ws := w_Mo_code) B.pre
  have hg : ∀ w ∈ gW, w.before args s = true := fun w h => hts w (List.mem_cons_of_mem _ h)
  have hown : s.vm.findClass "PrefixCodesModel" = some m.cls := findClass_of_methodNamed B.named
  have hlocks := B.notSynchronized
  have hS : va_S A s.heap s.heap [] := va_S.rf
  have hl := lv_entry ([.ref (ad 48 0), .int a1]) (n := 2) (Nat.le_of_ble_eq_true rfl)
  rw [show entryFrame m args 2 = entryFrame m (([.ref (ad 48 0), .int a1] : List Value).toArray) 2 by rw [hargs], lg_entry_eq]
  generalize (lg_sl ([.ref (ad 48 0), .int a1]) ++ List.replicate (2 - (lg_sl ([.ref (ad 48 0), .int a1])).length) Slot.unset).toArray = ls at hl ⊢
  have hl : lv_has ls 2 [(0, .ref (ad 48 0)), (1, .int a1)] := hl
  generalize hQ0 : MQ below (va_Qi (fun r (_ : Unit) => r = o.2) (fun _ t => Hold D aC A ad n o.1 t.heap) A) args s 0 0 A = Q0
  unfold f_Mo_code at h
  refine lv_iload_n hx hb d_Mo_code_0 rfl (lv_at hl 1 rfl) ?_
  refine lv_iconst (v := 1) hx hb d_Mo_code_1 (by decide) ?_
  refine lv_icmp_lt (tgt := 11) hx hb d_Mo_code_2 (by decide) (fun c2 => ?_) (fun c2 => ?_)
  · have h := it h c2
    refine lv_bipush (v := (-102)) hx hb d_Mo_code_11 (by decide) ?_
    refine lv_goto (tgt := 35) hx hb d_Mo_code_13 (by decide) ?_
    cases h
    rw [← hQ0]
    exact W.iret hx hb hr (fun t ht hW => ⟨⟨_, (), rfl, rfl, by dsimp only; rw [ht]; exact hH⟩, hS.F ht⟩) hS.2.2 d_Mo_code_35
  · have h := ie h c2
    refine lv_iload_n hx hb d_Mo_code_5 rfl (lv_at hl 1 rfl) ?_
    refine lv_bipush (v := 64) hx hb d_Mo_code_6 (by decide) ?_
    refine lv_icmp_le (tgt := 16) hx hb d_Mo_code_8 (by decide) (fun c8 => ?_) (fun c8 => ?_)
    · have h := it h c8
      refine lv_aload_n hx hb d_Mo_code_16 rfl (lv_at hl 0 rfl) ?_
      refine st_get hx hb hg hown hK hH (f := 48) (i := 0) hd_48 rfl rfl u_Mo 1 (by decide) (hg _ wd_424) (v := .int (σ.1 48 0 1)) rfl d_Mo_code_17 ?_
      refine lv_bipush (v := 12) hx hb d_Mo_code_20 (by decide) ?_
      refine lv_icmp_ne (tgt := 30) hx hb d_Mo_code_22 (by decide) (fun c22 => ?_) (fun c22 => ?_)
      · have h := ie h c22
        refine lv_aload_n hx hb d_Mo_code_30 rfl (lv_at hl 0 rfl) ?_
        refine lv_iload_n hx hb d_Mo_code_31 rfl (lv_at hl 1 rfl) ?_
        obtain ⟨qc, hc32, h⟩ := b2_some h
        obtain ⟨σ1, x2⟩ := qc
        have h := b2_at h
        refine st_Vi (As := [.int a1]) (rest := []) ⟨hx, hb, hml, hown, hg⟩ (c_Mo_made l D aC A ad n _ a1 _ hc32) (cwG hg wd_432 wd_433 wd_434 wd_435 wd_428 yd_Mo_made ⟨Nat.le_of_ble_eq_true rfl, Nat.le_of_ble_eq_true rfl⟩) hK hH hS hZ hd_48 rfl rfl rfl hl.1 rfl (Nat.le_of_ble_eq_true rfl) d_Mo_code_32 ⟨Nat.zero_le _, Nat.zero_le _⟩ (fun H locs hH hS => ?_)
        cases h
        rw [← hQ0]
        exact W.iret hx hb hr (fun t ht hW => ⟨⟨_, (), rfl, rfl, by dsimp only; rw [ht]; exact hH⟩, hS.F ht⟩) hS.2.2 d_Mo_code_35
      · have h := it h c22
        refine lv_bipush (v := (-106)) hx hb d_Mo_code_25 (by decide) ?_
        refine lv_goto (tgt := 35) hx hb d_Mo_code_27 (by decide) ?_
        cases h
        rw [← hQ0]
        exact W.iret hx hb hr (fun t ht hW => ⟨⟨_, (), rfl, rfl, by dsimp only; rw [ht]; exact hH⟩, hS.F ht⟩) hS.2.2 d_Mo_code_35
    · have h := ie h c8
      refine lv_bipush (v := (-102)) hx hb d_Mo_code_11 (by decide) ?_
      refine lv_goto (tgt := 35) hx hb d_Mo_code_13 (by decide) ?_
      cases h
      rw [← hQ0]
      exact W.iret hx hb hr (fun t ht hW => ⟨⟨_, (), rfl, rfl, by dsimp only; rw [ht]; exact hH⟩, hS.F ht⟩) hS.2.2 d_Mo_code_35
set_option maxHeartbeats 4000000 in
set_option maxRecDepth 100000 in
theorem c_Mo_length (l : Launch) (D : va_G) (aC : Nat → ClassId) (A : Nat → Prop) (ad : Nat → Nat → Nat) (n : Nat) (σ : St) (a1 : Int32) (a2 : Int32) (a3 : Int32) (o : St × Int32) (h : f_Mo_length σ a1 a2 a3 = some o) : Met l y_Mo_length w_Mo_length rm_Mo_length (va_Pc [.ref (ad 48 0), .int a1, .int a2, .int a3] (Pre D aC A ad n σ)) (va_Qi (fun r (_ : Unit) => r = o.2) (fun _ t => Hold D aC A ad n o.1 t.heap) A) 0 0 A := by
  refine Met.ofW (cc := prog_13_method_8_code) (maxL := 5) (ret := (some .int)) (by decide) rfl ?_
  intro p e s m args below meth c s₁ B hml hv
  obtain ⟨hargs, hH, hK, hZ⟩ := hv
  have hx := B.exec
  have hb := B.bytes
  have hr := B.returns
  have hts := atoms_spec (ws := w_Mo_length) B.pre
  have hg : ∀ w ∈ gW, w.before args s = true := fun w h => hts w (List.mem_cons_of_mem _ h)
  have hown : s.vm.findClass "PrefixCodesModel" = some m.cls := findClass_of_methodNamed B.named
  have hlocks := B.notSynchronized
  have hS : va_S A s.heap s.heap [] := va_S.rf
  have hl := lv_entry ([.ref (ad 48 0), .int a1, .int a2, .int a3]) (n := 5) (Nat.le_of_ble_eq_true rfl)
  rw [show entryFrame m args 5 = entryFrame m (([.ref (ad 48 0), .int a1, .int a2, .int a3] : List Value).toArray) 5 by rw [hargs], lg_entry_eq]
  generalize (lg_sl ([.ref (ad 48 0), .int a1, .int a2, .int a3]) ++ List.replicate (5 - (lg_sl ([.ref (ad 48 0), .int a1, .int a2, .int a3])).length) Slot.unset).toArray = ls at hl ⊢
  have hl : lv_has ls 5 [(0, .ref (ad 48 0)), (1, .int a1), (2, .int a2), (3, .int a3)] := hl
  generalize hQ0 : MQ below (va_Qi (fun r (_ : Unit) => r = o.2) (fun _ t => Hold D aC A ad n o.1 t.heap) A) args s 0 0 A = Q0
  unfold f_Mo_length at h
  refine lv_aload_n hx hb d_Mo_length_0 rfl (lv_at hl 0 rfl) ?_
  refine lv_iload_n hx hb d_Mo_length_1 rfl (lv_at hl 1 rfl) ?_
  refine lv_iload_n hx hb d_Mo_length_2 rfl (lv_at hl 2 rfl) ?_
  obtain ⟨qc, hc3, h⟩ := b2_some h
  obtain ⟨σ1, x2⟩ := qc
  have h := b2_at h
  refine st_Vi (As := [.int a1, .int a2]) (rest := []) ⟨hx, hb, hml, hown, hg⟩ (c_Mo_hasSymbol l D aC A ad n _ a1 a2 _ hc3) (cwG hg wd_436 wd_437 wd_438 wd_439 wd_428 yd_Mo_hasSymbol ⟨Nat.le_of_ble_eq_true rfl, Nat.le_of_ble_eq_true rfl⟩) hK hH hS hZ hd_48 rfl rfl rfl hl.1 rfl (Nat.le_of_ble_eq_true rfl) d_Mo_length_3 ⟨Nat.zero_le _, Nat.zero_le _⟩ (fun H locs hH hS => ?_)
  refine lv_if_ne (tgt := 12) hx hb d_Mo_length_6 (by decide) (fun c6 => ?_) (fun c6 => ?_)
  · have h := ie h c6
    refine lv_iload_n hx hb d_Mo_length_12 rfl (lv_at hl 3 rfl) ?_
    refine lv_if_lt (tgt := 22) hx hb d_Mo_length_13 (by decide) (fun c13 => ?_) (fun c13 => ?_)
    · have h := it h c13
      refine lv_bipush (v := (-102)) hx hb d_Mo_length_22 (by decide) ?_
      cases h
      rw [← hQ0]
      exact W.iret hx hb hr (fun t ht hW => ⟨⟨_, (), rfl, rfl, by dsimp only; rw [ht]; exact hH⟩, hS.F ht⟩) hS.2.2 d_Mo_length_24
    · have h := ie h c13
      refine lv_iload_n hx hb d_Mo_length_16 rfl (lv_at hl 3 rfl) ?_
      refine lv_bipush (v := 15) hx hb d_Mo_length_17 (by decide) ?_
      refine lv_icmp_le (tgt := 25) hx hb d_Mo_length_19 (by decide) (fun c19 => ?_) (fun c19 => ?_)
      · have h := it h c19
        refine lv_aload_n hx hb d_Mo_length_25 rfl (lv_at hl 0 rfl) ?_
        refine lv_iload_n hx hb d_Mo_length_26 rfl (lv_at hl 1 rfl) ?_
        refine lv_iload_n hx hb d_Mo_length_27 rfl (lv_at hl 2 rfl) ?_
        obtain ⟨qc, hc28, h⟩ := b2_some h
        obtain ⟨σ3, x4⟩ := qc
        have h := b2_at h
        refine st_Vi (As := [.int a1, .int a2]) (rest := []) ⟨hx, hb, hml, hown, hg⟩ (c_Mo_lengthOf l D aC A ad n _ a1 a2 _ hc28) (cwG hg wd_440 wd_441 wd_442 wd_443 wd_428 yd_Mo_lengthOf ⟨Nat.le_of_ble_eq_true rfl, Nat.le_of_ble_eq_true rfl⟩) hK hH hS hZ hd_48 rfl rfl rfl hl.1 rfl (Nat.le_of_ble_eq_true rfl) d_Mo_length_28 ⟨Nat.zero_le _, Nat.zero_le _⟩ (fun H locs hH hS => ?_)
        refine lv_istore (lv' := [(4, .int x4), (0, .ref (ad 48 0)), (1, .int a1), (2, .int a2), (3, .int a3)]) hx hb d_Mo_length_31 hl (by decide) rfl (fun ls hl => ?_)
        refine lv_aload_n hx hb d_Mo_length_33 rfl (lv_at hl 1 rfl) ?_
        refine st_get hx hb hg hown hK hH (f := 48) (i := 0) hd_48 rfl rfl u_Mo 3 (by decide) (hg _ wd_431) (v := .ref (ad 50 0)) rfl d_Mo_length_34 ?_
        refine lv_bipush (v := 64) hx hb d_Mo_length_37 (by decide) ?_
        refine lv_iload_n hx hb d_Mo_length_39 rfl (lv_at hl 2 rfl) ?_
        refine lv_imul hx hb d_Mo_length_40 ?_
        refine lv_iload_n hx hb d_Mo_length_41 rfl (lv_at hl 3 rfl) ?_
        refine lv_iadd hx hb d_Mo_length_42 ?_
        refine lv_iload_n hx hb d_Mo_length_43 rfl (lv_at hl 4 rfl) ?_
        obtain ⟨g44, h⟩ := gd_some h
        refine st_iast hx hb hK hH hS (f := 50) (i := 0) hd_50 rfl g44 d_Mo_length_44 (fun σ5 H locs eσ5 hH hS => ?_)
        have h := nm_at eσ5 h
        refine lv_iload hx hb d_Mo_length_45 (lv_at hl 0 rfl) ?_
        cases h
        rw [← hQ0]
        exact W.iret hx hb hr (fun t ht hW => ⟨⟨_, (), rfl, rfl, by dsimp only; rw [ht]; exact hH⟩, hS.F ht⟩) hS.2.2 d_Mo_length_47
      · have h := ie h c19
        refine lv_bipush (v := (-102)) hx hb d_Mo_length_22 (by decide) ?_
        cases h
        rw [← hQ0]
        exact W.iret hx hb hr (fun t ht hW => ⟨⟨_, (), rfl, rfl, by dsimp only; rw [ht]; exact hH⟩, hS.F ht⟩) hS.2.2 d_Mo_length_24
  · have h := it h c6
    refine lv_bipush (v := (-101)) hx hb d_Mo_length_9 (by decide) ?_
    cases h
    rw [← hQ0]
    exact W.iret hx hb hr (fun t ht hW => ⟨⟨_, (), rfl, rfl, by dsimp only; rw [ht]; exact hH⟩, hS.F ht⟩) hS.2.2 d_Mo_length_11
set_option maxHeartbeats 4000000 in
set_option maxRecDepth 100000 in
theorem c_Mo_filled (l : Launch) (D : va_G) (aC : Nat → ClassId) (A : Nat → Prop) (ad : Nat → Nat → Nat) (n : Nat) (σ : St) (a1 : Int32) (o : St × Int32) (h : f_Mo_filled σ a1 = some o) : Met l y_Mo_filled w_Mo_filled rm_Mo_filled (va_Pc [.ref (ad 48 0), .int a1] (Pre D aC A ad n σ)) (va_Qi (fun r (_ : Unit) => r = o.2) (fun _ t => Hold D aC A ad n o.1 t.heap) A) 0 0 A := by
  refine Met.ofW (cc := prog_13_method_9_code) (maxL := 4) (ret := (some .int)) (by decide) rfl ?_
  intro p e s m args below meth c s₁ B hml hv
  obtain ⟨hargs, hH, hK, hZ⟩ := hv
  have hx := B.exec
  have hb := B.bytes
  have hr := B.returns
  have hts := atoms_spec (ws := w_Mo_filled) B.pre
  have hg : ∀ w ∈ gW, w.before args s = true := fun w h => hts w (List.mem_cons_of_mem _ h)
  have hown : s.vm.findClass "PrefixCodesModel" = some m.cls := findClass_of_methodNamed B.named
  have hlocks := B.notSynchronized
  have hS : va_S A s.heap s.heap [] := va_S.rf
  have hl := lv_entry ([.ref (ad 48 0), .int a1]) (n := 4) (Nat.le_of_ble_eq_true rfl)
  rw [show entryFrame m args 4 = entryFrame m (([.ref (ad 48 0), .int a1] : List Value).toArray) 4 by rw [hargs], lg_entry_eq]
  generalize (lg_sl ([.ref (ad 48 0), .int a1]) ++ List.replicate (4 - (lg_sl ([.ref (ad 48 0), .int a1])).length) Slot.unset).toArray = ls at hl ⊢
  have hl : lv_has ls 4 [(0, .ref (ad 48 0)), (1, .int a1)] := hl
  generalize hQ0 : MQ below (va_Qi (fun r (_ : Unit) => r = o.2) (fun _ t => Hold D aC A ad n o.1 t.heap) A) args s 0 0 A = Q0
  unfold f_Mo_filled at h
  refine lv_iconst (v := 0) hx hb d_Mo_filled_0 (by decide) ?_
  refine lv_istore_n (lv' := [(2, .int 0), (0, .ref (ad 48 0)), (1, .int a1)]) hx hb d_Mo_filled_1 rfl hl (by decide) rfl (fun ls hl => ?_)
  refine lv_iconst (v := 0) hx hb d_Mo_filled_2 (by decide) ?_
  refine lv_istore_n (lv' := [(3, .int 0), (2, .int 0), (0, .ref (ad 48 0)), (1, .int a1)]) hx hb d_Mo_filled_3 rfl hl (by decide) rfl (fun ls hl => ?_)
  obtain ⟨q1, hq1, h⟩ := b3_some h
  have K1 : ∀ (σ9 : St) (x10 : Int32) (x11 : Int32) (H : Heap) (locs : List Loc) (ls : Array Slot), q1 = (σ9, x10, x11) → Hold D aC A ad n σ9 H → va_S A s.heap H locs → lv_has ls 4 [(0, .ref (ad 48 0)), (1, .int a1), (2, .int x10), (3, .int x11)] → W p l e (headSpec w_Mo_filled rm_Mo_filled).room s m args below meth c H locs 0 0 Q0 (F0 m 45 ls []) := by
    intro σ9 x10 x11 H locs ls eq1 hH hS hl
    subst eq1
    have h := b3_at h
    refine lv_iload_n hx hb d_Mo_filled_45 rfl (lv_at hl 2 rfl) ?_
    cases h
    rw [← hQ0]
    exact W.iret hx hb hr (fun t ht hW => ⟨⟨_, (), rfl, rfl, by dsimp only; rw [ht]; exact hH⟩, hS.F ht⟩) hS.2.2 d_Mo_filled_46
  have loop1 : ∀ (k : Nat) (σ : St) (v2 : Int32) (v3 : Int32) (H : Heap) (locs : List Loc) (ls : Array Slot), Hold D aC A ad n σ H → va_S A s.heap H locs → lv_has ls 4 [(0, .ref (ad 48 0)), (1, .int a1), (2, .int v2), (3, .int v3)] → lp (fun q => lb_Mo_filled_4 a1 q.1 q.2.1 q.2.2) k (σ, v2, v3) = some q1 → W p l e (headSpec w_Mo_filled rm_Mo_filled).room s m args below meth c H locs 0 0 Q0 (F0 m 4 ls []) := by
    intro k
    induction k with
    | zero => intro σ v2 v3 H locs ls hH hS hl hlp; exact absurd hlp (lp_zero _ _ _)
    | succ k ih1 =>
      intro σ v2 v3 H locs ls hH hS hl hlp
      obtain ⟨z1, h1, hk1⟩ := lp_succ hlp
      have h1 : lb_Mo_filled_4 a1 σ v2 v3 = some z1 := h1
      unfold lb_Mo_filled_4 at h1
      refine lv_iload_n hx hb d_Mo_filled_4 rfl (lv_at hl 3 rfl) ?_
      refine lv_aload_n hx hb d_Mo_filled_5 rfl (lv_at hl 0 rfl) ?_
      refine st_get hx hb hg hown hK hH (f := 48) (i := 0) hd_48 rfl rfl u_Mo 2 (by decide) (hg _ wd_425) (v := .ref (ad 49 0)) rfl d_Mo_filled_6 ?_
      refine lv_iload_n hx hb d_Mo_filled_9 rfl (lv_at hl 1 rfl) ?_
      obtain ⟨g10, h1⟩ := gd_some h1
      refine st_iald hx hb hK hH (f := 49) (i := 0) hd_49 rfl g10 d_Mo_filled_10 ?_
      refine lv_icmp_ge (tgt := 45) hx hb d_Mo_filled_11 (by decide) (fun c11 => ?_) (fun c11 => ?_)
      · have h1 := it h1 c11
        cases h1
        exact K1 σ v2 v3 _ _ ls (Option.some.inj hk1).symm hH hS (lv_sub hl [0, 1, 2, 3] rfl)
      · have h1 := ie h1 c11
        refine lv_iload_n hx hb d_Mo_filled_14 rfl (lv_at hl 2 rfl) ?_
        refine lv_aload_n hx hb d_Mo_filled_15 rfl (lv_at hl 0 rfl) ?_
        refine lv_iload_n hx hb d_Mo_filled_16 rfl (lv_at hl 1 rfl) ?_
        refine lv_iload_n hx hb d_Mo_filled_17 rfl (lv_at hl 3 rfl) ?_
        obtain ⟨qc, hc18, h1⟩ := b2_some h1
        obtain ⟨σ1, x2⟩ := qc
        have h1 := b2_at h1
        refine st_Vi (As := [.int a1, .int v3]) (rest := [.int v2]) ⟨hx, hb, hml, hown, hg⟩ (c_Mo_lengthOf l D aC A ad n _ a1 v3 _ hc18) (cwG hg wd_440 wd_441 wd_442 wd_443 wd_428 yd_Mo_lengthOf ⟨Nat.le_of_ble_eq_true rfl, Nat.le_of_ble_eq_true rfl⟩) hK hH hS hZ hd_48 rfl rfl rfl hl.1 rfl (Nat.le_of_ble_eq_true rfl) d_Mo_filled_18 ⟨Nat.zero_le _, Nat.zero_le _⟩ (fun H locs hH hS => ?_)
        refine lv_if_le (tgt := 36) hx hb d_Mo_filled_21 (by decide) (fun c21 => ?_) (fun c21 => ?_)
        · have h1 := it h1 c21
          refine lv_iconst (v := 0) hx hb d_Mo_filled_36 (by decide) ?_
          refine lv_iadd hx hb d_Mo_filled_37 ?_
          refine lv_topi (fun x3 ex3 => ?_)
          have h1 := nm_at ex3 h1
          refine lv_istore_n (lv' := [(2, .int x3), (0, .ref (ad 48 0)), (1, .int a1), (3, .int v3)]) hx hb d_Mo_filled_38 rfl hl (by decide) rfl (fun ls hl => ?_)
          obtain ⟨x4, ex4⟩ : ∃ y : Int32, y = v3 + 1 := ⟨_, rfl⟩
          have h1 := nm_at ex4 h1
          refine lv_iinc (v := x4) (lv' := [(3, .int x4), (2, .int x3), (0, .ref (ad 48 0)), (1, .int a1)]) hx hb d_Mo_filled_39 hl (k := 3) rfl (by rw [ex4]; rfl) (by decide) rfl (fun ls hl => ?_)
          refine lv_goto (tgt := 4) hx hb d_Mo_filled_42 (by decide) ?_
          cases h1
          exact ih1 σ1 x3 x4 _ _ ls hH hS (lv_sub hl [2, 3, 1, 0] rfl) hk1
        · have h1 := ie h1 c21
          refine lv_ldc (v := 32768) hx hb hown (hg _ wd_444) d_Mo_filled_24 ?_
          refine lv_aload_n hx hb d_Mo_filled_26 rfl (lv_at hl 0 rfl) ?_
          refine lv_iload_n hx hb d_Mo_filled_27 rfl (lv_at hl 1 rfl) ?_
          refine lv_iload_n hx hb d_Mo_filled_28 rfl (lv_at hl 3 rfl) ?_
          obtain ⟨qc, hc29, h1⟩ := b2_some h1
          obtain ⟨σ5, x6⟩ := qc
          have h1 := b2_at h1
          refine st_Vi (As := [.int a1, .int v3]) (rest := [.int 32768, .int v2]) ⟨hx, hb, hml, hown, hg⟩ (c_Mo_lengthOf l D aC A ad n _ a1 v3 _ hc29) (cwG hg wd_440 wd_441 wd_442 wd_443 wd_428 yd_Mo_lengthOf ⟨Nat.le_of_ble_eq_true rfl, Nat.le_of_ble_eq_true rfl⟩) hK hH hS hZ hd_48 rfl rfl rfl hl.1 rfl (Nat.le_of_ble_eq_true rfl) d_Mo_filled_29 ⟨Nat.zero_le _, Nat.zero_le _⟩ (fun H locs hH hS => ?_)
          refine lv_ishr hx hb d_Mo_filled_32 ?_
          refine lv_goto (tgt := 37) hx hb d_Mo_filled_33 (by decide) ?_
          refine lv_iadd hx hb d_Mo_filled_37 ?_
          refine lv_topi (fun x7 ex7 => ?_)
          have h1 := nm_at ex7 h1
          refine lv_istore_n (lv' := [(2, .int x7), (0, .ref (ad 48 0)), (1, .int a1), (3, .int v3)]) hx hb d_Mo_filled_38 rfl hl (by decide) rfl (fun ls hl => ?_)
          obtain ⟨x8, ex8⟩ : ∃ y : Int32, y = v3 + 1 := ⟨_, rfl⟩
          have h1 := nm_at ex8 h1
          refine lv_iinc (v := x8) (lv' := [(3, .int x8), (2, .int x7), (0, .ref (ad 48 0)), (1, .int a1)]) hx hb d_Mo_filled_39 hl (k := 3) rfl (by rw [ex8]; rfl) (by decide) rfl (fun ls hl => ?_)
          refine lv_goto (tgt := 4) hx hb d_Mo_filled_42 (by decide) ?_
          cases h1
          exact ih1 σ5 x7 x8 _ _ ls hH hS (lv_sub hl [2, 3, 1, 0] rfl) hk1
  obtain ⟨k1, hq1⟩ := lpE_some hq1
  exact loop1 k1 σ 0 0 _ _ ls hH hS (lv_sub hl [2, 3, 1, 0] rfl) hq1
set_option maxHeartbeats 4000000 in
set_option maxRecDepth 100000 in
theorem c_Mo_words (l : Launch) (D : va_G) (aC : Nat → ClassId) (A : Nat → Prop) (ad : Nat → Nat → Nat) (n : Nat) (σ : St) (a1 : Int32) (o : St × Int32) (h : f_Mo_words σ a1 = some o) : Met l y_Mo_words w_Mo_words rm_Mo_words (va_Pc [.ref (ad 48 0), .int a1] (Pre D aC A ad n σ)) (va_Qi (fun r (_ : Unit) => r = o.2) (fun _ t => Hold D aC A ad n o.1 t.heap) A) 0 0 A := by
  refine Met.ofW (cc := prog_13_method_10_code) (maxL := 4) (ret := (some .int)) (by decide) rfl ?_
  intro p e s m args below meth c s₁ B hml hv
  obtain ⟨hargs, hH, hK, hZ⟩ := hv
  have hx := B.exec
  have hb := B.bytes
  have hr := B.returns
  have hts := atoms_spec (ws := w_Mo_words) B.pre
  have hg : ∀ w ∈ gW, w.before args s = true := fun w h => hts w (List.mem_cons_of_mem _ h)
  have hown : s.vm.findClass "PrefixCodesModel" = some m.cls := findClass_of_methodNamed B.named
  have hlocks := B.notSynchronized
  have hS : va_S A s.heap s.heap [] := va_S.rf
  have hl := lv_entry ([.ref (ad 48 0), .int a1]) (n := 4) (Nat.le_of_ble_eq_true rfl)
  rw [show entryFrame m args 4 = entryFrame m (([.ref (ad 48 0), .int a1] : List Value).toArray) 4 by rw [hargs], lg_entry_eq]
  generalize (lg_sl ([.ref (ad 48 0), .int a1]) ++ List.replicate (4 - (lg_sl ([.ref (ad 48 0), .int a1])).length) Slot.unset).toArray = ls at hl ⊢
  have hl : lv_has ls 4 [(0, .ref (ad 48 0)), (1, .int a1)] := hl
  generalize hQ0 : MQ below (va_Qi (fun r (_ : Unit) => r = o.2) (fun _ t => Hold D aC A ad n o.1 t.heap) A) args s 0 0 A = Q0
  unfold f_Mo_words at h
  refine lv_iconst (v := 0) hx hb d_Mo_words_0 (by decide) ?_
  refine lv_istore_n (lv' := [(2, .int 0), (0, .ref (ad 48 0)), (1, .int a1)]) hx hb d_Mo_words_1 rfl hl (by decide) rfl (fun ls hl => ?_)
  refine lv_iconst (v := 0) hx hb d_Mo_words_2 (by decide) ?_
  refine lv_istore_n (lv' := [(3, .int 0), (2, .int 0), (0, .ref (ad 48 0)), (1, .int a1)]) hx hb d_Mo_words_3 rfl hl (by decide) rfl (fun ls hl => ?_)
  obtain ⟨q1, hq1, h⟩ := b3_some h
  have K1 : ∀ (σ7 : St) (x8 : Int32) (x9 : Int32) (H : Heap) (locs : List Loc) (ls : Array Slot), q1 = (σ7, x8, x9) → Hold D aC A ad n σ7 H → va_S A s.heap H locs → lv_has ls 4 [(0, .ref (ad 48 0)), (1, .int a1), (2, .int x8), (3, .int x9)] → W p l e (headSpec w_Mo_words rm_Mo_words).room s m args below meth c H locs 0 0 Q0 (F0 m 37 ls []) := by
    intro σ7 x8 x9 H locs ls eq1 hH hS hl
    subst eq1
    have h := b3_at h
    refine lv_iload_n hx hb d_Mo_words_37 rfl (lv_at hl 2 rfl) ?_
    cases h
    rw [← hQ0]
    exact W.iret hx hb hr (fun t ht hW => ⟨⟨_, (), rfl, rfl, by dsimp only; rw [ht]; exact hH⟩, hS.F ht⟩) hS.2.2 d_Mo_words_38
  have loop1 : ∀ (k : Nat) (σ : St) (v2 : Int32) (v3 : Int32) (H : Heap) (locs : List Loc) (ls : Array Slot), Hold D aC A ad n σ H → va_S A s.heap H locs → lv_has ls 4 [(0, .ref (ad 48 0)), (1, .int a1), (2, .int v2), (3, .int v3)] → lp (fun q => lb_Mo_words_4 a1 q.1 q.2.1 q.2.2) k (σ, v2, v3) = some q1 → W p l e (headSpec w_Mo_words rm_Mo_words).room s m args below meth c H locs 0 0 Q0 (F0 m 4 ls []) := by
    intro k
    induction k with
    | zero => intro σ v2 v3 H locs ls hH hS hl hlp; exact absurd hlp (lp_zero _ _ _)
    | succ k ih1 =>
      intro σ v2 v3 H locs ls hH hS hl hlp
      obtain ⟨z1, h1, hk1⟩ := lp_succ hlp
      have h1 : lb_Mo_words_4 a1 σ v2 v3 = some z1 := h1
      unfold lb_Mo_words_4 at h1
      refine lv_iload_n hx hb d_Mo_words_4 rfl (lv_at hl 3 rfl) ?_
      refine lv_aload_n hx hb d_Mo_words_5 rfl (lv_at hl 0 rfl) ?_
      refine st_get hx hb hg hown hK hH (f := 48) (i := 0) hd_48 rfl rfl u_Mo 2 (by decide) (hg _ wd_425) (v := .ref (ad 49 0)) rfl d_Mo_words_6 ?_
      refine lv_iload_n hx hb d_Mo_words_9 rfl (lv_at hl 1 rfl) ?_
      obtain ⟨g10, h1⟩ := gd_some h1
      refine st_iald hx hb hK hH (f := 49) (i := 0) hd_49 rfl g10 d_Mo_words_10 ?_
      refine lv_icmp_ge (tgt := 37) hx hb d_Mo_words_11 (by decide) (fun c11 => ?_) (fun c11 => ?_)
      · have h1 := it h1 c11
        cases h1
        exact K1 σ v2 v3 _ _ ls (Option.some.inj hk1).symm hH hS (lv_sub hl [0, 1, 2, 3] rfl)
      · have h1 := ie h1 c11
        refine lv_iload_n hx hb d_Mo_words_14 rfl (lv_at hl 2 rfl) ?_
        refine lv_aload_n hx hb d_Mo_words_15 rfl (lv_at hl 0 rfl) ?_
        refine lv_iload_n hx hb d_Mo_words_16 rfl (lv_at hl 1 rfl) ?_
        refine lv_iload_n hx hb d_Mo_words_17 rfl (lv_at hl 3 rfl) ?_
        obtain ⟨qc, hc18, h1⟩ := b2_some h1
        obtain ⟨σ1, x2⟩ := qc
        have h1 := b2_at h1
        refine st_Vi (As := [.int a1, .int v3]) (rest := [.int v2]) ⟨hx, hb, hml, hown, hg⟩ (c_Mo_lengthOf l D aC A ad n _ a1 v3 _ hc18) (cwG hg wd_440 wd_441 wd_442 wd_443 wd_428 yd_Mo_lengthOf ⟨Nat.le_of_ble_eq_true rfl, Nat.le_of_ble_eq_true rfl⟩) hK hH hS hZ hd_48 rfl rfl rfl hl.1 rfl (Nat.le_of_ble_eq_true rfl) d_Mo_words_18 ⟨Nat.zero_le _, Nat.zero_le _⟩ (fun H locs hH hS => ?_)
        refine lv_if_le (tgt := 28) hx hb d_Mo_words_21 (by decide) (fun c21 => ?_) (fun c21 => ?_)
        · have h1 := it h1 c21
          refine lv_iconst (v := 0) hx hb d_Mo_words_28 (by decide) ?_
          refine lv_iadd hx hb d_Mo_words_29 ?_
          refine lv_topi (fun x3 ex3 => ?_)
          have h1 := nm_at ex3 h1
          refine lv_istore_n (lv' := [(2, .int x3), (0, .ref (ad 48 0)), (1, .int a1), (3, .int v3)]) hx hb d_Mo_words_30 rfl hl (by decide) rfl (fun ls hl => ?_)
          obtain ⟨x4, ex4⟩ : ∃ y : Int32, y = v3 + 1 := ⟨_, rfl⟩
          have h1 := nm_at ex4 h1
          refine lv_iinc (v := x4) (lv' := [(3, .int x4), (2, .int x3), (0, .ref (ad 48 0)), (1, .int a1)]) hx hb d_Mo_words_31 hl (k := 3) rfl (by rw [ex4]; rfl) (by decide) rfl (fun ls hl => ?_)
          refine lv_goto (tgt := 4) hx hb d_Mo_words_34 (by decide) ?_
          cases h1
          exact ih1 σ1 x3 x4 _ _ ls hH hS (lv_sub hl [2, 3, 1, 0] rfl) hk1
        · have h1 := ie h1 c21
          refine lv_iconst (v := 1) hx hb d_Mo_words_24 (by decide) ?_
          refine lv_goto (tgt := 29) hx hb d_Mo_words_25 (by decide) ?_
          refine lv_iadd hx hb d_Mo_words_29 ?_
          refine lv_topi (fun x5 ex5 => ?_)
          have h1 := nm_at ex5 h1
          refine lv_istore_n (lv' := [(2, .int x5), (0, .ref (ad 48 0)), (1, .int a1), (3, .int v3)]) hx hb d_Mo_words_30 rfl hl (by decide) rfl (fun ls hl => ?_)
          obtain ⟨x6, ex6⟩ : ∃ y : Int32, y = v3 + 1 := ⟨_, rfl⟩
          have h1 := nm_at ex6 h1
          refine lv_iinc (v := x6) (lv' := [(3, .int x6), (2, .int x5), (0, .ref (ad 48 0)), (1, .int a1)]) hx hb d_Mo_words_31 hl (k := 3) rfl (by rw [ex6]; rfl) (by decide) rfl (fun ls hl => ?_)
          refine lv_goto (tgt := 4) hx hb d_Mo_words_34 (by decide) ?_
          cases h1
          exact ih1 σ1 x5 x6 _ _ ls hH hS (lv_sub hl [2, 3, 1, 0] rfl) hk1
  obtain ⟨k1, hq1⟩ := lpE_some hq1
  exact loop1 k1 σ 0 0 _ _ ls hH hS (lv_sub hl [2, 3, 1, 0] rfl) hq1
set_option maxHeartbeats 4000000 in
set_option maxRecDepth 100000 in
theorem c_Mo_longest (l : Launch) (D : va_G) (aC : Nat → ClassId) (A : Nat → Prop) (ad : Nat → Nat → Nat) (n : Nat) (σ : St) (a1 : Int32) (o : St × Int32) (h : f_Mo_longest σ a1 = some o) : Met l y_Mo_longest w_Mo_longest rm_Mo_longest (va_Pc [.ref (ad 48 0), .int a1] (Pre D aC A ad n σ)) (va_Qi (fun r (_ : Unit) => r = o.2) (fun _ t => Hold D aC A ad n o.1 t.heap) A) 0 0 A := by
  refine Met.ofW (cc := prog_13_method_11_code) (maxL := 4) (ret := (some .int)) (by decide) rfl ?_
  intro p e s m args below meth c s₁ B hml hv
  obtain ⟨hargs, hH, hK, hZ⟩ := hv
  have hx := B.exec
  have hb := B.bytes
  have hr := B.returns
  have hts := atoms_spec (ws := w_Mo_longest) B.pre
  have hg : ∀ w ∈ gW, w.before args s = true := fun w h => hts w (List.mem_cons_of_mem _ h)
  have hown : s.vm.findClass "PrefixCodesModel" = some m.cls := findClass_of_methodNamed B.named
  have hlocks := B.notSynchronized
  have hS : va_S A s.heap s.heap [] := va_S.rf
  have hl := lv_entry ([.ref (ad 48 0), .int a1]) (n := 4) (Nat.le_of_ble_eq_true rfl)
  rw [show entryFrame m args 4 = entryFrame m (([.ref (ad 48 0), .int a1] : List Value).toArray) 4 by rw [hargs], lg_entry_eq]
  generalize (lg_sl ([.ref (ad 48 0), .int a1]) ++ List.replicate (4 - (lg_sl ([.ref (ad 48 0), .int a1])).length) Slot.unset).toArray = ls at hl ⊢
  have hl : lv_has ls 4 [(0, .ref (ad 48 0)), (1, .int a1)] := hl
  generalize hQ0 : MQ below (va_Qi (fun r (_ : Unit) => r = o.2) (fun _ t => Hold D aC A ad n o.1 t.heap) A) args s 0 0 A = Q0
  unfold f_Mo_longest at h
  refine lv_iconst (v := 0) hx hb d_Mo_longest_0 (by decide) ?_
  refine lv_istore_n (lv' := [(2, .int 0), (0, .ref (ad 48 0)), (1, .int a1)]) hx hb d_Mo_longest_1 rfl hl (by decide) rfl (fun ls hl => ?_)
  refine lv_iconst (v := 0) hx hb d_Mo_longest_2 (by decide) ?_
  refine lv_istore_n (lv' := [(3, .int 0), (2, .int 0), (0, .ref (ad 48 0)), (1, .int a1)]) hx hb d_Mo_longest_3 rfl hl (by decide) rfl (fun ls hl => ?_)
  obtain ⟨q1, hq1, h⟩ := b3_some h
  have K1 : ∀ (σ7 : St) (x8 : Int32) (x9 : Int32) (H : Heap) (locs : List Loc) (ls : Array Slot), q1 = (σ7, x8, x9) → Hold D aC A ad n σ7 H → va_S A s.heap H locs → lv_has ls 4 [(0, .ref (ad 48 0)), (1, .int a1), (2, .int x8), (3, .int x9)] → W p l e (headSpec w_Mo_longest rm_Mo_longest).room s m args below meth c H locs 0 0 Q0 (F0 m 41 ls []) := by
    intro σ7 x8 x9 H locs ls eq1 hH hS hl
    subst eq1
    have h := b3_at h
    refine lv_iload_n hx hb d_Mo_longest_41 rfl (lv_at hl 2 rfl) ?_
    cases h
    rw [← hQ0]
    exact W.iret hx hb hr (fun t ht hW => ⟨⟨_, (), rfl, rfl, by dsimp only; rw [ht]; exact hH⟩, hS.F ht⟩) hS.2.2 d_Mo_longest_42
  have loop1 : ∀ (k : Nat) (σ : St) (v2 : Int32) (v3 : Int32) (H : Heap) (locs : List Loc) (ls : Array Slot), Hold D aC A ad n σ H → va_S A s.heap H locs → lv_has ls 4 [(0, .ref (ad 48 0)), (1, .int a1), (2, .int v2), (3, .int v3)] → lp (fun q => lb_Mo_longest_4 a1 q.1 q.2.1 q.2.2) k (σ, v2, v3) = some q1 → W p l e (headSpec w_Mo_longest rm_Mo_longest).room s m args below meth c H locs 0 0 Q0 (F0 m 4 ls []) := by
    intro k
    induction k with
    | zero => intro σ v2 v3 H locs ls hH hS hl hlp; exact absurd hlp (lp_zero _ _ _)
    | succ k ih1 =>
      intro σ v2 v3 H locs ls hH hS hl hlp
      obtain ⟨z1, h1, hk1⟩ := lp_succ hlp
      have h1 : lb_Mo_longest_4 a1 σ v2 v3 = some z1 := h1
      unfold lb_Mo_longest_4 at h1
      refine lv_iload_n hx hb d_Mo_longest_4 rfl (lv_at hl 3 rfl) ?_
      refine lv_aload_n hx hb d_Mo_longest_5 rfl (lv_at hl 0 rfl) ?_
      refine st_get hx hb hg hown hK hH (f := 48) (i := 0) hd_48 rfl rfl u_Mo 2 (by decide) (hg _ wd_425) (v := .ref (ad 49 0)) rfl d_Mo_longest_6 ?_
      refine lv_iload_n hx hb d_Mo_longest_9 rfl (lv_at hl 1 rfl) ?_
      obtain ⟨g10, h1⟩ := gd_some h1
      refine st_iald hx hb hK hH (f := 49) (i := 0) hd_49 rfl g10 d_Mo_longest_10 ?_
      refine lv_icmp_ge (tgt := 41) hx hb d_Mo_longest_11 (by decide) (fun c11 => ?_) (fun c11 => ?_)
      · have h1 := it h1 c11
        cases h1
        exact K1 σ v2 v3 _ _ ls (Option.some.inj hk1).symm hH hS (lv_sub hl [0, 1, 2, 3] rfl)
      · have h1 := ie h1 c11
        refine lv_aload_n hx hb d_Mo_longest_14 rfl (lv_at hl 0 rfl) ?_
        refine lv_iload_n hx hb d_Mo_longest_15 rfl (lv_at hl 1 rfl) ?_
        refine lv_iload_n hx hb d_Mo_longest_16 rfl (lv_at hl 3 rfl) ?_
        obtain ⟨qc, hc17, h1⟩ := b2_some h1
        obtain ⟨σ1, x2⟩ := qc
        have h1 := b2_at h1
        refine st_Vi (As := [.int a1, .int v3]) (rest := []) ⟨hx, hb, hml, hown, hg⟩ (c_Mo_lengthOf l D aC A ad n _ a1 v3 _ hc17) (cwG hg wd_440 wd_441 wd_442 wd_443 wd_428 yd_Mo_lengthOf ⟨Nat.le_of_ble_eq_true rfl, Nat.le_of_ble_eq_true rfl⟩) hK hH hS hZ hd_48 rfl rfl rfl hl.1 rfl (Nat.le_of_ble_eq_true rfl) d_Mo_longest_17 ⟨Nat.zero_le _, Nat.zero_le _⟩ (fun H locs hH hS => ?_)
        refine lv_iload_n hx hb d_Mo_longest_20 rfl (lv_at hl 2 rfl) ?_
        refine lv_icmp_le (tgt := 33) hx hb d_Mo_longest_21 (by decide) (fun c21 => ?_) (fun c21 => ?_)
        · have h1 := it h1 c21
          refine lv_iload_n hx hb d_Mo_longest_33 rfl (lv_at hl 2 rfl) ?_
          refine lv_istore_n (lv' := [(2, .int v2), (0, .ref (ad 48 0)), (1, .int a1), (3, .int v3)]) hx hb d_Mo_longest_34 rfl hl (by decide) rfl (fun ls hl => ?_)
          obtain ⟨x3, ex3⟩ : ∃ y : Int32, y = v3 + 1 := ⟨_, rfl⟩
          have h1 := nm_at ex3 h1
          refine lv_iinc (v := x3) (lv' := [(3, .int x3), (2, .int v2), (0, .ref (ad 48 0)), (1, .int a1)]) hx hb d_Mo_longest_35 hl (k := 3) rfl (by rw [ex3]; rfl) (by decide) rfl (fun ls hl => ?_)
          refine lv_goto (tgt := 4) hx hb d_Mo_longest_38 (by decide) ?_
          cases h1
          exact ih1 σ1 v2 x3 _ _ ls hH hS (lv_sub hl [2, 3, 1, 0] rfl) hk1
        · have h1 := ie h1 c21
          refine lv_aload_n hx hb d_Mo_longest_24 rfl (lv_at hl 0 rfl) ?_
          refine lv_iload_n hx hb d_Mo_longest_25 rfl (lv_at hl 1 rfl) ?_
          refine lv_iload_n hx hb d_Mo_longest_26 rfl (lv_at hl 3 rfl) ?_
          obtain ⟨qc, hc27, h1⟩ := b2_some h1
          obtain ⟨σ4, x5⟩ := qc
          have h1 := b2_at h1
          refine st_Vi (As := [.int a1, .int v3]) (rest := []) ⟨hx, hb, hml, hown, hg⟩ (c_Mo_lengthOf l D aC A ad n _ a1 v3 _ hc27) (cwG hg wd_440 wd_441 wd_442 wd_443 wd_428 yd_Mo_lengthOf ⟨Nat.le_of_ble_eq_true rfl, Nat.le_of_ble_eq_true rfl⟩) hK hH hS hZ hd_48 rfl rfl rfl hl.1 rfl (Nat.le_of_ble_eq_true rfl) d_Mo_longest_27 ⟨Nat.zero_le _, Nat.zero_le _⟩ (fun H locs hH hS => ?_)
          refine lv_goto (tgt := 34) hx hb d_Mo_longest_30 (by decide) ?_
          refine lv_istore_n (lv' := [(2, .int x5), (0, .ref (ad 48 0)), (1, .int a1), (3, .int v3)]) hx hb d_Mo_longest_34 rfl hl (by decide) rfl (fun ls hl => ?_)
          obtain ⟨x6, ex6⟩ : ∃ y : Int32, y = v3 + 1 := ⟨_, rfl⟩
          have h1 := nm_at ex6 h1
          refine lv_iinc (v := x6) (lv' := [(3, .int x6), (2, .int x5), (0, .ref (ad 48 0)), (1, .int a1)]) hx hb d_Mo_longest_35 hl (k := 3) rfl (by rw [ex6]; rfl) (by decide) rfl (fun ls hl => ?_)
          refine lv_goto (tgt := 4) hx hb d_Mo_longest_38 (by decide) ?_
          cases h1
          exact ih1 σ4 x5 x6 _ _ ls hH hS (lv_sub hl [2, 3, 1, 0] rfl) hk1
  obtain ⟨k1, hq1⟩ := lpE_some hq1
  exact loop1 k1 σ 0 0 _ _ ls hH hS (lv_sub hl [2, 3, 1, 0] rfl) hq1
set_option maxHeartbeats 4000000 in
set_option maxRecDepth 100000 in
theorem c_Mo_kind (l : Launch) (D : va_G) (aC : Nat → ClassId) (A : Nat → Prop) (ad : Nat → Nat → Nat) (n : Nat) (σ : St) (a1 : Int32) (o : St × Int32) (h : f_Mo_kind σ a1 = some o) : Met l y_Mo_kind w_Mo_kind rm_Mo_kind (va_Pc [.ref (ad 48 0), .int a1] (Pre D aC A ad n σ)) (va_Qi (fun r (_ : Unit) => r = o.2) (fun _ t => Hold D aC A ad n o.1 t.heap) A) 0 0 A := by
  refine Met.ofW (cc := prog_13_method_12_code) (maxL := 4) (ret := (some .int)) (by decide) rfl ?_
  intro p e s m args below meth c s₁ B hml hv
  obtain ⟨hargs, hH, hK, hZ⟩ := hv
  have hx := B.exec
  have hb := B.bytes
  have hr := B.returns
  have hts := atoms_spec (ws := w_Mo_kind) B.pre
  have hg : ∀ w ∈ gW, w.before args s = true := fun w h => hts w (List.mem_cons_of_mem _ h)
  have hown : s.vm.findClass "PrefixCodesModel" = some m.cls := findClass_of_methodNamed B.named
  have hlocks := B.notSynchronized
  have hS : va_S A s.heap s.heap [] := va_S.rf
  have hl := lv_entry ([.ref (ad 48 0), .int a1]) (n := 4) (Nat.le_of_ble_eq_true rfl)
  rw [show entryFrame m args 4 = entryFrame m (([.ref (ad 48 0), .int a1] : List Value).toArray) 4 by rw [hargs], lg_entry_eq]
  generalize (lg_sl ([.ref (ad 48 0), .int a1]) ++ List.replicate (4 - (lg_sl ([.ref (ad 48 0), .int a1])).length) Slot.unset).toArray = ls at hl ⊢
  have hl : lv_has ls 4 [(0, .ref (ad 48 0)), (1, .int a1)] := hl
  generalize hQ0 : MQ below (va_Qi (fun r (_ : Unit) => r = o.2) (fun _ t => Hold D aC A ad n o.1 t.heap) A) args s 0 0 A = Q0
  unfold f_Mo_kind at h
  refine lv_aload_n hx hb d_Mo_kind_0 rfl (lv_at hl 0 rfl) ?_
  refine lv_iload_n hx hb d_Mo_kind_1 rfl (lv_at hl 1 rfl) ?_
  obtain ⟨qc, hc2, h⟩ := b2_some h
  obtain ⟨σ1, x2⟩ := qc
  have h := b2_at h
  refine st_Vi (As := [.int a1]) (rest := []) ⟨hx, hb, hml, hown, hg⟩ (c_Mo_words l D aC A ad n _ a1 _ hc2) (cwG hg wd_445 wd_446 wd_447 wd_448 wd_428 yd_Mo_words ⟨Nat.le_of_ble_eq_true rfl, Nat.le_of_ble_eq_true rfl⟩) hK hH hS hZ hd_48 rfl rfl rfl hl.1 rfl (Nat.le_of_ble_eq_true rfl) d_Mo_kind_2 ⟨Nat.zero_le _, Nat.zero_le _⟩ (fun H locs hH hS => ?_)
  refine lv_istore_n (lv' := [(2, .int x2), (0, .ref (ad 48 0)), (1, .int a1)]) hx hb d_Mo_kind_5 rfl hl (by decide) rfl (fun ls hl => ?_)
  refine lv_aload_n hx hb d_Mo_kind_6 rfl (lv_at hl 1 rfl) ?_
  refine lv_iload_n hx hb d_Mo_kind_7 rfl (lv_at hl 2 rfl) ?_
  obtain ⟨qc, hc8, h⟩ := b2_some h
  obtain ⟨σ3, x4⟩ := qc
  have h := b2_at h
  refine st_Vi (As := [.int a1]) (rest := []) ⟨hx, hb, hml, hown, hg⟩ (c_Mo_filled l D aC A ad n _ a1 _ hc8) (cwG hg wd_449 wd_450 wd_451 wd_452 wd_428 yd_Mo_filled ⟨Nat.le_of_ble_eq_true rfl, Nat.le_of_ble_eq_true rfl⟩) hK hH hS hZ hd_48 rfl rfl rfl hl.1 rfl (Nat.le_of_ble_eq_true rfl) d_Mo_kind_8 ⟨Nat.zero_le _, Nat.zero_le _⟩ (fun H locs hH hS => ?_)
  refine lv_istore_n (lv' := [(3, .int x4), (2, .int x2), (0, .ref (ad 48 0)), (1, .int a1)]) hx hb d_Mo_kind_11 rfl hl (by decide) rfl (fun ls hl => ?_)
  refine lv_iload_n hx hb d_Mo_kind_12 rfl (lv_at hl 1 rfl) ?_
  refine lv_if_ne (tgt := 20) hx hb d_Mo_kind_13 (by decide) (fun c13 => ?_) (fun c13 => ?_)
  · have h := ie h c13
    refine lv_iload_n hx hb d_Mo_kind_20 rfl (lv_at hl 1 rfl) ?_
    refine lv_iconst (v := 1) hx hb d_Mo_kind_21 (by decide) ?_
    refine lv_icmp_ne (tgt := 38) hx hb d_Mo_kind_22 (by decide) (fun c22 => ?_) (fun c22 => ?_)
    · have h := ie h c22
      refine lv_iload_n hx hb d_Mo_kind_38 rfl (lv_at hl 0 rfl) ?_
      refine lv_ldc (v := 32768) hx hb hown (hg _ wd_444) d_Mo_kind_39 ?_
      refine lv_icmp_ne (tgt := 48) hx hb d_Mo_kind_41 (by decide) (fun c41 => ?_) (fun c41 => ?_)
      · have h := ie h c41
        refine lv_iload_n hx hb d_Mo_kind_48 rfl (lv_at hl 0 rfl) ?_
        refine lv_ldc (v := 32768) hx hb hown (hg _ wd_444) d_Mo_kind_49 ?_
        refine lv_icmp_ge (tgt := 58) hx hb d_Mo_kind_51 (by decide) (fun c51 => ?_) (fun c51 => ?_)
        · have h := it h c51
          refine lv_iconst (v := 4) hx hb d_Mo_kind_58 (by decide) ?_
          cases h
          rw [← hQ0]
          exact W.iret hx hb hr (fun t ht hW => ⟨⟨_, (), rfl, rfl, by dsimp only; rw [ht]; exact hH⟩, hS.F ht⟩) hS.2.2 d_Mo_kind_59
        · have h := ie h c51
          refine lv_iconst (v := 3) hx hb d_Mo_kind_54 (by decide) ?_
          refine lv_goto (tgt := 59) hx hb d_Mo_kind_55 (by decide) ?_
          cases h
          rw [← hQ0]
          exact W.iret hx hb hr (fun t ht hW => ⟨⟨_, (), rfl, rfl, by dsimp only; rw [ht]; exact hH⟩, hS.F ht⟩) hS.2.2 d_Mo_kind_59
      · have h := it h c41
        refine lv_iconst (v := 2) hx hb d_Mo_kind_44 (by decide) ?_
        refine lv_goto (tgt := 59) hx hb d_Mo_kind_45 (by decide) ?_
        cases h
        rw [← hQ0]
        exact W.iret hx hb hr (fun t ht hW => ⟨⟨_, (), rfl, rfl, by dsimp only; rw [ht]; exact hH⟩, hS.F ht⟩) hS.2.2 d_Mo_kind_59
    · have h := it h c22
      refine lv_aload_n hx hb d_Mo_kind_25 rfl (lv_at hl 2 rfl) ?_
      refine lv_iload_n hx hb d_Mo_kind_26 rfl (lv_at hl 3 rfl) ?_
      obtain ⟨qc, hc27, h⟩ := b2_some h
      obtain ⟨σ5, x6⟩ := qc
      have h := b2_at h
      refine st_Vi (As := [.int a1]) (rest := []) ⟨hx, hb, hml, hown, hg⟩ (c_Mo_longest l D aC A ad n _ a1 _ hc27) (cwG hg wd_453 wd_454 wd_455 wd_456 wd_428 yd_Mo_longest ⟨Nat.le_of_ble_eq_true rfl, Nat.le_of_ble_eq_true rfl⟩) hK hH hS hZ hd_48 rfl rfl rfl hl.1 rfl (Nat.le_of_ble_eq_true rfl) d_Mo_kind_27 ⟨Nat.zero_le _, Nat.zero_le _⟩ (fun H locs hH hS => ?_)
      refine lv_iconst (v := 1) hx hb d_Mo_kind_30 (by decide) ?_
      refine lv_icmp_ne (tgt := 38) hx hb d_Mo_kind_31 (by decide) (fun c31 => ?_) (fun c31 => ?_)
      · have h := ie h c31
        refine lv_iload_n hx hb d_Mo_kind_38 rfl (lv_at hl 0 rfl) ?_
        refine lv_ldc (v := 32768) hx hb hown (hg _ wd_444) d_Mo_kind_39 ?_
        refine lv_icmp_ne (tgt := 48) hx hb d_Mo_kind_41 (by decide) (fun c41 => ?_) (fun c41 => ?_)
        · have h := ie h c41
          refine lv_iload_n hx hb d_Mo_kind_48 rfl (lv_at hl 0 rfl) ?_
          refine lv_ldc (v := 32768) hx hb hown (hg _ wd_444) d_Mo_kind_49 ?_
          refine lv_icmp_ge (tgt := 58) hx hb d_Mo_kind_51 (by decide) (fun c51 => ?_) (fun c51 => ?_)
          · have h := it h c51
            refine lv_iconst (v := 4) hx hb d_Mo_kind_58 (by decide) ?_
            cases h
            rw [← hQ0]
            exact W.iret hx hb hr (fun t ht hW => ⟨⟨_, (), rfl, rfl, by dsimp only; rw [ht]; exact hH⟩, hS.F ht⟩) hS.2.2 d_Mo_kind_59
          · have h := ie h c51
            refine lv_iconst (v := 3) hx hb d_Mo_kind_54 (by decide) ?_
            refine lv_goto (tgt := 59) hx hb d_Mo_kind_55 (by decide) ?_
            cases h
            rw [← hQ0]
            exact W.iret hx hb hr (fun t ht hW => ⟨⟨_, (), rfl, rfl, by dsimp only; rw [ht]; exact hH⟩, hS.F ht⟩) hS.2.2 d_Mo_kind_59
        · have h := it h c41
          refine lv_iconst (v := 2) hx hb d_Mo_kind_44 (by decide) ?_
          refine lv_goto (tgt := 59) hx hb d_Mo_kind_45 (by decide) ?_
          cases h
          rw [← hQ0]
          exact W.iret hx hb hr (fun t ht hW => ⟨⟨_, (), rfl, rfl, by dsimp only; rw [ht]; exact hH⟩, hS.F ht⟩) hS.2.2 d_Mo_kind_59
      · have h := it h c31
        refine lv_iconst (v := 1) hx hb d_Mo_kind_34 (by decide) ?_
        refine lv_goto (tgt := 59) hx hb d_Mo_kind_35 (by decide) ?_
        cases h
        rw [← hQ0]
        exact W.iret hx hb hr (fun t ht hW => ⟨⟨_, (), rfl, rfl, by dsimp only; rw [ht]; exact hH⟩, hS.F ht⟩) hS.2.2 d_Mo_kind_59
  · have h := it h c13
    refine lv_iconst (v := 0) hx hb d_Mo_kind_16 (by decide) ?_
    refine lv_goto (tgt := 59) hx hb d_Mo_kind_17 (by decide) ?_
    cases h
    rw [← hQ0]
    exact W.iret hx hb hr (fun t ht hW => ⟨⟨_, (), rfl, rfl, by dsimp only; rw [ht]; exact hH⟩, hS.F ht⟩) hS.2.2 d_Mo_kind_59
set_option maxHeartbeats 4000000 in
set_option maxRecDepth 100000 in
theorem c_Mo_about (l : Launch) (D : va_G) (aC : Nat → ClassId) (A : Nat → Prop) (ad : Nat → Nat → Nat) (n : Nat) (σ : St) (a1 : Int32) (a2 : Int32) (o : St × Int32) (h : f_Mo_about σ a1 a2 = some o) : Met l y_Mo_about w_Mo_about rm_Mo_about (va_Pc [.ref (ad 48 0), .int a1, .int a2] (Pre D aC A ad n σ)) (va_Qi (fun r (_ : Unit) => r = o.2) (fun _ t => Hold D aC A ad n o.1 t.heap) A) 0 0 A := by
  refine Met.ofW (cc := prog_13_method_13_code) (maxL := 3) (ret := (some .int)) (by decide) rfl ?_
  intro p e s m args below meth c s₁ B hml hv
  obtain ⟨hargs, hH, hK, hZ⟩ := hv
  have hx := B.exec
  have hb := B.bytes
  have hr := B.returns
  have hts := atoms_spec (ws := w_Mo_about) B.pre
  have hg : ∀ w ∈ gW, w.before args s = true := fun w h => hts w (List.mem_cons_of_mem _ h)
  have hown : s.vm.findClass "PrefixCodesModel" = some m.cls := findClass_of_methodNamed B.named
  have hlocks := B.notSynchronized
  have hS : va_S A s.heap s.heap [] := va_S.rf
  have hl := lv_entry ([.ref (ad 48 0), .int a1, .int a2]) (n := 3) (Nat.le_of_ble_eq_true rfl)
  rw [show entryFrame m args 3 = entryFrame m (([.ref (ad 48 0), .int a1, .int a2] : List Value).toArray) 3 by rw [hargs], lg_entry_eq]
  generalize (lg_sl ([.ref (ad 48 0), .int a1, .int a2]) ++ List.replicate (3 - (lg_sl ([.ref (ad 48 0), .int a1, .int a2])).length) Slot.unset).toArray = ls at hl ⊢
  have hl : lv_has ls 3 [(0, .ref (ad 48 0)), (1, .int a1), (2, .int a2)] := hl
  generalize hQ0 : MQ below (va_Qi (fun r (_ : Unit) => r = o.2) (fun _ t => Hold D aC A ad n o.1 t.heap) A) args s 0 0 A = Q0
  unfold f_Mo_about at h
  refine lv_aload_n hx hb d_Mo_about_0 rfl (lv_at hl 0 rfl) ?_
  refine lv_iload_n hx hb d_Mo_about_1 rfl (lv_at hl 1 rfl) ?_
  obtain ⟨qc, hc2, h⟩ := b2_some h
  obtain ⟨σ1, x2⟩ := qc
  have h := b2_at h
  refine st_Vi (As := [.int a1]) (rest := []) ⟨hx, hb, hml, hown, hg⟩ (c_Mo_has l D aC A ad n _ a1 _ hc2) (cwG hg wd_426 wd_427 wd_429 wd_430 wd_428 yd_Mo_has ⟨Nat.le_of_ble_eq_true rfl, Nat.le_of_ble_eq_true rfl⟩) hK hH hS hZ hd_48 rfl rfl rfl hl.1 rfl (Nat.le_of_ble_eq_true rfl) d_Mo_about_2 ⟨Nat.zero_le _, Nat.zero_le _⟩ (fun H locs hH hS => ?_)
  refine lv_if_ne (tgt := 11) hx hb d_Mo_about_5 (by decide) (fun c5 => ?_) (fun c5 => ?_)
  · have h := ie h c5
    refine lv_iload_n hx hb d_Mo_about_11 rfl (lv_at hl 2 rfl) ?_
    by_cases c12_0 : a2 = 0
    · have h := it h c12_0
      refine lv_tableIn (tgt := 48) (off := 36) hx hb d_Mo_about_12 (by rw [c12_0]; decide) (by rw [c12_0]; decide) (by rw [c12_0]; decide +kernel) (by decide) ?_
      refine lv_aload_n hx hb d_Mo_about_48 rfl (lv_at hl 0 rfl) ?_
      refine lv_iload_n hx hb d_Mo_about_49 rfl (lv_at hl 1 rfl) ?_
      obtain ⟨qc, hc50, h⟩ := b2_some h
      obtain ⟨σ3, x4⟩ := qc
      have h := b2_at h
      refine st_Vi (As := [.int a1]) (rest := []) ⟨hx, hb, hml, hown, hg⟩ (c_Mo_kind l D aC A ad n _ a1 _ hc50) (cwG hg wd_457 wd_458 wd_459 wd_460 wd_428 yd_Mo_kind ⟨Nat.le_of_ble_eq_true rfl, Nat.le_of_ble_eq_true rfl⟩) hK hH hS hZ hd_48 rfl rfl rfl hl.1 rfl (Nat.le_of_ble_eq_true rfl) d_Mo_about_50 ⟨Nat.zero_le _, Nat.zero_le _⟩ (fun H locs hH hS => ?_)
      cases h
      rw [← hQ0]
      exact W.iret hx hb hr (fun t ht hW => ⟨⟨_, (), rfl, rfl, by dsimp only; rw [ht]; exact hH⟩, hS.F ht⟩) hS.2.2 d_Mo_about_53
    · have h := ie h c12_0
      by_cases c12_1 : a2 = 1
      · have h := it h c12_1
        refine lv_tableIn (tgt := 54) (off := 42) hx hb d_Mo_about_12 (by rw [c12_1]; decide) (by rw [c12_1]; decide) (by rw [c12_1]; decide +kernel) (by decide) ?_
        refine lv_aload_n hx hb d_Mo_about_54 rfl (lv_at hl 0 rfl) ?_
        refine st_get hx hb hg hown hK hH (f := 48) (i := 0) hd_48 rfl rfl u_Mo 2 (by decide) (hg _ wd_425) (v := .ref (ad 49 0)) rfl d_Mo_about_55 ?_
        refine lv_iload_n hx hb d_Mo_about_58 rfl (lv_at hl 1 rfl) ?_
        obtain ⟨g59, h⟩ := gd_some h
        refine st_iald hx hb hK hH (f := 49) (i := 0) hd_49 rfl g59 d_Mo_about_59 ?_
        cases h
        rw [← hQ0]
        exact W.iret hx hb hr (fun t ht hW => ⟨⟨_, (), rfl, rfl, by dsimp only; rw [ht]; exact hH⟩, hS.F ht⟩) hS.2.2 d_Mo_about_60
      · have h := ie h c12_1
        by_cases c12_2 : a2 = 2
        · have h := it h c12_2
          refine lv_tableIn (tgt := 61) (off := 49) hx hb d_Mo_about_12 (by rw [c12_2]; decide) (by rw [c12_2]; decide) (by rw [c12_2]; decide +kernel) (by decide) ?_
          refine lv_aload_n hx hb d_Mo_about_61 rfl (lv_at hl 0 rfl) ?_
          refine lv_iload_n hx hb d_Mo_about_62 rfl (lv_at hl 1 rfl) ?_
          obtain ⟨qc, hc63, h⟩ := b2_some h
          obtain ⟨σ5, x6⟩ := qc
          have h := b2_at h
          refine st_Vi (As := [.int a1]) (rest := []) ⟨hx, hb, hml, hown, hg⟩ (c_Mo_filled l D aC A ad n _ a1 _ hc63) (cwG hg wd_449 wd_450 wd_451 wd_452 wd_428 yd_Mo_filled ⟨Nat.le_of_ble_eq_true rfl, Nat.le_of_ble_eq_true rfl⟩) hK hH hS hZ hd_48 rfl rfl rfl hl.1 rfl (Nat.le_of_ble_eq_true rfl) d_Mo_about_63 ⟨Nat.zero_le _, Nat.zero_le _⟩ (fun H locs hH hS => ?_)
          cases h
          rw [← hQ0]
          exact W.iret hx hb hr (fun t ht hW => ⟨⟨_, (), rfl, rfl, by dsimp only; rw [ht]; exact hH⟩, hS.F ht⟩) hS.2.2 d_Mo_about_66
        · have h := ie h c12_2
          by_cases c12_3 : a2 = 3
          · have h := it h c12_3
            refine lv_tableIn (tgt := 67) (off := 55) hx hb d_Mo_about_12 (by rw [c12_3]; decide) (by rw [c12_3]; decide) (by rw [c12_3]; decide +kernel) (by decide) ?_
            refine lv_aload_n hx hb d_Mo_about_67 rfl (lv_at hl 0 rfl) ?_
            refine lv_iload_n hx hb d_Mo_about_68 rfl (lv_at hl 1 rfl) ?_
            obtain ⟨qc, hc69, h⟩ := b2_some h
            obtain ⟨σ7, x8⟩ := qc
            have h := b2_at h
            refine st_Vi (As := [.int a1]) (rest := []) ⟨hx, hb, hml, hown, hg⟩ (c_Mo_words l D aC A ad n _ a1 _ hc69) (cwG hg wd_445 wd_446 wd_447 wd_448 wd_428 yd_Mo_words ⟨Nat.le_of_ble_eq_true rfl, Nat.le_of_ble_eq_true rfl⟩) hK hH hS hZ hd_48 rfl rfl rfl hl.1 rfl (Nat.le_of_ble_eq_true rfl) d_Mo_about_69 ⟨Nat.zero_le _, Nat.zero_le _⟩ (fun H locs hH hS => ?_)
            cases h
            rw [← hQ0]
            exact W.iret hx hb hr (fun t ht hW => ⟨⟨_, (), rfl, rfl, by dsimp only; rw [ht]; exact hH⟩, hS.F ht⟩) hS.2.2 d_Mo_about_72
          · have h := ie h c12_3
            by_cases c12_4 : a2 = 4
            · have h := it h c12_4
              refine lv_tableIn (tgt := 73) (off := 61) hx hb d_Mo_about_12 (by rw [c12_4]; decide) (by rw [c12_4]; decide) (by rw [c12_4]; decide +kernel) (by decide) ?_
              refine lv_aload_n hx hb d_Mo_about_73 rfl (lv_at hl 0 rfl) ?_
              refine lv_iload_n hx hb d_Mo_about_74 rfl (lv_at hl 1 rfl) ?_
              obtain ⟨qc, hc75, h⟩ := b2_some h
              obtain ⟨σ9, x10⟩ := qc
              have h := b2_at h
              refine st_Vi (As := [.int a1]) (rest := []) ⟨hx, hb, hml, hown, hg⟩ (c_Mo_longest l D aC A ad n _ a1 _ hc75) (cwG hg wd_453 wd_454 wd_455 wd_456 wd_428 yd_Mo_longest ⟨Nat.le_of_ble_eq_true rfl, Nat.le_of_ble_eq_true rfl⟩) hK hH hS hZ hd_48 rfl rfl rfl hl.1 rfl (Nat.le_of_ble_eq_true rfl) d_Mo_about_75 ⟨Nat.zero_le _, Nat.zero_le _⟩ (fun H locs hH hS => ?_)
              cases h
              rw [← hQ0]
              exact W.iret hx hb hr (fun t ht hW => ⟨⟨_, (), rfl, rfl, by dsimp only; rw [ht]; exact hH⟩, hS.F ht⟩) hS.2.2 d_Mo_about_78
            · have h := ie h c12_4
              have n12_0 := lv_neT c12_0 (show (0 : Int32).toInt = 0 from rfl)
              have n12_1 := lv_neT c12_1 (show (1 : Int32).toInt = 1 from rfl)
              have n12_2 := lv_neT c12_2 (show (2 : Int32).toInt = 2 from rfl)
              have n12_3 := lv_neT c12_3 (show (3 : Int32).toInt = 3 from rfl)
              have n12_4 := lv_neT c12_4 (show (4 : Int32).toInt = 4 from rfl)
              refine lv_tableOut (tgt := 79) hx hb d_Mo_about_12 (by omega) (by decide) ?_
              refine lv_bipush (v := (-102)) hx hb d_Mo_about_79 (by decide) ?_
              cases h
              rw [← hQ0]
              exact W.iret hx hb hr (fun t ht hW => ⟨⟨_, (), rfl, rfl, by dsimp only; rw [ht]; exact hH⟩, hS.F ht⟩) hS.2.2 d_Mo_about_81
  · have h := it h c5
    refine lv_bipush (v := (-101)) hx hb d_Mo_about_8 (by decide) ?_
    cases h
    rw [← hQ0]
    exact W.iret hx hb hr (fun t ht hW => ⟨⟨_, (), rfl, rfl, by dsimp only; rw [ht]; exact hH⟩, hS.F ht⟩) hS.2.2 d_Mo_about_10
