theorem d_PC_about_0 : decode prog_1_method_4_code 0 = .ok (.aload_n 0, 1) := by decide +kernel
theorem d_PC_about_1 : decode prog_1_method_4_code 1 = .ok (.iload_n 1, 1) := by decide +kernel
theorem d_PC_about_2 : decode prog_1_method_4_code 2 = .ok (.invokevirtual 97, 3) := by decide +kernel
theorem d_PC_about_5 : decode prog_1_method_4_code 5 = .ok (.astore_n 3, 1) := by decide +kernel
theorem d_PC_about_6 : decode prog_1_method_4_code 6 = .ok (.aload_n 3, 1) := by decide +kernel
theorem d_PC_about_7 : decode prog_1_method_4_code 7 = .ok (.ifnonnull 6, 3) := by decide +kernel
theorem d_PC_about_10 : decode prog_1_method_4_code 10 = .ok (.bipush (-101), 2) := by decide +kernel
theorem d_PC_about_12 : decode prog_1_method_4_code 12 = .ok (.ireturn, 1) := by decide +kernel
theorem d_PC_about_13 : decode prog_1_method_4_code 13 = .ok (.iload_n 2, 1) := by decide +kernel
theorem d_PC_about_14 : decode prog_1_method_4_code 14 = .ok (.tableswitch 59 0 4 #[34, 39, 44, 49, 54], 34) := by decide +kernel
theorem d_PC_about_48 : decode prog_1_method_4_code 48 = .ok (.aload_n 3, 1) := by decide +kernel
theorem d_PC_about_49 : decode prog_1_method_4_code 49 = .ok (.getfield 101, 3) := by decide +kernel
theorem d_PC_about_52 : decode prog_1_method_4_code 52 = .ok (.ireturn, 1) := by decide +kernel
theorem d_PC_about_53 : decode prog_1_method_4_code 53 = .ok (.aload_n 3, 1) := by decide +kernel
theorem d_PC_about_54 : decode prog_1_method_4_code 54 = .ok (.getfield 104, 3) := by decide +kernel
theorem d_PC_about_57 : decode prog_1_method_4_code 57 = .ok (.ireturn, 1) := by decide +kernel
theorem d_PC_about_58 : decode prog_1_method_4_code 58 = .ok (.aload_n 3, 1) := by decide +kernel
theorem d_PC_about_59 : decode prog_1_method_4_code 59 = .ok (.getfield 107, 3) := by decide +kernel
theorem d_PC_about_62 : decode prog_1_method_4_code 62 = .ok (.ireturn, 1) := by decide +kernel
theorem d_PC_about_63 : decode prog_1_method_4_code 63 = .ok (.aload_n 3, 1) := by decide +kernel
theorem d_PC_about_64 : decode prog_1_method_4_code 64 = .ok (.getfield 110, 3) := by decide +kernel
theorem d_PC_about_67 : decode prog_1_method_4_code 67 = .ok (.ireturn, 1) := by decide +kernel
theorem d_PC_about_68 : decode prog_1_method_4_code 68 = .ok (.aload_n 3, 1) := by decide +kernel
theorem d_PC_about_69 : decode prog_1_method_4_code 69 = .ok (.getfield 113, 3) := by decide +kernel
theorem d_PC_about_72 : decode prog_1_method_4_code 72 = .ok (.ireturn, 1) := by decide +kernel
theorem d_PC_about_73 : decode prog_1_method_4_code 73 = .ok (.bipush (-102), 2) := by decide +kernel
theorem d_PC_about_75 : decode prog_1_method_4_code 75 = .ok (.ireturn, 1) := by decide +kernel
theorem d_Code_hasWord_0 : decode prog_3_method_7_code 0 = .ok (.aload_n 0, 1) := by decide +kernel
theorem d_Code_hasWord_1 : decode prog_3_method_7_code 1 = .ok (.getfield 40, 3) := by decide +kernel
theorem d_Code_hasWord_4 : decode prog_3_method_7_code 4 = .ok (.iconst 4, 1) := by decide +kernel
theorem d_Code_hasWord_5 : decode prog_3_method_7_code 5 = .ok (.if_icmp .eq 16, 3) := by decide +kernel
theorem d_Code_hasWord_8 : decode prog_3_method_7_code 8 = .ok (.aload_n 0, 1) := by decide +kernel
theorem d_Code_hasWord_9 : decode prog_3_method_7_code 9 = .ok (.getfield 9, 3) := by decide +kernel
theorem d_Code_hasWord_12 : decode prog_3_method_7_code 12 = .ok (.iload_n 1, 1) := by decide +kernel
theorem d_Code_hasWord_13 : decode prog_3_method_7_code 13 = .ok (.iaload, 1) := by decide +kernel
theorem d_Code_hasWord_14 : decode prog_3_method_7_code 14 = .ok (.ifCond .le 7, 3) := by decide +kernel
theorem d_Code_hasWord_17 : decode prog_3_method_7_code 17 = .ok (.iconst 1, 1) := by decide +kernel
theorem d_Code_hasWord_18 : decode prog_3_method_7_code 18 = .ok (.goto 4, 3) := by decide +kernel
theorem d_Code_hasWord_21 : decode prog_3_method_7_code 21 = .ok (.iconst 0, 1) := by decide +kernel
theorem d_Code_hasWord_22 : decode prog_3_method_7_code 22 = .ok (.ireturn, 1) := by decide +kernel
theorem d_Code_turnedWord_0 : decode prog_3_method_9_code 0 = .ok (.iconst 0, 1) := by decide +kernel
theorem d_Code_turnedWord_1 : decode prog_3_method_9_code 1 = .ok (.istore_n 2, 1) := by decide +kernel
theorem d_Code_turnedWord_2 : decode prog_3_method_9_code 2 = .ok (.iconst 0, 1) := by decide +kernel
theorem d_Code_turnedWord_3 : decode prog_3_method_9_code 3 = .ok (.istore_n 3, 1) := by decide +kernel
theorem d_Code_turnedWord_4 : decode prog_3_method_9_code 4 = .ok (.iload_n 3, 1) := by decide +kernel
theorem d_Code_turnedWord_5 : decode prog_3_method_9_code 5 = .ok (.aload_n 0, 1) := by decide +kernel
theorem d_Code_turnedWord_6 : decode prog_3_method_9_code 6 = .ok (.getfield 9, 3) := by decide +kernel
theorem d_Code_turnedWord_9 : decode prog_3_method_9_code 9 = .ok (.iload_n 1, 1) := by decide +kernel
theorem d_Code_turnedWord_10 : decode prog_3_method_9_code 10 = .ok (.iaload, 1) := by decide +kernel
theorem d_Code_turnedWord_11 : decode prog_3_method_9_code 11 = .ok (.if_icmp .ge 24, 3) := by decide +kernel
theorem d_Code_turnedWord_14 : decode prog_3_method_9_code 14 = .ok (.iload_n 2, 1) := by decide +kernel
theorem d_Code_turnedWord_15 : decode prog_3_method_9_code 15 = .ok (.iconst 1, 1) := by decide +kernel
theorem d_Code_turnedWord_16 : decode prog_3_method_9_code 16 = .ok (.ishl, 1) := by decide +kernel
theorem d_Code_turnedWord_17 : decode prog_3_method_9_code 17 = .ok (.aload_n 0, 1) := by decide +kernel
theorem d_Code_turnedWord_18 : decode prog_3_method_9_code 18 = .ok (.getfield 15, 3) := by decide +kernel
theorem d_Code_turnedWord_21 : decode prog_3_method_9_code 21 = .ok (.iload_n 1, 1) := by decide +kernel
theorem d_Code_turnedWord_22 : decode prog_3_method_9_code 22 = .ok (.iaload, 1) := by decide +kernel
theorem d_Code_turnedWord_23 : decode prog_3_method_9_code 23 = .ok (.iload_n 3, 1) := by decide +kernel
theorem d_Code_turnedWord_24 : decode prog_3_method_9_code 24 = .ok (.iushr, 1) := by decide +kernel
theorem d_Code_turnedWord_25 : decode prog_3_method_9_code 25 = .ok (.iconst 1, 1) := by decide +kernel
theorem d_Code_turnedWord_26 : decode prog_3_method_9_code 26 = .ok (.iand, 1) := by decide +kernel
theorem d_Code_turnedWord_27 : decode prog_3_method_9_code 27 = .ok (.ior, 1) := by decide +kernel
theorem d_Code_turnedWord_28 : decode prog_3_method_9_code 28 = .ok (.istore_n 2, 1) := by decide +kernel
theorem d_Code_turnedWord_29 : decode prog_3_method_9_code 29 = .ok (.iinc 3 1, 3) := by decide +kernel
theorem d_Code_turnedWord_32 : decode prog_3_method_9_code 32 = .ok (.goto (-28), 3) := by decide +kernel
theorem d_Code_turnedWord_35 : decode prog_3_method_9_code 35 = .ok (.iload_n 2, 1) := by decide +kernel
theorem d_Code_turnedWord_36 : decode prog_3_method_9_code 36 = .ok (.ireturn, 1) := by decide +kernel
theorem d_PC_word_0 : decode prog_1_method_5_code 0 = .ok (.aload_n 0, 1) := by decide +kernel
theorem d_PC_word_1 : decode prog_1_method_5_code 1 = .ok (.iload_n 1, 1) := by decide +kernel
theorem d_PC_word_2 : decode prog_1_method_5_code 2 = .ok (.iload_n 2, 1) := by decide +kernel
theorem d_PC_word_3 : decode prog_1_method_5_code 3 = .ok (.invokevirtual 87, 3) := by decide +kernel
theorem d_PC_word_6 : decode prog_1_method_5_code 6 = .ok (.astore 4, 2) := by decide +kernel
theorem d_PC_word_8 : decode prog_1_method_5_code 8 = .ok (.aload 4, 2) := by decide +kernel
theorem d_PC_word_10 : decode prog_1_method_5_code 10 = .ok (.ifnonnull 6, 3) := by decide +kernel
theorem d_PC_word_13 : decode prog_1_method_5_code 13 = .ok (.bipush (-101), 2) := by decide +kernel
theorem d_PC_word_15 : decode prog_1_method_5_code 15 = .ok (.ireturn, 1) := by decide +kernel
theorem d_PC_word_16 : decode prog_1_method_5_code 16 = .ok (.aload 4, 2) := by decide +kernel
theorem d_PC_word_18 : decode prog_1_method_5_code 18 = .ok (.iload_n 2, 1) := by decide +kernel
theorem d_PC_word_19 : decode prog_1_method_5_code 19 = .ok (.invokevirtual 116, 3) := by decide +kernel
theorem d_PC_word_22 : decode prog_1_method_5_code 22 = .ok (.ifCond .ne 6, 3) := by decide +kernel
theorem d_PC_word_25 : decode prog_1_method_5_code 25 = .ok (.bipush (-103), 2) := by decide +kernel
theorem d_PC_word_27 : decode prog_1_method_5_code 27 = .ok (.ireturn, 1) := by decide +kernel
theorem d_PC_word_28 : decode prog_1_method_5_code 28 = .ok (.iload_n 3, 1) := by decide +kernel
theorem d_PC_word_29 : decode prog_1_method_5_code 29 = .ok (.ifCond .eq 12, 3) := by decide +kernel
theorem d_PC_word_32 : decode prog_1_method_5_code 32 = .ok (.aload 4, 2) := by decide +kernel
theorem d_PC_word_34 : decode prog_1_method_5_code 34 = .ok (.iload_n 2, 1) := by decide +kernel
theorem d_PC_word_35 : decode prog_1_method_5_code 35 = .ok (.invokevirtual 120, 3) := by decide +kernel
theorem d_PC_word_38 : decode prog_1_method_5_code 38 = .ok (.goto 10, 3) := by decide +kernel
theorem d_PC_word_41 : decode prog_1_method_5_code 41 = .ok (.aload 4, 2) := by decide +kernel
theorem d_PC_word_43 : decode prog_1_method_5_code 43 = .ok (.getfield 124, 3) := by decide +kernel
theorem d_PC_word_46 : decode prog_1_method_5_code 46 = .ok (.iload_n 2, 1) := by decide +kernel
theorem d_PC_word_47 : decode prog_1_method_5_code 47 = .ok (.iaload, 1) := by decide +kernel
theorem d_PC_word_48 : decode prog_1_method_5_code 48 = .ok (.ireturn, 1) := by decide +kernel
theorem d_PC_count_0 : decode prog_1_method_6_code 0 = .ok (.iload_n 1, 1) := by decide +kernel
theorem d_PC_count_1 : decode prog_1_method_6_code 1 = .ok (.iconst 0, 1) := by decide +kernel
theorem d_PC_count_2 : decode prog_1_method_6_code 2 = .ok (.bipush 63, 2) := by decide +kernel
theorem d_PC_count_4 : decode prog_1_method_6_code 4 = .ok (.invokestatic 76, 3) := by decide +kernel
theorem d_PC_count_7 : decode prog_1_method_6_code 7 = .ok (.ifCond .ne 13, 3) := by decide +kernel
theorem d_PC_count_10 : decode prog_1_method_6_code 10 = .ok (.iload_n 2, 1) := by decide +kernel
theorem d_PC_count_11 : decode prog_1_method_6_code 11 = .ok (.iconst 0, 1) := by decide +kernel
theorem d_PC_count_12 : decode prog_1_method_6_code 12 = .ok (.ldc 127, 2) := by decide +kernel
theorem d_PC_count_14 : decode prog_1_method_6_code 14 = .ok (.invokestatic 76, 3) := by decide +kernel
theorem d_PC_count_17 : decode prog_1_method_6_code 17 = .ok (.ifCond .eq 6, 3) := by decide +kernel
theorem d_PC_count_20 : decode prog_1_method_6_code 20 = .ok (.bipush (-102), 2) := by decide +kernel
theorem d_PC_count_22 : decode prog_1_method_6_code 22 = .ok (.ireturn, 1) := by decide +kernel
theorem d_PC_count_23 : decode prog_1_method_6_code 23 = .ok (.aload_n 0, 1) := by decide +kernel
theorem d_PC_count_24 : decode prog_1_method_6_code 24 = .ok (.getfield 19, 3) := by decide +kernel
theorem d_PC_count_27 : decode prog_1_method_6_code 27 = .ok (.iload_n 1, 1) := by decide +kernel
theorem d_PC_count_28 : decode prog_1_method_6_code 28 = .ok (.iaload, 1) := by decide +kernel
theorem d_PC_count_29 : decode prog_1_method_6_code 29 = .ok (.istore_n 3, 1) := by decide +kernel
theorem d_PC_count_30 : decode prog_1_method_6_code 30 = .ok (.aload_n 0, 1) := by decide +kernel
theorem d_PC_count_31 : decode prog_1_method_6_code 31 = .ok (.getfield 19, 3) := by decide +kernel
theorem d_PC_count_34 : decode prog_1_method_6_code 34 = .ok (.iload_n 1, 1) := by decide +kernel
theorem d_PC_count_35 : decode prog_1_method_6_code 35 = .ok (.iload_n 2, 1) := by decide +kernel
theorem d_PC_count_36 : decode prog_1_method_6_code 36 = .ok (.iastore, 1) := by decide +kernel
theorem d_PC_count_37 : decode prog_1_method_6_code 37 = .ok (.iload_n 3, 1) := by decide +kernel
theorem d_PC_count_38 : decode prog_1_method_6_code 38 = .ok (.ireturn, 1) := by decide +kernel
theorem d_Text_tally_0 : decode prog_11_method_4_code 0 = .ok (.aload_n 1, 1) := by decide +kernel
theorem d_Text_tally_1 : decode prog_11_method_4_code 1 = .ok (.iconst 0, 1) := by decide +kernel
theorem d_Text_tally_2 : decode prog_11_method_4_code 2 = .ok (.invokestatic 31, 3) := by decide +kernel
theorem d_Text_tally_5 : decode prog_11_method_4_code 5 = .ok (.iconst 0, 1) := by decide +kernel
theorem d_Text_tally_6 : decode prog_11_method_4_code 6 = .ok (.istore_n 2, 1) := by decide +kernel
theorem d_Text_tally_7 : decode prog_11_method_4_code 7 = .ok (.iload_n 2, 1) := by decide +kernel
theorem d_Text_tally_8 : decode prog_11_method_4_code 8 = .ok (.aload_n 0, 1) := by decide +kernel
theorem d_Text_tally_9 : decode prog_11_method_4_code 9 = .ok (.getfield 15, 3) := by decide +kernel
theorem d_Text_tally_12 : decode prog_11_method_4_code 12 = .ok (.if_icmp .ge 21, 3) := by decide +kernel
theorem d_Text_tally_15 : decode prog_11_method_4_code 15 = .ok (.aload_n 1, 1) := by decide +kernel
theorem d_Text_tally_16 : decode prog_11_method_4_code 16 = .ok (.aload_n 0, 1) := by decide +kernel
theorem d_Text_tally_17 : decode prog_11_method_4_code 17 = .ok (.getfield 9, 3) := by decide +kernel
theorem d_Text_tally_20 : decode prog_11_method_4_code 20 = .ok (.iload_n 2, 1) := by decide +kernel
theorem d_Text_tally_21 : decode prog_11_method_4_code 21 = .ok (.iaload, 1) := by decide +kernel
theorem d_Text_tally_22 : decode prog_11_method_4_code 22 = .ok (.dup2, 1) := by decide +kernel
theorem d_Text_tally_23 : decode prog_11_method_4_code 23 = .ok (.iaload, 1) := by decide +kernel
theorem d_Text_tally_24 : decode prog_11_method_4_code 24 = .ok (.iconst 1, 1) := by decide +kernel
theorem d_Text_tally_25 : decode prog_11_method_4_code 25 = .ok (.iadd, 1) := by decide +kernel
theorem d_Text_tally_26 : decode prog_11_method_4_code 26 = .ok (.iastore, 1) := by decide +kernel
theorem d_Text_tally_27 : decode prog_11_method_4_code 27 = .ok (.iinc 2 1, 3) := by decide +kernel
theorem d_Text_tally_30 : decode prog_11_method_4_code 30 = .ok (.goto (-23), 3) := by decide +kernel
theorem d_Text_tally_33 : decode prog_11_method_4_code 33 = .ok (.return_, 1) := by decide +kernel
theorem d_PC_countedBelow_0 : decode prog_1_method_32_code 0 = .ok (.iconst 0, 1) := by decide +kernel
theorem d_PC_countedBelow_1 : decode prog_1_method_32_code 1 = .ok (.istore_n 2, 1) := by decide +kernel
theorem d_PC_countedBelow_2 : decode prog_1_method_32_code 2 = .ok (.iconst 0, 1) := by decide +kernel
theorem d_PC_countedBelow_3 : decode prog_1_method_32_code 3 = .ok (.istore_n 3, 1) := by decide +kernel
theorem d_PC_countedBelow_4 : decode prog_1_method_32_code 4 = .ok (.iload_n 3, 1) := by decide +kernel
theorem d_PC_countedBelow_5 : decode prog_1_method_32_code 5 = .ok (.iload_n 1, 1) := by decide +kernel
theorem d_PC_countedBelow_6 : decode prog_1_method_32_code 6 = .ok (.if_icmp .ge 21, 3) := by decide +kernel
theorem d_PC_countedBelow_9 : decode prog_1_method_32_code 9 = .ok (.aload_n 0, 1) := by decide +kernel
theorem d_PC_countedBelow_10 : decode prog_1_method_32_code 10 = .ok (.getfield 19, 3) := by decide +kernel
theorem d_PC_countedBelow_13 : decode prog_1_method_32_code 13 = .ok (.iload_n 3, 1) := by decide +kernel
theorem d_PC_countedBelow_14 : decode prog_1_method_32_code 14 = .ok (.iaload, 1) := by decide +kernel
theorem d_PC_countedBelow_15 : decode prog_1_method_32_code 15 = .ok (.ifCond .le 6, 3) := by decide +kernel
theorem d_PC_countedBelow_18 : decode prog_1_method_32_code 18 = .ok (.iinc 2 1, 3) := by decide +kernel
theorem d_PC_countedBelow_21 : decode prog_1_method_32_code 21 = .ok (.iinc 3 1, 3) := by decide +kernel
theorem d_PC_countedBelow_24 : decode prog_1_method_32_code 24 = .ok (.goto (-20), 3) := by decide +kernel
theorem d_PC_countedBelow_27 : decode prog_1_method_32_code 27 = .ok (.iload_n 2, 1) := by decide +kernel
theorem d_PC_countedBelow_28 : decode prog_1_method_32_code 28 = .ok (.ireturn, 1) := by decide +kernel
theorem d_PC_countText_0 : decode prog_1_method_7_code 0 = .ok (.aload_n 0, 1) := by decide +kernel
theorem d_PC_countText_1 : decode prog_1_method_7_code 1 = .ok (.getfield 56, 3) := by decide +kernel
theorem d_PC_countText_4 : decode prog_1_method_7_code 4 = .ok (.aload_n 0, 1) := by decide +kernel
theorem d_PC_countText_5 : decode prog_1_method_7_code 5 = .ok (.getfield 19, 3) := by decide +kernel
theorem d_PC_countText_8 : decode prog_1_method_7_code 8 = .ok (.invokevirtual 128, 3) := by decide +kernel
theorem d_PC_countText_11 : decode prog_1_method_7_code 11 = .ok (.aload_n 0, 1) := by decide +kernel
theorem d_PC_countText_12 : decode prog_1_method_7_code 12 = .ok (.bipush 64, 2) := by decide +kernel
theorem d_PC_countText_14 : decode prog_1_method_7_code 14 = .ok (.invokevirtual 132, 3) := by decide +kernel
theorem d_PC_countText_17 : decode prog_1_method_7_code 17 = .ok (.ireturn, 1) := by decide +kernel
theorem d_Packages_insert_0 : decode prog_6_method_4_code 0 = .ok (.aload_n 0, 1) := by decide +kernel
theorem d_Packages_insert_1 : decode prog_6_method_4_code 1 = .ok (.getfield 18, 3) := by decide +kernel
theorem d_Packages_insert_4 : decode prog_6_method_4_code 4 = .ok (.istore_n 3, 1) := by decide +kernel
theorem d_Packages_insert_5 : decode prog_6_method_4_code 5 = .ok (.iload_n 3, 1) := by decide +kernel
theorem d_Packages_insert_6 : decode prog_6_method_4_code 6 = .ok (.ifCond .le 49, 3) := by decide +kernel
theorem d_Packages_insert_9 : decode prog_6_method_4_code 9 = .ok (.aload_n 0, 1) := by decide +kernel
theorem d_Packages_insert_10 : decode prog_6_method_4_code 10 = .ok (.getfield 15, 3) := by decide +kernel
theorem d_Packages_insert_13 : decode prog_6_method_4_code 13 = .ok (.iload_n 3, 1) := by decide +kernel
theorem d_Packages_insert_14 : decode prog_6_method_4_code 14 = .ok (.iconst 1, 1) := by decide +kernel
theorem d_Packages_insert_15 : decode prog_6_method_4_code 15 = .ok (.isub, 1) := by decide +kernel
theorem d_Packages_insert_16 : decode prog_6_method_4_code 16 = .ok (.iaload, 1) := by decide +kernel
theorem d_Packages_insert_17 : decode prog_6_method_4_code 17 = .ok (.iload_n 2, 1) := by decide +kernel
theorem d_Packages_insert_18 : decode prog_6_method_4_code 18 = .ok (.if_icmp .le 37, 3) := by decide +kernel
theorem d_Packages_insert_21 : decode prog_6_method_4_code 21 = .ok (.aload_n 0, 1) := by decide +kernel
theorem d_Packages_insert_22 : decode prog_6_method_4_code 22 = .ok (.getfield 9, 3) := by decide +kernel
theorem d_Packages_insert_25 : decode prog_6_method_4_code 25 = .ok (.iload_n 3, 1) := by decide +kernel
theorem d_Packages_insert_26 : decode prog_6_method_4_code 26 = .ok (.aload_n 0, 1) := by decide +kernel
theorem d_Packages_insert_27 : decode prog_6_method_4_code 27 = .ok (.getfield 9, 3) := by decide +kernel
theorem d_Packages_insert_30 : decode prog_6_method_4_code 30 = .ok (.iload_n 3, 1) := by decide +kernel
theorem d_Packages_insert_31 : decode prog_6_method_4_code 31 = .ok (.iconst 1, 1) := by decide +kernel
theorem d_Packages_insert_32 : decode prog_6_method_4_code 32 = .ok (.isub, 1) := by decide +kernel
theorem d_Packages_insert_33 : decode prog_6_method_4_code 33 = .ok (.iaload, 1) := by decide +kernel
theorem d_Packages_insert_34 : decode prog_6_method_4_code 34 = .ok (.iastore, 1) := by decide +kernel
theorem d_Packages_insert_35 : decode prog_6_method_4_code 35 = .ok (.aload_n 0, 1) := by decide +kernel
theorem d_Packages_insert_36 : decode prog_6_method_4_code 36 = .ok (.getfield 15, 3) := by decide +kernel
theorem d_Packages_insert_39 : decode prog_6_method_4_code 39 = .ok (.iload_n 3, 1) := by decide +kernel
theorem d_Packages_insert_40 : decode prog_6_method_4_code 40 = .ok (.aload_n 0, 1) := by decide +kernel
theorem d_Packages_insert_41 : decode prog_6_method_4_code 41 = .ok (.getfield 15, 3) := by decide +kernel
theorem d_Packages_insert_44 : decode prog_6_method_4_code 44 = .ok (.iload_n 3, 1) := by decide +kernel
theorem d_Packages_insert_45 : decode prog_6_method_4_code 45 = .ok (.iconst 1, 1) := by decide +kernel
theorem d_Packages_insert_46 : decode prog_6_method_4_code 46 = .ok (.isub, 1) := by decide +kernel
theorem d_Packages_insert_47 : decode prog_6_method_4_code 47 = .ok (.iaload, 1) := by decide +kernel
theorem d_Packages_insert_48 : decode prog_6_method_4_code 48 = .ok (.iastore, 1) := by decide +kernel
theorem d_Packages_insert_49 : decode prog_6_method_4_code 49 = .ok (.iinc 3 (-1), 3) := by decide +kernel
theorem d_Packages_insert_52 : decode prog_6_method_4_code 52 = .ok (.goto (-47), 3) := by decide +kernel
theorem d_Packages_insert_55 : decode prog_6_method_4_code 55 = .ok (.aload_n 0, 1) := by decide +kernel
theorem d_Packages_insert_56 : decode prog_6_method_4_code 56 = .ok (.getfield 9, 3) := by decide +kernel
theorem d_Packages_insert_59 : decode prog_6_method_4_code 59 = .ok (.iload_n 3, 1) := by decide +kernel
theorem d_Packages_insert_60 : decode prog_6_method_4_code 60 = .ok (.iload_n 1, 1) := by decide +kernel
theorem d_Packages_insert_61 : decode prog_6_method_4_code 61 = .ok (.iastore, 1) := by decide +kernel
theorem d_Packages_insert_62 : decode prog_6_method_4_code 62 = .ok (.aload_n 0, 1) := by decide +kernel
theorem d_Packages_insert_63 : decode prog_6_method_4_code 63 = .ok (.getfield 15, 3) := by decide +kernel
theorem d_Packages_insert_66 : decode prog_6_method_4_code 66 = .ok (.iload_n 3, 1) := by decide +kernel
theorem d_Packages_insert_67 : decode prog_6_method_4_code 67 = .ok (.iload_n 2, 1) := by decide +kernel
theorem d_Packages_insert_68 : decode prog_6_method_4_code 68 = .ok (.iastore, 1) := by decide +kernel
theorem d_Packages_insert_69 : decode prog_6_method_4_code 69 = .ok (.aload_n 0, 1) := by decide +kernel
theorem d_Packages_insert_70 : decode prog_6_method_4_code 70 = .ok (.dup, 1) := by decide +kernel
theorem d_Packages_insert_71 : decode prog_6_method_4_code 71 = .ok (.getfield 18, 3) := by decide +kernel
theorem d_Packages_insert_74 : decode prog_6_method_4_code 74 = .ok (.iconst 1, 1) := by decide +kernel
theorem d_Packages_insert_75 : decode prog_6_method_4_code 75 = .ok (.iadd, 1) := by decide +kernel
theorem d_Packages_insert_76 : decode prog_6_method_4_code 76 = .ok (.putfield 18, 3) := by decide +kernel
theorem d_Packages_insert_79 : decode prog_6_method_4_code 79 = .ok (.return_, 1) := by decide +kernel
theorem d_Packages_order_0 : decode prog_6_method_3_code 0 = .ok (.aload_n 0, 1) := by decide +kernel
theorem d_Packages_order_1 : decode prog_6_method_3_code 1 = .ok (.iconst 0, 1) := by decide +kernel
theorem d_Packages_order_2 : decode prog_6_method_3_code 2 = .ok (.putfield 18, 3) := by decide +kernel
theorem d_Packages_order_5 : decode prog_6_method_3_code 5 = .ok (.iconst 0, 1) := by decide +kernel
theorem d_Packages_order_6 : decode prog_6_method_3_code 6 = .ok (.istore_n 3, 1) := by decide +kernel
theorem d_Packages_order_7 : decode prog_6_method_3_code 7 = .ok (.iload_n 3, 1) := by decide +kernel
theorem d_Packages_order_8 : decode prog_6_method_3_code 8 = .ok (.iload_n 2, 1) := by decide +kernel
theorem d_Packages_order_9 : decode prog_6_method_3_code 9 = .ok (.if_icmp .ge 23, 3) := by decide +kernel
theorem d_Packages_order_12 : decode prog_6_method_3_code 12 = .ok (.aload_n 1, 1) := by decide +kernel
theorem d_Packages_order_13 : decode prog_6_method_3_code 13 = .ok (.iload_n 3, 1) := by decide +kernel
theorem d_Packages_order_14 : decode prog_6_method_3_code 14 = .ok (.iaload, 1) := by decide +kernel
theorem d_Packages_order_15 : decode prog_6_method_3_code 15 = .ok (.ifCond .le 11, 3) := by decide +kernel
theorem d_Packages_order_18 : decode prog_6_method_3_code 18 = .ok (.aload_n 0, 1) := by decide +kernel
theorem d_Packages_order_19 : decode prog_6_method_3_code 19 = .ok (.iload_n 3, 1) := by decide +kernel
theorem d_Packages_order_20 : decode prog_6_method_3_code 20 = .ok (.aload_n 1, 1) := by decide +kernel
theorem d_Packages_order_21 : decode prog_6_method_3_code 21 = .ok (.iload_n 3, 1) := by decide +kernel
theorem d_Packages_order_22 : decode prog_6_method_3_code 22 = .ok (.iaload, 1) := by decide +kernel
theorem d_Packages_order_23 : decode prog_6_method_3_code 23 = .ok (.invokevirtual 66, 3) := by decide +kernel
theorem d_Packages_order_26 : decode prog_6_method_3_code 26 = .ok (.iinc 3 1, 3) := by decide +kernel
theorem d_Packages_order_29 : decode prog_6_method_3_code 29 = .ok (.goto (-22), 3) := by decide +kernel
theorem d_Packages_order_32 : decode prog_6_method_3_code 32 = .ok (.return_, 1) := by decide +kernel
theorem d_Packages_makeFirstRow_0 : decode prog_6_method_5_code 0 = .ok (.aload_n 0, 1) := by decide +kernel
theorem d_Packages_makeFirstRow_1 : decode prog_6_method_5_code 1 = .ok (.getfield 27, 3) := by decide +kernel
theorem d_Packages_makeFirstRow_4 : decode prog_6_method_5_code 4 = .ok (.iconst 0, 1) := by decide +kernel
theorem d_Packages_makeFirstRow_5 : decode prog_6_method_5_code 5 = .ok (.aload_n 0, 1) := by decide +kernel
theorem d_Packages_makeFirstRow_6 : decode prog_6_method_5_code 6 = .ok (.getfield 18, 3) := by decide +kernel
theorem d_Packages_makeFirstRow_9 : decode prog_6_method_5_code 9 = .ok (.iastore, 1) := by decide +kernel
theorem d_Packages_makeFirstRow_10 : decode prog_6_method_5_code 10 = .ok (.iconst 0, 1) := by decide +kernel
theorem d_Packages_makeFirstRow_11 : decode prog_6_method_5_code 11 = .ok (.istore_n 1, 1) := by decide +kernel
theorem d_Packages_makeFirstRow_12 : decode prog_6_method_5_code 12 = .ok (.iload_n 1, 1) := by decide +kernel
theorem d_Packages_makeFirstRow_13 : decode prog_6_method_5_code 13 = .ok (.aload_n 0, 1) := by decide +kernel
theorem d_Packages_makeFirstRow_14 : decode prog_6_method_5_code 14 = .ok (.getfield 18, 3) := by decide +kernel
theorem d_Packages_makeFirstRow_17 : decode prog_6_method_5_code 17 = .ok (.if_icmp .ge 33, 3) := by decide +kernel
theorem d_Packages_makeFirstRow_20 : decode prog_6_method_5_code 20 = .ok (.aload_n 0, 1) := by decide +kernel
theorem d_Packages_makeFirstRow_21 : decode prog_6_method_5_code 21 = .ok (.getfield 24, 3) := by decide +kernel
theorem d_Packages_makeFirstRow_24 : decode prog_6_method_5_code 24 = .ok (.iconst 0, 1) := by decide +kernel
theorem d_Packages_makeFirstRow_25 : decode prog_6_method_5_code 25 = .ok (.aaload, 1) := by decide +kernel
theorem d_Packages_makeFirstRow_26 : decode prog_6_method_5_code 26 = .ok (.iload_n 1, 1) := by decide +kernel
theorem d_Packages_makeFirstRow_27 : decode prog_6_method_5_code 27 = .ok (.aload_n 0, 1) := by decide +kernel
theorem d_Packages_makeFirstRow_28 : decode prog_6_method_5_code 28 = .ok (.getfield 15, 3) := by decide +kernel
theorem d_Packages_makeFirstRow_31 : decode prog_6_method_5_code 31 = .ok (.iload_n 1, 1) := by decide +kernel
theorem d_Packages_makeFirstRow_32 : decode prog_6_method_5_code 32 = .ok (.iaload, 1) := by decide +kernel
theorem d_Packages_makeFirstRow_33 : decode prog_6_method_5_code 33 = .ok (.i2l, 1) := by decide +kernel
theorem d_Packages_makeFirstRow_34 : decode prog_6_method_5_code 34 = .ok (.lastore, 1) := by decide +kernel
theorem d_Packages_makeFirstRow_35 : decode prog_6_method_5_code 35 = .ok (.aload_n 0, 1) := by decide +kernel
theorem d_Packages_makeFirstRow_36 : decode prog_6_method_5_code 36 = .ok (.getfield 32, 3) := by decide +kernel
theorem d_Packages_makeFirstRow_39 : decode prog_6_method_5_code 39 = .ok (.iconst 0, 1) := by decide +kernel
theorem d_Packages_makeFirstRow_40 : decode prog_6_method_5_code 40 = .ok (.aaload, 1) := by decide +kernel
theorem d_Packages_makeFirstRow_41 : decode prog_6_method_5_code 41 = .ok (.iload_n 1, 1) := by decide +kernel
theorem d_Packages_makeFirstRow_42 : decode prog_6_method_5_code 42 = .ok (.iconst 1, 1) := by decide +kernel
theorem d_Packages_makeFirstRow_43 : decode prog_6_method_5_code 43 = .ok (.iastore, 1) := by decide +kernel
theorem d_Packages_makeFirstRow_44 : decode prog_6_method_5_code 44 = .ok (.iinc 1 1, 3) := by decide +kernel
theorem d_Packages_makeFirstRow_47 : decode prog_6_method_5_code 47 = .ok (.goto (-35), 3) := by decide +kernel
theorem d_Packages_makeFirstRow_50 : decode prog_6_method_5_code 50 = .ok (.return_, 1) := by decide +kernel
noncomputable def f_PC_about (σ : St) (a1 : Int32) (a2 : Int32) : Option (St × Int32) :=
  b2 (f_PC_codeAt σ a1) fun σ1 o2 =>
  on (o2) (
    some (σ1, (-101))
    ) fun j3 =>
  if a2 = 0 then
    some (σ1, σ1.1 41 j3 10)
  else
  if a2 = 1 then
    some (σ1, σ1.1 41 j3 0)
  else
  if a2 = 2 then
    some (σ1, σ1.1 41 j3 7)
  else
  if a2 = 3 then
    some (σ1, σ1.1 41 j3 8)
  else
  if a2 = 4 then
    some (σ1, σ1.1 41 j3 9)
  else
  some (σ1, (-102))
noncomputable def f_Code_hasWord (σ : St) (iT : Nat) (a1 : Int32) : Option (St × Int32) :=
  if (σ.1 41 iT 10) = 4 then
    some (σ, 0)
  else
  gd (ib a1 64) <|
  if (σ.1 42 iT a1.toNatClampNeg) ≤ 0 then
    some (σ, 0)
  else
  some (σ, 1)
noncomputable def lb_Code_turnedWord_4 (iT : Nat) (a1 : Int32) (σ : St) (v2 : Int32) (v3 : Int32) : Option ((St × Int32 × Int32) ⊕ ((St × Int32 × Int32))) :=
  gd (ib a1 64) <|
  if (σ.1 42 iT a1.toNatClampNeg) ≤ v3 then
    some (.inr (σ, v2, v3))
  else
  gd (ib a1 64) <|
  nm ((v2 <<< (1 &&& 31)) ||| ((((σ.1 43 iT a1.toNatClampNeg).toUInt32 >>> (v3.toUInt32 &&& Int32.toUInt32 31)).toInt32) &&& 1)) fun x1 =>
  nm (v3 + 1) fun x2 =>
  some (.inl (σ, x1, x2))
noncomputable def f_Code_turnedWord (σ : St) (iT : Nat) (a1 : Int32) : Option (St × Int32) :=
  b3 (lpE (fun q => lb_Code_turnedWord_4 iT a1 q.1 q.2.1 q.2.2) (σ, 0, 0)) fun σ3 x4 x5 =>
  some (σ3, x4)
noncomputable def f_PC_word (σ : St) (a1 : Int32) (a2 : Int32) (a3 : Int32) : Option (St × Int32) :=
  b2 (f_PC_codeWith σ a1 a2) fun σ1 o2 =>
  on (o2) (
    some (σ1, (-101))
    ) fun j3 =>
  b2 (f_Code_hasWord σ1 j3 a2) fun σ4 x5 =>
  if x5 = 0 then
    some (σ4, (-103))
  else
  if a3 = 0 then
    gd (ib a2 64) <|
    some (σ4, σ4.1 43 j3 a2.toNatClampNeg)
  else
  b2 (f_Code_turnedWord σ4 j3 a2) fun σ6 x7 =>
  some (σ6, x7)
noncomputable def f_PC_count (σ : St) (a1 : Int32) (a2 : Int32) : Option (St × Int32) :=
  b2 (f_PC_isOutside σ a1 0 63) fun σ1 x2 =>
  if x2 = 0 then
    b2 (f_PC_isOutside σ1 a2 0 1000000) fun σ3 x4 =>
    if x4 = 0 then
      gd (ib a1 64) <|
      nm (σ3.1 2 0 a1.toNatClampNeg) fun x5 =>
      gd (ib a1 64) <|
      nm (sI σ3 2 0 (a1.toNatClampNeg) a2) fun σ6 =>
      some (σ6, x5)
    else
    some (σ3, (-102))
  else
  some (σ1, (-102))
noncomputable def lb_Text_tally_7 (fa1 ia1 na1 : Nat) (σ : St) (v2 : Int32) : Option ((St × Int32) ⊕ ((St × Int32))) :=
  if (σ.1 26 0 1) ≤ v2 then
    some (.inr (σ, v2))
  else
  gd (ib v2 1000) <|
  gd (ib (σ.1 27 0 v2.toNatClampNeg) na1) <|
  gd (ib (σ.1 27 0 v2.toNatClampNeg) na1) <|
  nm (sI σ fa1 ia1 ((σ.1 27 0 v2.toNatClampNeg).toNatClampNeg) ((σ.1 fa1 ia1 (σ.1 27 0 v2.toNatClampNeg).toNatClampNeg) + 1)) fun σ2 =>
  nm (v2 + 1) fun x3 =>
  some (.inl (σ2, x3))
noncomputable def f_Text_tally (σ : St) (fa1 ia1 na1 : Nat) : Option (St) :=
  b1 (f_Arrays_fill σ fa1 ia1 na1 0) fun σ1 =>
  b2 (lpE (fun q => lb_Text_tally_7 fa1 ia1 na1 q.1 q.2) (σ1, 0)) fun σ4 x5 =>
  some σ4
noncomputable def lb_PC_countedBelow_4 (a1 : Int32) (σ : St) (v2 : Int32) (v3 : Int32) : Option ((St × Int32 × Int32) ⊕ ((St × Int32 × Int32))) :=
  if a1 ≤ v3 then
    some (.inr (σ, v2, v3))
  else
  gd (ib v3 64) <|
  if (σ.1 2 0 v3.toNatClampNeg) ≤ 0 then
    nm (v3 + 1) fun x1 =>
    some (.inl (σ, v2, x1))
  else
  nm (v2 + 1) fun x2 =>
  nm (v3 + 1) fun x3 =>
  some (.inl (σ, x2, x3))
noncomputable def f_PC_countedBelow (σ : St) (a1 : Int32) : Option (St × Int32) :=
  b3 (lpE (fun q => lb_PC_countedBelow_4 a1 q.1 q.2.1 q.2.2) (σ, 0, 0)) fun σ4 x5 x6 =>
  some (σ4, x5)
noncomputable def f_PC_countText (σ : St) : Option (St × Int32) :=
  b1 (f_Text_tally σ 2 0 64) fun σ1 =>
  b2 (f_PC_countedBelow σ1 64) fun σ2 x3 =>
  some (σ2, x3)
noncomputable def lb_Packages_insert_5 (a1 : Int32) (a2 : Int32) (σ : St) (v3 : Int32) : Option ((St × Int32) ⊕ ((St × Int32))) :=
  if v3 ≤ 0 then
    some (.inr (σ, v3))
  else
  gd (ib (v3 - 1) 64) <|
  if (σ.1 7 0 (v3 - 1).toNatClampNeg) ≤ a2 then
    some (.inr (σ, v3))
  else
  gd (ib (v3 - 1) 64) <|
  gd (ib v3 64) <|
  nm (sI σ 6 0 (v3.toNatClampNeg) (σ.1 6 0 (v3 - 1).toNatClampNeg)) fun σ2 =>
  gd (ib (v3 - 1) 64) <|
  gd (ib v3 64) <|
  nm (sI σ2 7 0 (v3.toNatClampNeg) (σ2.1 7 0 (v3 - 1).toNatClampNeg)) fun σ3 =>
  nm (v3 + (-1)) fun x4 =>
  some (.inl (σ3, x4))
noncomputable def f_Packages_insert (σ : St) (a1 : Int32) (a2 : Int32) : Option (St) :=
  nm (σ.1 5 0 2) fun x1 =>
  b2 (lpE (fun q => lb_Packages_insert_5 a1 a2 q.1 q.2) (σ, x1)) fun σ5 x6 =>
  gd (ib x6 64) <|
  nm (sI σ5 6 0 (x6.toNatClampNeg) a1) fun σ7 =>
  gd (ib x6 64) <|
  nm (sI σ7 7 0 (x6.toNatClampNeg) a2) fun σ8 =>
  nm (sI σ8 5 0 2 ((σ8.1 5 0 2) + 1)) fun σ9 =>
  some σ9
noncomputable def lb_Packages_order_7 (fa1 ia1 na1 : Nat) (a2 : Int32) (σ : St) (v3 : Int32) : Option ((St × Int32) ⊕ ((St × Int32))) :=
  if a2 ≤ v3 then
    some (.inr (σ, v3))
  else
  gd (ib v3 na1) <|
  if (σ.1 fa1 ia1 v3.toNatClampNeg) ≤ 0 then
    nm (v3 + 1) fun x2 =>
    some (.inl (σ, x2))
  else
  gd (ib v3 na1) <|
  b1 (f_Packages_insert σ v3 (σ.1 fa1 ia1 v3.toNatClampNeg)) fun σ3 =>
  nm (v3 + 1) fun x4 =>
  some (.inl (σ3, x4))
noncomputable def f_Packages_order (σ : St) (fa1 ia1 na1 : Nat) (a2 : Int32) : Option (St) :=
  nm (sI σ 5 0 2 0) fun σ1 =>
  b2 (lpE (fun q => lb_Packages_order_7 fa1 ia1 na1 a2 q.1 q.2) (σ1, 0)) fun σ5 x6 =>
  some σ5
noncomputable def lb_Packages_makeFirstRow_12 (σ : St) (v1 : Int32) : Option ((St × Int32) ⊕ ((St × Int32))) :=
  if (σ.1 5 0 2) ≤ v1 then
    some (.inr (σ, v1))
  else
  gd (ib 0 2) <|
  on (σ.2.2.1 8 0 (0 : Int32).toNatClampNeg) (
    none
    ) fun j2 =>
  gd (ib v1 64) <|
  gd (ib v1 128) <|
  nm (sL σ 9 j2 (v1.toNatClampNeg) ((σ.1 7 0 v1.toNatClampNeg).toInt64)) fun σ3 =>
  gd (ib 0 15) <|
  on (σ3.2.2.1 11 0 (0 : Int32).toNatClampNeg) (
    none
    ) fun j4 =>
  gd (ib v1 128) <|
  nm (sI σ3 12 j4 (v1.toNatClampNeg) 1) fun σ5 =>
  nm (v1 + 1) fun x6 =>
  some (.inl (σ5, x6))
noncomputable def f_Packages_makeFirstRow (σ : St) : Option (St) :=
  gd (ib 0 15) <|
  nm (sI σ 10 0 ((0 : Int32).toNatClampNeg) (σ.1 5 0 2)) fun σ1 =>
  b2 (lpE (fun q => lb_Packages_makeFirstRow_12 q.1 q.2) (σ1, 0)) fun σ7 x8 =>
  some σ7
set_option maxHeartbeats 4000000 in
set_option maxRecDepth 100000 in
theorem c_PC_about (l : Launch) (D : va_G) (aC : Nat → ClassId) (A : Nat → Prop) (ad : Nat → Nat → Nat) (n : Nat) (σ : St) (a1 : Int32) (a2 : Int32) (o : St × Int32) (h : f_PC_about σ a1 a2 = some o) : Met l y_PC_about w_PC_about rm_PC_about (va_Pc [.ref (ad 0 0), .int a1, .int a2] (Pre D aC A ad n σ)) (va_Qi (fun r (_ : Unit) => r = o.2) (fun _ t => Hold D aC A ad n o.1 t.heap) A) 0 0 A := by
  refine Met.ofW (cc := prog_1_method_4_code) (maxL := 4) (ret := (some .int)) (by decide) rfl ?_
  intro p e s m args below meth c s₁ B hml hv
  obtain ⟨hargs, hH, hK, hZ⟩ := hv
  have hx := B.exec
  have hb := B.bytes
  have hr := B.returns
  have hts := atoms_spec (ws := w_PC_about) B.pre
  have hg : ∀ w ∈ gW, w.before args s = true := fun w h => hts w (List.mem_cons_of_mem _ h)
  have hown : s.vm.findClass "PrefixCodes" = some m.cls := findClass_of_methodNamed B.named
  have hlocks := B.notSynchronized
  have hS : va_S A s.heap s.heap [] := va_S.rf
  have hl := lv_entry ([.ref (ad 0 0), .int a1, .int a2]) (n := 4) (Nat.le_of_ble_eq_true rfl)
  rw [show entryFrame m args 4 = entryFrame m (([.ref (ad 0 0), .int a1, .int a2] : List Value).toArray) 4 by rw [hargs], lg_entry_eq]
  generalize (lg_sl ([.ref (ad 0 0), .int a1, .int a2]) ++ List.replicate (4 - (lg_sl ([.ref (ad 0 0), .int a1, .int a2])).length) Slot.unset).toArray = ls at hl ⊢
  have hl : lv_has ls 4 [(0, .ref (ad 0 0)), (1, .int a1), (2, .int a2)] := hl
  generalize hQ0 : MQ below (va_Qi (fun r (_ : Unit) => r = o.2) (fun _ t => Hold D aC A ad n o.1 t.heap) A) args s 0 0 A = Q0
  unfold f_PC_about at h
  refine lv_aload_n hx hb d_PC_about_0 rfl (lv_at hl 0 rfl) ?_
  refine lv_iload_n hx hb d_PC_about_1 rfl (lv_at hl 1 rfl) ?_
  obtain ⟨qc, hc2, h⟩ := b2_some h
  obtain ⟨σ1, o2⟩ := qc
  have h := b2_at h
  refine st_Vq (As := [.int a1]) (rest := []) ⟨hx, hb, hml, hown, hg⟩ (c_PC_codeAt l D aC A ad n _ a1 _ hc2) (cwG hg wd_7 wd_8 wd_9 wd_10 wd_4 yd_PC_codeAt ⟨Nat.le_of_ble_eq_true rfl, Nat.le_of_ble_eq_true rfl⟩) hK hH hS hZ hd_0 rfl rfl rfl hl.1 rfl (Nat.le_of_ble_eq_true rfl) d_PC_about_2 ⟨Nat.zero_le _, Nat.zero_le _⟩ (fun c2 H locs hH hS => ?_) (fun j3 c2 hdj3 H locs hH hS => ?_)
  · have h := on_n h c2
    refine lv_astore_nN (lv' := [(3, .null), (0, .ref (ad 0 0)), (1, .int a1), (2, .int a2)]) hx hb d_PC_about_5 rfl hl (by decide) rfl (fun ls hl => ?_)
    refine lv_aload_nN hx hb d_PC_about_6 rfl (lv_at hl 0 rfl) ?_
    refine lv_ifnonnullN hx hb d_PC_about_7 ?_
    refine lv_bipush (v := (-101)) hx hb d_PC_about_10 (by decide) ?_
    cases h
    rw [← hQ0]
    exact W.iret hx hb hr (fun t ht hW => ⟨⟨_, (), rfl, rfl, by dsimp only; rw [ht]; exact hH⟩, hS.F ht⟩) hS.2.2 d_PC_about_12
  · have h := on_s h c2
    refine lv_astore_n (lv' := [(3, .ref (ad 41 j3)), (0, .ref (ad 0 0)), (1, .int a1), (2, .int a2)]) hx hb d_PC_about_5 rfl hl (by decide) rfl (fun ls hl => ?_)
    refine lv_aload_n hx hb d_PC_about_6 rfl (lv_at hl 0 rfl) ?_
    refine lv_ifnonnull (tgt := 13) hx hb d_PC_about_7 (by decide) ?_
    refine lv_iload_n hx hb d_PC_about_13 rfl (lv_at hl 3 rfl) ?_
    by_cases c14_0 : a2 = 0
    · have h := it h c14_0
      refine lv_tableIn (tgt := 48) (off := 34) hx hb d_PC_about_14 (by rw [c14_0]; decide) (by rw [c14_0]; decide) (by rw [c14_0]; decide +kernel) (by decide) ?_
      refine lv_aload_n hx hb d_PC_about_48 rfl (lv_at hl 0 rfl) ?_
      refine st_get hx hb hg hown hK hH (f := 41) (i := j3) hdj3 rfl rfl u_Code 10 (by decide) (hg _ wd_53) (v := .int (σ1.1 41 j3 10)) rfl d_PC_about_49 ?_
      cases h
      rw [← hQ0]
      exact W.iret hx hb hr (fun t ht hW => ⟨⟨_, (), rfl, rfl, by dsimp only; rw [ht]; exact hH⟩, hS.F ht⟩) hS.2.2 d_PC_about_52
    · have h := ie h c14_0
      by_cases c14_1 : a2 = 1
      · have h := it h c14_1
        refine lv_tableIn (tgt := 53) (off := 39) hx hb d_PC_about_14 (by rw [c14_1]; decide) (by rw [c14_1]; decide) (by rw [c14_1]; decide +kernel) (by decide) ?_
        refine lv_aload_n hx hb d_PC_about_53 rfl (lv_at hl 0 rfl) ?_
        refine st_get hx hb hg hown hK hH (f := 41) (i := j3) hdj3 rfl rfl u_Code 0 (by decide) (hg _ wd_6) (v := .int (σ1.1 41 j3 0)) rfl d_PC_about_54 ?_
        cases h
        rw [← hQ0]
        exact W.iret hx hb hr (fun t ht hW => ⟨⟨_, (), rfl, rfl, by dsimp only; rw [ht]; exact hH⟩, hS.F ht⟩) hS.2.2 d_PC_about_57
      · have h := ie h c14_1
        by_cases c14_2 : a2 = 2
        · have h := it h c14_2
          refine lv_tableIn (tgt := 58) (off := 44) hx hb d_PC_about_14 (by rw [c14_2]; decide) (by rw [c14_2]; decide) (by rw [c14_2]; decide +kernel) (by decide) ?_
          refine lv_aload_n hx hb d_PC_about_58 rfl (lv_at hl 0 rfl) ?_
          refine st_get hx hb hg hown hK hH (f := 41) (i := j3) hdj3 rfl rfl u_Code 7 (by decide) (hg _ wd_54) (v := .int (σ1.1 41 j3 7)) rfl d_PC_about_59 ?_
          cases h
          rw [← hQ0]
          exact W.iret hx hb hr (fun t ht hW => ⟨⟨_, (), rfl, rfl, by dsimp only; rw [ht]; exact hH⟩, hS.F ht⟩) hS.2.2 d_PC_about_62
        · have h := ie h c14_2
          by_cases c14_3 : a2 = 3
          · have h := it h c14_3
            refine lv_tableIn (tgt := 63) (off := 49) hx hb d_PC_about_14 (by rw [c14_3]; decide) (by rw [c14_3]; decide) (by rw [c14_3]; decide +kernel) (by decide) ?_
            refine lv_aload_n hx hb d_PC_about_63 rfl (lv_at hl 0 rfl) ?_
            refine st_get hx hb hg hown hK hH (f := 41) (i := j3) hdj3 rfl rfl u_Code 8 (by decide) (hg _ wd_55) (v := .int (σ1.1 41 j3 8)) rfl d_PC_about_64 ?_
            cases h
            rw [← hQ0]
            exact W.iret hx hb hr (fun t ht hW => ⟨⟨_, (), rfl, rfl, by dsimp only; rw [ht]; exact hH⟩, hS.F ht⟩) hS.2.2 d_PC_about_67
          · have h := ie h c14_3
            by_cases c14_4 : a2 = 4
            · have h := it h c14_4
              refine lv_tableIn (tgt := 68) (off := 54) hx hb d_PC_about_14 (by rw [c14_4]; decide) (by rw [c14_4]; decide) (by rw [c14_4]; decide +kernel) (by decide) ?_
              refine lv_aload_n hx hb d_PC_about_68 rfl (lv_at hl 0 rfl) ?_
              refine st_get hx hb hg hown hK hH (f := 41) (i := j3) hdj3 rfl rfl u_Code 9 (by decide) (hg _ wd_56) (v := .int (σ1.1 41 j3 9)) rfl d_PC_about_69 ?_
              cases h
              rw [← hQ0]
              exact W.iret hx hb hr (fun t ht hW => ⟨⟨_, (), rfl, rfl, by dsimp only; rw [ht]; exact hH⟩, hS.F ht⟩) hS.2.2 d_PC_about_72
            · have h := ie h c14_4
              have n14_0 := lv_neT c14_0 (show (0 : Int32).toInt = 0 from rfl)
              have n14_1 := lv_neT c14_1 (show (1 : Int32).toInt = 1 from rfl)
              have n14_2 := lv_neT c14_2 (show (2 : Int32).toInt = 2 from rfl)
              have n14_3 := lv_neT c14_3 (show (3 : Int32).toInt = 3 from rfl)
              have n14_4 := lv_neT c14_4 (show (4 : Int32).toInt = 4 from rfl)
              refine lv_tableOut (tgt := 73) hx hb d_PC_about_14 (by omega) (by decide) ?_
              refine lv_bipush (v := (-102)) hx hb d_PC_about_73 (by decide) ?_
              cases h
              rw [← hQ0]
              exact W.iret hx hb hr (fun t ht hW => ⟨⟨_, (), rfl, rfl, by dsimp only; rw [ht]; exact hH⟩, hS.F ht⟩) hS.2.2 d_PC_about_75
set_option maxHeartbeats 4000000 in
set_option maxRecDepth 100000 in
theorem c_Code_hasWord (l : Launch) (D : va_G) (aC : Nat → ClassId) (A : Nat → Prop) (ad : Nat → Nat → Nat) (n : Nat) (σ : St) (iT : Nat) (a1 : Int32) (hdT : dm n 41 iT) (o : St × Int32) (h : f_Code_hasWord σ iT a1 = some o) : Met l y_Code_hasWord w_Code_hasWord rm_Code_hasWord (va_Pc [.ref (ad 41 iT), .int a1] (Pre D aC A ad n σ)) (va_Qi (fun r (_ : Unit) => r = o.2) (fun _ t => Hold D aC A ad n o.1 t.heap) A) 0 0 A := by
  refine Met.ofW (cc := prog_3_method_7_code) (maxL := 2) (ret := (some .boolean)) (by decide) rfl ?_
  intro p e s m args below meth c s₁ B hml hv
  obtain ⟨hargs, hH, hK, hZ⟩ := hv
  have hx := B.exec
  have hb := B.bytes
  have hr := B.returns
  have hts := atoms_spec (ws := w_Code_hasWord) B.pre
  have hg : ∀ w ∈ gW, w.before args s = true := fun w h => hts w (List.mem_cons_of_mem _ h)
  have hown : s.vm.findClass "PrefixCodes$Code" = some m.cls := findClass_of_methodNamed B.named
  have hlocks := B.notSynchronized
  have hS : va_S A s.heap s.heap [] := va_S.rf
  have hl := lv_entry ([.ref (ad 41 iT), .int a1]) (n := 2) (Nat.le_of_ble_eq_true rfl)
  rw [show entryFrame m args 2 = entryFrame m (([.ref (ad 41 iT), .int a1] : List Value).toArray) 2 by rw [hargs], lg_entry_eq]
  generalize (lg_sl ([.ref (ad 41 iT), .int a1]) ++ List.replicate (2 - (lg_sl ([.ref (ad 41 iT), .int a1])).length) Slot.unset).toArray = ls at hl ⊢
  have hl : lv_has ls 2 [(0, .ref (ad 41 iT)), (1, .int a1)] := hl
  generalize hQ0 : MQ below (va_Qi (fun r (_ : Unit) => r = o.2) (fun _ t => Hold D aC A ad n o.1 t.heap) A) args s 0 0 A = Q0
  unfold f_Code_hasWord at h
  refine lv_aload_n hx hb d_Code_hasWord_0 rfl (lv_at hl 0 rfl) ?_
  refine st_get hx hb hg hown hK hH (f := 41) (i := iT) hdT rfl rfl u_Code 10 (by decide) (hg _ wd_26) (v := .int (σ.1 41 iT 10)) rfl d_Code_hasWord_1 ?_
  refine lv_iconst (v := 4) hx hb d_Code_hasWord_4 (by decide) ?_
  refine lv_icmp_eq (tgt := 21) hx hb d_Code_hasWord_5 (by decide) (fun c5 => ?_) (fun c5 => ?_)
  · have h := it h c5
    refine lv_iconst (v := 0) hx hb d_Code_hasWord_21 (by decide) ?_
    cases h
    rw [← hQ0]
    exact W.zret hx hb hr rfl (fun t ht hW => ⟨⟨_, (), rfl, rfl, by dsimp only; rw [ht]; exact hH⟩, hS.F ht⟩) hS.2.2 d_Code_hasWord_22
  · have h := ie h c5
    refine lv_aload_n hx hb d_Code_hasWord_8 rfl (lv_at hl 0 rfl) ?_
    refine st_get hx hb hg hown hK hH (f := 41) (i := iT) hdT rfl rfl u_Code 1 (by decide) (hg _ wd_13) (v := .ref (ad 42 iT)) rfl d_Code_hasWord_9 ?_
    refine lv_iload_n hx hb d_Code_hasWord_12 rfl (lv_at hl 1 rfl) ?_
    obtain ⟨g13, h⟩ := gd_some h
    refine st_iald hx hb hK hH (f := 42) (i := iT) hdT rfl g13 d_Code_hasWord_13 ?_
    refine lv_if_le (tgt := 21) hx hb d_Code_hasWord_14 (by decide) (fun c14 => ?_) (fun c14 => ?_)
    · have h := it h c14
      refine lv_iconst (v := 0) hx hb d_Code_hasWord_21 (by decide) ?_
      cases h
      rw [← hQ0]
      exact W.zret hx hb hr rfl (fun t ht hW => ⟨⟨_, (), rfl, rfl, by dsimp only; rw [ht]; exact hH⟩, hS.F ht⟩) hS.2.2 d_Code_hasWord_22
    · have h := ie h c14
      refine lv_iconst (v := 1) hx hb d_Code_hasWord_17 (by decide) ?_
      refine lv_goto (tgt := 22) hx hb d_Code_hasWord_18 (by decide) ?_
      cases h
      rw [← hQ0]
      exact W.zret hx hb hr rfl (fun t ht hW => ⟨⟨_, (), rfl, rfl, by dsimp only; rw [ht]; exact hH⟩, hS.F ht⟩) hS.2.2 d_Code_hasWord_22
set_option maxHeartbeats 4000000 in
set_option maxRecDepth 100000 in
theorem c_Code_turnedWord (l : Launch) (D : va_G) (aC : Nat → ClassId) (A : Nat → Prop) (ad : Nat → Nat → Nat) (n : Nat) (σ : St) (iT : Nat) (a1 : Int32) (hdT : dm n 41 iT) (o : St × Int32) (h : f_Code_turnedWord σ iT a1 = some o) : Met l y_Code_turnedWord w_Code_turnedWord rm_Code_turnedWord (va_Pc [.ref (ad 41 iT), .int a1] (Pre D aC A ad n σ)) (va_Qi (fun r (_ : Unit) => r = o.2) (fun _ t => Hold D aC A ad n o.1 t.heap) A) 0 0 A := by
  refine Met.ofW (cc := prog_3_method_9_code) (maxL := 4) (ret := (some .int)) (by decide) rfl ?_
  intro p e s m args below meth c s₁ B hml hv
  obtain ⟨hargs, hH, hK, hZ⟩ := hv
  have hx := B.exec
  have hb := B.bytes
  have hr := B.returns
  have hts := atoms_spec (ws := w_Code_turnedWord) B.pre
  have hg : ∀ w ∈ gW, w.before args s = true := fun w h => hts w (List.mem_cons_of_mem _ h)
  have hown : s.vm.findClass "PrefixCodes$Code" = some m.cls := findClass_of_methodNamed B.named
  have hlocks := B.notSynchronized
  have hS : va_S A s.heap s.heap [] := va_S.rf
  have hl := lv_entry ([.ref (ad 41 iT), .int a1]) (n := 4) (Nat.le_of_ble_eq_true rfl)
  rw [show entryFrame m args 4 = entryFrame m (([.ref (ad 41 iT), .int a1] : List Value).toArray) 4 by rw [hargs], lg_entry_eq]
  generalize (lg_sl ([.ref (ad 41 iT), .int a1]) ++ List.replicate (4 - (lg_sl ([.ref (ad 41 iT), .int a1])).length) Slot.unset).toArray = ls at hl ⊢
  have hl : lv_has ls 4 [(0, .ref (ad 41 iT)), (1, .int a1)] := hl
  generalize hQ0 : MQ below (va_Qi (fun r (_ : Unit) => r = o.2) (fun _ t => Hold D aC A ad n o.1 t.heap) A) args s 0 0 A = Q0
  unfold f_Code_turnedWord at h
  refine lv_iconst (v := 0) hx hb d_Code_turnedWord_0 (by decide) ?_
  refine lv_istore_n (lv' := [(2, .int 0), (0, .ref (ad 41 iT)), (1, .int a1)]) hx hb d_Code_turnedWord_1 rfl hl (by decide) rfl (fun ls hl => ?_)
  refine lv_iconst (v := 0) hx hb d_Code_turnedWord_2 (by decide) ?_
  refine lv_istore_n (lv' := [(3, .int 0), (2, .int 0), (0, .ref (ad 41 iT)), (1, .int a1)]) hx hb d_Code_turnedWord_3 rfl hl (by decide) rfl (fun ls hl => ?_)
  obtain ⟨q1, hq1, h⟩ := b3_some h
  have K1 : ∀ (σ3 : St) (x4 : Int32) (x5 : Int32) (H : Heap) (locs : List Loc) (ls : Array Slot), q1 = (σ3, x4, x5) → Hold D aC A ad n σ3 H → va_S A s.heap H locs → lv_has ls 4 [(0, .ref (ad 41 iT)), (1, .int a1), (2, .int x4), (3, .int x5)] → W p l e (headSpec w_Code_turnedWord rm_Code_turnedWord).room s m args below meth c H locs 0 0 Q0 (F0 m 35 ls []) := by
    intro σ3 x4 x5 H locs ls eq1 hH hS hl
    subst eq1
    have h := b3_at h
    refine lv_iload_n hx hb d_Code_turnedWord_35 rfl (lv_at hl 2 rfl) ?_
    cases h
    rw [← hQ0]
    exact W.iret hx hb hr (fun t ht hW => ⟨⟨_, (), rfl, rfl, by dsimp only; rw [ht]; exact hH⟩, hS.F ht⟩) hS.2.2 d_Code_turnedWord_36
  have loop1 : ∀ (k : Nat) (σ : St) (v2 : Int32) (v3 : Int32) (H : Heap) (locs : List Loc) (ls : Array Slot), Hold D aC A ad n σ H → va_S A s.heap H locs → lv_has ls 4 [(0, .ref (ad 41 iT)), (1, .int a1), (2, .int v2), (3, .int v3)] → lp (fun q => lb_Code_turnedWord_4 iT a1 q.1 q.2.1 q.2.2) k (σ, v2, v3) = some q1 → W p l e (headSpec w_Code_turnedWord rm_Code_turnedWord).room s m args below meth c H locs 0 0 Q0 (F0 m 4 ls []) := by
    intro k
    induction k with
    | zero => intro σ v2 v3 H locs ls hH hS hl hlp; exact absurd hlp (lp_zero _ _ _)
    | succ k ih1 =>
      intro σ v2 v3 H locs ls hH hS hl hlp
      obtain ⟨z1, h1, hk1⟩ := lp_succ hlp
      have h1 : lb_Code_turnedWord_4 iT a1 σ v2 v3 = some z1 := h1
      unfold lb_Code_turnedWord_4 at h1
      refine lv_iload_n hx hb d_Code_turnedWord_4 rfl (lv_at hl 3 rfl) ?_
      refine lv_aload_n hx hb d_Code_turnedWord_5 rfl (lv_at hl 0 rfl) ?_
      refine st_get hx hb hg hown hK hH (f := 41) (i := iT) hdT rfl rfl u_Code 1 (by decide) (hg _ wd_13) (v := .ref (ad 42 iT)) rfl d_Code_turnedWord_6 ?_
      refine lv_iload_n hx hb d_Code_turnedWord_9 rfl (lv_at hl 1 rfl) ?_
      obtain ⟨g10, h1⟩ := gd_some h1
      refine st_iald hx hb hK hH (f := 42) (i := iT) hdT rfl g10 d_Code_turnedWord_10 ?_
      refine lv_icmp_ge (tgt := 35) hx hb d_Code_turnedWord_11 (by decide) (fun c11 => ?_) (fun c11 => ?_)
      · have h1 := it h1 c11
        cases h1
        exact K1 σ v2 v3 _ _ ls (Option.some.inj hk1).symm hH hS (lv_sub hl [0, 1, 2, 3] rfl)
      · have h1 := ie h1 c11
        refine lv_iload_n hx hb d_Code_turnedWord_14 rfl (lv_at hl 2 rfl) ?_
        refine lv_iconst (v := 1) hx hb d_Code_turnedWord_15 (by decide) ?_
        refine lv_ishl hx hb d_Code_turnedWord_16 ?_
        refine lv_aload_n hx hb d_Code_turnedWord_17 rfl (lv_at hl 0 rfl) ?_
        refine st_get hx hb hg hown hK hH (f := 41) (i := iT) hdT rfl rfl u_Code 2 (by decide) (hg _ wd_23) (v := .ref (ad 43 iT)) rfl d_Code_turnedWord_18 ?_
        refine lv_iload_n hx hb d_Code_turnedWord_21 rfl (lv_at hl 1 rfl) ?_
        obtain ⟨g22, h1⟩ := gd_some h1
        refine st_iald hx hb hK hH (f := 43) (i := iT) hdT rfl g22 d_Code_turnedWord_22 ?_
        refine lv_iload_n hx hb d_Code_turnedWord_23 rfl (lv_at hl 3 rfl) ?_
        refine lv_iushr hx hb d_Code_turnedWord_24 rfl ?_
        refine lv_iconst (v := 1) hx hb d_Code_turnedWord_25 (by decide) ?_
        refine lv_iand hx hb d_Code_turnedWord_26 ?_
        refine lv_ior hx hb d_Code_turnedWord_27 ?_
        refine lv_topi (fun x1 ex1 => ?_)
        have h1 := nm_at ex1 h1
        refine lv_istore_n (lv' := [(2, .int x1), (0, .ref (ad 41 iT)), (1, .int a1), (3, .int v3)]) hx hb d_Code_turnedWord_28 rfl hl (by decide) rfl (fun ls hl => ?_)
        obtain ⟨x2, ex2⟩ : ∃ y : Int32, y = v3 + 1 := ⟨_, rfl⟩
        have h1 := nm_at ex2 h1
        refine lv_iinc (v := x2) (lv' := [(3, .int x2), (2, .int x1), (0, .ref (ad 41 iT)), (1, .int a1)]) hx hb d_Code_turnedWord_29 hl (k := 3) rfl (by rw [ex2]; rfl) (by decide) rfl (fun ls hl => ?_)
        refine lv_goto (tgt := 4) hx hb d_Code_turnedWord_32 (by decide) ?_
        cases h1
        exact ih1 σ x1 x2 _ _ ls hH hS (lv_sub hl [2, 3, 1, 0] rfl) hk1
  obtain ⟨k1, hq1⟩ := lpE_some hq1
  exact loop1 k1 σ 0 0 _ _ ls hH hS (lv_sub hl [2, 3, 1, 0] rfl) hq1
set_option maxHeartbeats 4000000 in
set_option maxRecDepth 100000 in
theorem c_PC_word (l : Launch) (D : va_G) (aC : Nat → ClassId) (A : Nat → Prop) (ad : Nat → Nat → Nat) (n : Nat) (σ : St) (a1 : Int32) (a2 : Int32) (a3 : Int32) (o : St × Int32) (h : f_PC_word σ a1 a2 a3 = some o) : Met l y_PC_word w_PC_word rm_PC_word (va_Pc [.ref (ad 0 0), .int a1, .int a2, .int a3] (Pre D aC A ad n σ)) (va_Qi (fun r (_ : Unit) => r = o.2) (fun _ t => Hold D aC A ad n o.1 t.heap) A) 0 0 A := by
  refine Met.ofW (cc := prog_1_method_5_code) (maxL := 5) (ret := (some .int)) (by decide) rfl ?_
  intro p e s m args below meth c s₁ B hml hv
  obtain ⟨hargs, hH, hK, hZ⟩ := hv
  have hx := B.exec
  have hb := B.bytes
  have hr := B.returns
  have hts := atoms_spec (ws := w_PC_word) B.pre
  have hg : ∀ w ∈ gW, w.before args s = true := fun w h => hts w (List.mem_cons_of_mem _ h)
  have hown : s.vm.findClass "PrefixCodes" = some m.cls := findClass_of_methodNamed B.named
  have hlocks := B.notSynchronized
  have hS : va_S A s.heap s.heap [] := va_S.rf
  have hl := lv_entry ([.ref (ad 0 0), .int a1, .int a2, .int a3]) (n := 5) (Nat.le_of_ble_eq_true rfl)
  rw [show entryFrame m args 5 = entryFrame m (([.ref (ad 0 0), .int a1, .int a2, .int a3] : List Value).toArray) 5 by rw [hargs], lg_entry_eq]
  generalize (lg_sl ([.ref (ad 0 0), .int a1, .int a2, .int a3]) ++ List.replicate (5 - (lg_sl ([.ref (ad 0 0), .int a1, .int a2, .int a3])).length) Slot.unset).toArray = ls at hl ⊢
  have hl : lv_has ls 5 [(0, .ref (ad 0 0)), (1, .int a1), (2, .int a2), (3, .int a3)] := hl
  generalize hQ0 : MQ below (va_Qi (fun r (_ : Unit) => r = o.2) (fun _ t => Hold D aC A ad n o.1 t.heap) A) args s 0 0 A = Q0
  unfold f_PC_word at h
  refine lv_aload_n hx hb d_PC_word_0 rfl (lv_at hl 0 rfl) ?_
  refine lv_iload_n hx hb d_PC_word_1 rfl (lv_at hl 1 rfl) ?_
  refine lv_iload_n hx hb d_PC_word_2 rfl (lv_at hl 2 rfl) ?_
  obtain ⟨qc, hc3, h⟩ := b2_some h
  obtain ⟨σ1, o2⟩ := qc
  have h := b2_at h
  refine st_Vq (As := [.int a1, .int a2]) (rest := []) ⟨hx, hb, hml, hown, hg⟩ (c_PC_codeWith l D aC A ad n _ a1 a2 _ hc3) (cwG hg wd_45 wd_46 wd_47 wd_48 wd_4 yd_PC_codeWith ⟨Nat.le_of_ble_eq_true rfl, Nat.le_of_ble_eq_true rfl⟩) hK hH hS hZ hd_0 rfl rfl rfl hl.1 rfl (Nat.le_of_ble_eq_true rfl) d_PC_word_3 ⟨Nat.zero_le _, Nat.zero_le _⟩ (fun c3 H locs hH hS => ?_) (fun j3 c3 hdj3 H locs hH hS => ?_)
  · have h := on_n h c3
    refine lv_astoreN (lv' := [(4, .null), (0, .ref (ad 0 0)), (1, .int a1), (2, .int a2), (3, .int a3)]) hx hb d_PC_word_6 hl (by decide) rfl (fun ls hl => ?_)
    refine lv_aloadN hx hb d_PC_word_8 (lv_at hl 0 rfl) ?_
    refine lv_ifnonnullN hx hb d_PC_word_10 ?_
    refine lv_bipush (v := (-101)) hx hb d_PC_word_13 (by decide) ?_
    cases h
    rw [← hQ0]
    exact W.iret hx hb hr (fun t ht hW => ⟨⟨_, (), rfl, rfl, by dsimp only; rw [ht]; exact hH⟩, hS.F ht⟩) hS.2.2 d_PC_word_15
  · have h := on_s h c3
    refine lv_astore (lv' := [(4, .ref (ad 41 j3)), (0, .ref (ad 0 0)), (1, .int a1), (2, .int a2), (3, .int a3)]) hx hb d_PC_word_6 hl (by decide) rfl (fun ls hl => ?_)
    refine lv_aload hx hb d_PC_word_8 (lv_at hl 0 rfl) ?_
    refine lv_ifnonnull (tgt := 16) hx hb d_PC_word_10 (by decide) ?_
    refine lv_aload hx hb d_PC_word_16 (lv_at hl 0 rfl) ?_
    refine lv_iload_n hx hb d_PC_word_18 rfl (lv_at hl 3 rfl) ?_
    obtain ⟨qc, hc19, h⟩ := b2_some h
    obtain ⟨σ4, x5⟩ := qc
    have h := b2_at h
    refine st_Vi (As := [.int a2]) (rest := []) ⟨hx, hb, hml, hown, hg⟩ (c_Code_hasWord l D aC A ad n _ j3 a2 hdj3 _ hc19) (cwG hg wd_58 wd_59 wd_60 wd_61 wd_29 yd_Code_hasWord ⟨Nat.le_of_ble_eq_true rfl, Nat.le_of_ble_eq_true rfl⟩) hK hH hS hZ hdj3 rfl rfl rfl hl.1 rfl (Nat.le_of_ble_eq_true rfl) d_PC_word_19 ⟨Nat.zero_le _, Nat.zero_le _⟩ (fun H locs hH hS => ?_)
    refine lv_if_ne (tgt := 28) hx hb d_PC_word_22 (by decide) (fun c22 => ?_) (fun c22 => ?_)
    · have h := ie h c22
      refine lv_iload_n hx hb d_PC_word_28 rfl (lv_at hl 4 rfl) ?_
      refine lv_if_eq (tgt := 41) hx hb d_PC_word_29 (by decide) (fun c29 => ?_) (fun c29 => ?_)
      · have h := it h c29
        refine lv_aload hx hb d_PC_word_41 (lv_at hl 0 rfl) ?_
        refine st_get hx hb hg hown hK hH (f := 41) (i := j3) hdj3 rfl rfl u_Code 2 (by decide) (hg _ wd_57) (v := .ref (ad 43 j3)) rfl d_PC_word_43 ?_
        refine lv_iload_n hx hb d_PC_word_46 rfl (lv_at hl 3 rfl) ?_
        obtain ⟨g47, h⟩ := gd_some h
        refine st_iald hx hb hK hH (f := 43) (i := j3) hdj3 rfl g47 d_PC_word_47 ?_
        cases h
        rw [← hQ0]
        exact W.iret hx hb hr (fun t ht hW => ⟨⟨_, (), rfl, rfl, by dsimp only; rw [ht]; exact hH⟩, hS.F ht⟩) hS.2.2 d_PC_word_48
      · have h := ie h c29
        refine lv_aload hx hb d_PC_word_32 (lv_at hl 0 rfl) ?_
        refine lv_iload_n hx hb d_PC_word_34 rfl (lv_at hl 3 rfl) ?_
        obtain ⟨qc, hc35, h⟩ := b2_some h
        obtain ⟨σ6, x7⟩ := qc
        have h := b2_at h
        refine st_Vi (As := [.int a2]) (rest := []) ⟨hx, hb, hml, hown, hg⟩ (c_Code_turnedWord l D aC A ad n _ j3 a2 hdj3 _ hc35) (cwG hg wd_62 wd_63 wd_64 wd_65 wd_29 yd_Code_turnedWord ⟨Nat.le_of_ble_eq_true rfl, Nat.le_of_ble_eq_true rfl⟩) hK hH hS hZ hdj3 rfl rfl rfl hl.1 rfl (Nat.le_of_ble_eq_true rfl) d_PC_word_35 ⟨Nat.zero_le _, Nat.zero_le _⟩ (fun H locs hH hS => ?_)
        refine lv_goto (tgt := 48) hx hb d_PC_word_38 (by decide) ?_
        cases h
        rw [← hQ0]
        exact W.iret hx hb hr (fun t ht hW => ⟨⟨_, (), rfl, rfl, by dsimp only; rw [ht]; exact hH⟩, hS.F ht⟩) hS.2.2 d_PC_word_48
    · have h := it h c22
      refine lv_bipush (v := (-103)) hx hb d_PC_word_25 (by decide) ?_
      cases h
      rw [← hQ0]
      exact W.iret hx hb hr (fun t ht hW => ⟨⟨_, (), rfl, rfl, by dsimp only; rw [ht]; exact hH⟩, hS.F ht⟩) hS.2.2 d_PC_word_27
set_option maxHeartbeats 4000000 in
set_option maxRecDepth 100000 in
theorem c_PC_count (l : Launch) (D : va_G) (aC : Nat → ClassId) (A : Nat → Prop) (ad : Nat → Nat → Nat) (n : Nat) (σ : St) (a1 : Int32) (a2 : Int32) (o : St × Int32) (h : f_PC_count σ a1 a2 = some o) : Met l y_PC_count w_PC_count rm_PC_count (va_Pc [.ref (ad 0 0), .int a1, .int a2] (Pre D aC A ad n σ)) (va_Qi (fun r (_ : Unit) => r = o.2) (fun _ t => Hold D aC A ad n o.1 t.heap) A) 0 0 A := by
  refine Met.ofW (cc := prog_1_method_6_code) (maxL := 4) (ret := (some .int)) (by decide) rfl ?_
  intro p e s m args below meth c s₁ B hml hv
  obtain ⟨hargs, hH, hK, hZ⟩ := hv
  have hx := B.exec
  have hb := B.bytes
  have hr := B.returns
  have hts := atoms_spec (ws := w_PC_count) B.pre
  have hg : ∀ w ∈ gW, w.before args s = true := fun w h => hts w (List.mem_cons_of_mem _ h)
  have hown : s.vm.findClass "PrefixCodes" = some m.cls := findClass_of_methodNamed B.named
  have hlocks := B.notSynchronized
  have hS : va_S A s.heap s.heap [] := va_S.rf
  have hl := lv_entry ([.ref (ad 0 0), .int a1, .int a2]) (n := 4) (Nat.le_of_ble_eq_true rfl)
  rw [show entryFrame m args 4 = entryFrame m (([.ref (ad 0 0), .int a1, .int a2] : List Value).toArray) 4 by rw [hargs], lg_entry_eq]
  generalize (lg_sl ([.ref (ad 0 0), .int a1, .int a2]) ++ List.replicate (4 - (lg_sl ([.ref (ad 0 0), .int a1, .int a2])).length) Slot.unset).toArray = ls at hl ⊢
  have hl : lv_has ls 4 [(0, .ref (ad 0 0)), (1, .int a1), (2, .int a2)] := hl
  generalize hQ0 : MQ below (va_Qi (fun r (_ : Unit) => r = o.2) (fun _ t => Hold D aC A ad n o.1 t.heap) A) args s 0 0 A = Q0
  unfold f_PC_count at h
  refine lv_iload_n hx hb d_PC_count_0 rfl (lv_at hl 1 rfl) ?_
  refine lv_iconst (v := 0) hx hb d_PC_count_1 (by decide) ?_
  refine lv_bipush (v := 63) hx hb d_PC_count_2 (by decide) ?_
  obtain ⟨qc, hc4, h⟩ := b2_some h
  obtain ⟨σ1, x2⟩ := qc
  have h := b2_at h
  refine st_Si (As := [.int a1, .int 0, .int 63]) (rest := []) ⟨hx, hb, hml, hown, hg⟩ (c_PC_isOutside l D aC A ad n _ a1 0 63 _ hc4) (cwGS hg wd_2 wd_3 wd_5 wd_4 yd_PC_isOutside ⟨Nat.le_of_ble_eq_true rfl, Nat.le_of_ble_eq_true rfl⟩) hK hH hS hZ rfl hl.1 rfl (Nat.le_of_ble_eq_true rfl) d_PC_count_4 ⟨Nat.zero_le _, Nat.zero_le _⟩ (fun H locs hH hS => ?_)
  refine lv_if_ne (tgt := 20) hx hb d_PC_count_7 (by decide) (fun c7 => ?_) (fun c7 => ?_)
  · have h := ie h c7
    refine lv_bipush (v := (-102)) hx hb d_PC_count_20 (by decide) ?_
    cases h
    rw [← hQ0]
    exact W.iret hx hb hr (fun t ht hW => ⟨⟨_, (), rfl, rfl, by dsimp only; rw [ht]; exact hH⟩, hS.F ht⟩) hS.2.2 d_PC_count_22
  · have h := it h c7
    refine lv_iload_n hx hb d_PC_count_10 rfl (lv_at hl 2 rfl) ?_
    refine lv_iconst (v := 0) hx hb d_PC_count_11 (by decide) ?_
    refine lv_ldc (v := 1000000) hx hb hown (hg _ wd_66) d_PC_count_12 ?_
    obtain ⟨qc, hc14, h⟩ := b2_some h
    obtain ⟨σ3, x4⟩ := qc
    have h := b2_at h
    refine st_Si (As := [.int a2, .int 0, .int 1000000]) (rest := []) ⟨hx, hb, hml, hown, hg⟩ (c_PC_isOutside l D aC A ad n _ a2 0 1000000 _ hc14) (cwGS hg wd_2 wd_3 wd_5 wd_4 yd_PC_isOutside ⟨Nat.le_of_ble_eq_true rfl, Nat.le_of_ble_eq_true rfl⟩) hK hH hS hZ rfl hl.1 rfl (Nat.le_of_ble_eq_true rfl) d_PC_count_14 ⟨Nat.zero_le _, Nat.zero_le _⟩ (fun H locs hH hS => ?_)
    refine lv_if_eq (tgt := 23) hx hb d_PC_count_17 (by decide) (fun c17 => ?_) (fun c17 => ?_)
    · have h := it h c17
      refine lv_aload_n hx hb d_PC_count_23 rfl (lv_at hl 0 rfl) ?_
      refine st_get hx hb hg hown hK hH (f := 0) (i := 0) hd_0 rfl rfl u_PC 2 (by decide) (hg _ wd_67) (v := .ref (ad 2 0)) rfl d_PC_count_24 ?_
      refine lv_iload_n hx hb d_PC_count_27 rfl (lv_at hl 1 rfl) ?_
      obtain ⟨g28, h⟩ := gd_some h
      refine st_iald hx hb hK hH (f := 2) (i := 0) hd_2 rfl g28 d_PC_count_28 ?_
      refine lv_topi (fun x5 ex5 => ?_)
      have h := nm_at ex5 h
      refine lv_istore_n (lv' := [(3, .int x5), (0, .ref (ad 0 0)), (1, .int a1), (2, .int a2)]) hx hb d_PC_count_29 rfl hl (by decide) rfl (fun ls hl => ?_)
      refine lv_aload_n hx hb d_PC_count_30 rfl (lv_at hl 1 rfl) ?_
      refine st_get hx hb hg hown hK hH (f := 0) (i := 0) hd_0 rfl rfl u_PC 2 (by decide) (hg _ wd_67) (v := .ref (ad 2 0)) rfl d_PC_count_31 ?_
      refine lv_iload_n hx hb d_PC_count_34 rfl (lv_at hl 2 rfl) ?_
      refine lv_iload_n hx hb d_PC_count_35 rfl (lv_at hl 3 rfl) ?_
      obtain ⟨g36, h⟩ := gd_some h
      refine st_iast hx hb hK hH hS (f := 2) (i := 0) hd_2 rfl g36 d_PC_count_36 (fun σ6 H locs eσ6 hH hS => ?_)
      have h := nm_at eσ6 h
      refine lv_iload_n hx hb d_PC_count_37 rfl (lv_at hl 0 rfl) ?_
      cases h
      rw [← hQ0]
      exact W.iret hx hb hr (fun t ht hW => ⟨⟨_, (), rfl, rfl, by dsimp only; rw [ht]; exact hH⟩, hS.F ht⟩) hS.2.2 d_PC_count_38
    · have h := ie h c17
      refine lv_bipush (v := (-102)) hx hb d_PC_count_20 (by decide) ?_
      cases h
      rw [← hQ0]
      exact W.iret hx hb hr (fun t ht hW => ⟨⟨_, (), rfl, rfl, by dsimp only; rw [ht]; exact hH⟩, hS.F ht⟩) hS.2.2 d_PC_count_22
set_option maxHeartbeats 4000000 in
set_option maxRecDepth 100000 in
theorem c_Text_tally (l : Launch) (D : va_G) (aC : Nat → ClassId) (A : Nat → Prop) (ad : Nat → Nat → Nat) (n : Nat) (σ : St) (fa1 ia1 na1 : Nat) (hka1 : kd fa1 = .inr (0, na1)) (hda1 : dm n fa1 ia1) (o : St) (h : f_Text_tally σ fa1 ia1 na1 = some o) : Met l y_Text_tally w_Text_tally rm_Text_tally (va_Pc [.ref (ad 26 0), .ref (ad fa1 ia1)] (Pre D aC A ad n σ)) (va_Qv (fun (_ : Unit) => True) (fun _ t => Hold D aC A ad n o t.heap) A) 0 0 A := by
  refine Met.ofW (cc := prog_11_method_4_code) (maxL := 3) (ret := none) (by decide) rfl ?_
  intro p e s m args below meth c s₁ B hml hv
  obtain ⟨hargs, hH, hK, hZ⟩ := hv
  have hx := B.exec
  have hb := B.bytes
  have hr := B.returns
  have hts := atoms_spec (ws := w_Text_tally) B.pre
  have hg : ∀ w ∈ gW, w.before args s = true := fun w h => hts w (List.mem_cons_of_mem _ h)
  have hown : s.vm.findClass "PrefixCodes$Text" = some m.cls := findClass_of_methodNamed B.named
  have hlocks := B.notSynchronized
  have hS : va_S A s.heap s.heap [] := va_S.rf
  have hl := lv_entry ([.ref (ad 26 0), .ref (ad fa1 ia1)]) (n := 3) (Nat.le_of_ble_eq_true rfl)
  rw [show entryFrame m args 3 = entryFrame m (([.ref (ad 26 0), .ref (ad fa1 ia1)] : List Value).toArray) 3 by rw [hargs], lg_entry_eq]
  generalize (lg_sl ([.ref (ad 26 0), .ref (ad fa1 ia1)]) ++ List.replicate (3 - (lg_sl ([.ref (ad 26 0), .ref (ad fa1 ia1)])).length) Slot.unset).toArray = ls at hl ⊢
  have hl : lv_has ls 3 [(0, .ref (ad 26 0)), (1, .ref (ad fa1 ia1))] := hl
  generalize hQ0 : MQ below (va_Qv (fun (_ : Unit) => True) (fun _ t => Hold D aC A ad n o t.heap) A) args s 0 0 A = Q0
  unfold f_Text_tally at h
  refine lv_aload_n hx hb d_Text_tally_0 rfl (lv_at hl 1 rfl) ?_
  refine lv_iconst (v := 0) hx hb d_Text_tally_1 (by decide) ?_
  obtain ⟨qc, hc2, h⟩ := b1_some h
  obtain ⟨σ1, rfl⟩ : ∃ z, z = qc := ⟨_, rfl⟩
  have h := b1_at h
  refine st_Sv (As := [.ref (ad fa1 ia1), .int 0]) (rest := []) ⟨hx, hb, hml, hown, hg⟩ (c_Arrays_fill l D aC A ad n _ fa1 ia1 na1 0 hka1 hda1 _ hc2) (cwGS hg wd_14 wd_70 wd_17 wd_16 yd_Arrays_fill ⟨Nat.le_of_ble_eq_true rfl, Nat.le_of_ble_eq_true rfl⟩) hK hH hS hZ rfl hl.1 rfl (Nat.le_of_ble_eq_true rfl) d_Text_tally_2 ⟨Nat.zero_le _, Nat.zero_le _⟩ (fun H locs hH hS => ?_)
  refine lv_iconst (v := 0) hx hb d_Text_tally_5 (by decide) ?_
  refine lv_istore_n (lv' := [(2, .int 0), (0, .ref (ad 26 0)), (1, .ref (ad fa1 ia1))]) hx hb d_Text_tally_6 rfl hl (by decide) rfl (fun ls hl => ?_)
  obtain ⟨q1, hq1, h⟩ := b2_some h
  have K1 : ∀ (σ4 : St) (x5 : Int32) (H : Heap) (locs : List Loc) (ls : Array Slot), q1 = (σ4, x5) → Hold D aC A ad n σ4 H → va_S A s.heap H locs → lv_has ls 3 [(0, .ref (ad 26 0)), (1, .ref (ad fa1 ia1)), (2, .int x5)] → W p l e (headSpec w_Text_tally rm_Text_tally).room s m args below meth c H locs 0 0 Q0 (F0 m 33 ls []) := by
    intro σ4 x5 H locs ls eq1 hH hS hl
    subst eq1
    have h := b2_at h
    cases h
    rw [← hQ0]
    exact W.vret hx hb hr (fun t ht hW => ⟨⟨(), rfl, trivial, by dsimp only; rw [ht]; exact hH⟩, hS.F ht⟩) hS.2.2 d_Text_tally_33
  have loop1 : ∀ (k : Nat) (σ : St) (v2 : Int32) (H : Heap) (locs : List Loc) (ls : Array Slot), Hold D aC A ad n σ H → va_S A s.heap H locs → lv_has ls 3 [(0, .ref (ad 26 0)), (1, .ref (ad fa1 ia1)), (2, .int v2)] → lp (fun q => lb_Text_tally_7 fa1 ia1 na1 q.1 q.2) k (σ, v2) = some q1 → W p l e (headSpec w_Text_tally rm_Text_tally).room s m args below meth c H locs 0 0 Q0 (F0 m 7 ls []) := by
    intro k
    induction k with
    | zero => intro σ v2 H locs ls hH hS hl hlp; exact absurd hlp (lp_zero _ _ _)
    | succ k ih1 =>
      intro σ v2 H locs ls hH hS hl hlp
      obtain ⟨z1, h1, hk1⟩ := lp_succ hlp
      have h1 : lb_Text_tally_7 fa1 ia1 na1 σ v2 = some z1 := h1
      unfold lb_Text_tally_7 at h1
      refine lv_iload_n hx hb d_Text_tally_7 rfl (lv_at hl 2 rfl) ?_
      refine lv_aload_n hx hb d_Text_tally_8 rfl (lv_at hl 0 rfl) ?_
      refine st_get hx hb hg hown hK hH (f := 26) (i := 0) hd_26 rfl rfl u_Text 1 (by decide) (hg _ wd_68) (v := .int (σ.1 26 0 1)) rfl d_Text_tally_9 ?_
      refine lv_icmp_ge (tgt := 33) hx hb d_Text_tally_12 (by decide) (fun c12 => ?_) (fun c12 => ?_)
      · have h1 := it h1 c12
        cases h1
        exact K1 σ v2 _ _ ls (Option.some.inj hk1).symm hH hS (lv_sub hl [0, 1, 2] rfl)
      · have h1 := ie h1 c12
        refine lv_aload_n hx hb d_Text_tally_15 rfl (lv_at hl 1 rfl) ?_
        refine lv_aload_n hx hb d_Text_tally_16 rfl (lv_at hl 0 rfl) ?_
        refine st_get hx hb hg hown hK hH (f := 26) (i := 0) hd_26 rfl rfl u_Text 0 (by decide) (hg _ wd_69) (v := .ref (ad 27 0)) rfl d_Text_tally_17 ?_
        refine lv_iload_n hx hb d_Text_tally_20 rfl (lv_at hl 2 rfl) ?_
        obtain ⟨g21, h1⟩ := gd_some h1
        refine st_iald hx hb hK hH (f := 27) (i := 0) hd_27 rfl g21 d_Text_tally_21 ?_
        refine lv_dup2_11 hx hb d_Text_tally_22 rfl rfl ?_
        obtain ⟨g23, h1⟩ := gd_some h1
        refine st_iald hx hb hK hH (f := fa1) (i := ia1) hda1 hka1 g23 d_Text_tally_23 ?_
        refine lv_iconst (v := 1) hx hb d_Text_tally_24 (by decide) ?_
        refine lv_iadd hx hb d_Text_tally_25 ?_
        obtain ⟨g26, h1⟩ := gd_some h1
        refine st_iast hx hb hK hH hS (f := fa1) (i := ia1) hda1 hka1 g26 d_Text_tally_26 (fun σ2 H locs eσ2 hH hS => ?_)
        have h1 := nm_at eσ2 h1
        obtain ⟨x3, ex3⟩ : ∃ y : Int32, y = v2 + 1 := ⟨_, rfl⟩
        have h1 := nm_at ex3 h1
        refine lv_iinc (v := x3) (lv' := [(2, .int x3), (0, .ref (ad 26 0)), (1, .ref (ad fa1 ia1))]) hx hb d_Text_tally_27 hl (k := 2) rfl (by rw [ex3]; rfl) (by decide) rfl (fun ls hl => ?_)
        refine lv_goto (tgt := 7) hx hb d_Text_tally_30 (by decide) ?_
        cases h1
        exact ih1 σ2 x3 _ _ ls hH hS (lv_sub hl [1, 2, 0] rfl) hk1
  obtain ⟨k1, hq1⟩ := lpE_some hq1
  exact loop1 k1 σ1 0 _ _ ls hH hS (lv_sub hl [1, 2, 0] rfl) hq1
set_option maxHeartbeats 4000000 in
set_option maxRecDepth 100000 in
theorem c_PC_countedBelow (l : Launch) (D : va_G) (aC : Nat → ClassId) (A : Nat → Prop) (ad : Nat → Nat → Nat) (n : Nat) (σ : St) (a1 : Int32) (o : St × Int32) (h : f_PC_countedBelow σ a1 = some o) : Met l y_PC_countedBelow w_PC_countedBelow rm_PC_countedBelow (va_Pc [.ref (ad 0 0), .int a1] (Pre D aC A ad n σ)) (va_Qi (fun r (_ : Unit) => r = o.2) (fun _ t => Hold D aC A ad n o.1 t.heap) A) 0 0 A := by
  refine Met.ofW (cc := prog_1_method_32_code) (maxL := 4) (ret := (some .int)) (by decide) rfl ?_
  intro p e s m args below meth c s₁ B hml hv
  obtain ⟨hargs, hH, hK, hZ⟩ := hv
  have hx := B.exec
  have hb := B.bytes
  have hr := B.returns
  have hts := atoms_spec (ws := w_PC_countedBelow) B.pre
  have hg : ∀ w ∈ gW, w.before args s = true := fun w h => hts w (List.mem_cons_of_mem _ h)
  have hown : s.vm.findClass "PrefixCodes" = some m.cls := findClass_of_methodNamed B.named
  have hlocks := B.notSynchronized
  have hS : va_S A s.heap s.heap [] := va_S.rf
  have hl := lv_entry ([.ref (ad 0 0), .int a1]) (n := 4) (Nat.le_of_ble_eq_true rfl)
  rw [show entryFrame m args 4 = entryFrame m (([.ref (ad 0 0), .int a1] : List Value).toArray) 4 by rw [hargs], lg_entry_eq]
  generalize (lg_sl ([.ref (ad 0 0), .int a1]) ++ List.replicate (4 - (lg_sl ([.ref (ad 0 0), .int a1])).length) Slot.unset).toArray = ls at hl ⊢
  have hl : lv_has ls 4 [(0, .ref (ad 0 0)), (1, .int a1)] := hl
  generalize hQ0 : MQ below (va_Qi (fun r (_ : Unit) => r = o.2) (fun _ t => Hold D aC A ad n o.1 t.heap) A) args s 0 0 A = Q0
  unfold f_PC_countedBelow at h
  refine lv_iconst (v := 0) hx hb d_PC_countedBelow_0 (by decide) ?_
  refine lv_istore_n (lv' := [(2, .int 0), (0, .ref (ad 0 0)), (1, .int a1)]) hx hb d_PC_countedBelow_1 rfl hl (by decide) rfl (fun ls hl => ?_)
  refine lv_iconst (v := 0) hx hb d_PC_countedBelow_2 (by decide) ?_
  refine lv_istore_n (lv' := [(3, .int 0), (2, .int 0), (0, .ref (ad 0 0)), (1, .int a1)]) hx hb d_PC_countedBelow_3 rfl hl (by decide) rfl (fun ls hl => ?_)
  obtain ⟨q1, hq1, h⟩ := b3_some h
  have K1 : ∀ (σ4 : St) (x5 : Int32) (x6 : Int32) (H : Heap) (locs : List Loc) (ls : Array Slot), q1 = (σ4, x5, x6) → Hold D aC A ad n σ4 H → va_S A s.heap H locs → lv_has ls 4 [(0, .ref (ad 0 0)), (1, .int a1), (2, .int x5), (3, .int x6)] → W p l e (headSpec w_PC_countedBelow rm_PC_countedBelow).room s m args below meth c H locs 0 0 Q0 (F0 m 27 ls []) := by
    intro σ4 x5 x6 H locs ls eq1 hH hS hl
    subst eq1
    have h := b3_at h
    refine lv_iload_n hx hb d_PC_countedBelow_27 rfl (lv_at hl 2 rfl) ?_
    cases h
    rw [← hQ0]
    exact W.iret hx hb hr (fun t ht hW => ⟨⟨_, (), rfl, rfl, by dsimp only; rw [ht]; exact hH⟩, hS.F ht⟩) hS.2.2 d_PC_countedBelow_28
  have loop1 : ∀ (k : Nat) (σ : St) (v2 : Int32) (v3 : Int32) (H : Heap) (locs : List Loc) (ls : Array Slot), Hold D aC A ad n σ H → va_S A s.heap H locs → lv_has ls 4 [(0, .ref (ad 0 0)), (1, .int a1), (2, .int v2), (3, .int v3)] → lp (fun q => lb_PC_countedBelow_4 a1 q.1 q.2.1 q.2.2) k (σ, v2, v3) = some q1 → W p l e (headSpec w_PC_countedBelow rm_PC_countedBelow).room s m args below meth c H locs 0 0 Q0 (F0 m 4 ls []) := by
    intro k
    induction k with
    | zero => intro σ v2 v3 H locs ls hH hS hl hlp; exact absurd hlp (lp_zero _ _ _)
    | succ k ih1 =>
      intro σ v2 v3 H locs ls hH hS hl hlp
      obtain ⟨z1, h1, hk1⟩ := lp_succ hlp
      have h1 : lb_PC_countedBelow_4 a1 σ v2 v3 = some z1 := h1
      unfold lb_PC_countedBelow_4 at h1
      refine lv_iload_n hx hb d_PC_countedBelow_4 rfl (lv_at hl 3 rfl) ?_
      refine lv_iload_n hx hb d_PC_countedBelow_5 rfl (lv_at hl 1 rfl) ?_
      refine lv_icmp_ge (tgt := 27) hx hb d_PC_countedBelow_6 (by decide) (fun c6 => ?_) (fun c6 => ?_)
      · have h1 := it h1 c6
        cases h1
        exact K1 σ v2 v3 _ _ ls (Option.some.inj hk1).symm hH hS (lv_sub hl [0, 1, 2, 3] rfl)
      · have h1 := ie h1 c6
        refine lv_aload_n hx hb d_PC_countedBelow_9 rfl (lv_at hl 0 rfl) ?_
        refine st_get hx hb hg hown hK hH (f := 0) (i := 0) hd_0 rfl rfl u_PC 2 (by decide) (hg _ wd_67) (v := .ref (ad 2 0)) rfl d_PC_countedBelow_10 ?_
        refine lv_iload_n hx hb d_PC_countedBelow_13 rfl (lv_at hl 3 rfl) ?_
        obtain ⟨g14, h1⟩ := gd_some h1
        refine st_iald hx hb hK hH (f := 2) (i := 0) hd_2 rfl g14 d_PC_countedBelow_14 ?_
        refine lv_if_le (tgt := 21) hx hb d_PC_countedBelow_15 (by decide) (fun c15 => ?_) (fun c15 => ?_)
        · have h1 := it h1 c15
          obtain ⟨x1, ex1⟩ : ∃ y : Int32, y = v3 + 1 := ⟨_, rfl⟩
          have h1 := nm_at ex1 h1
          refine lv_iinc (v := x1) (lv' := [(3, .int x1), (0, .ref (ad 0 0)), (1, .int a1), (2, .int v2)]) hx hb d_PC_countedBelow_21 hl (k := 3) rfl (by rw [ex1]; rfl) (by decide) rfl (fun ls hl => ?_)
          refine lv_goto (tgt := 4) hx hb d_PC_countedBelow_24 (by decide) ?_
          cases h1
          exact ih1 σ v2 x1 _ _ ls hH hS (lv_sub hl [1, 2, 3, 0] rfl) hk1
        · have h1 := ie h1 c15
          obtain ⟨x2, ex2⟩ : ∃ y : Int32, y = v2 + 1 := ⟨_, rfl⟩
          have h1 := nm_at ex2 h1
          refine lv_iinc (v := x2) (lv' := [(2, .int x2), (0, .ref (ad 0 0)), (1, .int a1), (3, .int v3)]) hx hb d_PC_countedBelow_18 hl (k := 2) rfl (by rw [ex2]; rfl) (by decide) rfl (fun ls hl => ?_)
          obtain ⟨x3, ex3⟩ : ∃ y : Int32, y = v3 + 1 := ⟨_, rfl⟩
          have h1 := nm_at ex3 h1
          refine lv_iinc (v := x3) (lv' := [(3, .int x3), (2, .int x2), (0, .ref (ad 0 0)), (1, .int a1)]) hx hb d_PC_countedBelow_21 hl (k := 3) rfl (by rw [ex3]; rfl) (by decide) rfl (fun ls hl => ?_)
          refine lv_goto (tgt := 4) hx hb d_PC_countedBelow_24 (by decide) ?_
          cases h1
          exact ih1 σ x2 x3 _ _ ls hH hS (lv_sub hl [2, 3, 1, 0] rfl) hk1
  obtain ⟨k1, hq1⟩ := lpE_some hq1
  exact loop1 k1 σ 0 0 _ _ ls hH hS (lv_sub hl [2, 3, 1, 0] rfl) hq1
set_option maxHeartbeats 4000000 in
set_option maxRecDepth 100000 in
theorem c_PC_countText (l : Launch) (D : va_G) (aC : Nat → ClassId) (A : Nat → Prop) (ad : Nat → Nat → Nat) (n : Nat) (σ : St) (o : St × Int32) (h : f_PC_countText σ  = some o) : Met l y_PC_countText w_PC_countText rm_PC_countText (va_Pc [.ref (ad 0 0)] (Pre D aC A ad n σ)) (va_Qi (fun r (_ : Unit) => r = o.2) (fun _ t => Hold D aC A ad n o.1 t.heap) A) 0 0 A := by
  refine Met.ofW (cc := prog_1_method_7_code) (maxL := 1) (ret := (some .int)) (by decide) rfl ?_
  intro p e s m args below meth c s₁ B hml hv
  obtain ⟨hargs, hH, hK, hZ⟩ := hv
  have hx := B.exec
  have hb := B.bytes
  have hr := B.returns
  have hts := atoms_spec (ws := w_PC_countText) B.pre
  have hg : ∀ w ∈ gW, w.before args s = true := fun w h => hts w (List.mem_cons_of_mem _ h)
  have hown : s.vm.findClass "PrefixCodes" = some m.cls := findClass_of_methodNamed B.named
  have hlocks := B.notSynchronized
  have hS : va_S A s.heap s.heap [] := va_S.rf
  have hl := lv_entry ([.ref (ad 0 0)]) (n := 1) (Nat.le_of_ble_eq_true rfl)
  rw [show entryFrame m args 1 = entryFrame m (([.ref (ad 0 0)] : List Value).toArray) 1 by rw [hargs], lg_entry_eq]
  generalize (lg_sl ([.ref (ad 0 0)]) ++ List.replicate (1 - (lg_sl ([.ref (ad 0 0)])).length) Slot.unset).toArray = ls at hl ⊢
  have hl : lv_has ls 1 [(0, .ref (ad 0 0))] := hl
  generalize hQ0 : MQ below (va_Qi (fun r (_ : Unit) => r = o.2) (fun _ t => Hold D aC A ad n o.1 t.heap) A) args s 0 0 A = Q0
  unfold f_PC_countText at h
  refine lv_aload_n hx hb d_PC_countText_0 rfl (lv_at hl 0 rfl) ?_
  refine st_get hx hb hg hown hK hH (f := 0) (i := 0) hd_0 rfl rfl u_PC 7 (by decide) (hg _ wd_71) (v := .ref (ad 26 0)) rfl d_PC_countText_1 ?_
  refine lv_aload_n hx hb d_PC_countText_4 rfl (lv_at hl 0 rfl) ?_
  refine st_get hx hb hg hown hK hH (f := 0) (i := 0) hd_0 rfl rfl u_PC 2 (by decide) (hg _ wd_67) (v := .ref (ad 2 0)) rfl d_PC_countText_5 ?_
  obtain ⟨qc, hc8, h⟩ := b1_some h
  obtain ⟨σ1, rfl⟩ : ∃ z, z = qc := ⟨_, rfl⟩
  have h := b1_at h
  refine st_Vv (As := [.ref (ad 2 0)]) (rest := []) ⟨hx, hb, hml, hown, hg⟩ (c_Text_tally l D aC A ad n _ 2 0 64 rfl hd_2 _ hc8) (cwG hg wd_72 wd_73 wd_75 wd_76 wd_74 yd_Text_tally ⟨Nat.le_of_ble_eq_true rfl, Nat.le_of_ble_eq_true rfl⟩) hK hH hS hZ hd_26 rfl rfl rfl hl.1 rfl (Nat.le_of_ble_eq_true rfl) d_PC_countText_8 ⟨Nat.zero_le _, Nat.zero_le _⟩ (fun H locs hH hS => ?_)
  refine lv_aload_n hx hb d_PC_countText_11 rfl (lv_at hl 0 rfl) ?_
  refine lv_bipush (v := 64) hx hb d_PC_countText_12 (by decide) ?_
  obtain ⟨qc, hc14, h⟩ := b2_some h
  obtain ⟨σ2, x3⟩ := qc
  have h := b2_at h
  refine st_Vi (As := [.int 64]) (rest := []) ⟨hx, hb, hml, hown, hg⟩ (c_PC_countedBelow l D aC A ad n _ 64 _ hc14) (cwG hg wd_77 wd_78 wd_79 wd_80 wd_4 yd_PC_countedBelow ⟨Nat.le_of_ble_eq_true rfl, Nat.le_of_ble_eq_true rfl⟩) hK hH hS hZ hd_0 rfl rfl rfl hl.1 rfl (Nat.le_of_ble_eq_true rfl) d_PC_countText_14 ⟨Nat.zero_le _, Nat.zero_le _⟩ (fun H locs hH hS => ?_)
  cases h
  rw [← hQ0]
  exact W.iret hx hb hr (fun t ht hW => ⟨⟨_, (), rfl, rfl, by dsimp only; rw [ht]; exact hH⟩, hS.F ht⟩) hS.2.2 d_PC_countText_17
set_option maxHeartbeats 4000000 in
set_option maxRecDepth 100000 in
theorem c_Packages_insert (l : Launch) (D : va_G) (aC : Nat → ClassId) (A : Nat → Prop) (ad : Nat → Nat → Nat) (n : Nat) (σ : St) (a1 : Int32) (a2 : Int32) (o : St) (h : f_Packages_insert σ a1 a2 = some o) : Met l y_Packages_insert w_Packages_insert rm_Packages_insert (va_Pc [.ref (ad 5 0), .int a1, .int a2] (Pre D aC A ad n σ)) (va_Qv (fun (_ : Unit) => True) (fun _ t => Hold D aC A ad n o t.heap) A) 0 0 A := by
  refine Met.ofW (cc := prog_6_method_4_code) (maxL := 4) (ret := none) (by decide) rfl ?_
  intro p e s m args below meth c s₁ B hml hv
  obtain ⟨hargs, hH, hK, hZ⟩ := hv
  have hx := B.exec
  have hb := B.bytes
  have hr := B.returns
  have hts := atoms_spec (ws := w_Packages_insert) B.pre
  have hg : ∀ w ∈ gW, w.before args s = true := fun w h => hts w (List.mem_cons_of_mem _ h)
  have hown : s.vm.findClass "PrefixCodes$Packages" = some m.cls := findClass_of_methodNamed B.named
  have hlocks := B.notSynchronized
  have hS : va_S A s.heap s.heap [] := va_S.rf
  have hl := lv_entry ([.ref (ad 5 0), .int a1, .int a2]) (n := 4) (Nat.le_of_ble_eq_true rfl)
  rw [show entryFrame m args 4 = entryFrame m (([.ref (ad 5 0), .int a1, .int a2] : List Value).toArray) 4 by rw [hargs], lg_entry_eq]
  generalize (lg_sl ([.ref (ad 5 0), .int a1, .int a2]) ++ List.replicate (4 - (lg_sl ([.ref (ad 5 0), .int a1, .int a2])).length) Slot.unset).toArray = ls at hl ⊢
  have hl : lv_has ls 4 [(0, .ref (ad 5 0)), (1, .int a1), (2, .int a2)] := hl
  generalize hQ0 : MQ below (va_Qv (fun (_ : Unit) => True) (fun _ t => Hold D aC A ad n o t.heap) A) args s 0 0 A = Q0
  unfold f_Packages_insert at h
  refine lv_aload_n hx hb d_Packages_insert_0 rfl (lv_at hl 0 rfl) ?_
  refine st_get hx hb hg hown hK hH (f := 5) (i := 0) hd_5 rfl rfl u_Packages 2 (by decide) (hg _ wd_81) (v := .int (σ.1 5 0 2)) rfl d_Packages_insert_1 ?_
  refine lv_topi (fun x1 ex1 => ?_)
  have h := nm_at ex1 h
  refine lv_istore_n (lv' := [(3, .int x1), (0, .ref (ad 5 0)), (1, .int a1), (2, .int a2)]) hx hb d_Packages_insert_4 rfl hl (by decide) rfl (fun ls hl => ?_)
  obtain ⟨q1, hq1, h⟩ := b2_some h
  have K1 : ∀ (σ5 : St) (x6 : Int32) (H : Heap) (locs : List Loc) (ls : Array Slot), q1 = (σ5, x6) → Hold D aC A ad n σ5 H → va_S A s.heap H locs → lv_has ls 4 [(0, .ref (ad 5 0)), (1, .int a1), (2, .int a2), (3, .int x6)] → W p l e (headSpec w_Packages_insert rm_Packages_insert).room s m args below meth c H locs 0 0 Q0 (F0 m 55 ls []) := by
    intro σ5 x6 H locs ls eq1 hH hS hl
    subst eq1
    have h := b2_at h
    refine lv_aload_n hx hb d_Packages_insert_55 rfl (lv_at hl 0 rfl) ?_
    refine st_get hx hb hg hown hK hH (f := 5) (i := 0) hd_5 rfl rfl u_Packages 0 (by decide) (hg _ wd_83) (v := .ref (ad 6 0)) rfl d_Packages_insert_56 ?_
    refine lv_iload_n hx hb d_Packages_insert_59 rfl (lv_at hl 3 rfl) ?_
    refine lv_iload_n hx hb d_Packages_insert_60 rfl (lv_at hl 1 rfl) ?_
    obtain ⟨g61, h⟩ := gd_some h
    refine st_iast hx hb hK hH hS (f := 6) (i := 0) hd_6 rfl g61 d_Packages_insert_61 (fun σ7 H locs eσ7 hH hS => ?_)
    have h := nm_at eσ7 h
    refine lv_aload_n hx hb d_Packages_insert_62 rfl (lv_at hl 0 rfl) ?_
    refine st_get hx hb hg hown hK hH (f := 5) (i := 0) hd_5 rfl rfl u_Packages 1 (by decide) (hg _ wd_82) (v := .ref (ad 7 0)) rfl d_Packages_insert_63 ?_
    refine lv_iload_n hx hb d_Packages_insert_66 rfl (lv_at hl 3 rfl) ?_
    refine lv_iload_n hx hb d_Packages_insert_67 rfl (lv_at hl 2 rfl) ?_
    obtain ⟨g68, h⟩ := gd_some h
    refine st_iast hx hb hK hH hS (f := 7) (i := 0) hd_7 rfl g68 d_Packages_insert_68 (fun σ8 H locs eσ8 hH hS => ?_)
    have h := nm_at eσ8 h
    refine lv_aload_n hx hb d_Packages_insert_69 rfl (lv_at hl 0 rfl) ?_
    refine lv_dup hx hb d_Packages_insert_70 rfl ?_
    refine st_get hx hb hg hown hK hH (f := 5) (i := 0) hd_5 rfl rfl u_Packages 2 (by decide) (hg _ wd_81) (v := .int (σ8.1 5 0 2)) rfl d_Packages_insert_71 ?_
    refine lv_iconst (v := 1) hx hb d_Packages_insert_74 (by decide) ?_
    refine lv_iadd hx hb d_Packages_insert_75 ?_
    refine st_put hx hb hg hown hK hH hS (f := 5) (i := 0) hd_5 rfl rfl u_Packages t_Packages t_Packages_ok n_Packages 2 (by decide) (hg _ wd_81) rfl rfl rfl d_Packages_insert_76 (fun σ9 H locs eσ9 hH hS => ?_)
    have h := nm_at eσ9 h
    cases h
    rw [← hQ0]
    exact W.vret hx hb hr (fun t ht hW => ⟨⟨(), rfl, trivial, by dsimp only; rw [ht]; exact hH⟩, hS.F ht⟩) hS.2.2 d_Packages_insert_79
  have loop1 : ∀ (k : Nat) (σ : St) (v3 : Int32) (H : Heap) (locs : List Loc) (ls : Array Slot), Hold D aC A ad n σ H → va_S A s.heap H locs → lv_has ls 4 [(0, .ref (ad 5 0)), (1, .int a1), (2, .int a2), (3, .int v3)] → lp (fun q => lb_Packages_insert_5 a1 a2 q.1 q.2) k (σ, v3) = some q1 → W p l e (headSpec w_Packages_insert rm_Packages_insert).room s m args below meth c H locs 0 0 Q0 (F0 m 5 ls []) := by
    intro k
    induction k with
    | zero => intro σ v3 H locs ls hH hS hl hlp; exact absurd hlp (lp_zero _ _ _)
    | succ k ih1 =>
      intro σ v3 H locs ls hH hS hl hlp
      obtain ⟨z1, h1, hk1⟩ := lp_succ hlp
      have h1 : lb_Packages_insert_5 a1 a2 σ v3 = some z1 := h1
      unfold lb_Packages_insert_5 at h1
      refine lv_iload_n hx hb d_Packages_insert_5 rfl (lv_at hl 3 rfl) ?_
      refine lv_if_le (tgt := 55) hx hb d_Packages_insert_6 (by decide) (fun c6 => ?_) (fun c6 => ?_)
      · have h1 := it h1 c6
        cases h1
        exact K1 σ v3 _ _ ls (Option.some.inj hk1).symm hH hS (lv_sub hl [0, 1, 2, 3] rfl)
      · have h1 := ie h1 c6
        refine lv_aload_n hx hb d_Packages_insert_9 rfl (lv_at hl 0 rfl) ?_
        refine st_get hx hb hg hown hK hH (f := 5) (i := 0) hd_5 rfl rfl u_Packages 1 (by decide) (hg _ wd_82) (v := .ref (ad 7 0)) rfl d_Packages_insert_10 ?_
        refine lv_iload_n hx hb d_Packages_insert_13 rfl (lv_at hl 3 rfl) ?_
        refine lv_iconst (v := 1) hx hb d_Packages_insert_14 (by decide) ?_
        refine lv_isub hx hb d_Packages_insert_15 ?_
        obtain ⟨g16, h1⟩ := gd_some h1
        refine st_iald hx hb hK hH (f := 7) (i := 0) hd_7 rfl g16 d_Packages_insert_16 ?_
        refine lv_iload_n hx hb d_Packages_insert_17 rfl (lv_at hl 2 rfl) ?_
        refine lv_icmp_le (tgt := 55) hx hb d_Packages_insert_18 (by decide) (fun c18 => ?_) (fun c18 => ?_)
        · have h1 := it h1 c18
          cases h1
          exact K1 σ v3 _ _ ls (Option.some.inj hk1).symm hH hS (lv_sub hl [0, 1, 2, 3] rfl)
        · have h1 := ie h1 c18
          refine lv_aload_n hx hb d_Packages_insert_21 rfl (lv_at hl 0 rfl) ?_
          refine st_get hx hb hg hown hK hH (f := 5) (i := 0) hd_5 rfl rfl u_Packages 0 (by decide) (hg _ wd_83) (v := .ref (ad 6 0)) rfl d_Packages_insert_22 ?_
          refine lv_iload_n hx hb d_Packages_insert_25 rfl (lv_at hl 3 rfl) ?_
          refine lv_aload_n hx hb d_Packages_insert_26 rfl (lv_at hl 0 rfl) ?_
          refine st_get hx hb hg hown hK hH (f := 5) (i := 0) hd_5 rfl rfl u_Packages 0 (by decide) (hg _ wd_83) (v := .ref (ad 6 0)) rfl d_Packages_insert_27 ?_
          refine lv_iload_n hx hb d_Packages_insert_30 rfl (lv_at hl 3 rfl) ?_
          refine lv_iconst (v := 1) hx hb d_Packages_insert_31 (by decide) ?_
          refine lv_isub hx hb d_Packages_insert_32 ?_
          obtain ⟨g33, h1⟩ := gd_some h1
          refine st_iald hx hb hK hH (f := 6) (i := 0) hd_6 rfl g33 d_Packages_insert_33 ?_
          obtain ⟨g34, h1⟩ := gd_some h1
          refine st_iast hx hb hK hH hS (f := 6) (i := 0) hd_6 rfl g34 d_Packages_insert_34 (fun σ2 H locs eσ2 hH hS => ?_)
          have h1 := nm_at eσ2 h1
          refine lv_aload_n hx hb d_Packages_insert_35 rfl (lv_at hl 0 rfl) ?_
          refine st_get hx hb hg hown hK hH (f := 5) (i := 0) hd_5 rfl rfl u_Packages 1 (by decide) (hg _ wd_82) (v := .ref (ad 7 0)) rfl d_Packages_insert_36 ?_
          refine lv_iload_n hx hb d_Packages_insert_39 rfl (lv_at hl 3 rfl) ?_
          refine lv_aload_n hx hb d_Packages_insert_40 rfl (lv_at hl 0 rfl) ?_
          refine st_get hx hb hg hown hK hH (f := 5) (i := 0) hd_5 rfl rfl u_Packages 1 (by decide) (hg _ wd_82) (v := .ref (ad 7 0)) rfl d_Packages_insert_41 ?_
          refine lv_iload_n hx hb d_Packages_insert_44 rfl (lv_at hl 3 rfl) ?_
          refine lv_iconst (v := 1) hx hb d_Packages_insert_45 (by decide) ?_
          refine lv_isub hx hb d_Packages_insert_46 ?_
          obtain ⟨g47, h1⟩ := gd_some h1
          refine st_iald hx hb hK hH (f := 7) (i := 0) hd_7 rfl g47 d_Packages_insert_47 ?_
          obtain ⟨g48, h1⟩ := gd_some h1
          refine st_iast hx hb hK hH hS (f := 7) (i := 0) hd_7 rfl g48 d_Packages_insert_48 (fun σ3 H locs eσ3 hH hS => ?_)
          have h1 := nm_at eσ3 h1
          obtain ⟨x4, ex4⟩ : ∃ y : Int32, y = v3 + (-1) := ⟨_, rfl⟩
          have h1 := nm_at ex4 h1
          refine lv_iinc (v := x4) (lv' := [(3, .int x4), (0, .ref (ad 5 0)), (1, .int a1), (2, .int a2)]) hx hb d_Packages_insert_49 hl (k := 3) rfl (by rw [ex4]; rfl) (by decide) rfl (fun ls hl => ?_)
          refine lv_goto (tgt := 5) hx hb d_Packages_insert_52 (by decide) ?_
          cases h1
          exact ih1 σ3 x4 _ _ ls hH hS (lv_sub hl [1, 2, 3, 0] rfl) hk1
  obtain ⟨k1, hq1⟩ := lpE_some hq1
  exact loop1 k1 σ x1 _ _ ls hH hS (lv_sub hl [1, 2, 3, 0] rfl) hq1
set_option maxHeartbeats 4000000 in
set_option maxRecDepth 100000 in
theorem c_Packages_order (l : Launch) (D : va_G) (aC : Nat → ClassId) (A : Nat → Prop) (ad : Nat → Nat → Nat) (n : Nat) (σ : St) (fa1 ia1 na1 : Nat) (a2 : Int32) (hka1 : kd fa1 = .inr (0, na1)) (hda1 : dm n fa1 ia1) (o : St) (h : f_Packages_order σ fa1 ia1 na1 a2 = some o) : Met l y_Packages_order w_Packages_order rm_Packages_order (va_Pc [.ref (ad 5 0), .ref (ad fa1 ia1), .int a2] (Pre D aC A ad n σ)) (va_Qv (fun (_ : Unit) => True) (fun _ t => Hold D aC A ad n o t.heap) A) 0 0 A := by
  refine Met.ofW (cc := prog_6_method_3_code) (maxL := 4) (ret := none) (by decide) rfl ?_
  intro p e s m args below meth c s₁ B hml hv
  obtain ⟨hargs, hH, hK, hZ⟩ := hv
  have hx := B.exec
  have hb := B.bytes
  have hr := B.returns
  have hts := atoms_spec (ws := w_Packages_order) B.pre
  have hg : ∀ w ∈ gW, w.before args s = true := fun w h => hts w (List.mem_cons_of_mem _ h)
  have hown : s.vm.findClass "PrefixCodes$Packages" = some m.cls := findClass_of_methodNamed B.named
  have hlocks := B.notSynchronized
  have hS : va_S A s.heap s.heap [] := va_S.rf
  have hl := lv_entry ([.ref (ad 5 0), .ref (ad fa1 ia1), .int a2]) (n := 4) (Nat.le_of_ble_eq_true rfl)
  rw [show entryFrame m args 4 = entryFrame m (([.ref (ad 5 0), .ref (ad fa1 ia1), .int a2] : List Value).toArray) 4 by rw [hargs], lg_entry_eq]
  generalize (lg_sl ([.ref (ad 5 0), .ref (ad fa1 ia1), .int a2]) ++ List.replicate (4 - (lg_sl ([.ref (ad 5 0), .ref (ad fa1 ia1), .int a2])).length) Slot.unset).toArray = ls at hl ⊢
  have hl : lv_has ls 4 [(0, .ref (ad 5 0)), (1, .ref (ad fa1 ia1)), (2, .int a2)] := hl
  generalize hQ0 : MQ below (va_Qv (fun (_ : Unit) => True) (fun _ t => Hold D aC A ad n o t.heap) A) args s 0 0 A = Q0
  unfold f_Packages_order at h
  refine lv_aload_n hx hb d_Packages_order_0 rfl (lv_at hl 0 rfl) ?_
  refine lv_iconst (v := 0) hx hb d_Packages_order_1 (by decide) ?_
  refine st_put hx hb hg hown hK hH hS (f := 5) (i := 0) hd_5 rfl rfl u_Packages t_Packages t_Packages_ok n_Packages 2 (by decide) (hg _ wd_81) rfl rfl rfl d_Packages_order_2 (fun σ1 H locs eσ1 hH hS => ?_)
  have h := nm_at eσ1 h
  refine lv_iconst (v := 0) hx hb d_Packages_order_5 (by decide) ?_
  refine lv_istore_n (lv' := [(3, .int 0), (0, .ref (ad 5 0)), (1, .ref (ad fa1 ia1)), (2, .int a2)]) hx hb d_Packages_order_6 rfl hl (by decide) rfl (fun ls hl => ?_)
  obtain ⟨q1, hq1, h⟩ := b2_some h
  have K1 : ∀ (σ5 : St) (x6 : Int32) (H : Heap) (locs : List Loc) (ls : Array Slot), q1 = (σ5, x6) → Hold D aC A ad n σ5 H → va_S A s.heap H locs → lv_has ls 4 [(0, .ref (ad 5 0)), (1, .ref (ad fa1 ia1)), (2, .int a2), (3, .int x6)] → W p l e (headSpec w_Packages_order rm_Packages_order).room s m args below meth c H locs 0 0 Q0 (F0 m 32 ls []) := by
    intro σ5 x6 H locs ls eq1 hH hS hl
    subst eq1
    have h := b2_at h
    cases h
    rw [← hQ0]
    exact W.vret hx hb hr (fun t ht hW => ⟨⟨(), rfl, trivial, by dsimp only; rw [ht]; exact hH⟩, hS.F ht⟩) hS.2.2 d_Packages_order_32
  have loop1 : ∀ (k : Nat) (σ : St) (v3 : Int32) (H : Heap) (locs : List Loc) (ls : Array Slot), Hold D aC A ad n σ H → va_S A s.heap H locs → lv_has ls 4 [(0, .ref (ad 5 0)), (1, .ref (ad fa1 ia1)), (2, .int a2), (3, .int v3)] → lp (fun q => lb_Packages_order_7 fa1 ia1 na1 a2 q.1 q.2) k (σ, v3) = some q1 → W p l e (headSpec w_Packages_order rm_Packages_order).room s m args below meth c H locs 0 0 Q0 (F0 m 7 ls []) := by
    intro k
    induction k with
    | zero => intro σ v3 H locs ls hH hS hl hlp; exact absurd hlp (lp_zero _ _ _)
    | succ k ih1 =>
      intro σ v3 H locs ls hH hS hl hlp
      obtain ⟨z1, h1, hk1⟩ := lp_succ hlp
      have h1 : lb_Packages_order_7 fa1 ia1 na1 a2 σ v3 = some z1 := h1
      unfold lb_Packages_order_7 at h1
      refine lv_iload_n hx hb d_Packages_order_7 rfl (lv_at hl 3 rfl) ?_
      refine lv_iload_n hx hb d_Packages_order_8 rfl (lv_at hl 2 rfl) ?_
      refine lv_icmp_ge (tgt := 32) hx hb d_Packages_order_9 (by decide) (fun c9 => ?_) (fun c9 => ?_)
      · have h1 := it h1 c9
        cases h1
        exact K1 σ v3 _ _ ls (Option.some.inj hk1).symm hH hS (lv_sub hl [0, 1, 2, 3] rfl)
      · have h1 := ie h1 c9
        refine lv_aload_n hx hb d_Packages_order_12 rfl (lv_at hl 1 rfl) ?_
        refine lv_iload_n hx hb d_Packages_order_13 rfl (lv_at hl 3 rfl) ?_
        obtain ⟨g14, h1⟩ := gd_some h1
        refine st_iald hx hb hK hH (f := fa1) (i := ia1) hda1 hka1 g14 d_Packages_order_14 ?_
        refine lv_if_le (tgt := 26) hx hb d_Packages_order_15 (by decide) (fun c15 => ?_) (fun c15 => ?_)
        · have h1 := it h1 c15
          obtain ⟨x2, ex2⟩ : ∃ y : Int32, y = v3 + 1 := ⟨_, rfl⟩
          have h1 := nm_at ex2 h1
          refine lv_iinc (v := x2) (lv' := [(3, .int x2), (0, .ref (ad 5 0)), (1, .ref (ad fa1 ia1)), (2, .int a2)]) hx hb d_Packages_order_26 hl (k := 3) rfl (by rw [ex2]; rfl) (by decide) rfl (fun ls hl => ?_)
          refine lv_goto (tgt := 7) hx hb d_Packages_order_29 (by decide) ?_
          cases h1
          exact ih1 σ x2 _ _ ls hH hS (lv_sub hl [1, 2, 3, 0] rfl) hk1
        · have h1 := ie h1 c15
          refine lv_aload_n hx hb d_Packages_order_18 rfl (lv_at hl 0 rfl) ?_
          refine lv_iload_n hx hb d_Packages_order_19 rfl (lv_at hl 3 rfl) ?_
          refine lv_aload_n hx hb d_Packages_order_20 rfl (lv_at hl 1 rfl) ?_
          refine lv_iload_n hx hb d_Packages_order_21 rfl (lv_at hl 3 rfl) ?_
          obtain ⟨g22, h1⟩ := gd_some h1
          refine st_iald hx hb hK hH (f := fa1) (i := ia1) hda1 hka1 g22 d_Packages_order_22 ?_
          obtain ⟨qc, hc23, h1⟩ := b1_some h1
          obtain ⟨σ3, rfl⟩ : ∃ z, z = qc := ⟨_, rfl⟩
          have h1 := b1_at h1
          refine st_Vv (As := [.int v3, .int (σ.1 fa1 ia1 v3.toNatClampNeg)]) (rest := []) ⟨hx, hb, hml, hown, hg⟩ (c_Packages_insert l D aC A ad n _ v3 (σ.1 fa1 ia1 v3.toNatClampNeg) _ hc23) (cwG hg wd_84 wd_85 wd_87 wd_88 wd_86 yd_Packages_insert ⟨Nat.le_of_ble_eq_true rfl, Nat.le_of_ble_eq_true rfl⟩) hK hH hS hZ hd_5 rfl rfl rfl hl.1 rfl (Nat.le_of_ble_eq_true rfl) d_Packages_order_23 ⟨Nat.zero_le _, Nat.zero_le _⟩ (fun H locs hH hS => ?_)
          obtain ⟨x4, ex4⟩ : ∃ y : Int32, y = v3 + 1 := ⟨_, rfl⟩
          have h1 := nm_at ex4 h1
          refine lv_iinc (v := x4) (lv' := [(3, .int x4), (0, .ref (ad 5 0)), (1, .ref (ad fa1 ia1)), (2, .int a2)]) hx hb d_Packages_order_26 hl (k := 3) rfl (by rw [ex4]; rfl) (by decide) rfl (fun ls hl => ?_)
          refine lv_goto (tgt := 7) hx hb d_Packages_order_29 (by decide) ?_
          cases h1
          exact ih1 σ3 x4 _ _ ls hH hS (lv_sub hl [1, 2, 3, 0] rfl) hk1
  obtain ⟨k1, hq1⟩ := lpE_some hq1
  exact loop1 k1 σ1 0 _ _ ls hH hS (lv_sub hl [1, 2, 3, 0] rfl) hq1
set_option maxHeartbeats 4000000 in
set_option maxRecDepth 100000 in
theorem c_Packages_makeFirstRow (l : Launch) (D : va_G) (aC : Nat → ClassId) (A : Nat → Prop) (ad : Nat → Nat → Nat) (n : Nat) (σ : St) (o : St) (h : f_Packages_makeFirstRow σ  = some o) : Met l y_Packages_makeFirstRow w_Packages_makeFirstRow rm_Packages_makeFirstRow (va_Pc [.ref (ad 5 0)] (Pre D aC A ad n σ)) (va_Qv (fun (_ : Unit) => True) (fun _ t => Hold D aC A ad n o t.heap) A) 0 0 A := by
  refine Met.ofW (cc := prog_6_method_5_code) (maxL := 2) (ret := none) (by decide) rfl ?_
  intro p e s m args below meth c s₁ B hml hv
  obtain ⟨hargs, hH, hK, hZ⟩ := hv
  have hx := B.exec
  have hb := B.bytes
  have hr := B.returns
  have hts := atoms_spec (ws := w_Packages_makeFirstRow) B.pre
  have hg : ∀ w ∈ gW, w.before args s = true := fun w h => hts w (List.mem_cons_of_mem _ h)
  have hown : s.vm.findClass "PrefixCodes$Packages" = some m.cls := findClass_of_methodNamed B.named
  have hlocks := B.notSynchronized
  have hS : va_S A s.heap s.heap [] := va_S.rf
  have hl := lv_entry ([.ref (ad 5 0)]) (n := 2) (Nat.le_of_ble_eq_true rfl)
  rw [show entryFrame m args 2 = entryFrame m (([.ref (ad 5 0)] : List Value).toArray) 2 by rw [hargs], lg_entry_eq]
  generalize (lg_sl ([.ref (ad 5 0)]) ++ List.replicate (2 - (lg_sl ([.ref (ad 5 0)])).length) Slot.unset).toArray = ls at hl ⊢
  have hl : lv_has ls 2 [(0, .ref (ad 5 0))] := hl
  generalize hQ0 : MQ below (va_Qv (fun (_ : Unit) => True) (fun _ t => Hold D aC A ad n o t.heap) A) args s 0 0 A = Q0
  unfold f_Packages_makeFirstRow at h
  refine lv_aload_n hx hb d_Packages_makeFirstRow_0 rfl (lv_at hl 0 rfl) ?_
  refine st_get hx hb hg hown hK hH (f := 5) (i := 0) hd_5 rfl rfl u_Packages 4 (by decide) (hg _ wd_89) (v := .ref (ad 10 0)) rfl d_Packages_makeFirstRow_1 ?_
  refine lv_iconst (v := 0) hx hb d_Packages_makeFirstRow_4 (by decide) ?_
  refine lv_aload_n hx hb d_Packages_makeFirstRow_5 rfl (lv_at hl 0 rfl) ?_
  refine st_get hx hb hg hown hK hH (f := 5) (i := 0) hd_5 rfl rfl u_Packages 2 (by decide) (hg _ wd_81) (v := .int (σ.1 5 0 2)) rfl d_Packages_makeFirstRow_6 ?_
  obtain ⟨g9, h⟩ := gd_some h
  refine st_iast hx hb hK hH hS (f := 10) (i := 0) hd_10 rfl g9 d_Packages_makeFirstRow_9 (fun σ1 H locs eσ1 hH hS => ?_)
  have h := nm_at eσ1 h
  refine lv_iconst (v := 0) hx hb d_Packages_makeFirstRow_10 (by decide) ?_
  refine lv_istore_n (lv' := [(1, .int 0), (0, .ref (ad 5 0))]) hx hb d_Packages_makeFirstRow_11 rfl hl (by decide) rfl (fun ls hl => ?_)
  obtain ⟨q1, hq1, h⟩ := b2_some h
  have K1 : ∀ (σ7 : St) (x8 : Int32) (H : Heap) (locs : List Loc) (ls : Array Slot), q1 = (σ7, x8) → Hold D aC A ad n σ7 H → va_S A s.heap H locs → lv_has ls 2 [(0, .ref (ad 5 0)), (1, .int x8)] → W p l e (headSpec w_Packages_makeFirstRow rm_Packages_makeFirstRow).room s m args below meth c H locs 0 0 Q0 (F0 m 50 ls []) := by
    intro σ7 x8 H locs ls eq1 hH hS hl
    subst eq1
    have h := b2_at h
    cases h
    rw [← hQ0]
    exact W.vret hx hb hr (fun t ht hW => ⟨⟨(), rfl, trivial, by dsimp only; rw [ht]; exact hH⟩, hS.F ht⟩) hS.2.2 d_Packages_makeFirstRow_50
  have loop1 : ∀ (k : Nat) (σ : St) (v1 : Int32) (H : Heap) (locs : List Loc) (ls : Array Slot), Hold D aC A ad n σ H → va_S A s.heap H locs → lv_has ls 2 [(0, .ref (ad 5 0)), (1, .int v1)] → lp (fun q => lb_Packages_makeFirstRow_12 q.1 q.2) k (σ, v1) = some q1 → W p l e (headSpec w_Packages_makeFirstRow rm_Packages_makeFirstRow).room s m args below meth c H locs 0 0 Q0 (F0 m 12 ls []) := by
    intro k
    induction k with
    | zero => intro σ v1 H locs ls hH hS hl hlp; exact absurd hlp (lp_zero _ _ _)
    | succ k ih1 =>
      intro σ v1 H locs ls hH hS hl hlp
      obtain ⟨z1, h1, hk1⟩ := lp_succ hlp
      have h1 : lb_Packages_makeFirstRow_12 σ v1 = some z1 := h1
      unfold lb_Packages_makeFirstRow_12 at h1
      refine lv_iload_n hx hb d_Packages_makeFirstRow_12 rfl (lv_at hl 1 rfl) ?_
      refine lv_aload_n hx hb d_Packages_makeFirstRow_13 rfl (lv_at hl 0 rfl) ?_
      refine st_get hx hb hg hown hK hH (f := 5) (i := 0) hd_5 rfl rfl u_Packages 2 (by decide) (hg _ wd_81) (v := .int (σ.1 5 0 2)) rfl d_Packages_makeFirstRow_14 ?_
      refine lv_icmp_ge (tgt := 50) hx hb d_Packages_makeFirstRow_17 (by decide) (fun c17 => ?_) (fun c17 => ?_)
      · have h1 := it h1 c17
        cases h1
        exact K1 σ v1 _ _ ls (Option.some.inj hk1).symm hH hS (lv_sub hl [0, 1] rfl)
      · have h1 := ie h1 c17
        refine lv_aload_n hx hb d_Packages_makeFirstRow_20 rfl (lv_at hl 0 rfl) ?_
        refine st_get hx hb hg hown hK hH (f := 5) (i := 0) hd_5 rfl rfl u_Packages 3 (by decide) (hg _ wd_90) (v := .ref (ad 8 0)) rfl d_Packages_makeFirstRow_21 ?_
        refine lv_iconst (v := 0) hx hb d_Packages_makeFirstRow_24 (by decide) ?_
        obtain ⟨g25, h1⟩ := gd_some h1
        obtain ⟨j2, c25, h1⟩ := on_some h1
        refine st_aald hx hb hK hH (f := 8) (i := 0) hd_8 rfl (by decide) g25 d_Packages_makeFirstRow_25 c25 (fun hdj2 => ?_)
        refine lv_iload_n hx hb d_Packages_makeFirstRow_26 rfl (lv_at hl 1 rfl) ?_
        refine lv_aload_n hx hb d_Packages_makeFirstRow_27 rfl (lv_at hl 0 rfl) ?_
        refine st_get hx hb hg hown hK hH (f := 5) (i := 0) hd_5 rfl rfl u_Packages 1 (by decide) (hg _ wd_82) (v := .ref (ad 7 0)) rfl d_Packages_makeFirstRow_28 ?_
        refine lv_iload_n hx hb d_Packages_makeFirstRow_31 rfl (lv_at hl 1 rfl) ?_
        obtain ⟨g32, h1⟩ := gd_some h1
        refine st_iald hx hb hK hH (f := 7) (i := 0) hd_7 rfl g32 d_Packages_makeFirstRow_32 ?_
        refine lv_i2l hx hb d_Packages_makeFirstRow_33 rfl ?_
        obtain ⟨g34, h1⟩ := gd_some h1
        refine st_last hx hb hK hH hS (f := 9) (i := j2) hdj2 rfl g34 d_Packages_makeFirstRow_34 (fun σ3 H locs eσ3 hH hS => ?_)
        have h1 := nm_at eσ3 h1
        refine lv_aload_n hx hb d_Packages_makeFirstRow_35 rfl (lv_at hl 0 rfl) ?_
        refine st_get hx hb hg hown hK hH (f := 5) (i := 0) hd_5 rfl rfl u_Packages 5 (by decide) (hg _ wd_91) (v := .ref (ad 11 0)) rfl d_Packages_makeFirstRow_36 ?_
        refine lv_iconst (v := 0) hx hb d_Packages_makeFirstRow_39 (by decide) ?_
        obtain ⟨g40, h1⟩ := gd_some h1
        obtain ⟨j4, c40, h1⟩ := on_some h1
        refine st_aald hx hb hK hH (f := 11) (i := 0) hd_11 rfl (by decide) g40 d_Packages_makeFirstRow_40 c40 (fun hdj4 => ?_)
        refine lv_iload_n hx hb d_Packages_makeFirstRow_41 rfl (lv_at hl 1 rfl) ?_
        refine lv_iconst (v := 1) hx hb d_Packages_makeFirstRow_42 (by decide) ?_
        obtain ⟨g43, h1⟩ := gd_some h1
        refine st_iast hx hb hK hH hS (f := 12) (i := j4) hdj4 rfl g43 d_Packages_makeFirstRow_43 (fun σ5 H locs eσ5 hH hS => ?_)
        have h1 := nm_at eσ5 h1
        obtain ⟨x6, ex6⟩ : ∃ y : Int32, y = v1 + 1 := ⟨_, rfl⟩
        have h1 := nm_at ex6 h1
        refine lv_iinc (v := x6) (lv' := [(1, .int x6), (0, .ref (ad 5 0))]) hx hb d_Packages_makeFirstRow_44 hl (k := 1) rfl (by rw [ex6]; rfl) (by decide) rfl (fun ls hl => ?_)
        refine lv_goto (tgt := 12) hx hb d_Packages_makeFirstRow_47 (by decide) ?_
        cases h1
        exact ih1 σ5 x6 _ _ ls hH hS (lv_sub hl [1, 0] rfl) hk1
  obtain ⟨k1, hq1⟩ := lpE_some hq1
  exact loop1 k1 σ1 0 _ _ ls hH hS (lv_sub hl [1, 0] rfl) hq1
