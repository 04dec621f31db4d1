theorem d_Arrays_fill_0 : decode prog_21_method_103_code 0 = .ok (.iconst 0, 1) := by decide +kernel
theorem d_Arrays_fill_1 : decode prog_21_method_103_code 1 = .ok (.istore_n 2, 1) := by decide +kernel
theorem d_Arrays_fill_2 : decode prog_21_method_103_code 2 = .ok (.aload_n 0, 1) := by decide +kernel
theorem d_Arrays_fill_3 : decode prog_21_method_103_code 3 = .ok (.arraylength, 1) := by decide +kernel
theorem d_Arrays_fill_4 : decode prog_21_method_103_code 4 = .ok (.istore_n 3, 1) := by decide +kernel
theorem d_Arrays_fill_5 : decode prog_21_method_103_code 5 = .ok (.iload_n 2, 1) := by decide +kernel
theorem d_Arrays_fill_6 : decode prog_21_method_103_code 6 = .ok (.iload_n 3, 1) := by decide +kernel
theorem d_Arrays_fill_7 : decode prog_21_method_103_code 7 = .ok (.if_icmp .ge 13, 3) := by decide +kernel
theorem d_Arrays_fill_10 : decode prog_21_method_103_code 10 = .ok (.aload_n 0, 1) := by decide +kernel
theorem d_Arrays_fill_11 : decode prog_21_method_103_code 11 = .ok (.iload_n 2, 1) := by decide +kernel
theorem d_Arrays_fill_12 : decode prog_21_method_103_code 12 = .ok (.iload_n 1, 1) := by decide +kernel
theorem d_Arrays_fill_13 : decode prog_21_method_103_code 13 = .ok (.iastore, 1) := by decide +kernel
theorem d_Arrays_fill_14 : decode prog_21_method_103_code 14 = .ok (.iinc 2 1, 3) := by decide +kernel
theorem d_Arrays_fill_17 : decode prog_21_method_103_code 17 = .ok (.goto (-12), 3) := by decide +kernel
theorem d_Arrays_fill_20 : decode prog_21_method_103_code 20 = .ok (.return_, 1) := by decide +kernel
theorem d_PC_isOutside_0 : decode prog_1_method_28_code 0 = .ok (.iload_n 0, 1) := by decide +kernel
theorem d_PC_isOutside_1 : decode prog_1_method_28_code 1 = .ok (.iload_n 1, 1) := by decide +kernel
theorem d_PC_isOutside_2 : decode prog_1_method_28_code 2 = .ok (.if_icmp .lt 8, 3) := by decide +kernel
theorem d_PC_isOutside_5 : decode prog_1_method_28_code 5 = .ok (.iload_n 0, 1) := by decide +kernel
theorem d_PC_isOutside_6 : decode prog_1_method_28_code 6 = .ok (.iload_n 2, 1) := by decide +kernel
theorem d_PC_isOutside_7 : decode prog_1_method_28_code 7 = .ok (.if_icmp .le 7, 3) := by decide +kernel
theorem d_PC_isOutside_10 : decode prog_1_method_28_code 10 = .ok (.iconst 1, 1) := by decide +kernel
theorem d_PC_isOutside_11 : decode prog_1_method_28_code 11 = .ok (.goto 4, 3) := by decide +kernel
theorem d_PC_isOutside_14 : decode prog_1_method_28_code 14 = .ok (.iconst 0, 1) := by decide +kernel
theorem d_PC_isOutside_15 : decode prog_1_method_28_code 15 = .ok (.ireturn, 1) := by decide +kernel
theorem d_PC_keep_0 : decode prog_1_method_31_code 0 = .ok (.aload_n 0, 1) := by decide +kernel
theorem d_PC_keep_1 : decode prog_1_method_31_code 1 = .ok (.getfield 15, 3) := by decide +kernel
theorem d_PC_keep_4 : decode prog_1_method_31_code 4 = .ok (.bipush 12, 2) := by decide +kernel
theorem d_PC_keep_6 : decode prog_1_method_31_code 6 = .ok (.if_icmp .lt 6, 3) := by decide +kernel
theorem d_PC_keep_9 : decode prog_1_method_31_code 9 = .ok (.bipush (-106), 2) := by decide +kernel
theorem d_PC_keep_11 : decode prog_1_method_31_code 11 = .ok (.ireturn, 1) := by decide +kernel
theorem d_PC_keep_12 : decode prog_1_method_31_code 12 = .ok (.aload_n 0, 1) := by decide +kernel
theorem d_PC_keep_13 : decode prog_1_method_31_code 13 = .ok (.getfield 11, 3) := by decide +kernel
theorem d_PC_keep_16 : decode prog_1_method_31_code 16 = .ok (.aload_n 0, 1) := by decide +kernel
theorem d_PC_keep_17 : decode prog_1_method_31_code 17 = .ok (.getfield 15, 3) := by decide +kernel
theorem d_PC_keep_20 : decode prog_1_method_31_code 20 = .ok (.aload_n 1, 1) := by decide +kernel
theorem d_PC_keep_21 : decode prog_1_method_31_code 21 = .ok (.aastore, 1) := by decide +kernel
theorem d_PC_keep_22 : decode prog_1_method_31_code 22 = .ok (.aload_n 0, 1) := by decide +kernel
theorem d_PC_keep_23 : decode prog_1_method_31_code 23 = .ok (.dup, 1) := by decide +kernel
theorem d_PC_keep_24 : decode prog_1_method_31_code 24 = .ok (.getfield 15, 3) := by decide +kernel
theorem d_PC_keep_27 : decode prog_1_method_31_code 27 = .ok (.iconst 1, 1) := by decide +kernel
theorem d_PC_keep_28 : decode prog_1_method_31_code 28 = .ok (.iadd, 1) := by decide +kernel
theorem d_PC_keep_29 : decode prog_1_method_31_code 29 = .ok (.putfield 15, 3) := by decide +kernel
theorem d_PC_keep_32 : decode prog_1_method_31_code 32 = .ok (.aload_n 0, 1) := by decide +kernel
theorem d_PC_keep_33 : decode prog_1_method_31_code 33 = .ok (.getfield 15, 3) := by decide +kernel
theorem d_PC_keep_36 : decode prog_1_method_31_code 36 = .ok (.iconst 1, 1) := by decide +kernel
theorem d_PC_keep_37 : decode prog_1_method_31_code 37 = .ok (.isub, 1) := by decide +kernel
theorem d_PC_keep_38 : decode prog_1_method_31_code 38 = .ok (.ireturn, 1) := by decide +kernel
theorem d_PC_codeAt_0 : decode prog_1_method_29_code 0 = .ok (.iload_n 1, 1) := by decide +kernel
theorem d_PC_codeAt_1 : decode prog_1_method_29_code 1 = .ok (.iconst 0, 1) := by decide +kernel
theorem d_PC_codeAt_2 : decode prog_1_method_29_code 2 = .ok (.aload_n 0, 1) := by decide +kernel
theorem d_PC_codeAt_3 : decode prog_1_method_29_code 3 = .ok (.getfield 15, 3) := by decide +kernel
theorem d_PC_codeAt_6 : decode prog_1_method_29_code 6 = .ok (.iconst 1, 1) := by decide +kernel
theorem d_PC_codeAt_7 : decode prog_1_method_29_code 7 = .ok (.isub, 1) := by decide +kernel
theorem d_PC_codeAt_8 : decode prog_1_method_29_code 8 = .ok (.invokestatic 76, 3) := by decide +kernel
theorem d_PC_codeAt_11 : decode prog_1_method_29_code 11 = .ok (.ifCond .eq 7, 3) := by decide +kernel
theorem d_PC_codeAt_14 : decode prog_1_method_29_code 14 = .ok (.aconst_null, 1) := by decide +kernel
theorem d_PC_codeAt_15 : decode prog_1_method_29_code 15 = .ok (.goto 9, 3) := by decide +kernel
theorem d_PC_codeAt_18 : decode prog_1_method_29_code 18 = .ok (.aload_n 0, 1) := by decide +kernel
theorem d_PC_codeAt_19 : decode prog_1_method_29_code 19 = .ok (.getfield 11, 3) := by decide +kernel
theorem d_PC_codeAt_22 : decode prog_1_method_29_code 22 = .ok (.iload_n 1, 1) := by decide +kernel
theorem d_PC_codeAt_23 : decode prog_1_method_29_code 23 = .ok (.aaload, 1) := by decide +kernel
theorem d_PC_codeAt_24 : decode prog_1_method_29_code 24 = .ok (.areturn, 1) := by decide +kernel
theorem d_PC_codeWith_0 : decode prog_1_method_30_code 0 = .ok (.aload_n 0, 1) := by decide +kernel
theorem d_PC_codeWith_1 : decode prog_1_method_30_code 1 = .ok (.iload_n 1, 1) := by decide +kernel
theorem d_PC_codeWith_2 : decode prog_1_method_30_code 2 = .ok (.invokevirtual 97, 3) := by decide +kernel
theorem d_PC_codeWith_5 : decode prog_1_method_30_code 5 = .ok (.astore_n 3, 1) := by decide +kernel
theorem d_PC_codeWith_6 : decode prog_1_method_30_code 6 = .ok (.aload_n 3, 1) := by decide +kernel
theorem d_PC_codeWith_7 : decode prog_1_method_30_code 7 = .ok (.ifnull 17, 3) := by decide +kernel
theorem d_PC_codeWith_10 : decode prog_1_method_30_code 10 = .ok (.iload_n 2, 1) := by decide +kernel
theorem d_PC_codeWith_11 : decode prog_1_method_30_code 11 = .ok (.iconst 0, 1) := by decide +kernel
theorem d_PC_codeWith_12 : decode prog_1_method_30_code 12 = .ok (.aload_n 3, 1) := by decide +kernel
theorem d_PC_codeWith_13 : decode prog_1_method_30_code 13 = .ok (.getfield 104, 3) := by decide +kernel
theorem d_PC_codeWith_16 : decode prog_1_method_30_code 16 = .ok (.iconst 1, 1) := by decide +kernel
theorem d_PC_codeWith_17 : decode prog_1_method_30_code 17 = .ok (.isub, 1) := by decide +kernel
theorem d_PC_codeWith_18 : decode prog_1_method_30_code 18 = .ok (.invokestatic 76, 3) := by decide +kernel
theorem d_PC_codeWith_21 : decode prog_1_method_30_code 21 = .ok (.ifCond .eq 7, 3) := by decide +kernel
theorem d_PC_codeWith_24 : decode prog_1_method_30_code 24 = .ok (.aconst_null, 1) := by decide +kernel
theorem d_PC_codeWith_25 : decode prog_1_method_30_code 25 = .ok (.goto 4, 3) := by decide +kernel
theorem d_PC_codeWith_28 : decode prog_1_method_30_code 28 = .ok (.aload_n 3, 1) := by decide +kernel
theorem d_PC_codeWith_29 : decode prog_1_method_30_code 29 = .ok (.areturn, 1) := by decide +kernel
theorem d_Code_countLengths_0 : decode prog_3_method_3_code 0 = .ok (.aload_n 0, 1) := by decide +kernel
theorem d_Code_countLengths_1 : decode prog_3_method_3_code 1 = .ok (.getfield 21, 3) := by decide +kernel
theorem d_Code_countLengths_4 : decode prog_3_method_3_code 4 = .ok (.iconst 0, 1) := by decide +kernel
theorem d_Code_countLengths_5 : decode prog_3_method_3_code 5 = .ok (.invokestatic 59, 3) := by decide +kernel
theorem d_Code_countLengths_8 : decode prog_3_method_3_code 8 = .ok (.iconst 0, 1) := by decide +kernel
theorem d_Code_countLengths_9 : decode prog_3_method_3_code 9 = .ok (.istore_n 1, 1) := by decide +kernel
theorem d_Code_countLengths_10 : decode prog_3_method_3_code 10 = .ok (.iload_n 1, 1) := by decide +kernel
theorem d_Code_countLengths_11 : decode prog_3_method_3_code 11 = .ok (.aload_n 0, 1) := by decide +kernel
theorem d_Code_countLengths_12 : decode prog_3_method_3_code 12 = .ok (.getfield 43, 3) := by decide +kernel
theorem d_Code_countLengths_15 : decode prog_3_method_3_code 15 = .ok (.if_icmp .ge 24, 3) := by decide +kernel
theorem d_Code_countLengths_18 : decode prog_3_method_3_code 18 = .ok (.aload_n 0, 1) := by decide +kernel
theorem d_Code_countLengths_19 : decode prog_3_method_3_code 19 = .ok (.getfield 21, 3) := by decide +kernel
theorem d_Code_countLengths_22 : decode prog_3_method_3_code 22 = .ok (.aload_n 0, 1) := by decide +kernel
theorem d_Code_countLengths_23 : decode prog_3_method_3_code 23 = .ok (.getfield 9, 3) := by decide +kernel
theorem d_Code_countLengths_26 : decode prog_3_method_3_code 26 = .ok (.iload_n 1, 1) := by decide +kernel
theorem d_Code_countLengths_27 : decode prog_3_method_3_code 27 = .ok (.iaload, 1) := by decide +kernel
theorem d_Code_countLengths_28 : decode prog_3_method_3_code 28 = .ok (.dup2, 1) := by decide +kernel
theorem d_Code_countLengths_29 : decode prog_3_method_3_code 29 = .ok (.iaload, 1) := by decide +kernel
theorem d_Code_countLengths_30 : decode prog_3_method_3_code 30 = .ok (.iconst 1, 1) := by decide +kernel
theorem d_Code_countLengths_31 : decode prog_3_method_3_code 31 = .ok (.iadd, 1) := by decide +kernel
theorem d_Code_countLengths_32 : decode prog_3_method_3_code 32 = .ok (.iastore, 1) := by decide +kernel
theorem d_Code_countLengths_33 : decode prog_3_method_3_code 33 = .ok (.iinc 1 1, 3) := by decide +kernel
theorem d_Code_countLengths_36 : decode prog_3_method_3_code 36 = .ok (.goto (-26), 3) := by decide +kernel
theorem d_Code_countLengths_39 : decode prog_3_method_3_code 39 = .ok (.return_, 1) := by decide +kernel
theorem d_Code_placeLengths_0 : decode prog_3_method_4_code 0 = .ok (.aload_n 0, 1) := by decide +kernel
theorem d_Code_placeLengths_1 : decode prog_3_method_4_code 1 = .ok (.iconst 0, 1) := by decide +kernel
theorem d_Code_placeLengths_2 : decode prog_3_method_4_code 2 = .ok (.putfield 30, 3) := by decide +kernel
theorem d_Code_placeLengths_5 : decode prog_3_method_4_code 5 = .ok (.aload_n 0, 1) := by decide +kernel
theorem d_Code_placeLengths_6 : decode prog_3_method_4_code 6 = .ok (.iconst 0, 1) := by decide +kernel
theorem d_Code_placeLengths_7 : decode prog_3_method_4_code 7 = .ok (.putfield 34, 3) := by decide +kernel
theorem d_Code_placeLengths_10 : decode prog_3_method_4_code 10 = .ok (.aload_n 0, 1) := by decide +kernel
theorem d_Code_placeLengths_11 : decode prog_3_method_4_code 11 = .ok (.iconst 0, 1) := by decide +kernel
theorem d_Code_placeLengths_12 : decode prog_3_method_4_code 12 = .ok (.putfield 37, 3) := by decide +kernel
theorem d_Code_placeLengths_15 : decode prog_3_method_4_code 15 = .ok (.iconst 0, 1) := by decide +kernel
theorem d_Code_placeLengths_16 : decode prog_3_method_4_code 16 = .ok (.istore_n 1, 1) := by decide +kernel
theorem d_Code_placeLengths_17 : decode prog_3_method_4_code 17 = .ok (.iconst 1, 1) := by decide +kernel
theorem d_Code_placeLengths_18 : decode prog_3_method_4_code 18 = .ok (.istore_n 2, 1) := by decide +kernel
theorem d_Code_placeLengths_19 : decode prog_3_method_4_code 19 = .ok (.iload_n 2, 1) := by decide +kernel
theorem d_Code_placeLengths_20 : decode prog_3_method_4_code 20 = .ok (.bipush 15, 2) := by decide +kernel
theorem d_Code_placeLengths_22 : decode prog_3_method_4_code 22 = .ok (.if_icmp .gt 88, 3) := by decide +kernel
theorem d_Code_placeLengths_25 : decode prog_3_method_4_code 25 = .ok (.iload_n 1, 1) := by decide +kernel
theorem d_Code_placeLengths_26 : decode prog_3_method_4_code 26 = .ok (.iconst 1, 1) := by decide +kernel
theorem d_Code_placeLengths_27 : decode prog_3_method_4_code 27 = .ok (.ishl, 1) := by decide +kernel
theorem d_Code_placeLengths_28 : decode prog_3_method_4_code 28 = .ok (.istore_n 1, 1) := by decide +kernel
theorem d_Code_placeLengths_29 : decode prog_3_method_4_code 29 = .ok (.aload_n 0, 1) := by decide +kernel
theorem d_Code_placeLengths_30 : decode prog_3_method_4_code 30 = .ok (.getfield 24, 3) := by decide +kernel
theorem d_Code_placeLengths_33 : decode prog_3_method_4_code 33 = .ok (.iload_n 2, 1) := by decide +kernel
theorem d_Code_placeLengths_34 : decode prog_3_method_4_code 34 = .ok (.iload_n 1, 1) := by decide +kernel
theorem d_Code_placeLengths_35 : decode prog_3_method_4_code 35 = .ok (.iastore, 1) := by decide +kernel
theorem d_Code_placeLengths_36 : decode prog_3_method_4_code 36 = .ok (.aload_n 0, 1) := by decide +kernel
theorem d_Code_placeLengths_37 : decode prog_3_method_4_code 37 = .ok (.getfield 27, 3) := by decide +kernel
theorem d_Code_placeLengths_40 : decode prog_3_method_4_code 40 = .ok (.iload_n 2, 1) := by decide +kernel
theorem d_Code_placeLengths_41 : decode prog_3_method_4_code 41 = .ok (.aload_n 0, 1) := by decide +kernel
theorem d_Code_placeLengths_42 : decode prog_3_method_4_code 42 = .ok (.getfield 34, 3) := by decide +kernel
theorem d_Code_placeLengths_45 : decode prog_3_method_4_code 45 = .ok (.iastore, 1) := by decide +kernel
theorem d_Code_placeLengths_46 : decode prog_3_method_4_code 46 = .ok (.iload_n 1, 1) := by decide +kernel
theorem d_Code_placeLengths_47 : decode prog_3_method_4_code 47 = .ok (.aload_n 0, 1) := by decide +kernel
theorem d_Code_placeLengths_48 : decode prog_3_method_4_code 48 = .ok (.getfield 21, 3) := by decide +kernel
theorem d_Code_placeLengths_51 : decode prog_3_method_4_code 51 = .ok (.iload_n 2, 1) := by decide +kernel
theorem d_Code_placeLengths_52 : decode prog_3_method_4_code 52 = .ok (.iaload, 1) := by decide +kernel
theorem d_Code_placeLengths_53 : decode prog_3_method_4_code 53 = .ok (.iadd, 1) := by decide +kernel
theorem d_Code_placeLengths_54 : decode prog_3_method_4_code 54 = .ok (.istore_n 1, 1) := by decide +kernel
theorem d_Code_placeLengths_55 : decode prog_3_method_4_code 55 = .ok (.aload_n 0, 1) := by decide +kernel
theorem d_Code_placeLengths_56 : decode prog_3_method_4_code 56 = .ok (.dup, 1) := by decide +kernel
theorem d_Code_placeLengths_57 : decode prog_3_method_4_code 57 = .ok (.getfield 34, 3) := by decide +kernel
theorem d_Code_placeLengths_60 : decode prog_3_method_4_code 60 = .ok (.aload_n 0, 1) := by decide +kernel
theorem d_Code_placeLengths_61 : decode prog_3_method_4_code 61 = .ok (.getfield 21, 3) := by decide +kernel
theorem d_Code_placeLengths_64 : decode prog_3_method_4_code 64 = .ok (.iload_n 2, 1) := by decide +kernel
theorem d_Code_placeLengths_65 : decode prog_3_method_4_code 65 = .ok (.iaload, 1) := by decide +kernel
theorem d_Code_placeLengths_66 : decode prog_3_method_4_code 66 = .ok (.iadd, 1) := by decide +kernel
theorem d_Code_placeLengths_67 : decode prog_3_method_4_code 67 = .ok (.putfield 34, 3) := by decide +kernel
theorem d_Code_placeLengths_70 : decode prog_3_method_4_code 70 = .ok (.aload_n 0, 1) := by decide +kernel
theorem d_Code_placeLengths_71 : decode prog_3_method_4_code 71 = .ok (.dup, 1) := by decide +kernel
theorem d_Code_placeLengths_72 : decode prog_3_method_4_code 72 = .ok (.getfield 30, 3) := by decide +kernel
theorem d_Code_placeLengths_75 : decode prog_3_method_4_code 75 = .ok (.aload_n 0, 1) := by decide +kernel
theorem d_Code_placeLengths_76 : decode prog_3_method_4_code 76 = .ok (.getfield 21, 3) := by decide +kernel
theorem d_Code_placeLengths_79 : decode prog_3_method_4_code 79 = .ok (.iload_n 2, 1) := by decide +kernel
theorem d_Code_placeLengths_80 : decode prog_3_method_4_code 80 = .ok (.iaload, 1) := by decide +kernel
theorem d_Code_placeLengths_81 : decode prog_3_method_4_code 81 = .ok (.bipush 15, 2) := by decide +kernel
theorem d_Code_placeLengths_83 : decode prog_3_method_4_code 83 = .ok (.iload_n 2, 1) := by decide +kernel
theorem d_Code_placeLengths_84 : decode prog_3_method_4_code 84 = .ok (.isub, 1) := by decide +kernel
theorem d_Code_placeLengths_85 : decode prog_3_method_4_code 85 = .ok (.ishl, 1) := by decide +kernel
theorem d_Code_placeLengths_86 : decode prog_3_method_4_code 86 = .ok (.iadd, 1) := by decide +kernel
theorem d_Code_placeLengths_87 : decode prog_3_method_4_code 87 = .ok (.putfield 30, 3) := by decide +kernel
theorem d_Code_placeLengths_90 : decode prog_3_method_4_code 90 = .ok (.aload_n 0, 1) := by decide +kernel
theorem d_Code_placeLengths_91 : decode prog_3_method_4_code 91 = .ok (.getfield 21, 3) := by decide +kernel
theorem d_Code_placeLengths_94 : decode prog_3_method_4_code 94 = .ok (.iload_n 2, 1) := by decide +kernel
theorem d_Code_placeLengths_95 : decode prog_3_method_4_code 95 = .ok (.iaload, 1) := by decide +kernel
theorem d_Code_placeLengths_96 : decode prog_3_method_4_code 96 = .ok (.ifCond .le 8, 3) := by decide +kernel
theorem d_Code_placeLengths_99 : decode prog_3_method_4_code 99 = .ok (.aload_n 0, 1) := by decide +kernel
theorem d_Code_placeLengths_100 : decode prog_3_method_4_code 100 = .ok (.iload_n 2, 1) := by decide +kernel
theorem d_Code_placeLengths_101 : decode prog_3_method_4_code 101 = .ok (.putfield 37, 3) := by decide +kernel
theorem d_Code_placeLengths_104 : decode prog_3_method_4_code 104 = .ok (.iinc 2 1, 3) := by decide +kernel
theorem d_Code_placeLengths_107 : decode prog_3_method_4_code 107 = .ok (.goto (-88), 3) := by decide +kernel
theorem d_Code_placeLengths_110 : decode prog_3_method_4_code 110 = .ok (.return_, 1) := by decide +kernel
theorem d_Code_nameSymbols_0 : decode prog_3_method_5_code 0 = .ok (.aload_n 0, 1) := by decide +kernel
theorem d_Code_nameSymbols_1 : decode prog_3_method_5_code 1 = .ok (.getfield 21, 3) := by decide +kernel
theorem d_Code_nameSymbols_4 : decode prog_3_method_5_code 4 = .ok (.iconst 0, 1) := by decide +kernel
theorem d_Code_nameSymbols_5 : decode prog_3_method_5_code 5 = .ok (.invokestatic 59, 3) := by decide +kernel
theorem d_Code_nameSymbols_8 : decode prog_3_method_5_code 8 = .ok (.iconst 0, 1) := by decide +kernel
theorem d_Code_nameSymbols_9 : decode prog_3_method_5_code 9 = .ok (.istore_n 1, 1) := by decide +kernel
theorem d_Code_nameSymbols_10 : decode prog_3_method_5_code 10 = .ok (.iload_n 1, 1) := by decide +kernel
theorem d_Code_nameSymbols_11 : decode prog_3_method_5_code 11 = .ok (.aload_n 0, 1) := by decide +kernel
theorem d_Code_nameSymbols_12 : decode prog_3_method_5_code 12 = .ok (.getfield 43, 3) := by decide +kernel
theorem d_Code_nameSymbols_15 : decode prog_3_method_5_code 15 = .ok (.if_icmp .ge 68, 3) := by decide +kernel
theorem d_Code_nameSymbols_18 : decode prog_3_method_5_code 18 = .ok (.aload_n 0, 1) := by decide +kernel
theorem d_Code_nameSymbols_19 : decode prog_3_method_5_code 19 = .ok (.getfield 9, 3) := by decide +kernel
theorem d_Code_nameSymbols_22 : decode prog_3_method_5_code 22 = .ok (.iload_n 1, 1) := by decide +kernel
theorem d_Code_nameSymbols_23 : decode prog_3_method_5_code 23 = .ok (.iaload, 1) := by decide +kernel
theorem d_Code_nameSymbols_24 : decode prog_3_method_5_code 24 = .ok (.istore_n 2, 1) := by decide +kernel
theorem d_Code_nameSymbols_25 : decode prog_3_method_5_code 25 = .ok (.iload_n 2, 1) := by decide +kernel
theorem d_Code_nameSymbols_26 : decode prog_3_method_5_code 26 = .ok (.ifCond .le 51, 3) := by decide +kernel
theorem d_Code_nameSymbols_29 : decode prog_3_method_5_code 29 = .ok (.aload_n 0, 1) := by decide +kernel
theorem d_Code_nameSymbols_30 : decode prog_3_method_5_code 30 = .ok (.getfield 15, 3) := by decide +kernel
theorem d_Code_nameSymbols_33 : decode prog_3_method_5_code 33 = .ok (.iload_n 1, 1) := by decide +kernel
theorem d_Code_nameSymbols_34 : decode prog_3_method_5_code 34 = .ok (.aload_n 0, 1) := by decide +kernel
theorem d_Code_nameSymbols_35 : decode prog_3_method_5_code 35 = .ok (.getfield 24, 3) := by decide +kernel
theorem d_Code_nameSymbols_38 : decode prog_3_method_5_code 38 = .ok (.iload_n 2, 1) := by decide +kernel
theorem d_Code_nameSymbols_39 : decode prog_3_method_5_code 39 = .ok (.iaload, 1) := by decide +kernel
theorem d_Code_nameSymbols_40 : decode prog_3_method_5_code 40 = .ok (.aload_n 0, 1) := by decide +kernel
theorem d_Code_nameSymbols_41 : decode prog_3_method_5_code 41 = .ok (.getfield 21, 3) := by decide +kernel
theorem d_Code_nameSymbols_44 : decode prog_3_method_5_code 44 = .ok (.iload_n 2, 1) := by decide +kernel
theorem d_Code_nameSymbols_45 : decode prog_3_method_5_code 45 = .ok (.iaload, 1) := by decide +kernel
theorem d_Code_nameSymbols_46 : decode prog_3_method_5_code 46 = .ok (.iadd, 1) := by decide +kernel
theorem d_Code_nameSymbols_47 : decode prog_3_method_5_code 47 = .ok (.iastore, 1) := by decide +kernel
theorem d_Code_nameSymbols_48 : decode prog_3_method_5_code 48 = .ok (.aload_n 0, 1) := by decide +kernel
theorem d_Code_nameSymbols_49 : decode prog_3_method_5_code 49 = .ok (.getfield 18, 3) := by decide +kernel
theorem d_Code_nameSymbols_52 : decode prog_3_method_5_code 52 = .ok (.aload_n 0, 1) := by decide +kernel
theorem d_Code_nameSymbols_53 : decode prog_3_method_5_code 53 = .ok (.getfield 27, 3) := by decide +kernel
theorem d_Code_nameSymbols_56 : decode prog_3_method_5_code 56 = .ok (.iload_n 2, 1) := by decide +kernel
theorem d_Code_nameSymbols_57 : decode prog_3_method_5_code 57 = .ok (.iaload, 1) := by decide +kernel
theorem d_Code_nameSymbols_58 : decode prog_3_method_5_code 58 = .ok (.aload_n 0, 1) := by decide +kernel
theorem d_Code_nameSymbols_59 : decode prog_3_method_5_code 59 = .ok (.getfield 21, 3) := by decide +kernel
theorem d_Code_nameSymbols_62 : decode prog_3_method_5_code 62 = .ok (.iload_n 2, 1) := by decide +kernel
theorem d_Code_nameSymbols_63 : decode prog_3_method_5_code 63 = .ok (.iaload, 1) := by decide +kernel
theorem d_Code_nameSymbols_64 : decode prog_3_method_5_code 64 = .ok (.iadd, 1) := by decide +kernel
theorem d_Code_nameSymbols_65 : decode prog_3_method_5_code 65 = .ok (.iload_n 1, 1) := by decide +kernel
theorem d_Code_nameSymbols_66 : decode prog_3_method_5_code 66 = .ok (.iastore, 1) := by decide +kernel
theorem d_Code_nameSymbols_67 : decode prog_3_method_5_code 67 = .ok (.aload_n 0, 1) := by decide +kernel
theorem d_Code_nameSymbols_68 : decode prog_3_method_5_code 68 = .ok (.getfield 21, 3) := by decide +kernel
theorem d_Code_nameSymbols_71 : decode prog_3_method_5_code 71 = .ok (.iload_n 2, 1) := by decide +kernel
theorem d_Code_nameSymbols_72 : decode prog_3_method_5_code 72 = .ok (.dup2, 1) := by decide +kernel
theorem d_Code_nameSymbols_73 : decode prog_3_method_5_code 73 = .ok (.iaload, 1) := by decide +kernel
theorem d_Code_nameSymbols_74 : decode prog_3_method_5_code 74 = .ok (.iconst 1, 1) := by decide +kernel
theorem d_Code_nameSymbols_75 : decode prog_3_method_5_code 75 = .ok (.iadd, 1) := by decide +kernel
theorem d_Code_nameSymbols_76 : decode prog_3_method_5_code 76 = .ok (.iastore, 1) := by decide +kernel
theorem d_Code_nameSymbols_77 : decode prog_3_method_5_code 77 = .ok (.iinc 1 1, 3) := by decide +kernel
theorem d_Code_nameSymbols_80 : decode prog_3_method_5_code 80 = .ok (.goto (-70), 3) := by decide +kernel
theorem d_Code_nameSymbols_83 : decode prog_3_method_5_code 83 = .ok (.return_, 1) := by decide +kernel
theorem d_Code_judged_0 : decode prog_3_method_6_code 0 = .ok (.aload_n 0, 1) := by decide +kernel
theorem d_Code_judged_1 : decode prog_3_method_6_code 1 = .ok (.getfield 34, 3) := by decide +kernel
theorem d_Code_judged_4 : decode prog_3_method_6_code 4 = .ok (.ifCond .ne 5, 3) := by decide +kernel
theorem d_Code_judged_7 : decode prog_3_method_6_code 7 = .ok (.iconst 0, 1) := by decide +kernel
theorem d_Code_judged_8 : decode prog_3_method_6_code 8 = .ok (.ireturn, 1) := by decide +kernel
theorem d_Code_judged_9 : decode prog_3_method_6_code 9 = .ok (.aload_n 0, 1) := by decide +kernel
theorem d_Code_judged_10 : decode prog_3_method_6_code 10 = .ok (.getfield 34, 3) := by decide +kernel
theorem d_Code_judged_13 : decode prog_3_method_6_code 13 = .ok (.iconst 1, 1) := by decide +kernel
theorem d_Code_judged_14 : decode prog_3_method_6_code 14 = .ok (.if_icmp .ne 13, 3) := by decide +kernel
theorem d_Code_judged_17 : decode prog_3_method_6_code 17 = .ok (.aload_n 0, 1) := by decide +kernel
theorem d_Code_judged_18 : decode prog_3_method_6_code 18 = .ok (.getfield 37, 3) := by decide +kernel
theorem d_Code_judged_21 : decode prog_3_method_6_code 21 = .ok (.iconst 1, 1) := by decide +kernel
theorem d_Code_judged_22 : decode prog_3_method_6_code 22 = .ok (.if_icmp .ne 5, 3) := by decide +kernel
theorem d_Code_judged_25 : decode prog_3_method_6_code 25 = .ok (.iconst 1, 1) := by decide +kernel
theorem d_Code_judged_26 : decode prog_3_method_6_code 26 = .ok (.ireturn, 1) := by decide +kernel
theorem d_Code_judged_27 : decode prog_3_method_6_code 27 = .ok (.aload_n 0, 1) := by decide +kernel
theorem d_Code_judged_28 : decode prog_3_method_6_code 28 = .ok (.getfield 30, 3) := by decide +kernel
theorem d_Code_judged_31 : decode prog_3_method_6_code 31 = .ok (.ldc 65, 2) := by decide +kernel
theorem d_Code_judged_33 : decode prog_3_method_6_code 33 = .ok (.if_icmp .ne 5, 3) := by decide +kernel
theorem d_Code_judged_36 : decode prog_3_method_6_code 36 = .ok (.iconst 2, 1) := by decide +kernel
theorem d_Code_judged_37 : decode prog_3_method_6_code 37 = .ok (.ireturn, 1) := by decide +kernel
theorem d_Code_judged_38 : decode prog_3_method_6_code 38 = .ok (.aload_n 0, 1) := by decide +kernel
theorem d_Code_judged_39 : decode prog_3_method_6_code 39 = .ok (.getfield 30, 3) := by decide +kernel
theorem d_Code_judged_42 : decode prog_3_method_6_code 42 = .ok (.ldc 65, 2) := by decide +kernel
theorem d_Code_judged_44 : decode prog_3_method_6_code 44 = .ok (.if_icmp .ge 7, 3) := by decide +kernel
theorem d_Code_judged_47 : decode prog_3_method_6_code 47 = .ok (.iconst 3, 1) := by decide +kernel
theorem d_Code_judged_48 : decode prog_3_method_6_code 48 = .ok (.goto 4, 3) := by decide +kernel
theorem d_Code_judged_51 : decode prog_3_method_6_code 51 = .ok (.iconst 4, 1) := by decide +kernel
theorem d_Code_judged_52 : decode prog_3_method_6_code 52 = .ok (.ireturn, 1) := by decide +kernel
theorem d_Code_renumber_0 : decode prog_3_method_2_code 0 = .ok (.aload_n 0, 1) := by decide +kernel
theorem d_Code_renumber_1 : decode prog_3_method_2_code 1 = .ok (.invokevirtual 46, 3) := by decide +kernel
theorem d_Code_renumber_4 : decode prog_3_method_2_code 4 = .ok (.aload_n 0, 1) := by decide +kernel
theorem d_Code_renumber_5 : decode prog_3_method_2_code 5 = .ok (.invokevirtual 49, 3) := by decide +kernel
theorem d_Code_renumber_8 : decode prog_3_method_2_code 8 = .ok (.aload_n 0, 1) := by decide +kernel
theorem d_Code_renumber_9 : decode prog_3_method_2_code 9 = .ok (.invokevirtual 52, 3) := by decide +kernel
theorem d_Code_renumber_12 : decode prog_3_method_2_code 12 = .ok (.aload_n 0, 1) := by decide +kernel
theorem d_Code_renumber_13 : decode prog_3_method_2_code 13 = .ok (.aload_n 0, 1) := by decide +kernel
theorem d_Code_renumber_14 : decode prog_3_method_2_code 14 = .ok (.invokevirtual 55, 3) := by decide +kernel
theorem d_Code_renumber_17 : decode prog_3_method_2_code 17 = .ok (.putfield 40, 3) := by decide +kernel
theorem d_Code_renumber_20 : decode prog_3_method_2_code 20 = .ok (.return_, 1) := by decide +kernel
theorem d_PC_length_0 : decode prog_1_method_3_code 0 = .ok (.aload_n 0, 1) := by decide +kernel
theorem d_PC_length_1 : decode prog_1_method_3_code 1 = .ok (.iload_n 1, 1) := by decide +kernel
theorem d_PC_length_2 : decode prog_1_method_3_code 2 = .ok (.iload_n 2, 1) := by decide +kernel
theorem d_PC_length_3 : decode prog_1_method_3_code 3 = .ok (.invokevirtual 87, 3) := by decide +kernel
theorem d_PC_length_6 : decode prog_1_method_3_code 6 = .ok (.astore 4, 2) := by decide +kernel
theorem d_PC_length_8 : decode prog_1_method_3_code 8 = .ok (.aload 4, 2) := by decide +kernel
theorem d_PC_length_10 : decode prog_1_method_3_code 10 = .ok (.ifnonnull 6, 3) := by decide +kernel
theorem d_PC_length_13 : decode prog_1_method_3_code 13 = .ok (.bipush (-101), 2) := by decide +kernel
theorem d_PC_length_15 : decode prog_1_method_3_code 15 = .ok (.ireturn, 1) := by decide +kernel
theorem d_PC_length_16 : decode prog_1_method_3_code 16 = .ok (.iload_n 3, 1) := by decide +kernel
theorem d_PC_length_17 : decode prog_1_method_3_code 17 = .ok (.iconst 0, 1) := by decide +kernel
theorem d_PC_length_18 : decode prog_1_method_3_code 18 = .ok (.bipush 15, 2) := by decide +kernel
theorem d_PC_length_20 : decode prog_1_method_3_code 20 = .ok (.invokestatic 76, 3) := by decide +kernel
theorem d_PC_length_23 : decode prog_1_method_3_code 23 = .ok (.ifCond .eq 6, 3) := by decide +kernel
theorem d_PC_length_26 : decode prog_1_method_3_code 26 = .ok (.bipush (-102), 2) := by decide +kernel
theorem d_PC_length_28 : decode prog_1_method_3_code 28 = .ok (.ireturn, 1) := by decide +kernel
theorem d_PC_length_29 : decode prog_1_method_3_code 29 = .ok (.aload 4, 2) := by decide +kernel
theorem d_PC_length_31 : decode prog_1_method_3_code 31 = .ok (.getfield 91, 3) := by decide +kernel
theorem d_PC_length_34 : decode prog_1_method_3_code 34 = .ok (.iload_n 2, 1) := by decide +kernel
theorem d_PC_length_35 : decode prog_1_method_3_code 35 = .ok (.iaload, 1) := by decide +kernel
theorem d_PC_length_36 : decode prog_1_method_3_code 36 = .ok (.istore 5, 2) := by decide +kernel
theorem d_PC_length_38 : decode prog_1_method_3_code 38 = .ok (.aload 4, 2) := by decide +kernel
theorem d_PC_length_40 : decode prog_1_method_3_code 40 = .ok (.getfield 91, 3) := by decide +kernel
theorem d_PC_length_43 : decode prog_1_method_3_code 43 = .ok (.iload_n 2, 1) := by decide +kernel
theorem d_PC_length_44 : decode prog_1_method_3_code 44 = .ok (.iload_n 3, 1) := by decide +kernel
theorem d_PC_length_45 : decode prog_1_method_3_code 45 = .ok (.iastore, 1) := by decide +kernel
theorem d_PC_length_46 : decode prog_1_method_3_code 46 = .ok (.aload 4, 2) := by decide +kernel
theorem d_PC_length_48 : decode prog_1_method_3_code 48 = .ok (.invokevirtual 94, 3) := by decide +kernel
theorem d_PC_length_51 : decode prog_1_method_3_code 51 = .ok (.iload 5, 2) := by decide +kernel
theorem d_PC_length_53 : decode prog_1_method_3_code 53 = .ok (.ireturn, 1) := by decide +kernel
noncomputable def lb_Arrays_fill_5 (fa1 ia1 na1 : Nat) (a2 : Int32) (x1 : Int32) (σ : St) (v2 : Int32) : Option ((St × Int32) ⊕ ((St × Int32))) :=
  if x1 ≤ v2 then
    some (.inr (σ, v2))
  else
  gd (ib v2 na1) <|
  nm (sI σ fa1 ia1 (v2.toNatClampNeg) a2) fun σ2 =>
  nm (v2 + 1) fun x3 =>
  some (.inl (σ2, x3))
noncomputable def f_Arrays_fill (σ : St) (fa1 ia1 na1 : Nat) (a2 : Int32) : Option (St) :=
  nm (nI na1) fun x1 =>
  b2 (lpE (fun q => lb_Arrays_fill_5 fa1 ia1 na1 a2 x1 q.1 q.2) (σ, 0)) fun σ4 x5 =>
  some σ4
noncomputable def f_PC_isOutside (σ : St) (a1 : Int32) (a2 : Int32) (a3 : Int32) : Option (St × Int32) :=
  if a1 < a2 then
    some (σ, 1)
  else
  if a1 ≤ a3 then
    some (σ, 0)
  else
  some (σ, 1)
noncomputable def f_PC_keep (σ : St) (ia1 : Nat) : Option (St × Int32) :=
  if (σ.1 0 0 1) < 12 then
    gd (ib (σ.1 0 0 1) 12) <|
    nm (sR σ 1 0 ((σ.1 0 0 1).toNatClampNeg) (some ia1)) fun σ1 =>
    nm (sI σ1 0 0 1 ((σ1.1 0 0 1) + 1)) fun σ2 =>
    some (σ2, (σ2.1 0 0 1) - 1)
  else
  some (σ, (-106))
noncomputable def f_PC_codeAt (σ : St) (a1 : Int32) : Option (St × Option Nat) :=
  b2 (f_PC_isOutside σ a1 0 ((σ.1 0 0 1) - 1)) fun σ1 x2 =>
  if x2 = 0 then
    gd (ib a1 12) <|
    on (σ1.2.2.1 1 0 a1.toNatClampNeg) (
      none
      ) fun j3 =>
    some (σ1, some j3)
  else
  some (σ1, none)
noncomputable def f_PC_codeWith (σ : St) (a1 : Int32) (a2 : Int32) : Option (St × Option Nat) :=
  b2 (f_PC_codeAt σ a1) fun σ1 o2 =>
  on (o2) (
    some (σ1, none)
    ) fun j3 =>
  b2 (f_PC_isOutside σ1 a2 0 ((σ1.1 41 j3 0) - 1)) fun σ4 x5 =>
  if x5 = 0 then
    some (σ4, some j3)
  else
  some (σ4, none)
noncomputable def lb_Code_countLengths_10 (iT : Nat) (σ : St) (v1 : Int32) : Option ((St × Int32) ⊕ ((St × Int32))) :=
  if (σ.1 41 iT 0) ≤ v1 then
    some (.inr (σ, v1))
  else
  gd (ib v1 64) <|
  gd (ib (σ.1 42 iT v1.toNatClampNeg) 16) <|
  gd (ib (σ.1 42 iT v1.toNatClampNeg) 16) <|
  nm (sI σ 45 iT ((σ.1 42 iT v1.toNatClampNeg).toNatClampNeg) ((σ.1 45 iT (σ.1 42 iT v1.toNatClampNeg).toNatClampNeg) + 1)) fun σ2 =>
  nm (v1 + 1) fun x3 =>
  some (.inl (σ2, x3))
noncomputable def f_Code_countLengths (σ : St) (iT : Nat) : Option (St) :=
  b1 (f_Arrays_fill σ 45 iT 16 0) fun σ1 =>
  b2 (lpE (fun q => lb_Code_countLengths_10 iT q.1 q.2) (σ1, 0)) fun σ4 x5 =>
  some σ4
noncomputable def lb_Code_placeLengths_19 (iT : Nat) (σ : St) (v1 : Int32) (v2 : Int32) : Option ((St × Int32 × Int32) ⊕ ((St × Int32 × Int32))) :=
  if 15 < v2 then
    some (.inr (σ, v1, v2))
  else
  nm (v1 <<< (1 &&& 31)) fun x4 =>
  gd (ib v2 16) <|
  nm (sI σ 46 iT (v2.toNatClampNeg) x4) fun σ5 =>
  gd (ib v2 16) <|
  nm (sI σ5 47 iT (v2.toNatClampNeg) (σ5.1 41 iT 8)) fun σ6 =>
  gd (ib v2 16) <|
  nm (x4 + (σ6.1 45 iT v2.toNatClampNeg)) fun x7 =>
  gd (ib v2 16) <|
  nm (sI σ6 41 iT 8 ((σ6.1 41 iT 8) + (σ6.1 45 iT v2.toNatClampNeg))) fun σ8 =>
  gd (ib v2 16) <|
  nm (sI σ8 41 iT 7 ((σ8.1 41 iT 7) + ((σ8.1 45 iT v2.toNatClampNeg) <<< ((15 - v2) &&& 31)))) fun σ9 =>
  gd (ib v2 16) <|
  if (σ9.1 45 iT v2.toNatClampNeg) ≤ 0 then
    nm (v2 + 1) fun x10 =>
    some (.inl (σ9, x7, x10))
  else
  nm (sI σ9 41 iT 9 v2) fun σ11 =>
  nm (v2 + 1) fun x12 =>
  some (.inl (σ11, x7, x12))
noncomputable def f_Code_placeLengths (σ : St) (iT : Nat) : Option (St) :=
  nm (sI σ 41 iT 7 0) fun σ1 =>
  nm (sI σ1 41 iT 8 0) fun σ2 =>
  nm (sI σ2 41 iT 9 0) fun σ3 =>
  b3 (lpE (fun q => lb_Code_placeLengths_19 iT q.1 q.2.1 q.2.2) (σ3, 0, 1)) fun σ13 x14 x15 =>
  some σ13
noncomputable def lb_Code_nameSymbols_10 (iT : Nat) (σ : St) (v1 : Int32) : Option ((St × Int32) ⊕ ((St × Int32))) :=
  if (σ.1 41 iT 0) ≤ v1 then
    some (.inr (σ, v1))
  else
  gd (ib v1 64) <|
  nm (σ.1 42 iT v1.toNatClampNeg) fun x2 =>
  if x2 ≤ 0 then
    nm (v1 + 1) fun x3 =>
    some (.inl (σ, x3))
  else
  gd (ib x2 16) <|
  gd (ib x2 16) <|
  gd (ib v1 64) <|
  nm (sI σ 43 iT (v1.toNatClampNeg) ((σ.1 46 iT x2.toNatClampNeg) + (σ.1 45 iT x2.toNatClampNeg))) fun σ4 =>
  gd (ib x2 16) <|
  gd (ib x2 16) <|
  gd (ib ((σ4.1 47 iT x2.toNatClampNeg) + (σ4.1 45 iT x2.toNatClampNeg)) 64) <|
  nm (sI σ4 44 iT (((σ4.1 47 iT x2.toNatClampNeg) + (σ4.1 45 iT x2.toNatClampNeg)).toNatClampNeg) v1) fun σ5 =>
  gd (ib x2 16) <|
  gd (ib x2 16) <|
  nm (sI σ5 45 iT (x2.toNatClampNeg) ((σ5.1 45 iT x2.toNatClampNeg) + 1)) fun σ6 =>
  nm (v1 + 1) fun x7 =>
  some (.inl (σ6, x7))
noncomputable def f_Code_nameSymbols (σ : St) (iT : Nat) : Option (St) :=
  b1 (f_Arrays_fill σ 45 iT 16 0) fun σ1 =>
  b2 (lpE (fun q => lb_Code_nameSymbols_10 iT q.1 q.2) (σ1, 0)) fun σ8 x9 =>
  some σ8
noncomputable def f_Code_judged (σ : St) (iT : Nat) : Option (St × Int32) :=
  if (σ.1 41 iT 8) = 0 then
    some (σ, 0)
  else
  if (σ.1 41 iT 8) = 1 then
    if (σ.1 41 iT 9) = 1 then
      some (σ, 1)
    else
    if (σ.1 41 iT 7) = 32768 then
      some (σ, 2)
    else
    if 32768 ≤ (σ.1 41 iT 7) then
      some (σ, 4)
    else
    some (σ, 3)
  else
  if (σ.1 41 iT 7) = 32768 then
    some (σ, 2)
  else
  if 32768 ≤ (σ.1 41 iT 7) then
    some (σ, 4)
  else
  some (σ, 3)
noncomputable def f_Code_renumber (σ : St) (iT : Nat) : Option (St) :=
  b1 (f_Code_countLengths σ iT) fun σ1 =>
  b1 (f_Code_placeLengths σ1 iT) fun σ2 =>
  b1 (f_Code_nameSymbols σ2 iT) fun σ3 =>
  b2 (f_Code_judged σ3 iT) fun σ4 x5 =>
  nm (sI σ4 41 iT 10 x5) fun σ6 =>
  some σ6
noncomputable def f_PC_length (σ : St) (a1 : Int32) (a2 : Int32) (a3 : Int32) : Option (St × Int32) :=
  b2 (f_PC_codeWith σ a1 a2) fun σ1 o2 =>
  on (o2) (
    some (σ1, (-101))
    ) fun j3 =>
  b2 (f_PC_isOutside σ1 a3 0 15) fun σ4 x5 =>
  if x5 = 0 then
    gd (ib a2 64) <|
    nm (σ4.1 42 j3 a2.toNatClampNeg) fun x6 =>
    gd (ib a2 64) <|
    nm (sI σ4 42 j3 (a2.toNatClampNeg) a3) fun σ7 =>
    b1 (f_Code_renumber σ7 j3) fun σ8 =>
    some (σ8, x6)
  else
  some (σ4, (-102))
set_option maxHeartbeats 4000000 in
set_option maxRecDepth 100000 in
theorem c_Arrays_fill (l : Launch) (D : va_G) (aC : Nat → ClassId) (A : Nat → Prop) (ad : Nat → Nat → Nat) (n : Nat) (σ : St) (fa1 ia1 na1 : Nat) (a2 : Int32) (hka1 : kd fa1 = .inr (0, na1)) (hda1 : dm n fa1 ia1) (o : St) (h : f_Arrays_fill σ fa1 ia1 na1 a2 = some o) : Met l y_Arrays_fill w_Arrays_fill rm_Arrays_fill (va_Pc [.ref (ad fa1 ia1), .int a2] (Pre D aC A ad n σ)) (va_Qv (fun (_ : Unit) => True) (fun _ t => Hold D aC A ad n o t.heap) A) 0 0 A := by
  refine Met.ofW (cc := prog_21_method_103_code) (maxL := 4) (ret := none) (by decide) rfl ?_
  intro p e s m args below meth c s₁ B hml hv
  obtain ⟨hargs, hH, hK, hZ⟩ := hv
  have hx := B.exec
  have hb := B.bytes
  have hr := B.returns
  have hts := atoms_spec (ws := w_Arrays_fill) B.pre
  have hg : ∀ w ∈ gW, w.before args s = true := fun w h => hts w (List.mem_cons_of_mem _ h)
  have hown : s.vm.findClass "java/util/Arrays" = some m.cls := findClass_of_methodNamed B.named
  have hlocks := B.notSynchronized
  have hS : va_S A s.heap s.heap [] := va_S.rf
  have hl := lv_entry ([.ref (ad fa1 ia1), .int a2]) (n := 4) (Nat.le_of_ble_eq_true rfl)
  rw [show entryFrame m args 4 = entryFrame m (([.ref (ad fa1 ia1), .int a2] : List Value).toArray) 4 by rw [hargs], lg_entry_eq]
  generalize (lg_sl ([.ref (ad fa1 ia1), .int a2]) ++ List.replicate (4 - (lg_sl ([.ref (ad fa1 ia1), .int a2])).length) Slot.unset).toArray = ls at hl ⊢
  have hl : lv_has ls 4 [(0, .ref (ad fa1 ia1)), (1, .int a2)] := hl
  generalize hQ0 : MQ below (va_Qv (fun (_ : Unit) => True) (fun _ t => Hold D aC A ad n o t.heap) A) args s 0 0 A = Q0
  unfold f_Arrays_fill at h
  refine lv_iconst (v := 0) hx hb d_Arrays_fill_0 (by decide) ?_
  refine lv_istore_n (lv' := [(2, .int 0), (0, .ref (ad fa1 ia1)), (1, .int a2)]) hx hb d_Arrays_fill_1 rfl hl (by decide) rfl (fun ls hl => ?_)
  refine lv_aload_n hx hb d_Arrays_fill_2 rfl (lv_at hl 1 rfl) ?_
  refine st_alen hx hb hK hH (f := fa1) (i := ia1) hda1 hka1 (v := (nI na1)) rfl d_Arrays_fill_3 ?_
  refine lv_topi (fun x1 ex1 => ?_)
  have h := nm_at ex1 h
  refine lv_istore_n (lv' := [(3, .int x1), (2, .int 0), (0, .ref (ad fa1 ia1)), (1, .int a2)]) hx hb d_Arrays_fill_4 rfl hl (by decide) rfl (fun ls hl => ?_)
  obtain ⟨q1, hq1, h⟩ := b2_some h
  have K1 : ∀ (σ4 : St) (x5 : Int32) (H : Heap) (locs : List Loc) (ls : Array Slot), q1 = (σ4, x5) → Hold D aC A ad n σ4 H → va_S A s.heap H locs → lv_has ls 4 [(0, .ref (ad fa1 ia1)), (1, .int a2), (2, .int x5), (3, .int x1)] → W p l e (headSpec w_Arrays_fill rm_Arrays_fill).room s m args below meth c H locs 0 0 Q0 (F0 m 20 ls []) := by
    intro σ4 x5 H locs ls eq1 hH hS hl
    subst eq1
    have h := b2_at h
    cases h
    rw [← hQ0]
    exact W.vret hx hb hr (fun t ht hW => ⟨⟨(), rfl, trivial, by dsimp only; rw [ht]; exact hH⟩, hS.F ht⟩) hS.2.2 d_Arrays_fill_20
  have loop1 : ∀ (k : Nat) (σ : St) (v2 : Int32) (H : Heap) (locs : List Loc) (ls : Array Slot), Hold D aC A ad n σ H → va_S A s.heap H locs → lv_has ls 4 [(0, .ref (ad fa1 ia1)), (1, .int a2), (2, .int v2), (3, .int x1)] → lp (fun q => lb_Arrays_fill_5 fa1 ia1 na1 a2 x1 q.1 q.2) k (σ, v2) = some q1 → W p l e (headSpec w_Arrays_fill rm_Arrays_fill).room s m args below meth c H locs 0 0 Q0 (F0 m 5 ls []) := by
    intro k
    induction k with
    | zero => intro σ v2 H locs ls hH hS hl hlp; exact absurd hlp (lp_zero _ _ _)
    | succ k ih1 =>
      intro σ v2 H locs ls hH hS hl hlp
      obtain ⟨z1, h1, hk1⟩ := lp_succ hlp
      have h1 : lb_Arrays_fill_5 fa1 ia1 na1 a2 x1 σ v2 = some z1 := h1
      unfold lb_Arrays_fill_5 at h1
      refine lv_iload_n hx hb d_Arrays_fill_5 rfl (lv_at hl 2 rfl) ?_
      refine lv_iload_n hx hb d_Arrays_fill_6 rfl (lv_at hl 3 rfl) ?_
      refine lv_icmp_ge (tgt := 20) hx hb d_Arrays_fill_7 (by decide) (fun c7 => ?_) (fun c7 => ?_)
      · have h1 := it h1 c7
        cases h1
        exact K1 σ v2 _ _ ls (Option.some.inj hk1).symm hH hS (lv_sub hl [0, 1, 2, 3] rfl)
      · have h1 := ie h1 c7
        refine lv_aload_n hx hb d_Arrays_fill_10 rfl (lv_at hl 0 rfl) ?_
        refine lv_iload_n hx hb d_Arrays_fill_11 rfl (lv_at hl 2 rfl) ?_
        refine lv_iload_n hx hb d_Arrays_fill_12 rfl (lv_at hl 1 rfl) ?_
        obtain ⟨g13, h1⟩ := gd_some h1
        refine st_iast hx hb hK hH hS (f := fa1) (i := ia1) hda1 hka1 g13 d_Arrays_fill_13 (fun σ2 H locs eσ2 hH hS => ?_)
        have h1 := nm_at eσ2 h1
        obtain ⟨x3, ex3⟩ : ∃ y : Int32, y = v2 + 1 := ⟨_, rfl⟩
        have h1 := nm_at ex3 h1
        refine lv_iinc (v := x3) (lv' := [(2, .int x3), (0, .ref (ad fa1 ia1)), (1, .int a2), (3, .int x1)]) hx hb d_Arrays_fill_14 hl (k := 2) rfl (by rw [ex3]; rfl) (by decide) rfl (fun ls hl => ?_)
        refine lv_goto (tgt := 5) hx hb d_Arrays_fill_17 (by decide) ?_
        cases h1
        exact ih1 σ2 x3 _ _ ls hH hS (lv_sub hl [1, 2, 0, 3] rfl) hk1
  obtain ⟨k1, hq1⟩ := lpE_some hq1
  exact loop1 k1 σ 0 _ _ ls hH hS (lv_sub hl [2, 3, 1, 0] rfl) hq1
set_option maxHeartbeats 4000000 in
set_option maxRecDepth 100000 in
theorem c_PC_isOutside (l : Launch) (D : va_G) (aC : Nat → ClassId) (A : Nat → Prop) (ad : Nat → Nat → Nat) (n : Nat) (σ : St) (a1 : Int32) (a2 : Int32) (a3 : Int32) (o : St × Int32) (h : f_PC_isOutside σ a1 a2 a3 = some o) : Met l y_PC_isOutside w_PC_isOutside rm_PC_isOutside (va_Pc [.int a1, .int a2, .int a3] (Pre D aC A ad n σ)) (va_Qi (fun r (_ : Unit) => r = o.2) (fun _ t => Hold D aC A ad n o.1 t.heap) A) 0 0 A := by
  refine Met.ofW (cc := prog_1_method_28_code) (maxL := 3) (ret := (some .boolean)) (by decide) rfl ?_
  intro p e s m args below meth c s₁ B hml hv
  obtain ⟨hargs, hH, hK, hZ⟩ := hv
  have hx := B.exec
  have hb := B.bytes
  have hr := B.returns
  have hts := atoms_spec (ws := w_PC_isOutside) B.pre
  have hg : ∀ w ∈ gW, w.before args s = true := fun w h => hts w (List.mem_cons_of_mem _ h)
  have hown : s.vm.findClass "PrefixCodes" = some m.cls := findClass_of_methodNamed B.named
  have hlocks := B.notSynchronized
  have hS : va_S A s.heap s.heap [] := va_S.rf
  have hl := lv_entry ([.int a1, .int a2, .int a3]) (n := 3) (Nat.le_of_ble_eq_true rfl)
  rw [show entryFrame m args 3 = entryFrame m (([.int a1, .int a2, .int a3] : List Value).toArray) 3 by rw [hargs], lg_entry_eq]
  generalize (lg_sl ([.int a1, .int a2, .int a3]) ++ List.replicate (3 - (lg_sl ([.int a1, .int a2, .int a3])).length) Slot.unset).toArray = ls at hl ⊢
  have hl : lv_has ls 3 [(0, .int a1), (1, .int a2), (2, .int a3)] := hl
  generalize hQ0 : MQ below (va_Qi (fun r (_ : Unit) => r = o.2) (fun _ t => Hold D aC A ad n o.1 t.heap) A) args s 0 0 A = Q0
  unfold f_PC_isOutside at h
  refine lv_iload_n hx hb d_PC_isOutside_0 rfl (lv_at hl 0 rfl) ?_
  refine lv_iload_n hx hb d_PC_isOutside_1 rfl (lv_at hl 1 rfl) ?_
  refine lv_icmp_lt (tgt := 10) hx hb d_PC_isOutside_2 (by decide) (fun c2 => ?_) (fun c2 => ?_)
  · have h := it h c2
    refine lv_iconst (v := 1) hx hb d_PC_isOutside_10 (by decide) ?_
    refine lv_goto (tgt := 15) hx hb d_PC_isOutside_11 (by decide) ?_
    cases h
    rw [← hQ0]
    exact W.zret hx hb hr rfl (fun t ht hW => ⟨⟨_, (), rfl, rfl, by dsimp only; rw [ht]; exact hH⟩, hS.F ht⟩) hS.2.2 d_PC_isOutside_15
  · have h := ie h c2
    refine lv_iload_n hx hb d_PC_isOutside_5 rfl (lv_at hl 0 rfl) ?_
    refine lv_iload_n hx hb d_PC_isOutside_6 rfl (lv_at hl 2 rfl) ?_
    refine lv_icmp_le (tgt := 14) hx hb d_PC_isOutside_7 (by decide) (fun c7 => ?_) (fun c7 => ?_)
    · have h := it h c7
      refine lv_iconst (v := 0) hx hb d_PC_isOutside_14 (by decide) ?_
      cases h
      rw [← hQ0]
      exact W.zret hx hb hr rfl (fun t ht hW => ⟨⟨_, (), rfl, rfl, by dsimp only; rw [ht]; exact hH⟩, hS.F ht⟩) hS.2.2 d_PC_isOutside_15
    · have h := ie h c7
      refine lv_iconst (v := 1) hx hb d_PC_isOutside_10 (by decide) ?_
      refine lv_goto (tgt := 15) hx hb d_PC_isOutside_11 (by decide) ?_
      cases h
      rw [← hQ0]
      exact W.zret hx hb hr rfl (fun t ht hW => ⟨⟨_, (), rfl, rfl, by dsimp only; rw [ht]; exact hH⟩, hS.F ht⟩) hS.2.2 d_PC_isOutside_15
set_option maxHeartbeats 4000000 in
set_option maxRecDepth 100000 in
theorem c_PC_keep (l : Launch) (D : va_G) (aC : Nat → ClassId) (A : Nat → Prop) (ad : Nat → Nat → Nat) (n : Nat) (σ : St) (ia1 : Nat) (hda1 : dm n 41 ia1) (o : St × Int32) (h : f_PC_keep σ ia1 = some o) : Met l y_PC_keep w_PC_keep rm_PC_keep (va_Pc [.ref (ad 0 0), .ref (ad 41 ia1)] (Pre D aC A ad n σ)) (va_Qi (fun r (_ : Unit) => r = o.2) (fun _ t => Hold D aC A ad n o.1 t.heap) A) 0 0 A := by
  refine Met.ofW (cc := prog_1_method_31_code) (maxL := 2) (ret := (some .int)) (by decide) rfl ?_
  intro p e s m args below meth c s₁ B hml hv
  obtain ⟨hargs, hH, hK, hZ⟩ := hv
  have hx := B.exec
  have hb := B.bytes
  have hr := B.returns
  have hts := atoms_spec (ws := w_PC_keep) B.pre
  have hg : ∀ w ∈ gW, w.before args s = true := fun w h => hts w (List.mem_cons_of_mem _ h)
  have hown : s.vm.findClass "PrefixCodes" = some m.cls := findClass_of_methodNamed B.named
  have hlocks := B.notSynchronized
  have hS : va_S A s.heap s.heap [] := va_S.rf
  have hl := lv_entry ([.ref (ad 0 0), .ref (ad 41 ia1)]) (n := 2) (Nat.le_of_ble_eq_true rfl)
  rw [show entryFrame m args 2 = entryFrame m (([.ref (ad 0 0), .ref (ad 41 ia1)] : List Value).toArray) 2 by rw [hargs], lg_entry_eq]
  generalize (lg_sl ([.ref (ad 0 0), .ref (ad 41 ia1)]) ++ List.replicate (2 - (lg_sl ([.ref (ad 0 0), .ref (ad 41 ia1)])).length) Slot.unset).toArray = ls at hl ⊢
  have hl : lv_has ls 2 [(0, .ref (ad 0 0)), (1, .ref (ad 41 ia1))] := hl
  generalize hQ0 : MQ below (va_Qi (fun r (_ : Unit) => r = o.2) (fun _ t => Hold D aC A ad n o.1 t.heap) A) args s 0 0 A = Q0
  unfold f_PC_keep at h
  refine lv_aload_n hx hb d_PC_keep_0 rfl (lv_at hl 0 rfl) ?_
  refine st_get hx hb hg hown hK hH (f := 0) (i := 0) hd_0 rfl rfl u_PC 1 (by decide) (hg _ wd_0) (v := .int (σ.1 0 0 1)) rfl d_PC_keep_1 ?_
  refine lv_bipush (v := 12) hx hb d_PC_keep_4 (by decide) ?_
  refine lv_icmp_lt (tgt := 12) hx hb d_PC_keep_6 (by decide) (fun c6 => ?_) (fun c6 => ?_)
  · have h := it h c6
    refine lv_aload_n hx hb d_PC_keep_12 rfl (lv_at hl 0 rfl) ?_
    refine st_get hx hb hg hown hK hH (f := 0) (i := 0) hd_0 rfl rfl u_PC 0 (by decide) (hg _ wd_1) (v := .ref (ad 1 0)) rfl d_PC_keep_13 ?_
    refine lv_aload_n hx hb d_PC_keep_16 rfl (lv_at hl 0 rfl) ?_
    refine st_get hx hb hg hown hK hH (f := 0) (i := 0) hd_0 rfl rfl u_PC 1 (by decide) (hg _ wd_0) (v := .int (σ.1 0 0 1)) rfl d_PC_keep_17 ?_
    refine lv_aload_n hx hb d_PC_keep_20 rfl (lv_at hl 1 rfl) ?_
    obtain ⟨g21, h⟩ := gd_some h
    refine st_aast hx hb hK hH hS (f := 1) (i := 0) hd_1 rfl rfl hda1 g21 d_PC_keep_21 (fun σ1 H locs eσ1 hH hS => ?_)
    have h := nm_at eσ1 h
    refine lv_aload_n hx hb d_PC_keep_22 rfl (lv_at hl 0 rfl) ?_
    refine lv_dup hx hb d_PC_keep_23 rfl ?_
    refine st_get hx hb hg hown hK hH (f := 0) (i := 0) hd_0 rfl rfl u_PC 1 (by decide) (hg _ wd_0) (v := .int (σ1.1 0 0 1)) rfl d_PC_keep_24 ?_
    refine lv_iconst (v := 1) hx hb d_PC_keep_27 (by decide) ?_
    refine lv_iadd hx hb d_PC_keep_28 ?_
    refine st_put hx hb hg hown hK hH hS (f := 0) (i := 0) hd_0 rfl rfl u_PC t_PC t_PC_ok n_PC 1 (by decide) (hg _ wd_0) rfl rfl rfl d_PC_keep_29 (fun σ2 H locs eσ2 hH hS => ?_)
    have h := nm_at eσ2 h
    refine lv_aload_n hx hb d_PC_keep_32 rfl (lv_at hl 0 rfl) ?_
    refine st_get hx hb hg hown hK hH (f := 0) (i := 0) hd_0 rfl rfl u_PC 1 (by decide) (hg _ wd_0) (v := .int (σ2.1 0 0 1)) rfl d_PC_keep_33 ?_
    refine lv_iconst (v := 1) hx hb d_PC_keep_36 (by decide) ?_
    refine lv_isub hx hb d_PC_keep_37 ?_
    cases h
    rw [← hQ0]
    exact W.iret hx hb hr (fun t ht hW => ⟨⟨_, (), rfl, rfl, by dsimp only; rw [ht]; exact hH⟩, hS.F ht⟩) hS.2.2 d_PC_keep_38
  · have h := ie h c6
    refine lv_bipush (v := (-106)) hx hb d_PC_keep_9 (by decide) ?_
    cases h
    rw [← hQ0]
    exact W.iret hx hb hr (fun t ht hW => ⟨⟨_, (), rfl, rfl, by dsimp only; rw [ht]; exact hH⟩, hS.F ht⟩) hS.2.2 d_PC_keep_11
set_option maxHeartbeats 4000000 in
set_option maxRecDepth 100000 in
theorem c_PC_codeAt (l : Launch) (D : va_G) (aC : Nat → ClassId) (A : Nat → Prop) (ad : Nat → Nat → Nat) (n : Nat) (σ : St) (a1 : Int32) (o : St × Option Nat) (h : f_PC_codeAt σ a1 = some o) : Met l y_PC_codeAt w_PC_codeAt rm_PC_codeAt (va_Pc [.ref (ad 0 0), .int a1] (Pre D aC A ad n σ)) (va_Qq (fun r (_ : Unit) => r = o.2.map (ad 41) ∧ ∀ j, o.2 = some j → dm n 41 j) (fun _ t => Hold D aC A ad n o.1 t.heap) A) 0 0 A := by
  refine Met.ofW (cc := prog_1_method_29_code) (maxL := 2) (ret := (some (.object "PrefixCodes$Code"))) (by decide) rfl ?_
  intro p e s m args below meth c s₁ B hml hv
  obtain ⟨hargs, hH, hK, hZ⟩ := hv
  have hx := B.exec
  have hb := B.bytes
  have hr := B.returns
  have hts := atoms_spec (ws := w_PC_codeAt) B.pre
  have hg : ∀ w ∈ gW, w.before args s = true := fun w h => hts w (List.mem_cons_of_mem _ h)
  have hown : s.vm.findClass "PrefixCodes" = some m.cls := findClass_of_methodNamed B.named
  have hlocks := B.notSynchronized
  have hS : va_S A s.heap s.heap [] := va_S.rf
  have hl := lv_entry ([.ref (ad 0 0), .int a1]) (n := 2) (Nat.le_of_ble_eq_true rfl)
  rw [show entryFrame m args 2 = entryFrame m (([.ref (ad 0 0), .int a1] : List Value).toArray) 2 by rw [hargs], lg_entry_eq]
  generalize (lg_sl ([.ref (ad 0 0), .int a1]) ++ List.replicate (2 - (lg_sl ([.ref (ad 0 0), .int a1])).length) Slot.unset).toArray = ls at hl ⊢
  have hl : lv_has ls 2 [(0, .ref (ad 0 0)), (1, .int a1)] := hl
  generalize hQ0 : MQ below (va_Qq (fun r (_ : Unit) => r = o.2.map (ad 41) ∧ ∀ j, o.2 = some j → dm n 41 j) (fun _ t => Hold D aC A ad n o.1 t.heap) A) args s 0 0 A = Q0
  unfold f_PC_codeAt at h
  refine lv_iload_n hx hb d_PC_codeAt_0 rfl (lv_at hl 1 rfl) ?_
  refine lv_iconst (v := 0) hx hb d_PC_codeAt_1 (by decide) ?_
  refine lv_aload_n hx hb d_PC_codeAt_2 rfl (lv_at hl 0 rfl) ?_
  refine st_get hx hb hg hown hK hH (f := 0) (i := 0) hd_0 rfl rfl u_PC 1 (by decide) (hg _ wd_0) (v := .int (σ.1 0 0 1)) rfl d_PC_codeAt_3 ?_
  refine lv_iconst (v := 1) hx hb d_PC_codeAt_6 (by decide) ?_
  refine lv_isub hx hb d_PC_codeAt_7 ?_
  obtain ⟨qc, hc8, h⟩ := b2_some h
  obtain ⟨σ1, x2⟩ := qc
  have h := b2_at h
  refine st_Si (As := [.int a1, .int 0, .int ((σ.1 0 0 1) - 1)]) (rest := []) ⟨hx, hb, hml, hown, hg⟩ (c_PC_isOutside l D aC A ad n _ a1 0 ((σ.1 0 0 1) - 1) _ hc8) (cwGS hg wd_2 wd_3 wd_5 wd_4 yd_PC_isOutside ⟨Nat.le_of_ble_eq_true rfl, Nat.le_of_ble_eq_true rfl⟩) hK hH hS hZ rfl hl.1 rfl (Nat.le_of_ble_eq_true rfl) d_PC_codeAt_8 ⟨Nat.zero_le _, Nat.zero_le _⟩ (fun H locs hH hS => ?_)
  refine lv_if_eq (tgt := 18) hx hb d_PC_codeAt_11 (by decide) (fun c11 => ?_) (fun c11 => ?_)
  · have h := it h c11
    refine lv_aload_n hx hb d_PC_codeAt_18 rfl (lv_at hl 0 rfl) ?_
    refine st_get hx hb hg hown hK hH (f := 0) (i := 0) hd_0 rfl rfl u_PC 0 (by decide) (hg _ wd_1) (v := .ref (ad 1 0)) rfl d_PC_codeAt_19 ?_
    refine lv_iload_n hx hb d_PC_codeAt_22 rfl (lv_at hl 1 rfl) ?_
    obtain ⟨g23, h⟩ := gd_some h
    obtain ⟨j3, c23, h⟩ := on_some h
    refine st_aald hx hb hK hH (f := 1) (i := 0) hd_1 rfl (by decide) g23 d_PC_codeAt_23 c23 (fun hdj3 => ?_)
    cases h
    rw [← hQ0]
    exact W.aret hx hb hr (Or.inl ⟨_, rfl⟩) (by first | exact Or.inl rfl | exact Or.inr ⟨_, rfl⟩) (fun t ht hW => ⟨⟨_, (), rfl, ⟨rfl, fun j hj => by first | (cases hj; done) | (cases hj; assumption)⟩, by dsimp only; rw [ht]; exact hH⟩, hS.F ht⟩) hS.2.2 d_PC_codeAt_24
  · have h := ie h c11
    refine lv_null hx hb d_PC_codeAt_14 ?_
    refine lv_goto (tgt := 24) hx hb d_PC_codeAt_15 (by decide) ?_
    cases h
    rw [← hQ0]
    exact W.aret hx hb hr (Or.inl ⟨_, rfl⟩) (by first | exact Or.inl rfl | exact Or.inr ⟨_, rfl⟩) (fun t ht hW => ⟨⟨_, (), rfl, ⟨rfl, fun j hj => by first | (cases hj; done) | (cases hj; assumption)⟩, by dsimp only; rw [ht]; exact hH⟩, hS.F ht⟩) hS.2.2 d_PC_codeAt_24
set_option maxHeartbeats 4000000 in
set_option maxRecDepth 100000 in
theorem c_PC_codeWith (l : Launch) (D : va_G) (aC : Nat → ClassId) (A : Nat → Prop) (ad : Nat → Nat → Nat) (n : Nat) (σ : St) (a1 : Int32) (a2 : Int32) (o : St × Option Nat) (h : f_PC_codeWith σ a1 a2 = some o) : Met l y_PC_codeWith w_PC_codeWith rm_PC_codeWith (va_Pc [.ref (ad 0 0), .int a1, .int a2] (Pre D aC A ad n σ)) (va_Qq (fun r (_ : Unit) => r = o.2.map (ad 41) ∧ ∀ j, o.2 = some j → dm n 41 j) (fun _ t => Hold D aC A ad n o.1 t.heap) A) 0 0 A := by
  refine Met.ofW (cc := prog_1_method_30_code) (maxL := 4) (ret := (some (.object "PrefixCodes$Code"))) (by decide) rfl ?_
  intro p e s m args below meth c s₁ B hml hv
  obtain ⟨hargs, hH, hK, hZ⟩ := hv
  have hx := B.exec
  have hb := B.bytes
  have hr := B.returns
  have hts := atoms_spec (ws := w_PC_codeWith) B.pre
  have hg : ∀ w ∈ gW, w.before args s = true := fun w h => hts w (List.mem_cons_of_mem _ h)
  have hown : s.vm.findClass "PrefixCodes" = some m.cls := findClass_of_methodNamed B.named
  have hlocks := B.notSynchronized
  have hS : va_S A s.heap s.heap [] := va_S.rf
  have hl := lv_entry ([.ref (ad 0 0), .int a1, .int a2]) (n := 4) (Nat.le_of_ble_eq_true rfl)
  rw [show entryFrame m args 4 = entryFrame m (([.ref (ad 0 0), .int a1, .int a2] : List Value).toArray) 4 by rw [hargs], lg_entry_eq]
  generalize (lg_sl ([.ref (ad 0 0), .int a1, .int a2]) ++ List.replicate (4 - (lg_sl ([.ref (ad 0 0), .int a1, .int a2])).length) Slot.unset).toArray = ls at hl ⊢
  have hl : lv_has ls 4 [(0, .ref (ad 0 0)), (1, .int a1), (2, .int a2)] := hl
  generalize hQ0 : MQ below (va_Qq (fun r (_ : Unit) => r = o.2.map (ad 41) ∧ ∀ j, o.2 = some j → dm n 41 j) (fun _ t => Hold D aC A ad n o.1 t.heap) A) args s 0 0 A = Q0
  unfold f_PC_codeWith at h
  refine lv_aload_n hx hb d_PC_codeWith_0 rfl (lv_at hl 0 rfl) ?_
  refine lv_iload_n hx hb d_PC_codeWith_1 rfl (lv_at hl 1 rfl) ?_
  obtain ⟨qc, hc2, h⟩ := b2_some h
  obtain ⟨σ1, o2⟩ := qc
  have h := b2_at h
  refine st_Vq (As := [.int a1]) (rest := []) ⟨hx, hb, hml, hown, hg⟩ (c_PC_codeAt l D aC A ad n _ a1 _ hc2) (cwG hg wd_7 wd_8 wd_9 wd_10 wd_4 yd_PC_codeAt ⟨Nat.le_of_ble_eq_true rfl, Nat.le_of_ble_eq_true rfl⟩) hK hH hS hZ hd_0 rfl rfl rfl hl.1 rfl (Nat.le_of_ble_eq_true rfl) d_PC_codeWith_2 ⟨Nat.zero_le _, Nat.zero_le _⟩ (fun c2 H locs hH hS => ?_) (fun j3 c2 hdj3 H locs hH hS => ?_)
  · have h := on_n h c2
    refine lv_astore_nN (lv' := [(3, .null), (0, .ref (ad 0 0)), (1, .int a1), (2, .int a2)]) hx hb d_PC_codeWith_5 rfl hl (by decide) rfl (fun ls hl => ?_)
    refine lv_aload_nN hx hb d_PC_codeWith_6 rfl (lv_at hl 0 rfl) ?_
    refine lv_ifnullN (tgt := 24) hx hb d_PC_codeWith_7 (by decide) ?_
    refine lv_null hx hb d_PC_codeWith_24 ?_
    refine lv_goto (tgt := 29) hx hb d_PC_codeWith_25 (by decide) ?_
    cases h
    rw [← hQ0]
    exact W.aret hx hb hr (Or.inl ⟨_, rfl⟩) (by first | exact Or.inl rfl | exact Or.inr ⟨_, rfl⟩) (fun t ht hW => ⟨⟨_, (), rfl, ⟨rfl, fun j hj => by first | (cases hj; done) | (cases hj; assumption)⟩, by dsimp only; rw [ht]; exact hH⟩, hS.F ht⟩) hS.2.2 d_PC_codeWith_29
  · have h := on_s h c2
    refine lv_astore_n (lv' := [(3, .ref (ad 41 j3)), (0, .ref (ad 0 0)), (1, .int a1), (2, .int a2)]) hx hb d_PC_codeWith_5 rfl hl (by decide) rfl (fun ls hl => ?_)
    refine lv_aload_n hx hb d_PC_codeWith_6 rfl (lv_at hl 0 rfl) ?_
    refine lv_ifnull hx hb d_PC_codeWith_7 ?_
    refine lv_iload_n hx hb d_PC_codeWith_10 rfl (lv_at hl 3 rfl) ?_
    refine lv_iconst (v := 0) hx hb d_PC_codeWith_11 (by decide) ?_
    refine lv_aload_n hx hb d_PC_codeWith_12 rfl (lv_at hl 0 rfl) ?_
    refine st_get hx hb hg hown hK hH (f := 41) (i := j3) hdj3 rfl rfl u_Code 0 (by decide) (hg _ wd_6) (v := .int (σ1.1 41 j3 0)) rfl d_PC_codeWith_13 ?_
    refine lv_iconst (v := 1) hx hb d_PC_codeWith_16 (by decide) ?_
    refine lv_isub hx hb d_PC_codeWith_17 ?_
    obtain ⟨qc, hc18, h⟩ := b2_some h
    obtain ⟨σ4, x5⟩ := qc
    have h := b2_at h
    refine st_Si (As := [.int a2, .int 0, .int ((σ1.1 41 j3 0) - 1)]) (rest := []) ⟨hx, hb, hml, hown, hg⟩ (c_PC_isOutside l D aC A ad n _ a2 0 ((σ1.1 41 j3 0) - 1) _ hc18) (cwGS hg wd_2 wd_3 wd_5 wd_4 yd_PC_isOutside ⟨Nat.le_of_ble_eq_true rfl, Nat.le_of_ble_eq_true rfl⟩) hK hH hS hZ rfl hl.1 rfl (Nat.le_of_ble_eq_true rfl) d_PC_codeWith_18 ⟨Nat.zero_le _, Nat.zero_le _⟩ (fun H locs hH hS => ?_)
    refine lv_if_eq (tgt := 28) hx hb d_PC_codeWith_21 (by decide) (fun c21 => ?_) (fun c21 => ?_)
    · have h := it h c21
      refine lv_aload_n hx hb d_PC_codeWith_28 rfl (lv_at hl 0 rfl) ?_
      cases h
      rw [← hQ0]
      exact W.aret hx hb hr (Or.inl ⟨_, rfl⟩) (by first | exact Or.inl rfl | exact Or.inr ⟨_, rfl⟩) (fun t ht hW => ⟨⟨_, (), rfl, ⟨rfl, fun j hj => by first | (cases hj; done) | (cases hj; assumption)⟩, by dsimp only; rw [ht]; exact hH⟩, hS.F ht⟩) hS.2.2 d_PC_codeWith_29
    · have h := ie h c21
      refine lv_null hx hb d_PC_codeWith_24 ?_
      refine lv_goto (tgt := 29) hx hb d_PC_codeWith_25 (by decide) ?_
      cases h
      rw [← hQ0]
      exact W.aret hx hb hr (Or.inl ⟨_, rfl⟩) (by first | exact Or.inl rfl | exact Or.inr ⟨_, rfl⟩) (fun t ht hW => ⟨⟨_, (), rfl, ⟨rfl, fun j hj => by first | (cases hj; done) | (cases hj; assumption)⟩, by dsimp only; rw [ht]; exact hH⟩, hS.F ht⟩) hS.2.2 d_PC_codeWith_29
set_option maxHeartbeats 4000000 in
set_option maxRecDepth 100000 in
theorem c_Code_countLengths (l : Launch) (D : va_G) (aC : Nat → ClassId) (A : Nat → Prop) (ad : Nat → Nat → Nat) (n : Nat) (σ : St) (iT : Nat) (hdT : dm n 41 iT) (o : St) (h : f_Code_countLengths σ iT = some o) : Met l y_Code_countLengths w_Code_countLengths rm_Code_countLengths (va_Pc [.ref (ad 41 iT)] (Pre D aC A ad n σ)) (va_Qv (fun (_ : Unit) => True) (fun _ t => Hold D aC A ad n o t.heap) A) 0 0 A := by
  refine Met.ofW (cc := prog_3_method_3_code) (maxL := 2) (ret := none) (by decide) rfl ?_
  intro p e s m args below meth c s₁ B hml hv
  obtain ⟨hargs, hH, hK, hZ⟩ := hv
  have hx := B.exec
  have hb := B.bytes
  have hr := B.returns
  have hts := atoms_spec (ws := w_Code_countLengths) B.pre
  have hg : ∀ w ∈ gW, w.before args s = true := fun w h => hts w (List.mem_cons_of_mem _ h)
  have hown : s.vm.findClass "PrefixCodes$Code" = some m.cls := findClass_of_methodNamed B.named
  have hlocks := B.notSynchronized
  have hS : va_S A s.heap s.heap [] := va_S.rf
  have hl := lv_entry ([.ref (ad 41 iT)]) (n := 2) (Nat.le_of_ble_eq_true rfl)
  rw [show entryFrame m args 2 = entryFrame m (([.ref (ad 41 iT)] : List Value).toArray) 2 by rw [hargs], lg_entry_eq]
  generalize (lg_sl ([.ref (ad 41 iT)]) ++ List.replicate (2 - (lg_sl ([.ref (ad 41 iT)])).length) Slot.unset).toArray = ls at hl ⊢
  have hl : lv_has ls 2 [(0, .ref (ad 41 iT))] := hl
  generalize hQ0 : MQ below (va_Qv (fun (_ : Unit) => True) (fun _ t => Hold D aC A ad n o t.heap) A) args s 0 0 A = Q0
  unfold f_Code_countLengths at h
  refine lv_aload_n hx hb d_Code_countLengths_0 rfl (lv_at hl 0 rfl) ?_
  refine st_get hx hb hg hown hK hH (f := 41) (i := iT) hdT rfl rfl u_Code 4 (by decide) (hg _ wd_11) (v := .ref (ad 45 iT)) rfl d_Code_countLengths_1 ?_
  refine lv_iconst (v := 0) hx hb d_Code_countLengths_4 (by decide) ?_
  obtain ⟨qc, hc5, h⟩ := b1_some h
  obtain ⟨σ1, rfl⟩ : ∃ z, z = qc := ⟨_, rfl⟩
  have h := b1_at h
  refine st_Sv (As := [.ref (ad 45 iT), .int 0]) (rest := []) ⟨hx, hb, hml, hown, hg⟩ (c_Arrays_fill l D aC A ad n _ 45 iT 16 0 rfl hdT _ hc5) (cwGS hg wd_14 wd_15 wd_17 wd_16 yd_Arrays_fill ⟨Nat.le_of_ble_eq_true rfl, Nat.le_of_ble_eq_true rfl⟩) hK hH hS hZ rfl hl.1 rfl (Nat.le_of_ble_eq_true rfl) d_Code_countLengths_5 ⟨Nat.zero_le _, Nat.zero_le _⟩ (fun H locs hH hS => ?_)
  refine lv_iconst (v := 0) hx hb d_Code_countLengths_8 (by decide) ?_
  refine lv_istore_n (lv' := [(1, .int 0), (0, .ref (ad 41 iT))]) hx hb d_Code_countLengths_9 rfl hl (by decide) rfl (fun ls hl => ?_)
  obtain ⟨q1, hq1, h⟩ := b2_some h
  have K1 : ∀ (σ4 : St) (x5 : Int32) (H : Heap) (locs : List Loc) (ls : Array Slot), q1 = (σ4, x5) → Hold D aC A ad n σ4 H → va_S A s.heap H locs → lv_has ls 2 [(0, .ref (ad 41 iT)), (1, .int x5)] → W p l e (headSpec w_Code_countLengths rm_Code_countLengths).room s m args below meth c H locs 0 0 Q0 (F0 m 39 ls []) := by
    intro σ4 x5 H locs ls eq1 hH hS hl
    subst eq1
    have h := b2_at h
    cases h
    rw [← hQ0]
    exact W.vret hx hb hr (fun t ht hW => ⟨⟨(), rfl, trivial, by dsimp only; rw [ht]; exact hH⟩, hS.F ht⟩) hS.2.2 d_Code_countLengths_39
  have loop1 : ∀ (k : Nat) (σ : St) (v1 : Int32) (H : Heap) (locs : List Loc) (ls : Array Slot), Hold D aC A ad n σ H → va_S A s.heap H locs → lv_has ls 2 [(0, .ref (ad 41 iT)), (1, .int v1)] → lp (fun q => lb_Code_countLengths_10 iT q.1 q.2) k (σ, v1) = some q1 → W p l e (headSpec w_Code_countLengths rm_Code_countLengths).room s m args below meth c H locs 0 0 Q0 (F0 m 10 ls []) := by
    intro k
    induction k with
    | zero => intro σ v1 H locs ls hH hS hl hlp; exact absurd hlp (lp_zero _ _ _)
    | succ k ih1 =>
      intro σ v1 H locs ls hH hS hl hlp
      obtain ⟨z1, h1, hk1⟩ := lp_succ hlp
      have h1 : lb_Code_countLengths_10 iT σ v1 = some z1 := h1
      unfold lb_Code_countLengths_10 at h1
      refine lv_iload_n hx hb d_Code_countLengths_10 rfl (lv_at hl 1 rfl) ?_
      refine lv_aload_n hx hb d_Code_countLengths_11 rfl (lv_at hl 0 rfl) ?_
      refine st_get hx hb hg hown hK hH (f := 41) (i := iT) hdT rfl rfl u_Code 0 (by decide) (hg _ wd_12) (v := .int (σ.1 41 iT 0)) rfl d_Code_countLengths_12 ?_
      refine lv_icmp_ge (tgt := 39) hx hb d_Code_countLengths_15 (by decide) (fun c15 => ?_) (fun c15 => ?_)
      · have h1 := it h1 c15
        cases h1
        exact K1 σ v1 _ _ ls (Option.some.inj hk1).symm hH hS (lv_sub hl [0, 1] rfl)
      · have h1 := ie h1 c15
        refine lv_aload_n hx hb d_Code_countLengths_18 rfl (lv_at hl 0 rfl) ?_
        refine st_get hx hb hg hown hK hH (f := 41) (i := iT) hdT rfl rfl u_Code 4 (by decide) (hg _ wd_11) (v := .ref (ad 45 iT)) rfl d_Code_countLengths_19 ?_
        refine lv_aload_n hx hb d_Code_countLengths_22 rfl (lv_at hl 0 rfl) ?_
        refine st_get hx hb hg hown hK hH (f := 41) (i := iT) hdT rfl rfl u_Code 1 (by decide) (hg _ wd_13) (v := .ref (ad 42 iT)) rfl d_Code_countLengths_23 ?_
        refine lv_iload_n hx hb d_Code_countLengths_26 rfl (lv_at hl 1 rfl) ?_
        obtain ⟨g27, h1⟩ := gd_some h1
        refine st_iald hx hb hK hH (f := 42) (i := iT) hdT rfl g27 d_Code_countLengths_27 ?_
        refine lv_dup2_11 hx hb d_Code_countLengths_28 rfl rfl ?_
        obtain ⟨g29, h1⟩ := gd_some h1
        refine st_iald hx hb hK hH (f := 45) (i := iT) hdT rfl g29 d_Code_countLengths_29 ?_
        refine lv_iconst (v := 1) hx hb d_Code_countLengths_30 (by decide) ?_
        refine lv_iadd hx hb d_Code_countLengths_31 ?_
        obtain ⟨g32, h1⟩ := gd_some h1
        refine st_iast hx hb hK hH hS (f := 45) (i := iT) hdT rfl g32 d_Code_countLengths_32 (fun σ2 H locs eσ2 hH hS => ?_)
        have h1 := nm_at eσ2 h1
        obtain ⟨x3, ex3⟩ : ∃ y : Int32, y = v1 + 1 := ⟨_, rfl⟩
        have h1 := nm_at ex3 h1
        refine lv_iinc (v := x3) (lv' := [(1, .int x3), (0, .ref (ad 41 iT))]) hx hb d_Code_countLengths_33 hl (k := 1) rfl (by rw [ex3]; rfl) (by decide) rfl (fun ls hl => ?_)
        refine lv_goto (tgt := 10) hx hb d_Code_countLengths_36 (by decide) ?_
        cases h1
        exact ih1 σ2 x3 _ _ ls hH hS (lv_sub hl [1, 0] rfl) hk1
  obtain ⟨k1, hq1⟩ := lpE_some hq1
  exact loop1 k1 σ1 0 _ _ ls hH hS (lv_sub hl [1, 0] rfl) hq1
set_option maxHeartbeats 4000000 in
set_option maxRecDepth 100000 in
theorem c_Code_placeLengths (l : Launch) (D : va_G) (aC : Nat → ClassId) (A : Nat → Prop) (ad : Nat → Nat → Nat) (n : Nat) (σ : St) (iT : Nat) (hdT : dm n 41 iT) (o : St) (h : f_Code_placeLengths σ iT = some o) : Met l y_Code_placeLengths w_Code_placeLengths rm_Code_placeLengths (va_Pc [.ref (ad 41 iT)] (Pre D aC A ad n σ)) (va_Qv (fun (_ : Unit) => True) (fun _ t => Hold D aC A ad n o t.heap) A) 0 0 A := by
  refine Met.ofW (cc := prog_3_method_4_code) (maxL := 3) (ret := none) (by decide) rfl ?_
  intro p e s m args below meth c s₁ B hml hv
  obtain ⟨hargs, hH, hK, hZ⟩ := hv
  have hx := B.exec
  have hb := B.bytes
  have hr := B.returns
  have hts := atoms_spec (ws := w_Code_placeLengths) B.pre
  have hg : ∀ w ∈ gW, w.before args s = true := fun w h => hts w (List.mem_cons_of_mem _ h)
  have hown : s.vm.findClass "PrefixCodes$Code" = some m.cls := findClass_of_methodNamed B.named
  have hlocks := B.notSynchronized
  have hS : va_S A s.heap s.heap [] := va_S.rf
  have hl := lv_entry ([.ref (ad 41 iT)]) (n := 3) (Nat.le_of_ble_eq_true rfl)
  rw [show entryFrame m args 3 = entryFrame m (([.ref (ad 41 iT)] : List Value).toArray) 3 by rw [hargs], lg_entry_eq]
  generalize (lg_sl ([.ref (ad 41 iT)]) ++ List.replicate (3 - (lg_sl ([.ref (ad 41 iT)])).length) Slot.unset).toArray = ls at hl ⊢
  have hl : lv_has ls 3 [(0, .ref (ad 41 iT))] := hl
  generalize hQ0 : MQ below (va_Qv (fun (_ : Unit) => True) (fun _ t => Hold D aC A ad n o t.heap) A) args s 0 0 A = Q0
  unfold f_Code_placeLengths at h
  refine lv_aload_n hx hb d_Code_placeLengths_0 rfl (lv_at hl 0 rfl) ?_
  refine lv_iconst (v := 0) hx hb d_Code_placeLengths_1 (by decide) ?_
  refine st_put hx hb hg hown hK hH hS (f := 41) (i := iT) hdT rfl rfl u_Code t_Code t_Code_ok n_Code 7 (by decide) (hg _ wd_18) rfl rfl rfl d_Code_placeLengths_2 (fun σ1 H locs eσ1 hH hS => ?_)
  have h := nm_at eσ1 h
  refine lv_aload_n hx hb d_Code_placeLengths_5 rfl (lv_at hl 0 rfl) ?_
  refine lv_iconst (v := 0) hx hb d_Code_placeLengths_6 (by decide) ?_
  refine st_put hx hb hg hown hK hH hS (f := 41) (i := iT) hdT rfl rfl u_Code t_Code t_Code_ok n_Code 8 (by decide) (hg _ wd_19) rfl rfl rfl d_Code_placeLengths_7 (fun σ2 H locs eσ2 hH hS => ?_)
  have h := nm_at eσ2 h
  refine lv_aload_n hx hb d_Code_placeLengths_10 rfl (lv_at hl 0 rfl) ?_
  refine lv_iconst (v := 0) hx hb d_Code_placeLengths_11 (by decide) ?_
  refine st_put hx hb hg hown hK hH hS (f := 41) (i := iT) hdT rfl rfl u_Code t_Code t_Code_ok n_Code 9 (by decide) (hg _ wd_20) rfl rfl rfl d_Code_placeLengths_12 (fun σ3 H locs eσ3 hH hS => ?_)
  have h := nm_at eσ3 h
  refine lv_iconst (v := 0) hx hb d_Code_placeLengths_15 (by decide) ?_
  refine lv_istore_n (lv' := [(1, .int 0), (0, .ref (ad 41 iT))]) hx hb d_Code_placeLengths_16 rfl hl (by decide) rfl (fun ls hl => ?_)
  refine lv_iconst (v := 1) hx hb d_Code_placeLengths_17 (by decide) ?_
  refine lv_istore_n (lv' := [(2, .int 1), (1, .int 0), (0, .ref (ad 41 iT))]) hx hb d_Code_placeLengths_18 rfl hl (by decide) rfl (fun ls hl => ?_)
  obtain ⟨q1, hq1, h⟩ := b3_some h
  have K1 : ∀ (σ13 : St) (x14 : Int32) (x15 : Int32) (H : Heap) (locs : List Loc) (ls : Array Slot), q1 = (σ13, x14, x15) → Hold D aC A ad n σ13 H → va_S A s.heap H locs → lv_has ls 3 [(0, .ref (ad 41 iT)), (1, .int x14), (2, .int x15)] → W p l e (headSpec w_Code_placeLengths rm_Code_placeLengths).room s m args below meth c H locs 0 0 Q0 (F0 m 110 ls []) := by
    intro σ13 x14 x15 H locs ls eq1 hH hS hl
    subst eq1
    have h := b3_at h
    cases h
    rw [← hQ0]
    exact W.vret hx hb hr (fun t ht hW => ⟨⟨(), rfl, trivial, by dsimp only; rw [ht]; exact hH⟩, hS.F ht⟩) hS.2.2 d_Code_placeLengths_110
  have loop1 : ∀ (k : Nat) (σ : St) (v1 : Int32) (v2 : Int32) (H : Heap) (locs : List Loc) (ls : Array Slot), Hold D aC A ad n σ H → va_S A s.heap H locs → lv_has ls 3 [(0, .ref (ad 41 iT)), (1, .int v1), (2, .int v2)] → lp (fun q => lb_Code_placeLengths_19 iT q.1 q.2.1 q.2.2) k (σ, v1, v2) = some q1 → W p l e (headSpec w_Code_placeLengths rm_Code_placeLengths).room s m args below meth c H locs 0 0 Q0 (F0 m 19 ls []) := by
    intro k
    induction k with
    | zero => intro σ v1 v2 H locs ls hH hS hl hlp; exact absurd hlp (lp_zero _ _ _)
    | succ k ih1 =>
      intro σ v1 v2 H locs ls hH hS hl hlp
      obtain ⟨z1, h1, hk1⟩ := lp_succ hlp
      have h1 : lb_Code_placeLengths_19 iT σ v1 v2 = some z1 := h1
      unfold lb_Code_placeLengths_19 at h1
      refine lv_iload_n hx hb d_Code_placeLengths_19 rfl (lv_at hl 2 rfl) ?_
      refine lv_bipush (v := 15) hx hb d_Code_placeLengths_20 (by decide) ?_
      refine lv_icmp_gt (tgt := 110) hx hb d_Code_placeLengths_22 (by decide) (fun c22 => ?_) (fun c22 => ?_)
      · have h1 := it h1 c22
        cases h1
        exact K1 σ v1 v2 _ _ ls (Option.some.inj hk1).symm hH hS (lv_sub hl [0, 1, 2] rfl)
      · have h1 := ie h1 c22
        refine lv_iload_n hx hb d_Code_placeLengths_25 rfl (lv_at hl 1 rfl) ?_
        refine lv_iconst (v := 1) hx hb d_Code_placeLengths_26 (by decide) ?_
        refine lv_ishl hx hb d_Code_placeLengths_27 ?_
        refine lv_topi (fun x4 ex4 => ?_)
        have h1 := nm_at ex4 h1
        refine lv_istore_n (lv' := [(1, .int x4), (0, .ref (ad 41 iT)), (2, .int v2)]) hx hb d_Code_placeLengths_28 rfl hl (by decide) rfl (fun ls hl => ?_)
        refine lv_aload_n hx hb d_Code_placeLengths_29 rfl (lv_at hl 1 rfl) ?_
        refine st_get hx hb hg hown hK hH (f := 41) (i := iT) hdT rfl rfl u_Code 5 (by decide) (hg _ wd_21) (v := .ref (ad 46 iT)) rfl d_Code_placeLengths_30 ?_
        refine lv_iload_n hx hb d_Code_placeLengths_33 rfl (lv_at hl 2 rfl) ?_
        refine lv_iload_n hx hb d_Code_placeLengths_34 rfl (lv_at hl 0 rfl) ?_
        obtain ⟨g35, h1⟩ := gd_some h1
        refine st_iast hx hb hK hH hS (f := 46) (i := iT) hdT rfl g35 d_Code_placeLengths_35 (fun σ5 H locs eσ5 hH hS => ?_)
        have h1 := nm_at eσ5 h1
        refine lv_aload_n hx hb d_Code_placeLengths_36 rfl (lv_at hl 1 rfl) ?_
        refine st_get hx hb hg hown hK hH (f := 41) (i := iT) hdT rfl rfl u_Code 6 (by decide) (hg _ wd_22) (v := .ref (ad 47 iT)) rfl d_Code_placeLengths_37 ?_
        refine lv_iload_n hx hb d_Code_placeLengths_40 rfl (lv_at hl 2 rfl) ?_
        refine lv_aload_n hx hb d_Code_placeLengths_41 rfl (lv_at hl 1 rfl) ?_
        refine st_get hx hb hg hown hK hH (f := 41) (i := iT) hdT rfl rfl u_Code 8 (by decide) (hg _ wd_19) (v := .int (σ5.1 41 iT 8)) rfl d_Code_placeLengths_42 ?_
        obtain ⟨g45, h1⟩ := gd_some h1
        refine st_iast hx hb hK hH hS (f := 47) (i := iT) hdT rfl g45 d_Code_placeLengths_45 (fun σ6 H locs eσ6 hH hS => ?_)
        have h1 := nm_at eσ6 h1
        refine lv_iload_n hx hb d_Code_placeLengths_46 rfl (lv_at hl 0 rfl) ?_
        refine lv_aload_n hx hb d_Code_placeLengths_47 rfl (lv_at hl 1 rfl) ?_
        refine st_get hx hb hg hown hK hH (f := 41) (i := iT) hdT rfl rfl u_Code 4 (by decide) (hg _ wd_11) (v := .ref (ad 45 iT)) rfl d_Code_placeLengths_48 ?_
        refine lv_iload_n hx hb d_Code_placeLengths_51 rfl (lv_at hl 2 rfl) ?_
        obtain ⟨g52, h1⟩ := gd_some h1
        refine st_iald hx hb hK hH (f := 45) (i := iT) hdT rfl g52 d_Code_placeLengths_52 ?_
        refine lv_iadd hx hb d_Code_placeLengths_53 ?_
        refine lv_topi (fun x7 ex7 => ?_)
        have h1 := nm_at ex7 h1
        refine lv_istore_n (lv' := [(1, .int x7), (0, .ref (ad 41 iT)), (2, .int v2)]) hx hb d_Code_placeLengths_54 rfl hl (by decide) rfl (fun ls hl => ?_)
        refine lv_aload_n hx hb d_Code_placeLengths_55 rfl (lv_at hl 1 rfl) ?_
        refine lv_dup hx hb d_Code_placeLengths_56 rfl ?_
        refine st_get hx hb hg hown hK hH (f := 41) (i := iT) hdT rfl rfl u_Code 8 (by decide) (hg _ wd_19) (v := .int (σ6.1 41 iT 8)) rfl d_Code_placeLengths_57 ?_
        refine lv_aload_n hx hb d_Code_placeLengths_60 rfl (lv_at hl 1 rfl) ?_
        refine st_get hx hb hg hown hK hH (f := 41) (i := iT) hdT rfl rfl u_Code 4 (by decide) (hg _ wd_11) (v := .ref (ad 45 iT)) rfl d_Code_placeLengths_61 ?_
        refine lv_iload_n hx hb d_Code_placeLengths_64 rfl (lv_at hl 2 rfl) ?_
        obtain ⟨g65, h1⟩ := gd_some h1
        refine st_iald hx hb hK hH (f := 45) (i := iT) hdT rfl g65 d_Code_placeLengths_65 ?_
        refine lv_iadd hx hb d_Code_placeLengths_66 ?_
        refine st_put hx hb hg hown hK hH hS (f := 41) (i := iT) hdT rfl rfl u_Code t_Code t_Code_ok n_Code 8 (by decide) (hg _ wd_19) rfl rfl rfl d_Code_placeLengths_67 (fun σ8 H locs eσ8 hH hS => ?_)
        have h1 := nm_at eσ8 h1
        refine lv_aload_n hx hb d_Code_placeLengths_70 rfl (lv_at hl 1 rfl) ?_
        refine lv_dup hx hb d_Code_placeLengths_71 rfl ?_
        refine st_get hx hb hg hown hK hH (f := 41) (i := iT) hdT rfl rfl u_Code 7 (by decide) (hg _ wd_18) (v := .int (σ8.1 41 iT 7)) rfl d_Code_placeLengths_72 ?_
        refine lv_aload_n hx hb d_Code_placeLengths_75 rfl (lv_at hl 1 rfl) ?_
        refine st_get hx hb hg hown hK hH (f := 41) (i := iT) hdT rfl rfl u_Code 4 (by decide) (hg _ wd_11) (v := .ref (ad 45 iT)) rfl d_Code_placeLengths_76 ?_
        refine lv_iload_n hx hb d_Code_placeLengths_79 rfl (lv_at hl 2 rfl) ?_
        obtain ⟨g80, h1⟩ := gd_some h1
        refine st_iald hx hb hK hH (f := 45) (i := iT) hdT rfl g80 d_Code_placeLengths_80 ?_
        refine lv_bipush (v := 15) hx hb d_Code_placeLengths_81 (by decide) ?_
        refine lv_iload_n hx hb d_Code_placeLengths_83 rfl (lv_at hl 2 rfl) ?_
        refine lv_isub hx hb d_Code_placeLengths_84 ?_
        refine lv_ishl hx hb d_Code_placeLengths_85 ?_
        refine lv_iadd hx hb d_Code_placeLengths_86 ?_
        refine st_put hx hb hg hown hK hH hS (f := 41) (i := iT) hdT rfl rfl u_Code t_Code t_Code_ok n_Code 7 (by decide) (hg _ wd_18) rfl rfl rfl d_Code_placeLengths_87 (fun σ9 H locs eσ9 hH hS => ?_)
        have h1 := nm_at eσ9 h1
        refine lv_aload_n hx hb d_Code_placeLengths_90 rfl (lv_at hl 1 rfl) ?_
        refine st_get hx hb hg hown hK hH (f := 41) (i := iT) hdT rfl rfl u_Code 4 (by decide) (hg _ wd_11) (v := .ref (ad 45 iT)) rfl d_Code_placeLengths_91 ?_
        refine lv_iload_n hx hb d_Code_placeLengths_94 rfl (lv_at hl 2 rfl) ?_
        obtain ⟨g95, h1⟩ := gd_some h1
        refine st_iald hx hb hK hH (f := 45) (i := iT) hdT rfl g95 d_Code_placeLengths_95 ?_
        refine lv_if_le (tgt := 104) hx hb d_Code_placeLengths_96 (by decide) (fun c96 => ?_) (fun c96 => ?_)
        · have h1 := it h1 c96
          obtain ⟨x10, ex10⟩ : ∃ y : Int32, y = v2 + 1 := ⟨_, rfl⟩
          have h1 := nm_at ex10 h1
          refine lv_iinc (v := x10) (lv' := [(2, .int x10), (1, .int x7), (0, .ref (ad 41 iT))]) hx hb d_Code_placeLengths_104 hl (k := 2) rfl (by rw [ex10]; rfl) (by decide) rfl (fun ls hl => ?_)
          refine lv_goto (tgt := 19) hx hb d_Code_placeLengths_107 (by decide) ?_
          cases h1
          exact ih1 σ9 x7 x10 _ _ ls hH hS (lv_sub hl [2, 1, 0] rfl) hk1
        · have h1 := ie h1 c96
          refine lv_aload_n hx hb d_Code_placeLengths_99 rfl (lv_at hl 1 rfl) ?_
          refine lv_iload_n hx hb d_Code_placeLengths_100 rfl (lv_at hl 2 rfl) ?_
          refine st_put hx hb hg hown hK hH hS (f := 41) (i := iT) hdT rfl rfl u_Code t_Code t_Code_ok n_Code 9 (by decide) (hg _ wd_20) rfl rfl rfl d_Code_placeLengths_101 (fun σ11 H locs eσ11 hH hS => ?_)
          have h1 := nm_at eσ11 h1
          obtain ⟨x12, ex12⟩ : ∃ y : Int32, y = v2 + 1 := ⟨_, rfl⟩
          have h1 := nm_at ex12 h1
          refine lv_iinc (v := x12) (lv' := [(2, .int x12), (1, .int x7), (0, .ref (ad 41 iT))]) hx hb d_Code_placeLengths_104 hl (k := 2) rfl (by rw [ex12]; rfl) (by decide) rfl (fun ls hl => ?_)
          refine lv_goto (tgt := 19) hx hb d_Code_placeLengths_107 (by decide) ?_
          cases h1
          exact ih1 σ11 x7 x12 _ _ ls hH hS (lv_sub hl [2, 1, 0] rfl) hk1
  obtain ⟨k1, hq1⟩ := lpE_some hq1
  exact loop1 k1 σ3 0 1 _ _ ls hH hS (lv_sub hl [2, 1, 0] rfl) hq1
set_option maxHeartbeats 4000000 in
set_option maxRecDepth 100000 in
theorem c_Code_nameSymbols (l : Launch) (D : va_G) (aC : Nat → ClassId) (A : Nat → Prop) (ad : Nat → Nat → Nat) (n : Nat) (σ : St) (iT : Nat) (hdT : dm n 41 iT) (o : St) (h : f_Code_nameSymbols σ iT = some o) : Met l y_Code_nameSymbols w_Code_nameSymbols rm_Code_nameSymbols (va_Pc [.ref (ad 41 iT)] (Pre D aC A ad n σ)) (va_Qv (fun (_ : Unit) => True) (fun _ t => Hold D aC A ad n o t.heap) A) 0 0 A := by
  refine Met.ofW (cc := prog_3_method_5_code) (maxL := 3) (ret := none) (by decide) rfl ?_
  intro p e s m args below meth c s₁ B hml hv
  obtain ⟨hargs, hH, hK, hZ⟩ := hv
  have hx := B.exec
  have hb := B.bytes
  have hr := B.returns
  have hts := atoms_spec (ws := w_Code_nameSymbols) B.pre
  have hg : ∀ w ∈ gW, w.before args s = true := fun w h => hts w (List.mem_cons_of_mem _ h)
  have hown : s.vm.findClass "PrefixCodes$Code" = some m.cls := findClass_of_methodNamed B.named
  have hlocks := B.notSynchronized
  have hS : va_S A s.heap s.heap [] := va_S.rf
  have hl := lv_entry ([.ref (ad 41 iT)]) (n := 3) (Nat.le_of_ble_eq_true rfl)
  rw [show entryFrame m args 3 = entryFrame m (([.ref (ad 41 iT)] : List Value).toArray) 3 by rw [hargs], lg_entry_eq]
  generalize (lg_sl ([.ref (ad 41 iT)]) ++ List.replicate (3 - (lg_sl ([.ref (ad 41 iT)])).length) Slot.unset).toArray = ls at hl ⊢
  have hl : lv_has ls 3 [(0, .ref (ad 41 iT))] := hl
  generalize hQ0 : MQ below (va_Qv (fun (_ : Unit) => True) (fun _ t => Hold D aC A ad n o t.heap) A) args s 0 0 A = Q0
  unfold f_Code_nameSymbols at h
  refine lv_aload_n hx hb d_Code_nameSymbols_0 rfl (lv_at hl 0 rfl) ?_
  refine st_get hx hb hg hown hK hH (f := 41) (i := iT) hdT rfl rfl u_Code 4 (by decide) (hg _ wd_11) (v := .ref (ad 45 iT)) rfl d_Code_nameSymbols_1 ?_
  refine lv_iconst (v := 0) hx hb d_Code_nameSymbols_4 (by decide) ?_
  obtain ⟨qc, hc5, h⟩ := b1_some h
  obtain ⟨σ1, rfl⟩ : ∃ z, z = qc := ⟨_, rfl⟩
  have h := b1_at h
  refine st_Sv (As := [.ref (ad 45 iT), .int 0]) (rest := []) ⟨hx, hb, hml, hown, hg⟩ (c_Arrays_fill l D aC A ad n _ 45 iT 16 0 rfl hdT _ hc5) (cwGS hg wd_14 wd_15 wd_17 wd_16 yd_Arrays_fill ⟨Nat.le_of_ble_eq_true rfl, Nat.le_of_ble_eq_true rfl⟩) hK hH hS hZ rfl hl.1 rfl (Nat.le_of_ble_eq_true rfl) d_Code_nameSymbols_5 ⟨Nat.zero_le _, Nat.zero_le _⟩ (fun H locs hH hS => ?_)
  refine lv_iconst (v := 0) hx hb d_Code_nameSymbols_8 (by decide) ?_
  refine lv_istore_n (lv' := [(1, .int 0), (0, .ref (ad 41 iT))]) hx hb d_Code_nameSymbols_9 rfl hl (by decide) rfl (fun ls hl => ?_)
  obtain ⟨q1, hq1, h⟩ := b2_some h
  have K1 : ∀ (σ8 : St) (x9 : Int32) (H : Heap) (locs : List Loc) (ls : Array Slot), q1 = (σ8, x9) → Hold D aC A ad n σ8 H → va_S A s.heap H locs → lv_has ls 3 [(0, .ref (ad 41 iT)), (1, .int x9)] → W p l e (headSpec w_Code_nameSymbols rm_Code_nameSymbols).room s m args below meth c H locs 0 0 Q0 (F0 m 83 ls []) := by
    intro σ8 x9 H locs ls eq1 hH hS hl
    subst eq1
    have h := b2_at h
    cases h
    rw [← hQ0]
    exact W.vret hx hb hr (fun t ht hW => ⟨⟨(), rfl, trivial, by dsimp only; rw [ht]; exact hH⟩, hS.F ht⟩) hS.2.2 d_Code_nameSymbols_83
  have loop1 : ∀ (k : Nat) (σ : St) (v1 : Int32) (H : Heap) (locs : List Loc) (ls : Array Slot), Hold D aC A ad n σ H → va_S A s.heap H locs → lv_has ls 3 [(0, .ref (ad 41 iT)), (1, .int v1)] → lp (fun q => lb_Code_nameSymbols_10 iT q.1 q.2) k (σ, v1) = some q1 → W p l e (headSpec w_Code_nameSymbols rm_Code_nameSymbols).room s m args below meth c H locs 0 0 Q0 (F0 m 10 ls []) := by
    intro k
    induction k with
    | zero => intro σ v1 H locs ls hH hS hl hlp; exact absurd hlp (lp_zero _ _ _)
    | succ k ih1 =>
      intro σ v1 H locs ls hH hS hl hlp
      obtain ⟨z1, h1, hk1⟩ := lp_succ hlp
      have h1 : lb_Code_nameSymbols_10 iT σ v1 = some z1 := h1
      unfold lb_Code_nameSymbols_10 at h1
      refine lv_iload_n hx hb d_Code_nameSymbols_10 rfl (lv_at hl 1 rfl) ?_
      refine lv_aload_n hx hb d_Code_nameSymbols_11 rfl (lv_at hl 0 rfl) ?_
      refine st_get hx hb hg hown hK hH (f := 41) (i := iT) hdT rfl rfl u_Code 0 (by decide) (hg _ wd_12) (v := .int (σ.1 41 iT 0)) rfl d_Code_nameSymbols_12 ?_
      refine lv_icmp_ge (tgt := 83) hx hb d_Code_nameSymbols_15 (by decide) (fun c15 => ?_) (fun c15 => ?_)
      · have h1 := it h1 c15
        cases h1
        exact K1 σ v1 _ _ ls (Option.some.inj hk1).symm hH hS (lv_sub hl [0, 1] rfl)
      · have h1 := ie h1 c15
        refine lv_aload_n hx hb d_Code_nameSymbols_18 rfl (lv_at hl 0 rfl) ?_
        refine st_get hx hb hg hown hK hH (f := 41) (i := iT) hdT rfl rfl u_Code 1 (by decide) (hg _ wd_13) (v := .ref (ad 42 iT)) rfl d_Code_nameSymbols_19 ?_
        refine lv_iload_n hx hb d_Code_nameSymbols_22 rfl (lv_at hl 1 rfl) ?_
        obtain ⟨g23, h1⟩ := gd_some h1
        refine st_iald hx hb hK hH (f := 42) (i := iT) hdT rfl g23 d_Code_nameSymbols_23 ?_
        refine lv_topi (fun x2 ex2 => ?_)
        have h1 := nm_at ex2 h1
        refine lv_istore_n (lv' := [(2, .int x2), (0, .ref (ad 41 iT)), (1, .int v1)]) hx hb d_Code_nameSymbols_24 rfl hl (by decide) rfl (fun ls hl => ?_)
        refine lv_iload_n hx hb d_Code_nameSymbols_25 rfl (lv_at hl 0 rfl) ?_
        refine lv_if_le (tgt := 77) hx hb d_Code_nameSymbols_26 (by decide) (fun c26 => ?_) (fun c26 => ?_)
        · have h1 := it h1 c26
          obtain ⟨x3, ex3⟩ : ∃ y : Int32, y = v1 + 1 := ⟨_, rfl⟩
          have h1 := nm_at ex3 h1
          refine lv_iinc (v := x3) (lv' := [(1, .int x3), (2, .int x2), (0, .ref (ad 41 iT))]) hx hb d_Code_nameSymbols_77 hl (k := 2) rfl (by rw [ex3]; rfl) (by decide) rfl (fun ls hl => ?_)
          refine lv_goto (tgt := 10) hx hb d_Code_nameSymbols_80 (by decide) ?_
          cases h1
          exact ih1 σ x3 _ _ ls hH hS (lv_sub hl [2, 0] rfl) hk1
        · have h1 := ie h1 c26
          refine lv_aload_n hx hb d_Code_nameSymbols_29 rfl (lv_at hl 1 rfl) ?_
          refine st_get hx hb hg hown hK hH (f := 41) (i := iT) hdT rfl rfl u_Code 2 (by decide) (hg _ wd_23) (v := .ref (ad 43 iT)) rfl d_Code_nameSymbols_30 ?_
          refine lv_iload_n hx hb d_Code_nameSymbols_33 rfl (lv_at hl 2 rfl) ?_
          refine lv_aload_n hx hb d_Code_nameSymbols_34 rfl (lv_at hl 1 rfl) ?_
          refine st_get hx hb hg hown hK hH (f := 41) (i := iT) hdT rfl rfl u_Code 5 (by decide) (hg _ wd_21) (v := .ref (ad 46 iT)) rfl d_Code_nameSymbols_35 ?_
          refine lv_iload_n hx hb d_Code_nameSymbols_38 rfl (lv_at hl 0 rfl) ?_
          obtain ⟨g39, h1⟩ := gd_some h1
          refine st_iald hx hb hK hH (f := 46) (i := iT) hdT rfl g39 d_Code_nameSymbols_39 ?_
          refine lv_aload_n hx hb d_Code_nameSymbols_40 rfl (lv_at hl 1 rfl) ?_
          refine st_get hx hb hg hown hK hH (f := 41) (i := iT) hdT rfl rfl u_Code 4 (by decide) (hg _ wd_11) (v := .ref (ad 45 iT)) rfl d_Code_nameSymbols_41 ?_
          refine lv_iload_n hx hb d_Code_nameSymbols_44 rfl (lv_at hl 0 rfl) ?_
          obtain ⟨g45, h1⟩ := gd_some h1
          refine st_iald hx hb hK hH (f := 45) (i := iT) hdT rfl g45 d_Code_nameSymbols_45 ?_
          refine lv_iadd hx hb d_Code_nameSymbols_46 ?_
          obtain ⟨g47, h1⟩ := gd_some h1
          refine st_iast hx hb hK hH hS (f := 43) (i := iT) hdT rfl g47 d_Code_nameSymbols_47 (fun σ4 H locs eσ4 hH hS => ?_)
          have h1 := nm_at eσ4 h1
          refine lv_aload_n hx hb d_Code_nameSymbols_48 rfl (lv_at hl 1 rfl) ?_
          refine st_get hx hb hg hown hK hH (f := 41) (i := iT) hdT rfl rfl u_Code 3 (by decide) (hg _ wd_24) (v := .ref (ad 44 iT)) rfl d_Code_nameSymbols_49 ?_
          refine lv_aload_n hx hb d_Code_nameSymbols_52 rfl (lv_at hl 1 rfl) ?_
          refine st_get hx hb hg hown hK hH (f := 41) (i := iT) hdT rfl rfl u_Code 6 (by decide) (hg _ wd_22) (v := .ref (ad 47 iT)) rfl d_Code_nameSymbols_53 ?_
          refine lv_iload_n hx hb d_Code_nameSymbols_56 rfl (lv_at hl 0 rfl) ?_
          obtain ⟨g57, h1⟩ := gd_some h1
          refine st_iald hx hb hK hH (f := 47) (i := iT) hdT rfl g57 d_Code_nameSymbols_57 ?_
          refine lv_aload_n hx hb d_Code_nameSymbols_58 rfl (lv_at hl 1 rfl) ?_
          refine st_get hx hb hg hown hK hH (f := 41) (i := iT) hdT rfl rfl u_Code 4 (by decide) (hg _ wd_11) (v := .ref (ad 45 iT)) rfl d_Code_nameSymbols_59 ?_
          refine lv_iload_n hx hb d_Code_nameSymbols_62 rfl (lv_at hl 0 rfl) ?_
          obtain ⟨g63, h1⟩ := gd_some h1
          refine st_iald hx hb hK hH (f := 45) (i := iT) hdT rfl g63 d_Code_nameSymbols_63 ?_
          refine lv_iadd hx hb d_Code_nameSymbols_64 ?_
          refine lv_iload_n hx hb d_Code_nameSymbols_65 rfl (lv_at hl 2 rfl) ?_
          obtain ⟨g66, h1⟩ := gd_some h1
          refine st_iast hx hb hK hH hS (f := 44) (i := iT) hdT rfl g66 d_Code_nameSymbols_66 (fun σ5 H locs eσ5 hH hS => ?_)
          have h1 := nm_at eσ5 h1
          refine lv_aload_n hx hb d_Code_nameSymbols_67 rfl (lv_at hl 1 rfl) ?_
          refine st_get hx hb hg hown hK hH (f := 41) (i := iT) hdT rfl rfl u_Code 4 (by decide) (hg _ wd_11) (v := .ref (ad 45 iT)) rfl d_Code_nameSymbols_68 ?_
          refine lv_iload_n hx hb d_Code_nameSymbols_71 rfl (lv_at hl 0 rfl) ?_
          refine lv_dup2_11 hx hb d_Code_nameSymbols_72 rfl rfl ?_
          obtain ⟨g73, h1⟩ := gd_some h1
          refine st_iald hx hb hK hH (f := 45) (i := iT) hdT rfl g73 d_Code_nameSymbols_73 ?_
          refine lv_iconst (v := 1) hx hb d_Code_nameSymbols_74 (by decide) ?_
          refine lv_iadd hx hb d_Code_nameSymbols_75 ?_
          obtain ⟨g76, h1⟩ := gd_some h1
          refine st_iast hx hb hK hH hS (f := 45) (i := iT) hdT rfl g76 d_Code_nameSymbols_76 (fun σ6 H locs eσ6 hH hS => ?_)
          have h1 := nm_at eσ6 h1
          obtain ⟨x7, ex7⟩ : ∃ y : Int32, y = v1 + 1 := ⟨_, rfl⟩
          have h1 := nm_at ex7 h1
          refine lv_iinc (v := x7) (lv' := [(1, .int x7), (2, .int x2), (0, .ref (ad 41 iT))]) hx hb d_Code_nameSymbols_77 hl (k := 2) rfl (by rw [ex7]; rfl) (by decide) rfl (fun ls hl => ?_)
          refine lv_goto (tgt := 10) hx hb d_Code_nameSymbols_80 (by decide) ?_
          cases h1
          exact ih1 σ6 x7 _ _ ls hH hS (lv_sub hl [2, 0] rfl) hk1
  obtain ⟨k1, hq1⟩ := lpE_some hq1
  exact loop1 k1 σ1 0 _ _ ls hH hS (lv_sub hl [1, 0] rfl) hq1
set_option maxHeartbeats 4000000 in
set_option maxRecDepth 100000 in
theorem c_Code_judged (l : Launch) (D : va_G) (aC : Nat → ClassId) (A : Nat → Prop) (ad : Nat → Nat → Nat) (n : Nat) (σ : St) (iT : Nat) (hdT : dm n 41 iT) (o : St × Int32) (h : f_Code_judged σ iT = some o) : Met l y_Code_judged w_Code_judged rm_Code_judged (va_Pc [.ref (ad 41 iT)] (Pre D aC A ad n σ)) (va_Qi (fun r (_ : Unit) => r = o.2) (fun _ t => Hold D aC A ad n o.1 t.heap) A) 0 0 A := by
  refine Met.ofW (cc := prog_3_method_6_code) (maxL := 1) (ret := (some .int)) (by decide) rfl ?_
  intro p e s m args below meth c s₁ B hml hv
  obtain ⟨hargs, hH, hK, hZ⟩ := hv
  have hx := B.exec
  have hb := B.bytes
  have hr := B.returns
  have hts := atoms_spec (ws := w_Code_judged) B.pre
  have hg : ∀ w ∈ gW, w.before args s = true := fun w h => hts w (List.mem_cons_of_mem _ h)
  have hown : s.vm.findClass "PrefixCodes$Code" = some m.cls := findClass_of_methodNamed B.named
  have hlocks := B.notSynchronized
  have hS : va_S A s.heap s.heap [] := va_S.rf
  have hl := lv_entry ([.ref (ad 41 iT)]) (n := 1) (Nat.le_of_ble_eq_true rfl)
  rw [show entryFrame m args 1 = entryFrame m (([.ref (ad 41 iT)] : List Value).toArray) 1 by rw [hargs], lg_entry_eq]
  generalize (lg_sl ([.ref (ad 41 iT)]) ++ List.replicate (1 - (lg_sl ([.ref (ad 41 iT)])).length) Slot.unset).toArray = ls at hl ⊢
  have hl : lv_has ls 1 [(0, .ref (ad 41 iT))] := hl
  generalize hQ0 : MQ below (va_Qi (fun r (_ : Unit) => r = o.2) (fun _ t => Hold D aC A ad n o.1 t.heap) A) args s 0 0 A = Q0
  unfold f_Code_judged at h
  refine lv_aload_n hx hb d_Code_judged_0 rfl (lv_at hl 0 rfl) ?_
  refine st_get hx hb hg hown hK hH (f := 41) (i := iT) hdT rfl rfl u_Code 8 (by decide) (hg _ wd_19) (v := .int (σ.1 41 iT 8)) rfl d_Code_judged_1 ?_
  refine lv_if_ne (tgt := 9) hx hb d_Code_judged_4 (by decide) (fun c4 => ?_) (fun c4 => ?_)
  · have h := ie h c4
    refine lv_aload_n hx hb d_Code_judged_9 rfl (lv_at hl 0 rfl) ?_
    refine st_get hx hb hg hown hK hH (f := 41) (i := iT) hdT rfl rfl u_Code 8 (by decide) (hg _ wd_19) (v := .int (σ.1 41 iT 8)) rfl d_Code_judged_10 ?_
    refine lv_iconst (v := 1) hx hb d_Code_judged_13 (by decide) ?_
    refine lv_icmp_ne (tgt := 27) hx hb d_Code_judged_14 (by decide) (fun c14 => ?_) (fun c14 => ?_)
    · have h := ie h c14
      refine lv_aload_n hx hb d_Code_judged_27 rfl (lv_at hl 0 rfl) ?_
      refine st_get hx hb hg hown hK hH (f := 41) (i := iT) hdT rfl rfl u_Code 7 (by decide) (hg _ wd_18) (v := .int (σ.1 41 iT 7)) rfl d_Code_judged_28 ?_
      refine lv_ldc (v := 32768) hx hb hown (hg _ wd_25) d_Code_judged_31 ?_
      refine lv_icmp_ne (tgt := 38) hx hb d_Code_judged_33 (by decide) (fun c33 => ?_) (fun c33 => ?_)
      · have h := ie h c33
        refine lv_aload_n hx hb d_Code_judged_38 rfl (lv_at hl 0 rfl) ?_
        refine st_get hx hb hg hown hK hH (f := 41) (i := iT) hdT rfl rfl u_Code 7 (by decide) (hg _ wd_18) (v := .int (σ.1 41 iT 7)) rfl d_Code_judged_39 ?_
        refine lv_ldc (v := 32768) hx hb hown (hg _ wd_25) d_Code_judged_42 ?_
        refine lv_icmp_ge (tgt := 51) hx hb d_Code_judged_44 (by decide) (fun c44 => ?_) (fun c44 => ?_)
        · have h := it h c44
          refine lv_iconst (v := 4) hx hb d_Code_judged_51 (by decide) ?_
          cases h
          rw [← hQ0]
          exact W.iret hx hb hr (fun t ht hW => ⟨⟨_, (), rfl, rfl, by dsimp only; rw [ht]; exact hH⟩, hS.F ht⟩) hS.2.2 d_Code_judged_52
        · have h := ie h c44
          refine lv_iconst (v := 3) hx hb d_Code_judged_47 (by decide) ?_
          refine lv_goto (tgt := 52) hx hb d_Code_judged_48 (by decide) ?_
          cases h
          rw [← hQ0]
          exact W.iret hx hb hr (fun t ht hW => ⟨⟨_, (), rfl, rfl, by dsimp only; rw [ht]; exact hH⟩, hS.F ht⟩) hS.2.2 d_Code_judged_52
      · have h := it h c33
        refine lv_iconst (v := 2) hx hb d_Code_judged_36 (by decide) ?_
        cases h
        rw [← hQ0]
        exact W.iret hx hb hr (fun t ht hW => ⟨⟨_, (), rfl, rfl, by dsimp only; rw [ht]; exact hH⟩, hS.F ht⟩) hS.2.2 d_Code_judged_37
    · have h := it h c14
      refine lv_aload_n hx hb d_Code_judged_17 rfl (lv_at hl 0 rfl) ?_
      refine st_get hx hb hg hown hK hH (f := 41) (i := iT) hdT rfl rfl u_Code 9 (by decide) (hg _ wd_20) (v := .int (σ.1 41 iT 9)) rfl d_Code_judged_18 ?_
      refine lv_iconst (v := 1) hx hb d_Code_judged_21 (by decide) ?_
      refine lv_icmp_ne (tgt := 27) hx hb d_Code_judged_22 (by decide) (fun c22 => ?_) (fun c22 => ?_)
      · have h := ie h c22
        refine lv_aload_n hx hb d_Code_judged_27 rfl (lv_at hl 0 rfl) ?_
        refine st_get hx hb hg hown hK hH (f := 41) (i := iT) hdT rfl rfl u_Code 7 (by decide) (hg _ wd_18) (v := .int (σ.1 41 iT 7)) rfl d_Code_judged_28 ?_
        refine lv_ldc (v := 32768) hx hb hown (hg _ wd_25) d_Code_judged_31 ?_
        refine lv_icmp_ne (tgt := 38) hx hb d_Code_judged_33 (by decide) (fun c33 => ?_) (fun c33 => ?_)
        · have h := ie h c33
          refine lv_aload_n hx hb d_Code_judged_38 rfl (lv_at hl 0 rfl) ?_
          refine st_get hx hb hg hown hK hH (f := 41) (i := iT) hdT rfl rfl u_Code 7 (by decide) (hg _ wd_18) (v := .int (σ.1 41 iT 7)) rfl d_Code_judged_39 ?_
          refine lv_ldc (v := 32768) hx hb hown (hg _ wd_25) d_Code_judged_42 ?_
          refine lv_icmp_ge (tgt := 51) hx hb d_Code_judged_44 (by decide) (fun c44 => ?_) (fun c44 => ?_)
          · have h := it h c44
            refine lv_iconst (v := 4) hx hb d_Code_judged_51 (by decide) ?_
            cases h
            rw [← hQ0]
            exact W.iret hx hb hr (fun t ht hW => ⟨⟨_, (), rfl, rfl, by dsimp only; rw [ht]; exact hH⟩, hS.F ht⟩) hS.2.2 d_Code_judged_52
          · have h := ie h c44
            refine lv_iconst (v := 3) hx hb d_Code_judged_47 (by decide) ?_
            refine lv_goto (tgt := 52) hx hb d_Code_judged_48 (by decide) ?_
            cases h
            rw [← hQ0]
            exact W.iret hx hb hr (fun t ht hW => ⟨⟨_, (), rfl, rfl, by dsimp only; rw [ht]; exact hH⟩, hS.F ht⟩) hS.2.2 d_Code_judged_52
        · have h := it h c33
          refine lv_iconst (v := 2) hx hb d_Code_judged_36 (by decide) ?_
          cases h
          rw [← hQ0]
          exact W.iret hx hb hr (fun t ht hW => ⟨⟨_, (), rfl, rfl, by dsimp only; rw [ht]; exact hH⟩, hS.F ht⟩) hS.2.2 d_Code_judged_37
      · have h := it h c22
        refine lv_iconst (v := 1) hx hb d_Code_judged_25 (by decide) ?_
        cases h
        rw [← hQ0]
        exact W.iret hx hb hr (fun t ht hW => ⟨⟨_, (), rfl, rfl, by dsimp only; rw [ht]; exact hH⟩, hS.F ht⟩) hS.2.2 d_Code_judged_26
  · have h := it h c4
    refine lv_iconst (v := 0) hx hb d_Code_judged_7 (by decide) ?_
    cases h
    rw [← hQ0]
    exact W.iret hx hb hr (fun t ht hW => ⟨⟨_, (), rfl, rfl, by dsimp only; rw [ht]; exact hH⟩, hS.F ht⟩) hS.2.2 d_Code_judged_8
set_option maxHeartbeats 4000000 in
set_option maxRecDepth 100000 in
theorem c_Code_renumber (l : Launch) (D : va_G) (aC : Nat → ClassId) (A : Nat → Prop) (ad : Nat → Nat → Nat) (n : Nat) (σ : St) (iT : Nat) (hdT : dm n 41 iT) (o : St) (h : f_Code_renumber σ iT = some o) : Met l y_Code_renumber w_Code_renumber rm_Code_renumber (va_Pc [.ref (ad 41 iT)] (Pre D aC A ad n σ)) (va_Qv (fun (_ : Unit) => True) (fun _ t => Hold D aC A ad n o t.heap) A) 0 0 A := by
  refine Met.ofW (cc := prog_3_method_2_code) (maxL := 1) (ret := none) (by decide) rfl ?_
  intro p e s m args below meth c s₁ B hml hv
  obtain ⟨hargs, hH, hK, hZ⟩ := hv
  have hx := B.exec
  have hb := B.bytes
  have hr := B.returns
  have hts := atoms_spec (ws := w_Code_renumber) B.pre
  have hg : ∀ w ∈ gW, w.before args s = true := fun w h => hts w (List.mem_cons_of_mem _ h)
  have hown : s.vm.findClass "PrefixCodes$Code" = some m.cls := findClass_of_methodNamed B.named
  have hlocks := B.notSynchronized
  have hS : va_S A s.heap s.heap [] := va_S.rf
  have hl := lv_entry ([.ref (ad 41 iT)]) (n := 1) (Nat.le_of_ble_eq_true rfl)
  rw [show entryFrame m args 1 = entryFrame m (([.ref (ad 41 iT)] : List Value).toArray) 1 by rw [hargs], lg_entry_eq]
  generalize (lg_sl ([.ref (ad 41 iT)]) ++ List.replicate (1 - (lg_sl ([.ref (ad 41 iT)])).length) Slot.unset).toArray = ls at hl ⊢
  have hl : lv_has ls 1 [(0, .ref (ad 41 iT))] := hl
  generalize hQ0 : MQ below (va_Qv (fun (_ : Unit) => True) (fun _ t => Hold D aC A ad n o t.heap) A) args s 0 0 A = Q0
  unfold f_Code_renumber at h
  refine lv_aload_n hx hb d_Code_renumber_0 rfl (lv_at hl 0 rfl) ?_
  obtain ⟨qc, hc1, h⟩ := b1_some h
  obtain ⟨σ1, rfl⟩ : ∃ z, z = qc := ⟨_, rfl⟩
  have h := b1_at h
  refine st_Vv (As := []) (rest := []) ⟨hx, hb, hml, hown, hg⟩ (c_Code_countLengths l D aC A ad n _ iT hdT _ hc1) (cwG hg wd_27 wd_28 wd_30 wd_31 wd_29 yd_Code_countLengths ⟨Nat.le_of_ble_eq_true rfl, Nat.le_of_ble_eq_true rfl⟩) hK hH hS hZ hdT rfl rfl rfl hl.1 rfl (Nat.le_of_ble_eq_true rfl) d_Code_renumber_1 ⟨Nat.zero_le _, Nat.zero_le _⟩ (fun H locs hH hS => ?_)
  refine lv_aload_n hx hb d_Code_renumber_4 rfl (lv_at hl 0 rfl) ?_
  obtain ⟨qc, hc5, h⟩ := b1_some h
  obtain ⟨σ2, rfl⟩ : ∃ z, z = qc := ⟨_, rfl⟩
  have h := b1_at h
  refine st_Vv (As := []) (rest := []) ⟨hx, hb, hml, hown, hg⟩ (c_Code_placeLengths l D aC A ad n _ iT hdT _ hc5) (cwG hg wd_32 wd_33 wd_34 wd_35 wd_29 yd_Code_placeLengths ⟨Nat.le_of_ble_eq_true rfl, Nat.le_of_ble_eq_true rfl⟩) hK hH hS hZ hdT rfl rfl rfl hl.1 rfl (Nat.le_of_ble_eq_true rfl) d_Code_renumber_5 ⟨Nat.zero_le _, Nat.zero_le _⟩ (fun H locs hH hS => ?_)
  refine lv_aload_n hx hb d_Code_renumber_8 rfl (lv_at hl 0 rfl) ?_
  obtain ⟨qc, hc9, h⟩ := b1_some h
  obtain ⟨σ3, rfl⟩ : ∃ z, z = qc := ⟨_, rfl⟩
  have h := b1_at h
  refine st_Vv (As := []) (rest := []) ⟨hx, hb, hml, hown, hg⟩ (c_Code_nameSymbols l D aC A ad n _ iT hdT _ hc9) (cwG hg wd_36 wd_37 wd_38 wd_39 wd_29 yd_Code_nameSymbols ⟨Nat.le_of_ble_eq_true rfl, Nat.le_of_ble_eq_true rfl⟩) hK hH hS hZ hdT rfl rfl rfl hl.1 rfl (Nat.le_of_ble_eq_true rfl) d_Code_renumber_9 ⟨Nat.zero_le _, Nat.zero_le _⟩ (fun H locs hH hS => ?_)
  refine lv_aload_n hx hb d_Code_renumber_12 rfl (lv_at hl 0 rfl) ?_
  refine lv_aload_n hx hb d_Code_renumber_13 rfl (lv_at hl 0 rfl) ?_
  obtain ⟨qc, hc14, h⟩ := b2_some h
  obtain ⟨σ4, x5⟩ := qc
  have h := b2_at h
  refine st_Vi (As := []) (rest := [.ref (ad 41 iT)]) ⟨hx, hb, hml, hown, hg⟩ (c_Code_judged l D aC A ad n _ iT hdT _ hc14) (cwG hg wd_40 wd_41 wd_42 wd_43 wd_29 yd_Code_judged ⟨Nat.le_of_ble_eq_true rfl, Nat.le_of_ble_eq_true rfl⟩) hK hH hS hZ hdT rfl rfl rfl hl.1 rfl (Nat.le_of_ble_eq_true rfl) d_Code_renumber_14 ⟨Nat.zero_le _, Nat.zero_le _⟩ (fun H locs hH hS => ?_)
  refine st_put hx hb hg hown hK hH hS (f := 41) (i := iT) hdT rfl rfl u_Code t_Code t_Code_ok n_Code 10 (by decide) (hg _ wd_26) rfl rfl rfl d_Code_renumber_17 (fun σ6 H locs eσ6 hH hS => ?_)
  have h := nm_at eσ6 h
  cases h
  rw [← hQ0]
  exact W.vret hx hb hr (fun t ht hW => ⟨⟨(), rfl, trivial, by dsimp only; rw [ht]; exact hH⟩, hS.F ht⟩) hS.2.2 d_Code_renumber_20
set_option maxHeartbeats 4000000 in
set_option maxRecDepth 100000 in
theorem c_PC_length (l : Launch) (D : va_G) (aC : Nat → ClassId) (A : Nat → Prop) (ad : Nat → Nat → Nat) (n : Nat) (σ : St) (a1 : Int32) (a2 : Int32) (a3 : Int32) (o : St × Int32) (h : f_PC_length σ a1 a2 a3 = some o) : Met l y_PC_length w_PC_length rm_PC_length (va_Pc [.ref (ad 0 0), .int a1, .int a2, .int a3] (Pre D aC A ad n σ)) (va_Qi (fun r (_ : Unit) => r = o.2) (fun _ t => Hold D aC A ad n o.1 t.heap) A) 0 0 A := by
  refine Met.ofW (cc := prog_1_method_3_code) (maxL := 6) (ret := (some .int)) (by decide) rfl ?_
  intro p e s m args below meth c s₁ B hml hv
  obtain ⟨hargs, hH, hK, hZ⟩ := hv
  have hx := B.exec
  have hb := B.bytes
  have hr := B.returns
  have hts := atoms_spec (ws := w_PC_length) B.pre
  have hg : ∀ w ∈ gW, w.before args s = true := fun w h => hts w (List.mem_cons_of_mem _ h)
  have hown : s.vm.findClass "PrefixCodes" = some m.cls := findClass_of_methodNamed B.named
  have hlocks := B.notSynchronized
  have hS : va_S A s.heap s.heap [] := va_S.rf
  have hl := lv_entry ([.ref (ad 0 0), .int a1, .int a2, .int a3]) (n := 6) (Nat.le_of_ble_eq_true rfl)
  rw [show entryFrame m args 6 = entryFrame m (([.ref (ad 0 0), .int a1, .int a2, .int a3] : List Value).toArray) 6 by rw [hargs], lg_entry_eq]
  generalize (lg_sl ([.ref (ad 0 0), .int a1, .int a2, .int a3]) ++ List.replicate (6 - (lg_sl ([.ref (ad 0 0), .int a1, .int a2, .int a3])).length) Slot.unset).toArray = ls at hl ⊢
  have hl : lv_has ls 6 [(0, .ref (ad 0 0)), (1, .int a1), (2, .int a2), (3, .int a3)] := hl
  generalize hQ0 : MQ below (va_Qi (fun r (_ : Unit) => r = o.2) (fun _ t => Hold D aC A ad n o.1 t.heap) A) args s 0 0 A = Q0
  unfold f_PC_length at h
  refine lv_aload_n hx hb d_PC_length_0 rfl (lv_at hl 0 rfl) ?_
  refine lv_iload_n hx hb d_PC_length_1 rfl (lv_at hl 1 rfl) ?_
  refine lv_iload_n hx hb d_PC_length_2 rfl (lv_at hl 2 rfl) ?_
  obtain ⟨qc, hc3, h⟩ := b2_some h
  obtain ⟨σ1, o2⟩ := qc
  have h := b2_at h
  refine st_Vq (As := [.int a1, .int a2]) (rest := []) ⟨hx, hb, hml, hown, hg⟩ (c_PC_codeWith l D aC A ad n _ a1 a2 _ hc3) (cwG hg wd_45 wd_46 wd_47 wd_48 wd_4 yd_PC_codeWith ⟨Nat.le_of_ble_eq_true rfl, Nat.le_of_ble_eq_true rfl⟩) hK hH hS hZ hd_0 rfl rfl rfl hl.1 rfl (Nat.le_of_ble_eq_true rfl) d_PC_length_3 ⟨Nat.zero_le _, Nat.zero_le _⟩ (fun c3 H locs hH hS => ?_) (fun j3 c3 hdj3 H locs hH hS => ?_)
  · have h := on_n h c3
    refine lv_astoreN (lv' := [(4, .null), (0, .ref (ad 0 0)), (1, .int a1), (2, .int a2), (3, .int a3)]) hx hb d_PC_length_6 hl (by decide) rfl (fun ls hl => ?_)
    refine lv_aloadN hx hb d_PC_length_8 (lv_at hl 0 rfl) ?_
    refine lv_ifnonnullN hx hb d_PC_length_10 ?_
    refine lv_bipush (v := (-101)) hx hb d_PC_length_13 (by decide) ?_
    cases h
    rw [← hQ0]
    exact W.iret hx hb hr (fun t ht hW => ⟨⟨_, (), rfl, rfl, by dsimp only; rw [ht]; exact hH⟩, hS.F ht⟩) hS.2.2 d_PC_length_15
  · have h := on_s h c3
    refine lv_astore (lv' := [(4, .ref (ad 41 j3)), (0, .ref (ad 0 0)), (1, .int a1), (2, .int a2), (3, .int a3)]) hx hb d_PC_length_6 hl (by decide) rfl (fun ls hl => ?_)
    refine lv_aload hx hb d_PC_length_8 (lv_at hl 0 rfl) ?_
    refine lv_ifnonnull (tgt := 16) hx hb d_PC_length_10 (by decide) ?_
    refine lv_iload_n hx hb d_PC_length_16 rfl (lv_at hl 4 rfl) ?_
    refine lv_iconst (v := 0) hx hb d_PC_length_17 (by decide) ?_
    refine lv_bipush (v := 15) hx hb d_PC_length_18 (by decide) ?_
    obtain ⟨qc, hc20, h⟩ := b2_some h
    obtain ⟨σ4, x5⟩ := qc
    have h := b2_at h
    refine st_Si (As := [.int a3, .int 0, .int 15]) (rest := []) ⟨hx, hb, hml, hown, hg⟩ (c_PC_isOutside l D aC A ad n _ a3 0 15 _ hc20) (cwGS hg wd_2 wd_3 wd_5 wd_4 yd_PC_isOutside ⟨Nat.le_of_ble_eq_true rfl, Nat.le_of_ble_eq_true rfl⟩) hK hH hS hZ rfl hl.1 rfl (Nat.le_of_ble_eq_true rfl) d_PC_length_20 ⟨Nat.zero_le _, Nat.zero_le _⟩ (fun H locs hH hS => ?_)
    refine lv_if_eq (tgt := 29) hx hb d_PC_length_23 (by decide) (fun c23 => ?_) (fun c23 => ?_)
    · have h := it h c23
      refine lv_aload hx hb d_PC_length_29 (lv_at hl 0 rfl) ?_
      refine st_get hx hb hg hown hK hH (f := 41) (i := j3) hdj3 rfl rfl u_Code 1 (by decide) (hg _ wd_44) (v := .ref (ad 42 j3)) rfl d_PC_length_31 ?_
      refine lv_iload_n hx hb d_PC_length_34 rfl (lv_at hl 3 rfl) ?_
      obtain ⟨g35, h⟩ := gd_some h
      refine st_iald hx hb hK hH (f := 42) (i := j3) hdj3 rfl g35 d_PC_length_35 ?_
      refine lv_topi (fun x6 ex6 => ?_)
      have h := nm_at ex6 h
      refine lv_istore (lv' := [(5, .int x6), (4, .ref (ad 41 j3)), (0, .ref (ad 0 0)), (1, .int a1), (2, .int a2), (3, .int a3)]) hx hb d_PC_length_36 hl (by decide) rfl (fun ls hl => ?_)
      refine lv_aload hx hb d_PC_length_38 (lv_at hl 1 rfl) ?_
      refine st_get hx hb hg hown hK hH (f := 41) (i := j3) hdj3 rfl rfl u_Code 1 (by decide) (hg _ wd_44) (v := .ref (ad 42 j3)) rfl d_PC_length_40 ?_
      refine lv_iload_n hx hb d_PC_length_43 rfl (lv_at hl 4 rfl) ?_
      refine lv_iload_n hx hb d_PC_length_44 rfl (lv_at hl 5 rfl) ?_
      obtain ⟨g45, h⟩ := gd_some h
      refine st_iast hx hb hK hH hS (f := 42) (i := j3) hdj3 rfl g45 d_PC_length_45 (fun σ7 H locs eσ7 hH hS => ?_)
      have h := nm_at eσ7 h
      refine lv_aload hx hb d_PC_length_46 (lv_at hl 1 rfl) ?_
      obtain ⟨qc, hc48, h⟩ := b1_some h
      obtain ⟨σ8, rfl⟩ : ∃ z, z = qc := ⟨_, rfl⟩
      have h := b1_at h
      refine st_Vv (As := []) (rest := []) ⟨hx, hb, hml, hown, hg⟩ (c_Code_renumber l D aC A ad n _ j3 hdj3 _ hc48) (cwG hg wd_49 wd_50 wd_51 wd_52 wd_29 yd_Code_renumber ⟨Nat.le_of_ble_eq_true rfl, Nat.le_of_ble_eq_true rfl⟩) hK hH hS hZ hdj3 rfl rfl rfl hl.1 rfl (Nat.le_of_ble_eq_true rfl) d_PC_length_48 ⟨Nat.zero_le _, Nat.zero_le _⟩ (fun H locs hH hS => ?_)
      refine lv_iload hx hb d_PC_length_51 (lv_at hl 0 rfl) ?_
      cases h
      rw [← hQ0]
      exact W.iret hx hb hr (fun t ht hW => ⟨⟨_, (), rfl, rfl, by dsimp only; rw [ht]; exact hH⟩, hS.F ht⟩) hS.2.2 d_PC_length_53
    · have h := ie h c23
      refine lv_bipush (v := (-102)) hx hb d_PC_length_26 (by decide) ?_
      cases h
      rw [← hQ0]
      exact W.iret hx hb hr (fun t ht hW => ⟨⟨_, (), rfl, rfl, by dsimp only; rw [ht]; exact hH⟩, hS.F ht⟩) hS.2.2 d_PC_length_28
