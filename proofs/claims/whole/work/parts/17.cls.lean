theorem d_Table_tell_0 : decode prog_10_method_4_code 0 = .ok (.iload_n 1, 1) := by decide +kernel
theorem d_Table_tell_1 : decode prog_10_method_4_code 1 = .ok (.iconst 1, 1) := by decide +kernel
theorem d_Table_tell_2 : decode prog_10_method_4_code 2 = .ok (.aload_n 0, 1) := by decide +kernel
theorem d_Table_tell_3 : decode prog_10_method_4_code 3 = .ok (.getfield 9, 3) := by decide +kernel
theorem d_Table_tell_6 : decode prog_10_method_4_code 6 = .ok (.ishl, 1) := by decide +kernel
theorem d_Table_tell_7 : decode prog_10_method_4_code 7 = .ok (.if_icmp .ge 46, 3) := by decide +kernel
theorem d_Table_tell_10 : decode prog_10_method_4_code 10 = .ok (.aload_n 0, 1) := by decide +kernel
theorem d_Table_tell_11 : decode prog_10_method_4_code 11 = .ok (.iload_n 1, 1) := by decide +kernel
theorem d_Table_tell_12 : decode prog_10_method_4_code 12 = .ok (.invokevirtual 58, 3) := by decide +kernel
theorem d_Table_tell_15 : decode prog_10_method_4_code 15 = .ok (.istore_n 3, 1) := by decide +kernel
theorem d_Table_tell_16 : decode prog_10_method_4_code 16 = .ok (.iload_n 3, 1) := by decide +kernel
theorem d_Table_tell_17 : decode prog_10_method_4_code 17 = .ok (.ifCond .lt 21, 3) := by decide +kernel
theorem d_Table_tell_20 : decode prog_10_method_4_code 20 = .ok (.iload_n 2, 1) := by decide +kernel
theorem d_Table_tell_21 : decode prog_10_method_4_code 21 = .ok (.iconst 2, 1) := by decide +kernel
theorem d_Table_tell_22 : decode prog_10_method_4_code 22 = .ok (.aload_n 0, 1) := by decide +kernel
theorem d_Table_tell_23 : decode prog_10_method_4_code 23 = .ok (.getfield 40, 3) := by decide +kernel
theorem d_Table_tell_26 : decode prog_10_method_4_code 26 = .ok (.iload_n 3, 1) := by decide +kernel
theorem d_Table_tell_27 : decode prog_10_method_4_code 27 = .ok (.iaload, 1) := by decide +kernel
theorem d_Table_tell_28 : decode prog_10_method_4_code 28 = .ok (.aload_n 0, 1) := by decide +kernel
theorem d_Table_tell_29 : decode prog_10_method_4_code 29 = .ok (.getfield 37, 3) := by decide +kernel
theorem d_Table_tell_32 : decode prog_10_method_4_code 32 = .ok (.iload_n 3, 1) := by decide +kernel
theorem d_Table_tell_33 : decode prog_10_method_4_code 33 = .ok (.iaload, 1) := by decide +kernel
theorem d_Table_tell_34 : decode prog_10_method_4_code 34 = .ok (.invokestatic 62, 3) := by decide +kernel
theorem d_Table_tell_37 : decode prog_10_method_4_code 37 = .ok (.ireturn, 1) := by decide +kernel
theorem d_Table_tell_38 : decode prog_10_method_4_code 38 = .ok (.aload_n 0, 1) := by decide +kernel
theorem d_Table_tell_39 : decode prog_10_method_4_code 39 = .ok (.aload_n 0, 1) := by decide +kernel
theorem d_Table_tell_40 : decode prog_10_method_4_code 40 = .ok (.iload_n 1, 1) := by decide +kernel
theorem d_Table_tell_41 : decode prog_10_method_4_code 41 = .ok (.aload_n 0, 1) := by decide +kernel
theorem d_Table_tell_42 : decode prog_10_method_4_code 42 = .ok (.getfield 9, 3) := by decide +kernel
theorem d_Table_tell_45 : decode prog_10_method_4_code 45 = .ok (.invokevirtual 66, 3) := by decide +kernel
theorem d_Table_tell_48 : decode prog_10_method_4_code 48 = .ok (.iload_n 2, 1) := by decide +kernel
theorem d_Table_tell_49 : decode prog_10_method_4_code 49 = .ok (.invokevirtual 70, 3) := by decide +kernel
theorem d_Table_tell_52 : decode prog_10_method_4_code 52 = .ok (.ireturn, 1) := by decide +kernel
theorem d_Table_tell_53 : decode prog_10_method_4_code 53 = .ok (.aload_n 0, 1) := by decide +kernel
theorem d_Table_tell_54 : decode prog_10_method_4_code 54 = .ok (.iload_n 1, 1) := by decide +kernel
theorem d_Table_tell_55 : decode prog_10_method_4_code 55 = .ok (.invokevirtual 73, 3) := by decide +kernel
theorem d_Table_tell_58 : decode prog_10_method_4_code 58 = .ok (.istore_n 3, 1) := by decide +kernel
theorem d_Table_tell_59 : decode prog_10_method_4_code 59 = .ok (.iload_n 3, 1) := by decide +kernel
theorem d_Table_tell_60 : decode prog_10_method_4_code 60 = .ok (.ifCond .ge 11, 3) := by decide +kernel
theorem d_Table_tell_63 : decode prog_10_method_4_code 63 = .ok (.iload_n 2, 1) := by decide +kernel
theorem d_Table_tell_64 : decode prog_10_method_4_code 64 = .ok (.iconst 0, 1) := by decide +kernel
theorem d_Table_tell_65 : decode prog_10_method_4_code 65 = .ok (.iconst (-1), 1) := by decide +kernel
theorem d_Table_tell_66 : decode prog_10_method_4_code 66 = .ok (.iconst 0, 1) := by decide +kernel
theorem d_Table_tell_67 : decode prog_10_method_4_code 67 = .ok (.invokestatic 62, 3) := by decide +kernel
theorem d_Table_tell_70 : decode prog_10_method_4_code 70 = .ok (.ireturn, 1) := by decide +kernel
theorem d_Table_tell_71 : decode prog_10_method_4_code 71 = .ok (.aload_n 0, 1) := by decide +kernel
theorem d_Table_tell_72 : decode prog_10_method_4_code 72 = .ok (.getfield 34, 3) := by decide +kernel
theorem d_Table_tell_75 : decode prog_10_method_4_code 75 = .ok (.iload_n 3, 1) := by decide +kernel
theorem d_Table_tell_76 : decode prog_10_method_4_code 76 = .ok (.iaload, 1) := by decide +kernel
theorem d_Table_tell_77 : decode prog_10_method_4_code 77 = .ok (.aload_n 0, 1) := by decide +kernel
theorem d_Table_tell_78 : decode prog_10_method_4_code 78 = .ok (.getfield 37, 3) := by decide +kernel
theorem d_Table_tell_81 : decode prog_10_method_4_code 81 = .ok (.iload_n 3, 1) := by decide +kernel
theorem d_Table_tell_82 : decode prog_10_method_4_code 82 = .ok (.iaload, 1) := by decide +kernel
theorem d_Table_tell_83 : decode prog_10_method_4_code 83 = .ok (.ishl, 1) := by decide +kernel
theorem d_Table_tell_84 : decode prog_10_method_4_code 84 = .ok (.iload_n 1, 1) := by decide +kernel
theorem d_Table_tell_85 : decode prog_10_method_4_code 85 = .ok (.aload_n 0, 1) := by decide +kernel
theorem d_Table_tell_86 : decode prog_10_method_4_code 86 = .ok (.getfield 40, 3) := by decide +kernel
theorem d_Table_tell_89 : decode prog_10_method_4_code 89 = .ok (.iload_n 3, 1) := by decide +kernel
theorem d_Table_tell_90 : decode prog_10_method_4_code 90 = .ok (.iaload, 1) := by decide +kernel
theorem d_Table_tell_91 : decode prog_10_method_4_code 91 = .ok (.isub, 1) := by decide +kernel
theorem d_Table_tell_92 : decode prog_10_method_4_code 92 = .ok (.ior, 1) := by decide +kernel
theorem d_Table_tell_93 : decode prog_10_method_4_code 93 = .ok (.istore 4, 2) := by decide +kernel
theorem d_Table_tell_95 : decode prog_10_method_4_code 95 = .ok (.aload_n 0, 1) := by decide +kernel
theorem d_Table_tell_96 : decode prog_10_method_4_code 96 = .ok (.aload_n 0, 1) := by decide +kernel
theorem d_Table_tell_97 : decode prog_10_method_4_code 97 = .ok (.iload 4, 2) := by decide +kernel
theorem d_Table_tell_99 : decode prog_10_method_4_code 99 = .ok (.aload_n 0, 1) := by decide +kernel
theorem d_Table_tell_100 : decode prog_10_method_4_code 100 = .ok (.getfield 9, 3) := by decide +kernel
theorem d_Table_tell_103 : decode prog_10_method_4_code 103 = .ok (.aload_n 0, 1) := by decide +kernel
theorem d_Table_tell_104 : decode prog_10_method_4_code 104 = .ok (.getfield 37, 3) := by decide +kernel
theorem d_Table_tell_107 : decode prog_10_method_4_code 107 = .ok (.iload_n 3, 1) := by decide +kernel
theorem d_Table_tell_108 : decode prog_10_method_4_code 108 = .ok (.iaload, 1) := by decide +kernel
theorem d_Table_tell_109 : decode prog_10_method_4_code 109 = .ok (.iadd, 1) := by decide +kernel
theorem d_Table_tell_110 : decode prog_10_method_4_code 110 = .ok (.invokevirtual 66, 3) := by decide +kernel
theorem d_Table_tell_113 : decode prog_10_method_4_code 113 = .ok (.iload_n 2, 1) := by decide +kernel
theorem d_Table_tell_114 : decode prog_10_method_4_code 114 = .ok (.invokevirtual 70, 3) := by decide +kernel
theorem d_Table_tell_117 : decode prog_10_method_4_code 117 = .ok (.ireturn, 1) := by decide +kernel
theorem d_Text_extend_0 : decode prog_11_method_2_code 0 = .ok (.iconst 0, 1) := by decide +kernel
theorem d_Text_extend_1 : decode prog_11_method_2_code 1 = .ok (.istore_n 1, 1) := by decide +kernel
theorem d_Text_extend_2 : decode prog_11_method_2_code 2 = .ok (.iload_n 1, 1) := by decide +kernel
theorem d_Text_extend_3 : decode prog_11_method_2_code 3 = .ok (.iconst 5, 1) := by decide +kernel
theorem d_Text_extend_4 : decode prog_11_method_2_code 4 = .ok (.if_icmp .ge 32, 3) := by decide +kernel
theorem d_Text_extend_7 : decode prog_11_method_2_code 7 = .ok (.aload_n 0, 1) := by decide +kernel
theorem d_Text_extend_8 : decode prog_11_method_2_code 8 = .ok (.getfield 19, 3) := by decide +kernel
theorem d_Text_extend_11 : decode prog_11_method_2_code 11 = .ok (.iload_n 1, 1) := by decide +kernel
theorem d_Text_extend_12 : decode prog_11_method_2_code 12 = .ok (.iaload, 1) := by decide +kernel
theorem d_Text_extend_13 : decode prog_11_method_2_code 13 = .ok (.ifCond .lt 23, 3) := by decide +kernel
theorem d_Text_extend_16 : decode prog_11_method_2_code 16 = .ok (.aload_n 0, 1) := by decide +kernel
theorem d_Text_extend_17 : decode prog_11_method_2_code 17 = .ok (.getfield 19, 3) := by decide +kernel
theorem d_Text_extend_20 : decode prog_11_method_2_code 20 = .ok (.iload_n 1, 1) := by decide +kernel
theorem d_Text_extend_21 : decode prog_11_method_2_code 21 = .ok (.iaload, 1) := by decide +kernel
theorem d_Text_extend_22 : decode prog_11_method_2_code 22 = .ok (.bipush 64, 2) := by decide +kernel
theorem d_Text_extend_24 : decode prog_11_method_2_code 24 = .ok (.if_icmp .lt 6, 3) := by decide +kernel
theorem d_Text_extend_27 : decode prog_11_method_2_code 27 = .ok (.bipush (-102), 2) := by decide +kernel
theorem d_Text_extend_29 : decode prog_11_method_2_code 29 = .ok (.ireturn, 1) := by decide +kernel
theorem d_Text_extend_30 : decode prog_11_method_2_code 30 = .ok (.iinc 1 1, 3) := by decide +kernel
theorem d_Text_extend_33 : decode prog_11_method_2_code 33 = .ok (.goto (-31), 3) := by decide +kernel
theorem d_Text_extend_36 : decode prog_11_method_2_code 36 = .ok (.iload_n 1, 1) := by decide +kernel
theorem d_Text_extend_37 : decode prog_11_method_2_code 37 = .ok (.sipush 1000, 3) := by decide +kernel
theorem d_Text_extend_40 : decode prog_11_method_2_code 40 = .ok (.aload_n 0, 1) := by decide +kernel
theorem d_Text_extend_41 : decode prog_11_method_2_code 41 = .ok (.getfield 15, 3) := by decide +kernel
theorem d_Text_extend_44 : decode prog_11_method_2_code 44 = .ok (.isub, 1) := by decide +kernel
theorem d_Text_extend_45 : decode prog_11_method_2_code 45 = .ok (.if_icmp .le 6, 3) := by decide +kernel
theorem d_Text_extend_48 : decode prog_11_method_2_code 48 = .ok (.bipush (-106), 2) := by decide +kernel
theorem d_Text_extend_50 : decode prog_11_method_2_code 50 = .ok (.ireturn, 1) := by decide +kernel
theorem d_Text_extend_51 : decode prog_11_method_2_code 51 = .ok (.aload_n 0, 1) := by decide +kernel
theorem d_Text_extend_52 : decode prog_11_method_2_code 52 = .ok (.getfield 19, 3) := by decide +kernel
theorem d_Text_extend_55 : decode prog_11_method_2_code 55 = .ok (.iconst 0, 1) := by decide +kernel
theorem d_Text_extend_56 : decode prog_11_method_2_code 56 = .ok (.aload_n 0, 1) := by decide +kernel
theorem d_Text_extend_57 : decode prog_11_method_2_code 57 = .ok (.getfield 9, 3) := by decide +kernel
theorem d_Text_extend_60 : decode prog_11_method_2_code 60 = .ok (.aload_n 0, 1) := by decide +kernel
theorem d_Text_extend_61 : decode prog_11_method_2_code 61 = .ok (.getfield 15, 3) := by decide +kernel
theorem d_Text_extend_64 : decode prog_11_method_2_code 64 = .ok (.iload_n 1, 1) := by decide +kernel
theorem d_Text_extend_65 : decode prog_11_method_2_code 65 = .ok (.invokestatic 25, 3) := by decide +kernel
theorem d_Text_extend_68 : decode prog_11_method_2_code 68 = .ok (.aload_n 0, 1) := by decide +kernel
theorem d_Text_extend_69 : decode prog_11_method_2_code 69 = .ok (.dup, 1) := by decide +kernel
theorem d_Text_extend_70 : decode prog_11_method_2_code 70 = .ok (.getfield 15, 3) := by decide +kernel
theorem d_Text_extend_73 : decode prog_11_method_2_code 73 = .ok (.iload_n 1, 1) := by decide +kernel
theorem d_Text_extend_74 : decode prog_11_method_2_code 74 = .ok (.iadd, 1) := by decide +kernel
theorem d_Text_extend_75 : decode prog_11_method_2_code 75 = .ok (.putfield 15, 3) := by decide +kernel
theorem d_Text_extend_78 : decode prog_11_method_2_code 78 = .ok (.aload_n 0, 1) := by decide +kernel
theorem d_Text_extend_79 : decode prog_11_method_2_code 79 = .ok (.getfield 15, 3) := by decide +kernel
theorem d_Text_extend_82 : decode prog_11_method_2_code 82 = .ok (.ireturn, 1) := by decide +kernel
theorem d_PC_add_0 : decode prog_1_method_21_code 0 = .ok (.aload_n 0, 1) := by decide +kernel
theorem d_PC_add_1 : decode prog_1_method_21_code 1 = .ok (.getfield 56, 3) := by decide +kernel
theorem d_PC_add_4 : decode prog_1_method_21_code 4 = .ok (.getfield 206, 3) := by decide +kernel
theorem d_PC_add_7 : decode prog_1_method_21_code 7 = .ok (.iconst 0, 1) := by decide +kernel
theorem d_PC_add_8 : decode prog_1_method_21_code 8 = .ok (.iload_n 1, 1) := by decide +kernel
theorem d_PC_add_9 : decode prog_1_method_21_code 9 = .ok (.iastore, 1) := by decide +kernel
theorem d_PC_add_10 : decode prog_1_method_21_code 10 = .ok (.aload_n 0, 1) := by decide +kernel
theorem d_PC_add_11 : decode prog_1_method_21_code 11 = .ok (.getfield 56, 3) := by decide +kernel
theorem d_PC_add_14 : decode prog_1_method_21_code 14 = .ok (.getfield 206, 3) := by decide +kernel
theorem d_PC_add_17 : decode prog_1_method_21_code 17 = .ok (.iconst 1, 1) := by decide +kernel
theorem d_PC_add_18 : decode prog_1_method_21_code 18 = .ok (.iload_n 2, 1) := by decide +kernel
theorem d_PC_add_19 : decode prog_1_method_21_code 19 = .ok (.iastore, 1) := by decide +kernel
theorem d_PC_add_20 : decode prog_1_method_21_code 20 = .ok (.aload_n 0, 1) := by decide +kernel
theorem d_PC_add_21 : decode prog_1_method_21_code 21 = .ok (.getfield 56, 3) := by decide +kernel
theorem d_PC_add_24 : decode prog_1_method_21_code 24 = .ok (.getfield 206, 3) := by decide +kernel
theorem d_PC_add_27 : decode prog_1_method_21_code 27 = .ok (.iconst 2, 1) := by decide +kernel
theorem d_PC_add_28 : decode prog_1_method_21_code 28 = .ok (.iload_n 3, 1) := by decide +kernel
theorem d_PC_add_29 : decode prog_1_method_21_code 29 = .ok (.iastore, 1) := by decide +kernel
theorem d_PC_add_30 : decode prog_1_method_21_code 30 = .ok (.aload_n 0, 1) := by decide +kernel
theorem d_PC_add_31 : decode prog_1_method_21_code 31 = .ok (.getfield 56, 3) := by decide +kernel
theorem d_PC_add_34 : decode prog_1_method_21_code 34 = .ok (.getfield 206, 3) := by decide +kernel
theorem d_PC_add_37 : decode prog_1_method_21_code 37 = .ok (.iconst 3, 1) := by decide +kernel
theorem d_PC_add_38 : decode prog_1_method_21_code 38 = .ok (.iload 4, 2) := by decide +kernel
theorem d_PC_add_40 : decode prog_1_method_21_code 40 = .ok (.iastore, 1) := by decide +kernel
theorem d_PC_add_41 : decode prog_1_method_21_code 41 = .ok (.aload_n 0, 1) := by decide +kernel
theorem d_PC_add_42 : decode prog_1_method_21_code 42 = .ok (.getfield 56, 3) := by decide +kernel
theorem d_PC_add_45 : decode prog_1_method_21_code 45 = .ok (.getfield 206, 3) := by decide +kernel
theorem d_PC_add_48 : decode prog_1_method_21_code 48 = .ok (.iconst 4, 1) := by decide +kernel
theorem d_PC_add_49 : decode prog_1_method_21_code 49 = .ok (.iload 5, 2) := by decide +kernel
theorem d_PC_add_51 : decode prog_1_method_21_code 51 = .ok (.iastore, 1) := by decide +kernel
theorem d_PC_add_52 : decode prog_1_method_21_code 52 = .ok (.aload_n 0, 1) := by decide +kernel
theorem d_PC_add_53 : decode prog_1_method_21_code 53 = .ok (.getfield 56, 3) := by decide +kernel
theorem d_PC_add_56 : decode prog_1_method_21_code 56 = .ok (.invokevirtual 209, 3) := by decide +kernel
theorem d_PC_add_59 : decode prog_1_method_21_code 59 = .ok (.ireturn, 1) := by decide +kernel
theorem d_PC_forget_0 : decode prog_1_method_22_code 0 = .ok (.aload_n 0, 1) := by decide +kernel
theorem d_PC_forget_1 : decode prog_1_method_22_code 1 = .ok (.getfield 56, 3) := by decide +kernel
theorem d_PC_forget_4 : decode prog_1_method_22_code 4 = .ok (.getfield 212, 3) := by decide +kernel
theorem d_PC_forget_7 : decode prog_1_method_22_code 7 = .ok (.istore_n 1, 1) := by decide +kernel
theorem d_PC_forget_8 : decode prog_1_method_22_code 8 = .ok (.aload_n 0, 1) := by decide +kernel
theorem d_PC_forget_9 : decode prog_1_method_22_code 9 = .ok (.getfield 56, 3) := by decide +kernel
theorem d_PC_forget_12 : decode prog_1_method_22_code 12 = .ok (.iconst 0, 1) := by decide +kernel
theorem d_PC_forget_13 : decode prog_1_method_22_code 13 = .ok (.putfield 212, 3) := by decide +kernel
theorem d_PC_forget_16 : decode prog_1_method_22_code 16 = .ok (.iload_n 1, 1) := by decide +kernel
theorem d_PC_forget_17 : decode prog_1_method_22_code 17 = .ok (.ireturn, 1) := by decide +kernel
theorem d_Text_different_0 : decode prog_11_method_5_code 0 = .ok (.aload_n 0, 1) := by decide +kernel
theorem d_Text_different_1 : decode prog_11_method_5_code 1 = .ok (.aload_n 0, 1) := by decide +kernel
theorem d_Text_different_2 : decode prog_11_method_5_code 2 = .ok (.getfield 22, 3) := by decide +kernel
theorem d_Text_different_5 : decode prog_11_method_5_code 5 = .ok (.invokevirtual 37, 3) := by decide +kernel
theorem d_Text_different_8 : decode prog_11_method_5_code 8 = .ok (.iconst 0, 1) := by decide +kernel
theorem d_Text_different_9 : decode prog_11_method_5_code 9 = .ok (.istore_n 1, 1) := by decide +kernel
theorem d_Text_different_10 : decode prog_11_method_5_code 10 = .ok (.iconst 0, 1) := by decide +kernel
theorem d_Text_different_11 : decode prog_11_method_5_code 11 = .ok (.istore_n 2, 1) := by decide +kernel
theorem d_Text_different_12 : decode prog_11_method_5_code 12 = .ok (.iload_n 2, 1) := by decide +kernel
theorem d_Text_different_13 : decode prog_11_method_5_code 13 = .ok (.bipush 64, 2) := by decide +kernel
theorem d_Text_different_15 : decode prog_11_method_5_code 15 = .ok (.if_icmp .ge 21, 3) := by decide +kernel
theorem d_Text_different_18 : decode prog_11_method_5_code 18 = .ok (.aload_n 0, 1) := by decide +kernel
theorem d_Text_different_19 : decode prog_11_method_5_code 19 = .ok (.getfield 22, 3) := by decide +kernel
theorem d_Text_different_22 : decode prog_11_method_5_code 22 = .ok (.iload_n 2, 1) := by decide +kernel
theorem d_Text_different_23 : decode prog_11_method_5_code 23 = .ok (.iaload, 1) := by decide +kernel
theorem d_Text_different_24 : decode prog_11_method_5_code 24 = .ok (.ifCond .le 6, 3) := by decide +kernel
theorem d_Text_different_27 : decode prog_11_method_5_code 27 = .ok (.iinc 1 1, 3) := by decide +kernel
theorem d_Text_different_30 : decode prog_11_method_5_code 30 = .ok (.iinc 2 1, 3) := by decide +kernel
theorem d_Text_different_33 : decode prog_11_method_5_code 33 = .ok (.goto (-21), 3) := by decide +kernel
theorem d_Text_different_36 : decode prog_11_method_5_code 36 = .ok (.iload_n 1, 1) := by decide +kernel
theorem d_Text_different_37 : decode prog_11_method_5_code 37 = .ok (.ireturn, 1) := by decide +kernel
theorem d_Choice_begin_0 : decode prog_2_method_2_code 0 = .ok (.aload_n 0, 1) := by decide +kernel
theorem d_Choice_begin_1 : decode prog_2_method_2_code 1 = .ok (.aload_n 1, 1) := by decide +kernel
theorem d_Choice_begin_2 : decode prog_2_method_2_code 2 = .ok (.getfield 47, 3) := by decide +kernel
theorem d_Choice_begin_5 : decode prog_2_method_2_code 5 = .ok (.putfield 15, 3) := by decide +kernel
theorem d_Choice_begin_8 : decode prog_2_method_2_code 8 = .ok (.aload_n 1, 1) := by decide +kernel
theorem d_Choice_begin_9 : decode prog_2_method_2_code 9 = .ok (.getfield 52, 3) := by decide +kernel
theorem d_Choice_begin_12 : decode prog_2_method_2_code 12 = .ok (.iconst 0, 1) := by decide +kernel
theorem d_Choice_begin_13 : decode prog_2_method_2_code 13 = .ok (.aload_n 0, 1) := by decide +kernel
theorem d_Choice_begin_14 : decode prog_2_method_2_code 14 = .ok (.getfield 9, 3) := by decide +kernel
theorem d_Choice_begin_17 : decode prog_2_method_2_code 17 = .ok (.iconst 0, 1) := by decide +kernel
theorem d_Choice_begin_18 : decode prog_2_method_2_code 18 = .ok (.aload_n 0, 1) := by decide +kernel
theorem d_Choice_begin_19 : decode prog_2_method_2_code 19 = .ok (.getfield 15, 3) := by decide +kernel
theorem d_Choice_begin_22 : decode prog_2_method_2_code 22 = .ok (.invokestatic 55, 3) := by decide +kernel
theorem d_Choice_begin_25 : decode prog_2_method_2_code 25 = .ok (.aload_n 0, 1) := by decide +kernel
theorem d_Choice_begin_26 : decode prog_2_method_2_code 26 = .ok (.iload_n 2, 1) := by decide +kernel
theorem d_Choice_begin_27 : decode prog_2_method_2_code 27 = .ok (.putfield 34, 3) := by decide +kernel
theorem d_Choice_begin_30 : decode prog_2_method_2_code 30 = .ok (.aload_n 0, 1) := by decide +kernel
theorem d_Choice_begin_31 : decode prog_2_method_2_code 31 = .ok (.iload_n 3, 1) := by decide +kernel
theorem d_Choice_begin_32 : decode prog_2_method_2_code 32 = .ok (.putfield 19, 3) := by decide +kernel
theorem d_Choice_begin_35 : decode prog_2_method_2_code 35 = .ok (.aload_n 0, 1) := by decide +kernel
theorem d_Choice_begin_36 : decode prog_2_method_2_code 36 = .ok (.aload_n 0, 1) := by decide +kernel
theorem d_Choice_begin_37 : decode prog_2_method_2_code 37 = .ok (.getfield 15, 3) := by decide +kernel
theorem d_Choice_begin_40 : decode prog_2_method_2_code 40 = .ok (.iload_n 3, 1) := by decide +kernel
theorem d_Choice_begin_41 : decode prog_2_method_2_code 41 = .ok (.iadd, 1) := by decide +kernel
theorem d_Choice_begin_42 : decode prog_2_method_2_code 42 = .ok (.iconst 1, 1) := by decide +kernel
theorem d_Choice_begin_43 : decode prog_2_method_2_code 43 = .ok (.isub, 1) := by decide +kernel
theorem d_Choice_begin_44 : decode prog_2_method_2_code 44 = .ok (.iload_n 3, 1) := by decide +kernel
theorem d_Choice_begin_45 : decode prog_2_method_2_code 45 = .ok (.idiv, 1) := by decide +kernel
theorem d_Choice_begin_46 : decode prog_2_method_2_code 46 = .ok (.putfield 22, 3) := by decide +kernel
theorem d_Choice_begin_49 : decode prog_2_method_2_code 49 = .ok (.iconst 0, 1) := by decide +kernel
theorem d_Choice_begin_50 : decode prog_2_method_2_code 50 = .ok (.istore 4, 2) := by decide +kernel
theorem d_Choice_begin_52 : decode prog_2_method_2_code 52 = .ok (.iload 4, 2) := by decide +kernel
theorem d_Choice_begin_54 : decode prog_2_method_2_code 54 = .ok (.aload_n 0, 1) := by decide +kernel
theorem d_Choice_begin_55 : decode prog_2_method_2_code 55 = .ok (.getfield 22, 3) := by decide +kernel
theorem d_Choice_begin_58 : decode prog_2_method_2_code 58 = .ok (.if_icmp .ge 25, 3) := by decide +kernel
theorem d_Choice_begin_61 : decode prog_2_method_2_code 61 = .ok (.aload_n 0, 1) := by decide +kernel
theorem d_Choice_begin_62 : decode prog_2_method_2_code 62 = .ok (.getfield 25, 3) := by decide +kernel
theorem d_Choice_begin_65 : decode prog_2_method_2_code 65 = .ok (.iload 4, 2) := by decide +kernel
theorem d_Choice_begin_67 : decode prog_2_method_2_code 67 = .ok (.iload 4, 2) := by decide +kernel
theorem d_Choice_begin_69 : decode prog_2_method_2_code 69 = .ok (.iload_n 2, 1) := by decide +kernel
theorem d_Choice_begin_70 : decode prog_2_method_2_code 70 = .ok (.imul, 1) := by decide +kernel
theorem d_Choice_begin_71 : decode prog_2_method_2_code 71 = .ok (.aload_n 0, 1) := by decide +kernel
theorem d_Choice_begin_72 : decode prog_2_method_2_code 72 = .ok (.getfield 22, 3) := by decide +kernel
theorem d_Choice_begin_75 : decode prog_2_method_2_code 75 = .ok (.idiv, 1) := by decide +kernel
theorem d_Choice_begin_76 : decode prog_2_method_2_code 76 = .ok (.iastore, 1) := by decide +kernel
theorem d_Choice_begin_77 : decode prog_2_method_2_code 77 = .ok (.iinc 4 1, 3) := by decide +kernel
theorem d_Choice_begin_80 : decode prog_2_method_2_code 80 = .ok (.goto (-28), 3) := by decide +kernel
theorem d_Choice_begin_83 : decode prog_2_method_2_code 83 = .ok (.return_, 1) := by decide +kernel
theorem d_Choice_endOf_0 : decode prog_2_method_4_code 0 = .ok (.iload_n 1, 1) := by decide +kernel
theorem d_Choice_endOf_1 : decode prog_2_method_4_code 1 = .ok (.iconst 1, 1) := by decide +kernel
theorem d_Choice_endOf_2 : decode prog_2_method_4_code 2 = .ok (.iadd, 1) := by decide +kernel
theorem d_Choice_endOf_3 : decode prog_2_method_4_code 3 = .ok (.aload_n 0, 1) := by decide +kernel
theorem d_Choice_endOf_4 : decode prog_2_method_4_code 4 = .ok (.getfield 19, 3) := by decide +kernel
theorem d_Choice_endOf_7 : decode prog_2_method_4_code 7 = .ok (.imul, 1) := by decide +kernel
theorem d_Choice_endOf_8 : decode prog_2_method_4_code 8 = .ok (.aload_n 0, 1) := by decide +kernel
theorem d_Choice_endOf_9 : decode prog_2_method_4_code 9 = .ok (.getfield 15, 3) := by decide +kernel
theorem d_Choice_endOf_12 : decode prog_2_method_4_code 12 = .ok (.invokestatic 68, 3) := by decide +kernel
theorem d_Choice_endOf_15 : decode prog_2_method_4_code 15 = .ok (.ireturn, 1) := by decide +kernel
theorem d_Choice_countFor_0 : decode prog_2_method_6_code 0 = .ok (.aload_n 0, 1) := by decide +kernel
theorem d_Choice_countFor_1 : decode prog_2_method_6_code 1 = .ok (.getfield 37, 3) := by decide +kernel
theorem d_Choice_countFor_4 : decode prog_2_method_6_code 4 = .ok (.iconst 0, 1) := by decide +kernel
theorem d_Choice_countFor_5 : decode prog_2_method_6_code 5 = .ok (.invokestatic 84, 3) := by decide +kernel
theorem d_Choice_countFor_8 : decode prog_2_method_6_code 8 = .ok (.iconst 0, 1) := by decide +kernel
theorem d_Choice_countFor_9 : decode prog_2_method_6_code 9 = .ok (.istore_n 2, 1) := by decide +kernel
theorem d_Choice_countFor_10 : decode prog_2_method_6_code 10 = .ok (.iload_n 2, 1) := by decide +kernel
theorem d_Choice_countFor_11 : decode prog_2_method_6_code 11 = .ok (.aload_n 0, 1) := by decide +kernel
theorem d_Choice_countFor_12 : decode prog_2_method_6_code 12 = .ok (.getfield 15, 3) := by decide +kernel
theorem d_Choice_countFor_15 : decode prog_2_method_6_code 15 = .ok (.if_icmp .ge 21, 3) := by decide +kernel
theorem d_Choice_countFor_18 : decode prog_2_method_6_code 18 = .ok (.aload_n 0, 1) := by decide +kernel
theorem d_Choice_countFor_19 : decode prog_2_method_6_code 19 = .ok (.getfield 37, 3) := by decide +kernel
theorem d_Choice_countFor_22 : decode prog_2_method_6_code 22 = .ok (.aload_n 0, 1) := by decide +kernel
theorem d_Choice_countFor_23 : decode prog_2_method_6_code 23 = .ok (.getfield 9, 3) := by decide +kernel
theorem d_Choice_countFor_26 : decode prog_2_method_6_code 26 = .ok (.iload_n 2, 1) := by decide +kernel
theorem d_Choice_countFor_27 : decode prog_2_method_6_code 27 = .ok (.iaload, 1) := by decide +kernel
theorem d_Choice_countFor_28 : decode prog_2_method_6_code 28 = .ok (.iconst 1, 1) := by decide +kernel
theorem d_Choice_countFor_29 : decode prog_2_method_6_code 29 = .ok (.iastore, 1) := by decide +kernel
theorem d_Choice_countFor_30 : decode prog_2_method_6_code 30 = .ok (.iinc 2 1, 3) := by decide +kernel
theorem d_Choice_countFor_33 : decode prog_2_method_6_code 33 = .ok (.goto (-23), 3) := by decide +kernel
theorem d_Choice_countFor_36 : decode prog_2_method_6_code 36 = .ok (.iconst 0, 1) := by decide +kernel
theorem d_Choice_countFor_37 : decode prog_2_method_6_code 37 = .ok (.istore_n 2, 1) := by decide +kernel
theorem d_Choice_countFor_38 : decode prog_2_method_6_code 38 = .ok (.iload_n 2, 1) := by decide +kernel
theorem d_Choice_countFor_39 : decode prog_2_method_6_code 39 = .ok (.aload_n 0, 1) := by decide +kernel
theorem d_Choice_countFor_40 : decode prog_2_method_6_code 40 = .ok (.getfield 22, 3) := by decide +kernel
theorem d_Choice_countFor_43 : decode prog_2_method_6_code 43 = .ok (.if_icmp .ge 56, 3) := by decide +kernel
theorem d_Choice_countFor_46 : decode prog_2_method_6_code 46 = .ok (.aload_n 0, 1) := by decide +kernel
theorem d_Choice_countFor_47 : decode prog_2_method_6_code 47 = .ok (.getfield 25, 3) := by decide +kernel
theorem d_Choice_countFor_50 : decode prog_2_method_6_code 50 = .ok (.iload_n 2, 1) := by decide +kernel
theorem d_Choice_countFor_51 : decode prog_2_method_6_code 51 = .ok (.iaload, 1) := by decide +kernel
theorem d_Choice_countFor_52 : decode prog_2_method_6_code 52 = .ok (.iload_n 1, 1) := by decide +kernel
theorem d_Choice_countFor_53 : decode prog_2_method_6_code 53 = .ok (.if_icmp .ne 40, 3) := by decide +kernel
theorem d_Choice_countFor_56 : decode prog_2_method_6_code 56 = .ok (.iload_n 2, 1) := by decide +kernel
theorem d_Choice_countFor_57 : decode prog_2_method_6_code 57 = .ok (.aload_n 0, 1) := by decide +kernel
theorem d_Choice_countFor_58 : decode prog_2_method_6_code 58 = .ok (.getfield 19, 3) := by decide +kernel
theorem d_Choice_countFor_61 : decode prog_2_method_6_code 61 = .ok (.imul, 1) := by decide +kernel
theorem d_Choice_countFor_62 : decode prog_2_method_6_code 62 = .ok (.istore_n 3, 1) := by decide +kernel
theorem d_Choice_countFor_63 : decode prog_2_method_6_code 63 = .ok (.iload_n 3, 1) := by decide +kernel
theorem d_Choice_countFor_64 : decode prog_2_method_6_code 64 = .ok (.aload_n 0, 1) := by decide +kernel
theorem d_Choice_countFor_65 : decode prog_2_method_6_code 65 = .ok (.iload_n 2, 1) := by decide +kernel
theorem d_Choice_countFor_66 : decode prog_2_method_6_code 66 = .ok (.invokevirtual 90, 3) := by decide +kernel
theorem d_Choice_countFor_69 : decode prog_2_method_6_code 69 = .ok (.if_icmp .ge 24, 3) := by decide +kernel
theorem d_Choice_countFor_72 : decode prog_2_method_6_code 72 = .ok (.aload_n 0, 1) := by decide +kernel
theorem d_Choice_countFor_73 : decode prog_2_method_6_code 73 = .ok (.getfield 37, 3) := by decide +kernel
theorem d_Choice_countFor_76 : decode prog_2_method_6_code 76 = .ok (.aload_n 0, 1) := by decide +kernel
theorem d_Choice_countFor_77 : decode prog_2_method_6_code 77 = .ok (.getfield 9, 3) := by decide +kernel
theorem d_Choice_countFor_80 : decode prog_2_method_6_code 80 = .ok (.iload_n 3, 1) := by decide +kernel
theorem d_Choice_countFor_81 : decode prog_2_method_6_code 81 = .ok (.iaload, 1) := by decide +kernel
theorem d_Choice_countFor_82 : decode prog_2_method_6_code 82 = .ok (.dup2, 1) := by decide +kernel
theorem d_Choice_countFor_83 : decode prog_2_method_6_code 83 = .ok (.iaload, 1) := by decide +kernel
theorem d_Choice_countFor_84 : decode prog_2_method_6_code 84 = .ok (.iconst 1, 1) := by decide +kernel
theorem d_Choice_countFor_85 : decode prog_2_method_6_code 85 = .ok (.iadd, 1) := by decide +kernel
theorem d_Choice_countFor_86 : decode prog_2_method_6_code 86 = .ok (.iastore, 1) := by decide +kernel
theorem d_Choice_countFor_87 : decode prog_2_method_6_code 87 = .ok (.iinc 3 1, 3) := by decide +kernel
theorem d_Choice_countFor_90 : decode prog_2_method_6_code 90 = .ok (.goto (-27), 3) := by decide +kernel
theorem d_Choice_countFor_93 : decode prog_2_method_6_code 93 = .ok (.iinc 2 1, 3) := by decide +kernel
theorem d_Choice_countFor_96 : decode prog_2_method_6_code 96 = .ok (.goto (-58), 3) := by decide +kernel
theorem d_Choice_countFor_99 : decode prog_2_method_6_code 99 = .ok (.return_, 1) := by decide +kernel
theorem d_Choice_fitCodes_0 : decode prog_2_method_5_code 0 = .ok (.iconst 0, 1) := by decide +kernel
theorem d_Choice_fitCodes_1 : decode prog_2_method_5_code 1 = .ok (.istore_n 3, 1) := by decide +kernel
theorem d_Choice_fitCodes_2 : decode prog_2_method_5_code 2 = .ok (.iload_n 3, 1) := by decide +kernel
theorem d_Choice_fitCodes_3 : decode prog_2_method_5_code 3 = .ok (.aload_n 0, 1) := by decide +kernel
theorem d_Choice_fitCodes_4 : decode prog_2_method_5_code 4 = .ok (.getfield 34, 3) := by decide +kernel
theorem d_Choice_fitCodes_7 : decode prog_2_method_5_code 7 = .ok (.if_icmp .ge 38, 3) := by decide +kernel
theorem d_Choice_fitCodes_10 : decode prog_2_method_5_code 10 = .ok (.aload_n 0, 1) := by decide +kernel
theorem d_Choice_fitCodes_11 : decode prog_2_method_5_code 11 = .ok (.iload_n 3, 1) := by decide +kernel
theorem d_Choice_fitCodes_12 : decode prog_2_method_5_code 12 = .ok (.invokevirtual 74, 3) := by decide +kernel
theorem d_Choice_fitCodes_15 : decode prog_2_method_5_code 15 = .ok (.aload_n 0, 1) := by decide +kernel
theorem d_Choice_fitCodes_16 : decode prog_2_method_5_code 16 = .ok (.getfield 30, 3) := by decide +kernel
theorem d_Choice_fitCodes_19 : decode prog_2_method_5_code 19 = .ok (.iload_n 3, 1) := by decide +kernel
theorem d_Choice_fitCodes_20 : decode prog_2_method_5_code 20 = .ok (.aaload, 1) := by decide +kernel
theorem d_Choice_fitCodes_21 : decode prog_2_method_5_code 21 = .ok (.ifnull 18, 3) := by decide +kernel
theorem d_Choice_fitCodes_24 : decode prog_2_method_5_code 24 = .ok (.aload_n 1, 1) := by decide +kernel
theorem d_Choice_fitCodes_25 : decode prog_2_method_5_code 25 = .ok (.aload_n 0, 1) := by decide +kernel
theorem d_Choice_fitCodes_26 : decode prog_2_method_5_code 26 = .ok (.getfield 37, 3) := by decide +kernel
theorem d_Choice_fitCodes_29 : decode prog_2_method_5_code 29 = .ok (.iload_n 2, 1) := by decide +kernel
theorem d_Choice_fitCodes_30 : decode prog_2_method_5_code 30 = .ok (.aload_n 0, 1) := by decide +kernel
theorem d_Choice_fitCodes_31 : decode prog_2_method_5_code 31 = .ok (.getfield 30, 3) := by decide +kernel
theorem d_Choice_fitCodes_34 : decode prog_2_method_5_code 34 = .ok (.iload_n 3, 1) := by decide +kernel
theorem d_Choice_fitCodes_35 : decode prog_2_method_5_code 35 = .ok (.aaload, 1) := by decide +kernel
theorem d_Choice_fitCodes_36 : decode prog_2_method_5_code 36 = .ok (.invokevirtual 78, 3) := by decide +kernel
theorem d_Choice_fitCodes_39 : decode prog_2_method_5_code 39 = .ok (.iinc 3 1, 3) := by decide +kernel
theorem d_Choice_fitCodes_42 : decode prog_2_method_5_code 42 = .ok (.goto (-40), 3) := by decide +kernel
theorem d_Choice_fitCodes_45 : decode prog_2_method_5_code 45 = .ok (.return_, 1) := by decide +kernel
noncomputable def f_Table_tell (σ : St) (a1 : Int32) (a2 : Int32) : Option (St × Int32) :=
  if (1 <<< ((σ.1 19 0 0) &&& 31)) ≤ a1 then
    b2 (f_Table_partAround σ a1) fun σ1 x2 =>
    if 0 ≤ x2 then
      gd (ib x2 64) <|
      gd (ib x2 64) <|
      gd (ib x2 64) <|
      nm (((σ1.1 23 0 x2.toNatClampNeg) <<< ((σ1.1 24 0 x2.toNatClampNeg) &&& 31)) ||| (a1 - (σ1.1 25 0 x2.toNatClampNeg))) fun x3 =>
      gd (ib x2 64) <|
      b2 (f_Table_wordFor σ1 x3 ((σ1.1 19 0 0) + (σ1.1 24 0 x2.toNatClampNeg))) fun σ4 x5 =>
      b2 (f_Table_tellWord σ4 x5 a2) fun σ6 x7 =>
      some (σ6, x7)
    else
    b2 (f_Table_pick σ1 a2 0 (-1) 0) fun σ8 x9 =>
    some (σ8, x9)
  else
  b2 (f_Table_partWithPrefix σ a1) fun σ10 x11 =>
  if x11 < 0 then
    b2 (f_Table_wordFor σ10 a1 (σ10.1 19 0 0)) fun σ12 x13 =>
    b2 (f_Table_tellWord σ12 x13 a2) fun σ14 x15 =>
    some (σ14, x15)
  else
  gd (ib x11 64) <|
  gd (ib x11 64) <|
  b2 (f_Table_pick σ10 a2 2 (σ10.1 25 0 x11.toNatClampNeg) (σ10.1 24 0 x11.toNatClampNeg)) fun σ16 x17 =>
  some (σ16, x17)
noncomputable def lb_Text_extend_2 (σ : St) (v1 : Int32) : Option ((St × Int32) ⊕ ((St × Int32) ⊕ (St × Int32))) :=
  if 5 ≤ v1 then
    some (.inr (.inl (σ, v1)))
  else
  gd (ib v1 5) <|
  if (σ.1 28 0 v1.toNatClampNeg) < 0 then
    some (.inr (.inl (σ, v1)))
  else
  gd (ib v1 5) <|
  if (σ.1 28 0 v1.toNatClampNeg) < 64 then
    nm (v1 + 1) fun x1 =>
    some (.inl (σ, x1))
  else
  some (.inr (.inr (σ, (-102))))
noncomputable def f_Text_extend (σ : St) : Option (St × Int32) :=
  bs2 (lpE (fun q => lb_Text_extend_2 q.1 q.2) (σ, 0)) (fun z => some z) fun σ2 x3 =>
  if x3 ≤ (1000 - (σ2.1 26 0 1)) then
    gd (cpok 0 5 (σ2.1 26 0 1) 1000 x3) <|
    nm (cpI σ2 28 0 ((0 : Int32).toNatClampNeg) 27 0 ((σ2.1 26 0 1).toNatClampNeg) (x3.toNatClampNeg)) fun σ4 =>
    nm (sI σ4 26 0 1 ((σ4.1 26 0 1) + x3)) fun σ5 =>
    some (σ5, σ5.1 26 0 1)
  else
  some (σ2, (-106))
noncomputable def f_PC_add (σ : St) (a1 : Int32) (a2 : Int32) (a3 : Int32) (a4 : Int32) (a5 : Int32) : Option (St × Int32) :=
  gd (ib 0 5) <|
  nm (sI σ 28 0 ((0 : Int32).toNatClampNeg) a1) fun σ1 =>
  gd (ib 1 5) <|
  nm (sI σ1 28 0 ((1 : Int32).toNatClampNeg) a2) fun σ2 =>
  gd (ib 2 5) <|
  nm (sI σ2 28 0 ((2 : Int32).toNatClampNeg) a3) fun σ3 =>
  gd (ib 3 5) <|
  nm (sI σ3 28 0 ((3 : Int32).toNatClampNeg) a4) fun σ4 =>
  gd (ib 4 5) <|
  nm (sI σ4 28 0 ((4 : Int32).toNatClampNeg) a5) fun σ5 =>
  b2 (f_Text_extend σ5) fun σ6 x7 =>
  some (σ6, x7)
noncomputable def f_PC_forget (σ : St) : Option (St × Int32) :=
  nm (σ.1 26 0 1) fun x1 =>
  nm (sI σ 26 0 1 0) fun σ2 =>
  some (σ2, x1)
noncomputable def lb_Text_different_12 (σ : St) (v1 : Int32) (v2 : Int32) : Option ((St × Int32 × Int32) ⊕ ((St × Int32 × Int32))) :=
  if 64 ≤ v2 then
    some (.inr (σ, v1, v2))
  else
  gd (ib v2 64) <|
  if (σ.1 29 0 v2.toNatClampNeg) ≤ 0 then
    nm (v2 + 1) fun x2 =>
    some (.inl (σ, v1, x2))
  else
  nm (v1 + 1) fun x3 =>
  nm (v2 + 1) fun x4 =>
  some (.inl (σ, x3, x4))
noncomputable def f_Text_different (σ : St) : Option (St × Int32) :=
  b1 (f_Text_tally σ 29 0 64) fun σ1 =>
  b3 (lpE (fun q => lb_Text_different_12 q.1 q.2.1 q.2.2) (σ1, 0, 0)) fun σ5 x6 x7 =>
  some (σ5, x6)
noncomputable def lb_Choice_begin_52 (a2 : Int32) (σ : St) (v4 : Int32) : Option ((St × Int32) ⊕ ((St × Int32))) :=
  if (σ.1 30 0 3) ≤ v4 then
    some (.inr (σ, v4))
  else
  gd (¬ (σ.1 30 0 3) = 0) <|
  gd (ib v4 1000) <|
  nm (sI σ 32 0 (v4.toNatClampNeg) ((v4 * a2) / (σ.1 30 0 3))) fun σ6 =>
  nm (v4 + 1) fun x7 =>
  some (.inl (σ6, x7))
noncomputable def f_Choice_begin (σ : St) (a2 : Int32) (a3 : Int32) : Option (St) :=
  nm (sI σ 30 0 1 (σ.1 26 0 1)) fun σ1 =>
  gd (cpok 0 1000 0 1000 (σ1.1 30 0 1)) <|
  nm (cpI σ1 27 0 ((0 : Int32).toNatClampNeg) 31 0 ((0 : Int32).toNatClampNeg) ((σ1.1 30 0 1).toNatClampNeg)) fun σ2 =>
  nm (sI σ2 30 0 6 a2) fun σ3 =>
  nm (sI σ3 30 0 2 a3) fun σ4 =>
  gd (¬ a3 = 0) <|
  nm (sI σ4 30 0 3 ((((σ4.1 30 0 1) + a3) - 1) / a3)) fun σ5 =>
  b2 (lpE (fun q => lb_Choice_begin_52 a2 q.1 q.2) (σ5, 0)) fun σ8 x9 =>
  some σ8
noncomputable def f_Choice_endOf (σ : St) (a1 : Int32) : Option (St × Int32) :=
  some (σ, jmin ((a1 + 1) * (σ.1 30 0 2)) (σ.1 30 0 1))
noncomputable def lb_Choice_countFor_10 (a1 : Int32) (σ : St) (v2 : Int32) : Option ((St × Int32) ⊕ ((St × Int32))) :=
  if (σ.1 30 0 1) ≤ v2 then
    some (.inr (σ, v2))
  else
  gd (ib v2 1000) <|
  gd (ib (σ.1 31 0 v2.toNatClampNeg) 64) <|
  nm (sI σ 34 0 ((σ.1 31 0 v2.toNatClampNeg).toNatClampNeg) 1) fun σ2 =>
  nm (v2 + 1) fun x3 =>
  some (.inl (σ2, x3))
noncomputable def lb_Choice_countFor_63 (a1 : Int32) (v2 : Int32) (σ : St) (v3 : Int32) : Option ((St × Int32) ⊕ ((St × Int32))) :=
  b2 (f_Choice_endOf σ v2) fun σ8 x9 =>
  if x9 ≤ v3 then
    some (.inr (σ8, v3))
  else
  gd (ib v3 1000) <|
  gd (ib (σ8.1 31 0 v3.toNatClampNeg) 64) <|
  gd (ib (σ8.1 31 0 v3.toNatClampNeg) 64) <|
  nm (sI σ8 34 0 ((σ8.1 31 0 v3.toNatClampNeg).toNatClampNeg) ((σ8.1 34 0 (σ8.1 31 0 v3.toNatClampNeg).toNatClampNeg) + 1)) fun σ10 =>
  nm (v3 + 1) fun x11 =>
  some (.inl (σ10, x11))
noncomputable def lb_Choice_countFor_38 (a1 : Int32) (σ : St) (v2 : Int32) : Option ((St × Int32) ⊕ ((St × Int32))) :=
  if (σ.1 30 0 3) ≤ v2 then
    some (.inr (σ, v2))
  else
  gd (ib v2 1000) <|
  if (σ.1 32 0 v2.toNatClampNeg) = a1 then
    nm (v2 * (σ.1 30 0 2)) fun x7 =>
    b2 (lpE (fun q => lb_Choice_countFor_63 a1 v2 q.1 q.2) (σ, x7)) fun σ12 x13 =>
    nm (v2 + 1) fun x14 =>
    some (.inl (σ12, x14))
  else
  nm (v2 + 1) fun x6 =>
  some (.inl (σ, x6))
noncomputable def f_Choice_countFor (σ : St) (a1 : Int32) : Option (St) :=
  b1 (f_Arrays_fill σ 34 0 64 0) fun σ1 =>
  b2 (lpE (fun q => lb_Choice_countFor_10 a1 q.1 q.2) (σ1, 0)) fun σ4 x5 =>
  b2 (lpE (fun q => lb_Choice_countFor_38 a1 q.1 q.2) (σ4, 0)) fun σ15 x16 =>
  some σ15
noncomputable def lb_Choice_fitCodes_2 (a2 : Int32) (σ : St) (v3 : Int32) : Option ((St × Int32) ⊕ ((St × Int32))) :=
  if (σ.1 30 0 6) ≤ v3 then
    some (.inr (σ, v3))
  else
  b1 (f_Choice_countFor σ v3) fun σ1 =>
  gd (ib v3 6) <|
  on (σ1.2.2.1 33 0 v3.toNatClampNeg) (
    none
    ) fun j2 =>
  gd (ib v3 6) <|
  on (σ1.2.2.1 33 0 v3.toNatClampNeg) (
    none
    ) fun j3 =>
  b1 (f_Packages_fit σ1 34 0 64 a2 j3) fun σ4 =>
  nm (v3 + 1) fun x5 =>
  some (.inl (σ4, x5))
noncomputable def f_Choice_fitCodes (σ : St) (a2 : Int32) : Option (St) :=
  b2 (lpE (fun q => lb_Choice_fitCodes_2 a2 q.1 q.2) (σ, 0)) fun σ6 x7 =>
  some σ6
set_option maxHeartbeats 4000000 in
set_option maxRecDepth 100000 in
theorem c_Table_tell (l : Launch) (D : va_G) (aC : Nat → ClassId) (A : Nat → Prop) (ad : Nat → Nat → Nat) (n : Nat) (σ : St) (a1 : Int32) (a2 : Int32) (o : St × Int32) (h : f_Table_tell σ a1 a2 = some o) : Met l y_Table_tell w_Table_tell rm_Table_tell (va_Pc [.ref (ad 19 0), .int a1, .int a2] (Pre D aC A ad n σ)) (va_Qi (fun r (_ : Unit) => r = o.2) (fun _ t => Hold D aC A ad n o.1 t.heap) A) 0 0 A := by
  refine Met.ofW (cc := prog_10_method_4_code) (maxL := 5) (ret := (some .int)) (by decide) rfl ?_
  intro p e s m args below meth c s₁ B hml hv
  obtain ⟨hargs, hH, hK, hZ⟩ := hv
  have hx := B.exec
  have hb := B.bytes
  have hr := B.returns
  have hts := atoms_spec (ws := w_Table_tell) B.pre
  have hg : ∀ w ∈ gW, w.before args s = true := fun w h => hts w (List.mem_cons_of_mem _ h)
  have hown : s.vm.findClass "PrefixCodes$Table" = some m.cls := findClass_of_methodNamed B.named
  have hlocks := B.notSynchronized
  have hS : va_S A s.heap s.heap [] := va_S.rf
  have hl := lv_entry ([.ref (ad 19 0), .int a1, .int a2]) (n := 5) (Nat.le_of_ble_eq_true rfl)
  rw [show entryFrame m args 5 = entryFrame m (([.ref (ad 19 0), .int a1, .int a2] : List Value).toArray) 5 by rw [hargs], lg_entry_eq]
  generalize (lg_sl ([.ref (ad 19 0), .int a1, .int a2]) ++ List.replicate (5 - (lg_sl ([.ref (ad 19 0), .int a1, .int a2])).length) Slot.unset).toArray = ls at hl ⊢
  have hl : lv_has ls 5 [(0, .ref (ad 19 0)), (1, .int a1), (2, .int a2)] := hl
  generalize hQ0 : MQ below (va_Qi (fun r (_ : Unit) => r = o.2) (fun _ t => Hold D aC A ad n o.1 t.heap) A) args s 0 0 A = Q0
  unfold f_Table_tell at h
  refine lv_iload_n hx hb d_Table_tell_0 rfl (lv_at hl 1 rfl) ?_
  refine lv_iconst (v := 1) hx hb d_Table_tell_1 (by decide) ?_
  refine lv_aload_n hx hb d_Table_tell_2 rfl (lv_at hl 0 rfl) ?_
  refine st_get hx hb hg hown hK hH (f := 19) (i := 0) hd_19 rfl rfl u_Table 0 (by decide) (hg _ wd_273) (v := .int (σ.1 19 0 0)) rfl d_Table_tell_3 ?_
  refine lv_ishl hx hb d_Table_tell_6 ?_
  refine lv_icmp_ge (tgt := 53) hx hb d_Table_tell_7 (by decide) (fun c7 => ?_) (fun c7 => ?_)
  · have h := it h c7
    refine lv_aload_n hx hb d_Table_tell_53 rfl (lv_at hl 0 rfl) ?_
    refine lv_iload_n hx hb d_Table_tell_54 rfl (lv_at hl 1 rfl) ?_
    obtain ⟨qc, hc55, h⟩ := b2_some h
    obtain ⟨σ1, x2⟩ := qc
    have h := b2_at h
    refine st_Vi (As := [.int a1]) (rest := []) ⟨hx, hb, hml, hown, hg⟩ (c_Table_partAround l D aC A ad n _ a1 _ hc55) (cwG hg wd_298 wd_299 wd_300 wd_301 wd_286 yd_Table_partAround ⟨Nat.le_of_ble_eq_true rfl, Nat.le_of_ble_eq_true rfl⟩) hK hH hS hZ hd_19 rfl rfl rfl hl.1 rfl (Nat.le_of_ble_eq_true rfl) d_Table_tell_55 ⟨Nat.zero_le _, Nat.zero_le _⟩ (fun H locs hH hS => ?_)
    refine lv_istore_n (lv' := [(3, .int x2), (0, .ref (ad 19 0)), (1, .int a1), (2, .int a2)]) hx hb d_Table_tell_58 rfl hl (by decide) rfl (fun ls hl => ?_)
    refine lv_iload_n hx hb d_Table_tell_59 rfl (lv_at hl 0 rfl) ?_
    refine lv_if_ge (tgt := 71) hx hb d_Table_tell_60 (by decide) (fun c60 => ?_) (fun c60 => ?_)
    · have h := it h c60
      refine lv_aload_n hx hb d_Table_tell_71 rfl (lv_at hl 1 rfl) ?_
      refine st_get hx hb hg hown hK hH (f := 19) (i := 0) hd_19 rfl rfl u_Table 7 (by decide) (hg _ wd_271) (v := .ref (ad 23 0)) rfl d_Table_tell_72 ?_
      refine lv_iload_n hx hb d_Table_tell_75 rfl (lv_at hl 0 rfl) ?_
      obtain ⟨g76, h⟩ := gd_some h
      refine st_iald hx hb hK hH (f := 23) (i := 0) hd_23 rfl g76 d_Table_tell_76 ?_
      refine lv_aload_n hx hb d_Table_tell_77 rfl (lv_at hl 1 rfl) ?_
      refine st_get hx hb hg hown hK hH (f := 19) (i := 0) hd_19 rfl rfl u_Table 8 (by decide) (hg _ wd_272) (v := .ref (ad 24 0)) rfl d_Table_tell_78 ?_
      refine lv_iload_n hx hb d_Table_tell_81 rfl (lv_at hl 0 rfl) ?_
      obtain ⟨g82, h⟩ := gd_some h
      refine st_iald hx hb hK hH (f := 24) (i := 0) hd_24 rfl g82 d_Table_tell_82 ?_
      refine lv_ishl hx hb d_Table_tell_83 ?_
      refine lv_iload_n hx hb d_Table_tell_84 rfl (lv_at hl 2 rfl) ?_
      refine lv_aload_n hx hb d_Table_tell_85 rfl (lv_at hl 1 rfl) ?_
      refine st_get hx hb hg hown hK hH (f := 19) (i := 0) hd_19 rfl rfl u_Table 9 (by decide) (hg _ wd_283) (v := .ref (ad 25 0)) rfl d_Table_tell_86 ?_
      refine lv_iload_n hx hb d_Table_tell_89 rfl (lv_at hl 0 rfl) ?_
      obtain ⟨g90, h⟩ := gd_some h
      refine st_iald hx hb hK hH (f := 25) (i := 0) hd_25 rfl g90 d_Table_tell_90 ?_
      refine lv_isub hx hb d_Table_tell_91 ?_
      refine lv_ior hx hb d_Table_tell_92 ?_
      refine lv_topi (fun x3 ex3 => ?_)
      have h := nm_at ex3 h
      refine lv_istore (lv' := [(4, .int x3), (3, .int x2), (0, .ref (ad 19 0)), (1, .int a1), (2, .int a2)]) hx hb d_Table_tell_93 hl (by decide) rfl (fun ls hl => ?_)
      refine lv_aload_n hx hb d_Table_tell_95 rfl (lv_at hl 2 rfl) ?_
      refine lv_aload_n hx hb d_Table_tell_96 rfl (lv_at hl 2 rfl) ?_
      refine lv_iload hx hb d_Table_tell_97 (lv_at hl 0 rfl) ?_
      refine lv_aload_n hx hb d_Table_tell_99 rfl (lv_at hl 2 rfl) ?_
      refine st_get hx hb hg hown hK hH (f := 19) (i := 0) hd_19 rfl rfl u_Table 0 (by decide) (hg _ wd_273) (v := .int (σ1.1 19 0 0)) rfl d_Table_tell_100 ?_
      refine lv_aload_n hx hb d_Table_tell_103 rfl (lv_at hl 2 rfl) ?_
      refine st_get hx hb hg hown hK hH (f := 19) (i := 0) hd_19 rfl rfl u_Table 8 (by decide) (hg _ wd_272) (v := .ref (ad 24 0)) rfl d_Table_tell_104 ?_
      refine lv_iload_n hx hb d_Table_tell_107 rfl (lv_at hl 1 rfl) ?_
      obtain ⟨g108, h⟩ := gd_some h
      refine st_iald hx hb hK hH (f := 24) (i := 0) hd_24 rfl g108 d_Table_tell_108 ?_
      refine lv_iadd hx hb d_Table_tell_109 ?_
      obtain ⟨qc, hc110, h⟩ := b2_some h
      obtain ⟨σ4, x5⟩ := qc
      have h := b2_at h
      refine st_Vi (As := [.int x3, .int ((σ1.1 19 0 0) + (σ1.1 24 0 x2.toNatClampNeg))]) (rest := [.ref (ad 19 0)]) ⟨hx, hb, hml, hown, hg⟩ (c_Table_wordFor l D aC A ad n _ x3 ((σ1.1 19 0 0) + (σ1.1 24 0 x2.toNatClampNeg)) _ hc110) (cwG hg wd_302 wd_303 wd_304 wd_305 wd_286 yd_Table_wordFor ⟨Nat.le_of_ble_eq_true rfl, Nat.le_of_ble_eq_true rfl⟩) hK hH hS hZ hd_19 rfl rfl rfl hl.1 rfl (Nat.le_of_ble_eq_true rfl) d_Table_tell_110 ⟨Nat.zero_le _, Nat.zero_le _⟩ (fun H locs hH hS => ?_)
      refine lv_iload_n hx hb d_Table_tell_113 rfl (lv_at hl 4 rfl) ?_
      obtain ⟨qc, hc114, h⟩ := b2_some h
      obtain ⟨σ6, x7⟩ := qc
      have h := b2_at h
      refine st_Vi (As := [.int x5, .int a2]) (rest := []) ⟨hx, hb, hml, hown, hg⟩ (c_Table_tellWord l D aC A ad n _ x5 a2 _ hc114) (cwG hg wd_306 wd_307 wd_308 wd_309 wd_286 yd_Table_tellWord ⟨Nat.le_of_ble_eq_true rfl, Nat.le_of_ble_eq_true rfl⟩) hK hH hS hZ hd_19 rfl rfl rfl hl.1 rfl (Nat.le_of_ble_eq_true rfl) d_Table_tell_114 ⟨Nat.zero_le _, Nat.zero_le _⟩ (fun H locs hH hS => ?_)
      cases h
      rw [← hQ0]
      exact W.iret hx hb hr (fun t ht hW => ⟨⟨_, (), rfl, rfl, by dsimp only; rw [ht]; exact hH⟩, hS.F ht⟩) hS.2.2 d_Table_tell_117
    · have h := ie h c60
      refine lv_iload_n hx hb d_Table_tell_63 rfl (lv_at hl 3 rfl) ?_
      refine lv_iconst (v := 0) hx hb d_Table_tell_64 (by decide) ?_
      refine lv_iconst (v := (-1)) hx hb d_Table_tell_65 (by decide) ?_
      refine lv_iconst (v := 0) hx hb d_Table_tell_66 (by decide) ?_
      obtain ⟨qc, hc67, h⟩ := b2_some h
      obtain ⟨σ8, x9⟩ := qc
      have h := b2_at h
      refine st_Si (As := [.int a2, .int 0, .int (-1), .int 0]) (rest := []) ⟨hx, hb, hml, hown, hg⟩ (c_Table_pick l D aC A ad n _ a2 0 (-1) 0 _ hc67) (cwGS hg wd_295 wd_296 wd_297 wd_286 yd_Table_pick ⟨Nat.le_of_ble_eq_true rfl, Nat.le_of_ble_eq_true rfl⟩) hK hH hS hZ rfl hl.1 rfl (Nat.le_of_ble_eq_true rfl) d_Table_tell_67 ⟨Nat.zero_le _, Nat.zero_le _⟩ (fun H locs hH hS => ?_)
      cases h
      rw [← hQ0]
      exact W.iret hx hb hr (fun t ht hW => ⟨⟨_, (), rfl, rfl, by dsimp only; rw [ht]; exact hH⟩, hS.F ht⟩) hS.2.2 d_Table_tell_70
  · have h := ie h c7
    refine lv_aload_n hx hb d_Table_tell_10 rfl (lv_at hl 0 rfl) ?_
    refine lv_iload_n hx hb d_Table_tell_11 rfl (lv_at hl 1 rfl) ?_
    obtain ⟨qc, hc12, h⟩ := b2_some h
    obtain ⟨σ10, x11⟩ := qc
    have h := b2_at h
    refine st_Vi (As := [.int a1]) (rest := []) ⟨hx, hb, hml, hown, hg⟩ (c_Table_partWithPrefix l D aC A ad n _ a1 _ hc12) (cwG hg wd_310 wd_311 wd_312 wd_313 wd_286 yd_Table_partWithPrefix ⟨Nat.le_of_ble_eq_true rfl, Nat.le_of_ble_eq_true rfl⟩) hK hH hS hZ hd_19 rfl rfl rfl hl.1 rfl (Nat.le_of_ble_eq_true rfl) d_Table_tell_12 ⟨Nat.zero_le _, Nat.zero_le _⟩ (fun H locs hH hS => ?_)
    refine lv_istore_n (lv' := [(3, .int x11), (0, .ref (ad 19 0)), (1, .int a1), (2, .int a2)]) hx hb d_Table_tell_15 rfl hl (by decide) rfl (fun ls hl => ?_)
    refine lv_iload_n hx hb d_Table_tell_16 rfl (lv_at hl 0 rfl) ?_
    refine lv_if_lt (tgt := 38) hx hb d_Table_tell_17 (by decide) (fun c17 => ?_) (fun c17 => ?_)
    · have h := it h c17
      refine lv_aload_n hx hb d_Table_tell_38 rfl (lv_at hl 1 rfl) ?_
      refine lv_aload_n hx hb d_Table_tell_39 rfl (lv_at hl 1 rfl) ?_
      refine lv_iload_n hx hb d_Table_tell_40 rfl (lv_at hl 2 rfl) ?_
      refine lv_aload_n hx hb d_Table_tell_41 rfl (lv_at hl 1 rfl) ?_
      refine st_get hx hb hg hown hK hH (f := 19) (i := 0) hd_19 rfl rfl u_Table 0 (by decide) (hg _ wd_273) (v := .int (σ10.1 19 0 0)) rfl d_Table_tell_42 ?_
      obtain ⟨qc, hc45, h⟩ := b2_some h
      obtain ⟨σ12, x13⟩ := qc
      have h := b2_at h
      refine st_Vi (As := [.int a1, .int (σ10.1 19 0 0)]) (rest := [.ref (ad 19 0)]) ⟨hx, hb, hml, hown, hg⟩ (c_Table_wordFor l D aC A ad n _ a1 (σ10.1 19 0 0) _ hc45) (cwG hg wd_302 wd_303 wd_304 wd_305 wd_286 yd_Table_wordFor ⟨Nat.le_of_ble_eq_true rfl, Nat.le_of_ble_eq_true rfl⟩) hK hH hS hZ hd_19 rfl rfl rfl hl.1 rfl (Nat.le_of_ble_eq_true rfl) d_Table_tell_45 ⟨Nat.zero_le _, Nat.zero_le _⟩ (fun H locs hH hS => ?_)
      refine lv_iload_n hx hb d_Table_tell_48 rfl (lv_at hl 3 rfl) ?_
      obtain ⟨qc, hc49, h⟩ := b2_some h
      obtain ⟨σ14, x15⟩ := qc
      have h := b2_at h
      refine st_Vi (As := [.int x13, .int a2]) (rest := []) ⟨hx, hb, hml, hown, hg⟩ (c_Table_tellWord l D aC A ad n _ x13 a2 _ hc49) (cwG hg wd_306 wd_307 wd_308 wd_309 wd_286 yd_Table_tellWord ⟨Nat.le_of_ble_eq_true rfl, Nat.le_of_ble_eq_true rfl⟩) hK hH hS hZ hd_19 rfl rfl rfl hl.1 rfl (Nat.le_of_ble_eq_true rfl) d_Table_tell_49 ⟨Nat.zero_le _, Nat.zero_le _⟩ (fun H locs hH hS => ?_)
      cases h
      rw [← hQ0]
      exact W.iret hx hb hr (fun t ht hW => ⟨⟨_, (), rfl, rfl, by dsimp only; rw [ht]; exact hH⟩, hS.F ht⟩) hS.2.2 d_Table_tell_52
    · have h := ie h c17
      refine lv_iload_n hx hb d_Table_tell_20 rfl (lv_at hl 3 rfl) ?_
      refine lv_iconst (v := 2) hx hb d_Table_tell_21 (by decide) ?_
      refine lv_aload_n hx hb d_Table_tell_22 rfl (lv_at hl 1 rfl) ?_
      refine st_get hx hb hg hown hK hH (f := 19) (i := 0) hd_19 rfl rfl u_Table 9 (by decide) (hg _ wd_283) (v := .ref (ad 25 0)) rfl d_Table_tell_23 ?_
      refine lv_iload_n hx hb d_Table_tell_26 rfl (lv_at hl 0 rfl) ?_
      obtain ⟨g27, h⟩ := gd_some h
      refine st_iald hx hb hK hH (f := 25) (i := 0) hd_25 rfl g27 d_Table_tell_27 ?_
      refine lv_aload_n hx hb d_Table_tell_28 rfl (lv_at hl 1 rfl) ?_
      refine st_get hx hb hg hown hK hH (f := 19) (i := 0) hd_19 rfl rfl u_Table 8 (by decide) (hg _ wd_272) (v := .ref (ad 24 0)) rfl d_Table_tell_29 ?_
      refine lv_iload_n hx hb d_Table_tell_32 rfl (lv_at hl 0 rfl) ?_
      obtain ⟨g33, h⟩ := gd_some h
      refine st_iald hx hb hK hH (f := 24) (i := 0) hd_24 rfl g33 d_Table_tell_33 ?_
      obtain ⟨qc, hc34, h⟩ := b2_some h
      obtain ⟨σ16, x17⟩ := qc
      have h := b2_at h
      refine st_Si (As := [.int a2, .int 2, .int (σ10.1 25 0 x11.toNatClampNeg), .int (σ10.1 24 0 x11.toNatClampNeg)]) (rest := []) ⟨hx, hb, hml, hown, hg⟩ (c_Table_pick l D aC A ad n _ a2 2 (σ10.1 25 0 x11.toNatClampNeg) (σ10.1 24 0 x11.toNatClampNeg) _ hc34) (cwGS hg wd_295 wd_296 wd_297 wd_286 yd_Table_pick ⟨Nat.le_of_ble_eq_true rfl, Nat.le_of_ble_eq_true rfl⟩) hK hH hS hZ rfl hl.1 rfl (Nat.le_of_ble_eq_true rfl) d_Table_tell_34 ⟨Nat.zero_le _, Nat.zero_le _⟩ (fun H locs hH hS => ?_)
      cases h
      rw [← hQ0]
      exact W.iret hx hb hr (fun t ht hW => ⟨⟨_, (), rfl, rfl, by dsimp only; rw [ht]; exact hH⟩, hS.F ht⟩) hS.2.2 d_Table_tell_37
set_option maxHeartbeats 4000000 in
set_option maxRecDepth 100000 in
theorem c_Text_extend (l : Launch) (D : va_G) (aC : Nat → ClassId) (A : Nat → Prop) (ad : Nat → Nat → Nat) (n : Nat) (σ : St) (o : St × Int32) (h : f_Text_extend σ  = some o) : Met l y_Text_extend w_Text_extend rm_Text_extend (va_Pc [.ref (ad 26 0)] (Pre D aC A ad n σ)) (va_Qi (fun r (_ : Unit) => r = o.2) (fun _ t => Hold D aC A ad n o.1 t.heap) A) 0 0 A := by
  refine Met.ofW (cc := prog_11_method_2_code) (maxL := 2) (ret := (some .int)) (by decide) rfl ?_
  intro p e s m args below meth c s₁ B hml hv
  obtain ⟨hargs, hH, hK, hZ⟩ := hv
  have hx := B.exec
  have hb := B.bytes
  have hr := B.returns
  have hts := atoms_spec (ws := w_Text_extend) B.pre
  have hg : ∀ w ∈ gW, w.before args s = true := fun w h => hts w (List.mem_cons_of_mem _ h)
  have hown : s.vm.findClass "PrefixCodes$Text" = some m.cls := findClass_of_methodNamed B.named
  have hlocks := B.notSynchronized
  have hS : va_S A s.heap s.heap [] := va_S.rf
  have hl := lv_entry ([.ref (ad 26 0)]) (n := 2) (Nat.le_of_ble_eq_true rfl)
  rw [show entryFrame m args 2 = entryFrame m (([.ref (ad 26 0)] : List Value).toArray) 2 by rw [hargs], lg_entry_eq]
  generalize (lg_sl ([.ref (ad 26 0)]) ++ List.replicate (2 - (lg_sl ([.ref (ad 26 0)])).length) Slot.unset).toArray = ls at hl ⊢
  have hl : lv_has ls 2 [(0, .ref (ad 26 0))] := hl
  generalize hQ0 : MQ below (va_Qi (fun r (_ : Unit) => r = o.2) (fun _ t => Hold D aC A ad n o.1 t.heap) A) args s 0 0 A = Q0
  unfold f_Text_extend at h
  refine lv_iconst (v := 0) hx hb d_Text_extend_0 (by decide) ?_
  refine lv_istore_n (lv' := [(1, .int 0), (0, .ref (ad 26 0))]) hx hb d_Text_extend_1 rfl hl (by decide) rfl (fun ls hl => ?_)
  obtain ⟨q1, hq1, h⟩ := bs2_some h
  have K1 : ∀ (σ2 : St) (x3 : Int32) (H : Heap) (locs : List Loc) (ls : Array Slot), q1 = .inl (σ2, x3) → Hold D aC A ad n σ2 H → va_S A s.heap H locs → lv_has ls 2 [(0, .ref (ad 26 0)), (1, .int x3)] → W p l e (headSpec w_Text_extend rm_Text_extend).room s m args below meth c H locs 0 0 Q0 (F0 m 36 ls []) := by
    intro σ2 x3 H locs ls eq1 hH hS hl
    subst eq1
    have h := bs2_at h
    refine lv_iload_n hx hb d_Text_extend_36 rfl (lv_at hl 1 rfl) ?_
    refine lv_sipush (v := 1000) hx hb d_Text_extend_37 (by decide) ?_
    refine lv_aload_n hx hb d_Text_extend_40 rfl (lv_at hl 0 rfl) ?_
    refine st_get hx hb hg hown hK hH (f := 26) (i := 0) hd_26 rfl rfl u_Text 1 (by decide) (hg _ wd_68) (v := .int (σ2.1 26 0 1)) rfl d_Text_extend_41 ?_
    refine lv_isub hx hb d_Text_extend_44 ?_
    refine lv_icmp_le (tgt := 51) hx hb d_Text_extend_45 (by decide) (fun c45 => ?_) (fun c45 => ?_)
    · have h := it h c45
      refine lv_aload_n hx hb d_Text_extend_51 rfl (lv_at hl 0 rfl) ?_
      refine st_get hx hb hg hown hK hH (f := 26) (i := 0) hd_26 rfl rfl u_Text 2 (by decide) (hg _ wd_314) (v := .ref (ad 28 0)) rfl d_Text_extend_52 ?_
      refine lv_iconst (v := 0) hx hb d_Text_extend_55 (by decide) ?_
      refine lv_aload_n hx hb d_Text_extend_56 rfl (lv_at hl 0 rfl) ?_
      refine st_get hx hb hg hown hK hH (f := 26) (i := 0) hd_26 rfl rfl u_Text 0 (by decide) (hg _ wd_69) (v := .ref (ad 27 0)) rfl d_Text_extend_57 ?_
      refine lv_aload_n hx hb d_Text_extend_60 rfl (lv_at hl 0 rfl) ?_
      refine st_get hx hb hg hown hK hH (f := 26) (i := 0) hd_26 rfl rfl u_Text 1 (by decide) (hg _ wd_68) (v := .int (σ2.1 26 0 1)) rfl d_Text_extend_61 ?_
      refine lv_iload_n hx hb d_Text_extend_64 rfl (lv_at hl 1 rfl) ?_
      obtain ⟨g65, h⟩ := gd_some h
      refine st_copy hx hb (hml.trans hl.1.symm) hown (hg _ wd_315) (hg _ wd_316) (hg _ wd_317) (hg _ wd_318) hK hH hS hd_28 rfl hd_27 rfl g65 (Nat.le_of_ble_eq_true rfl) (Nat.le_of_ble_eq_true rfl) d_Text_extend_65 (fun σ4 H locs eσ4 hH hS => ?_)
      have h := nm_at eσ4 h
      refine lv_aload_n hx hb d_Text_extend_68 rfl (lv_at hl 0 rfl) ?_
      refine lv_dup hx hb d_Text_extend_69 rfl ?_
      refine st_get hx hb hg hown hK hH (f := 26) (i := 0) hd_26 rfl rfl u_Text 1 (by decide) (hg _ wd_68) (v := .int (σ4.1 26 0 1)) rfl d_Text_extend_70 ?_
      refine lv_iload_n hx hb d_Text_extend_73 rfl (lv_at hl 1 rfl) ?_
      refine lv_iadd hx hb d_Text_extend_74 ?_
      refine st_put hx hb hg hown hK hH hS (f := 26) (i := 0) hd_26 rfl rfl u_Text t_Text t_Text_ok n_Text 1 (by decide) (hg _ wd_68) rfl rfl rfl d_Text_extend_75 (fun σ5 H locs eσ5 hH hS => ?_)
      have h := nm_at eσ5 h
      refine lv_aload_n hx hb d_Text_extend_78 rfl (lv_at hl 0 rfl) ?_
      refine st_get hx hb hg hown hK hH (f := 26) (i := 0) hd_26 rfl rfl u_Text 1 (by decide) (hg _ wd_68) (v := .int (σ5.1 26 0 1)) rfl d_Text_extend_79 ?_
      cases h
      rw [← hQ0]
      exact W.iret hx hb hr (fun t ht hW => ⟨⟨_, (), rfl, rfl, by dsimp only; rw [ht]; exact hH⟩, hS.F ht⟩) hS.2.2 d_Text_extend_82
    · have h := ie h c45
      refine lv_bipush (v := (-106)) hx hb d_Text_extend_48 (by decide) ?_
      cases h
      rw [← hQ0]
      exact W.iret hx hb hr (fun t ht hW => ⟨⟨_, (), rfl, rfl, by dsimp only; rw [ht]; exact hH⟩, hS.F ht⟩) hS.2.2 d_Text_extend_50
  have loop1 : ∀ (k : Nat) (σ : St) (v1 : Int32) (H : Heap) (locs : List Loc) (ls : Array Slot), Hold D aC A ad n σ H → va_S A s.heap H locs → lv_has ls 2 [(0, .ref (ad 26 0)), (1, .int v1)] → lp (fun q => lb_Text_extend_2 q.1 q.2) k (σ, v1) = some q1 → W p l e (headSpec w_Text_extend rm_Text_extend).room s m args below meth c H locs 0 0 Q0 (F0 m 2 ls []) := by
    intro k
    induction k with
    | zero => intro σ v1 H locs ls hH hS hl hlp; exact absurd hlp (lp_zero _ _ _)
    | succ k ih1 =>
      intro σ v1 H locs ls hH hS hl hlp
      obtain ⟨z1, h1, hk1⟩ := lp_succ hlp
      have h1 : lb_Text_extend_2 σ v1 = some z1 := h1
      unfold lb_Text_extend_2 at h1
      refine lv_iload_n hx hb d_Text_extend_2 rfl (lv_at hl 1 rfl) ?_
      refine lv_iconst (v := 5) hx hb d_Text_extend_3 (by decide) ?_
      refine lv_icmp_ge (tgt := 36) hx hb d_Text_extend_4 (by decide) (fun c4 => ?_) (fun c4 => ?_)
      · have h1 := it h1 c4
        cases h1
        exact K1 σ v1 _ _ ls (Option.some.inj hk1).symm hH hS (lv_sub hl [0, 1] rfl)
      · have h1 := ie h1 c4
        refine lv_aload_n hx hb d_Text_extend_7 rfl (lv_at hl 0 rfl) ?_
        refine st_get hx hb hg hown hK hH (f := 26) (i := 0) hd_26 rfl rfl u_Text 2 (by decide) (hg _ wd_314) (v := .ref (ad 28 0)) rfl d_Text_extend_8 ?_
        refine lv_iload_n hx hb d_Text_extend_11 rfl (lv_at hl 1 rfl) ?_
        obtain ⟨g12, h1⟩ := gd_some h1
        refine st_iald hx hb hK hH (f := 28) (i := 0) hd_28 rfl g12 d_Text_extend_12 ?_
        refine lv_if_lt (tgt := 36) hx hb d_Text_extend_13 (by decide) (fun c13 => ?_) (fun c13 => ?_)
        · have h1 := it h1 c13
          cases h1
          exact K1 σ v1 _ _ ls (Option.some.inj hk1).symm hH hS (lv_sub hl [0, 1] rfl)
        · have h1 := ie h1 c13
          refine lv_aload_n hx hb d_Text_extend_16 rfl (lv_at hl 0 rfl) ?_
          refine st_get hx hb hg hown hK hH (f := 26) (i := 0) hd_26 rfl rfl u_Text 2 (by decide) (hg _ wd_314) (v := .ref (ad 28 0)) rfl d_Text_extend_17 ?_
          refine lv_iload_n hx hb d_Text_extend_20 rfl (lv_at hl 1 rfl) ?_
          obtain ⟨g21, h1⟩ := gd_some h1
          refine st_iald hx hb hK hH (f := 28) (i := 0) hd_28 rfl g21 d_Text_extend_21 ?_
          refine lv_bipush (v := 64) hx hb d_Text_extend_22 (by decide) ?_
          refine lv_icmp_lt (tgt := 30) hx hb d_Text_extend_24 (by decide) (fun c24 => ?_) (fun c24 => ?_)
          · have h1 := it h1 c24
            obtain ⟨x1, ex1⟩ : ∃ y : Int32, y = v1 + 1 := ⟨_, rfl⟩
            have h1 := nm_at ex1 h1
            refine lv_iinc (v := x1) (lv' := [(1, .int x1), (0, .ref (ad 26 0))]) hx hb d_Text_extend_30 hl (k := 1) rfl (by rw [ex1]; rfl) (by decide) rfl (fun ls hl => ?_)
            refine lv_goto (tgt := 2) hx hb d_Text_extend_33 (by decide) ?_
            cases h1
            exact ih1 σ x1 _ _ ls hH hS (lv_sub hl [1, 0] rfl) hk1
          · have h1 := ie h1 c24
            refine lv_bipush (v := (-102)) hx hb d_Text_extend_27 (by decide) ?_
            cases h1
            have hk1 := Option.some.inj hk1
            subst hk1
            have h := bs2_r h
            cases h
            rw [← hQ0]
            exact W.iret hx hb hr (fun t ht hW => ⟨⟨_, (), rfl, rfl, by dsimp only; rw [ht]; exact hH⟩, hS.F ht⟩) hS.2.2 d_Text_extend_29
  obtain ⟨k1, hq1⟩ := lpE_some hq1
  exact loop1 k1 σ 0 _ _ ls hH hS (lv_sub hl [1, 0] rfl) hq1
set_option maxHeartbeats 4000000 in
set_option maxRecDepth 100000 in
theorem c_PC_add (l : Launch) (D : va_G) (aC : Nat → ClassId) (A : Nat → Prop) (ad : Nat → Nat → Nat) (n : Nat) (σ : St) (a1 : Int32) (a2 : Int32) (a3 : Int32) (a4 : Int32) (a5 : Int32) (o : St × Int32) (h : f_PC_add σ a1 a2 a3 a4 a5 = some o) : Met l y_PC_add w_PC_add rm_PC_add (va_Pc [.ref (ad 0 0), .int a1, .int a2, .int a3, .int a4, .int a5] (Pre D aC A ad n σ)) (va_Qi (fun r (_ : Unit) => r = o.2) (fun _ t => Hold D aC A ad n o.1 t.heap) A) 0 0 A := by
  refine Met.ofW (cc := prog_1_method_21_code) (maxL := 6) (ret := (some .int)) (by decide) rfl ?_
  intro p e s m args below meth c s₁ B hml hv
  obtain ⟨hargs, hH, hK, hZ⟩ := hv
  have hx := B.exec
  have hb := B.bytes
  have hr := B.returns
  have hts := atoms_spec (ws := w_PC_add) B.pre
  have hg : ∀ w ∈ gW, w.before args s = true := fun w h => hts w (List.mem_cons_of_mem _ h)
  have hown : s.vm.findClass "PrefixCodes" = some m.cls := findClass_of_methodNamed B.named
  have hlocks := B.notSynchronized
  have hS : va_S A s.heap s.heap [] := va_S.rf
  have hl := lv_entry ([.ref (ad 0 0), .int a1, .int a2, .int a3, .int a4, .int a5]) (n := 6) (Nat.le_of_ble_eq_true rfl)
  rw [show entryFrame m args 6 = entryFrame m (([.ref (ad 0 0), .int a1, .int a2, .int a3, .int a4, .int a5] : List Value).toArray) 6 by rw [hargs], lg_entry_eq]
  generalize (lg_sl ([.ref (ad 0 0), .int a1, .int a2, .int a3, .int a4, .int a5]) ++ List.replicate (6 - (lg_sl ([.ref (ad 0 0), .int a1, .int a2, .int a3, .int a4, .int a5])).length) Slot.unset).toArray = ls at hl ⊢
  have hl : lv_has ls 6 [(0, .ref (ad 0 0)), (1, .int a1), (2, .int a2), (3, .int a3), (4, .int a4), (5, .int a5)] := hl
  generalize hQ0 : MQ below (va_Qi (fun r (_ : Unit) => r = o.2) (fun _ t => Hold D aC A ad n o.1 t.heap) A) args s 0 0 A = Q0
  unfold f_PC_add at h
  refine lv_aload_n hx hb d_PC_add_0 rfl (lv_at hl 0 rfl) ?_
  refine st_get hx hb hg hown hK hH (f := 0) (i := 0) hd_0 rfl rfl u_PC 7 (by decide) (hg _ wd_71) (v := .ref (ad 26 0)) rfl d_PC_add_1 ?_
  refine st_get hx hb hg hown hK hH (f := 26) (i := 0) hd_26 rfl rfl u_Text 2 (by decide) (hg _ wd_319) (v := .ref (ad 28 0)) rfl d_PC_add_4 ?_
  refine lv_iconst (v := 0) hx hb d_PC_add_7 (by decide) ?_
  refine lv_iload_n hx hb d_PC_add_8 rfl (lv_at hl 1 rfl) ?_
  obtain ⟨g9, h⟩ := gd_some h
  refine st_iast hx hb hK hH hS (f := 28) (i := 0) hd_28 rfl g9 d_PC_add_9 (fun σ1 H locs eσ1 hH hS => ?_)
  have h := nm_at eσ1 h
  refine lv_aload_n hx hb d_PC_add_10 rfl (lv_at hl 0 rfl) ?_
  refine st_get hx hb hg hown hK hH (f := 0) (i := 0) hd_0 rfl rfl u_PC 7 (by decide) (hg _ wd_71) (v := .ref (ad 26 0)) rfl d_PC_add_11 ?_
  refine st_get hx hb hg hown hK hH (f := 26) (i := 0) hd_26 rfl rfl u_Text 2 (by decide) (hg _ wd_319) (v := .ref (ad 28 0)) rfl d_PC_add_14 ?_
  refine lv_iconst (v := 1) hx hb d_PC_add_17 (by decide) ?_
  refine lv_iload_n hx hb d_PC_add_18 rfl (lv_at hl 2 rfl) ?_
  obtain ⟨g19, h⟩ := gd_some h
  refine st_iast hx hb hK hH hS (f := 28) (i := 0) hd_28 rfl g19 d_PC_add_19 (fun σ2 H locs eσ2 hH hS => ?_)
  have h := nm_at eσ2 h
  refine lv_aload_n hx hb d_PC_add_20 rfl (lv_at hl 0 rfl) ?_
  refine st_get hx hb hg hown hK hH (f := 0) (i := 0) hd_0 rfl rfl u_PC 7 (by decide) (hg _ wd_71) (v := .ref (ad 26 0)) rfl d_PC_add_21 ?_
  refine st_get hx hb hg hown hK hH (f := 26) (i := 0) hd_26 rfl rfl u_Text 2 (by decide) (hg _ wd_319) (v := .ref (ad 28 0)) rfl d_PC_add_24 ?_
  refine lv_iconst (v := 2) hx hb d_PC_add_27 (by decide) ?_
  refine lv_iload_n hx hb d_PC_add_28 rfl (lv_at hl 3 rfl) ?_
  obtain ⟨g29, h⟩ := gd_some h
  refine st_iast hx hb hK hH hS (f := 28) (i := 0) hd_28 rfl g29 d_PC_add_29 (fun σ3 H locs eσ3 hH hS => ?_)
  have h := nm_at eσ3 h
  refine lv_aload_n hx hb d_PC_add_30 rfl (lv_at hl 0 rfl) ?_
  refine st_get hx hb hg hown hK hH (f := 0) (i := 0) hd_0 rfl rfl u_PC 7 (by decide) (hg _ wd_71) (v := .ref (ad 26 0)) rfl d_PC_add_31 ?_
  refine st_get hx hb hg hown hK hH (f := 26) (i := 0) hd_26 rfl rfl u_Text 2 (by decide) (hg _ wd_319) (v := .ref (ad 28 0)) rfl d_PC_add_34 ?_
  refine lv_iconst (v := 3) hx hb d_PC_add_37 (by decide) ?_
  refine lv_iload hx hb d_PC_add_38 (lv_at hl 4 rfl) ?_
  obtain ⟨g40, h⟩ := gd_some h
  refine st_iast hx hb hK hH hS (f := 28) (i := 0) hd_28 rfl g40 d_PC_add_40 (fun σ4 H locs eσ4 hH hS => ?_)
  have h := nm_at eσ4 h
  refine lv_aload_n hx hb d_PC_add_41 rfl (lv_at hl 0 rfl) ?_
  refine st_get hx hb hg hown hK hH (f := 0) (i := 0) hd_0 rfl rfl u_PC 7 (by decide) (hg _ wd_71) (v := .ref (ad 26 0)) rfl d_PC_add_42 ?_
  refine st_get hx hb hg hown hK hH (f := 26) (i := 0) hd_26 rfl rfl u_Text 2 (by decide) (hg _ wd_319) (v := .ref (ad 28 0)) rfl d_PC_add_45 ?_
  refine lv_iconst (v := 4) hx hb d_PC_add_48 (by decide) ?_
  refine lv_iload hx hb d_PC_add_49 (lv_at hl 5 rfl) ?_
  obtain ⟨g51, h⟩ := gd_some h
  refine st_iast hx hb hK hH hS (f := 28) (i := 0) hd_28 rfl g51 d_PC_add_51 (fun σ5 H locs eσ5 hH hS => ?_)
  have h := nm_at eσ5 h
  refine lv_aload_n hx hb d_PC_add_52 rfl (lv_at hl 0 rfl) ?_
  refine st_get hx hb hg hown hK hH (f := 0) (i := 0) hd_0 rfl rfl u_PC 7 (by decide) (hg _ wd_71) (v := .ref (ad 26 0)) rfl d_PC_add_53 ?_
  obtain ⟨qc, hc56, h⟩ := b2_some h
  obtain ⟨σ6, x7⟩ := qc
  have h := b2_at h
  refine st_Vi (As := []) (rest := []) ⟨hx, hb, hml, hown, hg⟩ (c_Text_extend l D aC A ad n _  _ hc56) (cwG hg wd_320 wd_321 wd_322 wd_323 wd_74 yd_Text_extend ⟨Nat.le_of_ble_eq_true rfl, Nat.le_of_ble_eq_true rfl⟩) hK hH hS hZ hd_26 rfl rfl rfl hl.1 rfl (Nat.le_of_ble_eq_true rfl) d_PC_add_56 ⟨Nat.zero_le _, Nat.zero_le _⟩ (fun H locs hH hS => ?_)
  cases h
  rw [← hQ0]
  exact W.iret hx hb hr (fun t ht hW => ⟨⟨_, (), rfl, rfl, by dsimp only; rw [ht]; exact hH⟩, hS.F ht⟩) hS.2.2 d_PC_add_59
set_option maxHeartbeats 4000000 in
set_option maxRecDepth 100000 in
theorem c_PC_forget (l : Launch) (D : va_G) (aC : Nat → ClassId) (A : Nat → Prop) (ad : Nat → Nat → Nat) (n : Nat) (σ : St) (o : St × Int32) (h : f_PC_forget σ  = some o) : Met l y_PC_forget w_PC_forget rm_PC_forget (va_Pc [.ref (ad 0 0)] (Pre D aC A ad n σ)) (va_Qi (fun r (_ : Unit) => r = o.2) (fun _ t => Hold D aC A ad n o.1 t.heap) A) 0 0 A := by
  refine Met.ofW (cc := prog_1_method_22_code) (maxL := 2) (ret := (some .int)) (by decide) rfl ?_
  intro p e s m args below meth c s₁ B hml hv
  obtain ⟨hargs, hH, hK, hZ⟩ := hv
  have hx := B.exec
  have hb := B.bytes
  have hr := B.returns
  have hts := atoms_spec (ws := w_PC_forget) B.pre
  have hg : ∀ w ∈ gW, w.before args s = true := fun w h => hts w (List.mem_cons_of_mem _ h)
  have hown : s.vm.findClass "PrefixCodes" = some m.cls := findClass_of_methodNamed B.named
  have hlocks := B.notSynchronized
  have hS : va_S A s.heap s.heap [] := va_S.rf
  have hl := lv_entry ([.ref (ad 0 0)]) (n := 2) (Nat.le_of_ble_eq_true rfl)
  rw [show entryFrame m args 2 = entryFrame m (([.ref (ad 0 0)] : List Value).toArray) 2 by rw [hargs], lg_entry_eq]
  generalize (lg_sl ([.ref (ad 0 0)]) ++ List.replicate (2 - (lg_sl ([.ref (ad 0 0)])).length) Slot.unset).toArray = ls at hl ⊢
  have hl : lv_has ls 2 [(0, .ref (ad 0 0))] := hl
  generalize hQ0 : MQ below (va_Qi (fun r (_ : Unit) => r = o.2) (fun _ t => Hold D aC A ad n o.1 t.heap) A) args s 0 0 A = Q0
  unfold f_PC_forget at h
  refine lv_aload_n hx hb d_PC_forget_0 rfl (lv_at hl 0 rfl) ?_
  refine st_get hx hb hg hown hK hH (f := 0) (i := 0) hd_0 rfl rfl u_PC 7 (by decide) (hg _ wd_71) (v := .ref (ad 26 0)) rfl d_PC_forget_1 ?_
  refine st_get hx hb hg hown hK hH (f := 26) (i := 0) hd_26 rfl rfl u_Text 1 (by decide) (hg _ wd_324) (v := .int (σ.1 26 0 1)) rfl d_PC_forget_4 ?_
  refine lv_topi (fun x1 ex1 => ?_)
  have h := nm_at ex1 h
  refine lv_istore_n (lv' := [(1, .int x1), (0, .ref (ad 0 0))]) hx hb d_PC_forget_7 rfl hl (by decide) rfl (fun ls hl => ?_)
  refine lv_aload_n hx hb d_PC_forget_8 rfl (lv_at hl 1 rfl) ?_
  refine st_get hx hb hg hown hK hH (f := 0) (i := 0) hd_0 rfl rfl u_PC 7 (by decide) (hg _ wd_71) (v := .ref (ad 26 0)) rfl d_PC_forget_9 ?_
  refine lv_iconst (v := 0) hx hb d_PC_forget_12 (by decide) ?_
  refine st_put hx hb hg hown hK hH hS (f := 26) (i := 0) hd_26 rfl rfl u_Text t_Text t_Text_ok n_Text 1 (by decide) (hg _ wd_324) rfl rfl rfl d_PC_forget_13 (fun σ2 H locs eσ2 hH hS => ?_)
  have h := nm_at eσ2 h
  refine lv_iload_n hx hb d_PC_forget_16 rfl (lv_at hl 0 rfl) ?_
  cases h
  rw [← hQ0]
  exact W.iret hx hb hr (fun t ht hW => ⟨⟨_, (), rfl, rfl, by dsimp only; rw [ht]; exact hH⟩, hS.F ht⟩) hS.2.2 d_PC_forget_17
set_option maxHeartbeats 4000000 in
set_option maxRecDepth 100000 in
theorem c_Text_different (l : Launch) (D : va_G) (aC : Nat → ClassId) (A : Nat → Prop) (ad : Nat → Nat → Nat) (n : Nat) (σ : St) (o : St × Int32) (h : f_Text_different σ  = some o) : Met l y_Text_different w_Text_different rm_Text_different (va_Pc [.ref (ad 26 0)] (Pre D aC A ad n σ)) (va_Qi (fun r (_ : Unit) => r = o.2) (fun _ t => Hold D aC A ad n o.1 t.heap) A) 0 0 A := by
  refine Met.ofW (cc := prog_11_method_5_code) (maxL := 3) (ret := (some .int)) (by decide) rfl ?_
  intro p e s m args below meth c s₁ B hml hv
  obtain ⟨hargs, hH, hK, hZ⟩ := hv
  have hx := B.exec
  have hb := B.bytes
  have hr := B.returns
  have hts := atoms_spec (ws := w_Text_different) B.pre
  have hg : ∀ w ∈ gW, w.before args s = true := fun w h => hts w (List.mem_cons_of_mem _ h)
  have hown : s.vm.findClass "PrefixCodes$Text" = some m.cls := findClass_of_methodNamed B.named
  have hlocks := B.notSynchronized
  have hS : va_S A s.heap s.heap [] := va_S.rf
  have hl := lv_entry ([.ref (ad 26 0)]) (n := 3) (Nat.le_of_ble_eq_true rfl)
  rw [show entryFrame m args 3 = entryFrame m (([.ref (ad 26 0)] : List Value).toArray) 3 by rw [hargs], lg_entry_eq]
  generalize (lg_sl ([.ref (ad 26 0)]) ++ List.replicate (3 - (lg_sl ([.ref (ad 26 0)])).length) Slot.unset).toArray = ls at hl ⊢
  have hl : lv_has ls 3 [(0, .ref (ad 26 0))] := hl
  generalize hQ0 : MQ below (va_Qi (fun r (_ : Unit) => r = o.2) (fun _ t => Hold D aC A ad n o.1 t.heap) A) args s 0 0 A = Q0
  unfold f_Text_different at h
  refine lv_aload_n hx hb d_Text_different_0 rfl (lv_at hl 0 rfl) ?_
  refine lv_aload_n hx hb d_Text_different_1 rfl (lv_at hl 0 rfl) ?_
  refine st_get hx hb hg hown hK hH (f := 26) (i := 0) hd_26 rfl rfl u_Text 3 (by decide) (hg _ wd_325) (v := .ref (ad 29 0)) rfl d_Text_different_2 ?_
  obtain ⟨qc, hc5, h⟩ := b1_some h
  obtain ⟨σ1, rfl⟩ : ∃ z, z = qc := ⟨_, rfl⟩
  have h := b1_at h
  refine st_Vv (As := [.ref (ad 29 0)]) (rest := []) ⟨hx, hb, hml, hown, hg⟩ (c_Text_tally l D aC A ad n _ 29 0 64 rfl hd_29 _ hc5) (cwG hg wd_72 wd_326 wd_75 wd_76 wd_74 yd_Text_tally ⟨Nat.le_of_ble_eq_true rfl, Nat.le_of_ble_eq_true rfl⟩) hK hH hS hZ hd_26 rfl rfl rfl hl.1 rfl (Nat.le_of_ble_eq_true rfl) d_Text_different_5 ⟨Nat.zero_le _, Nat.zero_le _⟩ (fun H locs hH hS => ?_)
  refine lv_iconst (v := 0) hx hb d_Text_different_8 (by decide) ?_
  refine lv_istore_n (lv' := [(1, .int 0), (0, .ref (ad 26 0))]) hx hb d_Text_different_9 rfl hl (by decide) rfl (fun ls hl => ?_)
  refine lv_iconst (v := 0) hx hb d_Text_different_10 (by decide) ?_
  refine lv_istore_n (lv' := [(2, .int 0), (1, .int 0), (0, .ref (ad 26 0))]) hx hb d_Text_different_11 rfl hl (by decide) rfl (fun ls hl => ?_)
  obtain ⟨q1, hq1, h⟩ := b3_some h
  have K1 : ∀ (σ5 : St) (x6 : Int32) (x7 : Int32) (H : Heap) (locs : List Loc) (ls : Array Slot), q1 = (σ5, x6, x7) → Hold D aC A ad n σ5 H → va_S A s.heap H locs → lv_has ls 3 [(0, .ref (ad 26 0)), (1, .int x6), (2, .int x7)] → W p l e (headSpec w_Text_different rm_Text_different).room s m args below meth c H locs 0 0 Q0 (F0 m 36 ls []) := by
    intro σ5 x6 x7 H locs ls eq1 hH hS hl
    subst eq1
    have h := b3_at h
    refine lv_iload_n hx hb d_Text_different_36 rfl (lv_at hl 1 rfl) ?_
    cases h
    rw [← hQ0]
    exact W.iret hx hb hr (fun t ht hW => ⟨⟨_, (), rfl, rfl, by dsimp only; rw [ht]; exact hH⟩, hS.F ht⟩) hS.2.2 d_Text_different_37
  have loop1 : ∀ (k : Nat) (σ : St) (v1 : Int32) (v2 : Int32) (H : Heap) (locs : List Loc) (ls : Array Slot), Hold D aC A ad n σ H → va_S A s.heap H locs → lv_has ls 3 [(0, .ref (ad 26 0)), (1, .int v1), (2, .int v2)] → lp (fun q => lb_Text_different_12 q.1 q.2.1 q.2.2) k (σ, v1, v2) = some q1 → W p l e (headSpec w_Text_different rm_Text_different).room s m args below meth c H locs 0 0 Q0 (F0 m 12 ls []) := by
    intro k
    induction k with
    | zero => intro σ v1 v2 H locs ls hH hS hl hlp; exact absurd hlp (lp_zero _ _ _)
    | succ k ih1 =>
      intro σ v1 v2 H locs ls hH hS hl hlp
      obtain ⟨z1, h1, hk1⟩ := lp_succ hlp
      have h1 : lb_Text_different_12 σ v1 v2 = some z1 := h1
      unfold lb_Text_different_12 at h1
      refine lv_iload_n hx hb d_Text_different_12 rfl (lv_at hl 2 rfl) ?_
      refine lv_bipush (v := 64) hx hb d_Text_different_13 (by decide) ?_
      refine lv_icmp_ge (tgt := 36) hx hb d_Text_different_15 (by decide) (fun c15 => ?_) (fun c15 => ?_)
      · have h1 := it h1 c15
        cases h1
        exact K1 σ v1 v2 _ _ ls (Option.some.inj hk1).symm hH hS (lv_sub hl [0, 1, 2] rfl)
      · have h1 := ie h1 c15
        refine lv_aload_n hx hb d_Text_different_18 rfl (lv_at hl 0 rfl) ?_
        refine st_get hx hb hg hown hK hH (f := 26) (i := 0) hd_26 rfl rfl u_Text 3 (by decide) (hg _ wd_325) (v := .ref (ad 29 0)) rfl d_Text_different_19 ?_
        refine lv_iload_n hx hb d_Text_different_22 rfl (lv_at hl 2 rfl) ?_
        obtain ⟨g23, h1⟩ := gd_some h1
        refine st_iald hx hb hK hH (f := 29) (i := 0) hd_29 rfl g23 d_Text_different_23 ?_
        refine lv_if_le (tgt := 30) hx hb d_Text_different_24 (by decide) (fun c24 => ?_) (fun c24 => ?_)
        · have h1 := it h1 c24
          obtain ⟨x2, ex2⟩ : ∃ y : Int32, y = v2 + 1 := ⟨_, rfl⟩
          have h1 := nm_at ex2 h1
          refine lv_iinc (v := x2) (lv' := [(2, .int x2), (0, .ref (ad 26 0)), (1, .int v1)]) hx hb d_Text_different_30 hl (k := 2) rfl (by rw [ex2]; rfl) (by decide) rfl (fun ls hl => ?_)
          refine lv_goto (tgt := 12) hx hb d_Text_different_33 (by decide) ?_
          cases h1
          exact ih1 σ v1 x2 _ _ ls hH hS (lv_sub hl [1, 2, 0] rfl) hk1
        · have h1 := ie h1 c24
          obtain ⟨x3, ex3⟩ : ∃ y : Int32, y = v1 + 1 := ⟨_, rfl⟩
          have h1 := nm_at ex3 h1
          refine lv_iinc (v := x3) (lv' := [(1, .int x3), (0, .ref (ad 26 0)), (2, .int v2)]) hx hb d_Text_different_27 hl (k := 1) rfl (by rw [ex3]; rfl) (by decide) rfl (fun ls hl => ?_)
          obtain ⟨x4, ex4⟩ : ∃ y : Int32, y = v2 + 1 := ⟨_, rfl⟩
          have h1 := nm_at ex4 h1
          refine lv_iinc (v := x4) (lv' := [(2, .int x4), (1, .int x3), (0, .ref (ad 26 0))]) hx hb d_Text_different_30 hl (k := 2) rfl (by rw [ex4]; rfl) (by decide) rfl (fun ls hl => ?_)
          refine lv_goto (tgt := 12) hx hb d_Text_different_33 (by decide) ?_
          cases h1
          exact ih1 σ x3 x4 _ _ ls hH hS (lv_sub hl [2, 1, 0] rfl) hk1
  obtain ⟨k1, hq1⟩ := lpE_some hq1
  exact loop1 k1 σ1 0 0 _ _ ls hH hS (lv_sub hl [2, 1, 0] rfl) hq1
set_option maxHeartbeats 4000000 in
set_option maxRecDepth 100000 in
theorem c_Choice_begin (l : Launch) (D : va_G) (aC : Nat → ClassId) (A : Nat → Prop) (ad : Nat → Nat → Nat) (n : Nat) (σ : St) (a2 : Int32) (a3 : Int32) (o : St) (h : f_Choice_begin σ a2 a3 = some o) : Met l y_Choice_begin w_Choice_begin rm_Choice_begin (va_Pc [.ref (ad 30 0), .ref (ad 26 0), .int a2, .int a3] (Pre D aC A ad n σ)) (va_Qv (fun (_ : Unit) => True) (fun _ t => Hold D aC A ad n o t.heap) A) 0 0 A := by
  refine Met.ofW (cc := prog_2_method_2_code) (maxL := 5) (ret := none) (by decide) rfl ?_
  intro p e s m args below meth c s₁ B hml hv
  obtain ⟨hargs, hH, hK, hZ⟩ := hv
  have hx := B.exec
  have hb := B.bytes
  have hr := B.returns
  have hts := atoms_spec (ws := w_Choice_begin) B.pre
  have hg : ∀ w ∈ gW, w.before args s = true := fun w h => hts w (List.mem_cons_of_mem _ h)
  have hown : s.vm.findClass "PrefixCodes$Choice" = some m.cls := findClass_of_methodNamed B.named
  have hlocks := B.notSynchronized
  have hS : va_S A s.heap s.heap [] := va_S.rf
  have hl := lv_entry ([.ref (ad 30 0), .ref (ad 26 0), .int a2, .int a3]) (n := 5) (Nat.le_of_ble_eq_true rfl)
  rw [show entryFrame m args 5 = entryFrame m (([.ref (ad 30 0), .ref (ad 26 0), .int a2, .int a3] : List Value).toArray) 5 by rw [hargs], lg_entry_eq]
  generalize (lg_sl ([.ref (ad 30 0), .ref (ad 26 0), .int a2, .int a3]) ++ List.replicate (5 - (lg_sl ([.ref (ad 30 0), .ref (ad 26 0), .int a2, .int a3])).length) Slot.unset).toArray = ls at hl ⊢
  have hl : lv_has ls 5 [(0, .ref (ad 30 0)), (1, .ref (ad 26 0)), (2, .int a2), (3, .int a3)] := hl
  generalize hQ0 : MQ below (va_Qv (fun (_ : Unit) => True) (fun _ t => Hold D aC A ad n o t.heap) A) args s 0 0 A = Q0
  unfold f_Choice_begin at h
  refine lv_aload_n hx hb d_Choice_begin_0 rfl (lv_at hl 0 rfl) ?_
  refine lv_aload_n hx hb d_Choice_begin_1 rfl (lv_at hl 1 rfl) ?_
  refine st_get hx hb hg hown hK hH (f := 26) (i := 0) hd_26 rfl rfl u_Text 1 (by decide) (hg _ wd_327) (v := .int (σ.1 26 0 1)) rfl d_Choice_begin_2 ?_
  refine st_put hx hb hg hown hK hH hS (f := 30) (i := 0) hd_30 rfl rfl u_Choice t_Choice t_Choice_ok n_Choice 1 (by decide) (hg _ wd_328) rfl rfl rfl d_Choice_begin_5 (fun σ1 H locs eσ1 hH hS => ?_)
  have h := nm_at eσ1 h
  refine lv_aload_n hx hb d_Choice_begin_8 rfl (lv_at hl 1 rfl) ?_
  refine st_get hx hb hg hown hK hH (f := 26) (i := 0) hd_26 rfl rfl u_Text 0 (by decide) (hg _ wd_329) (v := .ref (ad 27 0)) rfl d_Choice_begin_9 ?_
  refine lv_iconst (v := 0) hx hb d_Choice_begin_12 (by decide) ?_
  refine lv_aload_n hx hb d_Choice_begin_13 rfl (lv_at hl 0 rfl) ?_
  refine st_get hx hb hg hown hK hH (f := 30) (i := 0) hd_30 rfl rfl u_Choice 0 (by decide) (hg _ wd_330) (v := .ref (ad 31 0)) rfl d_Choice_begin_14 ?_
  refine lv_iconst (v := 0) hx hb d_Choice_begin_17 (by decide) ?_
  refine lv_aload_n hx hb d_Choice_begin_18 rfl (lv_at hl 0 rfl) ?_
  refine st_get hx hb hg hown hK hH (f := 30) (i := 0) hd_30 rfl rfl u_Choice 1 (by decide) (hg _ wd_328) (v := .int (σ1.1 30 0 1)) rfl d_Choice_begin_19 ?_
  obtain ⟨g22, h⟩ := gd_some h
  refine st_copy hx hb (hml.trans hl.1.symm) hown (hg _ wd_331) (hg _ wd_316) (hg _ wd_317) (hg _ wd_318) hK hH hS hd_27 rfl hd_31 rfl g22 (Nat.le_of_ble_eq_true rfl) (Nat.le_of_ble_eq_true rfl) d_Choice_begin_22 (fun σ2 H locs eσ2 hH hS => ?_)
  have h := nm_at eσ2 h
  refine lv_aload_n hx hb d_Choice_begin_25 rfl (lv_at hl 0 rfl) ?_
  refine lv_iload_n hx hb d_Choice_begin_26 rfl (lv_at hl 2 rfl) ?_
  refine st_put hx hb hg hown hK hH hS (f := 30) (i := 0) hd_30 rfl rfl u_Choice t_Choice t_Choice_ok n_Choice 6 (by decide) (hg _ wd_332) rfl rfl rfl d_Choice_begin_27 (fun σ3 H locs eσ3 hH hS => ?_)
  have h := nm_at eσ3 h
  refine lv_aload_n hx hb d_Choice_begin_30 rfl (lv_at hl 0 rfl) ?_
  refine lv_iload_n hx hb d_Choice_begin_31 rfl (lv_at hl 3 rfl) ?_
  refine st_put hx hb hg hown hK hH hS (f := 30) (i := 0) hd_30 rfl rfl u_Choice t_Choice t_Choice_ok n_Choice 2 (by decide) (hg _ wd_333) rfl rfl rfl d_Choice_begin_32 (fun σ4 H locs eσ4 hH hS => ?_)
  have h := nm_at eσ4 h
  refine lv_aload_n hx hb d_Choice_begin_35 rfl (lv_at hl 0 rfl) ?_
  refine lv_aload_n hx hb d_Choice_begin_36 rfl (lv_at hl 0 rfl) ?_
  refine st_get hx hb hg hown hK hH (f := 30) (i := 0) hd_30 rfl rfl u_Choice 1 (by decide) (hg _ wd_328) (v := .int (σ4.1 30 0 1)) rfl d_Choice_begin_37 ?_
  refine lv_iload_n hx hb d_Choice_begin_40 rfl (lv_at hl 3 rfl) ?_
  refine lv_iadd hx hb d_Choice_begin_41 ?_
  refine lv_iconst (v := 1) hx hb d_Choice_begin_42 (by decide) ?_
  refine lv_isub hx hb d_Choice_begin_43 ?_
  refine lv_iload_n hx hb d_Choice_begin_44 rfl (lv_at hl 3 rfl) ?_
  obtain ⟨g45, h⟩ := gd_some h
  refine lv_idiv hx hb d_Choice_begin_45 g45 ?_
  refine st_put hx hb hg hown hK hH hS (f := 30) (i := 0) hd_30 rfl rfl u_Choice t_Choice t_Choice_ok n_Choice 3 (by decide) (hg _ wd_334) rfl rfl rfl d_Choice_begin_46 (fun σ5 H locs eσ5 hH hS => ?_)
  have h := nm_at eσ5 h
  refine lv_iconst (v := 0) hx hb d_Choice_begin_49 (by decide) ?_
  refine lv_istore (lv' := [(4, .int 0), (0, .ref (ad 30 0)), (1, .ref (ad 26 0)), (2, .int a2), (3, .int a3)]) hx hb d_Choice_begin_50 hl (by decide) rfl (fun ls hl => ?_)
  obtain ⟨q1, hq1, h⟩ := b2_some h
  have K1 : ∀ (σ8 : St) (x9 : Int32) (H : Heap) (locs : List Loc) (ls : Array Slot), q1 = (σ8, x9) → Hold D aC A ad n σ8 H → va_S A s.heap H locs → lv_has ls 5 [(0, .ref (ad 30 0)), (2, .int a2), (4, .int x9)] → W p l e (headSpec w_Choice_begin rm_Choice_begin).room s m args below meth c H locs 0 0 Q0 (F0 m 83 ls []) := by
    intro σ8 x9 H locs ls eq1 hH hS hl
    subst eq1
    have h := b2_at h
    cases h
    rw [← hQ0]
    exact W.vret hx hb hr (fun t ht hW => ⟨⟨(), rfl, trivial, by dsimp only; rw [ht]; exact hH⟩, hS.F ht⟩) hS.2.2 d_Choice_begin_83
  have loop1 : ∀ (k : Nat) (σ : St) (v4 : Int32) (H : Heap) (locs : List Loc) (ls : Array Slot), Hold D aC A ad n σ H → va_S A s.heap H locs → lv_has ls 5 [(0, .ref (ad 30 0)), (2, .int a2), (4, .int v4)] → lp (fun q => lb_Choice_begin_52 a2 q.1 q.2) k (σ, v4) = some q1 → W p l e (headSpec w_Choice_begin rm_Choice_begin).room s m args below meth c H locs 0 0 Q0 (F0 m 52 ls []) := by
    intro k
    induction k with
    | zero => intro σ v4 H locs ls hH hS hl hlp; exact absurd hlp (lp_zero _ _ _)
    | succ k ih1 =>
      intro σ v4 H locs ls hH hS hl hlp
      obtain ⟨z1, h1, hk1⟩ := lp_succ hlp
      have h1 : lb_Choice_begin_52 a2 σ v4 = some z1 := h1
      unfold lb_Choice_begin_52 at h1
      refine lv_iload hx hb d_Choice_begin_52 (lv_at hl 2 rfl) ?_
      refine lv_aload_n hx hb d_Choice_begin_54 rfl (lv_at hl 0 rfl) ?_
      refine st_get hx hb hg hown hK hH (f := 30) (i := 0) hd_30 rfl rfl u_Choice 3 (by decide) (hg _ wd_334) (v := .int (σ.1 30 0 3)) rfl d_Choice_begin_55 ?_
      refine lv_icmp_ge (tgt := 83) hx hb d_Choice_begin_58 (by decide) (fun c58 => ?_) (fun c58 => ?_)
      · have h1 := it h1 c58
        cases h1
        exact K1 σ v4 _ _ ls (Option.some.inj hk1).symm hH hS (lv_sub hl [0, 1, 2] rfl)
      · have h1 := ie h1 c58
        refine lv_aload_n hx hb d_Choice_begin_61 rfl (lv_at hl 0 rfl) ?_
        refine st_get hx hb hg hown hK hH (f := 30) (i := 0) hd_30 rfl rfl u_Choice 4 (by decide) (hg _ wd_335) (v := .ref (ad 32 0)) rfl d_Choice_begin_62 ?_
        refine lv_iload hx hb d_Choice_begin_65 (lv_at hl 2 rfl) ?_
        refine lv_iload hx hb d_Choice_begin_67 (lv_at hl 2 rfl) ?_
        refine lv_iload_n hx hb d_Choice_begin_69 rfl (lv_at hl 1 rfl) ?_
        refine lv_imul hx hb d_Choice_begin_70 ?_
        refine lv_aload_n hx hb d_Choice_begin_71 rfl (lv_at hl 0 rfl) ?_
        refine st_get hx hb hg hown hK hH (f := 30) (i := 0) hd_30 rfl rfl u_Choice 3 (by decide) (hg _ wd_334) (v := .int (σ.1 30 0 3)) rfl d_Choice_begin_72 ?_
        obtain ⟨g75, h1⟩ := gd_some h1
        refine lv_idiv hx hb d_Choice_begin_75 g75 ?_
        obtain ⟨g76, h1⟩ := gd_some h1
        refine st_iast hx hb hK hH hS (f := 32) (i := 0) hd_32 rfl g76 d_Choice_begin_76 (fun σ6 H locs eσ6 hH hS => ?_)
        have h1 := nm_at eσ6 h1
        obtain ⟨x7, ex7⟩ : ∃ y : Int32, y = v4 + 1 := ⟨_, rfl⟩
        have h1 := nm_at ex7 h1
        refine lv_iinc (v := x7) (lv' := [(4, .int x7), (0, .ref (ad 30 0)), (2, .int a2)]) hx hb d_Choice_begin_77 hl (k := 2) rfl (by rw [ex7]; rfl) (by decide) rfl (fun ls hl => ?_)
        refine lv_goto (tgt := 52) hx hb d_Choice_begin_80 (by decide) ?_
        cases h1
        exact ih1 σ6 x7 _ _ ls hH hS (lv_sub hl [1, 2, 0] rfl) hk1
  obtain ⟨k1, hq1⟩ := lpE_some hq1
  exact loop1 k1 σ5 0 _ _ ls hH hS (lv_sub hl [1, 3, 0] rfl) hq1
set_option maxHeartbeats 4000000 in
set_option maxRecDepth 100000 in
theorem c_Choice_endOf (l : Launch) (D : va_G) (aC : Nat → ClassId) (A : Nat → Prop) (ad : Nat → Nat → Nat) (n : Nat) (σ : St) (a1 : Int32) (o : St × Int32) (h : f_Choice_endOf σ a1 = some o) : Met l y_Choice_endOf w_Choice_endOf rm_Choice_endOf (va_Pc [.ref (ad 30 0), .int a1] (Pre D aC A ad n σ)) (va_Qi (fun r (_ : Unit) => r = o.2) (fun _ t => Hold D aC A ad n o.1 t.heap) A) 0 0 A := by
  refine Met.ofW (cc := prog_2_method_4_code) (maxL := 2) (ret := (some .int)) (by decide) rfl ?_
  intro p e s m args below meth c s₁ B hml hv
  obtain ⟨hargs, hH, hK, hZ⟩ := hv
  have hx := B.exec
  have hb := B.bytes
  have hr := B.returns
  have hts := atoms_spec (ws := w_Choice_endOf) B.pre
  have hg : ∀ w ∈ gW, w.before args s = true := fun w h => hts w (List.mem_cons_of_mem _ h)
  have hown : s.vm.findClass "PrefixCodes$Choice" = some m.cls := findClass_of_methodNamed B.named
  have hlocks := B.notSynchronized
  have hS : va_S A s.heap s.heap [] := va_S.rf
  have hl := lv_entry ([.ref (ad 30 0), .int a1]) (n := 2) (Nat.le_of_ble_eq_true rfl)
  rw [show entryFrame m args 2 = entryFrame m (([.ref (ad 30 0), .int a1] : List Value).toArray) 2 by rw [hargs], lg_entry_eq]
  generalize (lg_sl ([.ref (ad 30 0), .int a1]) ++ List.replicate (2 - (lg_sl ([.ref (ad 30 0), .int a1])).length) Slot.unset).toArray = ls at hl ⊢
  have hl : lv_has ls 2 [(0, .ref (ad 30 0)), (1, .int a1)] := hl
  generalize hQ0 : MQ below (va_Qi (fun r (_ : Unit) => r = o.2) (fun _ t => Hold D aC A ad n o.1 t.heap) A) args s 0 0 A = Q0
  unfold f_Choice_endOf at h
  refine lv_iload_n hx hb d_Choice_endOf_0 rfl (lv_at hl 1 rfl) ?_
  refine lv_iconst (v := 1) hx hb d_Choice_endOf_1 (by decide) ?_
  refine lv_iadd hx hb d_Choice_endOf_2 ?_
  refine lv_aload_n hx hb d_Choice_endOf_3 rfl (lv_at hl 0 rfl) ?_
  refine st_get hx hb hg hown hK hH (f := 30) (i := 0) hd_30 rfl rfl u_Choice 2 (by decide) (hg _ wd_333) (v := .int (σ.1 30 0 2)) rfl d_Choice_endOf_4 ?_
  refine lv_imul hx hb d_Choice_endOf_7 ?_
  refine lv_aload_n hx hb d_Choice_endOf_8 rfl (lv_at hl 0 rfl) ?_
  refine st_get hx hb hg hown hK hH (f := 30) (i := 0) hd_30 rfl rfl u_Choice 1 (by decide) (hg _ wd_328) (v := .int (σ.1 30 0 1)) rfl d_Choice_endOf_9 ?_
  refine st_min hx hb (hml.trans hl.1.symm) hown (hg _ wd_336) (hg _ wd_186) (hg _ wd_182) (hg _ wd_187) (Nat.le_of_ble_eq_true rfl) (Nat.le_of_ble_eq_true rfl) (Nat.zero_le _) (Nat.zero_le _) d_Choice_endOf_12 ?_
  cases h
  rw [← hQ0]
  exact W.iret hx hb hr (fun t ht hW => ⟨⟨_, (), rfl, rfl, by dsimp only; rw [ht]; exact hH⟩, hS.F ht⟩) hS.2.2 d_Choice_endOf_15
set_option maxHeartbeats 4000000 in
set_option maxRecDepth 100000 in
theorem c_Choice_countFor (l : Launch) (D : va_G) (aC : Nat → ClassId) (A : Nat → Prop) (ad : Nat → Nat → Nat) (n : Nat) (σ : St) (a1 : Int32) (o : St) (h : f_Choice_countFor σ a1 = some o) : Met l y_Choice_countFor w_Choice_countFor rm_Choice_countFor (va_Pc [.ref (ad 30 0), .int a1] (Pre D aC A ad n σ)) (va_Qv (fun (_ : Unit) => True) (fun _ t => Hold D aC A ad n o t.heap) A) 0 0 A := by
  refine Met.ofW (cc := prog_2_method_6_code) (maxL := 4) (ret := none) (by decide) rfl ?_
  intro p e s m args below meth c s₁ B hml hv
  obtain ⟨hargs, hH, hK, hZ⟩ := hv
  have hx := B.exec
  have hb := B.bytes
  have hr := B.returns
  have hts := atoms_spec (ws := w_Choice_countFor) B.pre
  have hg : ∀ w ∈ gW, w.before args s = true := fun w h => hts w (List.mem_cons_of_mem _ h)
  have hown : s.vm.findClass "PrefixCodes$Choice" = some m.cls := findClass_of_methodNamed B.named
  have hlocks := B.notSynchronized
  have hS : va_S A s.heap s.heap [] := va_S.rf
  have hl := lv_entry ([.ref (ad 30 0), .int a1]) (n := 4) (Nat.le_of_ble_eq_true rfl)
  rw [show entryFrame m args 4 = entryFrame m (([.ref (ad 30 0), .int a1] : List Value).toArray) 4 by rw [hargs], lg_entry_eq]
  generalize (lg_sl ([.ref (ad 30 0), .int a1]) ++ List.replicate (4 - (lg_sl ([.ref (ad 30 0), .int a1])).length) Slot.unset).toArray = ls at hl ⊢
  have hl : lv_has ls 4 [(0, .ref (ad 30 0)), (1, .int a1)] := hl
  generalize hQ0 : MQ below (va_Qv (fun (_ : Unit) => True) (fun _ t => Hold D aC A ad n o t.heap) A) args s 0 0 A = Q0
  unfold f_Choice_countFor at h
  refine lv_aload_n hx hb d_Choice_countFor_0 rfl (lv_at hl 0 rfl) ?_
  refine st_get hx hb hg hown hK hH (f := 30) (i := 0) hd_30 rfl rfl u_Choice 7 (by decide) (hg _ wd_337) (v := .ref (ad 34 0)) rfl d_Choice_countFor_1 ?_
  refine lv_iconst (v := 0) hx hb d_Choice_countFor_4 (by decide) ?_
  obtain ⟨qc, hc5, h⟩ := b1_some h
  obtain ⟨σ1, rfl⟩ : ∃ z, z = qc := ⟨_, rfl⟩
  have h := b1_at h
  refine st_Sv (As := [.ref (ad 34 0), .int 0]) (rest := []) ⟨hx, hb, hml, hown, hg⟩ (c_Arrays_fill l D aC A ad n _ 34 0 64 0 rfl hd_34 _ hc5) (cwGS hg wd_14 wd_338 wd_17 wd_16 yd_Arrays_fill ⟨Nat.le_of_ble_eq_true rfl, Nat.le_of_ble_eq_true rfl⟩) hK hH hS hZ rfl hl.1 rfl (Nat.le_of_ble_eq_true rfl) d_Choice_countFor_5 ⟨Nat.zero_le _, Nat.zero_le _⟩ (fun H locs hH hS => ?_)
  refine lv_iconst (v := 0) hx hb d_Choice_countFor_8 (by decide) ?_
  refine lv_istore_n (lv' := [(2, .int 0), (0, .ref (ad 30 0)), (1, .int a1)]) hx hb d_Choice_countFor_9 rfl hl (by decide) rfl (fun ls hl => ?_)
  obtain ⟨q1, hq1, h⟩ := b2_some h
  have K1 : ∀ (σ4 : St) (x5 : Int32) (H : Heap) (locs : List Loc) (ls : Array Slot), q1 = (σ4, x5) → Hold D aC A ad n σ4 H → va_S A s.heap H locs → lv_has ls 4 [(0, .ref (ad 30 0)), (1, .int a1), (2, .int x5)] → W p l e (headSpec w_Choice_countFor rm_Choice_countFor).room s m args below meth c H locs 0 0 Q0 (F0 m 36 ls []) := by
    intro σ4 x5 H locs ls eq1 hH hS hl
    subst eq1
    have h := b2_at h
    refine lv_iconst (v := 0) hx hb d_Choice_countFor_36 (by decide) ?_
    refine lv_istore_n (lv' := [(2, .int 0), (0, .ref (ad 30 0)), (1, .int a1)]) hx hb d_Choice_countFor_37 rfl hl (by decide) rfl (fun ls hl => ?_)
    obtain ⟨q1, hq1, h⟩ := b2_some h
    have K1 : ∀ (σ15 : St) (x16 : Int32) (H : Heap) (locs : List Loc) (ls : Array Slot), q1 = (σ15, x16) → Hold D aC A ad n σ15 H → va_S A s.heap H locs → lv_has ls 4 [(0, .ref (ad 30 0)), (1, .int a1), (2, .int x16)] → W p l e (headSpec w_Choice_countFor rm_Choice_countFor).room s m args below meth c H locs 0 0 Q0 (F0 m 99 ls []) := by
      intro σ15 x16 H locs ls eq1 hH hS hl
      subst eq1
      have h := b2_at h
      cases h
      rw [← hQ0]
      exact W.vret hx hb hr (fun t ht hW => ⟨⟨(), rfl, trivial, by dsimp only; rw [ht]; exact hH⟩, hS.F ht⟩) hS.2.2 d_Choice_countFor_99
    have loop1 : ∀ (k : Nat) (σ : St) (v2 : Int32) (H : Heap) (locs : List Loc) (ls : Array Slot), Hold D aC A ad n σ H → va_S A s.heap H locs → lv_has ls 4 [(0, .ref (ad 30 0)), (1, .int a1), (2, .int v2)] → lp (fun q => lb_Choice_countFor_38 a1 q.1 q.2) k (σ, v2) = some q1 → W p l e (headSpec w_Choice_countFor rm_Choice_countFor).room s m args below meth c H locs 0 0 Q0 (F0 m 38 ls []) := by
      intro k
      induction k with
      | zero => intro σ v2 H locs ls hH hS hl hlp; exact absurd hlp (lp_zero _ _ _)
      | succ k ih1 =>
        intro σ v2 H locs ls hH hS hl hlp
        obtain ⟨z1, h1, hk1⟩ := lp_succ hlp
        have h1 : lb_Choice_countFor_38 a1 σ v2 = some z1 := h1
        unfold lb_Choice_countFor_38 at h1
        refine lv_iload_n hx hb d_Choice_countFor_38 rfl (lv_at hl 2 rfl) ?_
        refine lv_aload_n hx hb d_Choice_countFor_39 rfl (lv_at hl 0 rfl) ?_
        refine st_get hx hb hg hown hK hH (f := 30) (i := 0) hd_30 rfl rfl u_Choice 3 (by decide) (hg _ wd_334) (v := .int (σ.1 30 0 3)) rfl d_Choice_countFor_40 ?_
        refine lv_icmp_ge (tgt := 99) hx hb d_Choice_countFor_43 (by decide) (fun c43 => ?_) (fun c43 => ?_)
        · have h1 := it h1 c43
          cases h1
          exact K1 σ v2 _ _ ls (Option.some.inj hk1).symm hH hS (lv_sub hl [0, 1, 2] rfl)
        · have h1 := ie h1 c43
          refine lv_aload_n hx hb d_Choice_countFor_46 rfl (lv_at hl 0 rfl) ?_
          refine st_get hx hb hg hown hK hH (f := 30) (i := 0) hd_30 rfl rfl u_Choice 4 (by decide) (hg _ wd_335) (v := .ref (ad 32 0)) rfl d_Choice_countFor_47 ?_
          refine lv_iload_n hx hb d_Choice_countFor_50 rfl (lv_at hl 2 rfl) ?_
          obtain ⟨g51, h1⟩ := gd_some h1
          refine st_iald hx hb hK hH (f := 32) (i := 0) hd_32 rfl g51 d_Choice_countFor_51 ?_
          refine lv_iload_n hx hb d_Choice_countFor_52 rfl (lv_at hl 1 rfl) ?_
          refine lv_icmp_ne (tgt := 93) hx hb d_Choice_countFor_53 (by decide) (fun c53 => ?_) (fun c53 => ?_)
          · have h1 := ie h1 c53
            obtain ⟨x6, ex6⟩ : ∃ y : Int32, y = v2 + 1 := ⟨_, rfl⟩
            have h1 := nm_at ex6 h1
            refine lv_iinc (v := x6) (lv' := [(2, .int x6), (0, .ref (ad 30 0)), (1, .int a1)]) hx hb d_Choice_countFor_93 hl (k := 2) rfl (by rw [ex6]; rfl) (by decide) rfl (fun ls hl => ?_)
            refine lv_goto (tgt := 38) hx hb d_Choice_countFor_96 (by decide) ?_
            cases h1
            exact ih1 σ x6 _ _ ls hH hS (lv_sub hl [1, 2, 0] rfl) hk1
          · have h1 := it h1 c53
            refine lv_iload_n hx hb d_Choice_countFor_56 rfl (lv_at hl 2 rfl) ?_
            refine lv_aload_n hx hb d_Choice_countFor_57 rfl (lv_at hl 0 rfl) ?_
            refine st_get hx hb hg hown hK hH (f := 30) (i := 0) hd_30 rfl rfl u_Choice 2 (by decide) (hg _ wd_333) (v := .int (σ.1 30 0 2)) rfl d_Choice_countFor_58 ?_
            refine lv_imul hx hb d_Choice_countFor_61 ?_
            refine lv_topi (fun x7 ex7 => ?_)
            have h1 := nm_at ex7 h1
            refine lv_istore_n (lv' := [(3, .int x7), (0, .ref (ad 30 0)), (1, .int a1), (2, .int v2)]) hx hb d_Choice_countFor_62 rfl hl (by decide) rfl (fun ls hl => ?_)
            obtain ⟨q2, hq2, h1⟩ := b2_some h1
            have K2 : ∀ (σ12 : St) (x13 : Int32) (H : Heap) (locs : List Loc) (ls : Array Slot), q2 = (σ12, x13) → Hold D aC A ad n σ12 H → va_S A s.heap H locs → lv_has ls 4 [(0, .ref (ad 30 0)), (1, .int a1), (2, .int v2), (3, .int x13)] → W p l e (headSpec w_Choice_countFor rm_Choice_countFor).room s m args below meth c H locs 0 0 Q0 (F0 m 93 ls []) := by
              intro σ12 x13 H locs ls eq2 hH hS hl
              subst eq2
              have h1 := b2_at h1
              obtain ⟨x14, ex14⟩ : ∃ y : Int32, y = v2 + 1 := ⟨_, rfl⟩
              have h1 := nm_at ex14 h1
              refine lv_iinc (v := x14) (lv' := [(2, .int x14), (0, .ref (ad 30 0)), (1, .int a1), (3, .int x13)]) hx hb d_Choice_countFor_93 hl (k := 2) rfl (by rw [ex14]; rfl) (by decide) rfl (fun ls hl => ?_)
              refine lv_goto (tgt := 38) hx hb d_Choice_countFor_96 (by decide) ?_
              cases h1
              exact ih1 σ12 x14 _ _ ls hH hS (lv_sub hl [1, 2, 0] rfl) hk1
            have loop2 : ∀ (k : Nat) (σ : St) (v3 : Int32) (H : Heap) (locs : List Loc) (ls : Array Slot), Hold D aC A ad n σ H → va_S A s.heap H locs → lv_has ls 4 [(0, .ref (ad 30 0)), (1, .int a1), (2, .int v2), (3, .int v3)] → lp (fun q => lb_Choice_countFor_63 a1 v2 q.1 q.2) k (σ, v3) = some q2 → W p l e (headSpec w_Choice_countFor rm_Choice_countFor).room s m args below meth c H locs 0 0 Q0 (F0 m 63 ls []) := by
              intro k
              induction k with
              | zero => intro σ v3 H locs ls hH hS hl hlp; exact absurd hlp (lp_zero _ _ _)
              | succ k ih2 =>
                intro σ v3 H locs ls hH hS hl hlp
                obtain ⟨z2, h2, hk2⟩ := lp_succ hlp
                have h2 : lb_Choice_countFor_63 a1 v2 σ v3 = some z2 := h2
                unfold lb_Choice_countFor_63 at h2
                refine lv_iload_n hx hb d_Choice_countFor_63 rfl (lv_at hl 3 rfl) ?_
                refine lv_aload_n hx hb d_Choice_countFor_64 rfl (lv_at hl 0 rfl) ?_
                refine lv_iload_n hx hb d_Choice_countFor_65 rfl (lv_at hl 2 rfl) ?_
                obtain ⟨qc, hc66, h2⟩ := b2_some h2
                obtain ⟨σ8, x9⟩ := qc
                have h2 := b2_at h2
                refine st_Vi (As := [.int v2]) (rest := [.int v3]) ⟨hx, hb, hml, hown, hg⟩ (c_Choice_endOf l D aC A ad n _ v2 _ hc66) (cwG hg wd_339 wd_340 wd_342 wd_343 wd_341 yd_Choice_endOf ⟨Nat.le_of_ble_eq_true rfl, Nat.le_of_ble_eq_true rfl⟩) hK hH hS hZ hd_30 rfl rfl rfl hl.1 rfl (Nat.le_of_ble_eq_true rfl) d_Choice_countFor_66 ⟨Nat.zero_le _, Nat.zero_le _⟩ (fun H locs hH hS => ?_)
                refine lv_icmp_ge (tgt := 93) hx hb d_Choice_countFor_69 (by decide) (fun c69 => ?_) (fun c69 => ?_)
                · have h2 := it h2 c69
                  cases h2
                  exact K2 σ8 v3 _ _ ls (Option.some.inj hk2).symm hH hS (lv_sub hl [0, 1, 2, 3] rfl)
                · have h2 := ie h2 c69
                  refine lv_aload_n hx hb d_Choice_countFor_72 rfl (lv_at hl 0 rfl) ?_
                  refine st_get hx hb hg hown hK hH (f := 30) (i := 0) hd_30 rfl rfl u_Choice 7 (by decide) (hg _ wd_337) (v := .ref (ad 34 0)) rfl d_Choice_countFor_73 ?_
                  refine lv_aload_n hx hb d_Choice_countFor_76 rfl (lv_at hl 0 rfl) ?_
                  refine st_get hx hb hg hown hK hH (f := 30) (i := 0) hd_30 rfl rfl u_Choice 0 (by decide) (hg _ wd_330) (v := .ref (ad 31 0)) rfl d_Choice_countFor_77 ?_
                  refine lv_iload_n hx hb d_Choice_countFor_80 rfl (lv_at hl 3 rfl) ?_
                  obtain ⟨g81, h2⟩ := gd_some h2
                  refine st_iald hx hb hK hH (f := 31) (i := 0) hd_31 rfl g81 d_Choice_countFor_81 ?_
                  refine lv_dup2_11 hx hb d_Choice_countFor_82 rfl rfl ?_
                  obtain ⟨g83, h2⟩ := gd_some h2
                  refine st_iald hx hb hK hH (f := 34) (i := 0) hd_34 rfl g83 d_Choice_countFor_83 ?_
                  refine lv_iconst (v := 1) hx hb d_Choice_countFor_84 (by decide) ?_
                  refine lv_iadd hx hb d_Choice_countFor_85 ?_
                  obtain ⟨g86, h2⟩ := gd_some h2
                  refine st_iast hx hb hK hH hS (f := 34) (i := 0) hd_34 rfl g86 d_Choice_countFor_86 (fun σ10 H locs eσ10 hH hS => ?_)
                  have h2 := nm_at eσ10 h2
                  obtain ⟨x11, ex11⟩ : ∃ y : Int32, y = v3 + 1 := ⟨_, rfl⟩
                  have h2 := nm_at ex11 h2
                  refine lv_iinc (v := x11) (lv' := [(3, .int x11), (0, .ref (ad 30 0)), (1, .int a1), (2, .int v2)]) hx hb d_Choice_countFor_87 hl (k := 3) rfl (by rw [ex11]; rfl) (by decide) rfl (fun ls hl => ?_)
                  refine lv_goto (tgt := 63) hx hb d_Choice_countFor_90 (by decide) ?_
                  cases h2
                  exact ih2 σ10 x11 _ _ ls hH hS (lv_sub hl [1, 2, 3, 0] rfl) hk2
            obtain ⟨k2, hq2⟩ := lpE_some hq2
            exact loop2 k2 σ x7 _ _ ls hH hS (lv_sub hl [1, 2, 3, 0] rfl) hq2
    obtain ⟨k1, hq1⟩ := lpE_some hq1
    exact loop1 k1 σ4 0 _ _ ls hH hS (lv_sub hl [1, 2, 0] rfl) hq1
  have loop1 : ∀ (k : Nat) (σ : St) (v2 : Int32) (H : Heap) (locs : List Loc) (ls : Array Slot), Hold D aC A ad n σ H → va_S A s.heap H locs → lv_has ls 4 [(0, .ref (ad 30 0)), (1, .int a1), (2, .int v2)] → lp (fun q => lb_Choice_countFor_10 a1 q.1 q.2) k (σ, v2) = some q1 → W p l e (headSpec w_Choice_countFor rm_Choice_countFor).room s m args below meth c H locs 0 0 Q0 (F0 m 10 ls []) := by
    intro k
    induction k with
    | zero => intro σ v2 H locs ls hH hS hl hlp; exact absurd hlp (lp_zero _ _ _)
    | succ k ih1 =>
      intro σ v2 H locs ls hH hS hl hlp
      obtain ⟨z1, h1, hk1⟩ := lp_succ hlp
      have h1 : lb_Choice_countFor_10 a1 σ v2 = some z1 := h1
      unfold lb_Choice_countFor_10 at h1
      refine lv_iload_n hx hb d_Choice_countFor_10 rfl (lv_at hl 2 rfl) ?_
      refine lv_aload_n hx hb d_Choice_countFor_11 rfl (lv_at hl 0 rfl) ?_
      refine st_get hx hb hg hown hK hH (f := 30) (i := 0) hd_30 rfl rfl u_Choice 1 (by decide) (hg _ wd_328) (v := .int (σ.1 30 0 1)) rfl d_Choice_countFor_12 ?_
      refine lv_icmp_ge (tgt := 36) hx hb d_Choice_countFor_15 (by decide) (fun c15 => ?_) (fun c15 => ?_)
      · have h1 := it h1 c15
        cases h1
        exact K1 σ v2 _ _ ls (Option.some.inj hk1).symm hH hS (lv_sub hl [0, 1, 2] rfl)
      · have h1 := ie h1 c15
        refine lv_aload_n hx hb d_Choice_countFor_18 rfl (lv_at hl 0 rfl) ?_
        refine st_get hx hb hg hown hK hH (f := 30) (i := 0) hd_30 rfl rfl u_Choice 7 (by decide) (hg _ wd_337) (v := .ref (ad 34 0)) rfl d_Choice_countFor_19 ?_
        refine lv_aload_n hx hb d_Choice_countFor_22 rfl (lv_at hl 0 rfl) ?_
        refine st_get hx hb hg hown hK hH (f := 30) (i := 0) hd_30 rfl rfl u_Choice 0 (by decide) (hg _ wd_330) (v := .ref (ad 31 0)) rfl d_Choice_countFor_23 ?_
        refine lv_iload_n hx hb d_Choice_countFor_26 rfl (lv_at hl 2 rfl) ?_
        obtain ⟨g27, h1⟩ := gd_some h1
        refine st_iald hx hb hK hH (f := 31) (i := 0) hd_31 rfl g27 d_Choice_countFor_27 ?_
        refine lv_iconst (v := 1) hx hb d_Choice_countFor_28 (by decide) ?_
        obtain ⟨g29, h1⟩ := gd_some h1
        refine st_iast hx hb hK hH hS (f := 34) (i := 0) hd_34 rfl g29 d_Choice_countFor_29 (fun σ2 H locs eσ2 hH hS => ?_)
        have h1 := nm_at eσ2 h1
        obtain ⟨x3, ex3⟩ : ∃ y : Int32, y = v2 + 1 := ⟨_, rfl⟩
        have h1 := nm_at ex3 h1
        refine lv_iinc (v := x3) (lv' := [(2, .int x3), (0, .ref (ad 30 0)), (1, .int a1)]) hx hb d_Choice_countFor_30 hl (k := 2) rfl (by rw [ex3]; rfl) (by decide) rfl (fun ls hl => ?_)
        refine lv_goto (tgt := 10) hx hb d_Choice_countFor_33 (by decide) ?_
        cases h1
        exact ih1 σ2 x3 _ _ ls hH hS (lv_sub hl [1, 2, 0] rfl) hk1
  obtain ⟨k1, hq1⟩ := lpE_some hq1
  exact loop1 k1 σ1 0 _ _ ls hH hS (lv_sub hl [1, 2, 0] rfl) hq1
set_option maxHeartbeats 4000000 in
set_option maxRecDepth 100000 in
theorem c_Choice_fitCodes (l : Launch) (D : va_G) (aC : Nat → ClassId) (A : Nat → Prop) (ad : Nat → Nat → Nat) (n : Nat) (σ : St) (a2 : Int32) (o : St) (h : f_Choice_fitCodes σ a2 = some o) : Met l y_Choice_fitCodes w_Choice_fitCodes rm_Choice_fitCodes (va_Pc [.ref (ad 30 0), .ref (ad 5 0), .int a2] (Pre D aC A ad n σ)) (va_Qv (fun (_ : Unit) => True) (fun _ t => Hold D aC A ad n o t.heap) A) 0 0 A := by
  refine Met.ofW (cc := prog_2_method_5_code) (maxL := 4) (ret := none) (by decide) rfl ?_
  intro p e s m args below meth c s₁ B hml hv
  obtain ⟨hargs, hH, hK, hZ⟩ := hv
  have hx := B.exec
  have hb := B.bytes
  have hr := B.returns
  have hts := atoms_spec (ws := w_Choice_fitCodes) B.pre
  have hg : ∀ w ∈ gW, w.before args s = true := fun w h => hts w (List.mem_cons_of_mem _ h)
  have hown : s.vm.findClass "PrefixCodes$Choice" = some m.cls := findClass_of_methodNamed B.named
  have hlocks := B.notSynchronized
  have hS : va_S A s.heap s.heap [] := va_S.rf
  have hl := lv_entry ([.ref (ad 30 0), .ref (ad 5 0), .int a2]) (n := 4) (Nat.le_of_ble_eq_true rfl)
  rw [show entryFrame m args 4 = entryFrame m (([.ref (ad 30 0), .ref (ad 5 0), .int a2] : List Value).toArray) 4 by rw [hargs], lg_entry_eq]
  generalize (lg_sl ([.ref (ad 30 0), .ref (ad 5 0), .int a2]) ++ List.replicate (4 - (lg_sl ([.ref (ad 30 0), .ref (ad 5 0), .int a2])).length) Slot.unset).toArray = ls at hl ⊢
  have hl : lv_has ls 4 [(0, .ref (ad 30 0)), (1, .ref (ad 5 0)), (2, .int a2)] := hl
  generalize hQ0 : MQ below (va_Qv (fun (_ : Unit) => True) (fun _ t => Hold D aC A ad n o t.heap) A) args s 0 0 A = Q0
  unfold f_Choice_fitCodes at h
  refine lv_iconst (v := 0) hx hb d_Choice_fitCodes_0 (by decide) ?_
  refine lv_istore_n (lv' := [(3, .int 0), (0, .ref (ad 30 0)), (1, .ref (ad 5 0)), (2, .int a2)]) hx hb d_Choice_fitCodes_1 rfl hl (by decide) rfl (fun ls hl => ?_)
  obtain ⟨q1, hq1, h⟩ := b2_some h
  have K1 : ∀ (σ6 : St) (x7 : Int32) (H : Heap) (locs : List Loc) (ls : Array Slot), q1 = (σ6, x7) → Hold D aC A ad n σ6 H → va_S A s.heap H locs → lv_has ls 4 [(0, .ref (ad 30 0)), (1, .ref (ad 5 0)), (2, .int a2), (3, .int x7)] → W p l e (headSpec w_Choice_fitCodes rm_Choice_fitCodes).room s m args below meth c H locs 0 0 Q0 (F0 m 45 ls []) := by
    intro σ6 x7 H locs ls eq1 hH hS hl
    subst eq1
    have h := b2_at h
    cases h
    rw [← hQ0]
    exact W.vret hx hb hr (fun t ht hW => ⟨⟨(), rfl, trivial, by dsimp only; rw [ht]; exact hH⟩, hS.F ht⟩) hS.2.2 d_Choice_fitCodes_45
  have loop1 : ∀ (k : Nat) (σ : St) (v3 : Int32) (H : Heap) (locs : List Loc) (ls : Array Slot), Hold D aC A ad n σ H → va_S A s.heap H locs → lv_has ls 4 [(0, .ref (ad 30 0)), (1, .ref (ad 5 0)), (2, .int a2), (3, .int v3)] → lp (fun q => lb_Choice_fitCodes_2 a2 q.1 q.2) k (σ, v3) = some q1 → W p l e (headSpec w_Choice_fitCodes rm_Choice_fitCodes).room s m args below meth c H locs 0 0 Q0 (F0 m 2 ls []) := by
    intro k
    induction k with
    | zero => intro σ v3 H locs ls hH hS hl hlp; exact absurd hlp (lp_zero _ _ _)
    | succ k ih1 =>
      intro σ v3 H locs ls hH hS hl hlp
      obtain ⟨z1, h1, hk1⟩ := lp_succ hlp
      have h1 : lb_Choice_fitCodes_2 a2 σ v3 = some z1 := h1
      unfold lb_Choice_fitCodes_2 at h1
      refine lv_iload_n hx hb d_Choice_fitCodes_2 rfl (lv_at hl 3 rfl) ?_
      refine lv_aload_n hx hb d_Choice_fitCodes_3 rfl (lv_at hl 0 rfl) ?_
      refine st_get hx hb hg hown hK hH (f := 30) (i := 0) hd_30 rfl rfl u_Choice 6 (by decide) (hg _ wd_332) (v := .int (σ.1 30 0 6)) rfl d_Choice_fitCodes_4 ?_
      refine lv_icmp_ge (tgt := 45) hx hb d_Choice_fitCodes_7 (by decide) (fun c7 => ?_) (fun c7 => ?_)
      · have h1 := it h1 c7
        cases h1
        exact K1 σ v3 _ _ ls (Option.some.inj hk1).symm hH hS (lv_sub hl [0, 1, 2, 3] rfl)
      · have h1 := ie h1 c7
        refine lv_aload_n hx hb d_Choice_fitCodes_10 rfl (lv_at hl 0 rfl) ?_
        refine lv_iload_n hx hb d_Choice_fitCodes_11 rfl (lv_at hl 3 rfl) ?_
        obtain ⟨qc, hc12, h1⟩ := b1_some h1
        obtain ⟨σ1, rfl⟩ : ∃ z, z = qc := ⟨_, rfl⟩
        have h1 := b1_at h1
        refine st_Vv (As := [.int v3]) (rest := []) ⟨hx, hb, hml, hown, hg⟩ (c_Choice_countFor l D aC A ad n _ v3 _ hc12) (cwG hg wd_345 wd_346 wd_347 wd_348 wd_341 yd_Choice_countFor ⟨Nat.le_of_ble_eq_true rfl, Nat.le_of_ble_eq_true rfl⟩) hK hH hS hZ hd_30 rfl rfl rfl hl.1 rfl (Nat.le_of_ble_eq_true rfl) d_Choice_fitCodes_12 ⟨Nat.zero_le _, Nat.zero_le _⟩ (fun H locs hH hS => ?_)
        refine lv_aload_n hx hb d_Choice_fitCodes_15 rfl (lv_at hl 0 rfl) ?_
        refine st_get hx hb hg hown hK hH (f := 30) (i := 0) hd_30 rfl rfl u_Choice 5 (by decide) (hg _ wd_344) (v := .ref (ad 33 0)) rfl d_Choice_fitCodes_16 ?_
        refine lv_iload_n hx hb d_Choice_fitCodes_19 rfl (lv_at hl 3 rfl) ?_
        obtain ⟨g20, h1⟩ := gd_some h1
        obtain ⟨j2, c20, h1⟩ := on_some h1
        refine st_aald hx hb hK hH (f := 33) (i := 0) hd_33 rfl (by decide) g20 d_Choice_fitCodes_20 c20 (fun hdj2 => ?_)
        refine lv_ifnull hx hb d_Choice_fitCodes_21 ?_
        refine lv_aload_n hx hb d_Choice_fitCodes_24 rfl (lv_at hl 1 rfl) ?_
        refine lv_aload_n hx hb d_Choice_fitCodes_25 rfl (lv_at hl 0 rfl) ?_
        refine st_get hx hb hg hown hK hH (f := 30) (i := 0) hd_30 rfl rfl u_Choice 7 (by decide) (hg _ wd_337) (v := .ref (ad 34 0)) rfl d_Choice_fitCodes_26 ?_
        refine lv_iload_n hx hb d_Choice_fitCodes_29 rfl (lv_at hl 2 rfl) ?_
        refine lv_aload_n hx hb d_Choice_fitCodes_30 rfl (lv_at hl 0 rfl) ?_
        refine st_get hx hb hg hown hK hH (f := 30) (i := 0) hd_30 rfl rfl u_Choice 5 (by decide) (hg _ wd_344) (v := .ref (ad 33 0)) rfl d_Choice_fitCodes_31 ?_
        refine lv_iload_n hx hb d_Choice_fitCodes_34 rfl (lv_at hl 3 rfl) ?_
        obtain ⟨g35, h1⟩ := gd_some h1
        obtain ⟨j3, c35, h1⟩ := on_some h1
        refine st_aald hx hb hK hH (f := 33) (i := 0) hd_33 rfl (by decide) g35 d_Choice_fitCodes_35 c35 (fun hdj3 => ?_)
        obtain ⟨qc, hc36, h1⟩ := b1_some h1
        obtain ⟨σ4, rfl⟩ : ∃ z, z = qc := ⟨_, rfl⟩
        have h1 := b1_at h1
        refine st_Vv (As := [.ref (ad 34 0), .int a2, .ref (ad 41 j3)]) (rest := []) ⟨hx, hb, hml, hown, hg⟩ (c_Packages_fit l D aC A ad n _ 34 0 64 a2 j3 rfl hd_34 hdj3 _ hc36) (cwG hg wd_204 wd_349 wd_206 wd_207 wd_86 yd_Packages_fit ⟨Nat.le_of_ble_eq_true rfl, Nat.le_of_ble_eq_true rfl⟩) hK hH hS hZ hd_5 rfl rfl rfl hl.1 rfl (Nat.le_of_ble_eq_true rfl) d_Choice_fitCodes_36 ⟨Nat.zero_le _, Nat.zero_le _⟩ (fun H locs hH hS => ?_)
        obtain ⟨x5, ex5⟩ : ∃ y : Int32, y = v3 + 1 := ⟨_, rfl⟩
        have h1 := nm_at ex5 h1
        refine lv_iinc (v := x5) (lv' := [(3, .int x5), (0, .ref (ad 30 0)), (1, .ref (ad 5 0)), (2, .int a2)]) hx hb d_Choice_fitCodes_39 hl (k := 3) rfl (by rw [ex5]; rfl) (by decide) rfl (fun ls hl => ?_)
        refine lv_goto (tgt := 2) hx hb d_Choice_fitCodes_42 (by decide) ?_
        cases h1
        exact ih1 σ4 x5 _ _ ls hH hS (lv_sub hl [1, 2, 3, 0] rfl) hk1
  obtain ⟨k1, hq1⟩ := lpE_some hq1
  exact loop1 k1 σ 0 _ _ ls hH hS (lv_sub hl [1, 2, 3, 0] rfl) hq1
