theorem d_PC_write_0 : decode prog_1_method_25_code 0 = .ok (.aload_n 0, 1) := by decide +kernel
theorem d_PC_write_1 : decode prog_1_method_25_code 1 = .ok (.getfield 63, 3) := by decide +kernel
theorem d_PC_write_4 : decode prog_1_method_25_code 4 = .ok (.getfield 223, 3) := by decide +kernel
theorem d_PC_write_7 : decode prog_1_method_25_code 7 = .ok (.ifCond .eq 13, 3) := by decide +kernel
theorem d_PC_write_10 : decode prog_1_method_25_code 10 = .ok (.aload_n 0, 1) := by decide +kernel
theorem d_PC_write_11 : decode prog_1_method_25_code 11 = .ok (.getfield 63, 3) := by decide +kernel
theorem d_PC_write_14 : decode prog_1_method_25_code 14 = .ok (.invokevirtual 229, 3) := by decide +kernel
theorem d_PC_write_17 : decode prog_1_method_25_code 17 = .ok (.ifCond .ne 6, 3) := by decide +kernel
theorem d_PC_write_20 : decode prog_1_method_25_code 20 = .ok (.bipush (-103), 2) := by decide +kernel
theorem d_PC_write_22 : decode prog_1_method_25_code 22 = .ok (.ireturn, 1) := by decide +kernel
theorem d_PC_write_23 : decode prog_1_method_25_code 23 = .ok (.aload_n 0, 1) := by decide +kernel
theorem d_PC_write_24 : decode prog_1_method_25_code 24 = .ok (.getfield 26, 3) := by decide +kernel
theorem d_PC_write_27 : decode prog_1_method_25_code 27 = .ok (.invokevirtual 169, 3) := by decide +kernel
theorem d_PC_write_30 : decode prog_1_method_25_code 30 = .ok (.aload_n 0, 1) := by decide +kernel
theorem d_PC_write_31 : decode prog_1_method_25_code 31 = .ok (.getfield 63, 3) := by decide +kernel
theorem d_PC_write_34 : decode prog_1_method_25_code 34 = .ok (.aload_n 0, 1) := by decide +kernel
theorem d_PC_write_35 : decode prog_1_method_25_code 35 = .ok (.getfield 26, 3) := by decide +kernel
theorem d_PC_write_38 : decode prog_1_method_25_code 38 = .ok (.invokevirtual 232, 3) := by decide +kernel
theorem d_PC_write_41 : decode prog_1_method_25_code 41 = .ok (.aload_n 0, 1) := by decide +kernel
theorem d_PC_write_42 : decode prog_1_method_25_code 42 = .ok (.getfield 26, 3) := by decide +kernel
theorem d_PC_write_45 : decode prog_1_method_25_code 45 = .ok (.invokevirtual 176, 3) := by decide +kernel
theorem d_PC_write_48 : decode prog_1_method_25_code 48 = .ok (.ireturn, 1) := by decide +kernel
theorem d_Reader_begin_0 : decode prog_7_method_2_code 0 = .ok (.aload_n 0, 1) := by decide +kernel
theorem d_Reader_begin_1 : decode prog_7_method_2_code 1 = .ok (.getfield 20, 3) := by decide +kernel
theorem d_Reader_begin_4 : decode prog_7_method_2_code 4 = .ok (.iload_n 1, 1) := by decide +kernel
theorem d_Reader_begin_5 : decode prog_7_method_2_code 5 = .ok (.invokevirtual 35, 3) := by decide +kernel
theorem d_Reader_begin_8 : decode prog_7_method_2_code 8 = .ok (.return_, 1) := by decide +kernel
theorem d_Selectors_remove_0 : decode prog_8_method_4_code 0 = .ok (.iconst 0, 1) := by decide +kernel
theorem d_Selectors_remove_1 : decode prog_8_method_4_code 1 = .ok (.istore_n 2, 1) := by decide +kernel
theorem d_Selectors_remove_2 : decode prog_8_method_4_code 2 = .ok (.iload_n 2, 1) := by decide +kernel
theorem d_Selectors_remove_3 : decode prog_8_method_4_code 3 = .ok (.aload_n 0, 1) := by decide +kernel
theorem d_Selectors_remove_4 : decode prog_8_method_4_code 4 = .ok (.getfield 15, 3) := by decide +kernel
theorem d_Selectors_remove_7 : decode prog_8_method_4_code 7 = .ok (.if_icmp .ge 37, 3) := by decide +kernel
theorem d_Selectors_remove_10 : decode prog_8_method_4_code 10 = .ok (.aload_n 1, 1) := by decide +kernel
theorem d_Selectors_remove_11 : decode prog_8_method_4_code 11 = .ok (.invokevirtual 28, 3) := by decide +kernel
theorem d_Selectors_remove_14 : decode prog_8_method_4_code 14 = .ok (.istore_n 3, 1) := by decide +kernel
theorem d_Selectors_remove_15 : decode prog_8_method_4_code 15 = .ok (.iload_n 3, 1) := by decide +kernel
theorem d_Selectors_remove_16 : decode prog_8_method_4_code 16 = .ok (.ifCond .ge 6, 3) := by decide +kernel
theorem d_Selectors_remove_19 : decode prog_8_method_4_code 19 = .ok (.bipush (-104), 2) := by decide +kernel
theorem d_Selectors_remove_21 : decode prog_8_method_4_code 21 = .ok (.ireturn, 1) := by decide +kernel
theorem d_Selectors_remove_22 : decode prog_8_method_4_code 22 = .ok (.iload_n 3, 1) := by decide +kernel
theorem d_Selectors_remove_23 : decode prog_8_method_4_code 23 = .ok (.ifCond .ne 15, 3) := by decide +kernel
theorem d_Selectors_remove_26 : decode prog_8_method_4_code 26 = .ok (.aload_n 0, 1) := by decide +kernel
theorem d_Selectors_remove_27 : decode prog_8_method_4_code 27 = .ok (.iload_n 2, 1) := by decide +kernel
theorem d_Selectors_remove_28 : decode prog_8_method_4_code 28 = .ok (.invokevirtual 25, 3) := by decide +kernel
theorem d_Selectors_remove_31 : decode prog_8_method_4_code 31 = .ok (.aload_n 0, 1) := by decide +kernel
theorem d_Selectors_remove_32 : decode prog_8_method_4_code 32 = .ok (.getfield 9, 3) := by decide +kernel
theorem d_Selectors_remove_35 : decode prog_8_method_4_code 35 = .ok (.iconst 0, 1) := by decide +kernel
theorem d_Selectors_remove_36 : decode prog_8_method_4_code 36 = .ok (.iaload, 1) := by decide +kernel
theorem d_Selectors_remove_37 : decode prog_8_method_4_code 37 = .ok (.ireturn, 1) := by decide +kernel
theorem d_Selectors_remove_38 : decode prog_8_method_4_code 38 = .ok (.iinc 2 1, 3) := by decide +kernel
theorem d_Selectors_remove_41 : decode prog_8_method_4_code 41 = .ok (.goto (-39), 3) := by decide +kernel
theorem d_Selectors_remove_44 : decode prog_8_method_4_code 44 = .ok (.bipush (-105), 2) := by decide +kernel
theorem d_Selectors_remove_46 : decode prog_8_method_4_code 46 = .ok (.ireturn, 1) := by decide +kernel
theorem d_Reader_remove_0 : decode prog_7_method_3_code 0 = .ok (.iload_n 2, 1) := by decide +kernel
theorem d_Reader_remove_1 : decode prog_7_method_3_code 1 = .ok (.iload_n 1, 1) := by decide +kernel
theorem d_Reader_remove_2 : decode prog_7_method_3_code 2 = .ok (.iadd, 1) := by decide +kernel
theorem d_Reader_remove_3 : decode prog_7_method_3_code 3 = .ok (.iconst 1, 1) := by decide +kernel
theorem d_Reader_remove_4 : decode prog_7_method_3_code 4 = .ok (.isub, 1) := by decide +kernel
theorem d_Reader_remove_5 : decode prog_7_method_3_code 5 = .ok (.iload_n 1, 1) := by decide +kernel
theorem d_Reader_remove_6 : decode prog_7_method_3_code 6 = .ok (.idiv, 1) := by decide +kernel
theorem d_Reader_remove_7 : decode prog_7_method_3_code 7 = .ok (.istore_n 3, 1) := by decide +kernel
theorem d_Reader_remove_8 : decode prog_7_method_3_code 8 = .ok (.iconst 0, 1) := by decide +kernel
theorem d_Reader_remove_9 : decode prog_7_method_3_code 9 = .ok (.istore 4, 2) := by decide +kernel
theorem d_Reader_remove_11 : decode prog_7_method_3_code 11 = .ok (.iload 4, 2) := by decide +kernel
theorem d_Reader_remove_13 : decode prog_7_method_3_code 13 = .ok (.iload_n 3, 1) := by decide +kernel
theorem d_Reader_remove_14 : decode prog_7_method_3_code 14 = .ok (.if_icmp .ge 39, 3) := by decide +kernel
theorem d_Reader_remove_17 : decode prog_7_method_3_code 17 = .ok (.aload_n 0, 1) := by decide +kernel
theorem d_Reader_remove_18 : decode prog_7_method_3_code 18 = .ok (.getfield 20, 3) := by decide +kernel
theorem d_Reader_remove_21 : decode prog_7_method_3_code 21 = .ok (.aload_n 0, 1) := by decide +kernel
theorem d_Reader_remove_22 : decode prog_7_method_3_code 22 = .ok (.getfield 31, 3) := by decide +kernel
theorem d_Reader_remove_25 : decode prog_7_method_3_code 25 = .ok (.invokevirtual 39, 3) := by decide +kernel
theorem d_Reader_remove_28 : decode prog_7_method_3_code 28 = .ok (.istore 5, 2) := by decide +kernel
theorem d_Reader_remove_30 : decode prog_7_method_3_code 30 = .ok (.iload 5, 2) := by decide +kernel
theorem d_Reader_remove_32 : decode prog_7_method_3_code 32 = .ok (.ifCond .ge 6, 3) := by decide +kernel
theorem d_Reader_remove_35 : decode prog_7_method_3_code 35 = .ok (.iload 5, 2) := by decide +kernel
theorem d_Reader_remove_37 : decode prog_7_method_3_code 37 = .ok (.ireturn, 1) := by decide +kernel
theorem d_Reader_remove_38 : decode prog_7_method_3_code 38 = .ok (.aload_n 0, 1) := by decide +kernel
theorem d_Reader_remove_39 : decode prog_7_method_3_code 39 = .ok (.getfield 24, 3) := by decide +kernel
theorem d_Reader_remove_42 : decode prog_7_method_3_code 42 = .ok (.iload 4, 2) := by decide +kernel
theorem d_Reader_remove_44 : decode prog_7_method_3_code 44 = .ok (.iload 5, 2) := by decide +kernel
theorem d_Reader_remove_46 : decode prog_7_method_3_code 46 = .ok (.iastore, 1) := by decide +kernel
theorem d_Reader_remove_47 : decode prog_7_method_3_code 47 = .ok (.iinc 4 1, 3) := by decide +kernel
theorem d_Reader_remove_50 : decode prog_7_method_3_code 50 = .ok (.goto (-39), 3) := by decide +kernel
theorem d_Reader_remove_53 : decode prog_7_method_3_code 53 = .ok (.iconst 0, 1) := by decide +kernel
theorem d_Reader_remove_54 : decode prog_7_method_3_code 54 = .ok (.istore 4, 2) := by decide +kernel
theorem d_Reader_remove_56 : decode prog_7_method_3_code 56 = .ok (.iload 4, 2) := by decide +kernel
theorem d_Reader_remove_58 : decode prog_7_method_3_code 58 = .ok (.iload_n 2, 1) := by decide +kernel
theorem d_Reader_remove_59 : decode prog_7_method_3_code 59 = .ok (.if_icmp .ge 64, 3) := by decide +kernel
theorem d_Reader_remove_62 : decode prog_7_method_3_code 62 = .ok (.aload_n 0, 1) := by decide +kernel
theorem d_Reader_remove_63 : decode prog_7_method_3_code 63 = .ok (.getfield 11, 3) := by decide +kernel
theorem d_Reader_remove_66 : decode prog_7_method_3_code 66 = .ok (.aload_n 0, 1) := by decide +kernel
theorem d_Reader_remove_67 : decode prog_7_method_3_code 67 = .ok (.getfield 24, 3) := by decide +kernel
theorem d_Reader_remove_70 : decode prog_7_method_3_code 70 = .ok (.iload 4, 2) := by decide +kernel
theorem d_Reader_remove_72 : decode prog_7_method_3_code 72 = .ok (.iload_n 1, 1) := by decide +kernel
theorem d_Reader_remove_73 : decode prog_7_method_3_code 73 = .ok (.idiv, 1) := by decide +kernel
theorem d_Reader_remove_74 : decode prog_7_method_3_code 74 = .ok (.iaload, 1) := by decide +kernel
theorem d_Reader_remove_75 : decode prog_7_method_3_code 75 = .ok (.aaload, 1) := by decide +kernel
theorem d_Reader_remove_76 : decode prog_7_method_3_code 76 = .ok (.astore 5, 2) := by decide +kernel
theorem d_Reader_remove_78 : decode prog_7_method_3_code 78 = .ok (.aload 5, 2) := by decide +kernel
theorem d_Reader_remove_80 : decode prog_7_method_3_code 80 = .ok (.ifnonnull 8, 3) := by decide +kernel
theorem d_Reader_remove_83 : decode prog_7_method_3_code 83 = .ok (.bipush (-105), 2) := by decide +kernel
theorem d_Reader_remove_85 : decode prog_7_method_3_code 85 = .ok (.goto 13, 3) := by decide +kernel
theorem d_Reader_remove_88 : decode prog_7_method_3_code 88 = .ok (.aload 5, 2) := by decide +kernel
theorem d_Reader_remove_90 : decode prog_7_method_3_code 90 = .ok (.aload_n 0, 1) := by decide +kernel
theorem d_Reader_remove_91 : decode prog_7_method_3_code 91 = .ok (.getfield 31, 3) := by decide +kernel
theorem d_Reader_remove_94 : decode prog_7_method_3_code 94 = .ok (.iconst 0, 1) := by decide +kernel
theorem d_Reader_remove_95 : decode prog_7_method_3_code 95 = .ok (.invokevirtual 43, 3) := by decide +kernel
theorem d_Reader_remove_98 : decode prog_7_method_3_code 98 = .ok (.istore 6, 2) := by decide +kernel
theorem d_Reader_remove_100 : decode prog_7_method_3_code 100 = .ok (.iload 6, 2) := by decide +kernel
theorem d_Reader_remove_102 : decode prog_7_method_3_code 102 = .ok (.ifCond .ge 6, 3) := by decide +kernel
theorem d_Reader_remove_105 : decode prog_7_method_3_code 105 = .ok (.iload 6, 2) := by decide +kernel
theorem d_Reader_remove_107 : decode prog_7_method_3_code 107 = .ok (.ireturn, 1) := by decide +kernel
theorem d_Reader_remove_108 : decode prog_7_method_3_code 108 = .ok (.aload_n 0, 1) := by decide +kernel
theorem d_Reader_remove_109 : decode prog_7_method_3_code 109 = .ok (.getfield 28, 3) := by decide +kernel
theorem d_Reader_remove_112 : decode prog_7_method_3_code 112 = .ok (.iload 4, 2) := by decide +kernel
theorem d_Reader_remove_114 : decode prog_7_method_3_code 114 = .ok (.iload 6, 2) := by decide +kernel
theorem d_Reader_remove_116 : decode prog_7_method_3_code 116 = .ok (.iastore, 1) := by decide +kernel
theorem d_Reader_remove_117 : decode prog_7_method_3_code 117 = .ok (.iinc 4 1, 3) := by decide +kernel
theorem d_Reader_remove_120 : decode prog_7_method_3_code 120 = .ok (.goto (-64), 3) := by decide +kernel
theorem d_Reader_remove_123 : decode prog_7_method_3_code 123 = .ok (.iload_n 2, 1) := by decide +kernel
theorem d_Reader_remove_124 : decode prog_7_method_3_code 124 = .ok (.ireturn, 1) := by decide +kernel
theorem d_Text_become_0 : decode prog_11_method_3_code 0 = .ok (.aload_n 1, 1) := by decide +kernel
theorem d_Text_become_1 : decode prog_11_method_3_code 1 = .ok (.iconst 0, 1) := by decide +kernel
theorem d_Text_become_2 : decode prog_11_method_3_code 2 = .ok (.aload_n 0, 1) := by decide +kernel
theorem d_Text_become_3 : decode prog_11_method_3_code 3 = .ok (.getfield 9, 3) := by decide +kernel
theorem d_Text_become_6 : decode prog_11_method_3_code 6 = .ok (.iconst 0, 1) := by decide +kernel
theorem d_Text_become_7 : decode prog_11_method_3_code 7 = .ok (.iload_n 2, 1) := by decide +kernel
theorem d_Text_become_8 : decode prog_11_method_3_code 8 = .ok (.invokestatic 25, 3) := by decide +kernel
theorem d_Text_become_11 : decode prog_11_method_3_code 11 = .ok (.aload_n 0, 1) := by decide +kernel
theorem d_Text_become_12 : decode prog_11_method_3_code 12 = .ok (.iload_n 2, 1) := by decide +kernel
theorem d_Text_become_13 : decode prog_11_method_3_code 13 = .ok (.putfield 15, 3) := by decide +kernel
theorem d_Text_become_16 : decode prog_11_method_3_code 16 = .ok (.return_, 1) := by decide +kernel
theorem d_PC_read_0 : decode prog_1_method_26_code 0 = .ok (.aload_n 0, 1) := by decide +kernel
theorem d_PC_read_1 : decode prog_1_method_26_code 1 = .ok (.iload_n 1, 1) := by decide +kernel
theorem d_PC_read_2 : decode prog_1_method_26_code 2 = .ok (.invokevirtual 97, 3) := by decide +kernel
theorem d_PC_read_5 : decode prog_1_method_26_code 5 = .ok (.ifnull 13, 3) := by decide +kernel
theorem d_PC_read_8 : decode prog_1_method_26_code 8 = .ok (.iload_n 2, 1) := by decide +kernel
theorem d_PC_read_9 : decode prog_1_method_26_code 9 = .ok (.aload_n 0, 1) := by decide +kernel
theorem d_PC_read_10 : decode prog_1_method_26_code 10 = .ok (.getfield 15, 3) := by decide +kernel
theorem d_PC_read_13 : decode prog_1_method_26_code 13 = .ok (.iload_n 1, 1) := by decide +kernel
theorem d_PC_read_14 : decode prog_1_method_26_code 14 = .ok (.isub, 1) := by decide +kernel
theorem d_PC_read_15 : decode prog_1_method_26_code 15 = .ok (.if_icmp .le 6, 3) := by decide +kernel
theorem d_PC_read_18 : decode prog_1_method_26_code 18 = .ok (.bipush (-101), 2) := by decide +kernel
theorem d_PC_read_20 : decode prog_1_method_26_code 20 = .ok (.ireturn, 1) := by decide +kernel
theorem d_PC_read_21 : decode prog_1_method_26_code 21 = .ok (.iload_n 2, 1) := by decide +kernel
theorem d_PC_read_22 : decode prog_1_method_26_code 22 = .ok (.iconst 1, 1) := by decide +kernel
theorem d_PC_read_23 : decode prog_1_method_26_code 23 = .ok (.bipush 6, 2) := by decide +kernel
theorem d_PC_read_25 : decode prog_1_method_26_code 25 = .ok (.invokestatic 76, 3) := by decide +kernel
theorem d_PC_read_28 : decode prog_1_method_26_code 28 = .ok (.ifCond .ne 25, 3) := by decide +kernel
theorem d_PC_read_31 : decode prog_1_method_26_code 31 = .ok (.iload_n 3, 1) := by decide +kernel
theorem d_PC_read_32 : decode prog_1_method_26_code 32 = .ok (.iconst 1, 1) := by decide +kernel
theorem d_PC_read_33 : decode prog_1_method_26_code 33 = .ok (.bipush 100, 2) := by decide +kernel
theorem d_PC_read_35 : decode prog_1_method_26_code 35 = .ok (.invokestatic 76, 3) := by decide +kernel
theorem d_PC_read_38 : decode prog_1_method_26_code 38 = .ok (.ifCond .ne 15, 3) := by decide +kernel
theorem d_PC_read_41 : decode prog_1_method_26_code 41 = .ok (.iload 4, 2) := by decide +kernel
theorem d_PC_read_43 : decode prog_1_method_26_code 43 = .ok (.iconst 1, 1) := by decide +kernel
theorem d_PC_read_44 : decode prog_1_method_26_code 44 = .ok (.sipush 1000, 3) := by decide +kernel
theorem d_PC_read_47 : decode prog_1_method_26_code 47 = .ok (.invokestatic 76, 3) := by decide +kernel
theorem d_PC_read_50 : decode prog_1_method_26_code 50 = .ok (.ifCond .eq 6, 3) := by decide +kernel
theorem d_PC_read_53 : decode prog_1_method_26_code 53 = .ok (.bipush (-102), 2) := by decide +kernel
theorem d_PC_read_55 : decode prog_1_method_26_code 55 = .ok (.ireturn, 1) := by decide +kernel
theorem d_PC_read_56 : decode prog_1_method_26_code 56 = .ok (.aload_n 0, 1) := by decide +kernel
theorem d_PC_read_57 : decode prog_1_method_26_code 57 = .ok (.getfield 72, 3) := by decide +kernel
theorem d_PC_read_60 : decode prog_1_method_26_code 60 = .ok (.iload_n 2, 1) := by decide +kernel
theorem d_PC_read_61 : decode prog_1_method_26_code 61 = .ok (.invokevirtual 234, 3) := by decide +kernel
theorem d_PC_read_64 : decode prog_1_method_26_code 64 = .ok (.iconst 0, 1) := by decide +kernel
theorem d_PC_read_65 : decode prog_1_method_26_code 65 = .ok (.istore 5, 2) := by decide +kernel
theorem d_PC_read_67 : decode prog_1_method_26_code 67 = .ok (.iload 5, 2) := by decide +kernel
theorem d_PC_read_69 : decode prog_1_method_26_code 69 = .ok (.iload_n 2, 1) := by decide +kernel
theorem d_PC_read_70 : decode prog_1_method_26_code 70 = .ok (.if_icmp .ge 47, 3) := by decide +kernel
theorem d_PC_read_73 : decode prog_1_method_26_code 73 = .ok (.aload_n 0, 1) := by decide +kernel
theorem d_PC_read_74 : decode prog_1_method_26_code 74 = .ok (.iload_n 1, 1) := by decide +kernel
theorem d_PC_read_75 : decode prog_1_method_26_code 75 = .ok (.iload 5, 2) := by decide +kernel
theorem d_PC_read_77 : decode prog_1_method_26_code 77 = .ok (.iadd, 1) := by decide +kernel
theorem d_PC_read_78 : decode prog_1_method_26_code 78 = .ok (.invokevirtual 97, 3) := by decide +kernel
theorem d_PC_read_81 : decode prog_1_method_26_code 81 = .ok (.astore 6, 2) := by decide +kernel
theorem d_PC_read_83 : decode prog_1_method_26_code 83 = .ok (.aload 6, 2) := by decide +kernel
theorem d_PC_read_85 : decode prog_1_method_26_code 85 = .ok (.ifnull 11, 3) := by decide +kernel
theorem d_PC_read_88 : decode prog_1_method_26_code 88 = .ok (.aload 6, 2) := by decide +kernel
theorem d_PC_read_90 : decode prog_1_method_26_code 90 = .ok (.invokevirtual 161, 3) := by decide +kernel
theorem d_PC_read_93 : decode prog_1_method_26_code 93 = .ok (.ifCond .ne 6, 3) := by decide +kernel
theorem d_PC_read_96 : decode prog_1_method_26_code 96 = .ok (.bipush (-103), 2) := by decide +kernel
theorem d_PC_read_98 : decode prog_1_method_26_code 98 = .ok (.ireturn, 1) := by decide +kernel
theorem d_PC_read_99 : decode prog_1_method_26_code 99 = .ok (.aload_n 0, 1) := by decide +kernel
theorem d_PC_read_100 : decode prog_1_method_26_code 100 = .ok (.getfield 72, 3) := by decide +kernel
theorem d_PC_read_103 : decode prog_1_method_26_code 103 = .ok (.getfield 236, 3) := by decide +kernel
theorem d_PC_read_106 : decode prog_1_method_26_code 106 = .ok (.iload 5, 2) := by decide +kernel
theorem d_PC_read_108 : decode prog_1_method_26_code 108 = .ok (.aload 6, 2) := by decide +kernel
theorem d_PC_read_110 : decode prog_1_method_26_code 110 = .ok (.aastore, 1) := by decide +kernel
theorem d_PC_read_111 : decode prog_1_method_26_code 111 = .ok (.iinc 5 1, 3) := by decide +kernel
theorem d_PC_read_114 : decode prog_1_method_26_code 114 = .ok (.goto (-47), 3) := by decide +kernel
theorem d_PC_read_117 : decode prog_1_method_26_code 117 = .ok (.aload_n 0, 1) := by decide +kernel
theorem d_PC_read_118 : decode prog_1_method_26_code 118 = .ok (.getfield 72, 3) := by decide +kernel
theorem d_PC_read_121 : decode prog_1_method_26_code 121 = .ok (.iload_n 3, 1) := by decide +kernel
theorem d_PC_read_122 : decode prog_1_method_26_code 122 = .ok (.iload 4, 2) := by decide +kernel
theorem d_PC_read_124 : decode prog_1_method_26_code 124 = .ok (.invokevirtual 237, 3) := by decide +kernel
theorem d_PC_read_127 : decode prog_1_method_26_code 127 = .ok (.istore 5, 2) := by decide +kernel
theorem d_PC_read_129 : decode prog_1_method_26_code 129 = .ok (.iload 5, 2) := by decide +kernel
theorem d_PC_read_131 : decode prog_1_method_26_code 131 = .ok (.ifCond .ge 6, 3) := by decide +kernel
theorem d_PC_read_134 : decode prog_1_method_26_code 134 = .ok (.iload 5, 2) := by decide +kernel
theorem d_PC_read_136 : decode prog_1_method_26_code 136 = .ok (.ireturn, 1) := by decide +kernel
theorem d_PC_read_137 : decode prog_1_method_26_code 137 = .ok (.aload_n 0, 1) := by decide +kernel
theorem d_PC_read_138 : decode prog_1_method_26_code 138 = .ok (.getfield 56, 3) := by decide +kernel
theorem d_PC_read_141 : decode prog_1_method_26_code 141 = .ok (.aload_n 0, 1) := by decide +kernel
theorem d_PC_read_142 : decode prog_1_method_26_code 142 = .ok (.getfield 72, 3) := by decide +kernel
theorem d_PC_read_145 : decode prog_1_method_26_code 145 = .ok (.getfield 238, 3) := by decide +kernel
theorem d_PC_read_148 : decode prog_1_method_26_code 148 = .ok (.iload 4, 2) := by decide +kernel
theorem d_PC_read_150 : decode prog_1_method_26_code 150 = .ok (.invokevirtual 239, 3) := by decide +kernel
theorem d_PC_read_153 : decode prog_1_method_26_code 153 = .ok (.iload 4, 2) := by decide +kernel
theorem d_PC_read_155 : decode prog_1_method_26_code 155 = .ok (.ireturn, 1) := by decide +kernel
noncomputable def f_PC_write (σ : St) : Option (St × Int32) :=
  if (σ.1 30 0 3) = 0 then
    some (σ, (-103))
  else
  b2 (f_Choice_canBeWritten σ) fun σ1 x2 =>
  if x2 = 0 then
    some (σ1, (-103))
  else
  b1 (f_Stream_begin σ1) fun σ3 =>
  b1 (f_Choice_append σ3) fun σ4 =>
  b2 (f_Stream_settle σ4) fun σ5 x6 =>
  some (σ5, x6)
noncomputable def f_Reader_begin (σ : St) (a1 : Int32) : Option (St) :=
  b1 (f_Selectors_begin σ 1 a1) fun σ1 =>
  some σ1
noncomputable def lb_Selectors_remove_2 (iT : Nat) (σ : St) (v2 : Int32) : Option ((St × Int32) ⊕ ((St × Int32) ⊕ (St × Int32))) :=
  if (σ.1 39 iT 1) ≤ v2 then
    some (.inr (.inl (σ, v2)))
  else
  b2 (f_Stream_removeFirst σ) fun σ1 x2 =>
  if 0 ≤ x2 then
    if x2 = 0 then
      b1 (f_Selectors_moveAhead σ1 iT v2) fun σ4 =>
      gd (ib 0 6) <|
      some (.inr (.inr (σ4, σ4.1 40 iT (0 : Int32).toNatClampNeg)))
    else
    nm (v2 + 1) fun x3 =>
    some (.inl (σ1, x3))
  else
  some (.inr (.inr (σ1, (-104))))
noncomputable def f_Selectors_remove (σ : St) (iT : Nat) : Option (St × Int32) :=
  bs2 (lpE (fun q => lb_Selectors_remove_2 iT q.1 q.2) (σ, 0)) (fun z => some z) fun σ5 x6 =>
  some (σ5, (-105))
noncomputable def lb_Reader_remove_11 (a1 : Int32) (a2 : Int32) (x1 : Int32) (σ : St) (v4 : Int32) : Option ((St × Int32) ⊕ ((St × Int32) ⊕ (St × Int32))) :=
  if x1 ≤ v4 then
    some (.inr (.inl (σ, v4)))
  else
  b2 (f_Selectors_remove σ 1) fun σ2 x3 =>
  if 0 ≤ x3 then
    gd (ib v4 1000) <|
    nm (sI σ2 37 0 (v4.toNatClampNeg) x3) fun σ4 =>
    nm (v4 + 1) fun x5 =>
    some (.inl (σ4, x5))
  else
  some (.inr (.inr (σ2, x3)))
noncomputable def lb_Reader_remove_56 (a1 : Int32) (a2 : Int32) (σ : St) (v4 : Int32) : Option ((St × Int32) ⊕ ((St × Int32) ⊕ (St × Int32))) :=
  if a2 ≤ v4 then
    some (.inr (.inl (σ, v4)))
  else
  gd (¬ a1 = 0) <|
  gd (ib (v4 / a1) 1000) <|
  gd (ib (σ.1 37 0 (v4 / a1).toNatClampNeg) 6) <|
  on (σ.2.2.1 36 0 (σ.1 37 0 (v4 / a1).toNatClampNeg).toNatClampNeg) (
    none
    ) fun j8 =>
  b2 (f_Code_removeSymbol σ j8 0) fun σ9 x10 =>
  if 0 ≤ x10 then
    gd (ib v4 1000) <|
    nm (sI σ9 38 0 (v4.toNatClampNeg) x10) fun σ11 =>
    nm (v4 + 1) fun x12 =>
    some (.inl (σ11, x12))
  else
  some (.inr (.inr (σ9, x10)))
noncomputable def f_Reader_remove (σ : St) (a1 : Int32) (a2 : Int32) : Option (St × Int32) :=
  gd (¬ a1 = 0) <|
  nm (((a2 + a1) - 1) / a1) fun x1 =>
  bs2 (lpE (fun q => lb_Reader_remove_11 a1 a2 x1 q.1 q.2) (σ, 0)) (fun z => some z) fun σ6 x7 =>
  bs2 (lpE (fun q => lb_Reader_remove_56 a1 a2 q.1 q.2) (σ6, 0)) (fun z => some z) fun σ13 x14 =>
  some (σ13, a2)
noncomputable def f_Text_become (σ : St) (fa1 ia1 na1 : Nat) (a2 : Int32) : Option (St) :=
  gd (cpok 0 na1 0 1000 a2) <|
  nm (cpI σ fa1 ia1 ((0 : Int32).toNatClampNeg) 27 0 ((0 : Int32).toNatClampNeg) (a2.toNatClampNeg)) fun σ1 =>
  nm (sI σ1 26 0 1 a2) fun σ2 =>
  some σ2
noncomputable def lb_PC_read_67 (a1 : Int32) (a2 : Int32) (a3 : Int32) (a4 : Int32) (σ : St) (v5 : Int32) : Option ((St × Int32) ⊕ ((St × Int32) ⊕ (St × Int32))) :=
  if a2 ≤ v5 then
    some (.inr (.inl (σ, v5)))
  else
  b2 (f_PC_codeAt σ (a1 + v5)) fun σ11 o12 =>
  on (o12) (
    some (.inr (.inr (σ11, (-103))))
    ) fun j13 =>
  b2 (f_Code_canBeRead σ11 j13) fun σ14 x15 =>
  if x15 = 0 then
    some (.inr (.inr (σ14, (-103))))
  else
  gd (ib v5 6) <|
  nm (sR σ14 36 0 (v5.toNatClampNeg) (some j13)) fun σ16 =>
  nm (v5 + 1) fun x17 =>
  some (.inl (σ16, x17))
noncomputable def f_PC_read (σ : St) (a1 : Int32) (a2 : Int32) (a3 : Int32) (a4 : Int32) : Option (St × Int32) :=
  b2 (f_PC_codeAt σ a1) fun σ1 o2 =>
  on (o2) (
    some (σ1, (-101))
    ) fun j3 =>
  if a2 ≤ ((σ1.1 0 0 1) - a1) then
    b2 (f_PC_isOutside σ1 a2 1 6) fun σ4 x5 =>
    if x5 = 0 then
      b2 (f_PC_isOutside σ4 a3 1 100) fun σ6 x7 =>
      if x7 = 0 then
        b2 (f_PC_isOutside σ6 a4 1 1000) fun σ8 x9 =>
        if x9 = 0 then
          b1 (f_Reader_begin σ8 a2) fun σ10 =>
          bs2 (lpE (fun q => lb_PC_read_67 a1 a2 a3 a4 q.1 q.2) (σ10, 0)) (fun z => some z) fun σ18 x19 =>
          b2 (f_Reader_remove σ18 a3 a4) fun σ20 x21 =>
          if 0 ≤ x21 then
            b1 (f_Text_become σ20 38 0 1000 a4) fun σ22 =>
            some (σ22, a4)
          else
          some (σ20, x21)
        else
        some (σ8, (-102))
      else
      some (σ6, (-102))
    else
    some (σ4, (-102))
  else
  some (σ1, (-101))
set_option maxHeartbeats 4000000 in
set_option maxRecDepth 100000 in
theorem c_PC_write (l : Launch) (D : va_G) (aC : Nat → ClassId) (A : Nat → Prop) (ad : Nat → Nat → Nat) (n : Nat) (σ : St) (o : St × Int32) (h : f_PC_write σ  = some o) : Met l y_PC_write w_PC_write rm_PC_write (va_Pc [.ref (ad 0 0)] (Pre D aC A ad n σ)) (va_Qi (fun r (_ : Unit) => r = o.2) (fun _ t => Hold D aC A ad n o.1 t.heap) A) 0 0 A := by
  refine Met.ofW (cc := prog_1_method_25_code) (maxL := 1) (ret := (some .int)) (by decide) rfl ?_
  intro p e s m args below meth c s₁ B hml hv
  obtain ⟨hargs, hH, hK, hZ⟩ := hv
  have hx := B.exec
  have hb := B.bytes
  have hr := B.returns
  have hts := atoms_spec (ws := w_PC_write) B.pre
  have hg : ∀ w ∈ gW, w.before args s = true := fun w h => hts w (List.mem_cons_of_mem _ h)
  have hown : s.vm.findClass "PrefixCodes" = some m.cls := findClass_of_methodNamed B.named
  have hlocks := B.notSynchronized
  have hS : va_S A s.heap s.heap [] := va_S.rf
  have hl := lv_entry ([.ref (ad 0 0)]) (n := 1) (Nat.le_of_ble_eq_true rfl)
  rw [show entryFrame m args 1 = entryFrame m (([.ref (ad 0 0)] : List Value).toArray) 1 by rw [hargs], lg_entry_eq]
  generalize (lg_sl ([.ref (ad 0 0)]) ++ List.replicate (1 - (lg_sl ([.ref (ad 0 0)])).length) Slot.unset).toArray = ls at hl ⊢
  have hl : lv_has ls 1 [(0, .ref (ad 0 0))] := hl
  generalize hQ0 : MQ below (va_Qi (fun r (_ : Unit) => r = o.2) (fun _ t => Hold D aC A ad n o.1 t.heap) A) args s 0 0 A = Q0
  unfold f_PC_write at h
  refine lv_aload_n hx hb d_PC_write_0 rfl (lv_at hl 0 rfl) ?_
  refine st_get hx hb hg hown hK hH (f := 0) (i := 0) hd_0 rfl rfl u_PC 8 (by decide) (hg _ wd_363) (v := .ref (ad 30 0)) rfl d_PC_write_1 ?_
  refine st_get hx hb hg hown hK hH (f := 30) (i := 0) hd_30 rfl rfl u_Choice 3 (by decide) (hg _ wd_364) (v := .int (σ.1 30 0 3)) rfl d_PC_write_4 ?_
  refine lv_if_eq (tgt := 20) hx hb d_PC_write_7 (by decide) (fun c7 => ?_) (fun c7 => ?_)
  · have h := it h c7
    refine lv_bipush (v := (-103)) hx hb d_PC_write_20 (by decide) ?_
    cases h
    rw [← hQ0]
    exact W.iret hx hb hr (fun t ht hW => ⟨⟨_, (), rfl, rfl, by dsimp only; rw [ht]; exact hH⟩, hS.F ht⟩) hS.2.2 d_PC_write_22
  · have h := ie h c7
    refine lv_aload_n hx hb d_PC_write_10 rfl (lv_at hl 0 rfl) ?_
    refine st_get hx hb hg hown hK hH (f := 0) (i := 0) hd_0 rfl rfl u_PC 8 (by decide) (hg _ wd_363) (v := .ref (ad 30 0)) rfl d_PC_write_11 ?_
    obtain ⟨qc, hc14, h⟩ := b2_some h
    obtain ⟨σ1, x2⟩ := qc
    have h := b2_at h
    refine st_Vi (As := []) (rest := []) ⟨hx, hb, hml, hown, hg⟩ (c_Choice_canBeWritten l D aC A ad n _  _ hc14) (cwG hg wd_386 wd_387 wd_388 wd_389 wd_341 yd_Choice_canBeWritten ⟨Nat.le_of_ble_eq_true rfl, Nat.le_of_ble_eq_true rfl⟩) hK hH hS hZ hd_30 rfl rfl rfl hl.1 rfl (Nat.le_of_ble_eq_true rfl) d_PC_write_14 ⟨Nat.zero_le _, Nat.zero_le _⟩ (fun H locs hH hS => ?_)
    refine lv_if_ne (tgt := 23) hx hb d_PC_write_17 (by decide) (fun c17 => ?_) (fun c17 => ?_)
    · have h := ie h c17
      refine lv_aload_n hx hb d_PC_write_23 rfl (lv_at hl 0 rfl) ?_
      refine st_get hx hb hg hown hK hH (f := 0) (i := 0) hd_0 rfl rfl u_PC 3 (by decide) (hg _ wd_113) (v := .ref (ad 3 0)) rfl d_PC_write_24 ?_
      obtain ⟨qc, hc27, h⟩ := b1_some h
      obtain ⟨σ3, rfl⟩ : ∃ z, z = qc := ⟨_, rfl⟩
      have h := b1_at h
      refine st_Vv (As := []) (rest := []) ⟨hx, hb, hml, hown, hg⟩ (c_Stream_begin l D aC A ad n _  _ hc27) (cwG hg wd_227 wd_228 wd_229 wd_230 wd_119 yd_Stream_begin ⟨Nat.le_of_ble_eq_true rfl, Nat.le_of_ble_eq_true rfl⟩) hK hH hS hZ hd_3 rfl rfl rfl hl.1 rfl (Nat.le_of_ble_eq_true rfl) d_PC_write_27 ⟨Nat.zero_le _, Nat.zero_le _⟩ (fun H locs hH hS => ?_)
      refine lv_aload_n hx hb d_PC_write_30 rfl (lv_at hl 0 rfl) ?_
      refine st_get hx hb hg hown hK hH (f := 0) (i := 0) hd_0 rfl rfl u_PC 8 (by decide) (hg _ wd_363) (v := .ref (ad 30 0)) rfl d_PC_write_31 ?_
      refine lv_aload_n hx hb d_PC_write_34 rfl (lv_at hl 0 rfl) ?_
      refine st_get hx hb hg hown hK hH (f := 0) (i := 0) hd_0 rfl rfl u_PC 3 (by decide) (hg _ wd_113) (v := .ref (ad 3 0)) rfl d_PC_write_35 ?_
      obtain ⟨qc, hc38, h⟩ := b1_some h
      obtain ⟨σ4, rfl⟩ : ∃ z, z = qc := ⟨_, rfl⟩
      have h := b1_at h
      refine st_Vv (As := [.ref (ad 3 0)]) (rest := []) ⟨hx, hb, hml, hown, hg⟩ (c_Choice_append l D aC A ad n _  _ hc38) (cwG hg wd_390 wd_391 wd_392 wd_393 wd_341 yd_Choice_append ⟨Nat.le_of_ble_eq_true rfl, Nat.le_of_ble_eq_true rfl⟩) hK hH hS hZ hd_30 rfl rfl rfl hl.1 rfl (Nat.le_of_ble_eq_true rfl) d_PC_write_38 ⟨Nat.zero_le _, Nat.zero_le _⟩ (fun H locs hH hS => ?_)
      refine lv_aload_n hx hb d_PC_write_41 rfl (lv_at hl 0 rfl) ?_
      refine st_get hx hb hg hown hK hH (f := 0) (i := 0) hd_0 rfl rfl u_PC 3 (by decide) (hg _ wd_113) (v := .ref (ad 3 0)) rfl d_PC_write_42 ?_
      obtain ⟨qc, hc45, h⟩ := b2_some h
      obtain ⟨σ5, x6⟩ := qc
      have h := b2_at h
      refine st_Vi (As := []) (rest := []) ⟨hx, hb, hml, hown, hg⟩ (c_Stream_settle l D aC A ad n _  _ hc45) (cwG hg wd_235 wd_236 wd_237 wd_238 wd_119 yd_Stream_settle ⟨Nat.le_of_ble_eq_true rfl, Nat.le_of_ble_eq_true rfl⟩) hK hH hS hZ hd_3 rfl rfl rfl hl.1 rfl (Nat.le_of_ble_eq_true rfl) d_PC_write_45 ⟨Nat.zero_le _, Nat.zero_le _⟩ (fun H locs hH hS => ?_)
      cases h
      rw [← hQ0]
      exact W.iret hx hb hr (fun t ht hW => ⟨⟨_, (), rfl, rfl, by dsimp only; rw [ht]; exact hH⟩, hS.F ht⟩) hS.2.2 d_PC_write_48
    · have h := it h c17
      refine lv_bipush (v := (-103)) hx hb d_PC_write_20 (by decide) ?_
      cases h
      rw [← hQ0]
      exact W.iret hx hb hr (fun t ht hW => ⟨⟨_, (), rfl, rfl, by dsimp only; rw [ht]; exact hH⟩, hS.F ht⟩) hS.2.2 d_PC_write_22
set_option maxHeartbeats 4000000 in
set_option maxRecDepth 100000 in
theorem c_Reader_begin (l : Launch) (D : va_G) (aC : Nat → ClassId) (A : Nat → Prop) (ad : Nat → Nat → Nat) (n : Nat) (σ : St) (a1 : Int32) (o : St) (h : f_Reader_begin σ a1 = some o) : Met l y_Reader_begin w_Reader_begin rm_Reader_begin (va_Pc [.ref (ad 35 0), .int a1] (Pre D aC A ad n σ)) (va_Qv (fun (_ : Unit) => True) (fun _ t => Hold D aC A ad n o t.heap) A) 0 0 A := by
  refine Met.ofW (cc := prog_7_method_2_code) (maxL := 2) (ret := none) (by decide) rfl ?_
  intro p e s m args below meth c s₁ B hml hv
  obtain ⟨hargs, hH, hK, hZ⟩ := hv
  have hx := B.exec
  have hb := B.bytes
  have hr := B.returns
  have hts := atoms_spec (ws := w_Reader_begin) B.pre
  have hg : ∀ w ∈ gW, w.before args s = true := fun w h => hts w (List.mem_cons_of_mem _ h)
  have hown : s.vm.findClass "PrefixCodes$Reader" = some m.cls := findClass_of_methodNamed B.named
  have hlocks := B.notSynchronized
  have hS : va_S A s.heap s.heap [] := va_S.rf
  have hl := lv_entry ([.ref (ad 35 0), .int a1]) (n := 2) (Nat.le_of_ble_eq_true rfl)
  rw [show entryFrame m args 2 = entryFrame m (([.ref (ad 35 0), .int a1] : List Value).toArray) 2 by rw [hargs], lg_entry_eq]
  generalize (lg_sl ([.ref (ad 35 0), .int a1]) ++ List.replicate (2 - (lg_sl ([.ref (ad 35 0), .int a1])).length) Slot.unset).toArray = ls at hl ⊢
  have hl : lv_has ls 2 [(0, .ref (ad 35 0)), (1, .int a1)] := hl
  generalize hQ0 : MQ below (va_Qv (fun (_ : Unit) => True) (fun _ t => Hold D aC A ad n o t.heap) A) args s 0 0 A = Q0
  unfold f_Reader_begin at h
  refine lv_aload_n hx hb d_Reader_begin_0 rfl (lv_at hl 0 rfl) ?_
  refine st_get hx hb hg hown hK hH (f := 35) (i := 0) hd_35 rfl rfl u_Reader 2 (by decide) (hg _ wd_394) (v := .ref (ad 39 1)) rfl d_Reader_begin_1 ?_
  refine lv_iload_n hx hb d_Reader_begin_4 rfl (lv_at hl 1 rfl) ?_
  obtain ⟨qc, hc5, h⟩ := b1_some h
  obtain ⟨σ1, rfl⟩ : ∃ z, z = qc := ⟨_, rfl⟩
  have h := b1_at h
  refine st_Vv (As := [.int a1]) (rest := []) ⟨hx, hb, hml, hown, hg⟩ (c_Selectors_begin l D aC A ad n _ 1 a1 hd_39_1 _ hc5) (cwG hg wd_377 wd_395 wd_379 wd_380 wd_372 yd_Selectors_begin ⟨Nat.le_of_ble_eq_true rfl, Nat.le_of_ble_eq_true rfl⟩) hK hH hS hZ hd_39_1 rfl rfl rfl hl.1 rfl (Nat.le_of_ble_eq_true rfl) d_Reader_begin_5 ⟨Nat.zero_le _, Nat.zero_le _⟩ (fun H locs hH hS => ?_)
  cases h
  rw [← hQ0]
  exact W.vret hx hb hr (fun t ht hW => ⟨⟨(), rfl, trivial, by dsimp only; rw [ht]; exact hH⟩, hS.F ht⟩) hS.2.2 d_Reader_begin_8
set_option maxHeartbeats 4000000 in
set_option maxRecDepth 100000 in
theorem c_Selectors_remove (l : Launch) (D : va_G) (aC : Nat → ClassId) (A : Nat → Prop) (ad : Nat → Nat → Nat) (n : Nat) (σ : St) (iT : Nat) (hdT : dm n 39 iT) (o : St × Int32) (h : f_Selectors_remove σ iT = some o) : Met l y_Selectors_remove w_Selectors_remove rm_Selectors_remove (va_Pc [.ref (ad 39 iT), .ref (ad 3 0)] (Pre D aC A ad n σ)) (va_Qi (fun r (_ : Unit) => r = o.2) (fun _ t => Hold D aC A ad n o.1 t.heap) A) 0 0 A := by
  refine Met.ofW (cc := prog_8_method_4_code) (maxL := 4) (ret := (some .int)) (by decide) rfl ?_
  intro p e s m args below meth c s₁ B hml hv
  obtain ⟨hargs, hH, hK, hZ⟩ := hv
  have hx := B.exec
  have hb := B.bytes
  have hr := B.returns
  have hts := atoms_spec (ws := w_Selectors_remove) B.pre
  have hg : ∀ w ∈ gW, w.before args s = true := fun w h => hts w (List.mem_cons_of_mem _ h)
  have hown : s.vm.findClass "PrefixCodes$Selectors" = some m.cls := findClass_of_methodNamed B.named
  have hlocks := B.notSynchronized
  have hS : va_S A s.heap s.heap [] := va_S.rf
  have hl := lv_entry ([.ref (ad 39 iT), .ref (ad 3 0)]) (n := 4) (Nat.le_of_ble_eq_true rfl)
  rw [show entryFrame m args 4 = entryFrame m (([.ref (ad 39 iT), .ref (ad 3 0)] : List Value).toArray) 4 by rw [hargs], lg_entry_eq]
  generalize (lg_sl ([.ref (ad 39 iT), .ref (ad 3 0)]) ++ List.replicate (4 - (lg_sl ([.ref (ad 39 iT), .ref (ad 3 0)])).length) Slot.unset).toArray = ls at hl ⊢
  have hl : lv_has ls 4 [(0, .ref (ad 39 iT)), (1, .ref (ad 3 0))] := hl
  generalize hQ0 : MQ below (va_Qi (fun r (_ : Unit) => r = o.2) (fun _ t => Hold D aC A ad n o.1 t.heap) A) args s 0 0 A = Q0
  unfold f_Selectors_remove at h
  refine lv_iconst (v := 0) hx hb d_Selectors_remove_0 (by decide) ?_
  refine lv_istore_n (lv' := [(2, .int 0), (0, .ref (ad 39 iT)), (1, .ref (ad 3 0))]) hx hb d_Selectors_remove_1 rfl hl (by decide) rfl (fun ls hl => ?_)
  obtain ⟨q1, hq1, h⟩ := bs2_some h
  have K1 : ∀ (σ5 : St) (x6 : Int32) (H : Heap) (locs : List Loc) (ls : Array Slot), q1 = .inl (σ5, x6) → Hold D aC A ad n σ5 H → va_S A s.heap H locs → lv_has ls 4 [(0, .ref (ad 39 iT)), (1, .ref (ad 3 0)), (2, .int x6)] → W p l e (headSpec w_Selectors_remove rm_Selectors_remove).room s m args below meth c H locs 0 0 Q0 (F0 m 44 ls []) := by
    intro σ5 x6 H locs ls eq1 hH hS hl
    subst eq1
    have h := bs2_at h
    refine lv_bipush (v := (-105)) hx hb d_Selectors_remove_44 (by decide) ?_
    cases h
    rw [← hQ0]
    exact W.iret hx hb hr (fun t ht hW => ⟨⟨_, (), rfl, rfl, by dsimp only; rw [ht]; exact hH⟩, hS.F ht⟩) hS.2.2 d_Selectors_remove_46
  have loop1 : ∀ (k : Nat) (σ : St) (v2 : Int32) (H : Heap) (locs : List Loc) (ls : Array Slot), Hold D aC A ad n σ H → va_S A s.heap H locs → lv_has ls 4 [(0, .ref (ad 39 iT)), (1, .ref (ad 3 0)), (2, .int v2)] → lp (fun q => lb_Selectors_remove_2 iT q.1 q.2) k (σ, v2) = some q1 → W p l e (headSpec w_Selectors_remove rm_Selectors_remove).room s m args below meth c H locs 0 0 Q0 (F0 m 2 ls []) := by
    intro k
    induction k with
    | zero => intro σ v2 H locs ls hH hS hl hlp; exact absurd hlp (lp_zero _ _ _)
    | succ k ih1 =>
      intro σ v2 H locs ls hH hS hl hlp
      obtain ⟨z1, h1, hk1⟩ := lp_succ hlp
      have h1 : lb_Selectors_remove_2 iT σ v2 = some z1 := h1
      unfold lb_Selectors_remove_2 at h1
      refine lv_iload_n hx hb d_Selectors_remove_2 rfl (lv_at hl 2 rfl) ?_
      refine lv_aload_n hx hb d_Selectors_remove_3 rfl (lv_at hl 0 rfl) ?_
      refine st_get hx hb hg hown hK hH (f := 39) (i := iT) hdT rfl rfl u_Selectors 1 (by decide) (hg _ wd_367) (v := .int (σ.1 39 iT 1)) rfl d_Selectors_remove_4 ?_
      refine lv_icmp_ge (tgt := 44) hx hb d_Selectors_remove_7 (by decide) (fun c7 => ?_) (fun c7 => ?_)
      · have h1 := it h1 c7
        cases h1
        exact K1 σ v2 _ _ ls (Option.some.inj hk1).symm hH hS (lv_sub hl [0, 1, 2] rfl)
      · have h1 := ie h1 c7
        refine lv_aload_n hx hb d_Selectors_remove_10 rfl (lv_at hl 1 rfl) ?_
        obtain ⟨qc, hc11, h1⟩ := b2_some h1
        obtain ⟨σ1, x2⟩ := qc
        have h1 := b2_at h1
        refine st_Vi (As := []) (rest := []) ⟨hx, hb, hml, hown, hg⟩ (c_Stream_removeFirst l D aC A ad n _  _ hc11) (cwG hg wd_140 wd_396 wd_142 wd_143 wd_119 yd_Stream_removeFirst ⟨Nat.le_of_ble_eq_true rfl, Nat.le_of_ble_eq_true rfl⟩) hK hH hS hZ hd_3 rfl rfl rfl hl.1 rfl (Nat.le_of_ble_eq_true rfl) d_Selectors_remove_11 ⟨Nat.zero_le _, Nat.zero_le _⟩ (fun H locs hH hS => ?_)
        refine lv_istore_n (lv' := [(3, .int x2), (0, .ref (ad 39 iT)), (1, .ref (ad 3 0)), (2, .int v2)]) hx hb d_Selectors_remove_14 rfl hl (by decide) rfl (fun ls hl => ?_)
        refine lv_iload_n hx hb d_Selectors_remove_15 rfl (lv_at hl 0 rfl) ?_
        refine lv_if_ge (tgt := 22) hx hb d_Selectors_remove_16 (by decide) (fun c16 => ?_) (fun c16 => ?_)
        · have h1 := it h1 c16
          refine lv_iload_n hx hb d_Selectors_remove_22 rfl (lv_at hl 0 rfl) ?_
          refine lv_if_ne (tgt := 38) hx hb d_Selectors_remove_23 (by decide) (fun c23 => ?_) (fun c23 => ?_)
          · have h1 := ie h1 c23
            obtain ⟨x3, ex3⟩ : ∃ y : Int32, y = v2 + 1 := ⟨_, rfl⟩
            have h1 := nm_at ex3 h1
            refine lv_iinc (v := x3) (lv' := [(2, .int x3), (3, .int x2), (0, .ref (ad 39 iT)), (1, .ref (ad 3 0))]) hx hb d_Selectors_remove_38 hl (k := 3) rfl (by rw [ex3]; rfl) (by decide) rfl (fun ls hl => ?_)
            refine lv_goto (tgt := 2) hx hb d_Selectors_remove_41 (by decide) ?_
            cases h1
            exact ih1 σ1 x3 _ _ ls hH hS (lv_sub hl [2, 3, 0] rfl) hk1
          · have h1 := it h1 c23
            refine lv_aload_n hx hb d_Selectors_remove_26 rfl (lv_at hl 1 rfl) ?_
            refine lv_iload_n hx hb d_Selectors_remove_27 rfl (lv_at hl 3 rfl) ?_
            obtain ⟨qc, hc28, h1⟩ := b1_some h1
            obtain ⟨σ4, rfl⟩ : ∃ z, z = qc := ⟨_, rfl⟩
            have h1 := b1_at h1
            refine st_Vv (As := [.int v2]) (rest := []) ⟨hx, hb, hml, hown, hg⟩ (c_Selectors_moveAhead l D aC A ad n _ iT v2 hdT _ hc28) (cwG hg wd_370 wd_371 wd_373 wd_374 wd_372 yd_Selectors_moveAhead ⟨Nat.le_of_ble_eq_true rfl, Nat.le_of_ble_eq_true rfl⟩) hK hH hS hZ hdT rfl rfl rfl hl.1 rfl (Nat.le_of_ble_eq_true rfl) d_Selectors_remove_28 ⟨Nat.zero_le _, Nat.zero_le _⟩ (fun H locs hH hS => ?_)
            refine lv_aload_n hx hb d_Selectors_remove_31 rfl (lv_at hl 1 rfl) ?_
            refine st_get hx hb hg hown hK hH (f := 39) (i := iT) hdT rfl rfl u_Selectors 0 (by decide) (hg _ wd_368) (v := .ref (ad 40 iT)) rfl d_Selectors_remove_32 ?_
            refine lv_iconst (v := 0) hx hb d_Selectors_remove_35 (by decide) ?_
            obtain ⟨g36, h1⟩ := gd_some h1
            refine st_iald hx hb hK hH (f := 40) (i := iT) hdT rfl g36 d_Selectors_remove_36 ?_
            cases h1
            have hk1 := Option.some.inj hk1
            subst hk1
            have h := bs2_r h
            cases h
            rw [← hQ0]
            exact W.iret hx hb hr (fun t ht hW => ⟨⟨_, (), rfl, rfl, by dsimp only; rw [ht]; exact hH⟩, hS.F ht⟩) hS.2.2 d_Selectors_remove_37
        · have h1 := ie h1 c16
          refine lv_bipush (v := (-104)) hx hb d_Selectors_remove_19 (by decide) ?_
          cases h1
          have hk1 := Option.some.inj hk1
          subst hk1
          have h := bs2_r h
          cases h
          rw [← hQ0]
          exact W.iret hx hb hr (fun t ht hW => ⟨⟨_, (), rfl, rfl, by dsimp only; rw [ht]; exact hH⟩, hS.F ht⟩) hS.2.2 d_Selectors_remove_21
  obtain ⟨k1, hq1⟩ := lpE_some hq1
  exact loop1 k1 σ 0 _ _ ls hH hS (lv_sub hl [1, 2, 0] rfl) hq1
set_option maxHeartbeats 4000000 in
set_option maxRecDepth 100000 in
theorem c_Reader_remove (l : Launch) (D : va_G) (aC : Nat → ClassId) (A : Nat → Prop) (ad : Nat → Nat → Nat) (n : Nat) (σ : St) (a1 : Int32) (a2 : Int32) (o : St × Int32) (h : f_Reader_remove σ a1 a2 = some o) : Met l y_Reader_remove w_Reader_remove rm_Reader_remove (va_Pc [.ref (ad 35 0), .int a1, .int a2] (Pre D aC A ad n σ)) (va_Qi (fun r (_ : Unit) => r = o.2) (fun _ t => Hold D aC A ad n o.1 t.heap) A) 0 0 A := by
  refine Met.ofW (cc := prog_7_method_3_code) (maxL := 7) (ret := (some .int)) (by decide) rfl ?_
  intro p e s m args below meth c s₁ B hml hv
  obtain ⟨hargs, hH, hK, hZ⟩ := hv
  have hx := B.exec
  have hb := B.bytes
  have hr := B.returns
  have hts := atoms_spec (ws := w_Reader_remove) B.pre
  have hg : ∀ w ∈ gW, w.before args s = true := fun w h => hts w (List.mem_cons_of_mem _ h)
  have hown : s.vm.findClass "PrefixCodes$Reader" = some m.cls := findClass_of_methodNamed B.named
  have hlocks := B.notSynchronized
  have hS : va_S A s.heap s.heap [] := va_S.rf
  have hl := lv_entry ([.ref (ad 35 0), .int a1, .int a2]) (n := 7) (Nat.le_of_ble_eq_true rfl)
  rw [show entryFrame m args 7 = entryFrame m (([.ref (ad 35 0), .int a1, .int a2] : List Value).toArray) 7 by rw [hargs], lg_entry_eq]
  generalize (lg_sl ([.ref (ad 35 0), .int a1, .int a2]) ++ List.replicate (7 - (lg_sl ([.ref (ad 35 0), .int a1, .int a2])).length) Slot.unset).toArray = ls at hl ⊢
  have hl : lv_has ls 7 [(0, .ref (ad 35 0)), (1, .int a1), (2, .int a2)] := hl
  generalize hQ0 : MQ below (va_Qi (fun r (_ : Unit) => r = o.2) (fun _ t => Hold D aC A ad n o.1 t.heap) A) args s 0 0 A = Q0
  unfold f_Reader_remove at h
  refine lv_iload_n hx hb d_Reader_remove_0 rfl (lv_at hl 2 rfl) ?_
  refine lv_iload_n hx hb d_Reader_remove_1 rfl (lv_at hl 1 rfl) ?_
  refine lv_iadd hx hb d_Reader_remove_2 ?_
  refine lv_iconst (v := 1) hx hb d_Reader_remove_3 (by decide) ?_
  refine lv_isub hx hb d_Reader_remove_4 ?_
  refine lv_iload_n hx hb d_Reader_remove_5 rfl (lv_at hl 1 rfl) ?_
  obtain ⟨g6, h⟩ := gd_some h
  refine lv_idiv hx hb d_Reader_remove_6 g6 ?_
  refine lv_topi (fun x1 ex1 => ?_)
  have h := nm_at ex1 h
  refine lv_istore_n (lv' := [(3, .int x1), (0, .ref (ad 35 0)), (1, .int a1), (2, .int a2)]) hx hb d_Reader_remove_7 rfl hl (by decide) rfl (fun ls hl => ?_)
  refine lv_iconst (v := 0) hx hb d_Reader_remove_8 (by decide) ?_
  refine lv_istore (lv' := [(4, .int 0), (3, .int x1), (0, .ref (ad 35 0)), (1, .int a1), (2, .int a2)]) hx hb d_Reader_remove_9 hl (by decide) rfl (fun ls hl => ?_)
  obtain ⟨q1, hq1, h⟩ := bs2_some h
  have K1 : ∀ (σ6 : St) (x7 : Int32) (H : Heap) (locs : List Loc) (ls : Array Slot), q1 = .inl (σ6, x7) → Hold D aC A ad n σ6 H → va_S A s.heap H locs → lv_has ls 7 [(0, .ref (ad 35 0)), (1, .int a1), (2, .int a2), (3, .int x1), (4, .int x7)] → W p l e (headSpec w_Reader_remove rm_Reader_remove).room s m args below meth c H locs 0 0 Q0 (F0 m 53 ls []) := by
    intro σ6 x7 H locs ls eq1 hH hS hl
    subst eq1
    have h := bs2_at h
    refine lv_iconst (v := 0) hx hb d_Reader_remove_53 (by decide) ?_
    refine lv_istore (lv' := [(4, .int 0), (0, .ref (ad 35 0)), (1, .int a1), (2, .int a2), (3, .int x1)]) hx hb d_Reader_remove_54 hl (by decide) rfl (fun ls hl => ?_)
    obtain ⟨q1, hq1, h⟩ := bs2_some h
    have K1 : ∀ (σ13 : St) (x14 : Int32) (H : Heap) (locs : List Loc) (ls : Array Slot), q1 = .inl (σ13, x14) → Hold D aC A ad n σ13 H → va_S A s.heap H locs → lv_has ls 7 [(0, .ref (ad 35 0)), (1, .int a1), (2, .int a2), (4, .int x14)] → W p l e (headSpec w_Reader_remove rm_Reader_remove).room s m args below meth c H locs 0 0 Q0 (F0 m 123 ls []) := by
      intro σ13 x14 H locs ls eq1 hH hS hl
      subst eq1
      have h := bs2_at h
      refine lv_iload_n hx hb d_Reader_remove_123 rfl (lv_at hl 2 rfl) ?_
      cases h
      rw [← hQ0]
      exact W.iret hx hb hr (fun t ht hW => ⟨⟨_, (), rfl, rfl, by dsimp only; rw [ht]; exact hH⟩, hS.F ht⟩) hS.2.2 d_Reader_remove_124
    have loop1 : ∀ (k : Nat) (σ : St) (v4 : Int32) (H : Heap) (locs : List Loc) (ls : Array Slot), Hold D aC A ad n σ H → va_S A s.heap H locs → lv_has ls 7 [(0, .ref (ad 35 0)), (1, .int a1), (2, .int a2), (4, .int v4)] → lp (fun q => lb_Reader_remove_56 a1 a2 q.1 q.2) k (σ, v4) = some q1 → W p l e (headSpec w_Reader_remove rm_Reader_remove).room s m args below meth c H locs 0 0 Q0 (F0 m 56 ls []) := by
      intro k
      induction k with
      | zero => intro σ v4 H locs ls hH hS hl hlp; exact absurd hlp (lp_zero _ _ _)
      | succ k ih1 =>
        intro σ v4 H locs ls hH hS hl hlp
        obtain ⟨z1, h1, hk1⟩ := lp_succ hlp
        have h1 : lb_Reader_remove_56 a1 a2 σ v4 = some z1 := h1
        unfold lb_Reader_remove_56 at h1
        refine lv_iload hx hb d_Reader_remove_56 (lv_at hl 3 rfl) ?_
        refine lv_iload_n hx hb d_Reader_remove_58 rfl (lv_at hl 2 rfl) ?_
        refine lv_icmp_ge (tgt := 123) hx hb d_Reader_remove_59 (by decide) (fun c59 => ?_) (fun c59 => ?_)
        · have h1 := it h1 c59
          cases h1
          exact K1 σ v4 _ _ ls (Option.some.inj hk1).symm hH hS (lv_sub hl [0, 1, 2, 3] rfl)
        · have h1 := ie h1 c59
          refine lv_aload_n hx hb d_Reader_remove_62 rfl (lv_at hl 0 rfl) ?_
          refine st_get hx hb hg hown hK hH (f := 35) (i := 0) hd_35 rfl rfl u_Reader 1 (by decide) (hg _ wd_399) (v := .ref (ad 36 0)) rfl d_Reader_remove_63 ?_
          refine lv_aload_n hx hb d_Reader_remove_66 rfl (lv_at hl 0 rfl) ?_
          refine st_get hx hb hg hown hK hH (f := 35) (i := 0) hd_35 rfl rfl u_Reader 3 (by decide) (hg _ wd_398) (v := .ref (ad 37 0)) rfl d_Reader_remove_67 ?_
          refine lv_iload hx hb d_Reader_remove_70 (lv_at hl 3 rfl) ?_
          refine lv_iload_n hx hb d_Reader_remove_72 rfl (lv_at hl 1 rfl) ?_
          obtain ⟨g73, h1⟩ := gd_some h1
          refine lv_idiv hx hb d_Reader_remove_73 g73 ?_
          obtain ⟨g74, h1⟩ := gd_some h1
          refine st_iald hx hb hK hH (f := 37) (i := 0) hd_37 rfl g74 d_Reader_remove_74 ?_
          obtain ⟨g75, h1⟩ := gd_some h1
          obtain ⟨j8, c75, h1⟩ := on_some h1
          refine st_aald hx hb hK hH (f := 36) (i := 0) hd_36 rfl (by decide) g75 d_Reader_remove_75 c75 (fun hdj8 => ?_)
          refine lv_astore (lv' := [(5, .ref (ad 41 j8)), (0, .ref (ad 35 0)), (1, .int a1), (2, .int a2), (4, .int v4)]) hx hb d_Reader_remove_76 hl (by decide) rfl (fun ls hl => ?_)
          refine lv_aload hx hb d_Reader_remove_78 (lv_at hl 0 rfl) ?_
          refine lv_ifnonnull (tgt := 88) hx hb d_Reader_remove_80 (by decide) ?_
          refine lv_aload hx hb d_Reader_remove_88 (lv_at hl 0 rfl) ?_
          refine lv_aload_n hx hb d_Reader_remove_90 rfl (lv_at hl 1 rfl) ?_
          refine st_get hx hb hg hown hK hH (f := 35) (i := 0) hd_35 rfl rfl u_Reader 0 (by decide) (hg _ wd_397) (v := .ref (ad 3 0)) rfl d_Reader_remove_91 ?_
          refine lv_iconst (v := 0) hx hb d_Reader_remove_94 (by decide) ?_
          obtain ⟨qc, hc95, h1⟩ := b2_some h1
          obtain ⟨σ9, x10⟩ := qc
          have h1 := b2_at h1
          refine st_Vi (As := [.ref (ad 3 0), .int 0]) (rest := []) ⟨hx, hb, hml, hown, hg⟩ (c_Code_removeSymbol l D aC A ad n _ j8 0 hdj8 _ hc95) (cwG hg wd_161 wd_401 wd_163 wd_164 wd_29 yd_Code_removeSymbol ⟨Nat.le_of_ble_eq_true rfl, Nat.le_of_ble_eq_true rfl⟩) hK hH hS hZ hdj8 rfl rfl rfl hl.1 rfl (Nat.le_of_ble_eq_true rfl) d_Reader_remove_95 ⟨Nat.zero_le _, Nat.zero_le _⟩ (fun H locs hH hS => ?_)
          refine lv_istore (lv' := [(6, .int x10), (5, .ref (ad 41 j8)), (0, .ref (ad 35 0)), (1, .int a1), (2, .int a2), (4, .int v4)]) hx hb d_Reader_remove_98 hl (by decide) rfl (fun ls hl => ?_)
          refine lv_iload hx hb d_Reader_remove_100 (lv_at hl 0 rfl) ?_
          refine lv_if_ge (tgt := 108) hx hb d_Reader_remove_102 (by decide) (fun c102 => ?_) (fun c102 => ?_)
          · have h1 := it h1 c102
            refine lv_aload_n hx hb d_Reader_remove_108 rfl (lv_at hl 2 rfl) ?_
            refine st_get hx hb hg hown hK hH (f := 35) (i := 0) hd_35 rfl rfl u_Reader 4 (by decide) (hg _ wd_400) (v := .ref (ad 38 0)) rfl d_Reader_remove_109 ?_
            refine lv_iload hx hb d_Reader_remove_112 (lv_at hl 5 rfl) ?_
            refine lv_iload hx hb d_Reader_remove_114 (lv_at hl 0 rfl) ?_
            obtain ⟨g116, h1⟩ := gd_some h1
            refine st_iast hx hb hK hH hS (f := 38) (i := 0) hd_38 rfl g116 d_Reader_remove_116 (fun σ11 H locs eσ11 hH hS => ?_)
            have h1 := nm_at eσ11 h1
            obtain ⟨x12, ex12⟩ : ∃ y : Int32, y = v4 + 1 := ⟨_, rfl⟩
            have h1 := nm_at ex12 h1
            refine lv_iinc (v := x12) (lv' := [(4, .int x12), (6, .int x10), (5, .ref (ad 41 j8)), (0, .ref (ad 35 0)), (1, .int a1), (2, .int a2)]) hx hb d_Reader_remove_117 hl (k := 5) rfl (by rw [ex12]; rfl) (by decide) rfl (fun ls hl => ?_)
            refine lv_goto (tgt := 56) hx hb d_Reader_remove_120 (by decide) ?_
            cases h1
            exact ih1 σ11 x12 _ _ ls hH hS (lv_sub hl [3, 4, 5, 0] rfl) hk1
          · have h1 := ie h1 c102
            refine lv_iload hx hb d_Reader_remove_105 (lv_at hl 0 rfl) ?_
            cases h1
            have hk1 := Option.some.inj hk1
            subst hk1
            have h := bs2_r h
            cases h
            rw [← hQ0]
            exact W.iret hx hb hr (fun t ht hW => ⟨⟨_, (), rfl, rfl, by dsimp only; rw [ht]; exact hH⟩, hS.F ht⟩) hS.2.2 d_Reader_remove_107
    obtain ⟨k1, hq1⟩ := lpE_some hq1
    exact loop1 k1 σ6 0 _ _ ls hH hS (lv_sub hl [1, 2, 3, 0] rfl) hq1
  have loop1 : ∀ (k : Nat) (σ : St) (v4 : Int32) (H : Heap) (locs : List Loc) (ls : Array Slot), Hold D aC A ad n σ H → va_S A s.heap H locs → lv_has ls 7 [(0, .ref (ad 35 0)), (1, .int a1), (2, .int a2), (3, .int x1), (4, .int v4)] → lp (fun q => lb_Reader_remove_11 a1 a2 x1 q.1 q.2) k (σ, v4) = some q1 → W p l e (headSpec w_Reader_remove rm_Reader_remove).room s m args below meth c H locs 0 0 Q0 (F0 m 11 ls []) := by
    intro k
    induction k with
    | zero => intro σ v4 H locs ls hH hS hl hlp; exact absurd hlp (lp_zero _ _ _)
    | succ k ih1 =>
      intro σ v4 H locs ls hH hS hl hlp
      obtain ⟨z1, h1, hk1⟩ := lp_succ hlp
      have h1 : lb_Reader_remove_11 a1 a2 x1 σ v4 = some z1 := h1
      unfold lb_Reader_remove_11 at h1
      refine lv_iload hx hb d_Reader_remove_11 (lv_at hl 4 rfl) ?_
      refine lv_iload_n hx hb d_Reader_remove_13 rfl (lv_at hl 3 rfl) ?_
      refine lv_icmp_ge (tgt := 53) hx hb d_Reader_remove_14 (by decide) (fun c14 => ?_) (fun c14 => ?_)
      · have h1 := it h1 c14
        cases h1
        exact K1 σ v4 _ _ ls (Option.some.inj hk1).symm hH hS (lv_sub hl [0, 1, 2, 3, 4] rfl)
      · have h1 := ie h1 c14
        refine lv_aload_n hx hb d_Reader_remove_17 rfl (lv_at hl 0 rfl) ?_
        refine st_get hx hb hg hown hK hH (f := 35) (i := 0) hd_35 rfl rfl u_Reader 2 (by decide) (hg _ wd_394) (v := .ref (ad 39 1)) rfl d_Reader_remove_18 ?_
        refine lv_aload_n hx hb d_Reader_remove_21 rfl (lv_at hl 0 rfl) ?_
        refine st_get hx hb hg hown hK hH (f := 35) (i := 0) hd_35 rfl rfl u_Reader 0 (by decide) (hg _ wd_397) (v := .ref (ad 3 0)) rfl d_Reader_remove_22 ?_
        obtain ⟨qc, hc25, h1⟩ := b2_some h1
        obtain ⟨σ2, x3⟩ := qc
        have h1 := b2_at h1
        refine st_Vi (As := [.ref (ad 3 0)]) (rest := []) ⟨hx, hb, hml, hown, hg⟩ (c_Selectors_remove l D aC A ad n _ 1 hd_39_1 _ hc25) (cwG hg wd_402 wd_403 wd_404 wd_405 wd_372 yd_Selectors_remove ⟨Nat.le_of_ble_eq_true rfl, Nat.le_of_ble_eq_true rfl⟩) hK hH hS hZ hd_39_1 rfl rfl rfl hl.1 rfl (Nat.le_of_ble_eq_true rfl) d_Reader_remove_25 ⟨Nat.zero_le _, Nat.zero_le _⟩ (fun H locs hH hS => ?_)
        refine lv_istore (lv' := [(5, .int x3), (0, .ref (ad 35 0)), (1, .int a1), (2, .int a2), (3, .int x1), (4, .int v4)]) hx hb d_Reader_remove_28 hl (by decide) rfl (fun ls hl => ?_)
        refine lv_iload hx hb d_Reader_remove_30 (lv_at hl 0 rfl) ?_
        refine lv_if_ge (tgt := 38) hx hb d_Reader_remove_32 (by decide) (fun c32 => ?_) (fun c32 => ?_)
        · have h1 := it h1 c32
          refine lv_aload_n hx hb d_Reader_remove_38 rfl (lv_at hl 1 rfl) ?_
          refine st_get hx hb hg hown hK hH (f := 35) (i := 0) hd_35 rfl rfl u_Reader 3 (by decide) (hg _ wd_398) (v := .ref (ad 37 0)) rfl d_Reader_remove_39 ?_
          refine lv_iload hx hb d_Reader_remove_42 (lv_at hl 5 rfl) ?_
          refine lv_iload hx hb d_Reader_remove_44 (lv_at hl 0 rfl) ?_
          obtain ⟨g46, h1⟩ := gd_some h1
          refine st_iast hx hb hK hH hS (f := 37) (i := 0) hd_37 rfl g46 d_Reader_remove_46 (fun σ4 H locs eσ4 hH hS => ?_)
          have h1 := nm_at eσ4 h1
          obtain ⟨x5, ex5⟩ : ∃ y : Int32, y = v4 + 1 := ⟨_, rfl⟩
          have h1 := nm_at ex5 h1
          refine lv_iinc (v := x5) (lv' := [(4, .int x5), (5, .int x3), (0, .ref (ad 35 0)), (1, .int a1), (2, .int a2), (3, .int x1)]) hx hb d_Reader_remove_47 hl (k := 5) rfl (by rw [ex5]; rfl) (by decide) rfl (fun ls hl => ?_)
          refine lv_goto (tgt := 11) hx hb d_Reader_remove_50 (by decide) ?_
          cases h1
          exact ih1 σ4 x5 _ _ ls hH hS (lv_sub hl [2, 3, 4, 5, 0] rfl) hk1
        · have h1 := ie h1 c32
          refine lv_iload hx hb d_Reader_remove_35 (lv_at hl 0 rfl) ?_
          cases h1
          have hk1 := Option.some.inj hk1
          subst hk1
          have h := bs2_r h
          cases h
          rw [← hQ0]
          exact W.iret hx hb hr (fun t ht hW => ⟨⟨_, (), rfl, rfl, by dsimp only; rw [ht]; exact hH⟩, hS.F ht⟩) hS.2.2 d_Reader_remove_37
  obtain ⟨k1, hq1⟩ := lpE_some hq1
  exact loop1 k1 σ 0 _ _ ls hH hS (lv_sub hl [2, 3, 4, 1, 0] rfl) hq1
set_option maxHeartbeats 4000000 in
set_option maxRecDepth 100000 in
theorem c_Text_become (l : Launch) (D : va_G) (aC : Nat → ClassId) (A : Nat → Prop) (ad : Nat → Nat → Nat) (n : Nat) (σ : St) (fa1 ia1 na1 : Nat) (a2 : Int32) (hka1 : kd fa1 = .inr (0, na1)) (hda1 : dm n fa1 ia1) (o : St) (h : f_Text_become σ fa1 ia1 na1 a2 = some o) : Met l y_Text_become w_Text_become rm_Text_become (va_Pc [.ref (ad 26 0), .ref (ad fa1 ia1), .int a2] (Pre D aC A ad n σ)) (va_Qv (fun (_ : Unit) => True) (fun _ t => Hold D aC A ad n o t.heap) A) 0 0 A := by
  refine Met.ofW (cc := prog_11_method_3_code) (maxL := 3) (ret := none) (by decide) rfl ?_
  intro p e s m args below meth c s₁ B hml hv
  obtain ⟨hargs, hH, hK, hZ⟩ := hv
  have hx := B.exec
  have hb := B.bytes
  have hr := B.returns
  have hts := atoms_spec (ws := w_Text_become) B.pre
  have hg : ∀ w ∈ gW, w.before args s = true := fun w h => hts w (List.mem_cons_of_mem _ h)
  have hown : s.vm.findClass "PrefixCodes$Text" = some m.cls := findClass_of_methodNamed B.named
  have hlocks := B.notSynchronized
  have hS : va_S A s.heap s.heap [] := va_S.rf
  have hl := lv_entry ([.ref (ad 26 0), .ref (ad fa1 ia1), .int a2]) (n := 3) (Nat.le_of_ble_eq_true rfl)
  rw [show entryFrame m args 3 = entryFrame m (([.ref (ad 26 0), .ref (ad fa1 ia1), .int a2] : List Value).toArray) 3 by rw [hargs], lg_entry_eq]
  generalize (lg_sl ([.ref (ad 26 0), .ref (ad fa1 ia1), .int a2]) ++ List.replicate (3 - (lg_sl ([.ref (ad 26 0), .ref (ad fa1 ia1), .int a2])).length) Slot.unset).toArray = ls at hl ⊢
  have hl : lv_has ls 3 [(0, .ref (ad 26 0)), (1, .ref (ad fa1 ia1)), (2, .int a2)] := hl
  generalize hQ0 : MQ below (va_Qv (fun (_ : Unit) => True) (fun _ t => Hold D aC A ad n o t.heap) A) args s 0 0 A = Q0
  unfold f_Text_become at h
  refine lv_aload_n hx hb d_Text_become_0 rfl (lv_at hl 1 rfl) ?_
  refine lv_iconst (v := 0) hx hb d_Text_become_1 (by decide) ?_
  refine lv_aload_n hx hb d_Text_become_2 rfl (lv_at hl 0 rfl) ?_
  refine st_get hx hb hg hown hK hH (f := 26) (i := 0) hd_26 rfl rfl u_Text 0 (by decide) (hg _ wd_69) (v := .ref (ad 27 0)) rfl d_Text_become_3 ?_
  refine lv_iconst (v := 0) hx hb d_Text_become_6 (by decide) ?_
  refine lv_iload_n hx hb d_Text_become_7 rfl (lv_at hl 2 rfl) ?_
  obtain ⟨g8, h⟩ := gd_some h
  refine st_copy hx hb (hml.trans hl.1.symm) hown (hg _ wd_315) (hg _ wd_316) (hg _ wd_317) (hg _ wd_318) hK hH hS hda1 hka1 hd_27 rfl g8 (Nat.le_of_ble_eq_true rfl) (Nat.le_of_ble_eq_true rfl) d_Text_become_8 (fun σ1 H locs eσ1 hH hS => ?_)
  have h := nm_at eσ1 h
  refine lv_aload_n hx hb d_Text_become_11 rfl (lv_at hl 0 rfl) ?_
  refine lv_iload_n hx hb d_Text_become_12 rfl (lv_at hl 2 rfl) ?_
  refine st_put hx hb hg hown hK hH hS (f := 26) (i := 0) hd_26 rfl rfl u_Text t_Text t_Text_ok n_Text 1 (by decide) (hg _ wd_68) rfl rfl rfl d_Text_become_13 (fun σ2 H locs eσ2 hH hS => ?_)
  have h := nm_at eσ2 h
  cases h
  rw [← hQ0]
  exact W.vret hx hb hr (fun t ht hW => ⟨⟨(), rfl, trivial, by dsimp only; rw [ht]; exact hH⟩, hS.F ht⟩) hS.2.2 d_Text_become_16
set_option maxHeartbeats 4000000 in
set_option maxRecDepth 100000 in
theorem c_PC_read (l : Launch) (D : va_G) (aC : Nat → ClassId) (A : Nat → Prop) (ad : Nat → Nat → Nat) (n : Nat) (σ : St) (a1 : Int32) (a2 : Int32) (a3 : Int32) (a4 : Int32) (o : St × Int32) (h : f_PC_read σ a1 a2 a3 a4 = some o) : Met l y_PC_read w_PC_read rm_PC_read (va_Pc [.ref (ad 0 0), .int a1, .int a2, .int a3, .int a4] (Pre D aC A ad n σ)) (va_Qi (fun r (_ : Unit) => r = o.2) (fun _ t => Hold D aC A ad n o.1 t.heap) A) 0 0 A := by
  refine Met.ofW (cc := prog_1_method_26_code) (maxL := 7) (ret := (some .int)) (by decide) rfl ?_
  intro p e s m args below meth c s₁ B hml hv
  obtain ⟨hargs, hH, hK, hZ⟩ := hv
  have hx := B.exec
  have hb := B.bytes
  have hr := B.returns
  have hts := atoms_spec (ws := w_PC_read) B.pre
  have hg : ∀ w ∈ gW, w.before args s = true := fun w h => hts w (List.mem_cons_of_mem _ h)
  have hown : s.vm.findClass "PrefixCodes" = some m.cls := findClass_of_methodNamed B.named
  have hlocks := B.notSynchronized
  have hS : va_S A s.heap s.heap [] := va_S.rf
  have hl := lv_entry ([.ref (ad 0 0), .int a1, .int a2, .int a3, .int a4]) (n := 7) (Nat.le_of_ble_eq_true rfl)
  rw [show entryFrame m args 7 = entryFrame m (([.ref (ad 0 0), .int a1, .int a2, .int a3, .int a4] : List Value).toArray) 7 by rw [hargs], lg_entry_eq]
  generalize (lg_sl ([.ref (ad 0 0), .int a1, .int a2, .int a3, .int a4]) ++ List.replicate (7 - (lg_sl ([.ref (ad 0 0), .int a1, .int a2, .int a3, .int a4])).length) Slot.unset).toArray = ls at hl ⊢
  have hl : lv_has ls 7 [(0, .ref (ad 0 0)), (1, .int a1), (2, .int a2), (3, .int a3), (4, .int a4)] := hl
  generalize hQ0 : MQ below (va_Qi (fun r (_ : Unit) => r = o.2) (fun _ t => Hold D aC A ad n o.1 t.heap) A) args s 0 0 A = Q0
  unfold f_PC_read at h
  refine lv_aload_n hx hb d_PC_read_0 rfl (lv_at hl 0 rfl) ?_
  refine lv_iload_n hx hb d_PC_read_1 rfl (lv_at hl 1 rfl) ?_
  obtain ⟨qc, hc2, h⟩ := b2_some h
  obtain ⟨σ1, o2⟩ := qc
  have h := b2_at h
  refine st_Vq (As := [.int a1]) (rest := []) ⟨hx, hb, hml, hown, hg⟩ (c_PC_codeAt l D aC A ad n _ a1 _ hc2) (cwG hg wd_7 wd_8 wd_9 wd_10 wd_4 yd_PC_codeAt ⟨Nat.le_of_ble_eq_true rfl, Nat.le_of_ble_eq_true rfl⟩) hK hH hS hZ hd_0 rfl rfl rfl hl.1 rfl (Nat.le_of_ble_eq_true rfl) d_PC_read_2 ⟨Nat.zero_le _, Nat.zero_le _⟩ (fun c2 H locs hH hS => ?_) (fun j3 c2 hdj3 H locs hH hS => ?_)
  · have h := on_n h c2
    refine lv_ifnullN (tgt := 18) hx hb d_PC_read_5 (by decide) ?_
    refine lv_bipush (v := (-101)) hx hb d_PC_read_18 (by decide) ?_
    cases h
    rw [← hQ0]
    exact W.iret hx hb hr (fun t ht hW => ⟨⟨_, (), rfl, rfl, by dsimp only; rw [ht]; exact hH⟩, hS.F ht⟩) hS.2.2 d_PC_read_20
  · have h := on_s h c2
    refine lv_ifnull hx hb d_PC_read_5 ?_
    refine lv_iload_n hx hb d_PC_read_8 rfl (lv_at hl 2 rfl) ?_
    refine lv_aload_n hx hb d_PC_read_9 rfl (lv_at hl 0 rfl) ?_
    refine st_get hx hb hg hown hK hH (f := 0) (i := 0) hd_0 rfl rfl u_PC 1 (by decide) (hg _ wd_0) (v := .int (σ1.1 0 0 1)) rfl d_PC_read_10 ?_
    refine lv_iload_n hx hb d_PC_read_13 rfl (lv_at hl 1 rfl) ?_
    refine lv_isub hx hb d_PC_read_14 ?_
    refine lv_icmp_le (tgt := 21) hx hb d_PC_read_15 (by decide) (fun c15 => ?_) (fun c15 => ?_)
    · have h := it h c15
      refine lv_iload_n hx hb d_PC_read_21 rfl (lv_at hl 2 rfl) ?_
      refine lv_iconst (v := 1) hx hb d_PC_read_22 (by decide) ?_
      refine lv_bipush (v := 6) hx hb d_PC_read_23 (by decide) ?_
      obtain ⟨qc, hc25, h⟩ := b2_some h
      obtain ⟨σ4, x5⟩ := qc
      have h := b2_at h
      refine st_Si (As := [.int a2, .int 1, .int 6]) (rest := []) ⟨hx, hb, hml, hown, hg⟩ (c_PC_isOutside l D aC A ad n _ a2 1 6 _ hc25) (cwGS hg wd_2 wd_3 wd_5 wd_4 yd_PC_isOutside ⟨Nat.le_of_ble_eq_true rfl, Nat.le_of_ble_eq_true rfl⟩) hK hH hS hZ rfl hl.1 rfl (Nat.le_of_ble_eq_true rfl) d_PC_read_25 ⟨Nat.zero_le _, Nat.zero_le _⟩ (fun H locs hH hS => ?_)
      refine lv_if_ne (tgt := 53) hx hb d_PC_read_28 (by decide) (fun c28 => ?_) (fun c28 => ?_)
      · have h := ie h c28
        refine lv_bipush (v := (-102)) hx hb d_PC_read_53 (by decide) ?_
        cases h
        rw [← hQ0]
        exact W.iret hx hb hr (fun t ht hW => ⟨⟨_, (), rfl, rfl, by dsimp only; rw [ht]; exact hH⟩, hS.F ht⟩) hS.2.2 d_PC_read_55
      · have h := it h c28
        refine lv_iload_n hx hb d_PC_read_31 rfl (lv_at hl 3 rfl) ?_
        refine lv_iconst (v := 1) hx hb d_PC_read_32 (by decide) ?_
        refine lv_bipush (v := 100) hx hb d_PC_read_33 (by decide) ?_
        obtain ⟨qc, hc35, h⟩ := b2_some h
        obtain ⟨σ6, x7⟩ := qc
        have h := b2_at h
        refine st_Si (As := [.int a3, .int 1, .int 100]) (rest := []) ⟨hx, hb, hml, hown, hg⟩ (c_PC_isOutside l D aC A ad n _ a3 1 100 _ hc35) (cwGS hg wd_2 wd_3 wd_5 wd_4 yd_PC_isOutside ⟨Nat.le_of_ble_eq_true rfl, Nat.le_of_ble_eq_true rfl⟩) hK hH hS hZ rfl hl.1 rfl (Nat.le_of_ble_eq_true rfl) d_PC_read_35 ⟨Nat.zero_le _, Nat.zero_le _⟩ (fun H locs hH hS => ?_)
        refine lv_if_ne (tgt := 53) hx hb d_PC_read_38 (by decide) (fun c38 => ?_) (fun c38 => ?_)
        · have h := ie h c38
          refine lv_bipush (v := (-102)) hx hb d_PC_read_53 (by decide) ?_
          cases h
          rw [← hQ0]
          exact W.iret hx hb hr (fun t ht hW => ⟨⟨_, (), rfl, rfl, by dsimp only; rw [ht]; exact hH⟩, hS.F ht⟩) hS.2.2 d_PC_read_55
        · have h := it h c38
          refine lv_iload hx hb d_PC_read_41 (lv_at hl 4 rfl) ?_
          refine lv_iconst (v := 1) hx hb d_PC_read_43 (by decide) ?_
          refine lv_sipush (v := 1000) hx hb d_PC_read_44 (by decide) ?_
          obtain ⟨qc, hc47, h⟩ := b2_some h
          obtain ⟨σ8, x9⟩ := qc
          have h := b2_at h
          refine st_Si (As := [.int a4, .int 1, .int 1000]) (rest := []) ⟨hx, hb, hml, hown, hg⟩ (c_PC_isOutside l D aC A ad n _ a4 1 1000 _ hc47) (cwGS hg wd_2 wd_3 wd_5 wd_4 yd_PC_isOutside ⟨Nat.le_of_ble_eq_true rfl, Nat.le_of_ble_eq_true rfl⟩) hK hH hS hZ rfl hl.1 rfl (Nat.le_of_ble_eq_true rfl) d_PC_read_47 ⟨Nat.zero_le _, Nat.zero_le _⟩ (fun H locs hH hS => ?_)
          refine lv_if_eq (tgt := 56) hx hb d_PC_read_50 (by decide) (fun c50 => ?_) (fun c50 => ?_)
          · have h := it h c50
            refine lv_aload_n hx hb d_PC_read_56 rfl (lv_at hl 0 rfl) ?_
            refine st_get hx hb hg hown hK hH (f := 0) (i := 0) hd_0 rfl rfl u_PC 9 (by decide) (hg _ wd_406) (v := .ref (ad 35 0)) rfl d_PC_read_57 ?_
            refine lv_iload_n hx hb d_PC_read_60 rfl (lv_at hl 2 rfl) ?_
            obtain ⟨qc, hc61, h⟩ := b1_some h
            obtain ⟨σ10, rfl⟩ : ∃ z, z = qc := ⟨_, rfl⟩
            have h := b1_at h
            refine st_Vv (As := [.int a2]) (rest := []) ⟨hx, hb, hml, hown, hg⟩ (c_Reader_begin l D aC A ad n _ a2 _ hc61) (cwG hg wd_409 wd_410 wd_412 wd_413 wd_411 yd_Reader_begin ⟨Nat.le_of_ble_eq_true rfl, Nat.le_of_ble_eq_true rfl⟩) hK hH hS hZ hd_35 rfl rfl rfl hl.1 rfl (Nat.le_of_ble_eq_true rfl) d_PC_read_61 ⟨Nat.zero_le _, Nat.zero_le _⟩ (fun H locs hH hS => ?_)
            refine lv_iconst (v := 0) hx hb d_PC_read_64 (by decide) ?_
            refine lv_istore (lv' := [(5, .int 0), (0, .ref (ad 0 0)), (1, .int a1), (2, .int a2), (3, .int a3), (4, .int a4)]) hx hb d_PC_read_65 hl (by decide) rfl (fun ls hl => ?_)
            obtain ⟨q1, hq1, h⟩ := bs2_some h
            have K1 : ∀ (σ18 : St) (x19 : Int32) (H : Heap) (locs : List Loc) (ls : Array Slot), q1 = .inl (σ18, x19) → Hold D aC A ad n σ18 H → va_S A s.heap H locs → lv_has ls 7 [(0, .ref (ad 0 0)), (1, .int a1), (2, .int a2), (3, .int a3), (4, .int a4), (5, .int x19)] → W p l e (headSpec w_PC_read rm_PC_read).room s m args below meth c H locs 0 0 Q0 (F0 m 117 ls []) := by
              intro σ18 x19 H locs ls eq1 hH hS hl
              subst eq1
              have h := bs2_at h
              refine lv_aload_n hx hb d_PC_read_117 rfl (lv_at hl 0 rfl) ?_
              refine st_get hx hb hg hown hK hH (f := 0) (i := 0) hd_0 rfl rfl u_PC 9 (by decide) (hg _ wd_406) (v := .ref (ad 35 0)) rfl d_PC_read_118 ?_
              refine lv_iload_n hx hb d_PC_read_121 rfl (lv_at hl 3 rfl) ?_
              refine lv_iload hx hb d_PC_read_122 (lv_at hl 4 rfl) ?_
              obtain ⟨qc, hc124, h⟩ := b2_some h
              obtain ⟨σ20, x21⟩ := qc
              have h := b2_at h
              refine st_Vi (As := [.int a3, .int a4]) (rest := []) ⟨hx, hb, hml, hown, hg⟩ (c_Reader_remove l D aC A ad n _ a3 a4 _ hc124) (cwG hg wd_414 wd_415 wd_416 wd_417 wd_411 yd_Reader_remove ⟨Nat.le_of_ble_eq_true rfl, Nat.le_of_ble_eq_true rfl⟩) hK hH hS hZ hd_35 rfl rfl rfl hl.1 rfl (Nat.le_of_ble_eq_true rfl) d_PC_read_124 ⟨Nat.zero_le _, Nat.zero_le _⟩ (fun H locs hH hS => ?_)
              refine lv_istore (lv' := [(5, .int x21), (0, .ref (ad 0 0)), (1, .int a1), (2, .int a2), (3, .int a3), (4, .int a4)]) hx hb d_PC_read_127 hl (by decide) rfl (fun ls hl => ?_)
              refine lv_iload hx hb d_PC_read_129 (lv_at hl 0 rfl) ?_
              refine lv_if_ge (tgt := 137) hx hb d_PC_read_131 (by decide) (fun c131 => ?_) (fun c131 => ?_)
              · have h := it h c131
                refine lv_aload_n hx hb d_PC_read_137 rfl (lv_at hl 1 rfl) ?_
                refine st_get hx hb hg hown hK hH (f := 0) (i := 0) hd_0 rfl rfl u_PC 7 (by decide) (hg _ wd_71) (v := .ref (ad 26 0)) rfl d_PC_read_138 ?_
                refine lv_aload_n hx hb d_PC_read_141 rfl (lv_at hl 1 rfl) ?_
                refine st_get hx hb hg hown hK hH (f := 0) (i := 0) hd_0 rfl rfl u_PC 9 (by decide) (hg _ wd_406) (v := .ref (ad 35 0)) rfl d_PC_read_142 ?_
                refine st_get hx hb hg hown hK hH (f := 35) (i := 0) hd_35 rfl rfl u_Reader 4 (by decide) (hg _ wd_408) (v := .ref (ad 38 0)) rfl d_PC_read_145 ?_
                refine lv_iload hx hb d_PC_read_148 (lv_at hl 5 rfl) ?_
                obtain ⟨qc, hc150, h⟩ := b1_some h
                obtain ⟨σ22, rfl⟩ : ∃ z, z = qc := ⟨_, rfl⟩
                have h := b1_at h
                refine st_Vv (As := [.ref (ad 38 0), .int a4]) (rest := []) ⟨hx, hb, hml, hown, hg⟩ (c_Text_become l D aC A ad n _ 38 0 1000 a4 rfl hd_38 _ hc150) (cwG hg wd_418 wd_419 wd_420 wd_421 wd_74 yd_Text_become ⟨Nat.le_of_ble_eq_true rfl, Nat.le_of_ble_eq_true rfl⟩) hK hH hS hZ hd_26 rfl rfl rfl hl.1 rfl (Nat.le_of_ble_eq_true rfl) d_PC_read_150 ⟨Nat.zero_le _, Nat.zero_le _⟩ (fun H locs hH hS => ?_)
                refine lv_iload hx hb d_PC_read_153 (lv_at hl 5 rfl) ?_
                cases h
                rw [← hQ0]
                exact W.iret hx hb hr (fun t ht hW => ⟨⟨_, (), rfl, rfl, by dsimp only; rw [ht]; exact hH⟩, hS.F ht⟩) hS.2.2 d_PC_read_155
              · have h := ie h c131
                refine lv_iload hx hb d_PC_read_134 (lv_at hl 0 rfl) ?_
                cases h
                rw [← hQ0]
                exact W.iret hx hb hr (fun t ht hW => ⟨⟨_, (), rfl, rfl, by dsimp only; rw [ht]; exact hH⟩, hS.F ht⟩) hS.2.2 d_PC_read_136
            have loop1 : ∀ (k : Nat) (σ : St) (v5 : Int32) (H : Heap) (locs : List Loc) (ls : Array Slot), Hold D aC A ad n σ H → va_S A s.heap H locs → lv_has ls 7 [(0, .ref (ad 0 0)), (1, .int a1), (2, .int a2), (3, .int a3), (4, .int a4), (5, .int v5)] → lp (fun q => lb_PC_read_67 a1 a2 a3 a4 q.1 q.2) k (σ, v5) = some q1 → W p l e (headSpec w_PC_read rm_PC_read).room s m args below meth c H locs 0 0 Q0 (F0 m 67 ls []) := by
              intro k
              induction k with
              | zero => intro σ v5 H locs ls hH hS hl hlp; exact absurd hlp (lp_zero _ _ _)
              | succ k ih1 =>
                intro σ v5 H locs ls hH hS hl hlp
                obtain ⟨z1, h1, hk1⟩ := lp_succ hlp
                have h1 : lb_PC_read_67 a1 a2 a3 a4 σ v5 = some z1 := h1
                unfold lb_PC_read_67 at h1
                refine lv_iload hx hb d_PC_read_67 (lv_at hl 5 rfl) ?_
                refine lv_iload_n hx hb d_PC_read_69 rfl (lv_at hl 2 rfl) ?_
                refine lv_icmp_ge (tgt := 117) hx hb d_PC_read_70 (by decide) (fun c70 => ?_) (fun c70 => ?_)
                · have h1 := it h1 c70
                  cases h1
                  exact K1 σ v5 _ _ ls (Option.some.inj hk1).symm hH hS (lv_sub hl [0, 1, 2, 3, 4, 5] rfl)
                · have h1 := ie h1 c70
                  refine lv_aload_n hx hb d_PC_read_73 rfl (lv_at hl 0 rfl) ?_
                  refine lv_iload_n hx hb d_PC_read_74 rfl (lv_at hl 1 rfl) ?_
                  refine lv_iload hx hb d_PC_read_75 (lv_at hl 5 rfl) ?_
                  refine lv_iadd hx hb d_PC_read_77 ?_
                  obtain ⟨qc, hc78, h1⟩ := b2_some h1
                  obtain ⟨σ11, o12⟩ := qc
                  have h1 := b2_at h1
                  refine st_Vq (As := [.int (a1 + v5)]) (rest := []) ⟨hx, hb, hml, hown, hg⟩ (c_PC_codeAt l D aC A ad n _ (a1 + v5) _ hc78) (cwG hg wd_7 wd_8 wd_9 wd_10 wd_4 yd_PC_codeAt ⟨Nat.le_of_ble_eq_true rfl, Nat.le_of_ble_eq_true rfl⟩) hK hH hS hZ hd_0 rfl rfl rfl hl.1 rfl (Nat.le_of_ble_eq_true rfl) d_PC_read_78 ⟨Nat.zero_le _, Nat.zero_le _⟩ (fun c78 H locs hH hS => ?_) (fun j13 c78 hdj13 H locs hH hS => ?_)
                  · have h1 := on_n h1 c78
                    refine lv_astoreN (lv' := [(6, .null), (0, .ref (ad 0 0)), (1, .int a1), (2, .int a2), (3, .int a3), (4, .int a4), (5, .int v5)]) hx hb d_PC_read_81 hl (by decide) rfl (fun ls hl => ?_)
                    refine lv_aloadN hx hb d_PC_read_83 (lv_at hl 0 rfl) ?_
                    refine lv_ifnullN (tgt := 96) hx hb d_PC_read_85 (by decide) ?_
                    refine lv_bipush (v := (-103)) hx hb d_PC_read_96 (by decide) ?_
                    cases h1
                    have hk1 := Option.some.inj hk1
                    subst hk1
                    have h := bs2_r h
                    cases h
                    rw [← hQ0]
                    exact W.iret hx hb hr (fun t ht hW => ⟨⟨_, (), rfl, rfl, by dsimp only; rw [ht]; exact hH⟩, hS.F ht⟩) hS.2.2 d_PC_read_98
                  · have h1 := on_s h1 c78
                    refine lv_astore (lv' := [(6, .ref (ad 41 j13)), (0, .ref (ad 0 0)), (1, .int a1), (2, .int a2), (3, .int a3), (4, .int a4), (5, .int v5)]) hx hb d_PC_read_81 hl (by decide) rfl (fun ls hl => ?_)
                    refine lv_aload hx hb d_PC_read_83 (lv_at hl 0 rfl) ?_
                    refine lv_ifnull hx hb d_PC_read_85 ?_
                    refine lv_aload hx hb d_PC_read_88 (lv_at hl 0 rfl) ?_
                    obtain ⟨qc, hc90, h1⟩ := b2_some h1
                    obtain ⟨σ14, x15⟩ := qc
                    have h1 := b2_at h1
                    refine st_Vi (As := []) (rest := []) ⟨hx, hb, hml, hown, hg⟩ (c_Code_canBeRead l D aC A ad n _ j13 hdj13 _ hc90) (cwG hg wd_157 wd_158 wd_159 wd_160 wd_29 yd_Code_canBeRead ⟨Nat.le_of_ble_eq_true rfl, Nat.le_of_ble_eq_true rfl⟩) hK hH hS hZ hdj13 rfl rfl rfl hl.1 rfl (Nat.le_of_ble_eq_true rfl) d_PC_read_90 ⟨Nat.zero_le _, Nat.zero_le _⟩ (fun H locs hH hS => ?_)
                    refine lv_if_ne (tgt := 99) hx hb d_PC_read_93 (by decide) (fun c93 => ?_) (fun c93 => ?_)
                    · have h1 := ie h1 c93
                      refine lv_aload_n hx hb d_PC_read_99 rfl (lv_at hl 1 rfl) ?_
                      refine st_get hx hb hg hown hK hH (f := 0) (i := 0) hd_0 rfl rfl u_PC 9 (by decide) (hg _ wd_406) (v := .ref (ad 35 0)) rfl d_PC_read_100 ?_
                      refine st_get hx hb hg hown hK hH (f := 35) (i := 0) hd_35 rfl rfl u_Reader 1 (by decide) (hg _ wd_407) (v := .ref (ad 36 0)) rfl d_PC_read_103 ?_
                      refine lv_iload hx hb d_PC_read_106 (lv_at hl 6 rfl) ?_
                      refine lv_aload hx hb d_PC_read_108 (lv_at hl 0 rfl) ?_
                      obtain ⟨g110, h1⟩ := gd_some h1
                      refine st_aast hx hb hK hH hS (f := 36) (i := 0) hd_36 rfl rfl hdj13 g110 d_PC_read_110 (fun σ16 H locs eσ16 hH hS => ?_)
                      have h1 := nm_at eσ16 h1
                      obtain ⟨x17, ex17⟩ : ∃ y : Int32, y = v5 + 1 := ⟨_, rfl⟩
                      have h1 := nm_at ex17 h1
                      refine lv_iinc (v := x17) (lv' := [(5, .int x17), (6, .ref (ad 41 j13)), (0, .ref (ad 0 0)), (1, .int a1), (2, .int a2), (3, .int a3), (4, .int a4)]) hx hb d_PC_read_111 hl (k := 6) rfl (by rw [ex17]; rfl) (by decide) rfl (fun ls hl => ?_)
                      refine lv_goto (tgt := 67) hx hb d_PC_read_114 (by decide) ?_
                      cases h1
                      exact ih1 σ16 x17 _ _ ls hH hS (lv_sub hl [2, 3, 4, 5, 6, 0] rfl) hk1
                    · have h1 := it h1 c93
                      refine lv_bipush (v := (-103)) hx hb d_PC_read_96 (by decide) ?_
                      cases h1
                      have hk1 := Option.some.inj hk1
                      subst hk1
                      have h := bs2_r h
                      cases h
                      rw [← hQ0]
                      exact W.iret hx hb hr (fun t ht hW => ⟨⟨_, (), rfl, rfl, by dsimp only; rw [ht]; exact hH⟩, hS.F ht⟩) hS.2.2 d_PC_read_98
            obtain ⟨k1, hq1⟩ := lpE_some hq1
            exact loop1 k1 σ10 0 _ _ ls hH hS (lv_sub hl [1, 2, 3, 4, 5, 0] rfl) hq1
          · have h := ie h c50
            refine lv_bipush (v := (-102)) hx hb d_PC_read_53 (by decide) ?_
            cases h
            rw [← hQ0]
            exact W.iret hx hb hr (fun t ht hW => ⟨⟨_, (), rfl, rfl, by dsimp only; rw [ht]; exact hH⟩, hS.F ht⟩) hS.2.2 d_PC_read_55
    · have h := ie h c15
      refine lv_bipush (v := (-101)) hx hb d_PC_read_18 (by decide) ?_
      cases h
      rw [← hQ0]
      exact W.iret hx hb hr (fun t ht hW => ⟨⟨_, (), rfl, rfl, by dsimp only; rw [ht]; exact hH⟩, hS.F ht⟩) hS.2.2 d_PC_read_20
