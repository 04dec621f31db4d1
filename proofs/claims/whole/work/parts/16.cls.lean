theorem d_Manners_remove_0 : decode prog_5_method_3_code 0 = .ok (.iload_n 2, 1) := by decide +kernel
theorem d_Manners_remove_1 : decode prog_5_method_3_code 1 = .ok (.lookupswitch 39 #[(0, 27), (1, 33)], 27) := by decide +kernel
theorem d_Manners_remove_28 : decode prog_5_method_3_code 28 = .ok (.aload_n 0, 1) := by decide +kernel
theorem d_Manners_remove_29 : decode prog_5_method_3_code 29 = .ok (.iload_n 1, 1) := by decide +kernel
theorem d_Manners_remove_30 : decode prog_5_method_3_code 30 = .ok (.invokevirtual 48, 3) := by decide +kernel
theorem d_Manners_remove_33 : decode prog_5_method_3_code 33 = .ok (.ireturn, 1) := by decide +kernel
theorem d_Manners_remove_34 : decode prog_5_method_3_code 34 = .ok (.aload_n 0, 1) := by decide +kernel
theorem d_Manners_remove_35 : decode prog_5_method_3_code 35 = .ok (.iload_n 1, 1) := by decide +kernel
theorem d_Manners_remove_36 : decode prog_5_method_3_code 36 = .ok (.invokevirtual 52, 3) := by decide +kernel
theorem d_Manners_remove_39 : decode prog_5_method_3_code 39 = .ok (.ireturn, 1) := by decide +kernel
theorem d_Manners_remove_40 : decode prog_5_method_3_code 40 = .ok (.aload_n 0, 1) := by decide +kernel
theorem d_Manners_remove_41 : decode prog_5_method_3_code 41 = .ok (.getfield 24, 3) := by decide +kernel
theorem d_Manners_remove_44 : decode prog_5_method_3_code 44 = .ok (.aload_n 0, 1) := by decide +kernel
theorem d_Manners_remove_45 : decode prog_5_method_3_code 45 = .ok (.getfield 9, 3) := by decide +kernel
theorem d_Manners_remove_48 : decode prog_5_method_3_code 48 = .ok (.iload_n 1, 1) := by decide +kernel
theorem d_Manners_remove_49 : decode prog_5_method_3_code 49 = .ok (.invokevirtual 55, 3) := by decide +kernel
theorem d_Manners_remove_52 : decode prog_5_method_3_code 52 = .ok (.ireturn, 1) := by decide +kernel
theorem d_Stream_giveBack_0 : decode prog_9_method_12_code 0 = .ok (.aload_n 0, 1) := by decide +kernel
theorem d_Stream_giveBack_1 : decode prog_9_method_12_code 1 = .ok (.aload_n 0, 1) := by decide +kernel
theorem d_Stream_giveBack_2 : decode prog_9_method_12_code 2 = .ok (.sipush 20000, 3) := by decide +kernel
theorem d_Stream_giveBack_5 : decode prog_9_method_12_code 5 = .ok (.iload_n 1, 1) := by decide +kernel
theorem d_Stream_giveBack_6 : decode prog_9_method_12_code 6 = .ok (.isub, 1) := by decide +kernel
theorem d_Stream_giveBack_7 : decode prog_9_method_12_code 7 = .ok (.invokevirtual 29, 3) := by decide +kernel
theorem d_Stream_giveBack_10 : decode prog_9_method_12_code 10 = .ok (.putfield 15, 3) := by decide +kernel
theorem d_Stream_giveBack_13 : decode prog_9_method_12_code 13 = .ok (.aload_n 0, 1) := by decide +kernel
theorem d_Stream_giveBack_14 : decode prog_9_method_12_code 14 = .ok (.dup, 1) := by decide +kernel
theorem d_Stream_giveBack_15 : decode prog_9_method_12_code 15 = .ok (.getfield 19, 3) := by decide +kernel
theorem d_Stream_giveBack_18 : decode prog_9_method_12_code 18 = .ok (.iload_n 1, 1) := by decide +kernel
theorem d_Stream_giveBack_19 : decode prog_9_method_12_code 19 = .ok (.iadd, 1) := by decide +kernel
theorem d_Stream_giveBack_20 : decode prog_9_method_12_code 20 = .ok (.putfield 19, 3) := by decide +kernel
theorem d_Stream_giveBack_23 : decode prog_9_method_12_code 23 = .ok (.return_, 1) := by decide +kernel
theorem d_Table_extendParts_0 : decode prog_10_method_3_code 0 = .ok (.aload_n 0, 1) := by decide +kernel
theorem d_Table_extendParts_1 : decode prog_10_method_3_code 1 = .ok (.getfield 31, 3) := by decide +kernel
theorem d_Table_extendParts_4 : decode prog_10_method_3_code 4 = .ok (.ifCond .eq 18, 3) := by decide +kernel
theorem d_Table_extendParts_7 : decode prog_10_method_3_code 7 = .ok (.aload_n 0, 1) := by decide +kernel
theorem d_Table_extendParts_8 : decode prog_10_method_3_code 8 = .ok (.getfield 34, 3) := by decide +kernel
theorem d_Table_extendParts_11 : decode prog_10_method_3_code 11 = .ok (.aload_n 0, 1) := by decide +kernel
theorem d_Table_extendParts_12 : decode prog_10_method_3_code 12 = .ok (.getfield 31, 3) := by decide +kernel
theorem d_Table_extendParts_15 : decode prog_10_method_3_code 15 = .ok (.iconst 1, 1) := by decide +kernel
theorem d_Table_extendParts_16 : decode prog_10_method_3_code 16 = .ok (.isub, 1) := by decide +kernel
theorem d_Table_extendParts_17 : decode prog_10_method_3_code 17 = .ok (.iaload, 1) := by decide +kernel
theorem d_Table_extendParts_18 : decode prog_10_method_3_code 18 = .ok (.iload_n 1, 1) := by decide +kernel
theorem d_Table_extendParts_19 : decode prog_10_method_3_code 19 = .ok (.if_icmp .eq 23, 3) := by decide +kernel
theorem d_Table_extendParts_22 : decode prog_10_method_3_code 22 = .ok (.aload_n 0, 1) := by decide +kernel
theorem d_Table_extendParts_23 : decode prog_10_method_3_code 23 = .ok (.getfield 34, 3) := by decide +kernel
theorem d_Table_extendParts_26 : decode prog_10_method_3_code 26 = .ok (.aload_n 0, 1) := by decide +kernel
theorem d_Table_extendParts_27 : decode prog_10_method_3_code 27 = .ok (.getfield 31, 3) := by decide +kernel
theorem d_Table_extendParts_30 : decode prog_10_method_3_code 30 = .ok (.iload_n 1, 1) := by decide +kernel
theorem d_Table_extendParts_31 : decode prog_10_method_3_code 31 = .ok (.iastore, 1) := by decide +kernel
theorem d_Table_extendParts_32 : decode prog_10_method_3_code 32 = .ok (.aload_n 0, 1) := by decide +kernel
theorem d_Table_extendParts_33 : decode prog_10_method_3_code 33 = .ok (.dup, 1) := by decide +kernel
theorem d_Table_extendParts_34 : decode prog_10_method_3_code 34 = .ok (.getfield 31, 3) := by decide +kernel
theorem d_Table_extendParts_37 : decode prog_10_method_3_code 37 = .ok (.iconst 1, 1) := by decide +kernel
theorem d_Table_extendParts_38 : decode prog_10_method_3_code 38 = .ok (.iadd, 1) := by decide +kernel
theorem d_Table_extendParts_39 : decode prog_10_method_3_code 39 = .ok (.putfield 31, 3) := by decide +kernel
theorem d_Table_extendParts_42 : decode prog_10_method_3_code 42 = .ok (.aload_n 0, 1) := by decide +kernel
theorem d_Table_extendParts_43 : decode prog_10_method_3_code 43 = .ok (.getfield 37, 3) := by decide +kernel
theorem d_Table_extendParts_46 : decode prog_10_method_3_code 46 = .ok (.aload_n 0, 1) := by decide +kernel
theorem d_Table_extendParts_47 : decode prog_10_method_3_code 47 = .ok (.getfield 31, 3) := by decide +kernel
theorem d_Table_extendParts_50 : decode prog_10_method_3_code 50 = .ok (.iconst 1, 1) := by decide +kernel
theorem d_Table_extendParts_51 : decode prog_10_method_3_code 51 = .ok (.isub, 1) := by decide +kernel
theorem d_Table_extendParts_52 : decode prog_10_method_3_code 52 = .ok (.iload_n 2, 1) := by decide +kernel
theorem d_Table_extendParts_53 : decode prog_10_method_3_code 53 = .ok (.iastore, 1) := by decide +kernel
theorem d_Table_extendParts_54 : decode prog_10_method_3_code 54 = .ok (.return_, 1) := by decide +kernel
theorem d_Table_build_0 : decode prog_10_method_2_code 0 = .ok (.aload_n 0, 1) := by decide +kernel
theorem d_Table_build_1 : decode prog_10_method_2_code 1 = .ok (.iload_n 2, 1) := by decide +kernel
theorem d_Table_build_2 : decode prog_10_method_2_code 2 = .ok (.putfield 9, 3) := by decide +kernel
theorem d_Table_build_5 : decode prog_10_method_2_code 5 = .ok (.aload_n 0, 1) := by decide +kernel
theorem d_Table_build_6 : decode prog_10_method_2_code 6 = .ok (.aload_n 1, 1) := by decide +kernel
theorem d_Table_build_7 : decode prog_10_method_2_code 7 = .ok (.getfield 43, 3) := by decide +kernel
theorem d_Table_build_10 : decode prog_10_method_2_code 10 = .ok (.putfield 18, 3) := by decide +kernel
theorem d_Table_build_13 : decode prog_10_method_2_code 13 = .ok (.aload_n 0, 1) := by decide +kernel
theorem d_Table_build_14 : decode prog_10_method_2_code 14 = .ok (.iconst 0, 1) := by decide +kernel
theorem d_Table_build_15 : decode prog_10_method_2_code 15 = .ok (.putfield 31, 3) := by decide +kernel
theorem d_Table_build_18 : decode prog_10_method_2_code 18 = .ok (.iconst 0, 1) := by decide +kernel
theorem d_Table_build_19 : decode prog_10_method_2_code 19 = .ok (.istore_n 3, 1) := by decide +kernel
theorem d_Table_build_20 : decode prog_10_method_2_code 20 = .ok (.iload_n 3, 1) := by decide +kernel
theorem d_Table_build_21 : decode prog_10_method_2_code 21 = .ok (.aload_n 0, 1) := by decide +kernel
theorem d_Table_build_22 : decode prog_10_method_2_code 22 = .ok (.getfield 18, 3) := by decide +kernel
theorem d_Table_build_25 : decode prog_10_method_2_code 25 = .ok (.if_icmp .ge 97, 3) := by decide +kernel
theorem d_Table_build_28 : decode prog_10_method_2_code 28 = .ok (.aload_n 1, 1) := by decide +kernel
theorem d_Table_build_29 : decode prog_10_method_2_code 29 = .ok (.getfield 48, 3) := by decide +kernel
theorem d_Table_build_32 : decode prog_10_method_2_code 32 = .ok (.iload_n 3, 1) := by decide +kernel
theorem d_Table_build_33 : decode prog_10_method_2_code 33 = .ok (.iaload, 1) := by decide +kernel
theorem d_Table_build_34 : decode prog_10_method_2_code 34 = .ok (.istore 4, 2) := by decide +kernel
theorem d_Table_build_36 : decode prog_10_method_2_code 36 = .ok (.aload_n 0, 1) := by decide +kernel
theorem d_Table_build_37 : decode prog_10_method_2_code 37 = .ok (.getfield 21, 3) := by decide +kernel
theorem d_Table_build_40 : decode prog_10_method_2_code 40 = .ok (.iload_n 3, 1) := by decide +kernel
theorem d_Table_build_41 : decode prog_10_method_2_code 41 = .ok (.iload 4, 2) := by decide +kernel
theorem d_Table_build_43 : decode prog_10_method_2_code 43 = .ok (.iastore, 1) := by decide +kernel
theorem d_Table_build_44 : decode prog_10_method_2_code 44 = .ok (.aload_n 0, 1) := by decide +kernel
theorem d_Table_build_45 : decode prog_10_method_2_code 45 = .ok (.getfield 25, 3) := by decide +kernel
theorem d_Table_build_48 : decode prog_10_method_2_code 48 = .ok (.iload_n 3, 1) := by decide +kernel
theorem d_Table_build_49 : decode prog_10_method_2_code 49 = .ok (.aload_n 1, 1) := by decide +kernel
theorem d_Table_build_50 : decode prog_10_method_2_code 50 = .ok (.getfield 51, 3) := by decide +kernel
theorem d_Table_build_53 : decode prog_10_method_2_code 53 = .ok (.iload 4, 2) := by decide +kernel
theorem d_Table_build_55 : decode prog_10_method_2_code 55 = .ok (.iaload, 1) := by decide +kernel
theorem d_Table_build_56 : decode prog_10_method_2_code 56 = .ok (.iastore, 1) := by decide +kernel
theorem d_Table_build_57 : decode prog_10_method_2_code 57 = .ok (.aload_n 0, 1) := by decide +kernel
theorem d_Table_build_58 : decode prog_10_method_2_code 58 = .ok (.getfield 28, 3) := by decide +kernel
theorem d_Table_build_61 : decode prog_10_method_2_code 61 = .ok (.iload_n 3, 1) := by decide +kernel
theorem d_Table_build_62 : decode prog_10_method_2_code 62 = .ok (.aload_n 1, 1) := by decide +kernel
theorem d_Table_build_63 : decode prog_10_method_2_code 63 = .ok (.getfield 52, 3) := by decide +kernel
theorem d_Table_build_66 : decode prog_10_method_2_code 66 = .ok (.iload 4, 2) := by decide +kernel
theorem d_Table_build_68 : decode prog_10_method_2_code 68 = .ok (.iaload, 1) := by decide +kernel
theorem d_Table_build_69 : decode prog_10_method_2_code 69 = .ok (.iastore, 1) := by decide +kernel
theorem d_Table_build_70 : decode prog_10_method_2_code 70 = .ok (.aload_n 0, 1) := by decide +kernel
theorem d_Table_build_71 : decode prog_10_method_2_code 71 = .ok (.getfield 25, 3) := by decide +kernel
theorem d_Table_build_74 : decode prog_10_method_2_code 74 = .ok (.iload_n 3, 1) := by decide +kernel
theorem d_Table_build_75 : decode prog_10_method_2_code 75 = .ok (.iaload, 1) := by decide +kernel
theorem d_Table_build_76 : decode prog_10_method_2_code 76 = .ok (.aload_n 0, 1) := by decide +kernel
theorem d_Table_build_77 : decode prog_10_method_2_code 77 = .ok (.getfield 9, 3) := by decide +kernel
theorem d_Table_build_80 : decode prog_10_method_2_code 80 = .ok (.if_icmp .le 36, 3) := by decide +kernel
theorem d_Table_build_83 : decode prog_10_method_2_code 83 = .ok (.aload_n 0, 1) := by decide +kernel
theorem d_Table_build_84 : decode prog_10_method_2_code 84 = .ok (.aload_n 0, 1) := by decide +kernel
theorem d_Table_build_85 : decode prog_10_method_2_code 85 = .ok (.getfield 28, 3) := by decide +kernel
theorem d_Table_build_88 : decode prog_10_method_2_code 88 = .ok (.iload_n 3, 1) := by decide +kernel
theorem d_Table_build_89 : decode prog_10_method_2_code 89 = .ok (.iaload, 1) := by decide +kernel
theorem d_Table_build_90 : decode prog_10_method_2_code 90 = .ok (.aload_n 0, 1) := by decide +kernel
theorem d_Table_build_91 : decode prog_10_method_2_code 91 = .ok (.getfield 25, 3) := by decide +kernel
theorem d_Table_build_94 : decode prog_10_method_2_code 94 = .ok (.iload_n 3, 1) := by decide +kernel
theorem d_Table_build_95 : decode prog_10_method_2_code 95 = .ok (.iaload, 1) := by decide +kernel
theorem d_Table_build_96 : decode prog_10_method_2_code 96 = .ok (.aload_n 0, 1) := by decide +kernel
theorem d_Table_build_97 : decode prog_10_method_2_code 97 = .ok (.getfield 9, 3) := by decide +kernel
theorem d_Table_build_100 : decode prog_10_method_2_code 100 = .ok (.isub, 1) := by decide +kernel
theorem d_Table_build_101 : decode prog_10_method_2_code 101 = .ok (.iushr, 1) := by decide +kernel
theorem d_Table_build_102 : decode prog_10_method_2_code 102 = .ok (.aload_n 0, 1) := by decide +kernel
theorem d_Table_build_103 : decode prog_10_method_2_code 103 = .ok (.getfield 25, 3) := by decide +kernel
theorem d_Table_build_106 : decode prog_10_method_2_code 106 = .ok (.iload_n 3, 1) := by decide +kernel
theorem d_Table_build_107 : decode prog_10_method_2_code 107 = .ok (.iaload, 1) := by decide +kernel
theorem d_Table_build_108 : decode prog_10_method_2_code 108 = .ok (.aload_n 0, 1) := by decide +kernel
theorem d_Table_build_109 : decode prog_10_method_2_code 109 = .ok (.getfield 9, 3) := by decide +kernel
theorem d_Table_build_112 : decode prog_10_method_2_code 112 = .ok (.isub, 1) := by decide +kernel
theorem d_Table_build_113 : decode prog_10_method_2_code 113 = .ok (.invokevirtual 54, 3) := by decide +kernel
theorem d_Table_build_116 : decode prog_10_method_2_code 116 = .ok (.iinc 3 1, 3) := by decide +kernel
theorem d_Table_build_119 : decode prog_10_method_2_code 119 = .ok (.goto (-99), 3) := by decide +kernel
theorem d_Table_build_122 : decode prog_10_method_2_code 122 = .ok (.aload_n 0, 1) := by decide +kernel
theorem d_Table_build_123 : decode prog_10_method_2_code 123 = .ok (.iconst 1, 1) := by decide +kernel
theorem d_Table_build_124 : decode prog_10_method_2_code 124 = .ok (.aload_n 0, 1) := by decide +kernel
theorem d_Table_build_125 : decode prog_10_method_2_code 125 = .ok (.getfield 9, 3) := by decide +kernel
theorem d_Table_build_128 : decode prog_10_method_2_code 128 = .ok (.ishl, 1) := by decide +kernel
theorem d_Table_build_129 : decode prog_10_method_2_code 129 = .ok (.putfield 15, 3) := by decide +kernel
theorem d_Table_build_132 : decode prog_10_method_2_code 132 = .ok (.iconst 0, 1) := by decide +kernel
theorem d_Table_build_133 : decode prog_10_method_2_code 133 = .ok (.istore_n 3, 1) := by decide +kernel
theorem d_Table_build_134 : decode prog_10_method_2_code 134 = .ok (.iload_n 3, 1) := by decide +kernel
theorem d_Table_build_135 : decode prog_10_method_2_code 135 = .ok (.aload_n 0, 1) := by decide +kernel
theorem d_Table_build_136 : decode prog_10_method_2_code 136 = .ok (.getfield 31, 3) := by decide +kernel
theorem d_Table_build_139 : decode prog_10_method_2_code 139 = .ok (.if_icmp .ge 36, 3) := by decide +kernel
theorem d_Table_build_142 : decode prog_10_method_2_code 142 = .ok (.aload_n 0, 1) := by decide +kernel
theorem d_Table_build_143 : decode prog_10_method_2_code 143 = .ok (.getfield 40, 3) := by decide +kernel
theorem d_Table_build_146 : decode prog_10_method_2_code 146 = .ok (.iload_n 3, 1) := by decide +kernel
theorem d_Table_build_147 : decode prog_10_method_2_code 147 = .ok (.aload_n 0, 1) := by decide +kernel
theorem d_Table_build_148 : decode prog_10_method_2_code 148 = .ok (.getfield 15, 3) := by decide +kernel
theorem d_Table_build_151 : decode prog_10_method_2_code 151 = .ok (.iastore, 1) := by decide +kernel
theorem d_Table_build_152 : decode prog_10_method_2_code 152 = .ok (.aload_n 0, 1) := by decide +kernel
theorem d_Table_build_153 : decode prog_10_method_2_code 153 = .ok (.dup, 1) := by decide +kernel
theorem d_Table_build_154 : decode prog_10_method_2_code 154 = .ok (.getfield 15, 3) := by decide +kernel
theorem d_Table_build_157 : decode prog_10_method_2_code 157 = .ok (.iconst 1, 1) := by decide +kernel
theorem d_Table_build_158 : decode prog_10_method_2_code 158 = .ok (.aload_n 0, 1) := by decide +kernel
theorem d_Table_build_159 : decode prog_10_method_2_code 159 = .ok (.getfield 37, 3) := by decide +kernel
theorem d_Table_build_162 : decode prog_10_method_2_code 162 = .ok (.iload_n 3, 1) := by decide +kernel
theorem d_Table_build_163 : decode prog_10_method_2_code 163 = .ok (.iaload, 1) := by decide +kernel
theorem d_Table_build_164 : decode prog_10_method_2_code 164 = .ok (.ishl, 1) := by decide +kernel
theorem d_Table_build_165 : decode prog_10_method_2_code 165 = .ok (.iadd, 1) := by decide +kernel
theorem d_Table_build_166 : decode prog_10_method_2_code 166 = .ok (.putfield 15, 3) := by decide +kernel
theorem d_Table_build_169 : decode prog_10_method_2_code 169 = .ok (.iinc 3 1, 3) := by decide +kernel
theorem d_Table_build_172 : decode prog_10_method_2_code 172 = .ok (.goto (-38), 3) := by decide +kernel
theorem d_Table_build_175 : decode prog_10_method_2_code 175 = .ok (.return_, 1) := by decide +kernel
theorem d_PC_table_0 : decode prog_1_method_19_code 0 = .ok (.aload_n 0, 1) := by decide +kernel
theorem d_PC_table_1 : decode prog_1_method_19_code 1 = .ok (.iload_n 1, 1) := by decide +kernel
theorem d_PC_table_2 : decode prog_1_method_19_code 2 = .ok (.invokevirtual 97, 3) := by decide +kernel
theorem d_PC_table_5 : decode prog_1_method_19_code 5 = .ok (.astore_n 3, 1) := by decide +kernel
theorem d_PC_table_6 : decode prog_1_method_19_code 6 = .ok (.aload_n 3, 1) := by decide +kernel
theorem d_PC_table_7 : decode prog_1_method_19_code 7 = .ok (.ifnonnull 6, 3) := by decide +kernel
theorem d_PC_table_10 : decode prog_1_method_19_code 10 = .ok (.bipush (-101), 2) := by decide +kernel
theorem d_PC_table_12 : decode prog_1_method_19_code 12 = .ok (.ireturn, 1) := by decide +kernel
theorem d_PC_table_13 : decode prog_1_method_19_code 13 = .ok (.iload_n 2, 1) := by decide +kernel
theorem d_PC_table_14 : decode prog_1_method_19_code 14 = .ok (.iconst 1, 1) := by decide +kernel
theorem d_PC_table_15 : decode prog_1_method_19_code 15 = .ok (.bipush 9, 2) := by decide +kernel
theorem d_PC_table_17 : decode prog_1_method_19_code 17 = .ok (.invokestatic 76, 3) := by decide +kernel
theorem d_PC_table_20 : decode prog_1_method_19_code 20 = .ok (.ifCond .eq 6, 3) := by decide +kernel
theorem d_PC_table_23 : decode prog_1_method_19_code 23 = .ok (.bipush (-102), 2) := by decide +kernel
theorem d_PC_table_25 : decode prog_1_method_19_code 25 = .ok (.ireturn, 1) := by decide +kernel
theorem d_PC_table_26 : decode prog_1_method_19_code 26 = .ok (.aload_n 3, 1) := by decide +kernel
theorem d_PC_table_27 : decode prog_1_method_19_code 27 = .ok (.getfield 101, 3) := by decide +kernel
theorem d_PC_table_30 : decode prog_1_method_19_code 30 = .ok (.iconst 4, 1) := by decide +kernel
theorem d_PC_table_31 : decode prog_1_method_19_code 31 = .ok (.if_icmp .ne 6, 3) := by decide +kernel
theorem d_PC_table_34 : decode prog_1_method_19_code 34 = .ok (.bipush (-103), 2) := by decide +kernel
theorem d_PC_table_36 : decode prog_1_method_19_code 36 = .ok (.ireturn, 1) := by decide +kernel
theorem d_PC_table_37 : decode prog_1_method_19_code 37 = .ok (.aload_n 0, 1) := by decide +kernel
theorem d_PC_table_38 : decode prog_1_method_19_code 38 = .ok (.getfield 49, 3) := by decide +kernel
theorem d_PC_table_41 : decode prog_1_method_19_code 41 = .ok (.aload_n 3, 1) := by decide +kernel
theorem d_PC_table_42 : decode prog_1_method_19_code 42 = .ok (.iload_n 2, 1) := by decide +kernel
theorem d_PC_table_43 : decode prog_1_method_19_code 43 = .ok (.invokevirtual 195, 3) := by decide +kernel
theorem d_PC_table_46 : decode prog_1_method_19_code 46 = .ok (.aload_n 0, 1) := by decide +kernel
theorem d_PC_table_47 : decode prog_1_method_19_code 47 = .ok (.getfield 49, 3) := by decide +kernel
theorem d_PC_table_50 : decode prog_1_method_19_code 50 = .ok (.getfield 198, 3) := by decide +kernel
theorem d_PC_table_53 : decode prog_1_method_19_code 53 = .ok (.ireturn, 1) := by decide +kernel
theorem d_Table_partWithPrefix_0 : decode prog_10_method_7_code 0 = .ok (.iconst 0, 1) := by decide +kernel
theorem d_Table_partWithPrefix_1 : decode prog_10_method_7_code 1 = .ok (.istore_n 2, 1) := by decide +kernel
theorem d_Table_partWithPrefix_2 : decode prog_10_method_7_code 2 = .ok (.iload_n 2, 1) := by decide +kernel
theorem d_Table_partWithPrefix_3 : decode prog_10_method_7_code 3 = .ok (.aload_n 0, 1) := by decide +kernel
theorem d_Table_partWithPrefix_4 : decode prog_10_method_7_code 4 = .ok (.getfield 31, 3) := by decide +kernel
theorem d_Table_partWithPrefix_7 : decode prog_10_method_7_code 7 = .ok (.if_icmp .ge 21, 3) := by decide +kernel
theorem d_Table_partWithPrefix_10 : decode prog_10_method_7_code 10 = .ok (.aload_n 0, 1) := by decide +kernel
theorem d_Table_partWithPrefix_11 : decode prog_10_method_7_code 11 = .ok (.getfield 34, 3) := by decide +kernel
theorem d_Table_partWithPrefix_14 : decode prog_10_method_7_code 14 = .ok (.iload_n 2, 1) := by decide +kernel
theorem d_Table_partWithPrefix_15 : decode prog_10_method_7_code 15 = .ok (.iaload, 1) := by decide +kernel
theorem d_Table_partWithPrefix_16 : decode prog_10_method_7_code 16 = .ok (.iload_n 1, 1) := by decide +kernel
theorem d_Table_partWithPrefix_17 : decode prog_10_method_7_code 17 = .ok (.if_icmp .ne 5, 3) := by decide +kernel
theorem d_Table_partWithPrefix_20 : decode prog_10_method_7_code 20 = .ok (.iload_n 2, 1) := by decide +kernel
theorem d_Table_partWithPrefix_21 : decode prog_10_method_7_code 21 = .ok (.ireturn, 1) := by decide +kernel
theorem d_Table_partWithPrefix_22 : decode prog_10_method_7_code 22 = .ok (.iinc 2 1, 3) := by decide +kernel
theorem d_Table_partWithPrefix_25 : decode prog_10_method_7_code 25 = .ok (.goto (-23), 3) := by decide +kernel
theorem d_Table_partWithPrefix_28 : decode prog_10_method_7_code 28 = .ok (.iconst (-1), 1) := by decide +kernel
theorem d_Table_partWithPrefix_29 : decode prog_10_method_7_code 29 = .ok (.ireturn, 1) := by decide +kernel
theorem d_Table_pick_0 : decode prog_10_method_6_code 0 = .ok (.iload_n 0, 1) := by decide +kernel
theorem d_Table_pick_1 : decode prog_10_method_6_code 1 = .ok (.ifCond .ne 5, 3) := by decide +kernel
theorem d_Table_pick_4 : decode prog_10_method_6_code 4 = .ok (.iload_n 1, 1) := by decide +kernel
theorem d_Table_pick_5 : decode prog_10_method_6_code 5 = .ok (.ireturn, 1) := by decide +kernel
theorem d_Table_pick_6 : decode prog_10_method_6_code 6 = .ok (.iload_n 0, 1) := by decide +kernel
theorem d_Table_pick_7 : decode prog_10_method_6_code 7 = .ok (.iconst 1, 1) := by decide +kernel
theorem d_Table_pick_8 : decode prog_10_method_6_code 8 = .ok (.if_icmp .ne 7, 3) := by decide +kernel
theorem d_Table_pick_11 : decode prog_10_method_6_code 11 = .ok (.iload_n 2, 1) := by decide +kernel
theorem d_Table_pick_12 : decode prog_10_method_6_code 12 = .ok (.goto 4, 3) := by decide +kernel
theorem d_Table_pick_15 : decode prog_10_method_6_code 15 = .ok (.iload_n 3, 1) := by decide +kernel
theorem d_Table_pick_16 : decode prog_10_method_6_code 16 = .ok (.ireturn, 1) := by decide +kernel
theorem d_Table_wordFor_0 : decode prog_10_method_9_code 0 = .ok (.iconst 0, 1) := by decide +kernel
theorem d_Table_wordFor_1 : decode prog_10_method_9_code 1 = .ok (.istore_n 3, 1) := by decide +kernel
theorem d_Table_wordFor_2 : decode prog_10_method_9_code 2 = .ok (.iload_n 3, 1) := by decide +kernel
theorem d_Table_wordFor_3 : decode prog_10_method_9_code 3 = .ok (.aload_n 0, 1) := by decide +kernel
theorem d_Table_wordFor_4 : decode prog_10_method_9_code 4 = .ok (.getfield 18, 3) := by decide +kernel
theorem d_Table_wordFor_7 : decode prog_10_method_9_code 7 = .ok (.if_icmp .ge 40, 3) := by decide +kernel
theorem d_Table_wordFor_10 : decode prog_10_method_9_code 10 = .ok (.aload_n 0, 1) := by decide +kernel
theorem d_Table_wordFor_11 : decode prog_10_method_9_code 11 = .ok (.getfield 25, 3) := by decide +kernel
theorem d_Table_wordFor_14 : decode prog_10_method_9_code 14 = .ok (.iload_n 3, 1) := by decide +kernel
theorem d_Table_wordFor_15 : decode prog_10_method_9_code 15 = .ok (.iaload, 1) := by decide +kernel
theorem d_Table_wordFor_16 : decode prog_10_method_9_code 16 = .ok (.iload_n 2, 1) := by decide +kernel
theorem d_Table_wordFor_17 : decode prog_10_method_9_code 17 = .ok (.if_icmp .gt 24, 3) := by decide +kernel
theorem d_Table_wordFor_20 : decode prog_10_method_9_code 20 = .ok (.aload_n 0, 1) := by decide +kernel
theorem d_Table_wordFor_21 : decode prog_10_method_9_code 21 = .ok (.getfield 28, 3) := by decide +kernel
theorem d_Table_wordFor_24 : decode prog_10_method_9_code 24 = .ok (.iload_n 3, 1) := by decide +kernel
theorem d_Table_wordFor_25 : decode prog_10_method_9_code 25 = .ok (.iaload, 1) := by decide +kernel
theorem d_Table_wordFor_26 : decode prog_10_method_9_code 26 = .ok (.iload_n 1, 1) := by decide +kernel
theorem d_Table_wordFor_27 : decode prog_10_method_9_code 27 = .ok (.iload_n 2, 1) := by decide +kernel
theorem d_Table_wordFor_28 : decode prog_10_method_9_code 28 = .ok (.aload_n 0, 1) := by decide +kernel
theorem d_Table_wordFor_29 : decode prog_10_method_9_code 29 = .ok (.getfield 25, 3) := by decide +kernel
theorem d_Table_wordFor_32 : decode prog_10_method_9_code 32 = .ok (.iload_n 3, 1) := by decide +kernel
theorem d_Table_wordFor_33 : decode prog_10_method_9_code 33 = .ok (.iaload, 1) := by decide +kernel
theorem d_Table_wordFor_34 : decode prog_10_method_9_code 34 = .ok (.isub, 1) := by decide +kernel
theorem d_Table_wordFor_35 : decode prog_10_method_9_code 35 = .ok (.iushr, 1) := by decide +kernel
theorem d_Table_wordFor_36 : decode prog_10_method_9_code 36 = .ok (.if_icmp .ne 5, 3) := by decide +kernel
theorem d_Table_wordFor_39 : decode prog_10_method_9_code 39 = .ok (.iload_n 3, 1) := by decide +kernel
theorem d_Table_wordFor_40 : decode prog_10_method_9_code 40 = .ok (.ireturn, 1) := by decide +kernel
theorem d_Table_wordFor_41 : decode prog_10_method_9_code 41 = .ok (.iinc 3 1, 3) := by decide +kernel
theorem d_Table_wordFor_44 : decode prog_10_method_9_code 44 = .ok (.goto (-42), 3) := by decide +kernel
theorem d_Table_wordFor_47 : decode prog_10_method_9_code 47 = .ok (.iconst (-1), 1) := by decide +kernel
theorem d_Table_wordFor_48 : decode prog_10_method_9_code 48 = .ok (.ireturn, 1) := by decide +kernel
theorem d_Table_tellWord_0 : decode prog_10_method_5_code 0 = .ok (.iload_n 1, 1) := by decide +kernel
theorem d_Table_tellWord_1 : decode prog_10_method_5_code 1 = .ok (.ifCond .ge 13, 3) := by decide +kernel
theorem d_Table_tellWord_4 : decode prog_10_method_5_code 4 = .ok (.iload_n 2, 1) := by decide +kernel
theorem d_Table_tellWord_5 : decode prog_10_method_5_code 5 = .ok (.iconst 0, 1) := by decide +kernel
theorem d_Table_tellWord_6 : decode prog_10_method_5_code 6 = .ok (.iconst (-1), 1) := by decide +kernel
theorem d_Table_tellWord_7 : decode prog_10_method_5_code 7 = .ok (.iconst 0, 1) := by decide +kernel
theorem d_Table_tellWord_8 : decode prog_10_method_5_code 8 = .ok (.invokestatic 62, 3) := by decide +kernel
theorem d_Table_tellWord_11 : decode prog_10_method_5_code 11 = .ok (.goto 20, 3) := by decide +kernel
theorem d_Table_tellWord_14 : decode prog_10_method_5_code 14 = .ok (.iload_n 2, 1) := by decide +kernel
theorem d_Table_tellWord_15 : decode prog_10_method_5_code 15 = .ok (.iconst 1, 1) := by decide +kernel
theorem d_Table_tellWord_16 : decode prog_10_method_5_code 16 = .ok (.aload_n 0, 1) := by decide +kernel
theorem d_Table_tellWord_17 : decode prog_10_method_5_code 17 = .ok (.getfield 21, 3) := by decide +kernel
theorem d_Table_tellWord_20 : decode prog_10_method_5_code 20 = .ok (.iload_n 1, 1) := by decide +kernel
theorem d_Table_tellWord_21 : decode prog_10_method_5_code 21 = .ok (.iaload, 1) := by decide +kernel
theorem d_Table_tellWord_22 : decode prog_10_method_5_code 22 = .ok (.aload_n 0, 1) := by decide +kernel
theorem d_Table_tellWord_23 : decode prog_10_method_5_code 23 = .ok (.getfield 25, 3) := by decide +kernel
theorem d_Table_tellWord_26 : decode prog_10_method_5_code 26 = .ok (.iload_n 1, 1) := by decide +kernel
theorem d_Table_tellWord_27 : decode prog_10_method_5_code 27 = .ok (.iaload, 1) := by decide +kernel
theorem d_Table_tellWord_28 : decode prog_10_method_5_code 28 = .ok (.invokestatic 62, 3) := by decide +kernel
theorem d_Table_tellWord_31 : decode prog_10_method_5_code 31 = .ok (.ireturn, 1) := by decide +kernel
theorem d_Table_partAround_0 : decode prog_10_method_8_code 0 = .ok (.iconst 0, 1) := by decide +kernel
theorem d_Table_partAround_1 : decode prog_10_method_8_code 1 = .ok (.istore_n 2, 1) := by decide +kernel
theorem d_Table_partAround_2 : decode prog_10_method_8_code 2 = .ok (.iload_n 2, 1) := by decide +kernel
theorem d_Table_partAround_3 : decode prog_10_method_8_code 3 = .ok (.aload_n 0, 1) := by decide +kernel
theorem d_Table_partAround_4 : decode prog_10_method_8_code 4 = .ok (.getfield 31, 3) := by decide +kernel
theorem d_Table_partAround_7 : decode prog_10_method_8_code 7 = .ok (.if_icmp .ge 40, 3) := by decide +kernel
theorem d_Table_partAround_10 : decode prog_10_method_8_code 10 = .ok (.iload_n 1, 1) := by decide +kernel
theorem d_Table_partAround_11 : decode prog_10_method_8_code 11 = .ok (.aload_n 0, 1) := by decide +kernel
theorem d_Table_partAround_12 : decode prog_10_method_8_code 12 = .ok (.getfield 40, 3) := by decide +kernel
theorem d_Table_partAround_15 : decode prog_10_method_8_code 15 = .ok (.iload_n 2, 1) := by decide +kernel
theorem d_Table_partAround_16 : decode prog_10_method_8_code 16 = .ok (.iaload, 1) := by decide +kernel
theorem d_Table_partAround_17 : decode prog_10_method_8_code 17 = .ok (.if_icmp .lt 24, 3) := by decide +kernel
theorem d_Table_partAround_20 : decode prog_10_method_8_code 20 = .ok (.iload_n 1, 1) := by decide +kernel
theorem d_Table_partAround_21 : decode prog_10_method_8_code 21 = .ok (.aload_n 0, 1) := by decide +kernel
theorem d_Table_partAround_22 : decode prog_10_method_8_code 22 = .ok (.getfield 40, 3) := by decide +kernel
theorem d_Table_partAround_25 : decode prog_10_method_8_code 25 = .ok (.iload_n 2, 1) := by decide +kernel
theorem d_Table_partAround_26 : decode prog_10_method_8_code 26 = .ok (.iaload, 1) := by decide +kernel
theorem d_Table_partAround_27 : decode prog_10_method_8_code 27 = .ok (.iconst 1, 1) := by decide +kernel
theorem d_Table_partAround_28 : decode prog_10_method_8_code 28 = .ok (.aload_n 0, 1) := by decide +kernel
theorem d_Table_partAround_29 : decode prog_10_method_8_code 29 = .ok (.getfield 37, 3) := by decide +kernel
theorem d_Table_partAround_32 : decode prog_10_method_8_code 32 = .ok (.iload_n 2, 1) := by decide +kernel
theorem d_Table_partAround_33 : decode prog_10_method_8_code 33 = .ok (.iaload, 1) := by decide +kernel
theorem d_Table_partAround_34 : decode prog_10_method_8_code 34 = .ok (.ishl, 1) := by decide +kernel
theorem d_Table_partAround_35 : decode prog_10_method_8_code 35 = .ok (.iadd, 1) := by decide +kernel
theorem d_Table_partAround_36 : decode prog_10_method_8_code 36 = .ok (.if_icmp .ge 5, 3) := by decide +kernel
theorem d_Table_partAround_39 : decode prog_10_method_8_code 39 = .ok (.iload_n 2, 1) := by decide +kernel
theorem d_Table_partAround_40 : decode prog_10_method_8_code 40 = .ok (.ireturn, 1) := by decide +kernel
theorem d_Table_partAround_41 : decode prog_10_method_8_code 41 = .ok (.iinc 2 1, 3) := by decide +kernel
theorem d_Table_partAround_44 : decode prog_10_method_8_code 44 = .ok (.goto (-42), 3) := by decide +kernel
theorem d_Table_partAround_47 : decode prog_10_method_8_code 47 = .ok (.iconst (-1), 1) := by decide +kernel
theorem d_Table_partAround_48 : decode prog_10_method_8_code 48 = .ok (.ireturn, 1) := by decide +kernel
noncomputable def f_Manners_remove (σ : St) (a1 : Int32) (a2 : Int32) : Option (St × Int32) :=
  if a2 = 0 then
    b2 (f_Manners_removePlain σ a1) fun σ1 x2 =>
    some (σ1, x2)
  else
  if a2 = 1 then
    b2 (f_Manners_removeSteps σ a1) fun σ3 x4 =>
    some (σ3, x4)
  else
  b2 (f_Commands_remove σ 14 0 64 a1) fun σ5 x6 =>
  some (σ5, x6)
noncomputable def f_Stream_giveBack (σ : St) (a1 : Int32) : Option (St) :=
  b2 (f_Stream_placeOf σ (20000 - a1)) fun σ1 x2 =>
  nm (sI σ1 3 0 1 x2) fun σ3 =>
  nm (sI σ3 3 0 2 ((σ3.1 3 0 2) + a1)) fun σ4 =>
  some σ4
noncomputable def jn_Table_extendParts_22 (σ : St) (p1 : Int32) (p2 : Int32) : Option (St) :=
  gd (ib (σ.1 19 0 6) 64) <|
  nm (sI σ 23 0 ((σ.1 19 0 6).toNatClampNeg) p1) fun σ1 =>
  nm (sI σ1 19 0 6 ((σ1.1 19 0 6) + 1)) fun σ2 =>
  gd (ib ((σ2.1 19 0 6) - 1) 64) <|
  nm (sI σ2 24 0 (((σ2.1 19 0 6) - 1).toNatClampNeg) p2) fun σ3 =>
  some σ3
noncomputable def f_Table_extendParts (σ : St) (a1 : Int32) (a2 : Int32) : Option (St) :=
  if (σ.1 19 0 6) = 0 then
    jn_Table_extendParts_22 σ a1 a2
  else
  gd (ib ((σ.1 19 0 6) - 1) 64) <|
  if (σ.1 23 0 ((σ.1 19 0 6) - 1).toNatClampNeg) = a1 then
    gd (ib ((σ.1 19 0 6) - 1) 64) <|
    nm (sI σ 24 0 (((σ.1 19 0 6) - 1).toNatClampNeg) a2) fun σ4 =>
    some σ4
  else
  jn_Table_extendParts_22 σ a1 a2
noncomputable def lb_Table_build_20 (ia1 : Nat) (σ : St) (v3 : Int32) : Option ((St × Int32) ⊕ ((St × Int32))) :=
  if (σ.1 19 0 2) ≤ v3 then
    some (.inr (σ, v3))
  else
  gd (ib v3 64) <|
  nm (σ.1 44 ia1 v3.toNatClampNeg) fun x4 =>
  gd (ib v3 64) <|
  nm (sI σ 20 0 (v3.toNatClampNeg) x4) fun σ5 =>
  gd (ib x4 64) <|
  gd (ib v3 64) <|
  nm (sI σ5 21 0 (v3.toNatClampNeg) (σ5.1 42 ia1 x4.toNatClampNeg)) fun σ6 =>
  gd (ib x4 64) <|
  gd (ib v3 64) <|
  nm (sI σ6 22 0 (v3.toNatClampNeg) (σ6.1 43 ia1 x4.toNatClampNeg)) fun σ7 =>
  gd (ib v3 64) <|
  if (σ7.1 21 0 v3.toNatClampNeg) ≤ (σ7.1 19 0 0) then
    nm (v3 + 1) fun x8 =>
    some (.inl (σ7, x8))
  else
  gd (ib v3 64) <|
  gd (ib v3 64) <|
  gd (ib v3 64) <|
  b1 (f_Table_extendParts σ7 (((σ7.1 22 0 v3.toNatClampNeg).toUInt32 >>> (((σ7.1 21 0 v3.toNatClampNeg) - (σ7.1 19 0 0)).toUInt32 &&& Int32.toUInt32 31)).toInt32) ((σ7.1 21 0 v3.toNatClampNeg) - (σ7.1 19 0 0))) fun σ9 =>
  nm (v3 + 1) fun x10 =>
  some (.inl (σ9, x10))
noncomputable def lb_Table_build_134 (σ : St) (v3 : Int32) : Option ((St × Int32) ⊕ ((St × Int32))) :=
  if (σ.1 19 0 6) ≤ v3 then
    some (.inr (σ, v3))
  else
  gd (ib v3 64) <|
  nm (sI σ 25 0 (v3.toNatClampNeg) (σ.1 19 0 1)) fun σ14 =>
  gd (ib v3 64) <|
  nm (sI σ14 19 0 1 ((σ14.1 19 0 1) + (1 <<< ((σ14.1 24 0 v3.toNatClampNeg) &&& 31)))) fun σ15 =>
  nm (v3 + 1) fun x16 =>
  some (.inl (σ15, x16))
noncomputable def f_Table_build (σ : St) (ia1 : Nat) (a2 : Int32) : Option (St) :=
  nm (sI σ 19 0 0 a2) fun σ1 =>
  nm (sI σ1 19 0 2 (σ1.1 41 ia1 8)) fun σ2 =>
  nm (sI σ2 19 0 6 0) fun σ3 =>
  b2 (lpE (fun q => lb_Table_build_20 ia1 q.1 q.2) (σ3, 0)) fun σ11 x12 =>
  nm (sI σ11 19 0 1 (1 <<< ((σ11.1 19 0 0) &&& 31))) fun σ13 =>
  b2 (lpE (fun q => lb_Table_build_134 q.1 q.2) (σ13, 0)) fun σ17 x18 =>
  some σ17
noncomputable def f_PC_table (σ : St) (a1 : Int32) (a2 : Int32) : Option (St × Int32) :=
  b2 (f_PC_codeAt σ a1) fun σ1 o2 =>
  on (o2) (
    some (σ1, (-101))
    ) fun j3 =>
  b2 (f_PC_isOutside σ1 a2 1 9) fun σ4 x5 =>
  if x5 = 0 then
    if (σ4.1 41 j3 10) = 4 then
      some (σ4, (-103))
    else
    b1 (f_Table_build σ4 j3 a2) fun σ6 =>
    some (σ6, σ6.1 19 0 1)
  else
  some (σ4, (-102))
noncomputable def lb_Table_partWithPrefix_2 (a1 : Int32) (σ : St) (v2 : Int32) : Option ((St × Int32) ⊕ ((St × Int32) ⊕ (St × Int32))) :=
  if (σ.1 19 0 6) ≤ v2 then
    some (.inr (.inl (σ, v2)))
  else
  gd (ib v2 64) <|
  if (σ.1 23 0 v2.toNatClampNeg) = a1 then
    some (.inr (.inr (σ, v2)))
  else
  nm (v2 + 1) fun x1 =>
  some (.inl (σ, x1))
noncomputable def f_Table_partWithPrefix (σ : St) (a1 : Int32) : Option (St × Int32) :=
  bs2 (lpE (fun q => lb_Table_partWithPrefix_2 a1 q.1 q.2) (σ, 0)) (fun z => some z) fun σ2 x3 =>
  some (σ2, (-1))
noncomputable def f_Table_pick (σ : St) (a1 : Int32) (a2 : Int32) (a3 : Int32) (a4 : Int32) : Option (St × Int32) :=
  if a1 = 0 then
    some (σ, a2)
  else
  if a1 = 1 then
    some (σ, a3)
  else
  some (σ, a4)
noncomputable def lb_Table_wordFor_2 (a1 : Int32) (a2 : Int32) (σ : St) (v3 : Int32) : Option ((St × Int32) ⊕ ((St × Int32) ⊕ (St × Int32))) :=
  if (σ.1 19 0 2) ≤ v3 then
    some (.inr (.inl (σ, v3)))
  else
  gd (ib v3 64) <|
  if a2 < (σ.1 21 0 v3.toNatClampNeg) then
    nm (v3 + 1) fun x1 =>
    some (.inl (σ, x1))
  else
  gd (ib v3 64) <|
  gd (ib v3 64) <|
  if (σ.1 22 0 v3.toNatClampNeg) = ((a1.toUInt32 >>> ((a2 - (σ.1 21 0 v3.toNatClampNeg)).toUInt32 &&& Int32.toUInt32 31)).toInt32) then
    some (.inr (.inr (σ, v3)))
  else
  nm (v3 + 1) fun x2 =>
  some (.inl (σ, x2))
noncomputable def f_Table_wordFor (σ : St) (a1 : Int32) (a2 : Int32) : Option (St × Int32) :=
  bs2 (lpE (fun q => lb_Table_wordFor_2 a1 a2 q.1 q.2) (σ, 0)) (fun z => some z) fun σ3 x4 =>
  some (σ3, (-1))
noncomputable def f_Table_tellWord (σ : St) (a1 : Int32) (a2 : Int32) : Option (St × Int32) :=
  if 0 ≤ a1 then
    gd (ib a1 64) <|
    gd (ib a1 64) <|
    b2 (f_Table_pick σ a2 1 (σ.1 20 0 a1.toNatClampNeg) (σ.1 21 0 a1.toNatClampNeg)) fun σ1 x2 =>
    some (σ1, x2)
  else
  b2 (f_Table_pick σ a2 0 (-1) 0) fun σ3 x4 =>
  some (σ3, x4)
noncomputable def lb_Table_partAround_2 (a1 : Int32) (σ : St) (v2 : Int32) : Option ((St × Int32) ⊕ ((St × Int32) ⊕ (St × Int32))) :=
  if (σ.1 19 0 6) ≤ v2 then
    some (.inr (.inl (σ, v2)))
  else
  gd (ib v2 64) <|
  if a1 < (σ.1 25 0 v2.toNatClampNeg) then
    nm (v2 + 1) fun x1 =>
    some (.inl (σ, x1))
  else
  gd (ib v2 64) <|
  gd (ib v2 64) <|
  if ((σ.1 25 0 v2.toNatClampNeg) + (1 <<< ((σ.1 24 0 v2.toNatClampNeg) &&& 31))) ≤ a1 then
    nm (v2 + 1) fun x2 =>
    some (.inl (σ, x2))
  else
  some (.inr (.inr (σ, v2)))
noncomputable def f_Table_partAround (σ : St) (a1 : Int32) : Option (St × Int32) :=
  bs2 (lpE (fun q => lb_Table_partAround_2 a1 q.1 q.2) (σ, 0)) (fun z => some z) fun σ3 x4 =>
  some (σ3, (-1))
set_option maxHeartbeats 4000000 in
set_option maxRecDepth 100000 in
theorem c_Manners_remove (l : Launch) (D : va_G) (aC : Nat → ClassId) (A : Nat → Prop) (ad : Nat → Nat → Nat) (n : Nat) (σ : St) (a1 : Int32) (a2 : Int32) (o : St × Int32) (h : f_Manners_remove σ a1 a2 = some o) : Met l y_Manners_remove w_Manners_remove rm_Manners_remove (va_Pc [.ref (ad 13 0), .int a1, .int a2] (Pre D aC A ad n σ)) (va_Qi (fun r (_ : Unit) => r = o.2) (fun _ t => Hold D aC A ad n o.1 t.heap) A) 0 0 A := by
  refine Met.ofW (cc := prog_5_method_3_code) (maxL := 3) (ret := (some .int)) (by decide) rfl ?_
  intro p e s m args below meth c s₁ B hml hv
  obtain ⟨hargs, hH, hK, hZ⟩ := hv
  have hx := B.exec
  have hb := B.bytes
  have hr := B.returns
  have hts := atoms_spec (ws := w_Manners_remove) B.pre
  have hg : ∀ w ∈ gW, w.before args s = true := fun w h => hts w (List.mem_cons_of_mem _ h)
  have hown : s.vm.findClass "PrefixCodes$Manners" = some m.cls := findClass_of_methodNamed B.named
  have hlocks := B.notSynchronized
  have hS : va_S A s.heap s.heap [] := va_S.rf
  have hl := lv_entry ([.ref (ad 13 0), .int a1, .int a2]) (n := 3) (Nat.le_of_ble_eq_true rfl)
  rw [show entryFrame m args 3 = entryFrame m (([.ref (ad 13 0), .int a1, .int a2] : List Value).toArray) 3 by rw [hargs], lg_entry_eq]
  generalize (lg_sl ([.ref (ad 13 0), .int a1, .int a2]) ++ List.replicate (3 - (lg_sl ([.ref (ad 13 0), .int a1, .int a2])).length) Slot.unset).toArray = ls at hl ⊢
  have hl : lv_has ls 3 [(0, .ref (ad 13 0)), (1, .int a1), (2, .int a2)] := hl
  generalize hQ0 : MQ below (va_Qi (fun r (_ : Unit) => r = o.2) (fun _ t => Hold D aC A ad n o.1 t.heap) A) args s 0 0 A = Q0
  unfold f_Manners_remove at h
  refine lv_iload_n hx hb d_Manners_remove_0 rfl (lv_at hl 2 rfl) ?_
  by_cases c1_0 : a2 = 0
  · have h := it h c1_0
    refine lv_lookup (tgt := 28) (off := 27) hx hb d_Manners_remove_1 (by decide +kernel) (by rw [c1_0]; decide +kernel) (by decide) ?_
    refine lv_aload_n hx hb d_Manners_remove_28 rfl (lv_at hl 0 rfl) ?_
    refine lv_iload_n hx hb d_Manners_remove_29 rfl (lv_at hl 1 rfl) ?_
    obtain ⟨qc, hc30, h⟩ := b2_some h
    obtain ⟨σ1, x2⟩ := qc
    have h := b2_at h
    refine st_Vi (As := [.int a1]) (rest := []) ⟨hx, hb, hml, hown, hg⟩ (c_Manners_removePlain l D aC A ad n _ a1 _ hc30) (cwG hg wd_258 wd_259 wd_260 wd_261 wd_215 yd_Manners_removePlain ⟨Nat.le_of_ble_eq_true rfl, Nat.le_of_ble_eq_true rfl⟩) hK hH hS hZ hd_13 rfl rfl rfl hl.1 rfl (Nat.le_of_ble_eq_true rfl) d_Manners_remove_30 ⟨Nat.zero_le _, Nat.zero_le _⟩ (fun H locs hH hS => ?_)
    cases h
    rw [← hQ0]
    exact W.iret hx hb hr (fun t ht hW => ⟨⟨_, (), rfl, rfl, by dsimp only; rw [ht]; exact hH⟩, hS.F ht⟩) hS.2.2 d_Manners_remove_33
  · have h := ie h c1_0
    by_cases c1_1 : a2 = 1
    · have h := it h c1_1
      refine lv_lookup (tgt := 34) (off := 33) hx hb d_Manners_remove_1 (by decide +kernel) (by rw [c1_1]; decide +kernel) (by decide) ?_
      refine lv_aload_n hx hb d_Manners_remove_34 rfl (lv_at hl 0 rfl) ?_
      refine lv_iload_n hx hb d_Manners_remove_35 rfl (lv_at hl 1 rfl) ?_
      obtain ⟨qc, hc36, h⟩ := b2_some h
      obtain ⟨σ3, x4⟩ := qc
      have h := b2_at h
      refine st_Vi (As := [.int a1]) (rest := []) ⟨hx, hb, hml, hown, hg⟩ (c_Manners_removeSteps l D aC A ad n _ a1 _ hc36) (cwG hg wd_262 wd_263 wd_264 wd_265 wd_215 yd_Manners_removeSteps ⟨Nat.le_of_ble_eq_true rfl, Nat.le_of_ble_eq_true rfl⟩) hK hH hS hZ hd_13 rfl rfl rfl hl.1 rfl (Nat.le_of_ble_eq_true rfl) d_Manners_remove_36 ⟨Nat.zero_le _, Nat.zero_le _⟩ (fun H locs hH hS => ?_)
      cases h
      rw [← hQ0]
      exact W.iret hx hb hr (fun t ht hW => ⟨⟨_, (), rfl, rfl, by dsimp only; rw [ht]; exact hH⟩, hS.F ht⟩) hS.2.2 d_Manners_remove_39
    · have h := ie h c1_1
      refine lv_lookup (tgt := 40) (off := 39) hx hb d_Manners_remove_1 (by decide +kernel) ((lv_osw c1_0 (by decide)).trans ((lv_osw c1_1 (by decide)).trans rfl)) (by decide) ?_
      refine lv_aload_n hx hb d_Manners_remove_40 rfl (lv_at hl 0 rfl) ?_
      refine st_get hx hb hg hown hK hH (f := 13) (i := 0) hd_13 rfl rfl u_Manners 1 (by decide) (hg _ wd_212) (v := .ref (ad 15 0)) rfl d_Manners_remove_41 ?_
      refine lv_aload_n hx hb d_Manners_remove_44 rfl (lv_at hl 0 rfl) ?_
      refine st_get hx hb hg hown hK hH (f := 13) (i := 0) hd_13 rfl rfl u_Manners 2 (by decide) (hg _ wd_239) (v := .ref (ad 14 0)) rfl d_Manners_remove_45 ?_
      refine lv_iload_n hx hb d_Manners_remove_48 rfl (lv_at hl 1 rfl) ?_
      obtain ⟨qc, hc49, h⟩ := b2_some h
      obtain ⟨σ5, x6⟩ := qc
      have h := b2_at h
      refine st_Vi (As := [.ref (ad 14 0), .int a1]) (rest := []) ⟨hx, hb, hml, hown, hg⟩ (c_Commands_remove l D aC A ad n _ 14 0 64 a1 rfl hd_14 _ hc49) (cwG hg wd_266 wd_267 wd_268 wd_269 wd_174 yd_Commands_remove ⟨Nat.le_of_ble_eq_true rfl, Nat.le_of_ble_eq_true rfl⟩) hK hH hS hZ hd_15 rfl rfl rfl hl.1 rfl (Nat.le_of_ble_eq_true rfl) d_Manners_remove_49 ⟨Nat.zero_le _, Nat.zero_le _⟩ (fun H locs hH hS => ?_)
      cases h
      rw [← hQ0]
      exact W.iret hx hb hr (fun t ht hW => ⟨⟨_, (), rfl, rfl, by dsimp only; rw [ht]; exact hH⟩, hS.F ht⟩) hS.2.2 d_Manners_remove_52
set_option maxHeartbeats 4000000 in
set_option maxRecDepth 100000 in
theorem c_Stream_giveBack (l : Launch) (D : va_G) (aC : Nat → ClassId) (A : Nat → Prop) (ad : Nat → Nat → Nat) (n : Nat) (σ : St) (a1 : Int32) (o : St) (h : f_Stream_giveBack σ a1 = some o) : Met l y_Stream_giveBack w_Stream_giveBack rm_Stream_giveBack (va_Pc [.ref (ad 3 0), .int a1] (Pre D aC A ad n σ)) (va_Qv (fun (_ : Unit) => True) (fun _ t => Hold D aC A ad n o t.heap) A) 0 0 A := by
  refine Met.ofW (cc := prog_9_method_12_code) (maxL := 2) (ret := none) (by decide) rfl ?_
  intro p e s m args below meth c s₁ B hml hv
  obtain ⟨hargs, hH, hK, hZ⟩ := hv
  have hx := B.exec
  have hb := B.bytes
  have hr := B.returns
  have hts := atoms_spec (ws := w_Stream_giveBack) B.pre
  have hg : ∀ w ∈ gW, w.before args s = true := fun w h => hts w (List.mem_cons_of_mem _ h)
  have hown : s.vm.findClass "PrefixCodes$Stream" = some m.cls := findClass_of_methodNamed B.named
  have hlocks := B.notSynchronized
  have hS : va_S A s.heap s.heap [] := va_S.rf
  have hl := lv_entry ([.ref (ad 3 0), .int a1]) (n := 2) (Nat.le_of_ble_eq_true rfl)
  rw [show entryFrame m args 2 = entryFrame m (([.ref (ad 3 0), .int a1] : List Value).toArray) 2 by rw [hargs], lg_entry_eq]
  generalize (lg_sl ([.ref (ad 3 0), .int a1]) ++ List.replicate (2 - (lg_sl ([.ref (ad 3 0), .int a1])).length) Slot.unset).toArray = ls at hl ⊢
  have hl : lv_has ls 2 [(0, .ref (ad 3 0)), (1, .int a1)] := hl
  generalize hQ0 : MQ below (va_Qv (fun (_ : Unit) => True) (fun _ t => Hold D aC A ad n o t.heap) A) args s 0 0 A = Q0
  unfold f_Stream_giveBack at h
  refine lv_aload_n hx hb d_Stream_giveBack_0 rfl (lv_at hl 0 rfl) ?_
  refine lv_aload_n hx hb d_Stream_giveBack_1 rfl (lv_at hl 0 rfl) ?_
  refine lv_sipush (v := 20000) hx hb d_Stream_giveBack_2 (by decide) ?_
  refine lv_iload_n hx hb d_Stream_giveBack_5 rfl (lv_at hl 1 rfl) ?_
  refine lv_isub hx hb d_Stream_giveBack_6 ?_
  obtain ⟨qc, hc7, h⟩ := b2_some h
  obtain ⟨σ1, x2⟩ := qc
  have h := b2_at h
  refine st_Vi (As := [.int (20000 - a1)]) (rest := [.ref (ad 3 0)]) ⟨hx, hb, hml, hown, hg⟩ (c_Stream_placeOf l D aC A ad n _ (20000 - a1) _ hc7) (cwG hg wd_117 wd_118 wd_120 wd_121 wd_119 yd_Stream_placeOf ⟨Nat.le_of_ble_eq_true rfl, Nat.le_of_ble_eq_true rfl⟩) hK hH hS hZ hd_3 rfl rfl rfl hl.1 rfl (Nat.le_of_ble_eq_true rfl) d_Stream_giveBack_7 ⟨Nat.zero_le _, Nat.zero_le _⟩ (fun H locs hH hS => ?_)
  refine st_put hx hb hg hown hK hH hS (f := 3) (i := 0) hd_3 rfl rfl u_Stream t_Stream t_Stream_ok n_Stream 1 (by decide) (hg _ wd_115) rfl rfl rfl d_Stream_giveBack_10 (fun σ3 H locs eσ3 hH hS => ?_)
  have h := nm_at eσ3 h
  refine lv_aload_n hx hb d_Stream_giveBack_13 rfl (lv_at hl 0 rfl) ?_
  refine lv_dup hx hb d_Stream_giveBack_14 rfl ?_
  refine st_get hx hb hg hown hK hH (f := 3) (i := 0) hd_3 rfl rfl u_Stream 2 (by decide) (hg _ wd_126) (v := .int (σ3.1 3 0 2)) rfl d_Stream_giveBack_15 ?_
  refine lv_iload_n hx hb d_Stream_giveBack_18 rfl (lv_at hl 1 rfl) ?_
  refine lv_iadd hx hb d_Stream_giveBack_19 ?_
  refine st_put hx hb hg hown hK hH hS (f := 3) (i := 0) hd_3 rfl rfl u_Stream t_Stream t_Stream_ok n_Stream 2 (by decide) (hg _ wd_126) rfl rfl rfl d_Stream_giveBack_20 (fun σ4 H locs eσ4 hH hS => ?_)
  have h := nm_at eσ4 h
  cases h
  rw [← hQ0]
  exact W.vret hx hb hr (fun t ht hW => ⟨⟨(), rfl, trivial, by dsimp only; rw [ht]; exact hH⟩, hS.F ht⟩) hS.2.2 d_Stream_giveBack_23
set_option maxHeartbeats 4000000 in
set_option maxRecDepth 100000 in
theorem c_Table_extendParts (l : Launch) (D : va_G) (aC : Nat → ClassId) (A : Nat → Prop) (ad : Nat → Nat → Nat) (n : Nat) (σ : St) (a1 : Int32) (a2 : Int32) (o : St) (h : f_Table_extendParts σ a1 a2 = some o) : Met l y_Table_extendParts w_Table_extendParts rm_Table_extendParts (va_Pc [.ref (ad 19 0), .int a1, .int a2] (Pre D aC A ad n σ)) (va_Qv (fun (_ : Unit) => True) (fun _ t => Hold D aC A ad n o t.heap) A) 0 0 A := by
  refine Met.ofW (cc := prog_10_method_3_code) (maxL := 3) (ret := none) (by decide) rfl ?_
  intro p e s m args below meth c s₁ B hml hv
  obtain ⟨hargs, hH, hK, hZ⟩ := hv
  have hx := B.exec
  have hb := B.bytes
  have hr := B.returns
  have hts := atoms_spec (ws := w_Table_extendParts) B.pre
  have hg : ∀ w ∈ gW, w.before args s = true := fun w h => hts w (List.mem_cons_of_mem _ h)
  have hown : s.vm.findClass "PrefixCodes$Table" = some m.cls := findClass_of_methodNamed B.named
  have hlocks := B.notSynchronized
  have hS : va_S A s.heap s.heap [] := va_S.rf
  have hl := lv_entry ([.ref (ad 19 0), .int a1, .int a2]) (n := 3) (Nat.le_of_ble_eq_true rfl)
  rw [show entryFrame m args 3 = entryFrame m (([.ref (ad 19 0), .int a1, .int a2] : List Value).toArray) 3 by rw [hargs], lg_entry_eq]
  generalize (lg_sl ([.ref (ad 19 0), .int a1, .int a2]) ++ List.replicate (3 - (lg_sl ([.ref (ad 19 0), .int a1, .int a2])).length) Slot.unset).toArray = ls at hl ⊢
  have hl : lv_has ls 3 [(0, .ref (ad 19 0)), (1, .int a1), (2, .int a2)] := hl
  generalize hQ0 : MQ below (va_Qv (fun (_ : Unit) => True) (fun _ t => Hold D aC A ad n o t.heap) A) args s 0 0 A = Q0
  unfold f_Table_extendParts at h
  have J22 : ∀ (σ : St) (p1 : Int32) (p2 : Int32) (H : Heap) (locs : List Loc) (ls : Array Slot), Hold D aC A ad n σ H → va_S A s.heap H locs → lv_has ls 3 [(0, .ref (ad 19 0)), (1, .int p1), (2, .int p2)] → jn_Table_extendParts_22 σ p1 p2 = some o → W p l e (headSpec w_Table_extendParts rm_Table_extendParts).room s m args below meth c H locs 0 0 Q0 (F0 m 22 ls []) := by
    intro σ p1 p2  H locs ls hH hS hl h
    unfold jn_Table_extendParts_22 at h
    refine lv_aload_n hx hb d_Table_extendParts_22 rfl (lv_at hl 0 rfl) ?_
    refine st_get hx hb hg hown hK hH (f := 19) (i := 0) hd_19 rfl rfl u_Table 7 (by decide) (hg _ wd_271) (v := .ref (ad 23 0)) rfl d_Table_extendParts_23 ?_
    refine lv_aload_n hx hb d_Table_extendParts_26 rfl (lv_at hl 0 rfl) ?_
    refine st_get hx hb hg hown hK hH (f := 19) (i := 0) hd_19 rfl rfl u_Table 6 (by decide) (hg _ wd_270) (v := .int (σ.1 19 0 6)) rfl d_Table_extendParts_27 ?_
    refine lv_iload_n hx hb d_Table_extendParts_30 rfl (lv_at hl 1 rfl) ?_
    obtain ⟨g31, h⟩ := gd_some h
    refine st_iast hx hb hK hH hS (f := 23) (i := 0) hd_23 rfl g31 d_Table_extendParts_31 (fun σ1 H locs eσ1 hH hS => ?_)
    have h := nm_at eσ1 h
    refine lv_aload_n hx hb d_Table_extendParts_32 rfl (lv_at hl 0 rfl) ?_
    refine lv_dup hx hb d_Table_extendParts_33 rfl ?_
    refine st_get hx hb hg hown hK hH (f := 19) (i := 0) hd_19 rfl rfl u_Table 6 (by decide) (hg _ wd_270) (v := .int (σ1.1 19 0 6)) rfl d_Table_extendParts_34 ?_
    refine lv_iconst (v := 1) hx hb d_Table_extendParts_37 (by decide) ?_
    refine lv_iadd hx hb d_Table_extendParts_38 ?_
    refine st_put hx hb hg hown hK hH hS (f := 19) (i := 0) hd_19 rfl rfl u_Table t_Table t_Table_ok n_Table 6 (by decide) (hg _ wd_270) rfl rfl rfl d_Table_extendParts_39 (fun σ2 H locs eσ2 hH hS => ?_)
    have h := nm_at eσ2 h
    refine lv_aload_n hx hb d_Table_extendParts_42 rfl (lv_at hl 0 rfl) ?_
    refine st_get hx hb hg hown hK hH (f := 19) (i := 0) hd_19 rfl rfl u_Table 8 (by decide) (hg _ wd_272) (v := .ref (ad 24 0)) rfl d_Table_extendParts_43 ?_
    refine lv_aload_n hx hb d_Table_extendParts_46 rfl (lv_at hl 0 rfl) ?_
    refine st_get hx hb hg hown hK hH (f := 19) (i := 0) hd_19 rfl rfl u_Table 6 (by decide) (hg _ wd_270) (v := .int (σ2.1 19 0 6)) rfl d_Table_extendParts_47 ?_
    refine lv_iconst (v := 1) hx hb d_Table_extendParts_50 (by decide) ?_
    refine lv_isub hx hb d_Table_extendParts_51 ?_
    refine lv_iload_n hx hb d_Table_extendParts_52 rfl (lv_at hl 2 rfl) ?_
    obtain ⟨g53, h⟩ := gd_some h
    refine st_iast hx hb hK hH hS (f := 24) (i := 0) hd_24 rfl g53 d_Table_extendParts_53 (fun σ3 H locs eσ3 hH hS => ?_)
    have h := nm_at eσ3 h
    cases h
    rw [← hQ0]
    exact W.vret hx hb hr (fun t ht hW => ⟨⟨(), rfl, trivial, by dsimp only; rw [ht]; exact hH⟩, hS.F ht⟩) hS.2.2 d_Table_extendParts_54
  refine lv_aload_n hx hb d_Table_extendParts_0 rfl (lv_at hl 0 rfl) ?_
  refine st_get hx hb hg hown hK hH (f := 19) (i := 0) hd_19 rfl rfl u_Table 6 (by decide) (hg _ wd_270) (v := .int (σ.1 19 0 6)) rfl d_Table_extendParts_1 ?_
  refine lv_if_eq (tgt := 22) hx hb d_Table_extendParts_4 (by decide) (fun c4 => ?_) (fun c4 => ?_)
  · have h := it h c4
    exact J22 σ a1 a2 _ _ ls hH hS (lv_sub hl [0, 1, 2] rfl) h
  · have h := ie h c4
    refine lv_aload_n hx hb d_Table_extendParts_7 rfl (lv_at hl 0 rfl) ?_
    refine st_get hx hb hg hown hK hH (f := 19) (i := 0) hd_19 rfl rfl u_Table 7 (by decide) (hg _ wd_271) (v := .ref (ad 23 0)) rfl d_Table_extendParts_8 ?_
    refine lv_aload_n hx hb d_Table_extendParts_11 rfl (lv_at hl 0 rfl) ?_
    refine st_get hx hb hg hown hK hH (f := 19) (i := 0) hd_19 rfl rfl u_Table 6 (by decide) (hg _ wd_270) (v := .int (σ.1 19 0 6)) rfl d_Table_extendParts_12 ?_
    refine lv_iconst (v := 1) hx hb d_Table_extendParts_15 (by decide) ?_
    refine lv_isub hx hb d_Table_extendParts_16 ?_
    obtain ⟨g17, h⟩ := gd_some h
    refine st_iald hx hb hK hH (f := 23) (i := 0) hd_23 rfl g17 d_Table_extendParts_17 ?_
    refine lv_iload_n hx hb d_Table_extendParts_18 rfl (lv_at hl 1 rfl) ?_
    refine lv_icmp_eq (tgt := 42) hx hb d_Table_extendParts_19 (by decide) (fun c19 => ?_) (fun c19 => ?_)
    · have h := it h c19
      refine lv_aload_n hx hb d_Table_extendParts_42 rfl (lv_at hl 0 rfl) ?_
      refine st_get hx hb hg hown hK hH (f := 19) (i := 0) hd_19 rfl rfl u_Table 8 (by decide) (hg _ wd_272) (v := .ref (ad 24 0)) rfl d_Table_extendParts_43 ?_
      refine lv_aload_n hx hb d_Table_extendParts_46 rfl (lv_at hl 0 rfl) ?_
      refine st_get hx hb hg hown hK hH (f := 19) (i := 0) hd_19 rfl rfl u_Table 6 (by decide) (hg _ wd_270) (v := .int (σ.1 19 0 6)) rfl d_Table_extendParts_47 ?_
      refine lv_iconst (v := 1) hx hb d_Table_extendParts_50 (by decide) ?_
      refine lv_isub hx hb d_Table_extendParts_51 ?_
      refine lv_iload_n hx hb d_Table_extendParts_52 rfl (lv_at hl 2 rfl) ?_
      obtain ⟨g53, h⟩ := gd_some h
      refine st_iast hx hb hK hH hS (f := 24) (i := 0) hd_24 rfl g53 d_Table_extendParts_53 (fun σ4 H locs eσ4 hH hS => ?_)
      have h := nm_at eσ4 h
      cases h
      rw [← hQ0]
      exact W.vret hx hb hr (fun t ht hW => ⟨⟨(), rfl, trivial, by dsimp only; rw [ht]; exact hH⟩, hS.F ht⟩) hS.2.2 d_Table_extendParts_54
    · have h := ie h c19
      exact J22 σ a1 a2 _ _ ls hH hS (lv_sub hl [0, 1, 2] rfl) h
set_option maxHeartbeats 4000000 in
set_option maxRecDepth 100000 in
theorem c_Table_build (l : Launch) (D : va_G) (aC : Nat → ClassId) (A : Nat → Prop) (ad : Nat → Nat → Nat) (n : Nat) (σ : St) (ia1 : Nat) (a2 : Int32) (hda1 : dm n 41 ia1) (o : St) (h : f_Table_build σ ia1 a2 = some o) : Met l y_Table_build w_Table_build rm_Table_build (va_Pc [.ref (ad 19 0), .ref (ad 41 ia1), .int a2] (Pre D aC A ad n σ)) (va_Qv (fun (_ : Unit) => True) (fun _ t => Hold D aC A ad n o t.heap) A) 0 0 A := by
  refine Met.ofW (cc := prog_10_method_2_code) (maxL := 5) (ret := none) (by decide) rfl ?_
  intro p e s m args below meth c s₁ B hml hv
  obtain ⟨hargs, hH, hK, hZ⟩ := hv
  have hx := B.exec
  have hb := B.bytes
  have hr := B.returns
  have hts := atoms_spec (ws := w_Table_build) B.pre
  have hg : ∀ w ∈ gW, w.before args s = true := fun w h => hts w (List.mem_cons_of_mem _ h)
  have hown : s.vm.findClass "PrefixCodes$Table" = some m.cls := findClass_of_methodNamed B.named
  have hlocks := B.notSynchronized
  have hS : va_S A s.heap s.heap [] := va_S.rf
  have hl := lv_entry ([.ref (ad 19 0), .ref (ad 41 ia1), .int a2]) (n := 5) (Nat.le_of_ble_eq_true rfl)
  rw [show entryFrame m args 5 = entryFrame m (([.ref (ad 19 0), .ref (ad 41 ia1), .int a2] : List Value).toArray) 5 by rw [hargs], lg_entry_eq]
  generalize (lg_sl ([.ref (ad 19 0), .ref (ad 41 ia1), .int a2]) ++ List.replicate (5 - (lg_sl ([.ref (ad 19 0), .ref (ad 41 ia1), .int a2])).length) Slot.unset).toArray = ls at hl ⊢
  have hl : lv_has ls 5 [(0, .ref (ad 19 0)), (1, .ref (ad 41 ia1)), (2, .int a2)] := hl
  generalize hQ0 : MQ below (va_Qv (fun (_ : Unit) => True) (fun _ t => Hold D aC A ad n o t.heap) A) args s 0 0 A = Q0
  unfold f_Table_build at h
  refine lv_aload_n hx hb d_Table_build_0 rfl (lv_at hl 0 rfl) ?_
  refine lv_iload_n hx hb d_Table_build_1 rfl (lv_at hl 2 rfl) ?_
  refine st_put hx hb hg hown hK hH hS (f := 19) (i := 0) hd_19 rfl rfl u_Table t_Table t_Table_ok n_Table 0 (by decide) (hg _ wd_273) rfl rfl rfl d_Table_build_2 (fun σ1 H locs eσ1 hH hS => ?_)
  have h := nm_at eσ1 h
  refine lv_aload_n hx hb d_Table_build_5 rfl (lv_at hl 0 rfl) ?_
  refine lv_aload_n hx hb d_Table_build_6 rfl (lv_at hl 1 rfl) ?_
  refine st_get hx hb hg hown hK hH (f := 41) (i := ia1) hda1 rfl rfl u_Code 8 (by decide) (hg _ wd_274) (v := .int (σ1.1 41 ia1 8)) rfl d_Table_build_7 ?_
  refine st_put hx hb hg hown hK hH hS (f := 19) (i := 0) hd_19 rfl rfl u_Table t_Table t_Table_ok n_Table 2 (by decide) (hg _ wd_275) rfl rfl rfl d_Table_build_10 (fun σ2 H locs eσ2 hH hS => ?_)
  have h := nm_at eσ2 h
  refine lv_aload_n hx hb d_Table_build_13 rfl (lv_at hl 0 rfl) ?_
  refine lv_iconst (v := 0) hx hb d_Table_build_14 (by decide) ?_
  refine st_put hx hb hg hown hK hH hS (f := 19) (i := 0) hd_19 rfl rfl u_Table t_Table t_Table_ok n_Table 6 (by decide) (hg _ wd_270) rfl rfl rfl d_Table_build_15 (fun σ3 H locs eσ3 hH hS => ?_)
  have h := nm_at eσ3 h
  refine lv_iconst (v := 0) hx hb d_Table_build_18 (by decide) ?_
  refine lv_istore_n (lv' := [(3, .int 0), (0, .ref (ad 19 0)), (1, .ref (ad 41 ia1)), (2, .int a2)]) hx hb d_Table_build_19 rfl hl (by decide) rfl (fun ls hl => ?_)
  obtain ⟨q1, hq1, h⟩ := b2_some h
  have K1 : ∀ (σ11 : St) (x12 : Int32) (H : Heap) (locs : List Loc) (ls : Array Slot), q1 = (σ11, x12) → Hold D aC A ad n σ11 H → va_S A s.heap H locs → lv_has ls 5 [(0, .ref (ad 19 0)), (1, .ref (ad 41 ia1)), (3, .int x12)] → W p l e (headSpec w_Table_build rm_Table_build).room s m args below meth c H locs 0 0 Q0 (F0 m 122 ls []) := by
    intro σ11 x12 H locs ls eq1 hH hS hl
    subst eq1
    have h := b2_at h
    refine lv_aload_n hx hb d_Table_build_122 rfl (lv_at hl 0 rfl) ?_
    refine lv_iconst (v := 1) hx hb d_Table_build_123 (by decide) ?_
    refine lv_aload_n hx hb d_Table_build_124 rfl (lv_at hl 0 rfl) ?_
    refine st_get hx hb hg hown hK hH (f := 19) (i := 0) hd_19 rfl rfl u_Table 0 (by decide) (hg _ wd_273) (v := .int (σ11.1 19 0 0)) rfl d_Table_build_125 ?_
    refine lv_ishl hx hb d_Table_build_128 ?_
    refine st_put hx hb hg hown hK hH hS (f := 19) (i := 0) hd_19 rfl rfl u_Table t_Table t_Table_ok n_Table 1 (by decide) (hg _ wd_282) rfl rfl rfl d_Table_build_129 (fun σ13 H locs eσ13 hH hS => ?_)
    have h := nm_at eσ13 h
    refine lv_iconst (v := 0) hx hb d_Table_build_132 (by decide) ?_
    refine lv_istore_n (lv' := [(3, .int 0), (0, .ref (ad 19 0)), (1, .ref (ad 41 ia1))]) hx hb d_Table_build_133 rfl hl (by decide) rfl (fun ls hl => ?_)
    obtain ⟨q1, hq1, h⟩ := b2_some h
    have K1 : ∀ (σ17 : St) (x18 : Int32) (H : Heap) (locs : List Loc) (ls : Array Slot), q1 = (σ17, x18) → Hold D aC A ad n σ17 H → va_S A s.heap H locs → lv_has ls 5 [(0, .ref (ad 19 0)), (3, .int x18)] → W p l e (headSpec w_Table_build rm_Table_build).room s m args below meth c H locs 0 0 Q0 (F0 m 175 ls []) := by
      intro σ17 x18 H locs ls eq1 hH hS hl
      subst eq1
      have h := b2_at h
      cases h
      rw [← hQ0]
      exact W.vret hx hb hr (fun t ht hW => ⟨⟨(), rfl, trivial, by dsimp only; rw [ht]; exact hH⟩, hS.F ht⟩) hS.2.2 d_Table_build_175
    have loop1 : ∀ (k : Nat) (σ : St) (v3 : Int32) (H : Heap) (locs : List Loc) (ls : Array Slot), Hold D aC A ad n σ H → va_S A s.heap H locs → lv_has ls 5 [(0, .ref (ad 19 0)), (3, .int v3)] → lp (fun q => lb_Table_build_134 q.1 q.2) k (σ, v3) = some q1 → W p l e (headSpec w_Table_build rm_Table_build).room s m args below meth c H locs 0 0 Q0 (F0 m 134 ls []) := by
      intro k
      induction k with
      | zero => intro σ v3 H locs ls hH hS hl hlp; exact absurd hlp (lp_zero _ _ _)
      | succ k ih1 =>
        intro σ v3 H locs ls hH hS hl hlp
        obtain ⟨z1, h1, hk1⟩ := lp_succ hlp
        have h1 : lb_Table_build_134 σ v3 = some z1 := h1
        unfold lb_Table_build_134 at h1
        refine lv_iload_n hx hb d_Table_build_134 rfl (lv_at hl 1 rfl) ?_
        refine lv_aload_n hx hb d_Table_build_135 rfl (lv_at hl 0 rfl) ?_
        refine st_get hx hb hg hown hK hH (f := 19) (i := 0) hd_19 rfl rfl u_Table 6 (by decide) (hg _ wd_270) (v := .int (σ.1 19 0 6)) rfl d_Table_build_136 ?_
        refine lv_icmp_ge (tgt := 175) hx hb d_Table_build_139 (by decide) (fun c139 => ?_) (fun c139 => ?_)
        · have h1 := it h1 c139
          cases h1
          exact K1 σ v3 _ _ ls (Option.some.inj hk1).symm hH hS (lv_sub hl [0, 1] rfl)
        · have h1 := ie h1 c139
          refine lv_aload_n hx hb d_Table_build_142 rfl (lv_at hl 0 rfl) ?_
          refine st_get hx hb hg hown hK hH (f := 19) (i := 0) hd_19 rfl rfl u_Table 9 (by decide) (hg _ wd_283) (v := .ref (ad 25 0)) rfl d_Table_build_143 ?_
          refine lv_iload_n hx hb d_Table_build_146 rfl (lv_at hl 1 rfl) ?_
          refine lv_aload_n hx hb d_Table_build_147 rfl (lv_at hl 0 rfl) ?_
          refine st_get hx hb hg hown hK hH (f := 19) (i := 0) hd_19 rfl rfl u_Table 1 (by decide) (hg _ wd_282) (v := .int (σ.1 19 0 1)) rfl d_Table_build_148 ?_
          obtain ⟨g151, h1⟩ := gd_some h1
          refine st_iast hx hb hK hH hS (f := 25) (i := 0) hd_25 rfl g151 d_Table_build_151 (fun σ14 H locs eσ14 hH hS => ?_)
          have h1 := nm_at eσ14 h1
          refine lv_aload_n hx hb d_Table_build_152 rfl (lv_at hl 0 rfl) ?_
          refine lv_dup hx hb d_Table_build_153 rfl ?_
          refine st_get hx hb hg hown hK hH (f := 19) (i := 0) hd_19 rfl rfl u_Table 1 (by decide) (hg _ wd_282) (v := .int (σ14.1 19 0 1)) rfl d_Table_build_154 ?_
          refine lv_iconst (v := 1) hx hb d_Table_build_157 (by decide) ?_
          refine lv_aload_n hx hb d_Table_build_158 rfl (lv_at hl 0 rfl) ?_
          refine st_get hx hb hg hown hK hH (f := 19) (i := 0) hd_19 rfl rfl u_Table 8 (by decide) (hg _ wd_272) (v := .ref (ad 24 0)) rfl d_Table_build_159 ?_
          refine lv_iload_n hx hb d_Table_build_162 rfl (lv_at hl 1 rfl) ?_
          obtain ⟨g163, h1⟩ := gd_some h1
          refine st_iald hx hb hK hH (f := 24) (i := 0) hd_24 rfl g163 d_Table_build_163 ?_
          refine lv_ishl hx hb d_Table_build_164 ?_
          refine lv_iadd hx hb d_Table_build_165 ?_
          refine st_put hx hb hg hown hK hH hS (f := 19) (i := 0) hd_19 rfl rfl u_Table t_Table t_Table_ok n_Table 1 (by decide) (hg _ wd_282) rfl rfl rfl d_Table_build_166 (fun σ15 H locs eσ15 hH hS => ?_)
          have h1 := nm_at eσ15 h1
          obtain ⟨x16, ex16⟩ : ∃ y : Int32, y = v3 + 1 := ⟨_, rfl⟩
          have h1 := nm_at ex16 h1
          refine lv_iinc (v := x16) (lv' := [(3, .int x16), (0, .ref (ad 19 0))]) hx hb d_Table_build_169 hl (k := 1) rfl (by rw [ex16]; rfl) (by decide) rfl (fun ls hl => ?_)
          refine lv_goto (tgt := 134) hx hb d_Table_build_172 (by decide) ?_
          cases h1
          exact ih1 σ15 x16 _ _ ls hH hS (lv_sub hl [1, 0] rfl) hk1
    obtain ⟨k1, hq1⟩ := lpE_some hq1
    exact loop1 k1 σ13 0 _ _ ls hH hS (lv_sub hl [1, 0] rfl) hq1
  have loop1 : ∀ (k : Nat) (σ : St) (v3 : Int32) (H : Heap) (locs : List Loc) (ls : Array Slot), Hold D aC A ad n σ H → va_S A s.heap H locs → lv_has ls 5 [(0, .ref (ad 19 0)), (1, .ref (ad 41 ia1)), (3, .int v3)] → lp (fun q => lb_Table_build_20 ia1 q.1 q.2) k (σ, v3) = some q1 → W p l e (headSpec w_Table_build rm_Table_build).room s m args below meth c H locs 0 0 Q0 (F0 m 20 ls []) := by
    intro k
    induction k with
    | zero => intro σ v3 H locs ls hH hS hl hlp; exact absurd hlp (lp_zero _ _ _)
    | succ k ih1 =>
      intro σ v3 H locs ls hH hS hl hlp
      obtain ⟨z1, h1, hk1⟩ := lp_succ hlp
      have h1 : lb_Table_build_20 ia1 σ v3 = some z1 := h1
      unfold lb_Table_build_20 at h1
      refine lv_iload_n hx hb d_Table_build_20 rfl (lv_at hl 2 rfl) ?_
      refine lv_aload_n hx hb d_Table_build_21 rfl (lv_at hl 0 rfl) ?_
      refine st_get hx hb hg hown hK hH (f := 19) (i := 0) hd_19 rfl rfl u_Table 2 (by decide) (hg _ wd_275) (v := .int (σ.1 19 0 2)) rfl d_Table_build_22 ?_
      refine lv_icmp_ge (tgt := 122) hx hb d_Table_build_25 (by decide) (fun c25 => ?_) (fun c25 => ?_)
      · have h1 := it h1 c25
        cases h1
        exact K1 σ v3 _ _ ls (Option.some.inj hk1).symm hH hS (lv_sub hl [0, 1, 2] rfl)
      · have h1 := ie h1 c25
        refine lv_aload_n hx hb d_Table_build_28 rfl (lv_at hl 1 rfl) ?_
        refine st_get hx hb hg hown hK hH (f := 41) (i := ia1) hda1 rfl rfl u_Code 3 (by decide) (hg _ wd_276) (v := .ref (ad 44 ia1)) rfl d_Table_build_29 ?_
        refine lv_iload_n hx hb d_Table_build_32 rfl (lv_at hl 2 rfl) ?_
        obtain ⟨g33, h1⟩ := gd_some h1
        refine st_iald hx hb hK hH (f := 44) (i := ia1) hda1 rfl g33 d_Table_build_33 ?_
        refine lv_topi (fun x4 ex4 => ?_)
        have h1 := nm_at ex4 h1
        refine lv_istore (lv' := [(4, .int x4), (0, .ref (ad 19 0)), (1, .ref (ad 41 ia1)), (3, .int v3)]) hx hb d_Table_build_34 hl (by decide) rfl (fun ls hl => ?_)
        refine lv_aload_n hx hb d_Table_build_36 rfl (lv_at hl 1 rfl) ?_
        refine st_get hx hb hg hown hK hH (f := 19) (i := 0) hd_19 rfl rfl u_Table 3 (by decide) (hg _ wd_277) (v := .ref (ad 20 0)) rfl d_Table_build_37 ?_
        refine lv_iload_n hx hb d_Table_build_40 rfl (lv_at hl 3 rfl) ?_
        refine lv_iload hx hb d_Table_build_41 (lv_at hl 0 rfl) ?_
        obtain ⟨g43, h1⟩ := gd_some h1
        refine st_iast hx hb hK hH hS (f := 20) (i := 0) hd_20 rfl g43 d_Table_build_43 (fun σ5 H locs eσ5 hH hS => ?_)
        have h1 := nm_at eσ5 h1
        refine lv_aload_n hx hb d_Table_build_44 rfl (lv_at hl 1 rfl) ?_
        refine st_get hx hb hg hown hK hH (f := 19) (i := 0) hd_19 rfl rfl u_Table 4 (by decide) (hg _ wd_278) (v := .ref (ad 21 0)) rfl d_Table_build_45 ?_
        refine lv_iload_n hx hb d_Table_build_48 rfl (lv_at hl 3 rfl) ?_
        refine lv_aload_n hx hb d_Table_build_49 rfl (lv_at hl 2 rfl) ?_
        refine st_get hx hb hg hown hK hH (f := 41) (i := ia1) hda1 rfl rfl u_Code 1 (by decide) (hg _ wd_279) (v := .ref (ad 42 ia1)) rfl d_Table_build_50 ?_
        refine lv_iload hx hb d_Table_build_53 (lv_at hl 0 rfl) ?_
        obtain ⟨g55, h1⟩ := gd_some h1
        refine st_iald hx hb hK hH (f := 42) (i := ia1) hda1 rfl g55 d_Table_build_55 ?_
        obtain ⟨g56, h1⟩ := gd_some h1
        refine st_iast hx hb hK hH hS (f := 21) (i := 0) hd_21 rfl g56 d_Table_build_56 (fun σ6 H locs eσ6 hH hS => ?_)
        have h1 := nm_at eσ6 h1
        refine lv_aload_n hx hb d_Table_build_57 rfl (lv_at hl 1 rfl) ?_
        refine st_get hx hb hg hown hK hH (f := 19) (i := 0) hd_19 rfl rfl u_Table 5 (by decide) (hg _ wd_280) (v := .ref (ad 22 0)) rfl d_Table_build_58 ?_
        refine lv_iload_n hx hb d_Table_build_61 rfl (lv_at hl 3 rfl) ?_
        refine lv_aload_n hx hb d_Table_build_62 rfl (lv_at hl 2 rfl) ?_
        refine st_get hx hb hg hown hK hH (f := 41) (i := ia1) hda1 rfl rfl u_Code 2 (by decide) (hg _ wd_281) (v := .ref (ad 43 ia1)) rfl d_Table_build_63 ?_
        refine lv_iload hx hb d_Table_build_66 (lv_at hl 0 rfl) ?_
        obtain ⟨g68, h1⟩ := gd_some h1
        refine st_iald hx hb hK hH (f := 43) (i := ia1) hda1 rfl g68 d_Table_build_68 ?_
        obtain ⟨g69, h1⟩ := gd_some h1
        refine st_iast hx hb hK hH hS (f := 22) (i := 0) hd_22 rfl g69 d_Table_build_69 (fun σ7 H locs eσ7 hH hS => ?_)
        have h1 := nm_at eσ7 h1
        refine lv_aload_n hx hb d_Table_build_70 rfl (lv_at hl 1 rfl) ?_
        refine st_get hx hb hg hown hK hH (f := 19) (i := 0) hd_19 rfl rfl u_Table 4 (by decide) (hg _ wd_278) (v := .ref (ad 21 0)) rfl d_Table_build_71 ?_
        refine lv_iload_n hx hb d_Table_build_74 rfl (lv_at hl 3 rfl) ?_
        obtain ⟨g75, h1⟩ := gd_some h1
        refine st_iald hx hb hK hH (f := 21) (i := 0) hd_21 rfl g75 d_Table_build_75 ?_
        refine lv_aload_n hx hb d_Table_build_76 rfl (lv_at hl 1 rfl) ?_
        refine st_get hx hb hg hown hK hH (f := 19) (i := 0) hd_19 rfl rfl u_Table 0 (by decide) (hg _ wd_273) (v := .int (σ7.1 19 0 0)) rfl d_Table_build_77 ?_
        refine lv_icmp_le (tgt := 116) hx hb d_Table_build_80 (by decide) (fun c80 => ?_) (fun c80 => ?_)
        · have h1 := it h1 c80
          obtain ⟨x8, ex8⟩ : ∃ y : Int32, y = v3 + 1 := ⟨_, rfl⟩
          have h1 := nm_at ex8 h1
          refine lv_iinc (v := x8) (lv' := [(3, .int x8), (4, .int x4), (0, .ref (ad 19 0)), (1, .ref (ad 41 ia1))]) hx hb d_Table_build_116 hl (k := 3) rfl (by rw [ex8]; rfl) (by decide) rfl (fun ls hl => ?_)
          refine lv_goto (tgt := 20) hx hb d_Table_build_119 (by decide) ?_
          cases h1
          exact ih1 σ7 x8 _ _ ls hH hS (lv_sub hl [2, 3, 0] rfl) hk1
        · have h1 := ie h1 c80
          refine lv_aload_n hx hb d_Table_build_83 rfl (lv_at hl 1 rfl) ?_
          refine lv_aload_n hx hb d_Table_build_84 rfl (lv_at hl 1 rfl) ?_
          refine st_get hx hb hg hown hK hH (f := 19) (i := 0) hd_19 rfl rfl u_Table 5 (by decide) (hg _ wd_280) (v := .ref (ad 22 0)) rfl d_Table_build_85 ?_
          refine lv_iload_n hx hb d_Table_build_88 rfl (lv_at hl 3 rfl) ?_
          obtain ⟨g89, h1⟩ := gd_some h1
          refine st_iald hx hb hK hH (f := 22) (i := 0) hd_22 rfl g89 d_Table_build_89 ?_
          refine lv_aload_n hx hb d_Table_build_90 rfl (lv_at hl 1 rfl) ?_
          refine st_get hx hb hg hown hK hH (f := 19) (i := 0) hd_19 rfl rfl u_Table 4 (by decide) (hg _ wd_278) (v := .ref (ad 21 0)) rfl d_Table_build_91 ?_
          refine lv_iload_n hx hb d_Table_build_94 rfl (lv_at hl 3 rfl) ?_
          obtain ⟨g95, h1⟩ := gd_some h1
          refine st_iald hx hb hK hH (f := 21) (i := 0) hd_21 rfl g95 d_Table_build_95 ?_
          refine lv_aload_n hx hb d_Table_build_96 rfl (lv_at hl 1 rfl) ?_
          refine st_get hx hb hg hown hK hH (f := 19) (i := 0) hd_19 rfl rfl u_Table 0 (by decide) (hg _ wd_273) (v := .int (σ7.1 19 0 0)) rfl d_Table_build_97 ?_
          refine lv_isub hx hb d_Table_build_100 ?_
          refine lv_iushr hx hb d_Table_build_101 rfl ?_
          refine lv_aload_n hx hb d_Table_build_102 rfl (lv_at hl 1 rfl) ?_
          refine st_get hx hb hg hown hK hH (f := 19) (i := 0) hd_19 rfl rfl u_Table 4 (by decide) (hg _ wd_278) (v := .ref (ad 21 0)) rfl d_Table_build_103 ?_
          refine lv_iload_n hx hb d_Table_build_106 rfl (lv_at hl 3 rfl) ?_
          obtain ⟨g107, h1⟩ := gd_some h1
          refine st_iald hx hb hK hH (f := 21) (i := 0) hd_21 rfl g107 d_Table_build_107 ?_
          refine lv_aload_n hx hb d_Table_build_108 rfl (lv_at hl 1 rfl) ?_
          refine st_get hx hb hg hown hK hH (f := 19) (i := 0) hd_19 rfl rfl u_Table 0 (by decide) (hg _ wd_273) (v := .int (σ7.1 19 0 0)) rfl d_Table_build_109 ?_
          refine lv_isub hx hb d_Table_build_112 ?_
          obtain ⟨qc, hc113, h1⟩ := b1_some h1
          obtain ⟨σ9, rfl⟩ : ∃ z, z = qc := ⟨_, rfl⟩
          have h1 := b1_at h1
          refine st_Vv (As := [.int (((σ7.1 22 0 v3.toNatClampNeg).toUInt32 >>> (((σ7.1 21 0 v3.toNatClampNeg) - (σ7.1 19 0 0)).toUInt32 &&& Int32.toUInt32 31)).toInt32), .int ((σ7.1 21 0 v3.toNatClampNeg) - (σ7.1 19 0 0))]) (rest := []) ⟨hx, hb, hml, hown, hg⟩ (c_Table_extendParts l D aC A ad n _ (((σ7.1 22 0 v3.toNatClampNeg).toUInt32 >>> (((σ7.1 21 0 v3.toNatClampNeg) - (σ7.1 19 0 0)).toUInt32 &&& Int32.toUInt32 31)).toInt32) ((σ7.1 21 0 v3.toNatClampNeg) - (σ7.1 19 0 0)) _ hc113) (cwG hg wd_284 wd_285 wd_287 wd_288 wd_286 yd_Table_extendParts ⟨Nat.le_of_ble_eq_true rfl, Nat.le_of_ble_eq_true rfl⟩) hK hH hS hZ hd_19 rfl rfl rfl hl.1 rfl (Nat.le_of_ble_eq_true rfl) d_Table_build_113 ⟨Nat.zero_le _, Nat.zero_le _⟩ (fun H locs hH hS => ?_)
          obtain ⟨x10, ex10⟩ : ∃ y : Int32, y = v3 + 1 := ⟨_, rfl⟩
          have h1 := nm_at ex10 h1
          refine lv_iinc (v := x10) (lv' := [(3, .int x10), (4, .int x4), (0, .ref (ad 19 0)), (1, .ref (ad 41 ia1))]) hx hb d_Table_build_116 hl (k := 3) rfl (by rw [ex10]; rfl) (by decide) rfl (fun ls hl => ?_)
          refine lv_goto (tgt := 20) hx hb d_Table_build_119 (by decide) ?_
          cases h1
          exact ih1 σ9 x10 _ _ ls hH hS (lv_sub hl [2, 3, 0] rfl) hk1
  obtain ⟨k1, hq1⟩ := lpE_some hq1
  exact loop1 k1 σ3 0 _ _ ls hH hS (lv_sub hl [1, 2, 0] rfl) hq1
set_option maxHeartbeats 4000000 in
set_option maxRecDepth 100000 in
theorem c_PC_table (l : Launch) (D : va_G) (aC : Nat → ClassId) (A : Nat → Prop) (ad : Nat → Nat → Nat) (n : Nat) (σ : St) (a1 : Int32) (a2 : Int32) (o : St × Int32) (h : f_PC_table σ a1 a2 = some o) : Met l y_PC_table w_PC_table rm_PC_table (va_Pc [.ref (ad 0 0), .int a1, .int a2] (Pre D aC A ad n σ)) (va_Qi (fun r (_ : Unit) => r = o.2) (fun _ t => Hold D aC A ad n o.1 t.heap) A) 0 0 A := by
  refine Met.ofW (cc := prog_1_method_19_code) (maxL := 4) (ret := (some .int)) (by decide) rfl ?_
  intro p e s m args below meth c s₁ B hml hv
  obtain ⟨hargs, hH, hK, hZ⟩ := hv
  have hx := B.exec
  have hb := B.bytes
  have hr := B.returns
  have hts := atoms_spec (ws := w_PC_table) B.pre
  have hg : ∀ w ∈ gW, w.before args s = true := fun w h => hts w (List.mem_cons_of_mem _ h)
  have hown : s.vm.findClass "PrefixCodes" = some m.cls := findClass_of_methodNamed B.named
  have hlocks := B.notSynchronized
  have hS : va_S A s.heap s.heap [] := va_S.rf
  have hl := lv_entry ([.ref (ad 0 0), .int a1, .int a2]) (n := 4) (Nat.le_of_ble_eq_true rfl)
  rw [show entryFrame m args 4 = entryFrame m (([.ref (ad 0 0), .int a1, .int a2] : List Value).toArray) 4 by rw [hargs], lg_entry_eq]
  generalize (lg_sl ([.ref (ad 0 0), .int a1, .int a2]) ++ List.replicate (4 - (lg_sl ([.ref (ad 0 0), .int a1, .int a2])).length) Slot.unset).toArray = ls at hl ⊢
  have hl : lv_has ls 4 [(0, .ref (ad 0 0)), (1, .int a1), (2, .int a2)] := hl
  generalize hQ0 : MQ below (va_Qi (fun r (_ : Unit) => r = o.2) (fun _ t => Hold D aC A ad n o.1 t.heap) A) args s 0 0 A = Q0
  unfold f_PC_table at h
  refine lv_aload_n hx hb d_PC_table_0 rfl (lv_at hl 0 rfl) ?_
  refine lv_iload_n hx hb d_PC_table_1 rfl (lv_at hl 1 rfl) ?_
  obtain ⟨qc, hc2, h⟩ := b2_some h
  obtain ⟨σ1, o2⟩ := qc
  have h := b2_at h
  refine st_Vq (As := [.int a1]) (rest := []) ⟨hx, hb, hml, hown, hg⟩ (c_PC_codeAt l D aC A ad n _ a1 _ hc2) (cwG hg wd_7 wd_8 wd_9 wd_10 wd_4 yd_PC_codeAt ⟨Nat.le_of_ble_eq_true rfl, Nat.le_of_ble_eq_true rfl⟩) hK hH hS hZ hd_0 rfl rfl rfl hl.1 rfl (Nat.le_of_ble_eq_true rfl) d_PC_table_2 ⟨Nat.zero_le _, Nat.zero_le _⟩ (fun c2 H locs hH hS => ?_) (fun j3 c2 hdj3 H locs hH hS => ?_)
  · have h := on_n h c2
    refine lv_astore_nN (lv' := [(3, .null), (0, .ref (ad 0 0)), (1, .int a1), (2, .int a2)]) hx hb d_PC_table_5 rfl hl (by decide) rfl (fun ls hl => ?_)
    refine lv_aload_nN hx hb d_PC_table_6 rfl (lv_at hl 0 rfl) ?_
    refine lv_ifnonnullN hx hb d_PC_table_7 ?_
    refine lv_bipush (v := (-101)) hx hb d_PC_table_10 (by decide) ?_
    cases h
    rw [← hQ0]
    exact W.iret hx hb hr (fun t ht hW => ⟨⟨_, (), rfl, rfl, by dsimp only; rw [ht]; exact hH⟩, hS.F ht⟩) hS.2.2 d_PC_table_12
  · have h := on_s h c2
    refine lv_astore_n (lv' := [(3, .ref (ad 41 j3)), (0, .ref (ad 0 0)), (1, .int a1), (2, .int a2)]) hx hb d_PC_table_5 rfl hl (by decide) rfl (fun ls hl => ?_)
    refine lv_aload_n hx hb d_PC_table_6 rfl (lv_at hl 0 rfl) ?_
    refine lv_ifnonnull (tgt := 13) hx hb d_PC_table_7 (by decide) ?_
    refine lv_iload_n hx hb d_PC_table_13 rfl (lv_at hl 3 rfl) ?_
    refine lv_iconst (v := 1) hx hb d_PC_table_14 (by decide) ?_
    refine lv_bipush (v := 9) hx hb d_PC_table_15 (by decide) ?_
    obtain ⟨qc, hc17, h⟩ := b2_some h
    obtain ⟨σ4, x5⟩ := qc
    have h := b2_at h
    refine st_Si (As := [.int a2, .int 1, .int 9]) (rest := []) ⟨hx, hb, hml, hown, hg⟩ (c_PC_isOutside l D aC A ad n _ a2 1 9 _ hc17) (cwGS hg wd_2 wd_3 wd_5 wd_4 yd_PC_isOutside ⟨Nat.le_of_ble_eq_true rfl, Nat.le_of_ble_eq_true rfl⟩) hK hH hS hZ rfl hl.1 rfl (Nat.le_of_ble_eq_true rfl) d_PC_table_17 ⟨Nat.zero_le _, Nat.zero_le _⟩ (fun H locs hH hS => ?_)
    refine lv_if_eq (tgt := 26) hx hb d_PC_table_20 (by decide) (fun c20 => ?_) (fun c20 => ?_)
    · have h := it h c20
      refine lv_aload_n hx hb d_PC_table_26 rfl (lv_at hl 0 rfl) ?_
      refine st_get hx hb hg hown hK hH (f := 41) (i := j3) hdj3 rfl rfl u_Code 10 (by decide) (hg _ wd_53) (v := .int (σ4.1 41 j3 10)) rfl d_PC_table_27 ?_
      refine lv_iconst (v := 4) hx hb d_PC_table_30 (by decide) ?_
      refine lv_icmp_ne (tgt := 37) hx hb d_PC_table_31 (by decide) (fun c31 => ?_) (fun c31 => ?_)
      · have h := ie h c31
        refine lv_aload_n hx hb d_PC_table_37 rfl (lv_at hl 1 rfl) ?_
        refine st_get hx hb hg hown hK hH (f := 0) (i := 0) hd_0 rfl rfl u_PC 6 (by decide) (hg _ wd_289) (v := .ref (ad 19 0)) rfl d_PC_table_38 ?_
        refine lv_aload_n hx hb d_PC_table_41 rfl (lv_at hl 0 rfl) ?_
        refine lv_iload_n hx hb d_PC_table_42 rfl (lv_at hl 3 rfl) ?_
        obtain ⟨qc, hc43, h⟩ := b1_some h
        obtain ⟨σ6, rfl⟩ : ∃ z, z = qc := ⟨_, rfl⟩
        have h := b1_at h
        refine st_Vv (As := [.ref (ad 41 j3), .int a2]) (rest := []) ⟨hx, hb, hml, hown, hg⟩ (c_Table_build l D aC A ad n _ j3 a2 hdj3 _ hc43) (cwG hg wd_291 wd_292 wd_293 wd_294 wd_286 yd_Table_build ⟨Nat.le_of_ble_eq_true rfl, Nat.le_of_ble_eq_true rfl⟩) hK hH hS hZ hd_19 rfl rfl rfl hl.1 rfl (Nat.le_of_ble_eq_true rfl) d_PC_table_43 ⟨Nat.zero_le _, Nat.zero_le _⟩ (fun H locs hH hS => ?_)
        refine lv_aload_n hx hb d_PC_table_46 rfl (lv_at hl 1 rfl) ?_
        refine st_get hx hb hg hown hK hH (f := 0) (i := 0) hd_0 rfl rfl u_PC 6 (by decide) (hg _ wd_289) (v := .ref (ad 19 0)) rfl d_PC_table_47 ?_
        refine st_get hx hb hg hown hK hH (f := 19) (i := 0) hd_19 rfl rfl u_Table 1 (by decide) (hg _ wd_290) (v := .int (σ6.1 19 0 1)) rfl d_PC_table_50 ?_
        cases h
        rw [← hQ0]
        exact W.iret hx hb hr (fun t ht hW => ⟨⟨_, (), rfl, rfl, by dsimp only; rw [ht]; exact hH⟩, hS.F ht⟩) hS.2.2 d_PC_table_53
      · have h := it h c31
        refine lv_bipush (v := (-103)) hx hb d_PC_table_34 (by decide) ?_
        cases h
        rw [← hQ0]
        exact W.iret hx hb hr (fun t ht hW => ⟨⟨_, (), rfl, rfl, by dsimp only; rw [ht]; exact hH⟩, hS.F ht⟩) hS.2.2 d_PC_table_36
    · have h := ie h c20
      refine lv_bipush (v := (-102)) hx hb d_PC_table_23 (by decide) ?_
      cases h
      rw [← hQ0]
      exact W.iret hx hb hr (fun t ht hW => ⟨⟨_, (), rfl, rfl, by dsimp only; rw [ht]; exact hH⟩, hS.F ht⟩) hS.2.2 d_PC_table_25
set_option maxHeartbeats 4000000 in
set_option maxRecDepth 100000 in
theorem c_Table_partWithPrefix (l : Launch) (D : va_G) (aC : Nat → ClassId) (A : Nat → Prop) (ad : Nat → Nat → Nat) (n : Nat) (σ : St) (a1 : Int32) (o : St × Int32) (h : f_Table_partWithPrefix σ a1 = some o) : Met l y_Table_partWithPrefix w_Table_partWithPrefix rm_Table_partWithPrefix (va_Pc [.ref (ad 19 0), .int a1] (Pre D aC A ad n σ)) (va_Qi (fun r (_ : Unit) => r = o.2) (fun _ t => Hold D aC A ad n o.1 t.heap) A) 0 0 A := by
  refine Met.ofW (cc := prog_10_method_7_code) (maxL := 3) (ret := (some .int)) (by decide) rfl ?_
  intro p e s m args below meth c s₁ B hml hv
  obtain ⟨hargs, hH, hK, hZ⟩ := hv
  have hx := B.exec
  have hb := B.bytes
  have hr := B.returns
  have hts := atoms_spec (ws := w_Table_partWithPrefix) B.pre
  have hg : ∀ w ∈ gW, w.before args s = true := fun w h => hts w (List.mem_cons_of_mem _ h)
  have hown : s.vm.findClass "PrefixCodes$Table" = some m.cls := findClass_of_methodNamed B.named
  have hlocks := B.notSynchronized
  have hS : va_S A s.heap s.heap [] := va_S.rf
  have hl := lv_entry ([.ref (ad 19 0), .int a1]) (n := 3) (Nat.le_of_ble_eq_true rfl)
  rw [show entryFrame m args 3 = entryFrame m (([.ref (ad 19 0), .int a1] : List Value).toArray) 3 by rw [hargs], lg_entry_eq]
  generalize (lg_sl ([.ref (ad 19 0), .int a1]) ++ List.replicate (3 - (lg_sl ([.ref (ad 19 0), .int a1])).length) Slot.unset).toArray = ls at hl ⊢
  have hl : lv_has ls 3 [(0, .ref (ad 19 0)), (1, .int a1)] := hl
  generalize hQ0 : MQ below (va_Qi (fun r (_ : Unit) => r = o.2) (fun _ t => Hold D aC A ad n o.1 t.heap) A) args s 0 0 A = Q0
  unfold f_Table_partWithPrefix at h
  refine lv_iconst (v := 0) hx hb d_Table_partWithPrefix_0 (by decide) ?_
  refine lv_istore_n (lv' := [(2, .int 0), (0, .ref (ad 19 0)), (1, .int a1)]) hx hb d_Table_partWithPrefix_1 rfl hl (by decide) rfl (fun ls hl => ?_)
  obtain ⟨q1, hq1, h⟩ := bs2_some h
  have K1 : ∀ (σ2 : St) (x3 : Int32) (H : Heap) (locs : List Loc) (ls : Array Slot), q1 = .inl (σ2, x3) → Hold D aC A ad n σ2 H → va_S A s.heap H locs → lv_has ls 3 [(0, .ref (ad 19 0)), (1, .int a1), (2, .int x3)] → W p l e (headSpec w_Table_partWithPrefix rm_Table_partWithPrefix).room s m args below meth c H locs 0 0 Q0 (F0 m 28 ls []) := by
    intro σ2 x3 H locs ls eq1 hH hS hl
    subst eq1
    have h := bs2_at h
    refine lv_iconst (v := (-1)) hx hb d_Table_partWithPrefix_28 (by decide) ?_
    cases h
    rw [← hQ0]
    exact W.iret hx hb hr (fun t ht hW => ⟨⟨_, (), rfl, rfl, by dsimp only; rw [ht]; exact hH⟩, hS.F ht⟩) hS.2.2 d_Table_partWithPrefix_29
  have loop1 : ∀ (k : Nat) (σ : St) (v2 : Int32) (H : Heap) (locs : List Loc) (ls : Array Slot), Hold D aC A ad n σ H → va_S A s.heap H locs → lv_has ls 3 [(0, .ref (ad 19 0)), (1, .int a1), (2, .int v2)] → lp (fun q => lb_Table_partWithPrefix_2 a1 q.1 q.2) k (σ, v2) = some q1 → W p l e (headSpec w_Table_partWithPrefix rm_Table_partWithPrefix).room s m args below meth c H locs 0 0 Q0 (F0 m 2 ls []) := by
    intro k
    induction k with
    | zero => intro σ v2 H locs ls hH hS hl hlp; exact absurd hlp (lp_zero _ _ _)
    | succ k ih1 =>
      intro σ v2 H locs ls hH hS hl hlp
      obtain ⟨z1, h1, hk1⟩ := lp_succ hlp
      have h1 : lb_Table_partWithPrefix_2 a1 σ v2 = some z1 := h1
      unfold lb_Table_partWithPrefix_2 at h1
      refine lv_iload_n hx hb d_Table_partWithPrefix_2 rfl (lv_at hl 2 rfl) ?_
      refine lv_aload_n hx hb d_Table_partWithPrefix_3 rfl (lv_at hl 0 rfl) ?_
      refine st_get hx hb hg hown hK hH (f := 19) (i := 0) hd_19 rfl rfl u_Table 6 (by decide) (hg _ wd_270) (v := .int (σ.1 19 0 6)) rfl d_Table_partWithPrefix_4 ?_
      refine lv_icmp_ge (tgt := 28) hx hb d_Table_partWithPrefix_7 (by decide) (fun c7 => ?_) (fun c7 => ?_)
      · have h1 := it h1 c7
        cases h1
        exact K1 σ v2 _ _ ls (Option.some.inj hk1).symm hH hS (lv_sub hl [0, 1, 2] rfl)
      · have h1 := ie h1 c7
        refine lv_aload_n hx hb d_Table_partWithPrefix_10 rfl (lv_at hl 0 rfl) ?_
        refine st_get hx hb hg hown hK hH (f := 19) (i := 0) hd_19 rfl rfl u_Table 7 (by decide) (hg _ wd_271) (v := .ref (ad 23 0)) rfl d_Table_partWithPrefix_11 ?_
        refine lv_iload_n hx hb d_Table_partWithPrefix_14 rfl (lv_at hl 2 rfl) ?_
        obtain ⟨g15, h1⟩ := gd_some h1
        refine st_iald hx hb hK hH (f := 23) (i := 0) hd_23 rfl g15 d_Table_partWithPrefix_15 ?_
        refine lv_iload_n hx hb d_Table_partWithPrefix_16 rfl (lv_at hl 1 rfl) ?_
        refine lv_icmp_ne (tgt := 22) hx hb d_Table_partWithPrefix_17 (by decide) (fun c17 => ?_) (fun c17 => ?_)
        · have h1 := ie h1 c17
          obtain ⟨x1, ex1⟩ : ∃ y : Int32, y = v2 + 1 := ⟨_, rfl⟩
          have h1 := nm_at ex1 h1
          refine lv_iinc (v := x1) (lv' := [(2, .int x1), (0, .ref (ad 19 0)), (1, .int a1)]) hx hb d_Table_partWithPrefix_22 hl (k := 2) rfl (by rw [ex1]; rfl) (by decide) rfl (fun ls hl => ?_)
          refine lv_goto (tgt := 2) hx hb d_Table_partWithPrefix_25 (by decide) ?_
          cases h1
          exact ih1 σ x1 _ _ ls hH hS (lv_sub hl [1, 2, 0] rfl) hk1
        · have h1 := it h1 c17
          refine lv_iload_n hx hb d_Table_partWithPrefix_20 rfl (lv_at hl 2 rfl) ?_
          cases h1
          have hk1 := Option.some.inj hk1
          subst hk1
          have h := bs2_r h
          cases h
          rw [← hQ0]
          exact W.iret hx hb hr (fun t ht hW => ⟨⟨_, (), rfl, rfl, by dsimp only; rw [ht]; exact hH⟩, hS.F ht⟩) hS.2.2 d_Table_partWithPrefix_21
  obtain ⟨k1, hq1⟩ := lpE_some hq1
  exact loop1 k1 σ 0 _ _ ls hH hS (lv_sub hl [1, 2, 0] rfl) hq1
set_option maxHeartbeats 4000000 in
set_option maxRecDepth 100000 in
theorem c_Table_pick (l : Launch) (D : va_G) (aC : Nat → ClassId) (A : Nat → Prop) (ad : Nat → Nat → Nat) (n : Nat) (σ : St) (a1 : Int32) (a2 : Int32) (a3 : Int32) (a4 : Int32) (o : St × Int32) (h : f_Table_pick σ a1 a2 a3 a4 = some o) : Met l y_Table_pick w_Table_pick rm_Table_pick (va_Pc [.int a1, .int a2, .int a3, .int a4] (Pre D aC A ad n σ)) (va_Qi (fun r (_ : Unit) => r = o.2) (fun _ t => Hold D aC A ad n o.1 t.heap) A) 0 0 A := by
  refine Met.ofW (cc := prog_10_method_6_code) (maxL := 4) (ret := (some .int)) (by decide) rfl ?_
  intro p e s m args below meth c s₁ B hml hv
  obtain ⟨hargs, hH, hK, hZ⟩ := hv
  have hx := B.exec
  have hb := B.bytes
  have hr := B.returns
  have hts := atoms_spec (ws := w_Table_pick) B.pre
  have hg : ∀ w ∈ gW, w.before args s = true := fun w h => hts w (List.mem_cons_of_mem _ h)
  have hown : s.vm.findClass "PrefixCodes$Table" = some m.cls := findClass_of_methodNamed B.named
  have hlocks := B.notSynchronized
  have hS : va_S A s.heap s.heap [] := va_S.rf
  have hl := lv_entry ([.int a1, .int a2, .int a3, .int a4]) (n := 4) (Nat.le_of_ble_eq_true rfl)
  rw [show entryFrame m args 4 = entryFrame m (([.int a1, .int a2, .int a3, .int a4] : List Value).toArray) 4 by rw [hargs], lg_entry_eq]
  generalize (lg_sl ([.int a1, .int a2, .int a3, .int a4]) ++ List.replicate (4 - (lg_sl ([.int a1, .int a2, .int a3, .int a4])).length) Slot.unset).toArray = ls at hl ⊢
  have hl : lv_has ls 4 [(0, .int a1), (1, .int a2), (2, .int a3), (3, .int a4)] := hl
  generalize hQ0 : MQ below (va_Qi (fun r (_ : Unit) => r = o.2) (fun _ t => Hold D aC A ad n o.1 t.heap) A) args s 0 0 A = Q0
  unfold f_Table_pick at h
  refine lv_iload_n hx hb d_Table_pick_0 rfl (lv_at hl 0 rfl) ?_
  refine lv_if_ne (tgt := 6) hx hb d_Table_pick_1 (by decide) (fun c1 => ?_) (fun c1 => ?_)
  · have h := ie h c1
    refine lv_iload_n hx hb d_Table_pick_6 rfl (lv_at hl 0 rfl) ?_
    refine lv_iconst (v := 1) hx hb d_Table_pick_7 (by decide) ?_
    refine lv_icmp_ne (tgt := 15) hx hb d_Table_pick_8 (by decide) (fun c8 => ?_) (fun c8 => ?_)
    · have h := ie h c8
      refine lv_iload_n hx hb d_Table_pick_15 rfl (lv_at hl 3 rfl) ?_
      cases h
      rw [← hQ0]
      exact W.iret hx hb hr (fun t ht hW => ⟨⟨_, (), rfl, rfl, by dsimp only; rw [ht]; exact hH⟩, hS.F ht⟩) hS.2.2 d_Table_pick_16
    · have h := it h c8
      refine lv_iload_n hx hb d_Table_pick_11 rfl (lv_at hl 2 rfl) ?_
      refine lv_goto (tgt := 16) hx hb d_Table_pick_12 (by decide) ?_
      cases h
      rw [← hQ0]
      exact W.iret hx hb hr (fun t ht hW => ⟨⟨_, (), rfl, rfl, by dsimp only; rw [ht]; exact hH⟩, hS.F ht⟩) hS.2.2 d_Table_pick_16
  · have h := it h c1
    refine lv_iload_n hx hb d_Table_pick_4 rfl (lv_at hl 1 rfl) ?_
    cases h
    rw [← hQ0]
    exact W.iret hx hb hr (fun t ht hW => ⟨⟨_, (), rfl, rfl, by dsimp only; rw [ht]; exact hH⟩, hS.F ht⟩) hS.2.2 d_Table_pick_5
set_option maxHeartbeats 4000000 in
set_option maxRecDepth 100000 in
theorem c_Table_wordFor (l : Launch) (D : va_G) (aC : Nat → ClassId) (A : Nat → Prop) (ad : Nat → Nat → Nat) (n : Nat) (σ : St) (a1 : Int32) (a2 : Int32) (o : St × Int32) (h : f_Table_wordFor σ a1 a2 = some o) : Met l y_Table_wordFor w_Table_wordFor rm_Table_wordFor (va_Pc [.ref (ad 19 0), .int a1, .int a2] (Pre D aC A ad n σ)) (va_Qi (fun r (_ : Unit) => r = o.2) (fun _ t => Hold D aC A ad n o.1 t.heap) A) 0 0 A := by
  refine Met.ofW (cc := prog_10_method_9_code) (maxL := 4) (ret := (some .int)) (by decide) rfl ?_
  intro p e s m args below meth c s₁ B hml hv
  obtain ⟨hargs, hH, hK, hZ⟩ := hv
  have hx := B.exec
  have hb := B.bytes
  have hr := B.returns
  have hts := atoms_spec (ws := w_Table_wordFor) B.pre
  have hg : ∀ w ∈ gW, w.before args s = true := fun w h => hts w (List.mem_cons_of_mem _ h)
  have hown : s.vm.findClass "PrefixCodes$Table" = some m.cls := findClass_of_methodNamed B.named
  have hlocks := B.notSynchronized
  have hS : va_S A s.heap s.heap [] := va_S.rf
  have hl := lv_entry ([.ref (ad 19 0), .int a1, .int a2]) (n := 4) (Nat.le_of_ble_eq_true rfl)
  rw [show entryFrame m args 4 = entryFrame m (([.ref (ad 19 0), .int a1, .int a2] : List Value).toArray) 4 by rw [hargs], lg_entry_eq]
  generalize (lg_sl ([.ref (ad 19 0), .int a1, .int a2]) ++ List.replicate (4 - (lg_sl ([.ref (ad 19 0), .int a1, .int a2])).length) Slot.unset).toArray = ls at hl ⊢
  have hl : lv_has ls 4 [(0, .ref (ad 19 0)), (1, .int a1), (2, .int a2)] := hl
  generalize hQ0 : MQ below (va_Qi (fun r (_ : Unit) => r = o.2) (fun _ t => Hold D aC A ad n o.1 t.heap) A) args s 0 0 A = Q0
  unfold f_Table_wordFor at h
  refine lv_iconst (v := 0) hx hb d_Table_wordFor_0 (by decide) ?_
  refine lv_istore_n (lv' := [(3, .int 0), (0, .ref (ad 19 0)), (1, .int a1), (2, .int a2)]) hx hb d_Table_wordFor_1 rfl hl (by decide) rfl (fun ls hl => ?_)
  obtain ⟨q1, hq1, h⟩ := bs2_some h
  have K1 : ∀ (σ3 : St) (x4 : Int32) (H : Heap) (locs : List Loc) (ls : Array Slot), q1 = .inl (σ3, x4) → Hold D aC A ad n σ3 H → va_S A s.heap H locs → lv_has ls 4 [(0, .ref (ad 19 0)), (1, .int a1), (2, .int a2), (3, .int x4)] → W p l e (headSpec w_Table_wordFor rm_Table_wordFor).room s m args below meth c H locs 0 0 Q0 (F0 m 47 ls []) := by
    intro σ3 x4 H locs ls eq1 hH hS hl
    subst eq1
    have h := bs2_at h
    refine lv_iconst (v := (-1)) hx hb d_Table_wordFor_47 (by decide) ?_
    cases h
    rw [← hQ0]
    exact W.iret hx hb hr (fun t ht hW => ⟨⟨_, (), rfl, rfl, by dsimp only; rw [ht]; exact hH⟩, hS.F ht⟩) hS.2.2 d_Table_wordFor_48
  have loop1 : ∀ (k : Nat) (σ : St) (v3 : Int32) (H : Heap) (locs : List Loc) (ls : Array Slot), Hold D aC A ad n σ H → va_S A s.heap H locs → lv_has ls 4 [(0, .ref (ad 19 0)), (1, .int a1), (2, .int a2), (3, .int v3)] → lp (fun q => lb_Table_wordFor_2 a1 a2 q.1 q.2) k (σ, v3) = some q1 → W p l e (headSpec w_Table_wordFor rm_Table_wordFor).room s m args below meth c H locs 0 0 Q0 (F0 m 2 ls []) := by
    intro k
    induction k with
    | zero => intro σ v3 H locs ls hH hS hl hlp; exact absurd hlp (lp_zero _ _ _)
    | succ k ih1 =>
      intro σ v3 H locs ls hH hS hl hlp
      obtain ⟨z1, h1, hk1⟩ := lp_succ hlp
      have h1 : lb_Table_wordFor_2 a1 a2 σ v3 = some z1 := h1
      unfold lb_Table_wordFor_2 at h1
      refine lv_iload_n hx hb d_Table_wordFor_2 rfl (lv_at hl 3 rfl) ?_
      refine lv_aload_n hx hb d_Table_wordFor_3 rfl (lv_at hl 0 rfl) ?_
      refine st_get hx hb hg hown hK hH (f := 19) (i := 0) hd_19 rfl rfl u_Table 2 (by decide) (hg _ wd_275) (v := .int (σ.1 19 0 2)) rfl d_Table_wordFor_4 ?_
      refine lv_icmp_ge (tgt := 47) hx hb d_Table_wordFor_7 (by decide) (fun c7 => ?_) (fun c7 => ?_)
      · have h1 := it h1 c7
        cases h1
        exact K1 σ v3 _ _ ls (Option.some.inj hk1).symm hH hS (lv_sub hl [0, 1, 2, 3] rfl)
      · have h1 := ie h1 c7
        refine lv_aload_n hx hb d_Table_wordFor_10 rfl (lv_at hl 0 rfl) ?_
        refine st_get hx hb hg hown hK hH (f := 19) (i := 0) hd_19 rfl rfl u_Table 4 (by decide) (hg _ wd_278) (v := .ref (ad 21 0)) rfl d_Table_wordFor_11 ?_
        refine lv_iload_n hx hb d_Table_wordFor_14 rfl (lv_at hl 3 rfl) ?_
        obtain ⟨g15, h1⟩ := gd_some h1
        refine st_iald hx hb hK hH (f := 21) (i := 0) hd_21 rfl g15 d_Table_wordFor_15 ?_
        refine lv_iload_n hx hb d_Table_wordFor_16 rfl (lv_at hl 2 rfl) ?_
        refine lv_icmp_gt (tgt := 41) hx hb d_Table_wordFor_17 (by decide) (fun c17 => ?_) (fun c17 => ?_)
        · have h1 := it h1 c17
          obtain ⟨x1, ex1⟩ : ∃ y : Int32, y = v3 + 1 := ⟨_, rfl⟩
          have h1 := nm_at ex1 h1
          refine lv_iinc (v := x1) (lv' := [(3, .int x1), (0, .ref (ad 19 0)), (1, .int a1), (2, .int a2)]) hx hb d_Table_wordFor_41 hl (k := 3) rfl (by rw [ex1]; rfl) (by decide) rfl (fun ls hl => ?_)
          refine lv_goto (tgt := 2) hx hb d_Table_wordFor_44 (by decide) ?_
          cases h1
          exact ih1 σ x1 _ _ ls hH hS (lv_sub hl [1, 2, 3, 0] rfl) hk1
        · have h1 := ie h1 c17
          refine lv_aload_n hx hb d_Table_wordFor_20 rfl (lv_at hl 0 rfl) ?_
          refine st_get hx hb hg hown hK hH (f := 19) (i := 0) hd_19 rfl rfl u_Table 5 (by decide) (hg _ wd_280) (v := .ref (ad 22 0)) rfl d_Table_wordFor_21 ?_
          refine lv_iload_n hx hb d_Table_wordFor_24 rfl (lv_at hl 3 rfl) ?_
          obtain ⟨g25, h1⟩ := gd_some h1
          refine st_iald hx hb hK hH (f := 22) (i := 0) hd_22 rfl g25 d_Table_wordFor_25 ?_
          refine lv_iload_n hx hb d_Table_wordFor_26 rfl (lv_at hl 1 rfl) ?_
          refine lv_iload_n hx hb d_Table_wordFor_27 rfl (lv_at hl 2 rfl) ?_
          refine lv_aload_n hx hb d_Table_wordFor_28 rfl (lv_at hl 0 rfl) ?_
          refine st_get hx hb hg hown hK hH (f := 19) (i := 0) hd_19 rfl rfl u_Table 4 (by decide) (hg _ wd_278) (v := .ref (ad 21 0)) rfl d_Table_wordFor_29 ?_
          refine lv_iload_n hx hb d_Table_wordFor_32 rfl (lv_at hl 3 rfl) ?_
          obtain ⟨g33, h1⟩ := gd_some h1
          refine st_iald hx hb hK hH (f := 21) (i := 0) hd_21 rfl g33 d_Table_wordFor_33 ?_
          refine lv_isub hx hb d_Table_wordFor_34 ?_
          refine lv_iushr hx hb d_Table_wordFor_35 rfl ?_
          refine lv_icmp_ne (tgt := 41) hx hb d_Table_wordFor_36 (by decide) (fun c36 => ?_) (fun c36 => ?_)
          · have h1 := ie h1 c36
            obtain ⟨x2, ex2⟩ : ∃ y : Int32, y = v3 + 1 := ⟨_, rfl⟩
            have h1 := nm_at ex2 h1
            refine lv_iinc (v := x2) (lv' := [(3, .int x2), (0, .ref (ad 19 0)), (1, .int a1), (2, .int a2)]) hx hb d_Table_wordFor_41 hl (k := 3) rfl (by rw [ex2]; rfl) (by decide) rfl (fun ls hl => ?_)
            refine lv_goto (tgt := 2) hx hb d_Table_wordFor_44 (by decide) ?_
            cases h1
            exact ih1 σ x2 _ _ ls hH hS (lv_sub hl [1, 2, 3, 0] rfl) hk1
          · have h1 := it h1 c36
            refine lv_iload_n hx hb d_Table_wordFor_39 rfl (lv_at hl 3 rfl) ?_
            cases h1
            have hk1 := Option.some.inj hk1
            subst hk1
            have h := bs2_r h
            cases h
            rw [← hQ0]
            exact W.iret hx hb hr (fun t ht hW => ⟨⟨_, (), rfl, rfl, by dsimp only; rw [ht]; exact hH⟩, hS.F ht⟩) hS.2.2 d_Table_wordFor_40
  obtain ⟨k1, hq1⟩ := lpE_some hq1
  exact loop1 k1 σ 0 _ _ ls hH hS (lv_sub hl [1, 2, 3, 0] rfl) hq1
set_option maxHeartbeats 4000000 in
set_option maxRecDepth 100000 in
theorem c_Table_tellWord (l : Launch) (D : va_G) (aC : Nat → ClassId) (A : Nat → Prop) (ad : Nat → Nat → Nat) (n : Nat) (σ : St) (a1 : Int32) (a2 : Int32) (o : St × Int32) (h : f_Table_tellWord σ a1 a2 = some o) : Met l y_Table_tellWord w_Table_tellWord rm_Table_tellWord (va_Pc [.ref (ad 19 0), .int a1, .int a2] (Pre D aC A ad n σ)) (va_Qi (fun r (_ : Unit) => r = o.2) (fun _ t => Hold D aC A ad n o.1 t.heap) A) 0 0 A := by
  refine Met.ofW (cc := prog_10_method_5_code) (maxL := 3) (ret := (some .int)) (by decide) rfl ?_
  intro p e s m args below meth c s₁ B hml hv
  obtain ⟨hargs, hH, hK, hZ⟩ := hv
  have hx := B.exec
  have hb := B.bytes
  have hr := B.returns
  have hts := atoms_spec (ws := w_Table_tellWord) B.pre
  have hg : ∀ w ∈ gW, w.before args s = true := fun w h => hts w (List.mem_cons_of_mem _ h)
  have hown : s.vm.findClass "PrefixCodes$Table" = some m.cls := findClass_of_methodNamed B.named
  have hlocks := B.notSynchronized
  have hS : va_S A s.heap s.heap [] := va_S.rf
  have hl := lv_entry ([.ref (ad 19 0), .int a1, .int a2]) (n := 3) (Nat.le_of_ble_eq_true rfl)
  rw [show entryFrame m args 3 = entryFrame m (([.ref (ad 19 0), .int a1, .int a2] : List Value).toArray) 3 by rw [hargs], lg_entry_eq]
  generalize (lg_sl ([.ref (ad 19 0), .int a1, .int a2]) ++ List.replicate (3 - (lg_sl ([.ref (ad 19 0), .int a1, .int a2])).length) Slot.unset).toArray = ls at hl ⊢
  have hl : lv_has ls 3 [(0, .ref (ad 19 0)), (1, .int a1), (2, .int a2)] := hl
  generalize hQ0 : MQ below (va_Qi (fun r (_ : Unit) => r = o.2) (fun _ t => Hold D aC A ad n o.1 t.heap) A) args s 0 0 A = Q0
  unfold f_Table_tellWord at h
  refine lv_iload_n hx hb d_Table_tellWord_0 rfl (lv_at hl 1 rfl) ?_
  refine lv_if_ge (tgt := 14) hx hb d_Table_tellWord_1 (by decide) (fun c1 => ?_) (fun c1 => ?_)
  · have h := it h c1
    refine lv_iload_n hx hb d_Table_tellWord_14 rfl (lv_at hl 2 rfl) ?_
    refine lv_iconst (v := 1) hx hb d_Table_tellWord_15 (by decide) ?_
    refine lv_aload_n hx hb d_Table_tellWord_16 rfl (lv_at hl 0 rfl) ?_
    refine st_get hx hb hg hown hK hH (f := 19) (i := 0) hd_19 rfl rfl u_Table 3 (by decide) (hg _ wd_277) (v := .ref (ad 20 0)) rfl d_Table_tellWord_17 ?_
    refine lv_iload_n hx hb d_Table_tellWord_20 rfl (lv_at hl 1 rfl) ?_
    obtain ⟨g21, h⟩ := gd_some h
    refine st_iald hx hb hK hH (f := 20) (i := 0) hd_20 rfl g21 d_Table_tellWord_21 ?_
    refine lv_aload_n hx hb d_Table_tellWord_22 rfl (lv_at hl 0 rfl) ?_
    refine st_get hx hb hg hown hK hH (f := 19) (i := 0) hd_19 rfl rfl u_Table 4 (by decide) (hg _ wd_278) (v := .ref (ad 21 0)) rfl d_Table_tellWord_23 ?_
    refine lv_iload_n hx hb d_Table_tellWord_26 rfl (lv_at hl 1 rfl) ?_
    obtain ⟨g27, h⟩ := gd_some h
    refine st_iald hx hb hK hH (f := 21) (i := 0) hd_21 rfl g27 d_Table_tellWord_27 ?_
    obtain ⟨qc, hc28, h⟩ := b2_some h
    obtain ⟨σ1, x2⟩ := qc
    have h := b2_at h
    refine st_Si (As := [.int a2, .int 1, .int (σ.1 20 0 a1.toNatClampNeg), .int (σ.1 21 0 a1.toNatClampNeg)]) (rest := []) ⟨hx, hb, hml, hown, hg⟩ (c_Table_pick l D aC A ad n _ a2 1 (σ.1 20 0 a1.toNatClampNeg) (σ.1 21 0 a1.toNatClampNeg) _ hc28) (cwGS hg wd_295 wd_296 wd_297 wd_286 yd_Table_pick ⟨Nat.le_of_ble_eq_true rfl, Nat.le_of_ble_eq_true rfl⟩) hK hH hS hZ rfl hl.1 rfl (Nat.le_of_ble_eq_true rfl) d_Table_tellWord_28 ⟨Nat.zero_le _, Nat.zero_le _⟩ (fun H locs hH hS => ?_)
    cases h
    rw [← hQ0]
    exact W.iret hx hb hr (fun t ht hW => ⟨⟨_, (), rfl, rfl, by dsimp only; rw [ht]; exact hH⟩, hS.F ht⟩) hS.2.2 d_Table_tellWord_31
  · have h := ie h c1
    refine lv_iload_n hx hb d_Table_tellWord_4 rfl (lv_at hl 2 rfl) ?_
    refine lv_iconst (v := 0) hx hb d_Table_tellWord_5 (by decide) ?_
    refine lv_iconst (v := (-1)) hx hb d_Table_tellWord_6 (by decide) ?_
    refine lv_iconst (v := 0) hx hb d_Table_tellWord_7 (by decide) ?_
    obtain ⟨qc, hc8, h⟩ := b2_some h
    obtain ⟨σ3, x4⟩ := qc
    have h := b2_at h
    refine st_Si (As := [.int a2, .int 0, .int (-1), .int 0]) (rest := []) ⟨hx, hb, hml, hown, hg⟩ (c_Table_pick l D aC A ad n _ a2 0 (-1) 0 _ hc8) (cwGS hg wd_295 wd_296 wd_297 wd_286 yd_Table_pick ⟨Nat.le_of_ble_eq_true rfl, Nat.le_of_ble_eq_true rfl⟩) hK hH hS hZ rfl hl.1 rfl (Nat.le_of_ble_eq_true rfl) d_Table_tellWord_8 ⟨Nat.zero_le _, Nat.zero_le _⟩ (fun H locs hH hS => ?_)
    refine lv_goto (tgt := 31) hx hb d_Table_tellWord_11 (by decide) ?_
    cases h
    rw [← hQ0]
    exact W.iret hx hb hr (fun t ht hW => ⟨⟨_, (), rfl, rfl, by dsimp only; rw [ht]; exact hH⟩, hS.F ht⟩) hS.2.2 d_Table_tellWord_31
set_option maxHeartbeats 4000000 in
set_option maxRecDepth 100000 in
theorem c_Table_partAround (l : Launch) (D : va_G) (aC : Nat → ClassId) (A : Nat → Prop) (ad : Nat → Nat → Nat) (n : Nat) (σ : St) (a1 : Int32) (o : St × Int32) (h : f_Table_partAround σ a1 = some o) : Met l y_Table_partAround w_Table_partAround rm_Table_partAround (va_Pc [.ref (ad 19 0), .int a1] (Pre D aC A ad n σ)) (va_Qi (fun r (_ : Unit) => r = o.2) (fun _ t => Hold D aC A ad n o.1 t.heap) A) 0 0 A := by
  refine Met.ofW (cc := prog_10_method_8_code) (maxL := 3) (ret := (some .int)) (by decide) rfl ?_
  intro p e s m args below meth c s₁ B hml hv
  obtain ⟨hargs, hH, hK, hZ⟩ := hv
  have hx := B.exec
  have hb := B.bytes
  have hr := B.returns
  have hts := atoms_spec (ws := w_Table_partAround) B.pre
  have hg : ∀ w ∈ gW, w.before args s = true := fun w h => hts w (List.mem_cons_of_mem _ h)
  have hown : s.vm.findClass "PrefixCodes$Table" = some m.cls := findClass_of_methodNamed B.named
  have hlocks := B.notSynchronized
  have hS : va_S A s.heap s.heap [] := va_S.rf
  have hl := lv_entry ([.ref (ad 19 0), .int a1]) (n := 3) (Nat.le_of_ble_eq_true rfl)
  rw [show entryFrame m args 3 = entryFrame m (([.ref (ad 19 0), .int a1] : List Value).toArray) 3 by rw [hargs], lg_entry_eq]
  generalize (lg_sl ([.ref (ad 19 0), .int a1]) ++ List.replicate (3 - (lg_sl ([.ref (ad 19 0), .int a1])).length) Slot.unset).toArray = ls at hl ⊢
  have hl : lv_has ls 3 [(0, .ref (ad 19 0)), (1, .int a1)] := hl
  generalize hQ0 : MQ below (va_Qi (fun r (_ : Unit) => r = o.2) (fun _ t => Hold D aC A ad n o.1 t.heap) A) args s 0 0 A = Q0
  unfold f_Table_partAround at h
  refine lv_iconst (v := 0) hx hb d_Table_partAround_0 (by decide) ?_
  refine lv_istore_n (lv' := [(2, .int 0), (0, .ref (ad 19 0)), (1, .int a1)]) hx hb d_Table_partAround_1 rfl hl (by decide) rfl (fun ls hl => ?_)
  obtain ⟨q1, hq1, h⟩ := bs2_some h
  have K1 : ∀ (σ3 : St) (x4 : Int32) (H : Heap) (locs : List Loc) (ls : Array Slot), q1 = .inl (σ3, x4) → Hold D aC A ad n σ3 H → va_S A s.heap H locs → lv_has ls 3 [(0, .ref (ad 19 0)), (1, .int a1), (2, .int x4)] → W p l e (headSpec w_Table_partAround rm_Table_partAround).room s m args below meth c H locs 0 0 Q0 (F0 m 47 ls []) := by
    intro σ3 x4 H locs ls eq1 hH hS hl
    subst eq1
    have h := bs2_at h
    refine lv_iconst (v := (-1)) hx hb d_Table_partAround_47 (by decide) ?_
    cases h
    rw [← hQ0]
    exact W.iret hx hb hr (fun t ht hW => ⟨⟨_, (), rfl, rfl, by dsimp only; rw [ht]; exact hH⟩, hS.F ht⟩) hS.2.2 d_Table_partAround_48
  have loop1 : ∀ (k : Nat) (σ : St) (v2 : Int32) (H : Heap) (locs : List Loc) (ls : Array Slot), Hold D aC A ad n σ H → va_S A s.heap H locs → lv_has ls 3 [(0, .ref (ad 19 0)), (1, .int a1), (2, .int v2)] → lp (fun q => lb_Table_partAround_2 a1 q.1 q.2) k (σ, v2) = some q1 → W p l e (headSpec w_Table_partAround rm_Table_partAround).room s m args below meth c H locs 0 0 Q0 (F0 m 2 ls []) := by
    intro k
    induction k with
    | zero => intro σ v2 H locs ls hH hS hl hlp; exact absurd hlp (lp_zero _ _ _)
    | succ k ih1 =>
      intro σ v2 H locs ls hH hS hl hlp
      obtain ⟨z1, h1, hk1⟩ := lp_succ hlp
      have h1 : lb_Table_partAround_2 a1 σ v2 = some z1 := h1
      unfold lb_Table_partAround_2 at h1
      refine lv_iload_n hx hb d_Table_partAround_2 rfl (lv_at hl 2 rfl) ?_
      refine lv_aload_n hx hb d_Table_partAround_3 rfl (lv_at hl 0 rfl) ?_
      refine st_get hx hb hg hown hK hH (f := 19) (i := 0) hd_19 rfl rfl u_Table 6 (by decide) (hg _ wd_270) (v := .int (σ.1 19 0 6)) rfl d_Table_partAround_4 ?_
      refine lv_icmp_ge (tgt := 47) hx hb d_Table_partAround_7 (by decide) (fun c7 => ?_) (fun c7 => ?_)
      · have h1 := it h1 c7
        cases h1
        exact K1 σ v2 _ _ ls (Option.some.inj hk1).symm hH hS (lv_sub hl [0, 1, 2] rfl)
      · have h1 := ie h1 c7
        refine lv_iload_n hx hb d_Table_partAround_10 rfl (lv_at hl 1 rfl) ?_
        refine lv_aload_n hx hb d_Table_partAround_11 rfl (lv_at hl 0 rfl) ?_
        refine st_get hx hb hg hown hK hH (f := 19) (i := 0) hd_19 rfl rfl u_Table 9 (by decide) (hg _ wd_283) (v := .ref (ad 25 0)) rfl d_Table_partAround_12 ?_
        refine lv_iload_n hx hb d_Table_partAround_15 rfl (lv_at hl 2 rfl) ?_
        obtain ⟨g16, h1⟩ := gd_some h1
        refine st_iald hx hb hK hH (f := 25) (i := 0) hd_25 rfl g16 d_Table_partAround_16 ?_
        refine lv_icmp_lt (tgt := 41) hx hb d_Table_partAround_17 (by decide) (fun c17 => ?_) (fun c17 => ?_)
        · have h1 := it h1 c17
          obtain ⟨x1, ex1⟩ : ∃ y : Int32, y = v2 + 1 := ⟨_, rfl⟩
          have h1 := nm_at ex1 h1
          refine lv_iinc (v := x1) (lv' := [(2, .int x1), (0, .ref (ad 19 0)), (1, .int a1)]) hx hb d_Table_partAround_41 hl (k := 2) rfl (by rw [ex1]; rfl) (by decide) rfl (fun ls hl => ?_)
          refine lv_goto (tgt := 2) hx hb d_Table_partAround_44 (by decide) ?_
          cases h1
          exact ih1 σ x1 _ _ ls hH hS (lv_sub hl [1, 2, 0] rfl) hk1
        · have h1 := ie h1 c17
          refine lv_iload_n hx hb d_Table_partAround_20 rfl (lv_at hl 1 rfl) ?_
          refine lv_aload_n hx hb d_Table_partAround_21 rfl (lv_at hl 0 rfl) ?_
          refine st_get hx hb hg hown hK hH (f := 19) (i := 0) hd_19 rfl rfl u_Table 9 (by decide) (hg _ wd_283) (v := .ref (ad 25 0)) rfl d_Table_partAround_22 ?_
          refine lv_iload_n hx hb d_Table_partAround_25 rfl (lv_at hl 2 rfl) ?_
          obtain ⟨g26, h1⟩ := gd_some h1
          refine st_iald hx hb hK hH (f := 25) (i := 0) hd_25 rfl g26 d_Table_partAround_26 ?_
          refine lv_iconst (v := 1) hx hb d_Table_partAround_27 (by decide) ?_
          refine lv_aload_n hx hb d_Table_partAround_28 rfl (lv_at hl 0 rfl) ?_
          refine st_get hx hb hg hown hK hH (f := 19) (i := 0) hd_19 rfl rfl u_Table 8 (by decide) (hg _ wd_272) (v := .ref (ad 24 0)) rfl d_Table_partAround_29 ?_
          refine lv_iload_n hx hb d_Table_partAround_32 rfl (lv_at hl 2 rfl) ?_
          obtain ⟨g33, h1⟩ := gd_some h1
          refine st_iald hx hb hK hH (f := 24) (i := 0) hd_24 rfl g33 d_Table_partAround_33 ?_
          refine lv_ishl hx hb d_Table_partAround_34 ?_
          refine lv_iadd hx hb d_Table_partAround_35 ?_
          refine lv_icmp_ge (tgt := 41) hx hb d_Table_partAround_36 (by decide) (fun c36 => ?_) (fun c36 => ?_)
          · have h1 := it h1 c36
            obtain ⟨x2, ex2⟩ : ∃ y : Int32, y = v2 + 1 := ⟨_, rfl⟩
            have h1 := nm_at ex2 h1
            refine lv_iinc (v := x2) (lv' := [(2, .int x2), (0, .ref (ad 19 0)), (1, .int a1)]) hx hb d_Table_partAround_41 hl (k := 2) rfl (by rw [ex2]; rfl) (by decide) rfl (fun ls hl => ?_)
            refine lv_goto (tgt := 2) hx hb d_Table_partAround_44 (by decide) ?_
            cases h1
            exact ih1 σ x2 _ _ ls hH hS (lv_sub hl [1, 2, 0] rfl) hk1
          · have h1 := ie h1 c36
            refine lv_iload_n hx hb d_Table_partAround_39 rfl (lv_at hl 2 rfl) ?_
            cases h1
            have hk1 := Option.some.inj hk1
            subst hk1
            have h := bs2_r h
            cases h
            rw [← hQ0]
            exact W.iret hx hb hr (fun t ht hW => ⟨⟨_, (), rfl, rfl, by dsimp only; rw [ht]; exact hH⟩, hS.F ht⟩) hS.2.2 d_Table_partAround_40
  obtain ⟨k1, hq1⟩ := lpE_some hq1
  exact loop1 k1 σ 0 _ _ ls hH hS (lv_sub hl [1, 2, 0] rfl) hq1
