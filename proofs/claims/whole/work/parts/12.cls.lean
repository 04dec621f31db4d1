theorem d_Packages_makeRow_0 : decode prog_6_method_6_code 0 = .ok (.aload_n 0, 1) := by decide +kernel
theorem d_Packages_makeRow_1 : decode prog_6_method_6_code 1 = .ok (.getfield 24, 3) := by decide +kernel
theorem d_Packages_makeRow_4 : decode prog_6_method_6_code 4 = .ok (.iload_n 1, 1) := by decide +kernel
theorem d_Packages_makeRow_5 : decode prog_6_method_6_code 5 = .ok (.iconst 1, 1) := by decide +kernel
theorem d_Packages_makeRow_6 : decode prog_6_method_6_code 6 = .ok (.isub, 1) := by decide +kernel
theorem d_Packages_makeRow_7 : decode prog_6_method_6_code 7 = .ok (.iconst 2, 1) := by decide +kernel
theorem d_Packages_makeRow_8 : decode prog_6_method_6_code 8 = .ok (.irem, 1) := by decide +kernel
theorem d_Packages_makeRow_9 : decode prog_6_method_6_code 9 = .ok (.aaload, 1) := by decide +kernel
theorem d_Packages_makeRow_10 : decode prog_6_method_6_code 10 = .ok (.astore_n 2, 1) := by decide +kernel
theorem d_Packages_makeRow_11 : decode prog_6_method_6_code 11 = .ok (.aload_n 0, 1) := by decide +kernel
theorem d_Packages_makeRow_12 : decode prog_6_method_6_code 12 = .ok (.getfield 24, 3) := by decide +kernel
theorem d_Packages_makeRow_15 : decode prog_6_method_6_code 15 = .ok (.iload_n 1, 1) := by decide +kernel
theorem d_Packages_makeRow_16 : decode prog_6_method_6_code 16 = .ok (.iconst 2, 1) := by decide +kernel
theorem d_Packages_makeRow_17 : decode prog_6_method_6_code 17 = .ok (.irem, 1) := by decide +kernel
theorem d_Packages_makeRow_18 : decode prog_6_method_6_code 18 = .ok (.aaload, 1) := by decide +kernel
theorem d_Packages_makeRow_19 : decode prog_6_method_6_code 19 = .ok (.astore_n 3, 1) := by decide +kernel
theorem d_Packages_makeRow_20 : decode prog_6_method_6_code 20 = .ok (.aload_n 0, 1) := by decide +kernel
theorem d_Packages_makeRow_21 : decode prog_6_method_6_code 21 = .ok (.getfield 27, 3) := by decide +kernel
theorem d_Packages_makeRow_24 : decode prog_6_method_6_code 24 = .ok (.iload_n 1, 1) := by decide +kernel
theorem d_Packages_makeRow_25 : decode prog_6_method_6_code 25 = .ok (.iconst 1, 1) := by decide +kernel
theorem d_Packages_makeRow_26 : decode prog_6_method_6_code 26 = .ok (.isub, 1) := by decide +kernel
theorem d_Packages_makeRow_27 : decode prog_6_method_6_code 27 = .ok (.iaload, 1) := by decide +kernel
theorem d_Packages_makeRow_28 : decode prog_6_method_6_code 28 = .ok (.iconst 2, 1) := by decide +kernel
theorem d_Packages_makeRow_29 : decode prog_6_method_6_code 29 = .ok (.idiv, 1) := by decide +kernel
theorem d_Packages_makeRow_30 : decode prog_6_method_6_code 30 = .ok (.istore 4, 2) := by decide +kernel
theorem d_Packages_makeRow_32 : decode prog_6_method_6_code 32 = .ok (.iconst 0, 1) := by decide +kernel
theorem d_Packages_makeRow_33 : decode prog_6_method_6_code 33 = .ok (.istore 5, 2) := by decide +kernel
theorem d_Packages_makeRow_35 : decode prog_6_method_6_code 35 = .ok (.iconst 0, 1) := by decide +kernel
theorem d_Packages_makeRow_36 : decode prog_6_method_6_code 36 = .ok (.istore 6, 2) := by decide +kernel
theorem d_Packages_makeRow_38 : decode prog_6_method_6_code 38 = .ok (.aload_n 0, 1) := by decide +kernel
theorem d_Packages_makeRow_39 : decode prog_6_method_6_code 39 = .ok (.getfield 27, 3) := by decide +kernel
theorem d_Packages_makeRow_42 : decode prog_6_method_6_code 42 = .ok (.iload_n 1, 1) := by decide +kernel
theorem d_Packages_makeRow_43 : decode prog_6_method_6_code 43 = .ok (.aload_n 0, 1) := by decide +kernel
theorem d_Packages_makeRow_44 : decode prog_6_method_6_code 44 = .ok (.getfield 18, 3) := by decide +kernel
theorem d_Packages_makeRow_47 : decode prog_6_method_6_code 47 = .ok (.iload 4, 2) := by decide +kernel
theorem d_Packages_makeRow_49 : decode prog_6_method_6_code 49 = .ok (.iadd, 1) := by decide +kernel
theorem d_Packages_makeRow_50 : decode prog_6_method_6_code 50 = .ok (.iastore, 1) := by decide +kernel
theorem d_Packages_makeRow_51 : decode prog_6_method_6_code 51 = .ok (.iconst 0, 1) := by decide +kernel
theorem d_Packages_makeRow_52 : decode prog_6_method_6_code 52 = .ok (.istore 7, 2) := by decide +kernel
theorem d_Packages_makeRow_54 : decode prog_6_method_6_code 54 = .ok (.iload 7, 2) := by decide +kernel
theorem d_Packages_makeRow_56 : decode prog_6_method_6_code 56 = .ok (.aload_n 0, 1) := by decide +kernel
theorem d_Packages_makeRow_57 : decode prog_6_method_6_code 57 = .ok (.getfield 27, 3) := by decide +kernel
theorem d_Packages_makeRow_60 : decode prog_6_method_6_code 60 = .ok (.iload_n 1, 1) := by decide +kernel
theorem d_Packages_makeRow_61 : decode prog_6_method_6_code 61 = .ok (.iaload, 1) := by decide +kernel
theorem d_Packages_makeRow_62 : decode prog_6_method_6_code 62 = .ok (.if_icmp .ge 114, 3) := by decide +kernel
theorem d_Packages_makeRow_65 : decode prog_6_method_6_code 65 = .ok (.iload 6, 2) := by decide +kernel
theorem d_Packages_makeRow_67 : decode prog_6_method_6_code 67 = .ok (.iload 4, 2) := by decide +kernel
theorem d_Packages_makeRow_69 : decode prog_6_method_6_code 69 = .ok (.if_icmp .ge 21, 3) := by decide +kernel
theorem d_Packages_makeRow_72 : decode prog_6_method_6_code 72 = .ok (.aload_n 2, 1) := by decide +kernel
theorem d_Packages_makeRow_73 : decode prog_6_method_6_code 73 = .ok (.iconst 2, 1) := by decide +kernel
theorem d_Packages_makeRow_74 : decode prog_6_method_6_code 74 = .ok (.iload 6, 2) := by decide +kernel
theorem d_Packages_makeRow_76 : decode prog_6_method_6_code 76 = .ok (.imul, 1) := by decide +kernel
theorem d_Packages_makeRow_77 : decode prog_6_method_6_code 77 = .ok (.laload, 1) := by decide +kernel
theorem d_Packages_makeRow_78 : decode prog_6_method_6_code 78 = .ok (.aload_n 2, 1) := by decide +kernel
theorem d_Packages_makeRow_79 : decode prog_6_method_6_code 79 = .ok (.iconst 2, 1) := by decide +kernel
theorem d_Packages_makeRow_80 : decode prog_6_method_6_code 80 = .ok (.iload 6, 2) := by decide +kernel
theorem d_Packages_makeRow_82 : decode prog_6_method_6_code 82 = .ok (.imul, 1) := by decide +kernel
theorem d_Packages_makeRow_83 : decode prog_6_method_6_code 83 = .ok (.iconst 1, 1) := by decide +kernel
theorem d_Packages_makeRow_84 : decode prog_6_method_6_code 84 = .ok (.iadd, 1) := by decide +kernel
theorem d_Packages_makeRow_85 : decode prog_6_method_6_code 85 = .ok (.laload, 1) := by decide +kernel
theorem d_Packages_makeRow_86 : decode prog_6_method_6_code 86 = .ok (.ladd, 1) := by decide +kernel
theorem d_Packages_makeRow_87 : decode prog_6_method_6_code 87 = .ok (.goto 4, 3) := by decide +kernel
theorem d_Packages_makeRow_90 : decode prog_6_method_6_code 90 = .ok (.lconst 0, 1) := by decide +kernel
theorem d_Packages_makeRow_91 : decode prog_6_method_6_code 91 = .ok (.lstore 8, 2) := by decide +kernel
theorem d_Packages_makeRow_93 : decode prog_6_method_6_code 93 = .ok (.iload 5, 2) := by decide +kernel
theorem d_Packages_makeRow_95 : decode prog_6_method_6_code 95 = .ok (.aload_n 0, 1) := by decide +kernel
theorem d_Packages_makeRow_96 : decode prog_6_method_6_code 96 = .ok (.getfield 18, 3) := by decide +kernel
theorem d_Packages_makeRow_99 : decode prog_6_method_6_code 99 = .ok (.if_icmp .ge 52, 3) := by decide +kernel
theorem d_Packages_makeRow_102 : decode prog_6_method_6_code 102 = .ok (.iload 6, 2) := by decide +kernel
theorem d_Packages_makeRow_104 : decode prog_6_method_6_code 104 = .ok (.iload 4, 2) := by decide +kernel
theorem d_Packages_makeRow_106 : decode prog_6_method_6_code 106 = .ok (.if_icmp .ge 17, 3) := by decide +kernel
theorem d_Packages_makeRow_109 : decode prog_6_method_6_code 109 = .ok (.aload_n 0, 1) := by decide +kernel
theorem d_Packages_makeRow_110 : decode prog_6_method_6_code 110 = .ok (.getfield 15, 3) := by decide +kernel
theorem d_Packages_makeRow_113 : decode prog_6_method_6_code 113 = .ok (.iload 5, 2) := by decide +kernel
theorem d_Packages_makeRow_115 : decode prog_6_method_6_code 115 = .ok (.iaload, 1) := by decide +kernel
theorem d_Packages_makeRow_116 : decode prog_6_method_6_code 116 = .ok (.i2l, 1) := by decide +kernel
theorem d_Packages_makeRow_117 : decode prog_6_method_6_code 117 = .ok (.lload 8, 2) := by decide +kernel
theorem d_Packages_makeRow_119 : decode prog_6_method_6_code 119 = .ok (.lcmp, 1) := by decide +kernel
theorem d_Packages_makeRow_120 : decode prog_6_method_6_code 120 = .ok (.ifCond .gt 31, 3) := by decide +kernel
theorem d_Packages_makeRow_123 : decode prog_6_method_6_code 123 = .ok (.aload_n 3, 1) := by decide +kernel
theorem d_Packages_makeRow_124 : decode prog_6_method_6_code 124 = .ok (.iload 7, 2) := by decide +kernel
theorem d_Packages_makeRow_126 : decode prog_6_method_6_code 126 = .ok (.aload_n 0, 1) := by decide +kernel
theorem d_Packages_makeRow_127 : decode prog_6_method_6_code 127 = .ok (.getfield 15, 3) := by decide +kernel
theorem d_Packages_makeRow_130 : decode prog_6_method_6_code 130 = .ok (.iload 5, 2) := by decide +kernel
theorem d_Packages_makeRow_132 : decode prog_6_method_6_code 132 = .ok (.iaload, 1) := by decide +kernel
theorem d_Packages_makeRow_133 : decode prog_6_method_6_code 133 = .ok (.i2l, 1) := by decide +kernel
theorem d_Packages_makeRow_134 : decode prog_6_method_6_code 134 = .ok (.lastore, 1) := by decide +kernel
theorem d_Packages_makeRow_135 : decode prog_6_method_6_code 135 = .ok (.aload_n 0, 1) := by decide +kernel
theorem d_Packages_makeRow_136 : decode prog_6_method_6_code 136 = .ok (.getfield 32, 3) := by decide +kernel
theorem d_Packages_makeRow_139 : decode prog_6_method_6_code 139 = .ok (.iload_n 1, 1) := by decide +kernel
theorem d_Packages_makeRow_140 : decode prog_6_method_6_code 140 = .ok (.aaload, 1) := by decide +kernel
theorem d_Packages_makeRow_141 : decode prog_6_method_6_code 141 = .ok (.iload 7, 2) := by decide +kernel
theorem d_Packages_makeRow_143 : decode prog_6_method_6_code 143 = .ok (.iconst 1, 1) := by decide +kernel
theorem d_Packages_makeRow_144 : decode prog_6_method_6_code 144 = .ok (.iastore, 1) := by decide +kernel
theorem d_Packages_makeRow_145 : decode prog_6_method_6_code 145 = .ok (.iinc 5 1, 3) := by decide +kernel
theorem d_Packages_makeRow_148 : decode prog_6_method_6_code 148 = .ok (.goto 22, 3) := by decide +kernel
theorem d_Packages_makeRow_151 : decode prog_6_method_6_code 151 = .ok (.aload_n 3, 1) := by decide +kernel
theorem d_Packages_makeRow_152 : decode prog_6_method_6_code 152 = .ok (.iload 7, 2) := by decide +kernel
theorem d_Packages_makeRow_154 : decode prog_6_method_6_code 154 = .ok (.lload 8, 2) := by decide +kernel
theorem d_Packages_makeRow_156 : decode prog_6_method_6_code 156 = .ok (.lastore, 1) := by decide +kernel
theorem d_Packages_makeRow_157 : decode prog_6_method_6_code 157 = .ok (.aload_n 0, 1) := by decide +kernel
theorem d_Packages_makeRow_158 : decode prog_6_method_6_code 158 = .ok (.getfield 32, 3) := by decide +kernel
theorem d_Packages_makeRow_161 : decode prog_6_method_6_code 161 = .ok (.iload_n 1, 1) := by decide +kernel
theorem d_Packages_makeRow_162 : decode prog_6_method_6_code 162 = .ok (.aaload, 1) := by decide +kernel
theorem d_Packages_makeRow_163 : decode prog_6_method_6_code 163 = .ok (.iload 7, 2) := by decide +kernel
theorem d_Packages_makeRow_165 : decode prog_6_method_6_code 165 = .ok (.iconst 0, 1) := by decide +kernel
theorem d_Packages_makeRow_166 : decode prog_6_method_6_code 166 = .ok (.iastore, 1) := by decide +kernel
theorem d_Packages_makeRow_167 : decode prog_6_method_6_code 167 = .ok (.iinc 6 1, 3) := by decide +kernel
theorem d_Packages_makeRow_170 : decode prog_6_method_6_code 170 = .ok (.iinc 7 1, 3) := by decide +kernel
theorem d_Packages_makeRow_173 : decode prog_6_method_6_code 173 = .ok (.goto (-119), 3) := by decide +kernel
theorem d_Packages_makeRow_176 : decode prog_6_method_6_code 176 = .ok (.return_, 1) := by decide +kernel
theorem d_Packages_goBack_0 : decode prog_6_method_7_code 0 = .ok (.iconst 2, 1) := by decide +kernel
theorem d_Packages_goBack_1 : decode prog_6_method_7_code 1 = .ok (.aload_n 0, 1) := by decide +kernel
theorem d_Packages_goBack_2 : decode prog_6_method_7_code 2 = .ok (.getfield 18, 3) := by decide +kernel
theorem d_Packages_goBack_5 : decode prog_6_method_7_code 5 = .ok (.imul, 1) := by decide +kernel
theorem d_Packages_goBack_6 : decode prog_6_method_7_code 6 = .ok (.iconst 2, 1) := by decide +kernel
theorem d_Packages_goBack_7 : decode prog_6_method_7_code 7 = .ok (.isub, 1) := by decide +kernel
theorem d_Packages_goBack_8 : decode prog_6_method_7_code 8 = .ok (.istore_n 3, 1) := by decide +kernel
theorem d_Packages_goBack_9 : decode prog_6_method_7_code 9 = .ok (.iload_n 1, 1) := by decide +kernel
theorem d_Packages_goBack_10 : decode prog_6_method_7_code 10 = .ok (.iconst 1, 1) := by decide +kernel
theorem d_Packages_goBack_11 : decode prog_6_method_7_code 11 = .ok (.isub, 1) := by decide +kernel
theorem d_Packages_goBack_12 : decode prog_6_method_7_code 12 = .ok (.istore 4, 2) := by decide +kernel
theorem d_Packages_goBack_14 : decode prog_6_method_7_code 14 = .ok (.iload 4, 2) := by decide +kernel
theorem d_Packages_goBack_16 : decode prog_6_method_7_code 16 = .ok (.ifCond .lt 90, 3) := by decide +kernel
theorem d_Packages_goBack_19 : decode prog_6_method_7_code 19 = .ok (.iconst 0, 1) := by decide +kernel
theorem d_Packages_goBack_20 : decode prog_6_method_7_code 20 = .ok (.istore 5, 2) := by decide +kernel
theorem d_Packages_goBack_22 : decode prog_6_method_7_code 22 = .ok (.iconst 0, 1) := by decide +kernel
theorem d_Packages_goBack_23 : decode prog_6_method_7_code 23 = .ok (.istore 6, 2) := by decide +kernel
theorem d_Packages_goBack_25 : decode prog_6_method_7_code 25 = .ok (.iload 6, 2) := by decide +kernel
theorem d_Packages_goBack_27 : decode prog_6_method_7_code 27 = .ok (.iload_n 3, 1) := by decide +kernel
theorem d_Packages_goBack_28 : decode prog_6_method_7_code 28 = .ok (.if_icmp .ge 36, 3) := by decide +kernel
theorem d_Packages_goBack_31 : decode prog_6_method_7_code 31 = .ok (.iload 6, 2) := by decide +kernel
theorem d_Packages_goBack_33 : decode prog_6_method_7_code 33 = .ok (.aload_n 0, 1) := by decide +kernel
theorem d_Packages_goBack_34 : decode prog_6_method_7_code 34 = .ok (.getfield 27, 3) := by decide +kernel
theorem d_Packages_goBack_37 : decode prog_6_method_7_code 37 = .ok (.iload 4, 2) := by decide +kernel
theorem d_Packages_goBack_39 : decode prog_6_method_7_code 39 = .ok (.iaload, 1) := by decide +kernel
theorem d_Packages_goBack_40 : decode prog_6_method_7_code 40 = .ok (.if_icmp .ge 24, 3) := by decide +kernel
theorem d_Packages_goBack_43 : decode prog_6_method_7_code 43 = .ok (.iload 5, 2) := by decide +kernel
theorem d_Packages_goBack_45 : decode prog_6_method_7_code 45 = .ok (.aload_n 0, 1) := by decide +kernel
theorem d_Packages_goBack_46 : decode prog_6_method_7_code 46 = .ok (.getfield 32, 3) := by decide +kernel
theorem d_Packages_goBack_49 : decode prog_6_method_7_code 49 = .ok (.iload 4, 2) := by decide +kernel
theorem d_Packages_goBack_51 : decode prog_6_method_7_code 51 = .ok (.aaload, 1) := by decide +kernel
theorem d_Packages_goBack_52 : decode prog_6_method_7_code 52 = .ok (.iload 6, 2) := by decide +kernel
theorem d_Packages_goBack_54 : decode prog_6_method_7_code 54 = .ok (.iaload, 1) := by decide +kernel
theorem d_Packages_goBack_55 : decode prog_6_method_7_code 55 = .ok (.iadd, 1) := by decide +kernel
theorem d_Packages_goBack_56 : decode prog_6_method_7_code 56 = .ok (.istore 5, 2) := by decide +kernel
theorem d_Packages_goBack_58 : decode prog_6_method_7_code 58 = .ok (.iinc 6 1, 3) := by decide +kernel
theorem d_Packages_goBack_61 : decode prog_6_method_7_code 61 = .ok (.goto (-36), 3) := by decide +kernel
theorem d_Packages_goBack_64 : decode prog_6_method_7_code 64 = .ok (.iconst 0, 1) := by decide +kernel
theorem d_Packages_goBack_65 : decode prog_6_method_7_code 65 = .ok (.istore 6, 2) := by decide +kernel
theorem d_Packages_goBack_67 : decode prog_6_method_7_code 67 = .ok (.iload 6, 2) := by decide +kernel
theorem d_Packages_goBack_69 : decode prog_6_method_7_code 69 = .ok (.iload 5, 2) := by decide +kernel
theorem d_Packages_goBack_71 : decode prog_6_method_7_code 71 = .ok (.if_icmp .ge 22, 3) := by decide +kernel
theorem d_Packages_goBack_74 : decode prog_6_method_7_code 74 = .ok (.aload_n 2, 1) := by decide +kernel
theorem d_Packages_goBack_75 : decode prog_6_method_7_code 75 = .ok (.aload_n 0, 1) := by decide +kernel
theorem d_Packages_goBack_76 : decode prog_6_method_7_code 76 = .ok (.getfield 9, 3) := by decide +kernel
theorem d_Packages_goBack_79 : decode prog_6_method_7_code 79 = .ok (.iload 6, 2) := by decide +kernel
theorem d_Packages_goBack_81 : decode prog_6_method_7_code 81 = .ok (.iaload, 1) := by decide +kernel
theorem d_Packages_goBack_82 : decode prog_6_method_7_code 82 = .ok (.dup2, 1) := by decide +kernel
theorem d_Packages_goBack_83 : decode prog_6_method_7_code 83 = .ok (.iaload, 1) := by decide +kernel
theorem d_Packages_goBack_84 : decode prog_6_method_7_code 84 = .ok (.iconst 1, 1) := by decide +kernel
theorem d_Packages_goBack_85 : decode prog_6_method_7_code 85 = .ok (.iadd, 1) := by decide +kernel
theorem d_Packages_goBack_86 : decode prog_6_method_7_code 86 = .ok (.iastore, 1) := by decide +kernel
theorem d_Packages_goBack_87 : decode prog_6_method_7_code 87 = .ok (.iinc 6 1, 3) := by decide +kernel
theorem d_Packages_goBack_90 : decode prog_6_method_7_code 90 = .ok (.goto (-23), 3) := by decide +kernel
theorem d_Packages_goBack_93 : decode prog_6_method_7_code 93 = .ok (.iconst 2, 1) := by decide +kernel
theorem d_Packages_goBack_94 : decode prog_6_method_7_code 94 = .ok (.iload_n 3, 1) := by decide +kernel
theorem d_Packages_goBack_95 : decode prog_6_method_7_code 95 = .ok (.iload 5, 2) := by decide +kernel
theorem d_Packages_goBack_97 : decode prog_6_method_7_code 97 = .ok (.isub, 1) := by decide +kernel
theorem d_Packages_goBack_98 : decode prog_6_method_7_code 98 = .ok (.imul, 1) := by decide +kernel
theorem d_Packages_goBack_99 : decode prog_6_method_7_code 99 = .ok (.istore_n 3, 1) := by decide +kernel
theorem d_Packages_goBack_100 : decode prog_6_method_7_code 100 = .ok (.iinc 4 (-1), 3) := by decide +kernel
theorem d_Packages_goBack_103 : decode prog_6_method_7_code 103 = .ok (.goto (-89), 3) := by decide +kernel
theorem d_Packages_goBack_106 : decode prog_6_method_7_code 106 = .ok (.return_, 1) := by decide +kernel
theorem d_Packages_fit_0 : decode prog_6_method_2_code 0 = .ok (.aload_n 3, 1) := by decide +kernel
theorem d_Packages_fit_1 : decode prog_6_method_2_code 1 = .ok (.getfield 35, 3) := by decide +kernel
theorem d_Packages_fit_4 : decode prog_6_method_2_code 4 = .ok (.iconst 0, 1) := by decide +kernel
theorem d_Packages_fit_5 : decode prog_6_method_2_code 5 = .ok (.invokestatic 40, 3) := by decide +kernel
theorem d_Packages_fit_8 : decode prog_6_method_2_code 8 = .ok (.aload_n 0, 1) := by decide +kernel
theorem d_Packages_fit_9 : decode prog_6_method_2_code 9 = .ok (.aload_n 1, 1) := by decide +kernel
theorem d_Packages_fit_10 : decode prog_6_method_2_code 10 = .ok (.aload_n 3, 1) := by decide +kernel
theorem d_Packages_fit_11 : decode prog_6_method_2_code 11 = .ok (.getfield 46, 3) := by decide +kernel
theorem d_Packages_fit_14 : decode prog_6_method_2_code 14 = .ok (.invokevirtual 49, 3) := by decide +kernel
theorem d_Packages_fit_17 : decode prog_6_method_2_code 17 = .ok (.aload_n 0, 1) := by decide +kernel
theorem d_Packages_fit_18 : decode prog_6_method_2_code 18 = .ok (.getfield 18, 3) := by decide +kernel
theorem d_Packages_fit_21 : decode prog_6_method_2_code 21 = .ok (.iconst 1, 1) := by decide +kernel
theorem d_Packages_fit_22 : decode prog_6_method_2_code 22 = .ok (.if_icmp .ne 18, 3) := by decide +kernel
theorem d_Packages_fit_25 : decode prog_6_method_2_code 25 = .ok (.aload_n 3, 1) := by decide +kernel
theorem d_Packages_fit_26 : decode prog_6_method_2_code 26 = .ok (.getfield 35, 3) := by decide +kernel
theorem d_Packages_fit_29 : decode prog_6_method_2_code 29 = .ok (.aload_n 0, 1) := by decide +kernel
theorem d_Packages_fit_30 : decode prog_6_method_2_code 30 = .ok (.getfield 9, 3) := by decide +kernel
theorem d_Packages_fit_33 : decode prog_6_method_2_code 33 = .ok (.iconst 0, 1) := by decide +kernel
theorem d_Packages_fit_34 : decode prog_6_method_2_code 34 = .ok (.iaload, 1) := by decide +kernel
theorem d_Packages_fit_35 : decode prog_6_method_2_code 35 = .ok (.iconst 1, 1) := by decide +kernel
theorem d_Packages_fit_36 : decode prog_6_method_2_code 36 = .ok (.iastore, 1) := by decide +kernel
theorem d_Packages_fit_37 : decode prog_6_method_2_code 37 = .ok (.goto 45, 3) := by decide +kernel
theorem d_Packages_fit_40 : decode prog_6_method_2_code 40 = .ok (.aload_n 0, 1) := by decide +kernel
theorem d_Packages_fit_41 : decode prog_6_method_2_code 41 = .ok (.getfield 18, 3) := by decide +kernel
theorem d_Packages_fit_44 : decode prog_6_method_2_code 44 = .ok (.iconst 1, 1) := by decide +kernel
theorem d_Packages_fit_45 : decode prog_6_method_2_code 45 = .ok (.if_icmp .le 37, 3) := by decide +kernel
theorem d_Packages_fit_48 : decode prog_6_method_2_code 48 = .ok (.aload_n 0, 1) := by decide +kernel
theorem d_Packages_fit_49 : decode prog_6_method_2_code 49 = .ok (.invokevirtual 52, 3) := by decide +kernel
theorem d_Packages_fit_52 : decode prog_6_method_2_code 52 = .ok (.iconst 1, 1) := by decide +kernel
theorem d_Packages_fit_53 : decode prog_6_method_2_code 53 = .ok (.istore 4, 2) := by decide +kernel
theorem d_Packages_fit_55 : decode prog_6_method_2_code 55 = .ok (.iload 4, 2) := by decide +kernel
theorem d_Packages_fit_57 : decode prog_6_method_2_code 57 = .ok (.iload_n 2, 1) := by decide +kernel
theorem d_Packages_fit_58 : decode prog_6_method_2_code 58 = .ok (.if_icmp .ge 15, 3) := by decide +kernel
theorem d_Packages_fit_61 : decode prog_6_method_2_code 61 = .ok (.aload_n 0, 1) := by decide +kernel
theorem d_Packages_fit_62 : decode prog_6_method_2_code 62 = .ok (.iload 4, 2) := by decide +kernel
theorem d_Packages_fit_64 : decode prog_6_method_2_code 64 = .ok (.invokevirtual 55, 3) := by decide +kernel
theorem d_Packages_fit_67 : decode prog_6_method_2_code 67 = .ok (.iinc 4 1, 3) := by decide +kernel
theorem d_Packages_fit_70 : decode prog_6_method_2_code 70 = .ok (.goto (-15), 3) := by decide +kernel
theorem d_Packages_fit_73 : decode prog_6_method_2_code 73 = .ok (.aload_n 0, 1) := by decide +kernel
theorem d_Packages_fit_74 : decode prog_6_method_2_code 74 = .ok (.iload_n 2, 1) := by decide +kernel
theorem d_Packages_fit_75 : decode prog_6_method_2_code 75 = .ok (.aload_n 3, 1) := by decide +kernel
theorem d_Packages_fit_76 : decode prog_6_method_2_code 76 = .ok (.getfield 35, 3) := by decide +kernel
theorem d_Packages_fit_79 : decode prog_6_method_2_code 79 = .ok (.invokevirtual 59, 3) := by decide +kernel
theorem d_Packages_fit_82 : decode prog_6_method_2_code 82 = .ok (.aload_n 3, 1) := by decide +kernel
theorem d_Packages_fit_83 : decode prog_6_method_2_code 83 = .ok (.invokevirtual 63, 3) := by decide +kernel
theorem d_Packages_fit_86 : decode prog_6_method_2_code 86 = .ok (.return_, 1) := by decide +kernel
theorem d_PC_cost_0 : decode prog_1_method_9_code 0 = .ok (.aload_n 0, 1) := by decide +kernel
theorem d_PC_cost_1 : decode prog_1_method_9_code 1 = .ok (.iload_n 1, 1) := by decide +kernel
theorem d_PC_cost_2 : decode prog_1_method_9_code 2 = .ok (.invokevirtual 97, 3) := by decide +kernel
theorem d_PC_cost_5 : decode prog_1_method_9_code 5 = .ok (.astore_n 2, 1) := by decide +kernel
theorem d_PC_cost_6 : decode prog_1_method_9_code 6 = .ok (.aload_n 2, 1) := by decide +kernel
theorem d_PC_cost_7 : decode prog_1_method_9_code 7 = .ok (.ifnonnull 7, 3) := by decide +kernel
theorem d_PC_cost_10 : decode prog_1_method_9_code 10 = .ok (.ldc2_w 139, 3) := by decide +kernel
theorem d_PC_cost_13 : decode prog_1_method_9_code 13 = .ok (.lreturn, 1) := by decide +kernel
theorem d_PC_cost_14 : decode prog_1_method_9_code 14 = .ok (.lconst 0, 1) := by decide +kernel
theorem d_PC_cost_15 : decode prog_1_method_9_code 15 = .ok (.lstore_n 3, 1) := by decide +kernel
theorem d_PC_cost_16 : decode prog_1_method_9_code 16 = .ok (.iconst 0, 1) := by decide +kernel
theorem d_PC_cost_17 : decode prog_1_method_9_code 17 = .ok (.istore 5, 2) := by decide +kernel
theorem d_PC_cost_19 : decode prog_1_method_9_code 19 = .ok (.iload 5, 2) := by decide +kernel
theorem d_PC_cost_21 : decode prog_1_method_9_code 21 = .ok (.aload_n 2, 1) := by decide +kernel
theorem d_PC_cost_22 : decode prog_1_method_9_code 22 = .ok (.getfield 104, 3) := by decide +kernel
theorem d_PC_cost_25 : decode prog_1_method_9_code 25 = .ok (.if_icmp .ge 29, 3) := by decide +kernel
theorem d_PC_cost_28 : decode prog_1_method_9_code 28 = .ok (.lload_n 3, 1) := by decide +kernel
theorem d_PC_cost_29 : decode prog_1_method_9_code 29 = .ok (.aload_n 0, 1) := by decide +kernel
theorem d_PC_cost_30 : decode prog_1_method_9_code 30 = .ok (.getfield 19, 3) := by decide +kernel
theorem d_PC_cost_33 : decode prog_1_method_9_code 33 = .ok (.iload 5, 2) := by decide +kernel
theorem d_PC_cost_35 : decode prog_1_method_9_code 35 = .ok (.iaload, 1) := by decide +kernel
theorem d_PC_cost_36 : decode prog_1_method_9_code 36 = .ok (.i2l, 1) := by decide +kernel
theorem d_PC_cost_37 : decode prog_1_method_9_code 37 = .ok (.aload_n 2, 1) := by decide +kernel
theorem d_PC_cost_38 : decode prog_1_method_9_code 38 = .ok (.getfield 91, 3) := by decide +kernel
theorem d_PC_cost_41 : decode prog_1_method_9_code 41 = .ok (.iload 5, 2) := by decide +kernel
theorem d_PC_cost_43 : decode prog_1_method_9_code 43 = .ok (.iaload, 1) := by decide +kernel
theorem d_PC_cost_44 : decode prog_1_method_9_code 44 = .ok (.i2l, 1) := by decide +kernel
theorem d_PC_cost_45 : decode prog_1_method_9_code 45 = .ok (.lmul, 1) := by decide +kernel
theorem d_PC_cost_46 : decode prog_1_method_9_code 46 = .ok (.ladd, 1) := by decide +kernel
theorem d_PC_cost_47 : decode prog_1_method_9_code 47 = .ok (.lstore_n 3, 1) := by decide +kernel
theorem d_PC_cost_48 : decode prog_1_method_9_code 48 = .ok (.iinc 5 1, 3) := by decide +kernel
theorem d_PC_cost_51 : decode prog_1_method_9_code 51 = .ok (.goto (-32), 3) := by decide +kernel
theorem d_PC_cost_54 : decode prog_1_method_9_code 54 = .ok (.lload_n 3, 1) := by decide +kernel
theorem d_PC_cost_55 : decode prog_1_method_9_code 55 = .ok (.lreturn, 1) := by decide +kernel
theorem d_PC_bits_0 : decode prog_1_method_10_code 0 = .ok (.aload_n 0, 1) := by decide +kernel
theorem d_PC_bits_1 : decode prog_1_method_10_code 1 = .ok (.getfield 26, 3) := by decide +kernel
theorem d_PC_bits_4 : decode prog_1_method_10_code 4 = .ok (.getfield 141, 3) := by decide +kernel
theorem d_PC_bits_7 : decode prog_1_method_10_code 7 = .ok (.ireturn, 1) := by decide +kernel
theorem d_Stream_placeOf_0 : decode prog_9_method_2_code 0 = .ok (.aload_n 0, 1) := by decide +kernel
theorem d_Stream_placeOf_1 : decode prog_9_method_2_code 1 = .ok (.getfield 15, 3) := by decide +kernel
theorem d_Stream_placeOf_4 : decode prog_9_method_2_code 4 = .ok (.iload_n 1, 1) := by decide +kernel
theorem d_Stream_placeOf_5 : decode prog_9_method_2_code 5 = .ok (.iadd, 1) := by decide +kernel
theorem d_Stream_placeOf_6 : decode prog_9_method_2_code 6 = .ok (.sipush 20000, 3) := by decide +kernel
theorem d_Stream_placeOf_9 : decode prog_9_method_2_code 9 = .ok (.irem, 1) := by decide +kernel
theorem d_Stream_placeOf_10 : decode prog_9_method_2_code 10 = .ok (.ireturn, 1) := by decide +kernel
theorem d_Stream_bitOf_0 : decode prog_9_method_3_code 0 = .ok (.aload_n 0, 1) := by decide +kernel
theorem d_Stream_bitOf_1 : decode prog_9_method_3_code 1 = .ok (.getfield 11, 3) := by decide +kernel
theorem d_Stream_bitOf_4 : decode prog_9_method_3_code 4 = .ok (.iload_n 1, 1) := by decide +kernel
theorem d_Stream_bitOf_5 : decode prog_9_method_3_code 5 = .ok (.bipush 32, 2) := by decide +kernel
theorem d_Stream_bitOf_7 : decode prog_9_method_3_code 7 = .ok (.idiv, 1) := by decide +kernel
theorem d_Stream_bitOf_8 : decode prog_9_method_3_code 8 = .ok (.iaload, 1) := by decide +kernel
theorem d_Stream_bitOf_9 : decode prog_9_method_3_code 9 = .ok (.iload_n 1, 1) := by decide +kernel
theorem d_Stream_bitOf_10 : decode prog_9_method_3_code 10 = .ok (.bipush 32, 2) := by decide +kernel
theorem d_Stream_bitOf_12 : decode prog_9_method_3_code 12 = .ok (.irem, 1) := by decide +kernel
theorem d_Stream_bitOf_13 : decode prog_9_method_3_code 13 = .ok (.iushr, 1) := by decide +kernel
theorem d_Stream_bitOf_14 : decode prog_9_method_3_code 14 = .ok (.iconst 1, 1) := by decide +kernel
theorem d_Stream_bitOf_15 : decode prog_9_method_3_code 15 = .ok (.iand, 1) := by decide +kernel
theorem d_Stream_bitOf_16 : decode prog_9_method_3_code 16 = .ok (.ireturn, 1) := by decide +kernel
theorem d_Stream_at_0 : decode prog_9_method_4_code 0 = .ok (.aload_n 0, 1) := by decide +kernel
theorem d_Stream_at_1 : decode prog_9_method_4_code 1 = .ok (.aload_n 0, 1) := by decide +kernel
theorem d_Stream_at_2 : decode prog_9_method_4_code 2 = .ok (.iload_n 1, 1) := by decide +kernel
theorem d_Stream_at_3 : decode prog_9_method_4_code 3 = .ok (.invokevirtual 29, 3) := by decide +kernel
theorem d_Stream_at_6 : decode prog_9_method_4_code 6 = .ok (.invokevirtual 33, 3) := by decide +kernel
theorem d_Stream_at_9 : decode prog_9_method_4_code 9 = .ok (.ireturn, 1) := by decide +kernel
theorem d_PC_clear_0 : decode prog_1_method_12_code 0 = .ok (.aload_n 0, 1) := by decide +kernel
theorem d_PC_clear_1 : decode prog_1_method_12_code 1 = .ok (.getfield 26, 3) := by decide +kernel
theorem d_PC_clear_4 : decode prog_1_method_12_code 4 = .ok (.getfield 141, 3) := by decide +kernel
theorem d_PC_clear_7 : decode prog_1_method_12_code 7 = .ok (.istore_n 1, 1) := by decide +kernel
theorem d_PC_clear_8 : decode prog_1_method_12_code 8 = .ok (.aload_n 0, 1) := by decide +kernel
theorem d_PC_clear_9 : decode prog_1_method_12_code 9 = .ok (.getfield 26, 3) := by decide +kernel
theorem d_PC_clear_12 : decode prog_1_method_12_code 12 = .ok (.iconst 0, 1) := by decide +kernel
theorem d_PC_clear_13 : decode prog_1_method_12_code 13 = .ok (.putfield 141, 3) := by decide +kernel
theorem d_PC_clear_16 : decode prog_1_method_12_code 16 = .ok (.iload_n 1, 1) := by decide +kernel
theorem d_PC_clear_17 : decode prog_1_method_12_code 17 = .ok (.ireturn, 1) := by decide +kernel
theorem d_Stream_append_0 : decode prog_9_method_7_code 0 = .ok (.aload_n 0, 1) := by decide +kernel
theorem d_Stream_append_1 : decode prog_9_method_7_code 1 = .ok (.getfield 19, 3) := by decide +kernel
theorem d_Stream_append_4 : decode prog_9_method_7_code 4 = .ok (.sipush 20000, 3) := by decide +kernel
theorem d_Stream_append_7 : decode prog_9_method_7_code 7 = .ok (.if_icmp .lt 9, 3) := by decide +kernel
theorem d_Stream_append_10 : decode prog_9_method_7_code 10 = .ok (.aload_n 0, 1) := by decide +kernel
theorem d_Stream_append_11 : decode prog_9_method_7_code 11 = .ok (.iconst 1, 1) := by decide +kernel
theorem d_Stream_append_12 : decode prog_9_method_7_code 12 = .ok (.putfield 25, 3) := by decide +kernel
theorem d_Stream_append_15 : decode prog_9_method_7_code 15 = .ok (.return_, 1) := by decide +kernel
theorem d_Stream_append_16 : decode prog_9_method_7_code 16 = .ok (.aload_n 0, 1) := by decide +kernel
theorem d_Stream_append_17 : decode prog_9_method_7_code 17 = .ok (.aload_n 0, 1) := by decide +kernel
theorem d_Stream_append_18 : decode prog_9_method_7_code 18 = .ok (.getfield 19, 3) := by decide +kernel
theorem d_Stream_append_21 : decode prog_9_method_7_code 21 = .ok (.invokevirtual 29, 3) := by decide +kernel
theorem d_Stream_append_24 : decode prog_9_method_7_code 24 = .ok (.istore_n 2, 1) := by decide +kernel
theorem d_Stream_append_25 : decode prog_9_method_7_code 25 = .ok (.iconst 1, 1) := by decide +kernel
theorem d_Stream_append_26 : decode prog_9_method_7_code 26 = .ok (.iload_n 2, 1) := by decide +kernel
theorem d_Stream_append_27 : decode prog_9_method_7_code 27 = .ok (.bipush 32, 2) := by decide +kernel
theorem d_Stream_append_29 : decode prog_9_method_7_code 29 = .ok (.irem, 1) := by decide +kernel
theorem d_Stream_append_30 : decode prog_9_method_7_code 30 = .ok (.ishl, 1) := by decide +kernel
theorem d_Stream_append_31 : decode prog_9_method_7_code 31 = .ok (.istore_n 3, 1) := by decide +kernel
theorem d_Stream_append_32 : decode prog_9_method_7_code 32 = .ok (.aload_n 0, 1) := by decide +kernel
theorem d_Stream_append_33 : decode prog_9_method_7_code 33 = .ok (.getfield 11, 3) := by decide +kernel
theorem d_Stream_append_36 : decode prog_9_method_7_code 36 = .ok (.iload_n 2, 1) := by decide +kernel
theorem d_Stream_append_37 : decode prog_9_method_7_code 37 = .ok (.bipush 32, 2) := by decide +kernel
theorem d_Stream_append_39 : decode prog_9_method_7_code 39 = .ok (.idiv, 1) := by decide +kernel
theorem d_Stream_append_40 : decode prog_9_method_7_code 40 = .ok (.iaload, 1) := by decide +kernel
theorem d_Stream_append_41 : decode prog_9_method_7_code 41 = .ok (.iload_n 3, 1) := by decide +kernel
theorem d_Stream_append_42 : decode prog_9_method_7_code 42 = .ok (.iconst (-1), 1) := by decide +kernel
theorem d_Stream_append_43 : decode prog_9_method_7_code 43 = .ok (.ixor, 1) := by decide +kernel
theorem d_Stream_append_44 : decode prog_9_method_7_code 44 = .ok (.iand, 1) := by decide +kernel
theorem d_Stream_append_45 : decode prog_9_method_7_code 45 = .ok (.istore 4, 2) := by decide +kernel
theorem d_Stream_append_47 : decode prog_9_method_7_code 47 = .ok (.aload_n 0, 1) := by decide +kernel
theorem d_Stream_append_48 : decode prog_9_method_7_code 48 = .ok (.getfield 11, 3) := by decide +kernel
theorem d_Stream_append_51 : decode prog_9_method_7_code 51 = .ok (.iload_n 2, 1) := by decide +kernel
theorem d_Stream_append_52 : decode prog_9_method_7_code 52 = .ok (.bipush 32, 2) := by decide +kernel
theorem d_Stream_append_54 : decode prog_9_method_7_code 54 = .ok (.idiv, 1) := by decide +kernel
theorem d_Stream_append_55 : decode prog_9_method_7_code 55 = .ok (.iload_n 1, 1) := by decide +kernel
theorem d_Stream_append_56 : decode prog_9_method_7_code 56 = .ok (.ifCond .ne 8, 3) := by decide +kernel
theorem d_Stream_append_59 : decode prog_9_method_7_code 59 = .ok (.iload 4, 2) := by decide +kernel
theorem d_Stream_append_61 : decode prog_9_method_7_code 61 = .ok (.goto 7, 3) := by decide +kernel
theorem d_Stream_append_64 : decode prog_9_method_7_code 64 = .ok (.iload 4, 2) := by decide +kernel
theorem d_Stream_append_66 : decode prog_9_method_7_code 66 = .ok (.iload_n 3, 1) := by decide +kernel
theorem d_Stream_append_67 : decode prog_9_method_7_code 67 = .ok (.ior, 1) := by decide +kernel
theorem d_Stream_append_68 : decode prog_9_method_7_code 68 = .ok (.iastore, 1) := by decide +kernel
theorem d_Stream_append_69 : decode prog_9_method_7_code 69 = .ok (.aload_n 0, 1) := by decide +kernel
theorem d_Stream_append_70 : decode prog_9_method_7_code 70 = .ok (.dup, 1) := by decide +kernel
theorem d_Stream_append_71 : decode prog_9_method_7_code 71 = .ok (.getfield 19, 3) := by decide +kernel
theorem d_Stream_append_74 : decode prog_9_method_7_code 74 = .ok (.iconst 1, 1) := by decide +kernel
theorem d_Stream_append_75 : decode prog_9_method_7_code 75 = .ok (.iadd, 1) := by decide +kernel
theorem d_Stream_append_76 : decode prog_9_method_7_code 76 = .ok (.putfield 19, 3) := by decide +kernel
theorem d_Stream_append_79 : decode prog_9_method_7_code 79 = .ok (.return_, 1) := by decide +kernel
noncomputable def jn_Packages_makeRow_123_2 (a1 : Int32) (j1 : Nat) (j2 : Nat) (x3 : Int32) (σ : St) (p5 : Int32) (p6 : Int32) (p7 : Int32) : Option ((St × Int32 × Int32 × Int32) ⊕ ((St × Int32 × Int32 × Int32))) :=
  gd (ib p5 64) <|
  gd (ib p7 128) <|
  nm (sL σ 9 j2 (p7.toNatClampNeg) ((σ.1 7 0 p5.toNatClampNeg).toInt64)) fun σ10 =>
  gd (ib a1 15) <|
  on (σ10.2.2.1 11 0 a1.toNatClampNeg) (
    none
    ) fun j11 =>
  gd (ib p7 128) <|
  nm (sI σ10 12 j11 (p7.toNatClampNeg) 1) fun σ12 =>
  nm (p5 + 1) fun x13 =>
  nm (p7 + 1) fun x14 =>
  some (.inl (σ12, x13, p6, x14))
noncomputable def jn_Packages_makeRow_91 (a1 : Int32) (j1 : Nat) (j2 : Nat) (x3 : Int32) (σ : St) (p5 : Int32) (p6 : Int32) (p7 : Int32) (k0 : Int64) : Option ((St × Int32 × Int32 × Int32) ⊕ ((St × Int32 × Int32 × Int32))) :=
  if (σ.1 5 0 2) ≤ p5 then
    gd (ib p7 128) <|
    nm (sL σ 9 j2 (p7.toNatClampNeg) k0) fun σ5 =>
    gd (ib a1 15) <|
    on (σ5.2.2.1 11 0 a1.toNatClampNeg) (
      none
      ) fun j6 =>
    gd (ib p7 128) <|
    nm (sI σ5 12 j6 (p7.toNatClampNeg) 0) fun σ7 =>
    nm (p6 + 1) fun x8 =>
    nm (p7 + 1) fun x9 =>
    some (.inl (σ7, p5, x8, x9))
  else
  if x3 ≤ p6 then
    jn_Packages_makeRow_123_2 a1 j1 j2 x3 σ p5 p6 p7
  else
  gd (ib p5 64) <|
  if k0 < ((σ.1 7 0 p5.toNatClampNeg).toInt64) then
    gd (ib p7 128) <|
    nm (sL σ 9 j2 (p7.toNatClampNeg) k0) fun σ15 =>
    gd (ib a1 15) <|
    on (σ15.2.2.1 11 0 a1.toNatClampNeg) (
      none
      ) fun j16 =>
    gd (ib p7 128) <|
    nm (sI σ15 12 j16 (p7.toNatClampNeg) 0) fun σ17 =>
    nm (p6 + 1) fun x18 =>
    nm (p7 + 1) fun x19 =>
    some (.inl (σ17, p5, x18, x19))
  else
  jn_Packages_makeRow_123_2 a1 j1 j2 x3 σ p5 p6 p7
noncomputable def lb_Packages_makeRow_54 (a1 : Int32) (j1 : Nat) (j2 : Nat) (x3 : Int32) (σ : St) (v5 : Int32) (v6 : Int32) (v7 : Int32) : Option ((St × Int32 × Int32 × Int32) ⊕ ((St × Int32 × Int32 × Int32))) :=
  gd (ib a1 15) <|
  if (σ.1 10 0 a1.toNatClampNeg) ≤ v7 then
    some (.inr (σ, v5, v6, v7))
  else
  if x3 ≤ v6 then
    jn_Packages_makeRow_91 a1 j1 j2 x3 σ v5 v6 v7 0
  else
  gd (ib (2 * v6) 128) <|
  gd (ib ((2 * v6) + 1) 128) <|
  jn_Packages_makeRow_91 a1 j1 j2 x3 σ v5 v6 v7 ((σ.2.1 9 j1 (2 * v6).toNatClampNeg) + (σ.2.1 9 j1 ((2 * v6) + 1).toNatClampNeg))
noncomputable def f_Packages_makeRow (σ : St) (a1 : Int32) : Option (St) :=
  gd (ib ((a1 - 1) - (a1 - 1) / 2 * 2) 2) <|
  on (σ.2.2.1 8 0 ((a1 - 1) - (a1 - 1) / 2 * 2).toNatClampNeg) (
    none
    ) fun j1 =>
  gd (ib (a1 - a1 / 2 * 2) 2) <|
  on (σ.2.2.1 8 0 (a1 - a1 / 2 * 2).toNatClampNeg) (
    none
    ) fun j2 =>
  gd (ib (a1 - 1) 15) <|
  nm ((σ.1 10 0 (a1 - 1).toNatClampNeg) / 2) fun x3 =>
  gd (ib a1 15) <|
  nm (sI σ 10 0 (a1.toNatClampNeg) ((σ.1 5 0 2) + x3)) fun σ4 =>
  b4 (lpE (fun q => lb_Packages_makeRow_54 a1 j1 j2 x3 q.1 q.2.1 q.2.2.1 q.2.2.2) (σ4, 0, 0, 0)) fun σ20 x21 x22 x23 =>
  some σ20
noncomputable def lb_Packages_goBack_25 (fa2 ia2 na2 : Nat) (v3 : Int32) (v4 : Int32) (σ : St) (v5 : Int32) (v6 : Int32) : Option ((St × Int32 × Int32) ⊕ ((St × Int32 × Int32))) :=
  if v3 ≤ v6 then
    some (.inr (σ, v5, v6))
  else
  gd (ib v4 15) <|
  if (σ.1 10 0 v4.toNatClampNeg) ≤ v6 then
    some (.inr (σ, v5, v6))
  else
  gd (ib v4 15) <|
  on (σ.2.2.1 11 0 v4.toNatClampNeg) (
    none
    ) fun j3 =>
  gd (ib v6 128) <|
  nm (v5 + (σ.1 12 j3 v6.toNatClampNeg)) fun x4 =>
  nm (v6 + 1) fun x5 =>
  some (.inl (σ, x4, x5))
noncomputable def lb_Packages_goBack_67 (fa2 ia2 na2 : Nat) (v3 : Int32) (v4 : Int32) (x7 : Int32) (σ : St) (v6 : Int32) : Option ((St × Int32) ⊕ ((St × Int32))) :=
  if x7 ≤ v6 then
    some (.inr (σ, v6))
  else
  gd (ib v6 64) <|
  gd (ib (σ.1 6 0 v6.toNatClampNeg) na2) <|
  gd (ib (σ.1 6 0 v6.toNatClampNeg) na2) <|
  nm (sI σ fa2 ia2 ((σ.1 6 0 v6.toNatClampNeg).toNatClampNeg) ((σ.1 fa2 ia2 (σ.1 6 0 v6.toNatClampNeg).toNatClampNeg) + 1)) fun σ9 =>
  nm (v6 + 1) fun x10 =>
  some (.inl (σ9, x10))
noncomputable def lb_Packages_goBack_14 (fa2 ia2 na2 : Nat) (σ : St) (v3 : Int32) (v4 : Int32) : Option ((St × Int32 × Int32) ⊕ ((St × Int32 × Int32))) :=
  if v4 < 0 then
    some (.inr (σ, v3, v4))
  else
  b3 (lpE (fun q => lb_Packages_goBack_25 fa2 ia2 na2 v3 v4 q.1 q.2.1 q.2.2) (σ, 0, 0)) fun σ6 x7 x8 =>
  b2 (lpE (fun q => lb_Packages_goBack_67 fa2 ia2 na2 v3 v4 x7 q.1 q.2) (σ6, 0)) fun σ11 x12 =>
  nm (2 * (v3 - x7)) fun x13 =>
  nm (v4 + (-1)) fun x14 =>
  some (.inl (σ11, x13, x14))
noncomputable def f_Packages_goBack (σ : St) (a1 : Int32) (fa2 ia2 na2 : Nat) : Option (St) :=
  nm ((2 * (σ.1 5 0 2)) - 2) fun x1 =>
  nm (a1 - 1) fun x2 =>
  b3 (lpE (fun q => lb_Packages_goBack_14 fa2 ia2 na2 q.1 q.2.1 q.2.2) (σ, x1, x2)) fun σ15 x16 x17 =>
  some σ15
noncomputable def lb_Packages_fit_55 (a2 : Int32) (ia3 : Nat) (σ : St) (v4 : Int32) : Option ((St × Int32) ⊕ ((St × Int32))) :=
  if a2 ≤ v4 then
    some (.inr (σ, v4))
  else
  b1 (f_Packages_makeRow σ v4) fun σ5 =>
  nm (v4 + 1) fun x6 =>
  some (.inl (σ5, x6))
noncomputable def f_Packages_fit (σ : St) (fa1 ia1 na1 : Nat) (a2 : Int32) (ia3 : Nat) : Option (St) :=
  b1 (f_Arrays_fill σ 42 ia3 64 0) fun σ1 =>
  b1 (f_Packages_order σ1 fa1 ia1 na1 (σ1.1 41 ia3 0)) fun σ2 =>
  if (σ2.1 5 0 2) = 1 then
    gd (ib 0 64) <|
    gd (ib (σ2.1 6 0 (0 : Int32).toNatClampNeg) 64) <|
    nm (sI σ2 42 ia3 ((σ2.1 6 0 (0 : Int32).toNatClampNeg).toNatClampNeg) 1) fun σ11 =>
    b1 (f_Code_renumber σ11 ia3) fun σ12 =>
    some σ12
  else
  if (σ2.1 5 0 2) ≤ 1 then
    b1 (f_Code_renumber σ2 ia3) fun σ3 =>
    some σ3
  else
  b1 (f_Packages_makeFirstRow σ2) fun σ4 =>
  b2 (lpE (fun q => lb_Packages_fit_55 a2 ia3 q.1 q.2) (σ4, 1)) fun σ7 x8 =>
  b1 (f_Packages_goBack σ7 a2 42 ia3 64) fun σ9 =>
  b1 (f_Code_renumber σ9 ia3) fun σ10 =>
  some σ10
noncomputable def lb_PC_cost_19 (j3 : Nat) (σ : St) (v3 : Int64) (v5 : Int32) : Option ((St × Int64 × Int32) ⊕ ((St × Int64 × Int32))) :=
  if (σ.1 41 j3 0) ≤ v5 then
    some (.inr (σ, v3, v5))
  else
  gd (ib v5 64) <|
  gd (ib v5 64) <|
  nm (v3 + (((σ.1 2 0 v5.toNatClampNeg).toInt64) * ((σ.1 42 j3 v5.toNatClampNeg).toInt64))) fun x4 =>
  nm (v5 + 1) fun x5 =>
  some (.inl (σ, x4, x5))
noncomputable def f_PC_cost (σ : St) (a1 : Int32) : Option (St × Int64) :=
  b2 (f_PC_codeAt σ a1) fun σ1 o2 =>
  on (o2) (
    some (σ1, (-101))
    ) fun j3 =>
  b3 (lpE (fun q => lb_PC_cost_19 j3 q.1 q.2.1 q.2.2) (σ1, 0, 0)) fun σ6 x7 x8 =>
  some (σ6, x7)
noncomputable def f_PC_bits (σ : St) : Option (St × Int32) :=
  some (σ, σ.1 3 0 2)
noncomputable def f_Stream_placeOf (σ : St) (a1 : Int32) : Option (St × Int32) :=
  some (σ, ((σ.1 3 0 1) + a1) - ((σ.1 3 0 1) + a1) / 20000 * 20000)
noncomputable def f_Stream_bitOf (σ : St) (a1 : Int32) : Option (St × Int32) :=
  gd (ib (a1 / 32) 625) <|
  some (σ, (((σ.1 4 0 (a1 / 32).toNatClampNeg).toUInt32 >>> ((a1 - a1 / 32 * 32).toUInt32 &&& Int32.toUInt32 31)).toInt32) &&& 1)
noncomputable def f_Stream_at (σ : St) (a1 : Int32) : Option (St × Int32) :=
  b2 (f_Stream_placeOf σ a1) fun σ1 x2 =>
  b2 (f_Stream_bitOf σ1 x2) fun σ3 x4 =>
  some (σ3, x4)
noncomputable def f_PC_clear (σ : St) : Option (St × Int32) :=
  nm (σ.1 3 0 2) fun x1 =>
  nm (sI σ 3 0 2 0) fun σ2 =>
  some (σ2, x1)
noncomputable def f_Stream_append (σ : St) (a1 : Int32) : Option (St) :=
  if (σ.1 3 0 2) < 20000 then
    b2 (f_Stream_placeOf σ (σ.1 3 0 2)) fun σ1 x2 =>
    nm (1 <<< ((x2 - x2 / 32 * 32) &&& 31)) fun x3 =>
    gd (ib (x2 / 32) 625) <|
    nm ((σ1.1 4 0 (x2 / 32).toNatClampNeg) &&& (x3 ^^^ (-1))) fun x4 =>
    if a1 = 0 then
      gd (ib (x2 / 32) 625) <|
      nm (sI σ1 4 0 ((x2 / 32).toNatClampNeg) x4) fun σ7 =>
      nm (sI σ7 3 0 2 ((σ7.1 3 0 2) + 1)) fun σ8 =>
      some σ8
    else
    gd (ib (x2 / 32) 625) <|
    nm (sI σ1 4 0 ((x2 / 32).toNatClampNeg) (x4 ||| x3)) fun σ5 =>
    nm (sI σ5 3 0 2 ((σ5.1 3 0 2) + 1)) fun σ6 =>
    some σ6
  else
  nm (sI σ 3 0 4 1) fun σ9 =>
  some σ9
set_option maxHeartbeats 4000000 in
set_option maxRecDepth 100000 in
theorem c_Packages_makeRow (l : Launch) (D : va_G) (aC : Nat → ClassId) (A : Nat → Prop) (ad : Nat → Nat → Nat) (n : Nat) (σ : St) (a1 : Int32) (o : St) (h : f_Packages_makeRow σ a1 = some o) : Met l y_Packages_makeRow w_Packages_makeRow rm_Packages_makeRow (va_Pc [.ref (ad 5 0), .int a1] (Pre D aC A ad n σ)) (va_Qv (fun (_ : Unit) => True) (fun _ t => Hold D aC A ad n o t.heap) A) 0 0 A := by
  refine Met.ofW (cc := prog_6_method_6_code) (maxL := 10) (ret := none) (by decide) rfl ?_
  intro p e s m args below meth c s₁ B hml hv
  obtain ⟨hargs, hH, hK, hZ⟩ := hv
  have hx := B.exec
  have hb := B.bytes
  have hr := B.returns
  have hts := atoms_spec (ws := w_Packages_makeRow) B.pre
  have hg : ∀ w ∈ gW, w.before args s = true := fun w h => hts w (List.mem_cons_of_mem _ h)
  have hown : s.vm.findClass "PrefixCodes$Packages" = some m.cls := findClass_of_methodNamed B.named
  have hlocks := B.notSynchronized
  have hS : va_S A s.heap s.heap [] := va_S.rf
  have hl := lv_entry ([.ref (ad 5 0), .int a1]) (n := 10) (Nat.le_of_ble_eq_true rfl)
  rw [show entryFrame m args 10 = entryFrame m (([.ref (ad 5 0), .int a1] : List Value).toArray) 10 by rw [hargs], lg_entry_eq]
  generalize (lg_sl ([.ref (ad 5 0), .int a1]) ++ List.replicate (10 - (lg_sl ([.ref (ad 5 0), .int a1])).length) Slot.unset).toArray = ls at hl ⊢
  have hl : lv_has ls 10 [(0, .ref (ad 5 0)), (1, .int a1)] := hl
  generalize hQ0 : MQ below (va_Qv (fun (_ : Unit) => True) (fun _ t => Hold D aC A ad n o t.heap) A) args s 0 0 A = Q0
  unfold f_Packages_makeRow at h
  refine lv_aload_n hx hb d_Packages_makeRow_0 rfl (lv_at hl 0 rfl) ?_
  refine st_get hx hb hg hown hK hH (f := 5) (i := 0) hd_5 rfl rfl u_Packages 3 (by decide) (hg _ wd_90) (v := .ref (ad 8 0)) rfl d_Packages_makeRow_1 ?_
  refine lv_iload_n hx hb d_Packages_makeRow_4 rfl (lv_at hl 1 rfl) ?_
  refine lv_iconst (v := 1) hx hb d_Packages_makeRow_5 (by decide) ?_
  refine lv_isub hx hb d_Packages_makeRow_6 ?_
  refine lv_iconst (v := 2) hx hb d_Packages_makeRow_7 (by decide) ?_
  refine lv_irem hx hb d_Packages_makeRow_8 (by decide) ?_
  obtain ⟨g9, h⟩ := gd_some h
  obtain ⟨j1, c9, h⟩ := on_some h
  refine st_aald hx hb hK hH (f := 8) (i := 0) hd_8 rfl (by decide) g9 d_Packages_makeRow_9 c9 (fun hdj1 => ?_)
  refine lv_astore_n (lv' := [(2, .ref (ad 9 j1)), (0, .ref (ad 5 0)), (1, .int a1)]) hx hb d_Packages_makeRow_10 rfl hl (by decide) rfl (fun ls hl => ?_)
  refine lv_aload_n hx hb d_Packages_makeRow_11 rfl (lv_at hl 1 rfl) ?_
  refine st_get hx hb hg hown hK hH (f := 5) (i := 0) hd_5 rfl rfl u_Packages 3 (by decide) (hg _ wd_90) (v := .ref (ad 8 0)) rfl d_Packages_makeRow_12 ?_
  refine lv_iload_n hx hb d_Packages_makeRow_15 rfl (lv_at hl 2 rfl) ?_
  refine lv_iconst (v := 2) hx hb d_Packages_makeRow_16 (by decide) ?_
  refine lv_irem hx hb d_Packages_makeRow_17 (by decide) ?_
  obtain ⟨g18, h⟩ := gd_some h
  obtain ⟨j2, c18, h⟩ := on_some h
  refine st_aald hx hb hK hH (f := 8) (i := 0) hd_8 rfl (by decide) g18 d_Packages_makeRow_18 c18 (fun hdj2 => ?_)
  refine lv_astore_n (lv' := [(3, .ref (ad 9 j2)), (2, .ref (ad 9 j1)), (0, .ref (ad 5 0)), (1, .int a1)]) hx hb d_Packages_makeRow_19 rfl hl (by decide) rfl (fun ls hl => ?_)
  refine lv_aload_n hx hb d_Packages_makeRow_20 rfl (lv_at hl 2 rfl) ?_
  refine st_get hx hb hg hown hK hH (f := 5) (i := 0) hd_5 rfl rfl u_Packages 4 (by decide) (hg _ wd_89) (v := .ref (ad 10 0)) rfl d_Packages_makeRow_21 ?_
  refine lv_iload_n hx hb d_Packages_makeRow_24 rfl (lv_at hl 3 rfl) ?_
  refine lv_iconst (v := 1) hx hb d_Packages_makeRow_25 (by decide) ?_
  refine lv_isub hx hb d_Packages_makeRow_26 ?_
  obtain ⟨g27, h⟩ := gd_some h
  refine st_iald hx hb hK hH (f := 10) (i := 0) hd_10 rfl g27 d_Packages_makeRow_27 ?_
  refine lv_iconst (v := 2) hx hb d_Packages_makeRow_28 (by decide) ?_
  refine lv_idiv hx hb d_Packages_makeRow_29 (by decide) ?_
  refine lv_topi (fun x3 ex3 => ?_)
  have h := nm_at ex3 h
  refine lv_istore (lv' := [(4, .int x3), (3, .ref (ad 9 j2)), (2, .ref (ad 9 j1)), (0, .ref (ad 5 0)), (1, .int a1)]) hx hb d_Packages_makeRow_30 hl (by decide) rfl (fun ls hl => ?_)
  refine lv_iconst (v := 0) hx hb d_Packages_makeRow_32 (by decide) ?_
  refine lv_istore (lv' := [(5, .int 0), (4, .int x3), (3, .ref (ad 9 j2)), (2, .ref (ad 9 j1)), (0, .ref (ad 5 0)), (1, .int a1)]) hx hb d_Packages_makeRow_33 hl (by decide) rfl (fun ls hl => ?_)
  refine lv_iconst (v := 0) hx hb d_Packages_makeRow_35 (by decide) ?_
  refine lv_istore (lv' := [(6, .int 0), (5, .int 0), (4, .int x3), (3, .ref (ad 9 j2)), (2, .ref (ad 9 j1)), (0, .ref (ad 5 0)), (1, .int a1)]) hx hb d_Packages_makeRow_36 hl (by decide) rfl (fun ls hl => ?_)
  refine lv_aload_n hx hb d_Packages_makeRow_38 rfl (lv_at hl 5 rfl) ?_
  refine st_get hx hb hg hown hK hH (f := 5) (i := 0) hd_5 rfl rfl u_Packages 4 (by decide) (hg _ wd_89) (v := .ref (ad 10 0)) rfl d_Packages_makeRow_39 ?_
  refine lv_iload_n hx hb d_Packages_makeRow_42 rfl (lv_at hl 6 rfl) ?_
  refine lv_aload_n hx hb d_Packages_makeRow_43 rfl (lv_at hl 5 rfl) ?_
  refine st_get hx hb hg hown hK hH (f := 5) (i := 0) hd_5 rfl rfl u_Packages 2 (by decide) (hg _ wd_81) (v := .int (σ.1 5 0 2)) rfl d_Packages_makeRow_44 ?_
  refine lv_iload hx hb d_Packages_makeRow_47 (lv_at hl 2 rfl) ?_
  refine lv_iadd hx hb d_Packages_makeRow_49 ?_
  obtain ⟨g50, h⟩ := gd_some h
  refine st_iast hx hb hK hH hS (f := 10) (i := 0) hd_10 rfl g50 d_Packages_makeRow_50 (fun σ4 H locs eσ4 hH hS => ?_)
  have h := nm_at eσ4 h
  refine lv_iconst (v := 0) hx hb d_Packages_makeRow_51 (by decide) ?_
  refine lv_istore (lv' := [(7, .int 0), (6, .int 0), (5, .int 0), (4, .int x3), (3, .ref (ad 9 j2)), (2, .ref (ad 9 j1)), (0, .ref (ad 5 0)), (1, .int a1)]) hx hb d_Packages_makeRow_52 hl (by decide) rfl (fun ls hl => ?_)
  obtain ⟨q1, hq1, h⟩ := b4_some h
  have K1 : ∀ (σ20 : St) (x21 : Int32) (x22 : Int32) (x23 : Int32) (H : Heap) (locs : List Loc) (ls : Array Slot), q1 = (σ20, x21, x22, x23) → Hold D aC A ad n σ20 H → va_S A s.heap H locs → lv_has ls 10 [(0, .ref (ad 5 0)), (1, .int a1), (2, .ref (ad 9 j1)), (3, .ref (ad 9 j2)), (4, .int x3), (5, .int x21), (6, .int x22), (7, .int x23)] → W p l e (headSpec w_Packages_makeRow rm_Packages_makeRow).room s m args below meth c H locs 0 0 Q0 (F0 m 176 ls []) := by
    intro σ20 x21 x22 x23 H locs ls eq1 hH hS hl
    subst eq1
    have h := b4_at h
    cases h
    rw [← hQ0]
    exact W.vret hx hb hr (fun t ht hW => ⟨⟨(), rfl, trivial, by dsimp only; rw [ht]; exact hH⟩, hS.F ht⟩) hS.2.2 d_Packages_makeRow_176
  have loop1 : ∀ (k : Nat) (σ : St) (v5 : Int32) (v6 : Int32) (v7 : Int32) (H : Heap) (locs : List Loc) (ls : Array Slot), Hold D aC A ad n σ H → va_S A s.heap H locs → lv_has ls 10 [(0, .ref (ad 5 0)), (1, .int a1), (2, .ref (ad 9 j1)), (3, .ref (ad 9 j2)), (4, .int x3), (5, .int v5), (6, .int v6), (7, .int v7)] → lp (fun q => lb_Packages_makeRow_54 a1 j1 j2 x3 q.1 q.2.1 q.2.2.1 q.2.2.2) k (σ, v5, v6, v7) = some q1 → W p l e (headSpec w_Packages_makeRow rm_Packages_makeRow).room s m args below meth c H locs 0 0 Q0 (F0 m 54 ls []) := by
    intro k
    induction k with
    | zero => intro σ v5 v6 v7 H locs ls hH hS hl hlp; exact absurd hlp (lp_zero _ _ _)
    | succ k ih1 =>
      intro σ v5 v6 v7 H locs ls hH hS hl hlp
      obtain ⟨z1, h1, hk1⟩ := lp_succ hlp
      have h1 : lb_Packages_makeRow_54 a1 j1 j2 x3 σ v5 v6 v7 = some z1 := h1
      unfold lb_Packages_makeRow_54 at h1
      have J123 : ∀ (σ : St) (p5 : Int32) (p6 : Int32) (p7 : Int32) (H : Heap) (locs : List Loc) (ls : Array Slot), Hold D aC A ad n σ H → va_S A s.heap H locs → lv_has ls 10 [(0, .ref (ad 5 0)), (1, .int a1), (2, .ref (ad 9 j1)), (3, .ref (ad 9 j2)), (4, .int x3), (5, .int p5), (6, .int p6), (7, .int p7)] → jn_Packages_makeRow_123_2 a1 j1 j2 x3 σ p5 p6 p7 = some z1 → W p l e (headSpec w_Packages_makeRow rm_Packages_makeRow).room s m args below meth c H locs 0 0 Q0 (F0 m 123 ls []) := by
        intro σ p5 p6 p7  H locs ls hH hS hl h1
        unfold jn_Packages_makeRow_123_2 at h1
        refine lv_aload_n hx hb d_Packages_makeRow_123 rfl (lv_at hl 3 rfl) ?_
        refine lv_iload hx hb d_Packages_makeRow_124 (lv_at hl 7 rfl) ?_
        refine lv_aload_n hx hb d_Packages_makeRow_126 rfl (lv_at hl 0 rfl) ?_
        refine st_get hx hb hg hown hK hH (f := 5) (i := 0) hd_5 rfl rfl u_Packages 1 (by decide) (hg _ wd_82) (v := .ref (ad 7 0)) rfl d_Packages_makeRow_127 ?_
        refine lv_iload hx hb d_Packages_makeRow_130 (lv_at hl 5 rfl) ?_
        obtain ⟨g132, h1⟩ := gd_some h1
        refine st_iald hx hb hK hH (f := 7) (i := 0) hd_7 rfl g132 d_Packages_makeRow_132 ?_
        refine lv_i2l hx hb d_Packages_makeRow_133 rfl ?_
        obtain ⟨g134, h1⟩ := gd_some h1
        refine st_last hx hb hK hH hS (f := 9) (i := j2) hdj2 rfl g134 d_Packages_makeRow_134 (fun σ10 H locs eσ10 hH hS => ?_)
        have h1 := nm_at eσ10 h1
        refine lv_aload_n hx hb d_Packages_makeRow_135 rfl (lv_at hl 0 rfl) ?_
        refine st_get hx hb hg hown hK hH (f := 5) (i := 0) hd_5 rfl rfl u_Packages 5 (by decide) (hg _ wd_91) (v := .ref (ad 11 0)) rfl d_Packages_makeRow_136 ?_
        refine lv_iload_n hx hb d_Packages_makeRow_139 rfl (lv_at hl 1 rfl) ?_
        obtain ⟨g140, h1⟩ := gd_some h1
        obtain ⟨j11, c140, h1⟩ := on_some h1
        refine st_aald hx hb hK hH (f := 11) (i := 0) hd_11 rfl (by decide) g140 d_Packages_makeRow_140 c140 (fun hdj11 => ?_)
        refine lv_iload hx hb d_Packages_makeRow_141 (lv_at hl 7 rfl) ?_
        refine lv_iconst (v := 1) hx hb d_Packages_makeRow_143 (by decide) ?_
        obtain ⟨g144, h1⟩ := gd_some h1
        refine st_iast hx hb hK hH hS (f := 12) (i := j11) hdj11 rfl g144 d_Packages_makeRow_144 (fun σ12 H locs eσ12 hH hS => ?_)
        have h1 := nm_at eσ12 h1
        obtain ⟨x13, ex13⟩ : ∃ y : Int32, y = p5 + 1 := ⟨_, rfl⟩
        have h1 := nm_at ex13 h1
        refine lv_iinc (v := x13) (lv' := [(5, .int x13), (0, .ref (ad 5 0)), (1, .int a1), (2, .ref (ad 9 j1)), (3, .ref (ad 9 j2)), (4, .int x3), (6, .int p6), (7, .int p7)]) hx hb d_Packages_makeRow_145 hl (k := 5) rfl (by rw [ex13]; rfl) (by decide) rfl (fun ls hl => ?_)
        refine lv_goto (tgt := 170) hx hb d_Packages_makeRow_148 (by decide) ?_
        obtain ⟨x14, ex14⟩ : ∃ y : Int32, y = p7 + 1 := ⟨_, rfl⟩
        have h1 := nm_at ex14 h1
        refine lv_iinc (v := x14) (lv' := [(7, .int x14), (5, .int x13), (0, .ref (ad 5 0)), (1, .int a1), (2, .ref (ad 9 j1)), (3, .ref (ad 9 j2)), (4, .int x3), (6, .int p6)]) hx hb d_Packages_makeRow_170 hl (k := 7) rfl (by rw [ex14]; rfl) (by decide) rfl (fun ls hl => ?_)
        refine lv_goto (tgt := 54) hx hb d_Packages_makeRow_173 (by decide) ?_
        cases h1
        exact ih1 σ12 x13 p6 x14 _ _ ls hH hS (lv_sub hl [2, 3, 4, 5, 6, 1, 7, 0] rfl) hk1
      have J91 : ∀ (σ : St) (p5 : Int32) (p6 : Int32) (p7 : Int32) (k0 : Int64) (H : Heap) (locs : List Loc) (ls : Array Slot), Hold D aC A ad n σ H → va_S A s.heap H locs → lv_has ls 10 [(0, .ref (ad 5 0)), (1, .int a1), (2, .ref (ad 9 j1)), (3, .ref (ad 9 j2)), (4, .int x3), (5, .int p5), (6, .int p6), (7, .int p7)] → jn_Packages_makeRow_91 a1 j1 j2 x3 σ p5 p6 p7 k0 = some z1 → W p l e (headSpec w_Packages_makeRow rm_Packages_makeRow).room s m args below meth c H locs 0 0 Q0 (F0 m 91 ls [.long k0]) := by
        intro σ p5 p6 p7 k0  H locs ls hH hS hl h1
        unfold jn_Packages_makeRow_91 at h1
        refine lv_lstore (lv' := [(8, .long k0), (0, .ref (ad 5 0)), (1, .int a1), (2, .ref (ad 9 j1)), (3, .ref (ad 9 j2)), (4, .int x3), (5, .int p5), (6, .int p6), (7, .int p7)]) hx hb d_Packages_makeRow_91 hl (by decide) rfl (fun ls hl => ?_)
        refine lv_iload hx hb d_Packages_makeRow_93 (lv_at hl 6 rfl) ?_
        refine lv_aload_n hx hb d_Packages_makeRow_95 rfl (lv_at hl 1 rfl) ?_
        refine st_get hx hb hg hown hK hH (f := 5) (i := 0) hd_5 rfl rfl u_Packages 2 (by decide) (hg _ wd_81) (v := .int (σ.1 5 0 2)) rfl d_Packages_makeRow_96 ?_
        refine lv_icmp_ge (tgt := 151) hx hb d_Packages_makeRow_99 (by decide) (fun c99 => ?_) (fun c99 => ?_)
        · have h1 := it h1 c99
          refine lv_aload_n hx hb d_Packages_makeRow_151 rfl (lv_at hl 4 rfl) ?_
          refine lv_iload hx hb d_Packages_makeRow_152 (lv_at hl 8 rfl) ?_
          refine lv_lload hx hb d_Packages_makeRow_154 (lv_at hl 0 rfl) ?_
          obtain ⟨g156, h1⟩ := gd_some h1
          refine st_last hx hb hK hH hS (f := 9) (i := j2) hdj2 rfl g156 d_Packages_makeRow_156 (fun σ5 H locs eσ5 hH hS => ?_)
          have h1 := nm_at eσ5 h1
          refine lv_aload_n hx hb d_Packages_makeRow_157 rfl (lv_at hl 1 rfl) ?_
          refine st_get hx hb hg hown hK hH (f := 5) (i := 0) hd_5 rfl rfl u_Packages 5 (by decide) (hg _ wd_91) (v := .ref (ad 11 0)) rfl d_Packages_makeRow_158 ?_
          refine lv_iload_n hx hb d_Packages_makeRow_161 rfl (lv_at hl 2 rfl) ?_
          obtain ⟨g162, h1⟩ := gd_some h1
          obtain ⟨j6, c162, h1⟩ := on_some h1
          refine st_aald hx hb hK hH (f := 11) (i := 0) hd_11 rfl (by decide) g162 d_Packages_makeRow_162 c162 (fun hdj6 => ?_)
          refine lv_iload hx hb d_Packages_makeRow_163 (lv_at hl 8 rfl) ?_
          refine lv_iconst (v := 0) hx hb d_Packages_makeRow_165 (by decide) ?_
          obtain ⟨g166, h1⟩ := gd_some h1
          refine st_iast hx hb hK hH hS (f := 12) (i := j6) hdj6 rfl g166 d_Packages_makeRow_166 (fun σ7 H locs eσ7 hH hS => ?_)
          have h1 := nm_at eσ7 h1
          obtain ⟨x8, ex8⟩ : ∃ y : Int32, y = p6 + 1 := ⟨_, rfl⟩
          have h1 := nm_at ex8 h1
          refine lv_iinc (v := x8) (lv' := [(6, .int x8), (8, .long k0), (0, .ref (ad 5 0)), (1, .int a1), (2, .ref (ad 9 j1)), (3, .ref (ad 9 j2)), (4, .int x3), (5, .int p5), (7, .int p7)]) hx hb d_Packages_makeRow_167 hl (k := 7) rfl (by rw [ex8]; rfl) (by decide) rfl (fun ls hl => ?_)
          obtain ⟨x9, ex9⟩ : ∃ y : Int32, y = p7 + 1 := ⟨_, rfl⟩
          have h1 := nm_at ex9 h1
          refine lv_iinc (v := x9) (lv' := [(7, .int x9), (6, .int x8), (8, .long k0), (0, .ref (ad 5 0)), (1, .int a1), (2, .ref (ad 9 j1)), (3, .ref (ad 9 j2)), (4, .int x3), (5, .int p5)]) hx hb d_Packages_makeRow_170 hl (k := 8) rfl (by rw [ex9]; rfl) (by decide) rfl (fun ls hl => ?_)
          refine lv_goto (tgt := 54) hx hb d_Packages_makeRow_173 (by decide) ?_
          cases h1
          exact ih1 σ7 p5 x8 x9 _ _ ls hH hS (lv_sub hl [3, 4, 5, 6, 7, 8, 1, 0] rfl) hk1
        · have h1 := ie h1 c99
          refine lv_iload hx hb d_Packages_makeRow_102 (lv_at hl 7 rfl) ?_
          refine lv_iload hx hb d_Packages_makeRow_104 (lv_at hl 5 rfl) ?_
          refine lv_icmp_ge (tgt := 123) hx hb d_Packages_makeRow_106 (by decide) (fun c106 => ?_) (fun c106 => ?_)
          · have h1 := it h1 c106
            exact J123 σ p5 p6 p7 _ _ ls hH hS (lv_sub hl [1, 2, 3, 4, 5, 6, 7, 8] rfl) h1
          · have h1 := ie h1 c106
            refine lv_aload_n hx hb d_Packages_makeRow_109 rfl (lv_at hl 1 rfl) ?_
            refine st_get hx hb hg hown hK hH (f := 5) (i := 0) hd_5 rfl rfl u_Packages 1 (by decide) (hg _ wd_82) (v := .ref (ad 7 0)) rfl d_Packages_makeRow_110 ?_
            refine lv_iload hx hb d_Packages_makeRow_113 (lv_at hl 6 rfl) ?_
            obtain ⟨g115, h1⟩ := gd_some h1
            refine st_iald hx hb hK hH (f := 7) (i := 0) hd_7 rfl g115 d_Packages_makeRow_115 ?_
            refine lv_i2l hx hb d_Packages_makeRow_116 rfl ?_
            refine lv_lload hx hb d_Packages_makeRow_117 (lv_at hl 0 rfl) ?_
            refine st_lcmp_gt (tgt := 151) hx hb d_Packages_makeRow_119 d_Packages_makeRow_120 (by decide) (fun c119 => ?_) (fun c119 => ?_)
            · have h1 := it h1 c119
              refine lv_aload_n hx hb d_Packages_makeRow_151 rfl (lv_at hl 4 rfl) ?_
              refine lv_iload hx hb d_Packages_makeRow_152 (lv_at hl 8 rfl) ?_
              refine lv_lload hx hb d_Packages_makeRow_154 (lv_at hl 0 rfl) ?_
              obtain ⟨g156, h1⟩ := gd_some h1
              refine st_last hx hb hK hH hS (f := 9) (i := j2) hdj2 rfl g156 d_Packages_makeRow_156 (fun σ15 H locs eσ15 hH hS => ?_)
              have h1 := nm_at eσ15 h1
              refine lv_aload_n hx hb d_Packages_makeRow_157 rfl (lv_at hl 1 rfl) ?_
              refine st_get hx hb hg hown hK hH (f := 5) (i := 0) hd_5 rfl rfl u_Packages 5 (by decide) (hg _ wd_91) (v := .ref (ad 11 0)) rfl d_Packages_makeRow_158 ?_
              refine lv_iload_n hx hb d_Packages_makeRow_161 rfl (lv_at hl 2 rfl) ?_
              obtain ⟨g162, h1⟩ := gd_some h1
              obtain ⟨j16, c162, h1⟩ := on_some h1
              refine st_aald hx hb hK hH (f := 11) (i := 0) hd_11 rfl (by decide) g162 d_Packages_makeRow_162 c162 (fun hdj16 => ?_)
              refine lv_iload hx hb d_Packages_makeRow_163 (lv_at hl 8 rfl) ?_
              refine lv_iconst (v := 0) hx hb d_Packages_makeRow_165 (by decide) ?_
              obtain ⟨g166, h1⟩ := gd_some h1
              refine st_iast hx hb hK hH hS (f := 12) (i := j16) hdj16 rfl g166 d_Packages_makeRow_166 (fun σ17 H locs eσ17 hH hS => ?_)
              have h1 := nm_at eσ17 h1
              obtain ⟨x18, ex18⟩ : ∃ y : Int32, y = p6 + 1 := ⟨_, rfl⟩
              have h1 := nm_at ex18 h1
              refine lv_iinc (v := x18) (lv' := [(6, .int x18), (8, .long k0), (0, .ref (ad 5 0)), (1, .int a1), (2, .ref (ad 9 j1)), (3, .ref (ad 9 j2)), (4, .int x3), (5, .int p5), (7, .int p7)]) hx hb d_Packages_makeRow_167 hl (k := 7) rfl (by rw [ex18]; rfl) (by decide) rfl (fun ls hl => ?_)
              obtain ⟨x19, ex19⟩ : ∃ y : Int32, y = p7 + 1 := ⟨_, rfl⟩
              have h1 := nm_at ex19 h1
              refine lv_iinc (v := x19) (lv' := [(7, .int x19), (6, .int x18), (8, .long k0), (0, .ref (ad 5 0)), (1, .int a1), (2, .ref (ad 9 j1)), (3, .ref (ad 9 j2)), (4, .int x3), (5, .int p5)]) hx hb d_Packages_makeRow_170 hl (k := 8) rfl (by rw [ex19]; rfl) (by decide) rfl (fun ls hl => ?_)
              refine lv_goto (tgt := 54) hx hb d_Packages_makeRow_173 (by decide) ?_
              cases h1
              exact ih1 σ17 p5 x18 x19 _ _ ls hH hS (lv_sub hl [3, 4, 5, 6, 7, 8, 1, 0] rfl) hk1
            · have h1 := ie h1 c119
              exact J123 σ p5 p6 p7 _ _ ls hH hS (lv_sub hl [1, 2, 3, 4, 5, 6, 7, 8] rfl) h1
      refine lv_iload hx hb d_Packages_makeRow_54 (lv_at hl 7 rfl) ?_
      refine lv_aload_n hx hb d_Packages_makeRow_56 rfl (lv_at hl 0 rfl) ?_
      refine st_get hx hb hg hown hK hH (f := 5) (i := 0) hd_5 rfl rfl u_Packages 4 (by decide) (hg _ wd_89) (v := .ref (ad 10 0)) rfl d_Packages_makeRow_57 ?_
      refine lv_iload_n hx hb d_Packages_makeRow_60 rfl (lv_at hl 1 rfl) ?_
      obtain ⟨g61, h1⟩ := gd_some h1
      refine st_iald hx hb hK hH (f := 10) (i := 0) hd_10 rfl g61 d_Packages_makeRow_61 ?_
      refine lv_icmp_ge (tgt := 176) hx hb d_Packages_makeRow_62 (by decide) (fun c62 => ?_) (fun c62 => ?_)
      · have h1 := it h1 c62
        cases h1
        exact K1 σ v5 v6 v7 _ _ ls (Option.some.inj hk1).symm hH hS (lv_sub hl [0, 1, 2, 3, 4, 5, 6, 7] rfl)
      · have h1 := ie h1 c62
        refine lv_iload hx hb d_Packages_makeRow_65 (lv_at hl 6 rfl) ?_
        refine lv_iload hx hb d_Packages_makeRow_67 (lv_at hl 4 rfl) ?_
        refine lv_icmp_ge (tgt := 90) hx hb d_Packages_makeRow_69 (by decide) (fun c69 => ?_) (fun c69 => ?_)
        · have h1 := it h1 c69
          refine lv_lconst (v := 0) hx hb d_Packages_makeRow_90 (by decide) ?_
          exact J91 σ v5 v6 v7 0 _ _ ls hH hS (lv_sub hl [0, 1, 2, 3, 4, 5, 6, 7] rfl) h1
        · have h1 := ie h1 c69
          refine lv_aload_n hx hb d_Packages_makeRow_72 rfl (lv_at hl 2 rfl) ?_
          refine lv_iconst (v := 2) hx hb d_Packages_makeRow_73 (by decide) ?_
          refine lv_iload hx hb d_Packages_makeRow_74 (lv_at hl 6 rfl) ?_
          refine lv_imul hx hb d_Packages_makeRow_76 ?_
          obtain ⟨g77, h1⟩ := gd_some h1
          refine st_lald hx hb hK hH (f := 9) (i := j1) hdj1 rfl g77 d_Packages_makeRow_77 ?_
          refine lv_aload_n hx hb d_Packages_makeRow_78 rfl (lv_at hl 2 rfl) ?_
          refine lv_iconst (v := 2) hx hb d_Packages_makeRow_79 (by decide) ?_
          refine lv_iload hx hb d_Packages_makeRow_80 (lv_at hl 6 rfl) ?_
          refine lv_imul hx hb d_Packages_makeRow_82 ?_
          refine lv_iconst (v := 1) hx hb d_Packages_makeRow_83 (by decide) ?_
          refine lv_iadd hx hb d_Packages_makeRow_84 ?_
          obtain ⟨g85, h1⟩ := gd_some h1
          refine st_lald hx hb hK hH (f := 9) (i := j1) hdj1 rfl g85 d_Packages_makeRow_85 ?_
          refine lv_ladd hx hb d_Packages_makeRow_86 ?_
          refine lv_goto (tgt := 91) hx hb d_Packages_makeRow_87 (by decide) ?_
          exact J91 σ v5 v6 v7 ((σ.2.1 9 j1 (2 * v6).toNatClampNeg) + (σ.2.1 9 j1 ((2 * v6) + 1).toNatClampNeg)) _ _ ls hH hS (lv_sub hl [0, 1, 2, 3, 4, 5, 6, 7] rfl) h1
  obtain ⟨k1, hq1⟩ := lpE_some hq1
  exact loop1 k1 σ4 0 0 0 _ _ ls hH hS (lv_sub hl [6, 7, 5, 4, 3, 2, 1, 0] rfl) hq1
set_option maxHeartbeats 4000000 in
set_option maxRecDepth 100000 in
theorem c_Packages_goBack (l : Launch) (D : va_G) (aC : Nat → ClassId) (A : Nat → Prop) (ad : Nat → Nat → Nat) (n : Nat) (σ : St) (a1 : Int32) (fa2 ia2 na2 : Nat) (hka2 : kd fa2 = .inr (0, na2)) (hda2 : dm n fa2 ia2) (o : St) (h : f_Packages_goBack σ a1 fa2 ia2 na2 = some o) : Met l y_Packages_goBack w_Packages_goBack rm_Packages_goBack (va_Pc [.ref (ad 5 0), .int a1, .ref (ad fa2 ia2)] (Pre D aC A ad n σ)) (va_Qv (fun (_ : Unit) => True) (fun _ t => Hold D aC A ad n o t.heap) A) 0 0 A := by
  refine Met.ofW (cc := prog_6_method_7_code) (maxL := 7) (ret := none) (by decide) rfl ?_
  intro p e s m args below meth c s₁ B hml hv
  obtain ⟨hargs, hH, hK, hZ⟩ := hv
  have hx := B.exec
  have hb := B.bytes
  have hr := B.returns
  have hts := atoms_spec (ws := w_Packages_goBack) B.pre
  have hg : ∀ w ∈ gW, w.before args s = true := fun w h => hts w (List.mem_cons_of_mem _ h)
  have hown : s.vm.findClass "PrefixCodes$Packages" = some m.cls := findClass_of_methodNamed B.named
  have hlocks := B.notSynchronized
  have hS : va_S A s.heap s.heap [] := va_S.rf
  have hl := lv_entry ([.ref (ad 5 0), .int a1, .ref (ad fa2 ia2)]) (n := 7) (Nat.le_of_ble_eq_true rfl)
  rw [show entryFrame m args 7 = entryFrame m (([.ref (ad 5 0), .int a1, .ref (ad fa2 ia2)] : List Value).toArray) 7 by rw [hargs], lg_entry_eq]
  generalize (lg_sl ([.ref (ad 5 0), .int a1, .ref (ad fa2 ia2)]) ++ List.replicate (7 - (lg_sl ([.ref (ad 5 0), .int a1, .ref (ad fa2 ia2)])).length) Slot.unset).toArray = ls at hl ⊢
  have hl : lv_has ls 7 [(0, .ref (ad 5 0)), (1, .int a1), (2, .ref (ad fa2 ia2))] := hl
  generalize hQ0 : MQ below (va_Qv (fun (_ : Unit) => True) (fun _ t => Hold D aC A ad n o t.heap) A) args s 0 0 A = Q0
  unfold f_Packages_goBack at h
  refine lv_iconst (v := 2) hx hb d_Packages_goBack_0 (by decide) ?_
  refine lv_aload_n hx hb d_Packages_goBack_1 rfl (lv_at hl 0 rfl) ?_
  refine st_get hx hb hg hown hK hH (f := 5) (i := 0) hd_5 rfl rfl u_Packages 2 (by decide) (hg _ wd_81) (v := .int (σ.1 5 0 2)) rfl d_Packages_goBack_2 ?_
  refine lv_imul hx hb d_Packages_goBack_5 ?_
  refine lv_iconst (v := 2) hx hb d_Packages_goBack_6 (by decide) ?_
  refine lv_isub hx hb d_Packages_goBack_7 ?_
  refine lv_topi (fun x1 ex1 => ?_)
  have h := nm_at ex1 h
  refine lv_istore_n (lv' := [(3, .int x1), (0, .ref (ad 5 0)), (1, .int a1), (2, .ref (ad fa2 ia2))]) hx hb d_Packages_goBack_8 rfl hl (by decide) rfl (fun ls hl => ?_)
  refine lv_iload_n hx hb d_Packages_goBack_9 rfl (lv_at hl 2 rfl) ?_
  refine lv_iconst (v := 1) hx hb d_Packages_goBack_10 (by decide) ?_
  refine lv_isub hx hb d_Packages_goBack_11 ?_
  refine lv_topi (fun x2 ex2 => ?_)
  have h := nm_at ex2 h
  refine lv_istore (lv' := [(4, .int x2), (3, .int x1), (0, .ref (ad 5 0)), (1, .int a1), (2, .ref (ad fa2 ia2))]) hx hb d_Packages_goBack_12 hl (by decide) rfl (fun ls hl => ?_)
  obtain ⟨q1, hq1, h⟩ := b3_some h
  have K1 : ∀ (σ15 : St) (x16 : Int32) (x17 : Int32) (H : Heap) (locs : List Loc) (ls : Array Slot), q1 = (σ15, x16, x17) → Hold D aC A ad n σ15 H → va_S A s.heap H locs → lv_has ls 7 [(0, .ref (ad 5 0)), (2, .ref (ad fa2 ia2)), (3, .int x16), (4, .int x17)] → W p l e (headSpec w_Packages_goBack rm_Packages_goBack).room s m args below meth c H locs 0 0 Q0 (F0 m 106 ls []) := by
    intro σ15 x16 x17 H locs ls eq1 hH hS hl
    subst eq1
    have h := b3_at h
    cases h
    rw [← hQ0]
    exact W.vret hx hb hr (fun t ht hW => ⟨⟨(), rfl, trivial, by dsimp only; rw [ht]; exact hH⟩, hS.F ht⟩) hS.2.2 d_Packages_goBack_106
  have loop1 : ∀ (k : Nat) (σ : St) (v3 : Int32) (v4 : Int32) (H : Heap) (locs : List Loc) (ls : Array Slot), Hold D aC A ad n σ H → va_S A s.heap H locs → lv_has ls 7 [(0, .ref (ad 5 0)), (2, .ref (ad fa2 ia2)), (3, .int v3), (4, .int v4)] → lp (fun q => lb_Packages_goBack_14 fa2 ia2 na2 q.1 q.2.1 q.2.2) k (σ, v3, v4) = some q1 → W p l e (headSpec w_Packages_goBack rm_Packages_goBack).room s m args below meth c H locs 0 0 Q0 (F0 m 14 ls []) := by
    intro k
    induction k with
    | zero => intro σ v3 v4 H locs ls hH hS hl hlp; exact absurd hlp (lp_zero _ _ _)
    | succ k ih1 =>
      intro σ v3 v4 H locs ls hH hS hl hlp
      obtain ⟨z1, h1, hk1⟩ := lp_succ hlp
      have h1 : lb_Packages_goBack_14 fa2 ia2 na2 σ v3 v4 = some z1 := h1
      unfold lb_Packages_goBack_14 at h1
      refine lv_iload hx hb d_Packages_goBack_14 (lv_at hl 3 rfl) ?_
      refine lv_if_lt (tgt := 106) hx hb d_Packages_goBack_16 (by decide) (fun c16 => ?_) (fun c16 => ?_)
      · have h1 := it h1 c16
        cases h1
        exact K1 σ v3 v4 _ _ ls (Option.some.inj hk1).symm hH hS (lv_sub hl [0, 1, 2, 3] rfl)
      · have h1 := ie h1 c16
        refine lv_iconst (v := 0) hx hb d_Packages_goBack_19 (by decide) ?_
        refine lv_istore (lv' := [(5, .int 0), (0, .ref (ad 5 0)), (2, .ref (ad fa2 ia2)), (3, .int v3), (4, .int v4)]) hx hb d_Packages_goBack_20 hl (by decide) rfl (fun ls hl => ?_)
        refine lv_iconst (v := 0) hx hb d_Packages_goBack_22 (by decide) ?_
        refine lv_istore (lv' := [(6, .int 0), (5, .int 0), (0, .ref (ad 5 0)), (2, .ref (ad fa2 ia2)), (3, .int v3), (4, .int v4)]) hx hb d_Packages_goBack_23 hl (by decide) rfl (fun ls hl => ?_)
        obtain ⟨q2, hq2, h1⟩ := b3_some h1
        have K2 : ∀ (σ6 : St) (x7 : Int32) (x8 : Int32) (H : Heap) (locs : List Loc) (ls : Array Slot), q2 = (σ6, x7, x8) → Hold D aC A ad n σ6 H → va_S A s.heap H locs → lv_has ls 7 [(0, .ref (ad 5 0)), (2, .ref (ad fa2 ia2)), (3, .int v3), (4, .int v4), (5, .int x7), (6, .int x8)] → W p l e (headSpec w_Packages_goBack rm_Packages_goBack).room s m args below meth c H locs 0 0 Q0 (F0 m 64 ls []) := by
          intro σ6 x7 x8 H locs ls eq2 hH hS hl
          subst eq2
          have h1 := b3_at h1
          refine lv_iconst (v := 0) hx hb d_Packages_goBack_64 (by decide) ?_
          refine lv_istore (lv' := [(6, .int 0), (0, .ref (ad 5 0)), (2, .ref (ad fa2 ia2)), (3, .int v3), (4, .int v4), (5, .int x7)]) hx hb d_Packages_goBack_65 hl (by decide) rfl (fun ls hl => ?_)
          obtain ⟨q2, hq2, h1⟩ := b2_some h1
          have K2 : ∀ (σ11 : St) (x12 : Int32) (H : Heap) (locs : List Loc) (ls : Array Slot), q2 = (σ11, x12) → Hold D aC A ad n σ11 H → va_S A s.heap H locs → lv_has ls 7 [(0, .ref (ad 5 0)), (2, .ref (ad fa2 ia2)), (3, .int v3), (4, .int v4), (5, .int x7), (6, .int x12)] → W p l e (headSpec w_Packages_goBack rm_Packages_goBack).room s m args below meth c H locs 0 0 Q0 (F0 m 93 ls []) := by
            intro σ11 x12 H locs ls eq2 hH hS hl
            subst eq2
            have h1 := b2_at h1
            refine lv_iconst (v := 2) hx hb d_Packages_goBack_93 (by decide) ?_
            refine lv_iload_n hx hb d_Packages_goBack_94 rfl (lv_at hl 2 rfl) ?_
            refine lv_iload hx hb d_Packages_goBack_95 (lv_at hl 4 rfl) ?_
            refine lv_isub hx hb d_Packages_goBack_97 ?_
            refine lv_imul hx hb d_Packages_goBack_98 ?_
            refine lv_topi (fun x13 ex13 => ?_)
            have h1 := nm_at ex13 h1
            refine lv_istore_n (lv' := [(3, .int x13), (0, .ref (ad 5 0)), (2, .ref (ad fa2 ia2)), (4, .int v4), (5, .int x7), (6, .int x12)]) hx hb d_Packages_goBack_99 rfl hl (by decide) rfl (fun ls hl => ?_)
            obtain ⟨x14, ex14⟩ : ∃ y : Int32, y = v4 + (-1) := ⟨_, rfl⟩
            have h1 := nm_at ex14 h1
            refine lv_iinc (v := x14) (lv' := [(4, .int x14), (3, .int x13), (0, .ref (ad 5 0)), (2, .ref (ad fa2 ia2)), (5, .int x7), (6, .int x12)]) hx hb d_Packages_goBack_100 hl (k := 3) rfl (by rw [ex14]; rfl) (by decide) rfl (fun ls hl => ?_)
            refine lv_goto (tgt := 14) hx hb d_Packages_goBack_103 (by decide) ?_
            cases h1
            exact ih1 σ11 x13 x14 _ _ ls hH hS (lv_sub hl [2, 3, 1, 0] rfl) hk1
          have loop2 : ∀ (k : Nat) (σ : St) (v6 : Int32) (H : Heap) (locs : List Loc) (ls : Array Slot), Hold D aC A ad n σ H → va_S A s.heap H locs → lv_has ls 7 [(0, .ref (ad 5 0)), (2, .ref (ad fa2 ia2)), (3, .int v3), (4, .int v4), (5, .int x7), (6, .int v6)] → lp (fun q => lb_Packages_goBack_67 fa2 ia2 na2 v3 v4 x7 q.1 q.2) k (σ, v6) = some q2 → W p l e (headSpec w_Packages_goBack rm_Packages_goBack).room s m args below meth c H locs 0 0 Q0 (F0 m 67 ls []) := by
            intro k
            induction k with
            | zero => intro σ v6 H locs ls hH hS hl hlp; exact absurd hlp (lp_zero _ _ _)
            | succ k ih2 =>
              intro σ v6 H locs ls hH hS hl hlp
              obtain ⟨z2, h2, hk2⟩ := lp_succ hlp
              have h2 : lb_Packages_goBack_67 fa2 ia2 na2 v3 v4 x7 σ v6 = some z2 := h2
              unfold lb_Packages_goBack_67 at h2
              refine lv_iload hx hb d_Packages_goBack_67 (lv_at hl 5 rfl) ?_
              refine lv_iload hx hb d_Packages_goBack_69 (lv_at hl 4 rfl) ?_
              refine lv_icmp_ge (tgt := 93) hx hb d_Packages_goBack_71 (by decide) (fun c71 => ?_) (fun c71 => ?_)
              · have h2 := it h2 c71
                cases h2
                exact K2 σ v6 _ _ ls (Option.some.inj hk2).symm hH hS (lv_sub hl [0, 1, 2, 3, 4, 5] rfl)
              · have h2 := ie h2 c71
                refine lv_aload_n hx hb d_Packages_goBack_74 rfl (lv_at hl 1 rfl) ?_
                refine lv_aload_n hx hb d_Packages_goBack_75 rfl (lv_at hl 0 rfl) ?_
                refine st_get hx hb hg hown hK hH (f := 5) (i := 0) hd_5 rfl rfl u_Packages 0 (by decide) (hg _ wd_83) (v := .ref (ad 6 0)) rfl d_Packages_goBack_76 ?_
                refine lv_iload hx hb d_Packages_goBack_79 (lv_at hl 5 rfl) ?_
                obtain ⟨g81, h2⟩ := gd_some h2
                refine st_iald hx hb hK hH (f := 6) (i := 0) hd_6 rfl g81 d_Packages_goBack_81 ?_
                refine lv_dup2_11 hx hb d_Packages_goBack_82 rfl rfl ?_
                obtain ⟨g83, h2⟩ := gd_some h2
                refine st_iald hx hb hK hH (f := fa2) (i := ia2) hda2 hka2 g83 d_Packages_goBack_83 ?_
                refine lv_iconst (v := 1) hx hb d_Packages_goBack_84 (by decide) ?_
                refine lv_iadd hx hb d_Packages_goBack_85 ?_
                obtain ⟨g86, h2⟩ := gd_some h2
                refine st_iast hx hb hK hH hS (f := fa2) (i := ia2) hda2 hka2 g86 d_Packages_goBack_86 (fun σ9 H locs eσ9 hH hS => ?_)
                have h2 := nm_at eσ9 h2
                obtain ⟨x10, ex10⟩ : ∃ y : Int32, y = v6 + 1 := ⟨_, rfl⟩
                have h2 := nm_at ex10 h2
                refine lv_iinc (v := x10) (lv' := [(6, .int x10), (0, .ref (ad 5 0)), (2, .ref (ad fa2 ia2)), (3, .int v3), (4, .int v4), (5, .int x7)]) hx hb d_Packages_goBack_87 hl (k := 5) rfl (by rw [ex10]; rfl) (by decide) rfl (fun ls hl => ?_)
                refine lv_goto (tgt := 67) hx hb d_Packages_goBack_90 (by decide) ?_
                cases h2
                exact ih2 σ9 x10 _ _ ls hH hS (lv_sub hl [1, 2, 3, 4, 5, 0] rfl) hk2
          obtain ⟨k2, hq2⟩ := lpE_some hq2
          exact loop2 k2 σ6 0 _ _ ls hH hS (lv_sub hl [1, 2, 3, 4, 5, 0] rfl) hq2
        have loop2 : ∀ (k : Nat) (σ : St) (v5 : Int32) (v6 : Int32) (H : Heap) (locs : List Loc) (ls : Array Slot), Hold D aC A ad n σ H → va_S A s.heap H locs → lv_has ls 7 [(0, .ref (ad 5 0)), (2, .ref (ad fa2 ia2)), (3, .int v3), (4, .int v4), (5, .int v5), (6, .int v6)] → lp (fun q => lb_Packages_goBack_25 fa2 ia2 na2 v3 v4 q.1 q.2.1 q.2.2) k (σ, v5, v6) = some q2 → W p l e (headSpec w_Packages_goBack rm_Packages_goBack).room s m args below meth c H locs 0 0 Q0 (F0 m 25 ls []) := by
          intro k
          induction k with
          | zero => intro σ v5 v6 H locs ls hH hS hl hlp; exact absurd hlp (lp_zero _ _ _)
          | succ k ih2 =>
            intro σ v5 v6 H locs ls hH hS hl hlp
            obtain ⟨z2, h2, hk2⟩ := lp_succ hlp
            have h2 : lb_Packages_goBack_25 fa2 ia2 na2 v3 v4 σ v5 v6 = some z2 := h2
            unfold lb_Packages_goBack_25 at h2
            refine lv_iload hx hb d_Packages_goBack_25 (lv_at hl 5 rfl) ?_
            refine lv_iload_n hx hb d_Packages_goBack_27 rfl (lv_at hl 2 rfl) ?_
            refine lv_icmp_ge (tgt := 64) hx hb d_Packages_goBack_28 (by decide) (fun c28 => ?_) (fun c28 => ?_)
            · have h2 := it h2 c28
              cases h2
              exact K2 σ v5 v6 _ _ ls (Option.some.inj hk2).symm hH hS (lv_sub hl [0, 1, 2, 3, 4, 5] rfl)
            · have h2 := ie h2 c28
              refine lv_iload hx hb d_Packages_goBack_31 (lv_at hl 5 rfl) ?_
              refine lv_aload_n hx hb d_Packages_goBack_33 rfl (lv_at hl 0 rfl) ?_
              refine st_get hx hb hg hown hK hH (f := 5) (i := 0) hd_5 rfl rfl u_Packages 4 (by decide) (hg _ wd_89) (v := .ref (ad 10 0)) rfl d_Packages_goBack_34 ?_
              refine lv_iload hx hb d_Packages_goBack_37 (lv_at hl 3 rfl) ?_
              obtain ⟨g39, h2⟩ := gd_some h2
              refine st_iald hx hb hK hH (f := 10) (i := 0) hd_10 rfl g39 d_Packages_goBack_39 ?_
              refine lv_icmp_ge (tgt := 64) hx hb d_Packages_goBack_40 (by decide) (fun c40 => ?_) (fun c40 => ?_)
              · have h2 := it h2 c40
                cases h2
                exact K2 σ v5 v6 _ _ ls (Option.some.inj hk2).symm hH hS (lv_sub hl [0, 1, 2, 3, 4, 5] rfl)
              · have h2 := ie h2 c40
                refine lv_iload hx hb d_Packages_goBack_43 (lv_at hl 4 rfl) ?_
                refine lv_aload_n hx hb d_Packages_goBack_45 rfl (lv_at hl 0 rfl) ?_
                refine st_get hx hb hg hown hK hH (f := 5) (i := 0) hd_5 rfl rfl u_Packages 5 (by decide) (hg _ wd_91) (v := .ref (ad 11 0)) rfl d_Packages_goBack_46 ?_
                refine lv_iload hx hb d_Packages_goBack_49 (lv_at hl 3 rfl) ?_
                obtain ⟨g51, h2⟩ := gd_some h2
                obtain ⟨j3, c51, h2⟩ := on_some h2
                refine st_aald hx hb hK hH (f := 11) (i := 0) hd_11 rfl (by decide) g51 d_Packages_goBack_51 c51 (fun hdj3 => ?_)
                refine lv_iload hx hb d_Packages_goBack_52 (lv_at hl 5 rfl) ?_
                obtain ⟨g54, h2⟩ := gd_some h2
                refine st_iald hx hb hK hH (f := 12) (i := j3) hdj3 rfl g54 d_Packages_goBack_54 ?_
                refine lv_iadd hx hb d_Packages_goBack_55 ?_
                refine lv_topi (fun x4 ex4 => ?_)
                have h2 := nm_at ex4 h2
                refine lv_istore (lv' := [(5, .int x4), (0, .ref (ad 5 0)), (2, .ref (ad fa2 ia2)), (3, .int v3), (4, .int v4), (6, .int v6)]) hx hb d_Packages_goBack_56 hl (by decide) rfl (fun ls hl => ?_)
                obtain ⟨x5, ex5⟩ : ∃ y : Int32, y = v6 + 1 := ⟨_, rfl⟩
                have h2 := nm_at ex5 h2
                refine lv_iinc (v := x5) (lv' := [(6, .int x5), (5, .int x4), (0, .ref (ad 5 0)), (2, .ref (ad fa2 ia2)), (3, .int v3), (4, .int v4)]) hx hb d_Packages_goBack_58 hl (k := 5) rfl (by rw [ex5]; rfl) (by decide) rfl (fun ls hl => ?_)
                refine lv_goto (tgt := 25) hx hb d_Packages_goBack_61 (by decide) ?_
                cases h2
                exact ih2 σ x4 x5 _ _ ls hH hS (lv_sub hl [2, 3, 4, 5, 1, 0] rfl) hk2
        obtain ⟨k2, hq2⟩ := lpE_some hq2
        exact loop2 k2 σ 0 0 _ _ ls hH hS (lv_sub hl [2, 3, 4, 5, 1, 0] rfl) hq2
  obtain ⟨k1, hq1⟩ := lpE_some hq1
  exact loop1 k1 σ x1 x2 _ _ ls hH hS (lv_sub hl [2, 4, 1, 0] rfl) hq1
set_option maxHeartbeats 4000000 in
set_option maxRecDepth 100000 in
theorem c_Packages_fit (l : Launch) (D : va_G) (aC : Nat → ClassId) (A : Nat → Prop) (ad : Nat → Nat → Nat) (n : Nat) (σ : St) (fa1 ia1 na1 : Nat) (a2 : Int32) (ia3 : Nat) (hka1 : kd fa1 = .inr (0, na1)) (hda1 : dm n fa1 ia1) (hda3 : dm n 41 ia3) (o : St) (h : f_Packages_fit σ fa1 ia1 na1 a2 ia3 = some o) : Met l y_Packages_fit w_Packages_fit rm_Packages_fit (va_Pc [.ref (ad 5 0), .ref (ad fa1 ia1), .int a2, .ref (ad 41 ia3)] (Pre D aC A ad n σ)) (va_Qv (fun (_ : Unit) => True) (fun _ t => Hold D aC A ad n o t.heap) A) 0 0 A := by
  refine Met.ofW (cc := prog_6_method_2_code) (maxL := 5) (ret := none) (by decide) rfl ?_
  intro p e s m args below meth c s₁ B hml hv
  obtain ⟨hargs, hH, hK, hZ⟩ := hv
  have hx := B.exec
  have hb := B.bytes
  have hr := B.returns
  have hts := atoms_spec (ws := w_Packages_fit) B.pre
  have hg : ∀ w ∈ gW, w.before args s = true := fun w h => hts w (List.mem_cons_of_mem _ h)
  have hown : s.vm.findClass "PrefixCodes$Packages" = some m.cls := findClass_of_methodNamed B.named
  have hlocks := B.notSynchronized
  have hS : va_S A s.heap s.heap [] := va_S.rf
  have hl := lv_entry ([.ref (ad 5 0), .ref (ad fa1 ia1), .int a2, .ref (ad 41 ia3)]) (n := 5) (Nat.le_of_ble_eq_true rfl)
  rw [show entryFrame m args 5 = entryFrame m (([.ref (ad 5 0), .ref (ad fa1 ia1), .int a2, .ref (ad 41 ia3)] : List Value).toArray) 5 by rw [hargs], lg_entry_eq]
  generalize (lg_sl ([.ref (ad 5 0), .ref (ad fa1 ia1), .int a2, .ref (ad 41 ia3)]) ++ List.replicate (5 - (lg_sl ([.ref (ad 5 0), .ref (ad fa1 ia1), .int a2, .ref (ad 41 ia3)])).length) Slot.unset).toArray = ls at hl ⊢
  have hl : lv_has ls 5 [(0, .ref (ad 5 0)), (1, .ref (ad fa1 ia1)), (2, .int a2), (3, .ref (ad 41 ia3))] := hl
  generalize hQ0 : MQ below (va_Qv (fun (_ : Unit) => True) (fun _ t => Hold D aC A ad n o t.heap) A) args s 0 0 A = Q0
  unfold f_Packages_fit at h
  refine lv_aload_n hx hb d_Packages_fit_0 rfl (lv_at hl 3 rfl) ?_
  refine st_get hx hb hg hown hK hH (f := 41) (i := ia3) hda3 rfl rfl u_Code 1 (by decide) (hg _ wd_92) (v := .ref (ad 42 ia3)) rfl d_Packages_fit_1 ?_
  refine lv_iconst (v := 0) hx hb d_Packages_fit_4 (by decide) ?_
  obtain ⟨qc, hc5, h⟩ := b1_some h
  obtain ⟨σ1, rfl⟩ : ∃ z, z = qc := ⟨_, rfl⟩
  have h := b1_at h
  refine st_Sv (As := [.ref (ad 42 ia3), .int 0]) (rest := []) ⟨hx, hb, hml, hown, hg⟩ (c_Arrays_fill l D aC A ad n _ 42 ia3 64 0 rfl hda3 _ hc5) (cwGS hg wd_14 wd_94 wd_17 wd_16 yd_Arrays_fill ⟨Nat.le_of_ble_eq_true rfl, Nat.le_of_ble_eq_true rfl⟩) hK hH hS hZ rfl hl.1 rfl (Nat.le_of_ble_eq_true rfl) d_Packages_fit_5 ⟨Nat.zero_le _, Nat.zero_le _⟩ (fun H locs hH hS => ?_)
  refine lv_aload_n hx hb d_Packages_fit_8 rfl (lv_at hl 0 rfl) ?_
  refine lv_aload_n hx hb d_Packages_fit_9 rfl (lv_at hl 1 rfl) ?_
  refine lv_aload_n hx hb d_Packages_fit_10 rfl (lv_at hl 3 rfl) ?_
  refine st_get hx hb hg hown hK hH (f := 41) (i := ia3) hda3 rfl rfl u_Code 0 (by decide) (hg _ wd_93) (v := .int (σ1.1 41 ia3 0)) rfl d_Packages_fit_11 ?_
  obtain ⟨qc, hc14, h⟩ := b1_some h
  obtain ⟨σ2, rfl⟩ : ∃ z, z = qc := ⟨_, rfl⟩
  have h := b1_at h
  refine st_Vv (As := [.ref (ad fa1 ia1), .int (σ1.1 41 ia3 0)]) (rest := []) ⟨hx, hb, hml, hown, hg⟩ (c_Packages_order l D aC A ad n _ fa1 ia1 na1 (σ1.1 41 ia3 0) hka1 hda1 _ hc14) (cwG hg wd_95 wd_96 wd_97 wd_98 wd_86 yd_Packages_order ⟨Nat.le_of_ble_eq_true rfl, Nat.le_of_ble_eq_true rfl⟩) hK hH hS hZ hd_5 rfl rfl rfl hl.1 rfl (Nat.le_of_ble_eq_true rfl) d_Packages_fit_14 ⟨Nat.zero_le _, Nat.zero_le _⟩ (fun H locs hH hS => ?_)
  refine lv_aload_n hx hb d_Packages_fit_17 rfl (lv_at hl 0 rfl) ?_
  refine st_get hx hb hg hown hK hH (f := 5) (i := 0) hd_5 rfl rfl u_Packages 2 (by decide) (hg _ wd_81) (v := .int (σ2.1 5 0 2)) rfl d_Packages_fit_18 ?_
  refine lv_iconst (v := 1) hx hb d_Packages_fit_21 (by decide) ?_
  refine lv_icmp_ne (tgt := 40) hx hb d_Packages_fit_22 (by decide) (fun c22 => ?_) (fun c22 => ?_)
  · have h := ie h c22
    refine lv_aload_n hx hb d_Packages_fit_40 rfl (lv_at hl 0 rfl) ?_
    refine st_get hx hb hg hown hK hH (f := 5) (i := 0) hd_5 rfl rfl u_Packages 2 (by decide) (hg _ wd_81) (v := .int (σ2.1 5 0 2)) rfl d_Packages_fit_41 ?_
    refine lv_iconst (v := 1) hx hb d_Packages_fit_44 (by decide) ?_
    refine lv_icmp_le (tgt := 82) hx hb d_Packages_fit_45 (by decide) (fun c45 => ?_) (fun c45 => ?_)
    · have h := it h c45
      refine lv_aload_n hx hb d_Packages_fit_82 rfl (lv_at hl 3 rfl) ?_
      obtain ⟨qc, hc83, h⟩ := b1_some h
      obtain ⟨σ3, rfl⟩ : ∃ z, z = qc := ⟨_, rfl⟩
      have h := b1_at h
      refine st_Vv (As := []) (rest := []) ⟨hx, hb, hml, hown, hg⟩ (c_Code_renumber l D aC A ad n _ ia3 hda3 _ hc83) (cwG hg wd_49 wd_99 wd_51 wd_52 wd_29 yd_Code_renumber ⟨Nat.le_of_ble_eq_true rfl, Nat.le_of_ble_eq_true rfl⟩) hK hH hS hZ hda3 rfl rfl rfl hl.1 rfl (Nat.le_of_ble_eq_true rfl) d_Packages_fit_83 ⟨Nat.zero_le _, Nat.zero_le _⟩ (fun H locs hH hS => ?_)
      cases h
      rw [← hQ0]
      exact W.vret hx hb hr (fun t ht hW => ⟨⟨(), rfl, trivial, by dsimp only; rw [ht]; exact hH⟩, hS.F ht⟩) hS.2.2 d_Packages_fit_86
    · have h := ie h c45
      refine lv_aload_n hx hb d_Packages_fit_48 rfl (lv_at hl 0 rfl) ?_
      obtain ⟨qc, hc49, h⟩ := b1_some h
      obtain ⟨σ4, rfl⟩ : ∃ z, z = qc := ⟨_, rfl⟩
      have h := b1_at h
      refine st_Vv (As := []) (rest := []) ⟨hx, hb, hml, hown, hg⟩ (c_Packages_makeFirstRow l D aC A ad n _  _ hc49) (cwG hg wd_100 wd_101 wd_102 wd_103 wd_86 yd_Packages_makeFirstRow ⟨Nat.le_of_ble_eq_true rfl, Nat.le_of_ble_eq_true rfl⟩) hK hH hS hZ hd_5 rfl rfl rfl hl.1 rfl (Nat.le_of_ble_eq_true rfl) d_Packages_fit_49 ⟨Nat.zero_le _, Nat.zero_le _⟩ (fun H locs hH hS => ?_)
      refine lv_iconst (v := 1) hx hb d_Packages_fit_52 (by decide) ?_
      refine lv_istore (lv' := [(4, .int 1), (0, .ref (ad 5 0)), (1, .ref (ad fa1 ia1)), (2, .int a2), (3, .ref (ad 41 ia3))]) hx hb d_Packages_fit_53 hl (by decide) rfl (fun ls hl => ?_)
      obtain ⟨q1, hq1, h⟩ := b2_some h
      have K1 : ∀ (σ7 : St) (x8 : Int32) (H : Heap) (locs : List Loc) (ls : Array Slot), q1 = (σ7, x8) → Hold D aC A ad n σ7 H → va_S A s.heap H locs → lv_has ls 5 [(0, .ref (ad 5 0)), (2, .int a2), (3, .ref (ad 41 ia3)), (4, .int x8)] → W p l e (headSpec w_Packages_fit rm_Packages_fit).room s m args below meth c H locs 0 0 Q0 (F0 m 73 ls []) := by
        intro σ7 x8 H locs ls eq1 hH hS hl
        subst eq1
        have h := b2_at h
        refine lv_aload_n hx hb d_Packages_fit_73 rfl (lv_at hl 0 rfl) ?_
        refine lv_iload_n hx hb d_Packages_fit_74 rfl (lv_at hl 1 rfl) ?_
        refine lv_aload_n hx hb d_Packages_fit_75 rfl (lv_at hl 2 rfl) ?_
        refine st_get hx hb hg hown hK hH (f := 41) (i := ia3) hda3 rfl rfl u_Code 1 (by decide) (hg _ wd_92) (v := .ref (ad 42 ia3)) rfl d_Packages_fit_76 ?_
        obtain ⟨qc, hc79, h⟩ := b1_some h
        obtain ⟨σ9, rfl⟩ : ∃ z, z = qc := ⟨_, rfl⟩
        have h := b1_at h
        refine st_Vv (As := [.int a2, .ref (ad 42 ia3)]) (rest := []) ⟨hx, hb, hml, hown, hg⟩ (c_Packages_goBack l D aC A ad n _ a2 42 ia3 64 rfl hda3 _ hc79) (cwG hg wd_104 wd_105 wd_106 wd_107 wd_86 yd_Packages_goBack ⟨Nat.le_of_ble_eq_true rfl, Nat.le_of_ble_eq_true rfl⟩) hK hH hS hZ hd_5 rfl rfl rfl hl.1 rfl (Nat.le_of_ble_eq_true rfl) d_Packages_fit_79 ⟨Nat.zero_le _, Nat.zero_le _⟩ (fun H locs hH hS => ?_)
        refine lv_aload_n hx hb d_Packages_fit_82 rfl (lv_at hl 2 rfl) ?_
        obtain ⟨qc, hc83, h⟩ := b1_some h
        obtain ⟨σ10, rfl⟩ : ∃ z, z = qc := ⟨_, rfl⟩
        have h := b1_at h
        refine st_Vv (As := []) (rest := []) ⟨hx, hb, hml, hown, hg⟩ (c_Code_renumber l D aC A ad n _ ia3 hda3 _ hc83) (cwG hg wd_49 wd_99 wd_51 wd_52 wd_29 yd_Code_renumber ⟨Nat.le_of_ble_eq_true rfl, Nat.le_of_ble_eq_true rfl⟩) hK hH hS hZ hda3 rfl rfl rfl hl.1 rfl (Nat.le_of_ble_eq_true rfl) d_Packages_fit_83 ⟨Nat.zero_le _, Nat.zero_le _⟩ (fun H locs hH hS => ?_)
        cases h
        rw [← hQ0]
        exact W.vret hx hb hr (fun t ht hW => ⟨⟨(), rfl, trivial, by dsimp only; rw [ht]; exact hH⟩, hS.F ht⟩) hS.2.2 d_Packages_fit_86
      have loop1 : ∀ (k : Nat) (σ : St) (v4 : Int32) (H : Heap) (locs : List Loc) (ls : Array Slot), Hold D aC A ad n σ H → va_S A s.heap H locs → lv_has ls 5 [(0, .ref (ad 5 0)), (2, .int a2), (3, .ref (ad 41 ia3)), (4, .int v4)] → lp (fun q => lb_Packages_fit_55 a2 ia3 q.1 q.2) k (σ, v4) = some q1 → W p l e (headSpec w_Packages_fit rm_Packages_fit).room s m args below meth c H locs 0 0 Q0 (F0 m 55 ls []) := by
        intro k
        induction k with
        | zero => intro σ v4 H locs ls hH hS hl hlp; exact absurd hlp (lp_zero _ _ _)
        | succ k ih1 =>
          intro σ v4 H locs ls hH hS hl hlp
          obtain ⟨z1, h1, hk1⟩ := lp_succ hlp
          have h1 : lb_Packages_fit_55 a2 ia3 σ v4 = some z1 := h1
          unfold lb_Packages_fit_55 at h1
          refine lv_iload hx hb d_Packages_fit_55 (lv_at hl 3 rfl) ?_
          refine lv_iload_n hx hb d_Packages_fit_57 rfl (lv_at hl 1 rfl) ?_
          refine lv_icmp_ge (tgt := 73) hx hb d_Packages_fit_58 (by decide) (fun c58 => ?_) (fun c58 => ?_)
          · have h1 := it h1 c58
            cases h1
            exact K1 σ v4 _ _ ls (Option.some.inj hk1).symm hH hS (lv_sub hl [0, 1, 2, 3] rfl)
          · have h1 := ie h1 c58
            refine lv_aload_n hx hb d_Packages_fit_61 rfl (lv_at hl 0 rfl) ?_
            refine lv_iload hx hb d_Packages_fit_62 (lv_at hl 3 rfl) ?_
            obtain ⟨qc, hc64, h1⟩ := b1_some h1
            obtain ⟨σ5, rfl⟩ : ∃ z, z = qc := ⟨_, rfl⟩
            have h1 := b1_at h1
            refine st_Vv (As := [.int v4]) (rest := []) ⟨hx, hb, hml, hown, hg⟩ (c_Packages_makeRow l D aC A ad n _ v4 _ hc64) (cwG hg wd_108 wd_109 wd_110 wd_111 wd_86 yd_Packages_makeRow ⟨Nat.le_of_ble_eq_true rfl, Nat.le_of_ble_eq_true rfl⟩) hK hH hS hZ hd_5 rfl rfl rfl hl.1 rfl (Nat.le_of_ble_eq_true rfl) d_Packages_fit_64 ⟨Nat.zero_le _, Nat.zero_le _⟩ (fun H locs hH hS => ?_)
            obtain ⟨x6, ex6⟩ : ∃ y : Int32, y = v4 + 1 := ⟨_, rfl⟩
            have h1 := nm_at ex6 h1
            refine lv_iinc (v := x6) (lv' := [(4, .int x6), (0, .ref (ad 5 0)), (2, .int a2), (3, .ref (ad 41 ia3))]) hx hb d_Packages_fit_67 hl (k := 3) rfl (by rw [ex6]; rfl) (by decide) rfl (fun ls hl => ?_)
            refine lv_goto (tgt := 55) hx hb d_Packages_fit_70 (by decide) ?_
            cases h1
            exact ih1 σ5 x6 _ _ ls hH hS (lv_sub hl [1, 2, 3, 0] rfl) hk1
      obtain ⟨k1, hq1⟩ := lpE_some hq1
      exact loop1 k1 σ4 1 _ _ ls hH hS (lv_sub hl [1, 3, 4, 0] rfl) hq1
  · have h := it h c22
    refine lv_aload_n hx hb d_Packages_fit_25 rfl (lv_at hl 3 rfl) ?_
    refine st_get hx hb hg hown hK hH (f := 41) (i := ia3) hda3 rfl rfl u_Code 1 (by decide) (hg _ wd_92) (v := .ref (ad 42 ia3)) rfl d_Packages_fit_26 ?_
    refine lv_aload_n hx hb d_Packages_fit_29 rfl (lv_at hl 0 rfl) ?_
    refine st_get hx hb hg hown hK hH (f := 5) (i := 0) hd_5 rfl rfl u_Packages 0 (by decide) (hg _ wd_83) (v := .ref (ad 6 0)) rfl d_Packages_fit_30 ?_
    refine lv_iconst (v := 0) hx hb d_Packages_fit_33 (by decide) ?_
    obtain ⟨g34, h⟩ := gd_some h
    refine st_iald hx hb hK hH (f := 6) (i := 0) hd_6 rfl g34 d_Packages_fit_34 ?_
    refine lv_iconst (v := 1) hx hb d_Packages_fit_35 (by decide) ?_
    obtain ⟨g36, h⟩ := gd_some h
    refine st_iast hx hb hK hH hS (f := 42) (i := ia3) hda3 rfl g36 d_Packages_fit_36 (fun σ11 H locs eσ11 hH hS => ?_)
    have h := nm_at eσ11 h
    refine lv_goto (tgt := 82) hx hb d_Packages_fit_37 (by decide) ?_
    refine lv_aload_n hx hb d_Packages_fit_82 rfl (lv_at hl 3 rfl) ?_
    obtain ⟨qc, hc83, h⟩ := b1_some h
    obtain ⟨σ12, rfl⟩ : ∃ z, z = qc := ⟨_, rfl⟩
    have h := b1_at h
    refine st_Vv (As := []) (rest := []) ⟨hx, hb, hml, hown, hg⟩ (c_Code_renumber l D aC A ad n _ ia3 hda3 _ hc83) (cwG hg wd_49 wd_99 wd_51 wd_52 wd_29 yd_Code_renumber ⟨Nat.le_of_ble_eq_true rfl, Nat.le_of_ble_eq_true rfl⟩) hK hH hS hZ hda3 rfl rfl rfl hl.1 rfl (Nat.le_of_ble_eq_true rfl) d_Packages_fit_83 ⟨Nat.zero_le _, Nat.zero_le _⟩ (fun H locs hH hS => ?_)
    cases h
    rw [← hQ0]
    exact W.vret hx hb hr (fun t ht hW => ⟨⟨(), rfl, trivial, by dsimp only; rw [ht]; exact hH⟩, hS.F ht⟩) hS.2.2 d_Packages_fit_86
set_option maxHeartbeats 4000000 in
set_option maxRecDepth 100000 in
theorem c_PC_cost (l : Launch) (D : va_G) (aC : Nat → ClassId) (A : Nat → Prop) (ad : Nat → Nat → Nat) (n : Nat) (σ : St) (a1 : Int32) (o : St × Int64) (h : f_PC_cost σ a1 = some o) : Met l y_PC_cost w_PC_cost rm_PC_cost (va_Pc [.ref (ad 0 0), .int a1] (Pre D aC A ad n σ)) (va_Ql (fun r (_ : Unit) => r = o.2) (fun _ t => Hold D aC A ad n o.1 t.heap) A) 0 0 A := by
  refine Met.ofW (cc := prog_1_method_9_code) (maxL := 6) (ret := (some .long)) (by decide) rfl ?_
  intro p e s m args below meth c s₁ B hml hv
  obtain ⟨hargs, hH, hK, hZ⟩ := hv
  have hx := B.exec
  have hb := B.bytes
  have hr := B.returns
  have hts := atoms_spec (ws := w_PC_cost) B.pre
  have hg : ∀ w ∈ gW, w.before args s = true := fun w h => hts w (List.mem_cons_of_mem _ h)
  have hown : s.vm.findClass "PrefixCodes" = some m.cls := findClass_of_methodNamed B.named
  have hlocks := B.notSynchronized
  have hS : va_S A s.heap s.heap [] := va_S.rf
  have hl := lv_entry ([.ref (ad 0 0), .int a1]) (n := 6) (Nat.le_of_ble_eq_true rfl)
  rw [show entryFrame m args 6 = entryFrame m (([.ref (ad 0 0), .int a1] : List Value).toArray) 6 by rw [hargs], lg_entry_eq]
  generalize (lg_sl ([.ref (ad 0 0), .int a1]) ++ List.replicate (6 - (lg_sl ([.ref (ad 0 0), .int a1])).length) Slot.unset).toArray = ls at hl ⊢
  have hl : lv_has ls 6 [(0, .ref (ad 0 0)), (1, .int a1)] := hl
  generalize hQ0 : MQ below (va_Ql (fun r (_ : Unit) => r = o.2) (fun _ t => Hold D aC A ad n o.1 t.heap) A) args s 0 0 A = Q0
  unfold f_PC_cost at h
  refine lv_aload_n hx hb d_PC_cost_0 rfl (lv_at hl 0 rfl) ?_
  refine lv_iload_n hx hb d_PC_cost_1 rfl (lv_at hl 1 rfl) ?_
  obtain ⟨qc, hc2, h⟩ := b2_some h
  obtain ⟨σ1, o2⟩ := qc
  have h := b2_at h
  refine st_Vq (As := [.int a1]) (rest := []) ⟨hx, hb, hml, hown, hg⟩ (c_PC_codeAt l D aC A ad n _ a1 _ hc2) (cwG hg wd_7 wd_8 wd_9 wd_10 wd_4 yd_PC_codeAt ⟨Nat.le_of_ble_eq_true rfl, Nat.le_of_ble_eq_true rfl⟩) hK hH hS hZ hd_0 rfl rfl rfl hl.1 rfl (Nat.le_of_ble_eq_true rfl) d_PC_cost_2 ⟨Nat.zero_le _, Nat.zero_le _⟩ (fun c2 H locs hH hS => ?_) (fun j3 c2 hdj3 H locs hH hS => ?_)
  · have h := on_n h c2
    refine lv_astore_nN (lv' := [(2, .null), (0, .ref (ad 0 0)), (1, .int a1)]) hx hb d_PC_cost_5 rfl hl (by decide) rfl (fun ls hl => ?_)
    refine lv_aload_nN hx hb d_PC_cost_6 rfl (lv_at hl 0 rfl) ?_
    refine lv_ifnonnullN hx hb d_PC_cost_7 ?_
    refine lv_ldc2 (v := (-101)) hx hb hown (hg _ wd_112) d_PC_cost_10 ?_
    cases h
    rw [← hQ0]
    exact W.lret hx hb hr (fun t ht hW => ⟨⟨_, (), rfl, rfl, by dsimp only; rw [ht]; exact hH⟩, hS.F ht⟩) hS.2.2 d_PC_cost_13
  · have h := on_s h c2
    refine lv_astore_n (lv' := [(2, .ref (ad 41 j3)), (0, .ref (ad 0 0)), (1, .int a1)]) hx hb d_PC_cost_5 rfl hl (by decide) rfl (fun ls hl => ?_)
    refine lv_aload_n hx hb d_PC_cost_6 rfl (lv_at hl 0 rfl) ?_
    refine lv_ifnonnull (tgt := 14) hx hb d_PC_cost_7 (by decide) ?_
    refine lv_lconst (v := 0) hx hb d_PC_cost_14 (by decide) ?_
    refine lv_lstore_n (lv' := [(3, .long 0), (2, .ref (ad 41 j3)), (0, .ref (ad 0 0)), (1, .int a1)]) hx hb d_PC_cost_15 rfl hl (by decide) rfl (fun ls hl => ?_)
    refine lv_iconst (v := 0) hx hb d_PC_cost_16 (by decide) ?_
    refine lv_istore (lv' := [(5, .int 0), (3, .long 0), (2, .ref (ad 41 j3)), (0, .ref (ad 0 0)), (1, .int a1)]) hx hb d_PC_cost_17 hl (by decide) rfl (fun ls hl => ?_)
    obtain ⟨q1, hq1, h⟩ := b3_some h
    have K1 : ∀ (σ6 : St) (x7 : Int64) (x8 : Int32) (H : Heap) (locs : List Loc) (ls : Array Slot), q1 = (σ6, x7, x8) → Hold D aC A ad n σ6 H → va_S A s.heap H locs → lv_has ls 6 [(0, .ref (ad 0 0)), (2, .ref (ad 41 j3)), (3, .long x7), (5, .int x8)] → W p l e (headSpec w_PC_cost rm_PC_cost).room s m args below meth c H locs 0 0 Q0 (F0 m 54 ls []) := by
      intro σ6 x7 x8 H locs ls eq1 hH hS hl
      subst eq1
      have h := b3_at h
      refine lv_lload_n hx hb d_PC_cost_54 rfl (lv_at hl 2 rfl) ?_
      cases h
      rw [← hQ0]
      exact W.lret hx hb hr (fun t ht hW => ⟨⟨_, (), rfl, rfl, by dsimp only; rw [ht]; exact hH⟩, hS.F ht⟩) hS.2.2 d_PC_cost_55
    have loop1 : ∀ (k : Nat) (σ : St) (v3 : Int64) (v5 : Int32) (H : Heap) (locs : List Loc) (ls : Array Slot), Hold D aC A ad n σ H → va_S A s.heap H locs → lv_has ls 6 [(0, .ref (ad 0 0)), (2, .ref (ad 41 j3)), (3, .long v3), (5, .int v5)] → lp (fun q => lb_PC_cost_19 j3 q.1 q.2.1 q.2.2) k (σ, v3, v5) = some q1 → W p l e (headSpec w_PC_cost rm_PC_cost).room s m args below meth c H locs 0 0 Q0 (F0 m 19 ls []) := by
      intro k
      induction k with
      | zero => intro σ v3 v5 H locs ls hH hS hl hlp; exact absurd hlp (lp_zero _ _ _)
      | succ k ih1 =>
        intro σ v3 v5 H locs ls hH hS hl hlp
        obtain ⟨z1, h1, hk1⟩ := lp_succ hlp
        have h1 : lb_PC_cost_19 j3 σ v3 v5 = some z1 := h1
        unfold lb_PC_cost_19 at h1
        refine lv_iload hx hb d_PC_cost_19 (lv_at hl 3 rfl) ?_
        refine lv_aload_n hx hb d_PC_cost_21 rfl (lv_at hl 1 rfl) ?_
        refine st_get hx hb hg hown hK hH (f := 41) (i := j3) hdj3 rfl rfl u_Code 0 (by decide) (hg _ wd_6) (v := .int (σ.1 41 j3 0)) rfl d_PC_cost_22 ?_
        refine lv_icmp_ge (tgt := 54) hx hb d_PC_cost_25 (by decide) (fun c25 => ?_) (fun c25 => ?_)
        · have h1 := it h1 c25
          cases h1
          exact K1 σ v3 v5 _ _ ls (Option.some.inj hk1).symm hH hS (lv_sub hl [0, 1, 2, 3] rfl)
        · have h1 := ie h1 c25
          refine lv_lload_n hx hb d_PC_cost_28 rfl (lv_at hl 2 rfl) ?_
          refine lv_aload_n hx hb d_PC_cost_29 rfl (lv_at hl 0 rfl) ?_
          refine st_get hx hb hg hown hK hH (f := 0) (i := 0) hd_0 rfl rfl u_PC 2 (by decide) (hg _ wd_67) (v := .ref (ad 2 0)) rfl d_PC_cost_30 ?_
          refine lv_iload hx hb d_PC_cost_33 (lv_at hl 3 rfl) ?_
          obtain ⟨g35, h1⟩ := gd_some h1
          refine st_iald hx hb hK hH (f := 2) (i := 0) hd_2 rfl g35 d_PC_cost_35 ?_
          refine lv_i2l hx hb d_PC_cost_36 rfl ?_
          refine lv_aload_n hx hb d_PC_cost_37 rfl (lv_at hl 1 rfl) ?_
          refine st_get hx hb hg hown hK hH (f := 41) (i := j3) hdj3 rfl rfl u_Code 1 (by decide) (hg _ wd_44) (v := .ref (ad 42 j3)) rfl d_PC_cost_38 ?_
          refine lv_iload hx hb d_PC_cost_41 (lv_at hl 3 rfl) ?_
          obtain ⟨g43, h1⟩ := gd_some h1
          refine st_iald hx hb hK hH (f := 42) (i := j3) hdj3 rfl g43 d_PC_cost_43 ?_
          refine lv_i2l hx hb d_PC_cost_44 rfl ?_
          refine lv_lmul hx hb d_PC_cost_45 ?_
          refine lv_ladd hx hb d_PC_cost_46 ?_
          refine lv_topl (fun x4 ex4 => ?_)
          have h1 := nm_at ex4 h1
          refine lv_lstore_n (lv' := [(3, .long x4), (0, .ref (ad 0 0)), (2, .ref (ad 41 j3)), (5, .int v5)]) hx hb d_PC_cost_47 rfl hl (by decide) rfl (fun ls hl => ?_)
          obtain ⟨x5, ex5⟩ : ∃ y : Int32, y = v5 + 1 := ⟨_, rfl⟩
          have h1 := nm_at ex5 h1
          refine lv_iinc (v := x5) (lv' := [(5, .int x5), (3, .long x4), (0, .ref (ad 0 0)), (2, .ref (ad 41 j3))]) hx hb d_PC_cost_48 hl (k := 3) rfl (by rw [ex5]; rfl) (by decide) rfl (fun ls hl => ?_)
          refine lv_goto (tgt := 19) hx hb d_PC_cost_51 (by decide) ?_
          cases h1
          exact ih1 σ x4 x5 _ _ ls hH hS (lv_sub hl [2, 3, 1, 0] rfl) hk1
    obtain ⟨k1, hq1⟩ := lpE_some hq1
    exact loop1 k1 σ1 0 0 _ _ ls hH hS (lv_sub hl [3, 2, 1, 0] rfl) hq1
set_option maxHeartbeats 4000000 in
set_option maxRecDepth 100000 in
theorem c_PC_bits (l : Launch) (D : va_G) (aC : Nat → ClassId) (A : Nat → Prop) (ad : Nat → Nat → Nat) (n : Nat) (σ : St) (o : St × Int32) (h : f_PC_bits σ  = some o) : Met l y_PC_bits w_PC_bits rm_PC_bits (va_Pc [.ref (ad 0 0)] (Pre D aC A ad n σ)) (va_Qi (fun r (_ : Unit) => r = o.2) (fun _ t => Hold D aC A ad n o.1 t.heap) A) 0 0 A := by
  refine Met.ofW (cc := prog_1_method_10_code) (maxL := 1) (ret := (some .int)) (by decide) rfl ?_
  intro p e s m args below meth c s₁ B hml hv
  obtain ⟨hargs, hH, hK, hZ⟩ := hv
  have hx := B.exec
  have hb := B.bytes
  have hr := B.returns
  have hts := atoms_spec (ws := w_PC_bits) B.pre
  have hg : ∀ w ∈ gW, w.before args s = true := fun w h => hts w (List.mem_cons_of_mem _ h)
  have hown : s.vm.findClass "PrefixCodes" = some m.cls := findClass_of_methodNamed B.named
  have hlocks := B.notSynchronized
  have hS : va_S A s.heap s.heap [] := va_S.rf
  have hl := lv_entry ([.ref (ad 0 0)]) (n := 1) (Nat.le_of_ble_eq_true rfl)
  rw [show entryFrame m args 1 = entryFrame m (([.ref (ad 0 0)] : List Value).toArray) 1 by rw [hargs], lg_entry_eq]
  generalize (lg_sl ([.ref (ad 0 0)]) ++ List.replicate (1 - (lg_sl ([.ref (ad 0 0)])).length) Slot.unset).toArray = ls at hl ⊢
  have hl : lv_has ls 1 [(0, .ref (ad 0 0))] := hl
  generalize hQ0 : MQ below (va_Qi (fun r (_ : Unit) => r = o.2) (fun _ t => Hold D aC A ad n o.1 t.heap) A) args s 0 0 A = Q0
  unfold f_PC_bits at h
  refine lv_aload_n hx hb d_PC_bits_0 rfl (lv_at hl 0 rfl) ?_
  refine st_get hx hb hg hown hK hH (f := 0) (i := 0) hd_0 rfl rfl u_PC 3 (by decide) (hg _ wd_113) (v := .ref (ad 3 0)) rfl d_PC_bits_1 ?_
  refine st_get hx hb hg hown hK hH (f := 3) (i := 0) hd_3 rfl rfl u_Stream 2 (by decide) (hg _ wd_114) (v := .int (σ.1 3 0 2)) rfl d_PC_bits_4 ?_
  cases h
  rw [← hQ0]
  exact W.iret hx hb hr (fun t ht hW => ⟨⟨_, (), rfl, rfl, by dsimp only; rw [ht]; exact hH⟩, hS.F ht⟩) hS.2.2 d_PC_bits_7
set_option maxHeartbeats 4000000 in
set_option maxRecDepth 100000 in
theorem c_Stream_placeOf (l : Launch) (D : va_G) (aC : Nat → ClassId) (A : Nat → Prop) (ad : Nat → Nat → Nat) (n : Nat) (σ : St) (a1 : Int32) (o : St × Int32) (h : f_Stream_placeOf σ a1 = some o) : Met l y_Stream_placeOf w_Stream_placeOf rm_Stream_placeOf (va_Pc [.ref (ad 3 0), .int a1] (Pre D aC A ad n σ)) (va_Qi (fun r (_ : Unit) => r = o.2) (fun _ t => Hold D aC A ad n o.1 t.heap) A) 0 0 A := by
  refine Met.ofW (cc := prog_9_method_2_code) (maxL := 2) (ret := (some .int)) (by decide) rfl ?_
  intro p e s m args below meth c s₁ B hml hv
  obtain ⟨hargs, hH, hK, hZ⟩ := hv
  have hx := B.exec
  have hb := B.bytes
  have hr := B.returns
  have hts := atoms_spec (ws := w_Stream_placeOf) B.pre
  have hg : ∀ w ∈ gW, w.before args s = true := fun w h => hts w (List.mem_cons_of_mem _ h)
  have hown : s.vm.findClass "PrefixCodes$Stream" = some m.cls := findClass_of_methodNamed B.named
  have hlocks := B.notSynchronized
  have hS : va_S A s.heap s.heap [] := va_S.rf
  have hl := lv_entry ([.ref (ad 3 0), .int a1]) (n := 2) (Nat.le_of_ble_eq_true rfl)
  rw [show entryFrame m args 2 = entryFrame m (([.ref (ad 3 0), .int a1] : List Value).toArray) 2 by rw [hargs], lg_entry_eq]
  generalize (lg_sl ([.ref (ad 3 0), .int a1]) ++ List.replicate (2 - (lg_sl ([.ref (ad 3 0), .int a1])).length) Slot.unset).toArray = ls at hl ⊢
  have hl : lv_has ls 2 [(0, .ref (ad 3 0)), (1, .int a1)] := hl
  generalize hQ0 : MQ below (va_Qi (fun r (_ : Unit) => r = o.2) (fun _ t => Hold D aC A ad n o.1 t.heap) A) args s 0 0 A = Q0
  unfold f_Stream_placeOf at h
  refine lv_aload_n hx hb d_Stream_placeOf_0 rfl (lv_at hl 0 rfl) ?_
  refine st_get hx hb hg hown hK hH (f := 3) (i := 0) hd_3 rfl rfl u_Stream 1 (by decide) (hg _ wd_115) (v := .int (σ.1 3 0 1)) rfl d_Stream_placeOf_1 ?_
  refine lv_iload_n hx hb d_Stream_placeOf_4 rfl (lv_at hl 1 rfl) ?_
  refine lv_iadd hx hb d_Stream_placeOf_5 ?_
  refine lv_sipush (v := 20000) hx hb d_Stream_placeOf_6 (by decide) ?_
  refine lv_irem hx hb d_Stream_placeOf_9 (by decide) ?_
  cases h
  rw [← hQ0]
  exact W.iret hx hb hr (fun t ht hW => ⟨⟨_, (), rfl, rfl, by dsimp only; rw [ht]; exact hH⟩, hS.F ht⟩) hS.2.2 d_Stream_placeOf_10
set_option maxHeartbeats 4000000 in
set_option maxRecDepth 100000 in
theorem c_Stream_bitOf (l : Launch) (D : va_G) (aC : Nat → ClassId) (A : Nat → Prop) (ad : Nat → Nat → Nat) (n : Nat) (σ : St) (a1 : Int32) (o : St × Int32) (h : f_Stream_bitOf σ a1 = some o) : Met l y_Stream_bitOf w_Stream_bitOf rm_Stream_bitOf (va_Pc [.ref (ad 3 0), .int a1] (Pre D aC A ad n σ)) (va_Qi (fun r (_ : Unit) => r = o.2) (fun _ t => Hold D aC A ad n o.1 t.heap) A) 0 0 A := by
  refine Met.ofW (cc := prog_9_method_3_code) (maxL := 2) (ret := (some .int)) (by decide) rfl ?_
  intro p e s m args below meth c s₁ B hml hv
  obtain ⟨hargs, hH, hK, hZ⟩ := hv
  have hx := B.exec
  have hb := B.bytes
  have hr := B.returns
  have hts := atoms_spec (ws := w_Stream_bitOf) B.pre
  have hg : ∀ w ∈ gW, w.before args s = true := fun w h => hts w (List.mem_cons_of_mem _ h)
  have hown : s.vm.findClass "PrefixCodes$Stream" = some m.cls := findClass_of_methodNamed B.named
  have hlocks := B.notSynchronized
  have hS : va_S A s.heap s.heap [] := va_S.rf
  have hl := lv_entry ([.ref (ad 3 0), .int a1]) (n := 2) (Nat.le_of_ble_eq_true rfl)
  rw [show entryFrame m args 2 = entryFrame m (([.ref (ad 3 0), .int a1] : List Value).toArray) 2 by rw [hargs], lg_entry_eq]
  generalize (lg_sl ([.ref (ad 3 0), .int a1]) ++ List.replicate (2 - (lg_sl ([.ref (ad 3 0), .int a1])).length) Slot.unset).toArray = ls at hl ⊢
  have hl : lv_has ls 2 [(0, .ref (ad 3 0)), (1, .int a1)] := hl
  generalize hQ0 : MQ below (va_Qi (fun r (_ : Unit) => r = o.2) (fun _ t => Hold D aC A ad n o.1 t.heap) A) args s 0 0 A = Q0
  unfold f_Stream_bitOf at h
  refine lv_aload_n hx hb d_Stream_bitOf_0 rfl (lv_at hl 0 rfl) ?_
  refine st_get hx hb hg hown hK hH (f := 3) (i := 0) hd_3 rfl rfl u_Stream 0 (by decide) (hg _ wd_116) (v := .ref (ad 4 0)) rfl d_Stream_bitOf_1 ?_
  refine lv_iload_n hx hb d_Stream_bitOf_4 rfl (lv_at hl 1 rfl) ?_
  refine lv_bipush (v := 32) hx hb d_Stream_bitOf_5 (by decide) ?_
  refine lv_idiv hx hb d_Stream_bitOf_7 (by decide) ?_
  obtain ⟨g8, h⟩ := gd_some h
  refine st_iald hx hb hK hH (f := 4) (i := 0) hd_4 rfl g8 d_Stream_bitOf_8 ?_
  refine lv_iload_n hx hb d_Stream_bitOf_9 rfl (lv_at hl 1 rfl) ?_
  refine lv_bipush (v := 32) hx hb d_Stream_bitOf_10 (by decide) ?_
  refine lv_irem hx hb d_Stream_bitOf_12 (by decide) ?_
  refine lv_iushr hx hb d_Stream_bitOf_13 rfl ?_
  refine lv_iconst (v := 1) hx hb d_Stream_bitOf_14 (by decide) ?_
  refine lv_iand hx hb d_Stream_bitOf_15 ?_
  cases h
  rw [← hQ0]
  exact W.iret hx hb hr (fun t ht hW => ⟨⟨_, (), rfl, rfl, by dsimp only; rw [ht]; exact hH⟩, hS.F ht⟩) hS.2.2 d_Stream_bitOf_16
set_option maxHeartbeats 4000000 in
set_option maxRecDepth 100000 in
theorem c_Stream_at (l : Launch) (D : va_G) (aC : Nat → ClassId) (A : Nat → Prop) (ad : Nat → Nat → Nat) (n : Nat) (σ : St) (a1 : Int32) (o : St × Int32) (h : f_Stream_at σ a1 = some o) : Met l y_Stream_at w_Stream_at rm_Stream_at (va_Pc [.ref (ad 3 0), .int a1] (Pre D aC A ad n σ)) (va_Qi (fun r (_ : Unit) => r = o.2) (fun _ t => Hold D aC A ad n o.1 t.heap) A) 0 0 A := by
  refine Met.ofW (cc := prog_9_method_4_code) (maxL := 2) (ret := (some .int)) (by decide) rfl ?_
  intro p e s m args below meth c s₁ B hml hv
  obtain ⟨hargs, hH, hK, hZ⟩ := hv
  have hx := B.exec
  have hb := B.bytes
  have hr := B.returns
  have hts := atoms_spec (ws := w_Stream_at) B.pre
  have hg : ∀ w ∈ gW, w.before args s = true := fun w h => hts w (List.mem_cons_of_mem _ h)
  have hown : s.vm.findClass "PrefixCodes$Stream" = some m.cls := findClass_of_methodNamed B.named
  have hlocks := B.notSynchronized
  have hS : va_S A s.heap s.heap [] := va_S.rf
  have hl := lv_entry ([.ref (ad 3 0), .int a1]) (n := 2) (Nat.le_of_ble_eq_true rfl)
  rw [show entryFrame m args 2 = entryFrame m (([.ref (ad 3 0), .int a1] : List Value).toArray) 2 by rw [hargs], lg_entry_eq]
  generalize (lg_sl ([.ref (ad 3 0), .int a1]) ++ List.replicate (2 - (lg_sl ([.ref (ad 3 0), .int a1])).length) Slot.unset).toArray = ls at hl ⊢
  have hl : lv_has ls 2 [(0, .ref (ad 3 0)), (1, .int a1)] := hl
  generalize hQ0 : MQ below (va_Qi (fun r (_ : Unit) => r = o.2) (fun _ t => Hold D aC A ad n o.1 t.heap) A) args s 0 0 A = Q0
  unfold f_Stream_at at h
  refine lv_aload_n hx hb d_Stream_at_0 rfl (lv_at hl 0 rfl) ?_
  refine lv_aload_n hx hb d_Stream_at_1 rfl (lv_at hl 0 rfl) ?_
  refine lv_iload_n hx hb d_Stream_at_2 rfl (lv_at hl 1 rfl) ?_
  obtain ⟨qc, hc3, h⟩ := b2_some h
  obtain ⟨σ1, x2⟩ := qc
  have h := b2_at h
  refine st_Vi (As := [.int a1]) (rest := [.ref (ad 3 0)]) ⟨hx, hb, hml, hown, hg⟩ (c_Stream_placeOf l D aC A ad n _ a1 _ hc3) (cwG hg wd_117 wd_118 wd_120 wd_121 wd_119 yd_Stream_placeOf ⟨Nat.le_of_ble_eq_true rfl, Nat.le_of_ble_eq_true rfl⟩) hK hH hS hZ hd_3 rfl rfl rfl hl.1 rfl (Nat.le_of_ble_eq_true rfl) d_Stream_at_3 ⟨Nat.zero_le _, Nat.zero_le _⟩ (fun H locs hH hS => ?_)
  obtain ⟨qc, hc6, h⟩ := b2_some h
  obtain ⟨σ3, x4⟩ := qc
  have h := b2_at h
  refine st_Vi (As := [.int x2]) (rest := []) ⟨hx, hb, hml, hown, hg⟩ (c_Stream_bitOf l D aC A ad n _ x2 _ hc6) (cwG hg wd_122 wd_123 wd_124 wd_125 wd_119 yd_Stream_bitOf ⟨Nat.le_of_ble_eq_true rfl, Nat.le_of_ble_eq_true rfl⟩) hK hH hS hZ hd_3 rfl rfl rfl hl.1 rfl (Nat.le_of_ble_eq_true rfl) d_Stream_at_6 ⟨Nat.zero_le _, Nat.zero_le _⟩ (fun H locs hH hS => ?_)
  cases h
  rw [← hQ0]
  exact W.iret hx hb hr (fun t ht hW => ⟨⟨_, (), rfl, rfl, by dsimp only; rw [ht]; exact hH⟩, hS.F ht⟩) hS.2.2 d_Stream_at_9
set_option maxHeartbeats 4000000 in
set_option maxRecDepth 100000 in
theorem c_PC_clear (l : Launch) (D : va_G) (aC : Nat → ClassId) (A : Nat → Prop) (ad : Nat → Nat → Nat) (n : Nat) (σ : St) (o : St × Int32) (h : f_PC_clear σ  = some o) : Met l y_PC_clear w_PC_clear rm_PC_clear (va_Pc [.ref (ad 0 0)] (Pre D aC A ad n σ)) (va_Qi (fun r (_ : Unit) => r = o.2) (fun _ t => Hold D aC A ad n o.1 t.heap) A) 0 0 A := by
  refine Met.ofW (cc := prog_1_method_12_code) (maxL := 2) (ret := (some .int)) (by decide) rfl ?_
  intro p e s m args below meth c s₁ B hml hv
  obtain ⟨hargs, hH, hK, hZ⟩ := hv
  have hx := B.exec
  have hb := B.bytes
  have hr := B.returns
  have hts := atoms_spec (ws := w_PC_clear) B.pre
  have hg : ∀ w ∈ gW, w.before args s = true := fun w h => hts w (List.mem_cons_of_mem _ h)
  have hown : s.vm.findClass "PrefixCodes" = some m.cls := findClass_of_methodNamed B.named
  have hlocks := B.notSynchronized
  have hS : va_S A s.heap s.heap [] := va_S.rf
  have hl := lv_entry ([.ref (ad 0 0)]) (n := 2) (Nat.le_of_ble_eq_true rfl)
  rw [show entryFrame m args 2 = entryFrame m (([.ref (ad 0 0)] : List Value).toArray) 2 by rw [hargs], lg_entry_eq]
  generalize (lg_sl ([.ref (ad 0 0)]) ++ List.replicate (2 - (lg_sl ([.ref (ad 0 0)])).length) Slot.unset).toArray = ls at hl ⊢
  have hl : lv_has ls 2 [(0, .ref (ad 0 0))] := hl
  generalize hQ0 : MQ below (va_Qi (fun r (_ : Unit) => r = o.2) (fun _ t => Hold D aC A ad n o.1 t.heap) A) args s 0 0 A = Q0
  unfold f_PC_clear at h
  refine lv_aload_n hx hb d_PC_clear_0 rfl (lv_at hl 0 rfl) ?_
  refine st_get hx hb hg hown hK hH (f := 0) (i := 0) hd_0 rfl rfl u_PC 3 (by decide) (hg _ wd_113) (v := .ref (ad 3 0)) rfl d_PC_clear_1 ?_
  refine st_get hx hb hg hown hK hH (f := 3) (i := 0) hd_3 rfl rfl u_Stream 2 (by decide) (hg _ wd_114) (v := .int (σ.1 3 0 2)) rfl d_PC_clear_4 ?_
  refine lv_topi (fun x1 ex1 => ?_)
  have h := nm_at ex1 h
  refine lv_istore_n (lv' := [(1, .int x1), (0, .ref (ad 0 0))]) hx hb d_PC_clear_7 rfl hl (by decide) rfl (fun ls hl => ?_)
  refine lv_aload_n hx hb d_PC_clear_8 rfl (lv_at hl 1 rfl) ?_
  refine st_get hx hb hg hown hK hH (f := 0) (i := 0) hd_0 rfl rfl u_PC 3 (by decide) (hg _ wd_113) (v := .ref (ad 3 0)) rfl d_PC_clear_9 ?_
  refine lv_iconst (v := 0) hx hb d_PC_clear_12 (by decide) ?_
  refine st_put hx hb hg hown hK hH hS (f := 3) (i := 0) hd_3 rfl rfl u_Stream t_Stream t_Stream_ok n_Stream 2 (by decide) (hg _ wd_114) rfl rfl rfl d_PC_clear_13 (fun σ2 H locs eσ2 hH hS => ?_)
  have h := nm_at eσ2 h
  refine lv_iload_n hx hb d_PC_clear_16 rfl (lv_at hl 0 rfl) ?_
  cases h
  rw [← hQ0]
  exact W.iret hx hb hr (fun t ht hW => ⟨⟨_, (), rfl, rfl, by dsimp only; rw [ht]; exact hH⟩, hS.F ht⟩) hS.2.2 d_PC_clear_17
set_option maxHeartbeats 4000000 in
set_option maxRecDepth 100000 in
theorem c_Stream_append (l : Launch) (D : va_G) (aC : Nat → ClassId) (A : Nat → Prop) (ad : Nat → Nat → Nat) (n : Nat) (σ : St) (a1 : Int32) (o : St) (h : f_Stream_append σ a1 = some o) : Met l y_Stream_append w_Stream_append rm_Stream_append (va_Pc [.ref (ad 3 0), .int a1] (Pre D aC A ad n σ)) (va_Qv (fun (_ : Unit) => True) (fun _ t => Hold D aC A ad n o t.heap) A) 0 0 A := by
  refine Met.ofW (cc := prog_9_method_7_code) (maxL := 5) (ret := none) (by decide) rfl ?_
  intro p e s m args below meth c s₁ B hml hv
  obtain ⟨hargs, hH, hK, hZ⟩ := hv
  have hx := B.exec
  have hb := B.bytes
  have hr := B.returns
  have hts := atoms_spec (ws := w_Stream_append) B.pre
  have hg : ∀ w ∈ gW, w.before args s = true := fun w h => hts w (List.mem_cons_of_mem _ h)
  have hown : s.vm.findClass "PrefixCodes$Stream" = some m.cls := findClass_of_methodNamed B.named
  have hlocks := B.notSynchronized
  have hS : va_S A s.heap s.heap [] := va_S.rf
  have hl := lv_entry ([.ref (ad 3 0), .int a1]) (n := 5) (Nat.le_of_ble_eq_true rfl)
  rw [show entryFrame m args 5 = entryFrame m (([.ref (ad 3 0), .int a1] : List Value).toArray) 5 by rw [hargs], lg_entry_eq]
  generalize (lg_sl ([.ref (ad 3 0), .int a1]) ++ List.replicate (5 - (lg_sl ([.ref (ad 3 0), .int a1])).length) Slot.unset).toArray = ls at hl ⊢
  have hl : lv_has ls 5 [(0, .ref (ad 3 0)), (1, .int a1)] := hl
  generalize hQ0 : MQ below (va_Qv (fun (_ : Unit) => True) (fun _ t => Hold D aC A ad n o t.heap) A) args s 0 0 A = Q0
  unfold f_Stream_append at h
  refine lv_aload_n hx hb d_Stream_append_0 rfl (lv_at hl 0 rfl) ?_
  refine st_get hx hb hg hown hK hH (f := 3) (i := 0) hd_3 rfl rfl u_Stream 2 (by decide) (hg _ wd_126) (v := .int (σ.1 3 0 2)) rfl d_Stream_append_1 ?_
  refine lv_sipush (v := 20000) hx hb d_Stream_append_4 (by decide) ?_
  refine lv_icmp_lt (tgt := 16) hx hb d_Stream_append_7 (by decide) (fun c7 => ?_) (fun c7 => ?_)
  · have h := it h c7
    refine lv_aload_n hx hb d_Stream_append_16 rfl (lv_at hl 0 rfl) ?_
    refine lv_aload_n hx hb d_Stream_append_17 rfl (lv_at hl 0 rfl) ?_
    refine st_get hx hb hg hown hK hH (f := 3) (i := 0) hd_3 rfl rfl u_Stream 2 (by decide) (hg _ wd_126) (v := .int (σ.1 3 0 2)) rfl d_Stream_append_18 ?_
    obtain ⟨qc, hc21, h⟩ := b2_some h
    obtain ⟨σ1, x2⟩ := qc
    have h := b2_at h
    refine st_Vi (As := [.int (σ.1 3 0 2)]) (rest := []) ⟨hx, hb, hml, hown, hg⟩ (c_Stream_placeOf l D aC A ad n _ (σ.1 3 0 2) _ hc21) (cwG hg wd_117 wd_118 wd_120 wd_121 wd_119 yd_Stream_placeOf ⟨Nat.le_of_ble_eq_true rfl, Nat.le_of_ble_eq_true rfl⟩) hK hH hS hZ hd_3 rfl rfl rfl hl.1 rfl (Nat.le_of_ble_eq_true rfl) d_Stream_append_21 ⟨Nat.zero_le _, Nat.zero_le _⟩ (fun H locs hH hS => ?_)
    refine lv_istore_n (lv' := [(2, .int x2), (0, .ref (ad 3 0)), (1, .int a1)]) hx hb d_Stream_append_24 rfl hl (by decide) rfl (fun ls hl => ?_)
    refine lv_iconst (v := 1) hx hb d_Stream_append_25 (by decide) ?_
    refine lv_iload_n hx hb d_Stream_append_26 rfl (lv_at hl 0 rfl) ?_
    refine lv_bipush (v := 32) hx hb d_Stream_append_27 (by decide) ?_
    refine lv_irem hx hb d_Stream_append_29 (by decide) ?_
    refine lv_ishl hx hb d_Stream_append_30 ?_
    refine lv_topi (fun x3 ex3 => ?_)
    have h := nm_at ex3 h
    refine lv_istore_n (lv' := [(3, .int x3), (2, .int x2), (0, .ref (ad 3 0)), (1, .int a1)]) hx hb d_Stream_append_31 rfl hl (by decide) rfl (fun ls hl => ?_)
    refine lv_aload_n hx hb d_Stream_append_32 rfl (lv_at hl 2 rfl) ?_
    refine st_get hx hb hg hown hK hH (f := 3) (i := 0) hd_3 rfl rfl u_Stream 0 (by decide) (hg _ wd_116) (v := .ref (ad 4 0)) rfl d_Stream_append_33 ?_
    refine lv_iload_n hx hb d_Stream_append_36 rfl (lv_at hl 1 rfl) ?_
    refine lv_bipush (v := 32) hx hb d_Stream_append_37 (by decide) ?_
    refine lv_idiv hx hb d_Stream_append_39 (by decide) ?_
    obtain ⟨g40, h⟩ := gd_some h
    refine st_iald hx hb hK hH (f := 4) (i := 0) hd_4 rfl g40 d_Stream_append_40 ?_
    refine lv_iload_n hx hb d_Stream_append_41 rfl (lv_at hl 0 rfl) ?_
    refine lv_iconst (v := (-1)) hx hb d_Stream_append_42 (by decide) ?_
    refine lv_ixor hx hb d_Stream_append_43 ?_
    refine lv_iand hx hb d_Stream_append_44 ?_
    refine lv_topi (fun x4 ex4 => ?_)
    have h := nm_at ex4 h
    refine lv_istore (lv' := [(4, .int x4), (3, .int x3), (2, .int x2), (0, .ref (ad 3 0)), (1, .int a1)]) hx hb d_Stream_append_45 hl (by decide) rfl (fun ls hl => ?_)
    refine lv_aload_n hx hb d_Stream_append_47 rfl (lv_at hl 3 rfl) ?_
    refine st_get hx hb hg hown hK hH (f := 3) (i := 0) hd_3 rfl rfl u_Stream 0 (by decide) (hg _ wd_116) (v := .ref (ad 4 0)) rfl d_Stream_append_48 ?_
    refine lv_iload_n hx hb d_Stream_append_51 rfl (lv_at hl 2 rfl) ?_
    refine lv_bipush (v := 32) hx hb d_Stream_append_52 (by decide) ?_
    refine lv_idiv hx hb d_Stream_append_54 (by decide) ?_
    refine lv_iload_n hx hb d_Stream_append_55 rfl (lv_at hl 4 rfl) ?_
    refine lv_if_ne (tgt := 64) hx hb d_Stream_append_56 (by decide) (fun c56 => ?_) (fun c56 => ?_)
    · have h := ie h c56
      refine lv_iload hx hb d_Stream_append_64 (lv_at hl 0 rfl) ?_
      refine lv_iload_n hx hb d_Stream_append_66 rfl (lv_at hl 1 rfl) ?_
      refine lv_ior hx hb d_Stream_append_67 ?_
      obtain ⟨g68, h⟩ := gd_some h
      refine st_iast hx hb hK hH hS (f := 4) (i := 0) hd_4 rfl g68 d_Stream_append_68 (fun σ5 H locs eσ5 hH hS => ?_)
      have h := nm_at eσ5 h
      refine lv_aload_n hx hb d_Stream_append_69 rfl (lv_at hl 3 rfl) ?_
      refine lv_dup hx hb d_Stream_append_70 rfl ?_
      refine st_get hx hb hg hown hK hH (f := 3) (i := 0) hd_3 rfl rfl u_Stream 2 (by decide) (hg _ wd_126) (v := .int (σ5.1 3 0 2)) rfl d_Stream_append_71 ?_
      refine lv_iconst (v := 1) hx hb d_Stream_append_74 (by decide) ?_
      refine lv_iadd hx hb d_Stream_append_75 ?_
      refine st_put hx hb hg hown hK hH hS (f := 3) (i := 0) hd_3 rfl rfl u_Stream t_Stream t_Stream_ok n_Stream 2 (by decide) (hg _ wd_126) rfl rfl rfl d_Stream_append_76 (fun σ6 H locs eσ6 hH hS => ?_)
      have h := nm_at eσ6 h
      cases h
      rw [← hQ0]
      exact W.vret hx hb hr (fun t ht hW => ⟨⟨(), rfl, trivial, by dsimp only; rw [ht]; exact hH⟩, hS.F ht⟩) hS.2.2 d_Stream_append_79
    · have h := it h c56
      refine lv_iload hx hb d_Stream_append_59 (lv_at hl 0 rfl) ?_
      refine lv_goto (tgt := 68) hx hb d_Stream_append_61 (by decide) ?_
      obtain ⟨g68, h⟩ := gd_some h
      refine st_iast hx hb hK hH hS (f := 4) (i := 0) hd_4 rfl g68 d_Stream_append_68 (fun σ7 H locs eσ7 hH hS => ?_)
      have h := nm_at eσ7 h
      refine lv_aload_n hx hb d_Stream_append_69 rfl (lv_at hl 3 rfl) ?_
      refine lv_dup hx hb d_Stream_append_70 rfl ?_
      refine st_get hx hb hg hown hK hH (f := 3) (i := 0) hd_3 rfl rfl u_Stream 2 (by decide) (hg _ wd_126) (v := .int (σ7.1 3 0 2)) rfl d_Stream_append_71 ?_
      refine lv_iconst (v := 1) hx hb d_Stream_append_74 (by decide) ?_
      refine lv_iadd hx hb d_Stream_append_75 ?_
      refine st_put hx hb hg hown hK hH hS (f := 3) (i := 0) hd_3 rfl rfl u_Stream t_Stream t_Stream_ok n_Stream 2 (by decide) (hg _ wd_126) rfl rfl rfl d_Stream_append_76 (fun σ8 H locs eσ8 hH hS => ?_)
      have h := nm_at eσ8 h
      cases h
      rw [← hQ0]
      exact W.vret hx hb hr (fun t ht hW => ⟨⟨(), rfl, trivial, by dsimp only; rw [ht]; exact hH⟩, hS.F ht⟩) hS.2.2 d_Stream_append_79
  · have h := ie h c7
    refine lv_aload_n hx hb d_Stream_append_10 rfl (lv_at hl 0 rfl) ?_
    refine lv_iconst (v := 1) hx hb d_Stream_append_11 (by decide) ?_
    refine st_putV (ty := .boolean) hx hb hg hown hK hH hS (f := 3) (i := 0) hd_3 rfl rfl u_Stream t_Stream t_Stream_ok n_Stream 4 (by decide) (hg _ wd_127) rfl rfl (t_Stream_ok 4 (by decide)) rfl rfl d_Stream_append_12 (fun σ9 H locs eσ9 hH hS => ?_)
    have h := nm_at eσ9 h
    cases h
    rw [← hQ0]
    exact W.vret hx hb hr (fun t ht hW => ⟨⟨(), rfl, trivial, by dsimp only; rw [ht]; exact hH⟩, hS.F ht⟩) hS.2.2 d_Stream_append_15
