theorem d_Mo_tell_0 : decode prog_13_method_36_code 0 = .ok (.aload_n 0, 1) := by decide +kernel
theorem d_Mo_tell_1 : decode prog_13_method_36_code 1 = .ok (.getfield 40, 3) := by decide +kernel
theorem d_Mo_tell_4 : decode prog_13_method_36_code 4 = .ok (.aload_n 0, 1) := by decide +kernel
theorem d_Mo_tell_5 : decode prog_13_method_36_code 5 = .ok (.getfield 160, 3) := by decide +kernel
theorem d_Mo_tell_8 : decode prog_13_method_36_code 8 = .ok (.iload_n 1, 1) := by decide +kernel
theorem d_Mo_tell_9 : decode prog_13_method_36_code 9 = .ok (.iastore, 1) := by decide +kernel
theorem d_Mo_tell_10 : decode prog_13_method_36_code 10 = .ok (.aload_n 0, 1) := by decide +kernel
theorem d_Mo_tell_11 : decode prog_13_method_36_code 11 = .ok (.getfield 43, 3) := by decide +kernel
theorem d_Mo_tell_14 : decode prog_13_method_36_code 14 = .ok (.aload_n 0, 1) := by decide +kernel
theorem d_Mo_tell_15 : decode prog_13_method_36_code 15 = .ok (.getfield 160, 3) := by decide +kernel
theorem d_Mo_tell_18 : decode prog_13_method_36_code 18 = .ok (.iload_n 2, 1) := by decide +kernel
theorem d_Mo_tell_19 : decode prog_13_method_36_code 19 = .ok (.iastore, 1) := by decide +kernel
theorem d_Mo_tell_20 : decode prog_13_method_36_code 20 = .ok (.aload_n 0, 1) := by decide +kernel
theorem d_Mo_tell_21 : decode prog_13_method_36_code 21 = .ok (.dup, 1) := by decide +kernel
theorem d_Mo_tell_22 : decode prog_13_method_36_code 22 = .ok (.getfield 160, 3) := by decide +kernel
theorem d_Mo_tell_25 : decode prog_13_method_36_code 25 = .ok (.iconst 1, 1) := by decide +kernel
theorem d_Mo_tell_26 : decode prog_13_method_36_code 26 = .ok (.iadd, 1) := by decide +kernel
theorem d_Mo_tell_27 : decode prog_13_method_36_code 27 = .ok (.putfield 160, 3) := by decide +kernel
theorem d_Mo_tell_30 : decode prog_13_method_36_code 30 = .ok (.return_, 1) := by decide +kernel
theorem d_Mo_fillCommands_0 : decode prog_13_method_37_code 0 = .ok (.aload_n 0, 1) := by decide +kernel
theorem d_Mo_fillCommands_1 : decode prog_13_method_37_code 1 = .ok (.iconst 0, 1) := by decide +kernel
theorem d_Mo_fillCommands_2 : decode prog_13_method_37_code 2 = .ok (.putfield 160, 3) := by decide +kernel
theorem d_Mo_fillCommands_5 : decode prog_13_method_37_code 5 = .ok (.aload_n 0, 1) := by decide +kernel
theorem d_Mo_fillCommands_6 : decode prog_13_method_37_code 6 = .ok (.getfield 7, 3) := by decide +kernel
theorem d_Mo_fillCommands_9 : decode prog_13_method_37_code 9 = .ok (.iload_n 1, 1) := by decide +kernel
theorem d_Mo_fillCommands_10 : decode prog_13_method_37_code 10 = .ok (.iaload, 1) := by decide +kernel
theorem d_Mo_fillCommands_11 : decode prog_13_method_37_code 11 = .ok (.istore_n 2, 1) := by decide +kernel
theorem d_Mo_fillCommands_12 : decode prog_13_method_37_code 12 = .ok (.iconst 0, 1) := by decide +kernel
theorem d_Mo_fillCommands_13 : decode prog_13_method_37_code 13 = .ok (.istore_n 3, 1) := by decide +kernel
theorem d_Mo_fillCommands_14 : decode prog_13_method_37_code 14 = .ok (.iload_n 3, 1) := by decide +kernel
theorem d_Mo_fillCommands_15 : decode prog_13_method_37_code 15 = .ok (.iload_n 2, 1) := by decide +kernel
theorem d_Mo_fillCommands_16 : decode prog_13_method_37_code 16 = .ok (.if_icmp .ge 205, 3) := by decide +kernel
theorem d_Mo_fillCommands_19 : decode prog_13_method_37_code 19 = .ok (.aload_n 0, 1) := by decide +kernel
theorem d_Mo_fillCommands_20 : decode prog_13_method_37_code 20 = .ok (.iload_n 1, 1) := by decide +kernel
theorem d_Mo_fillCommands_21 : decode prog_13_method_37_code 21 = .ok (.iload_n 3, 1) := by decide +kernel
theorem d_Mo_fillCommands_22 : decode prog_13_method_37_code 22 = .ok (.invokevirtual 99, 3) := by decide +kernel
theorem d_Mo_fillCommands_25 : decode prog_13_method_37_code 25 = .ok (.istore 4, 2) := by decide +kernel
theorem d_Mo_fillCommands_27 : decode prog_13_method_37_code 27 = .ok (.iconst 0, 1) := by decide +kernel
theorem d_Mo_fillCommands_28 : decode prog_13_method_37_code 28 = .ok (.istore 5, 2) := by decide +kernel
theorem d_Mo_fillCommands_30 : decode prog_13_method_37_code 30 = .ok (.iload 4, 2) := by decide +kernel
theorem d_Mo_fillCommands_32 : decode prog_13_method_37_code 32 = .ok (.ifCond .ne 7, 3) := by decide +kernel
theorem d_Mo_fillCommands_35 : decode prog_13_method_37_code 35 = .ok (.iconst 0, 1) := by decide +kernel
theorem d_Mo_fillCommands_36 : decode prog_13_method_37_code 36 = .ok (.goto 19, 3) := by decide +kernel
theorem d_Mo_fillCommands_39 : decode prog_13_method_37_code 39 = .ok (.iload_n 3, 1) := by decide +kernel
theorem d_Mo_fillCommands_40 : decode prog_13_method_37_code 40 = .ok (.ifCond .le 14, 3) := by decide +kernel
theorem d_Mo_fillCommands_43 : decode prog_13_method_37_code 43 = .ok (.aload_n 0, 1) := by decide +kernel
theorem d_Mo_fillCommands_44 : decode prog_13_method_37_code 44 = .ok (.iload_n 1, 1) := by decide +kernel
theorem d_Mo_fillCommands_45 : decode prog_13_method_37_code 45 = .ok (.iload_n 3, 1) := by decide +kernel
theorem d_Mo_fillCommands_46 : decode prog_13_method_37_code 46 = .ok (.iconst 1, 1) := by decide +kernel
theorem d_Mo_fillCommands_47 : decode prog_13_method_37_code 47 = .ok (.isub, 1) := by decide +kernel
theorem d_Mo_fillCommands_48 : decode prog_13_method_37_code 48 = .ok (.invokevirtual 99, 3) := by decide +kernel
theorem d_Mo_fillCommands_51 : decode prog_13_method_37_code 51 = .ok (.goto 4, 3) := by decide +kernel
theorem d_Mo_fillCommands_54 : decode prog_13_method_37_code 54 = .ok (.iconst (-1), 1) := by decide +kernel
theorem d_Mo_fillCommands_55 : decode prog_13_method_37_code 55 = .ok (.istore 6, 2) := by decide +kernel
theorem d_Mo_fillCommands_57 : decode prog_13_method_37_code 57 = .ok (.iload_n 3, 1) := by decide +kernel
theorem d_Mo_fillCommands_58 : decode prog_13_method_37_code 58 = .ok (.iload 5, 2) := by decide +kernel
theorem d_Mo_fillCommands_60 : decode prog_13_method_37_code 60 = .ok (.iadd, 1) := by decide +kernel
theorem d_Mo_fillCommands_61 : decode prog_13_method_37_code 61 = .ok (.iload_n 2, 1) := by decide +kernel
theorem d_Mo_fillCommands_62 : decode prog_13_method_37_code 62 = .ok (.if_icmp .ge 23, 3) := by decide +kernel
theorem d_Mo_fillCommands_65 : decode prog_13_method_37_code 65 = .ok (.aload_n 0, 1) := by decide +kernel
theorem d_Mo_fillCommands_66 : decode prog_13_method_37_code 66 = .ok (.iload_n 1, 1) := by decide +kernel
theorem d_Mo_fillCommands_67 : decode prog_13_method_37_code 67 = .ok (.iload_n 3, 1) := by decide +kernel
theorem d_Mo_fillCommands_68 : decode prog_13_method_37_code 68 = .ok (.iload 5, 2) := by decide +kernel
theorem d_Mo_fillCommands_70 : decode prog_13_method_37_code 70 = .ok (.iadd, 1) := by decide +kernel
theorem d_Mo_fillCommands_71 : decode prog_13_method_37_code 71 = .ok (.invokevirtual 99, 3) := by decide +kernel
theorem d_Mo_fillCommands_74 : decode prog_13_method_37_code 74 = .ok (.iload 6, 2) := by decide +kernel
theorem d_Mo_fillCommands_76 : decode prog_13_method_37_code 76 = .ok (.if_icmp .ne 9, 3) := by decide +kernel
theorem d_Mo_fillCommands_79 : decode prog_13_method_37_code 79 = .ok (.iinc 5 1, 3) := by decide +kernel
theorem d_Mo_fillCommands_82 : decode prog_13_method_37_code 82 = .ok (.goto (-25), 3) := by decide +kernel
theorem d_Mo_fillCommands_85 : decode prog_13_method_37_code 85 = .ok (.iload 4, 2) := by decide +kernel
theorem d_Mo_fillCommands_87 : decode prog_13_method_37_code 87 = .ok (.ifCond .ne 47, 3) := by decide +kernel
theorem d_Mo_fillCommands_90 : decode prog_13_method_37_code 90 = .ok (.iload 5, 2) := by decide +kernel
theorem d_Mo_fillCommands_92 : decode prog_13_method_37_code 92 = .ok (.bipush 11, 2) := by decide +kernel
theorem d_Mo_fillCommands_94 : decode prog_13_method_37_code 94 = .ok (.if_icmp .lt 40, 3) := by decide +kernel
theorem d_Mo_fillCommands_97 : decode prog_13_method_37_code 97 = .ok (.iload 5, 2) := by decide +kernel
theorem d_Mo_fillCommands_99 : decode prog_13_method_37_code 99 = .ok (.sipush 138, 3) := by decide +kernel
theorem d_Mo_fillCommands_102 : decode prog_13_method_37_code 102 = .ok (.if_icmp .le 9, 3) := by decide +kernel
theorem d_Mo_fillCommands_105 : decode prog_13_method_37_code 105 = .ok (.sipush 138, 3) := by decide +kernel
theorem d_Mo_fillCommands_108 : decode prog_13_method_37_code 108 = .ok (.goto 5, 3) := by decide +kernel
theorem d_Mo_fillCommands_111 : decode prog_13_method_37_code 111 = .ok (.iload 5, 2) := by decide +kernel
theorem d_Mo_fillCommands_113 : decode prog_13_method_37_code 113 = .ok (.istore 5, 2) := by decide +kernel
theorem d_Mo_fillCommands_115 : decode prog_13_method_37_code 115 = .ok (.aload_n 0, 1) := by decide +kernel
theorem d_Mo_fillCommands_116 : decode prog_13_method_37_code 116 = .ok (.bipush 18, 2) := by decide +kernel
theorem d_Mo_fillCommands_118 : decode prog_13_method_37_code 118 = .ok (.iload 5, 2) := by decide +kernel
theorem d_Mo_fillCommands_120 : decode prog_13_method_37_code 120 = .ok (.bipush 11, 2) := by decide +kernel
theorem d_Mo_fillCommands_122 : decode prog_13_method_37_code 122 = .ok (.isub, 1) := by decide +kernel
theorem d_Mo_fillCommands_123 : decode prog_13_method_37_code 123 = .ok (.invokevirtual 163, 3) := by decide +kernel
theorem d_Mo_fillCommands_126 : decode prog_13_method_37_code 126 = .ok (.iload_n 3, 1) := by decide +kernel
theorem d_Mo_fillCommands_127 : decode prog_13_method_37_code 127 = .ok (.iload 5, 2) := by decide +kernel
theorem d_Mo_fillCommands_129 : decode prog_13_method_37_code 129 = .ok (.iadd, 1) := by decide +kernel
theorem d_Mo_fillCommands_130 : decode prog_13_method_37_code 130 = .ok (.istore_n 3, 1) := by decide +kernel
theorem d_Mo_fillCommands_131 : decode prog_13_method_37_code 131 = .ok (.goto 87, 3) := by decide +kernel
theorem d_Mo_fillCommands_134 : decode prog_13_method_37_code 134 = .ok (.iload 4, 2) := by decide +kernel
theorem d_Mo_fillCommands_136 : decode prog_13_method_37_code 136 = .ok (.ifCond .ne 27, 3) := by decide +kernel
theorem d_Mo_fillCommands_139 : decode prog_13_method_37_code 139 = .ok (.iload 5, 2) := by decide +kernel
theorem d_Mo_fillCommands_141 : decode prog_13_method_37_code 141 = .ok (.iconst 3, 1) := by decide +kernel
theorem d_Mo_fillCommands_142 : decode prog_13_method_37_code 142 = .ok (.if_icmp .lt 21, 3) := by decide +kernel
theorem d_Mo_fillCommands_145 : decode prog_13_method_37_code 145 = .ok (.aload_n 0, 1) := by decide +kernel
theorem d_Mo_fillCommands_146 : decode prog_13_method_37_code 146 = .ok (.bipush 17, 2) := by decide +kernel
theorem d_Mo_fillCommands_148 : decode prog_13_method_37_code 148 = .ok (.iload 5, 2) := by decide +kernel
theorem d_Mo_fillCommands_150 : decode prog_13_method_37_code 150 = .ok (.iconst 3, 1) := by decide +kernel
theorem d_Mo_fillCommands_151 : decode prog_13_method_37_code 151 = .ok (.isub, 1) := by decide +kernel
theorem d_Mo_fillCommands_152 : decode prog_13_method_37_code 152 = .ok (.invokevirtual 163, 3) := by decide +kernel
theorem d_Mo_fillCommands_155 : decode prog_13_method_37_code 155 = .ok (.iload_n 3, 1) := by decide +kernel
theorem d_Mo_fillCommands_156 : decode prog_13_method_37_code 156 = .ok (.iload 5, 2) := by decide +kernel
theorem d_Mo_fillCommands_158 : decode prog_13_method_37_code 158 = .ok (.iadd, 1) := by decide +kernel
theorem d_Mo_fillCommands_159 : decode prog_13_method_37_code 159 = .ok (.istore_n 3, 1) := by decide +kernel
theorem d_Mo_fillCommands_160 : decode prog_13_method_37_code 160 = .ok (.goto 58, 3) := by decide +kernel
theorem d_Mo_fillCommands_163 : decode prog_13_method_37_code 163 = .ok (.iload 4, 2) := by decide +kernel
theorem d_Mo_fillCommands_165 : decode prog_13_method_37_code 165 = .ok (.ifCond .le 43, 3) := by decide +kernel
theorem d_Mo_fillCommands_168 : decode prog_13_method_37_code 168 = .ok (.iload 5, 2) := by decide +kernel
theorem d_Mo_fillCommands_170 : decode prog_13_method_37_code 170 = .ok (.iconst 3, 1) := by decide +kernel
theorem d_Mo_fillCommands_171 : decode prog_13_method_37_code 171 = .ok (.if_icmp .lt 37, 3) := by decide +kernel
theorem d_Mo_fillCommands_174 : decode prog_13_method_37_code 174 = .ok (.iload 5, 2) := by decide +kernel
theorem d_Mo_fillCommands_176 : decode prog_13_method_37_code 176 = .ok (.bipush 6, 2) := by decide +kernel
theorem d_Mo_fillCommands_178 : decode prog_13_method_37_code 178 = .ok (.if_icmp .le 8, 3) := by decide +kernel
theorem d_Mo_fillCommands_181 : decode prog_13_method_37_code 181 = .ok (.bipush 6, 2) := by decide +kernel
theorem d_Mo_fillCommands_183 : decode prog_13_method_37_code 183 = .ok (.goto 5, 3) := by decide +kernel
theorem d_Mo_fillCommands_186 : decode prog_13_method_37_code 186 = .ok (.iload 5, 2) := by decide +kernel
theorem d_Mo_fillCommands_188 : decode prog_13_method_37_code 188 = .ok (.istore 5, 2) := by decide +kernel
theorem d_Mo_fillCommands_190 : decode prog_13_method_37_code 190 = .ok (.aload_n 0, 1) := by decide +kernel
theorem d_Mo_fillCommands_191 : decode prog_13_method_37_code 191 = .ok (.bipush 16, 2) := by decide +kernel
theorem d_Mo_fillCommands_193 : decode prog_13_method_37_code 193 = .ok (.iload 5, 2) := by decide +kernel
theorem d_Mo_fillCommands_195 : decode prog_13_method_37_code 195 = .ok (.iconst 3, 1) := by decide +kernel
theorem d_Mo_fillCommands_196 : decode prog_13_method_37_code 196 = .ok (.isub, 1) := by decide +kernel
theorem d_Mo_fillCommands_197 : decode prog_13_method_37_code 197 = .ok (.invokevirtual 163, 3) := by decide +kernel
theorem d_Mo_fillCommands_200 : decode prog_13_method_37_code 200 = .ok (.iload_n 3, 1) := by decide +kernel
theorem d_Mo_fillCommands_201 : decode prog_13_method_37_code 201 = .ok (.iload 5, 2) := by decide +kernel
theorem d_Mo_fillCommands_203 : decode prog_13_method_37_code 203 = .ok (.iadd, 1) := by decide +kernel
theorem d_Mo_fillCommands_204 : decode prog_13_method_37_code 204 = .ok (.istore_n 3, 1) := by decide +kernel
theorem d_Mo_fillCommands_205 : decode prog_13_method_37_code 205 = .ok (.goto 13, 3) := by decide +kernel
theorem d_Mo_fillCommands_208 : decode prog_13_method_37_code 208 = .ok (.aload_n 0, 1) := by decide +kernel
theorem d_Mo_fillCommands_209 : decode prog_13_method_37_code 209 = .ok (.iload 4, 2) := by decide +kernel
theorem d_Mo_fillCommands_211 : decode prog_13_method_37_code 211 = .ok (.iconst 0, 1) := by decide +kernel
theorem d_Mo_fillCommands_212 : decode prog_13_method_37_code 212 = .ok (.invokevirtual 163, 3) := by decide +kernel
theorem d_Mo_fillCommands_215 : decode prog_13_method_37_code 215 = .ok (.iinc 3 1, 3) := by decide +kernel
theorem d_Mo_fillCommands_218 : decode prog_13_method_37_code 218 = .ok (.goto (-204), 3) := by decide +kernel
theorem d_Mo_fillCommands_221 : decode prog_13_method_37_code 221 = .ok (.return_, 1) := by decide +kernel
theorem d_Mo_runs_0 : decode prog_13_method_39_code 0 = .ok (.aload_n 0, 1) := by decide +kernel
theorem d_Mo_runs_1 : decode prog_13_method_39_code 1 = .ok (.iload_n 1, 1) := by decide +kernel
theorem d_Mo_runs_2 : decode prog_13_method_39_code 2 = .ok (.invokevirtual 169, 3) := by decide +kernel
theorem d_Mo_runs_5 : decode prog_13_method_39_code 5 = .ok (.iconst 0, 1) := by decide +kernel
theorem d_Mo_runs_6 : decode prog_13_method_39_code 6 = .ok (.istore_n 3, 1) := by decide +kernel
theorem d_Mo_runs_7 : decode prog_13_method_39_code 7 = .ok (.iload_n 3, 1) := by decide +kernel
theorem d_Mo_runs_8 : decode prog_13_method_39_code 8 = .ok (.bipush 64, 2) := by decide +kernel
theorem d_Mo_runs_10 : decode prog_13_method_39_code 10 = .ok (.if_icmp .ge 16, 3) := by decide +kernel
theorem d_Mo_runs_13 : decode prog_13_method_39_code 13 = .ok (.aload_n 0, 1) := by decide +kernel
theorem d_Mo_runs_14 : decode prog_13_method_39_code 14 = .ok (.getfield 32, 3) := by decide +kernel
theorem d_Mo_runs_17 : decode prog_13_method_39_code 17 = .ok (.iload_n 3, 1) := by decide +kernel
theorem d_Mo_runs_18 : decode prog_13_method_39_code 18 = .ok (.iconst 0, 1) := by decide +kernel
theorem d_Mo_runs_19 : decode prog_13_method_39_code 19 = .ok (.iastore, 1) := by decide +kernel
theorem d_Mo_runs_20 : decode prog_13_method_39_code 20 = .ok (.iinc 3 1, 3) := by decide +kernel
theorem d_Mo_runs_23 : decode prog_13_method_39_code 23 = .ok (.goto (-16), 3) := by decide +kernel
theorem d_Mo_runs_26 : decode prog_13_method_39_code 26 = .ok (.iconst 0, 1) := by decide +kernel
theorem d_Mo_runs_27 : decode prog_13_method_39_code 27 = .ok (.istore_n 3, 1) := by decide +kernel
theorem d_Mo_runs_28 : decode prog_13_method_39_code 28 = .ok (.iload_n 3, 1) := by decide +kernel
theorem d_Mo_runs_29 : decode prog_13_method_39_code 29 = .ok (.aload_n 0, 1) := by decide +kernel
theorem d_Mo_runs_30 : decode prog_13_method_39_code 30 = .ok (.getfield 160, 3) := by decide +kernel
theorem d_Mo_runs_33 : decode prog_13_method_39_code 33 = .ok (.if_icmp .ge 24, 3) := by decide +kernel
theorem d_Mo_runs_36 : decode prog_13_method_39_code 36 = .ok (.aload_n 0, 1) := by decide +kernel
theorem d_Mo_runs_37 : decode prog_13_method_39_code 37 = .ok (.getfield 32, 3) := by decide +kernel
theorem d_Mo_runs_40 : decode prog_13_method_39_code 40 = .ok (.aload_n 0, 1) := by decide +kernel
theorem d_Mo_runs_41 : decode prog_13_method_39_code 41 = .ok (.getfield 40, 3) := by decide +kernel
theorem d_Mo_runs_44 : decode prog_13_method_39_code 44 = .ok (.iload_n 3, 1) := by decide +kernel
theorem d_Mo_runs_45 : decode prog_13_method_39_code 45 = .ok (.iaload, 1) := by decide +kernel
theorem d_Mo_runs_46 : decode prog_13_method_39_code 46 = .ok (.dup2, 1) := by decide +kernel
theorem d_Mo_runs_47 : decode prog_13_method_39_code 47 = .ok (.iaload, 1) := by decide +kernel
theorem d_Mo_runs_48 : decode prog_13_method_39_code 48 = .ok (.iconst 1, 1) := by decide +kernel
theorem d_Mo_runs_49 : decode prog_13_method_39_code 49 = .ok (.iadd, 1) := by decide +kernel
theorem d_Mo_runs_50 : decode prog_13_method_39_code 50 = .ok (.iastore, 1) := by decide +kernel
theorem d_Mo_runs_51 : decode prog_13_method_39_code 51 = .ok (.iinc 3 1, 3) := by decide +kernel
theorem d_Mo_runs_54 : decode prog_13_method_39_code 54 = .ok (.goto (-26), 3) := by decide +kernel
theorem d_Mo_runs_57 : decode prog_13_method_39_code 57 = .ok (.aload_n 0, 1) := by decide +kernel
theorem d_Mo_runs_58 : decode prog_13_method_39_code 58 = .ok (.getfield 7, 3) := by decide +kernel
theorem d_Mo_runs_61 : decode prog_13_method_39_code 61 = .ok (.bipush 12, 2) := by decide +kernel
theorem d_Mo_runs_63 : decode prog_13_method_39_code 63 = .ok (.bipush 19, 2) := by decide +kernel
theorem d_Mo_runs_65 : decode prog_13_method_39_code 65 = .ok (.iastore, 1) := by decide +kernel
theorem d_Mo_runs_66 : decode prog_13_method_39_code 66 = .ok (.aload_n 0, 1) := by decide +kernel
theorem d_Mo_runs_67 : decode prog_13_method_39_code 67 = .ok (.bipush 12, 2) := by decide +kernel
theorem d_Mo_runs_69 : decode prog_13_method_39_code 69 = .ok (.bipush 19, 2) := by decide +kernel
theorem d_Mo_runs_71 : decode prog_13_method_39_code 71 = .ok (.bipush 7, 2) := by decide +kernel
theorem d_Mo_runs_73 : decode prog_13_method_39_code 73 = .ok (.invokevirtual 134, 3) := by decide +kernel
theorem d_Mo_runs_76 : decode prog_13_method_39_code 76 = .ok (.bipush 19, 2) := by decide +kernel
theorem d_Mo_runs_78 : decode prog_13_method_39_code 78 = .ok (.istore_n 3, 1) := by decide +kernel
theorem d_Mo_runs_79 : decode prog_13_method_39_code 79 = .ok (.iload_n 3, 1) := by decide +kernel
theorem d_Mo_runs_80 : decode prog_13_method_39_code 80 = .ok (.iconst 4, 1) := by decide +kernel
theorem d_Mo_runs_81 : decode prog_13_method_39_code 81 = .ok (.if_icmp .le 27, 3) := by decide +kernel
theorem d_Mo_runs_84 : decode prog_13_method_39_code 84 = .ok (.aload_n 0, 1) := by decide +kernel
theorem d_Mo_runs_85 : decode prog_13_method_39_code 85 = .ok (.getfield 13, 3) := by decide +kernel
theorem d_Mo_runs_88 : decode prog_13_method_39_code 88 = .ok (.sipush 768, 3) := by decide +kernel
theorem d_Mo_runs_91 : decode prog_13_method_39_code 91 = .ok (.iload_n 3, 1) := by decide +kernel
theorem d_Mo_runs_92 : decode prog_13_method_39_code 92 = .ok (.iconst 1, 1) := by decide +kernel
theorem d_Mo_runs_93 : decode prog_13_method_39_code 93 = .ok (.isub, 1) := by decide +kernel
theorem d_Mo_runs_94 : decode prog_13_method_39_code 94 = .ok (.invokestatic 173, 3) := by decide +kernel
theorem d_Mo_runs_97 : decode prog_13_method_39_code 97 = .ok (.iadd, 1) := by decide +kernel
theorem d_Mo_runs_98 : decode prog_13_method_39_code 98 = .ok (.iaload, 1) := by decide +kernel
theorem d_Mo_runs_99 : decode prog_13_method_39_code 99 = .ok (.ifCond .ne 9, 3) := by decide +kernel
theorem d_Mo_runs_102 : decode prog_13_method_39_code 102 = .ok (.iinc 3 (-1), 3) := by decide +kernel
theorem d_Mo_runs_105 : decode prog_13_method_39_code 105 = .ok (.goto (-26), 3) := by decide +kernel
theorem d_Mo_runs_108 : decode prog_13_method_39_code 108 = .ok (.iconst 4, 1) := by decide +kernel
theorem d_Mo_runs_109 : decode prog_13_method_39_code 109 = .ok (.iconst 3, 1) := by decide +kernel
theorem d_Mo_runs_110 : decode prog_13_method_39_code 110 = .ok (.iload_n 3, 1) := by decide +kernel
theorem d_Mo_runs_111 : decode prog_13_method_39_code 111 = .ok (.imul, 1) := by decide +kernel
theorem d_Mo_runs_112 : decode prog_13_method_39_code 112 = .ok (.iadd, 1) := by decide +kernel
theorem d_Mo_runs_113 : decode prog_13_method_39_code 113 = .ok (.istore 4, 2) := by decide +kernel
theorem d_Mo_runs_115 : decode prog_13_method_39_code 115 = .ok (.iload_n 2, 1) := by decide +kernel
theorem d_Mo_runs_116 : decode prog_13_method_39_code 116 = .ok (.ifCond .eq 45, 3) := by decide +kernel
theorem d_Mo_runs_119 : decode prog_13_method_39_code 119 = .ok (.aload_n 0, 1) := by decide +kernel
theorem d_Mo_runs_120 : decode prog_13_method_39_code 120 = .ok (.iload_n 3, 1) := by decide +kernel
theorem d_Mo_runs_121 : decode prog_13_method_39_code 121 = .ok (.iconst 4, 1) := by decide +kernel
theorem d_Mo_runs_122 : decode prog_13_method_39_code 122 = .ok (.isub, 1) := by decide +kernel
theorem d_Mo_runs_123 : decode prog_13_method_39_code 123 = .ok (.iconst 4, 1) := by decide +kernel
theorem d_Mo_runs_124 : decode prog_13_method_39_code 124 = .ok (.invokevirtual 149, 3) := by decide +kernel
theorem d_Mo_runs_127 : decode prog_13_method_39_code 127 = .ok (.iconst 0, 1) := by decide +kernel
theorem d_Mo_runs_128 : decode prog_13_method_39_code 128 = .ok (.istore 5, 2) := by decide +kernel
theorem d_Mo_runs_130 : decode prog_13_method_39_code 130 = .ok (.iload 5, 2) := by decide +kernel
theorem d_Mo_runs_132 : decode prog_13_method_39_code 132 = .ok (.iload_n 3, 1) := by decide +kernel
theorem d_Mo_runs_133 : decode prog_13_method_39_code 133 = .ok (.if_icmp .ge 28, 3) := by decide +kernel
theorem d_Mo_runs_136 : decode prog_13_method_39_code 136 = .ok (.aload_n 0, 1) := by decide +kernel
theorem d_Mo_runs_137 : decode prog_13_method_39_code 137 = .ok (.aload_n 0, 1) := by decide +kernel
theorem d_Mo_runs_138 : decode prog_13_method_39_code 138 = .ok (.getfield 13, 3) := by decide +kernel
theorem d_Mo_runs_141 : decode prog_13_method_39_code 141 = .ok (.sipush 768, 3) := by decide +kernel
theorem d_Mo_runs_144 : decode prog_13_method_39_code 144 = .ok (.iload 5, 2) := by decide +kernel
theorem d_Mo_runs_146 : decode prog_13_method_39_code 146 = .ok (.invokestatic 173, 3) := by decide +kernel
theorem d_Mo_runs_149 : decode prog_13_method_39_code 149 = .ok (.iadd, 1) := by decide +kernel
theorem d_Mo_runs_150 : decode prog_13_method_39_code 150 = .ok (.iaload, 1) := by decide +kernel
theorem d_Mo_runs_151 : decode prog_13_method_39_code 151 = .ok (.iconst 3, 1) := by decide +kernel
theorem d_Mo_runs_152 : decode prog_13_method_39_code 152 = .ok (.invokevirtual 149, 3) := by decide +kernel
theorem d_Mo_runs_155 : decode prog_13_method_39_code 155 = .ok (.iinc 5 1, 3) := by decide +kernel
theorem d_Mo_runs_158 : decode prog_13_method_39_code 158 = .ok (.goto (-28), 3) := by decide +kernel
theorem d_Mo_runs_161 : decode prog_13_method_39_code 161 = .ok (.iconst 0, 1) := by decide +kernel
theorem d_Mo_runs_162 : decode prog_13_method_39_code 162 = .ok (.istore 5, 2) := by decide +kernel
theorem d_Mo_runs_164 : decode prog_13_method_39_code 164 = .ok (.iload 5, 2) := by decide +kernel
theorem d_Mo_runs_166 : decode prog_13_method_39_code 166 = .ok (.aload_n 0, 1) := by decide +kernel
theorem d_Mo_runs_167 : decode prog_13_method_39_code 167 = .ok (.getfield 160, 3) := by decide +kernel
theorem d_Mo_runs_170 : decode prog_13_method_39_code 170 = .ok (.if_icmp .ge 86, 3) := by decide +kernel
theorem d_Mo_runs_173 : decode prog_13_method_39_code 173 = .ok (.aload_n 0, 1) := by decide +kernel
theorem d_Mo_runs_174 : decode prog_13_method_39_code 174 = .ok (.getfield 40, 3) := by decide +kernel
theorem d_Mo_runs_177 : decode prog_13_method_39_code 177 = .ok (.iload 5, 2) := by decide +kernel
theorem d_Mo_runs_179 : decode prog_13_method_39_code 179 = .ok (.iaload, 1) := by decide +kernel
theorem d_Mo_runs_180 : decode prog_13_method_39_code 180 = .ok (.istore 6, 2) := by decide +kernel
theorem d_Mo_runs_182 : decode prog_13_method_39_code 182 = .ok (.aload_n 0, 1) := by decide +kernel
theorem d_Mo_runs_183 : decode prog_13_method_39_code 183 = .ok (.getfield 13, 3) := by decide +kernel
theorem d_Mo_runs_186 : decode prog_13_method_39_code 186 = .ok (.sipush 768, 3) := by decide +kernel
theorem d_Mo_runs_189 : decode prog_13_method_39_code 189 = .ok (.iload 6, 2) := by decide +kernel
theorem d_Mo_runs_191 : decode prog_13_method_39_code 191 = .ok (.iadd, 1) := by decide +kernel
theorem d_Mo_runs_192 : decode prog_13_method_39_code 192 = .ok (.iaload, 1) := by decide +kernel
theorem d_Mo_runs_193 : decode prog_13_method_39_code 193 = .ok (.istore 7, 2) := by decide +kernel
theorem d_Mo_runs_195 : decode prog_13_method_39_code 195 = .ok (.iload 4, 2) := by decide +kernel
theorem d_Mo_runs_197 : decode prog_13_method_39_code 197 = .ok (.iload 7, 2) := by decide +kernel
theorem d_Mo_runs_199 : decode prog_13_method_39_code 199 = .ok (.iload 6, 2) := by decide +kernel
theorem d_Mo_runs_201 : decode prog_13_method_39_code 201 = .ok (.invokestatic 176, 3) := by decide +kernel
theorem d_Mo_runs_204 : decode prog_13_method_39_code 204 = .ok (.iadd, 1) := by decide +kernel
theorem d_Mo_runs_205 : decode prog_13_method_39_code 205 = .ok (.iadd, 1) := by decide +kernel
theorem d_Mo_runs_206 : decode prog_13_method_39_code 206 = .ok (.istore 4, 2) := by decide +kernel
theorem d_Mo_runs_208 : decode prog_13_method_39_code 208 = .ok (.iload_n 2, 1) := by decide +kernel
theorem d_Mo_runs_209 : decode prog_13_method_39_code 209 = .ok (.ifCond .eq 41, 3) := by decide +kernel
theorem d_Mo_runs_212 : decode prog_13_method_39_code 212 = .ok (.aload_n 0, 1) := by decide +kernel
theorem d_Mo_runs_213 : decode prog_13_method_39_code 213 = .ok (.aload_n 0, 1) := by decide +kernel
theorem d_Mo_runs_214 : decode prog_13_method_39_code 214 = .ok (.bipush 12, 2) := by decide +kernel
theorem d_Mo_runs_216 : decode prog_13_method_39_code 216 = .ok (.iload 6, 2) := by decide +kernel
theorem d_Mo_runs_218 : decode prog_13_method_39_code 218 = .ok (.invokevirtual 116, 3) := by decide +kernel
theorem d_Mo_runs_221 : decode prog_13_method_39_code 221 = .ok (.iload 7, 2) := by decide +kernel
theorem d_Mo_runs_223 : decode prog_13_method_39_code 223 = .ok (.invokevirtual 149, 3) := by decide +kernel
theorem d_Mo_runs_226 : decode prog_13_method_39_code 226 = .ok (.iload 6, 2) := by decide +kernel
theorem d_Mo_runs_228 : decode prog_13_method_39_code 228 = .ok (.invokestatic 176, 3) := by decide +kernel
theorem d_Mo_runs_231 : decode prog_13_method_39_code 231 = .ok (.ifCond .le 19, 3) := by decide +kernel
theorem d_Mo_runs_234 : decode prog_13_method_39_code 234 = .ok (.aload_n 0, 1) := by decide +kernel
theorem d_Mo_runs_235 : decode prog_13_method_39_code 235 = .ok (.aload_n 0, 1) := by decide +kernel
theorem d_Mo_runs_236 : decode prog_13_method_39_code 236 = .ok (.getfield 43, 3) := by decide +kernel
theorem d_Mo_runs_239 : decode prog_13_method_39_code 239 = .ok (.iload 5, 2) := by decide +kernel
theorem d_Mo_runs_241 : decode prog_13_method_39_code 241 = .ok (.iaload, 1) := by decide +kernel
theorem d_Mo_runs_242 : decode prog_13_method_39_code 242 = .ok (.iload 6, 2) := by decide +kernel
theorem d_Mo_runs_244 : decode prog_13_method_39_code 244 = .ok (.invokestatic 176, 3) := by decide +kernel
theorem d_Mo_runs_247 : decode prog_13_method_39_code 247 = .ok (.invokevirtual 149, 3) := by decide +kernel
theorem d_Mo_runs_250 : decode prog_13_method_39_code 250 = .ok (.iinc 5 1, 3) := by decide +kernel
theorem d_Mo_runs_253 : decode prog_13_method_39_code 253 = .ok (.goto (-89), 3) := by decide +kernel
theorem d_Mo_runs_256 : decode prog_13_method_39_code 256 = .ok (.iload 4, 2) := by decide +kernel
theorem d_Mo_runs_258 : decode prog_13_method_39_code 258 = .ok (.ireturn, 1) := by decide +kernel
noncomputable def f_Mo_tell (σ : St) (a1 : Int32) (a2 : Int32) : Option (St) :=
  gd (ib (σ.1 48 0 15) 64) <|
  nm (sI σ 58 0 ((σ.1 48 0 15).toNatClampNeg) a1) fun σ1 =>
  gd (ib (σ1.1 48 0 15) 64) <|
  nm (sI σ1 59 0 ((σ1.1 48 0 15).toNatClampNeg) a2) fun σ2 =>
  nm (sI σ2 48 0 15 ((σ2.1 48 0 15) + 1)) fun σ3 =>
  some σ3
noncomputable def lb_Mo_fillCommands_57 (a1 : Int32) (x2 : Int32) (p3 : Int32) (p4 : Int32) (k0 : Int32) (σ : St) (v5 : Int32) : Option ((St × Int32) ⊕ ((St × Int32))) :=
  if x2 ≤ (p3 + v5) then
    some (.inr (σ, v5))
  else
  b2 (f_Mo_lengthOf σ a1 (p3 + v5)) fun σ5 x6 =>
  if x6 = k0 then
    nm (v5 + 1) fun x7 =>
    some (.inl (σ5, x7))
  else
  some (.inr (σ5, v5))
noncomputable def jn_Mo_fillCommands_163_3 (a1 : Int32) (x2 : Int32) (σ : St) (p3 : Int32) (p4 : Int32) (p5 : Int32) : Option ((St × Int32) ⊕ ((St × Int32))) :=
  if p4 ≤ 0 then
    b1 (f_Mo_tell σ p4 0) fun σ10 =>
    nm (p3 + 1) fun x11 =>
    some (.inl (σ10, x11))
  else
  if p5 < 3 then
    b1 (f_Mo_tell σ p4 0) fun σ12 =>
    nm (p3 + 1) fun x13 =>
    some (.inl (σ12, x13))
  else
  if p5 ≤ 6 then
    b1 (f_Mo_tell σ 16 (p5 - 3)) fun σ14 =>
    nm (p3 + p5) fun x15 =>
    some (.inl (σ14, x15))
  else
  b1 (f_Mo_tell σ 16 (6 - 3)) fun σ16 =>
  nm (p3 + 6) fun x17 =>
  some (.inl (σ16, x17))
noncomputable def jn_Mo_fillCommands_134_2 (a1 : Int32) (x2 : Int32) (σ : St) (p3 : Int32) (p4 : Int32) (p5 : Int32) : Option ((St × Int32) ⊕ ((St × Int32))) :=
  if p4 = 0 then
    if p5 < 3 then
      jn_Mo_fillCommands_163_3 a1 x2 σ p3 p4 p5
    else
    b1 (f_Mo_tell σ 17 (p5 - 3)) fun σ18 =>
    nm (p3 + p5) fun x19 =>
    some (.inl (σ18, x19))
  else
  jn_Mo_fillCommands_163_3 a1 x2 σ p3 p4 p5
noncomputable def jn_Mo_fillCommands_55 (a1 : Int32) (x2 : Int32) (σ : St) (p3 : Int32) (p4 : Int32) (p5 : Int32) (k0 : Int32) : Option ((St × Int32) ⊕ ((St × Int32))) :=
  b2 (lpE (fun q => lb_Mo_fillCommands_57 a1 x2 p3 p4 k0 q.1 q.2) (σ, p5)) fun σ8 x9 =>
  if p4 = 0 then
    if x9 < 11 then
      jn_Mo_fillCommands_134_2 a1 x2 σ8 p3 p4 x9
    else
    if x9 ≤ 138 then
      b1 (f_Mo_tell σ8 18 (x9 - 11)) fun σ20 =>
      nm (p3 + x9) fun x21 =>
      some (.inl (σ20, x21))
    else
    b1 (f_Mo_tell σ8 18 (138 - 11)) fun σ22 =>
    nm (p3 + 138) fun x23 =>
    some (.inl (σ22, x23))
  else
  jn_Mo_fillCommands_134_2 a1 x2 σ8 p3 p4 x9
noncomputable def lb_Mo_fillCommands_14 (a1 : Int32) (x2 : Int32) (σ : St) (v3 : Int32) : Option ((St × Int32) ⊕ ((St × Int32))) :=
  if x2 ≤ v3 then
    some (.inr (σ, v3))
  else
  b2 (f_Mo_lengthOf σ a1 v3) fun σ3 x4 =>
  if x4 = 0 then
    jn_Mo_fillCommands_55 a1 x2 σ3 v3 x4 0 0
  else
  if v3 ≤ 0 then
    jn_Mo_fillCommands_55 a1 x2 σ3 v3 x4 0 (-1)
  else
  b2 (f_Mo_lengthOf σ3 a1 (v3 - 1)) fun σ24 x25 =>
  jn_Mo_fillCommands_55 a1 x2 σ24 v3 x4 0 x25
noncomputable def f_Mo_fillCommands (σ : St) (a1 : Int32) : Option (St) :=
  nm (sI σ 48 0 15 0) fun σ1 =>
  gd (ib a1 13) <|
  nm (σ1.1 49 0 a1.toNatClampNeg) fun x2 =>
  b2 (lpE (fun q => lb_Mo_fillCommands_14 a1 x2 q.1 q.2) (σ1, 0)) fun σ26 x27 =>
  some σ26
noncomputable def lb_Mo_runs_7 (a2 : Int32) (σ : St) (v3 : Int32) : Option ((St × Int32) ⊕ ((St × Int32))) :=
  if 64 ≤ v3 then
    some (.inr (σ, v3))
  else
  gd (ib v3 64) <|
  nm (sI σ 56 0 (v3.toNatClampNeg) 0) fun σ2 =>
  nm (v3 + 1) fun x3 =>
  some (.inl (σ2, x3))
noncomputable def lb_Mo_runs_28 (a2 : Int32) (σ : St) (v3 : Int32) : Option ((St × Int32) ⊕ ((St × Int32))) :=
  if (σ.1 48 0 15) ≤ v3 then
    some (.inr (σ, v3))
  else
  gd (ib v3 64) <|
  gd (ib (σ.1 58 0 v3.toNatClampNeg) 64) <|
  gd (ib (σ.1 58 0 v3.toNatClampNeg) 64) <|
  nm (sI σ 56 0 ((σ.1 58 0 v3.toNatClampNeg).toNatClampNeg) ((σ.1 56 0 (σ.1 58 0 v3.toNatClampNeg).toNatClampNeg) + 1)) fun σ6 =>
  nm (v3 + 1) fun x7 =>
  some (.inl (σ6, x7))
noncomputable def lb_Mo_runs_79 (a2 : Int32) (σ : St) (v3 : Int32) : Option ((St × Int32) ⊕ ((St × Int32))) :=
  if v3 ≤ 4 then
    some (.inr (σ, v3))
  else
  b2 (f_Mo_orderOf σ (v3 - 1)) fun σ12 x13 =>
  gd (ib (768 + x13) 832) <|
  if (σ12.1 50 0 (768 + x13).toNatClampNeg) = 0 then
    nm (v3 + (-1)) fun x14 =>
    some (.inl (σ12, x14))
  else
  some (.inr (σ12, v3))
noncomputable def lb_Mo_runs_164 (a2 : Int32) (σ : St) (v4 : Int32) (v5 : Int32) : Option ((St × Int32 × Int32) ⊕ ((St × Int32 × Int32))) :=
  if (σ.1 48 0 15) ≤ v5 then
    some (.inr (σ, v4, v5))
  else
  gd (ib v5 64) <|
  nm (σ.1 58 0 v5.toNatClampNeg) fun x18 =>
  gd (ib (768 + x18) 832) <|
  nm (σ.1 50 0 (768 + x18).toNatClampNeg) fun x19 =>
  b2 (f_Mo_extra σ x18) fun σ20 x21 =>
  nm (v4 + (x19 + x21)) fun x22 =>
  if a2 = 0 then
    nm (v5 + 1) fun x23 =>
    some (.inl (σ20, x22, x23))
  else
  b2 (f_Mo_wordOf σ20 12 x18) fun σ24 x25 =>
  b1 (f_Mo_putBits σ24 x25 x19) fun σ26 =>
  b2 (f_Mo_extra σ26 x18) fun σ27 x28 =>
  if x28 ≤ 0 then
    nm (v5 + 1) fun x29 =>
    some (.inl (σ27, x22, x29))
  else
  gd (ib v5 64) <|
  b2 (f_Mo_extra σ27 x18) fun σ30 x31 =>
  b1 (f_Mo_putBits σ30 (σ27.1 59 0 v5.toNatClampNeg) x31) fun σ32 =>
  nm (v5 + 1) fun x33 =>
  some (.inl (σ32, x22, x33))
noncomputable def lb_Mo_runs_130 (a2 : Int32) (x16 : Int32) (x17 : Int32) (σ : St) (v5 : Int32) : Option ((St × Int32) ⊕ ((St × Int32))) :=
  if x16 ≤ v5 then
    some (.inr (σ, v5))
  else
  b2 (f_Mo_orderOf σ v5) fun σ38 x39 =>
  gd (ib (768 + x39) 832) <|
  b1 (f_Mo_putBits σ38 (σ38.1 50 0 (768 + x39).toNatClampNeg) 3) fun σ40 =>
  nm (v5 + 1) fun x41 =>
  some (.inl (σ40, x41))
noncomputable def lb_Mo_runs_164_2 (a2 : Int32) (σ : St) (v4 : Int32) (v5 : Int32) : Option ((St × Int32 × Int32) ⊕ ((St × Int32 × Int32))) :=
  if (σ.1 48 0 15) ≤ v5 then
    some (.inr (σ, v4, v5))
  else
  gd (ib v5 64) <|
  nm (σ.1 58 0 v5.toNatClampNeg) fun x44 =>
  gd (ib (768 + x44) 832) <|
  nm (σ.1 50 0 (768 + x44).toNatClampNeg) fun x45 =>
  b2 (f_Mo_extra σ x44) fun σ46 x47 =>
  nm (v4 + (x45 + x47)) fun x48 =>
  if a2 = 0 then
    nm (v5 + 1) fun x49 =>
    some (.inl (σ46, x48, x49))
  else
  b2 (f_Mo_wordOf σ46 12 x44) fun σ50 x51 =>
  b1 (f_Mo_putBits σ50 x51 x45) fun σ52 =>
  b2 (f_Mo_extra σ52 x44) fun σ53 x54 =>
  if x54 ≤ 0 then
    nm (v5 + 1) fun x55 =>
    some (.inl (σ53, x48, x55))
  else
  gd (ib v5 64) <|
  b2 (f_Mo_extra σ53 x44) fun σ56 x57 =>
  b1 (f_Mo_putBits σ56 (σ53.1 59 0 v5.toNatClampNeg) x57) fun σ58 =>
  nm (v5 + 1) fun x59 =>
  some (.inl (σ58, x48, x59))
noncomputable def f_Mo_runs (σ : St) (a1 : Int32) (a2 : Int32) : Option (St × Int32) :=
  b1 (f_Mo_fillCommands σ a1) fun σ1 =>
  b2 (lpE (fun q => lb_Mo_runs_7 a2 q.1 q.2) (σ1, 0)) fun σ4 x5 =>
  b2 (lpE (fun q => lb_Mo_runs_28 a2 q.1 q.2) (σ4, 0)) fun σ8 x9 =>
  gd (ib 12 13) <|
  nm (sI σ8 49 0 ((12 : Int32).toNatClampNeg) 19) fun σ10 =>
  b1 (f_Mo_packages σ10 12 19 7) fun σ11 =>
  b2 (lpE (fun q => lb_Mo_runs_79 a2 q.1 q.2) (σ11, 19)) fun σ15 x16 =>
  nm (4 + (3 * x16)) fun x17 =>
  if a2 = 0 then
    b3 (lpE (fun q => lb_Mo_runs_164 a2 q.1 q.2.1 q.2.2) (σ15, x17, 0)) fun σ34 x35 x36 =>
    some (σ34, x35)
  else
  b1 (f_Mo_putBits σ15 (x16 - 4) 4) fun σ37 =>
  b2 (lpE (fun q => lb_Mo_runs_130 a2 x16 x17 q.1 q.2) (σ37, 0)) fun σ42 x43 =>
  b3 (lpE (fun q => lb_Mo_runs_164_2 a2 q.1 q.2.1 q.2.2) (σ42, x17, 0)) fun σ60 x61 x62 =>
  some (σ60, x61)
set_option maxHeartbeats 4000000 in
set_option maxRecDepth 100000 in
theorem c_Mo_tell (l : Launch) (D : va_G) (aC : Nat → ClassId) (A : Nat → Prop) (ad : Nat → Nat → Nat) (n : Nat) (σ : St) (a1 : Int32) (a2 : Int32) (o : St) (h : f_Mo_tell σ a1 a2 = some o) : Met l y_Mo_tell w_Mo_tell rm_Mo_tell (va_Pc [.ref (ad 48 0), .int a1, .int a2] (Pre D aC A ad n σ)) (va_Qv (fun (_ : Unit) => True) (fun _ t => Hold D aC A ad n o t.heap) A) 0 0 A := by
  refine Met.ofW (cc := prog_13_method_36_code) (maxL := 3) (ret := none) (by decide) rfl ?_
  intro p e s m args below meth c s₁ B hml hv
  obtain ⟨hargs, hH, hK, hZ⟩ := hv
  have hx := B.exec
  have hb := B.bytes
  have hr := B.returns
  have hts := atoms_spec (ws := w_Mo_tell) B.pre
  have hg : ∀ w ∈ gW, w.before args s = true := fun w h => hts w (List.mem_cons_of_mem _ h)
  have hown : s.vm.findClass "PrefixCodesModel" = some m.cls := findClass_of_methodNamed B.named
  have hlocks := B.notSynchronized
  have hS : va_S A s.heap s.heap [] := va_S.rf
  have hl := lv_entry ([.ref (ad 48 0), .int a1, .int a2]) (n := 3) (Nat.le_of_ble_eq_true rfl)
  rw [show entryFrame m args 3 = entryFrame m (([.ref (ad 48 0), .int a1, .int a2] : List Value).toArray) 3 by rw [hargs], lg_entry_eq]
  generalize (lg_sl ([.ref (ad 48 0), .int a1, .int a2]) ++ List.replicate (3 - (lg_sl ([.ref (ad 48 0), .int a1, .int a2])).length) Slot.unset).toArray = ls at hl ⊢
  have hl : lv_has ls 3 [(0, .ref (ad 48 0)), (1, .int a1), (2, .int a2)] := hl
  generalize hQ0 : MQ below (va_Qv (fun (_ : Unit) => True) (fun _ t => Hold D aC A ad n o t.heap) A) args s 0 0 A = Q0
  unfold f_Mo_tell at h
  refine lv_aload_n hx hb d_Mo_tell_0 rfl (lv_at hl 0 rfl) ?_
  refine st_get hx hb hg hown hK hH (f := 48) (i := 0) hd_48 rfl rfl u_Mo 13 (by decide) (hg _ wd_509) (v := .ref (ad 58 0)) rfl d_Mo_tell_1 ?_
  refine lv_aload_n hx hb d_Mo_tell_4 rfl (lv_at hl 0 rfl) ?_
  refine st_get hx hb hg hown hK hH (f := 48) (i := 0) hd_48 rfl rfl u_Mo 15 (by decide) (hg _ wd_510) (v := .int (σ.1 48 0 15)) rfl d_Mo_tell_5 ?_
  refine lv_iload_n hx hb d_Mo_tell_8 rfl (lv_at hl 1 rfl) ?_
  obtain ⟨g9, h⟩ := gd_some h
  refine st_iast hx hb hK hH hS (f := 58) (i := 0) hd_58 rfl g9 d_Mo_tell_9 (fun σ1 H locs eσ1 hH hS => ?_)
  have h := nm_at eσ1 h
  refine lv_aload_n hx hb d_Mo_tell_10 rfl (lv_at hl 0 rfl) ?_
  refine st_get hx hb hg hown hK hH (f := 48) (i := 0) hd_48 rfl rfl u_Mo 14 (by decide) (hg _ wd_511) (v := .ref (ad 59 0)) rfl d_Mo_tell_11 ?_
  refine lv_aload_n hx hb d_Mo_tell_14 rfl (lv_at hl 0 rfl) ?_
  refine st_get hx hb hg hown hK hH (f := 48) (i := 0) hd_48 rfl rfl u_Mo 15 (by decide) (hg _ wd_510) (v := .int (σ1.1 48 0 15)) rfl d_Mo_tell_15 ?_
  refine lv_iload_n hx hb d_Mo_tell_18 rfl (lv_at hl 2 rfl) ?_
  obtain ⟨g19, h⟩ := gd_some h
  refine st_iast hx hb hK hH hS (f := 59) (i := 0) hd_59 rfl g19 d_Mo_tell_19 (fun σ2 H locs eσ2 hH hS => ?_)
  have h := nm_at eσ2 h
  refine lv_aload_n hx hb d_Mo_tell_20 rfl (lv_at hl 0 rfl) ?_
  refine lv_dup hx hb d_Mo_tell_21 rfl ?_
  refine st_get hx hb hg hown hK hH (f := 48) (i := 0) hd_48 rfl rfl u_Mo 15 (by decide) (hg _ wd_510) (v := .int (σ2.1 48 0 15)) rfl d_Mo_tell_22 ?_
  refine lv_iconst (v := 1) hx hb d_Mo_tell_25 (by decide) ?_
  refine lv_iadd hx hb d_Mo_tell_26 ?_
  refine st_put hx hb hg hown hK hH hS (f := 48) (i := 0) hd_48 rfl rfl u_Mo t_Mo t_Mo_ok n_Mo 15 (by decide) (hg _ wd_510) rfl rfl rfl d_Mo_tell_27 (fun σ3 H locs eσ3 hH hS => ?_)
  have h := nm_at eσ3 h
  cases h
  rw [← hQ0]
  exact W.vret hx hb hr (fun t ht hW => ⟨⟨(), rfl, trivial, by dsimp only; rw [ht]; exact hH⟩, hS.F ht⟩) hS.2.2 d_Mo_tell_30
set_option maxHeartbeats 4000000 in
set_option maxRecDepth 100000 in
theorem c_Mo_fillCommands (l : Launch) (D : va_G) (aC : Nat → ClassId) (A : Nat → Prop) (ad : Nat → Nat → Nat) (n : Nat) (σ : St) (a1 : Int32) (o : St) (h : f_Mo_fillCommands σ a1 = some o) : Met l y_Mo_fillCommands w_Mo_fillCommands rm_Mo_fillCommands (va_Pc [.ref (ad 48 0), .int a1] (Pre D aC A ad n σ)) (va_Qv (fun (_ : Unit) => True) (fun _ t => Hold D aC A ad n o t.heap) A) 0 0 A := by
  refine Met.ofW (cc := prog_13_method_37_code) (maxL := 7) (ret := none) (by decide) rfl ?_
  intro p e s m args below meth c s₁ B hml hv
  obtain ⟨hargs, hH, hK, hZ⟩ := hv
  have hx := B.exec
  have hb := B.bytes
  have hr := B.returns
  have hts := atoms_spec (ws := w_Mo_fillCommands) B.pre
  have hg : ∀ w ∈ gW, w.before args s = true := fun w h => hts w (List.mem_cons_of_mem _ h)
  have hown : s.vm.findClass "PrefixCodesModel" = some m.cls := findClass_of_methodNamed B.named
  have hlocks := B.notSynchronized
  have hS : va_S A s.heap s.heap [] := va_S.rf
  have hl := lv_entry ([.ref (ad 48 0), .int a1]) (n := 7) (Nat.le_of_ble_eq_true rfl)
  rw [show entryFrame m args 7 = entryFrame m (([.ref (ad 48 0), .int a1] : List Value).toArray) 7 by rw [hargs], lg_entry_eq]
  generalize (lg_sl ([.ref (ad 48 0), .int a1]) ++ List.replicate (7 - (lg_sl ([.ref (ad 48 0), .int a1])).length) Slot.unset).toArray = ls at hl ⊢
  have hl : lv_has ls 7 [(0, .ref (ad 48 0)), (1, .int a1)] := hl
  generalize hQ0 : MQ below (va_Qv (fun (_ : Unit) => True) (fun _ t => Hold D aC A ad n o t.heap) A) args s 0 0 A = Q0
  unfold f_Mo_fillCommands at h
  refine lv_aload_n hx hb d_Mo_fillCommands_0 rfl (lv_at hl 0 rfl) ?_
  refine lv_iconst (v := 0) hx hb d_Mo_fillCommands_1 (by decide) ?_
  refine st_put hx hb hg hown hK hH hS (f := 48) (i := 0) hd_48 rfl rfl u_Mo t_Mo t_Mo_ok n_Mo 15 (by decide) (hg _ wd_510) rfl rfl rfl d_Mo_fillCommands_2 (fun σ1 H locs eσ1 hH hS => ?_)
  have h := nm_at eσ1 h
  refine lv_aload_n hx hb d_Mo_fillCommands_5 rfl (lv_at hl 0 rfl) ?_
  refine st_get hx hb hg hown hK hH (f := 48) (i := 0) hd_48 rfl rfl u_Mo 2 (by decide) (hg _ wd_425) (v := .ref (ad 49 0)) rfl d_Mo_fillCommands_6 ?_
  refine lv_iload_n hx hb d_Mo_fillCommands_9 rfl (lv_at hl 1 rfl) ?_
  obtain ⟨g10, h⟩ := gd_some h
  refine st_iald hx hb hK hH (f := 49) (i := 0) hd_49 rfl g10 d_Mo_fillCommands_10 ?_
  refine lv_topi (fun x2 ex2 => ?_)
  have h := nm_at ex2 h
  refine lv_istore_n (lv' := [(2, .int x2), (0, .ref (ad 48 0)), (1, .int a1)]) hx hb d_Mo_fillCommands_11 rfl hl (by decide) rfl (fun ls hl => ?_)
  refine lv_iconst (v := 0) hx hb d_Mo_fillCommands_12 (by decide) ?_
  refine lv_istore_n (lv' := [(3, .int 0), (2, .int x2), (0, .ref (ad 48 0)), (1, .int a1)]) hx hb d_Mo_fillCommands_13 rfl hl (by decide) rfl (fun ls hl => ?_)
  obtain ⟨q1, hq1, h⟩ := b2_some h
  have K1 : ∀ (σ26 : St) (x27 : Int32) (H : Heap) (locs : List Loc) (ls : Array Slot), q1 = (σ26, x27) → Hold D aC A ad n σ26 H → va_S A s.heap H locs → lv_has ls 7 [(0, .ref (ad 48 0)), (1, .int a1), (2, .int x2), (3, .int x27)] → W p l e (headSpec w_Mo_fillCommands rm_Mo_fillCommands).room s m args below meth c H locs 0 0 Q0 (F0 m 221 ls []) := by
    intro σ26 x27 H locs ls eq1 hH hS hl
    subst eq1
    have h := b2_at h
    cases h
    rw [← hQ0]
    exact W.vret hx hb hr (fun t ht hW => ⟨⟨(), rfl, trivial, by dsimp only; rw [ht]; exact hH⟩, hS.F ht⟩) hS.2.2 d_Mo_fillCommands_221
  have loop1 : ∀ (k : Nat) (σ : St) (v3 : Int32) (H : Heap) (locs : List Loc) (ls : Array Slot), Hold D aC A ad n σ H → va_S A s.heap H locs → lv_has ls 7 [(0, .ref (ad 48 0)), (1, .int a1), (2, .int x2), (3, .int v3)] → lp (fun q => lb_Mo_fillCommands_14 a1 x2 q.1 q.2) k (σ, v3) = some q1 → W p l e (headSpec w_Mo_fillCommands rm_Mo_fillCommands).room s m args below meth c H locs 0 0 Q0 (F0 m 14 ls []) := by
    intro k
    induction k with
    | zero => intro σ v3 H locs ls hH hS hl hlp; exact absurd hlp (lp_zero _ _ _)
    | succ k ih1 =>
      intro σ v3 H locs ls hH hS hl hlp
      obtain ⟨z1, h1, hk1⟩ := lp_succ hlp
      have h1 : lb_Mo_fillCommands_14 a1 x2 σ v3 = some z1 := h1
      unfold lb_Mo_fillCommands_14 at h1
      have J163 : ∀ (σ : St) (p3 : Int32) (p4 : Int32) (p5 : Int32) (H : Heap) (locs : List Loc) (ls : Array Slot), Hold D aC A ad n σ H → va_S A s.heap H locs → lv_has ls 7 [(0, .ref (ad 48 0)), (1, .int a1), (2, .int x2), (3, .int p3), (4, .int p4), (5, .int p5)] → jn_Mo_fillCommands_163_3 a1 x2 σ p3 p4 p5 = some z1 → W p l e (headSpec w_Mo_fillCommands rm_Mo_fillCommands).room s m args below meth c H locs 0 0 Q0 (F0 m 163 ls []) := by
        intro σ p3 p4 p5  H locs ls hH hS hl h1
        unfold jn_Mo_fillCommands_163_3 at h1
        refine lv_iload hx hb d_Mo_fillCommands_163 (lv_at hl 4 rfl) ?_
        refine lv_if_le (tgt := 208) hx hb d_Mo_fillCommands_165 (by decide) (fun c165 => ?_) (fun c165 => ?_)
        · have h1 := it h1 c165
          refine lv_aload_n hx hb d_Mo_fillCommands_208 rfl (lv_at hl 0 rfl) ?_
          refine lv_iload hx hb d_Mo_fillCommands_209 (lv_at hl 4 rfl) ?_
          refine lv_iconst (v := 0) hx hb d_Mo_fillCommands_211 (by decide) ?_
          obtain ⟨qc, hc212, h1⟩ := b1_some h1
          obtain ⟨σ10, rfl⟩ : ∃ z, z = qc := ⟨_, rfl⟩
          have h1 := b1_at h1
          refine st_Vv (As := [.int p4, .int 0]) (rest := []) ⟨hx, hb, hml, hown, hg⟩ (c_Mo_tell l D aC A ad n _ p4 0 _ hc212) (cwG hg wd_512 wd_513 wd_514 wd_515 wd_428 yd_Mo_tell ⟨Nat.le_of_ble_eq_true rfl, Nat.le_of_ble_eq_true rfl⟩) hK hH hS hZ hd_48 rfl rfl rfl hl.1 rfl (Nat.le_of_ble_eq_true rfl) d_Mo_fillCommands_212 ⟨Nat.zero_le _, Nat.zero_le _⟩ (fun H locs hH hS => ?_)
          obtain ⟨x11, ex11⟩ : ∃ y : Int32, y = p3 + 1 := ⟨_, rfl⟩
          have h1 := nm_at ex11 h1
          refine lv_iinc (v := x11) (lv' := [(3, .int x11), (0, .ref (ad 48 0)), (1, .int a1), (2, .int x2), (4, .int p4), (5, .int p5)]) hx hb d_Mo_fillCommands_215 hl (k := 3) rfl (by rw [ex11]; rfl) (by decide) rfl (fun ls hl => ?_)
          refine lv_goto (tgt := 14) hx hb d_Mo_fillCommands_218 (by decide) ?_
          cases h1
          exact ih1 σ10 x11 _ _ ls hH hS (lv_sub hl [1, 2, 3, 0] rfl) hk1
        · have h1 := ie h1 c165
          refine lv_iload hx hb d_Mo_fillCommands_168 (lv_at hl 5 rfl) ?_
          refine lv_iconst (v := 3) hx hb d_Mo_fillCommands_170 (by decide) ?_
          refine lv_icmp_lt (tgt := 208) hx hb d_Mo_fillCommands_171 (by decide) (fun c171 => ?_) (fun c171 => ?_)
          · have h1 := it h1 c171
            refine lv_aload_n hx hb d_Mo_fillCommands_208 rfl (lv_at hl 0 rfl) ?_
            refine lv_iload hx hb d_Mo_fillCommands_209 (lv_at hl 4 rfl) ?_
            refine lv_iconst (v := 0) hx hb d_Mo_fillCommands_211 (by decide) ?_
            obtain ⟨qc, hc212, h1⟩ := b1_some h1
            obtain ⟨σ12, rfl⟩ : ∃ z, z = qc := ⟨_, rfl⟩
            have h1 := b1_at h1
            refine st_Vv (As := [.int p4, .int 0]) (rest := []) ⟨hx, hb, hml, hown, hg⟩ (c_Mo_tell l D aC A ad n _ p4 0 _ hc212) (cwG hg wd_512 wd_513 wd_514 wd_515 wd_428 yd_Mo_tell ⟨Nat.le_of_ble_eq_true rfl, Nat.le_of_ble_eq_true rfl⟩) hK hH hS hZ hd_48 rfl rfl rfl hl.1 rfl (Nat.le_of_ble_eq_true rfl) d_Mo_fillCommands_212 ⟨Nat.zero_le _, Nat.zero_le _⟩ (fun H locs hH hS => ?_)
            obtain ⟨x13, ex13⟩ : ∃ y : Int32, y = p3 + 1 := ⟨_, rfl⟩
            have h1 := nm_at ex13 h1
            refine lv_iinc (v := x13) (lv' := [(3, .int x13), (0, .ref (ad 48 0)), (1, .int a1), (2, .int x2), (4, .int p4), (5, .int p5)]) hx hb d_Mo_fillCommands_215 hl (k := 3) rfl (by rw [ex13]; rfl) (by decide) rfl (fun ls hl => ?_)
            refine lv_goto (tgt := 14) hx hb d_Mo_fillCommands_218 (by decide) ?_
            cases h1
            exact ih1 σ12 x13 _ _ ls hH hS (lv_sub hl [1, 2, 3, 0] rfl) hk1
          · have h1 := ie h1 c171
            refine lv_iload hx hb d_Mo_fillCommands_174 (lv_at hl 5 rfl) ?_
            refine lv_bipush (v := 6) hx hb d_Mo_fillCommands_176 (by decide) ?_
            refine lv_icmp_le (tgt := 186) hx hb d_Mo_fillCommands_178 (by decide) (fun c178 => ?_) (fun c178 => ?_)
            · have h1 := it h1 c178
              refine lv_iload hx hb d_Mo_fillCommands_186 (lv_at hl 5 rfl) ?_
              refine lv_istore (lv' := [(5, .int p5), (0, .ref (ad 48 0)), (1, .int a1), (2, .int x2), (3, .int p3), (4, .int p4)]) hx hb d_Mo_fillCommands_188 hl (by decide) rfl (fun ls hl => ?_)
              refine lv_aload_n hx hb d_Mo_fillCommands_190 rfl (lv_at hl 1 rfl) ?_
              refine lv_bipush (v := 16) hx hb d_Mo_fillCommands_191 (by decide) ?_
              refine lv_iload hx hb d_Mo_fillCommands_193 (lv_at hl 0 rfl) ?_
              refine lv_iconst (v := 3) hx hb d_Mo_fillCommands_195 (by decide) ?_
              refine lv_isub hx hb d_Mo_fillCommands_196 ?_
              obtain ⟨qc, hc197, h1⟩ := b1_some h1
              obtain ⟨σ14, rfl⟩ : ∃ z, z = qc := ⟨_, rfl⟩
              have h1 := b1_at h1
              refine st_Vv (As := [.int 16, .int (p5 - 3)]) (rest := []) ⟨hx, hb, hml, hown, hg⟩ (c_Mo_tell l D aC A ad n _ 16 (p5 - 3) _ hc197) (cwG hg wd_512 wd_513 wd_514 wd_515 wd_428 yd_Mo_tell ⟨Nat.le_of_ble_eq_true rfl, Nat.le_of_ble_eq_true rfl⟩) hK hH hS hZ hd_48 rfl rfl rfl hl.1 rfl (Nat.le_of_ble_eq_true rfl) d_Mo_fillCommands_197 ⟨Nat.zero_le _, Nat.zero_le _⟩ (fun H locs hH hS => ?_)
              refine lv_iload_n hx hb d_Mo_fillCommands_200 rfl (lv_at hl 4 rfl) ?_
              refine lv_iload hx hb d_Mo_fillCommands_201 (lv_at hl 0 rfl) ?_
              refine lv_iadd hx hb d_Mo_fillCommands_203 ?_
              refine lv_topi (fun x15 ex15 => ?_)
              have h1 := nm_at ex15 h1
              refine lv_istore_n (lv' := [(3, .int x15), (5, .int p5), (0, .ref (ad 48 0)), (1, .int a1), (2, .int x2), (4, .int p4)]) hx hb d_Mo_fillCommands_204 rfl hl (by decide) rfl (fun ls hl => ?_)
              refine lv_goto (tgt := 218) hx hb d_Mo_fillCommands_205 (by decide) ?_
              refine lv_goto (tgt := 14) hx hb d_Mo_fillCommands_218 (by decide) ?_
              cases h1
              exact ih1 σ14 x15 _ _ ls hH hS (lv_sub hl [2, 3, 4, 0] rfl) hk1
            · have h1 := ie h1 c178
              refine lv_bipush (v := 6) hx hb d_Mo_fillCommands_181 (by decide) ?_
              refine lv_goto (tgt := 188) hx hb d_Mo_fillCommands_183 (by decide) ?_
              refine lv_istore (lv' := [(5, .int 6), (0, .ref (ad 48 0)), (1, .int a1), (2, .int x2), (3, .int p3), (4, .int p4)]) hx hb d_Mo_fillCommands_188 hl (by decide) rfl (fun ls hl => ?_)
              refine lv_aload_n hx hb d_Mo_fillCommands_190 rfl (lv_at hl 1 rfl) ?_
              refine lv_bipush (v := 16) hx hb d_Mo_fillCommands_191 (by decide) ?_
              refine lv_iload hx hb d_Mo_fillCommands_193 (lv_at hl 0 rfl) ?_
              refine lv_iconst (v := 3) hx hb d_Mo_fillCommands_195 (by decide) ?_
              refine lv_isub hx hb d_Mo_fillCommands_196 ?_
              obtain ⟨qc, hc197, h1⟩ := b1_some h1
              obtain ⟨σ16, rfl⟩ : ∃ z, z = qc := ⟨_, rfl⟩
              have h1 := b1_at h1
              refine st_Vv (As := [.int 16, .int (6 - 3)]) (rest := []) ⟨hx, hb, hml, hown, hg⟩ (c_Mo_tell l D aC A ad n _ 16 (6 - 3) _ hc197) (cwG hg wd_512 wd_513 wd_514 wd_515 wd_428 yd_Mo_tell ⟨Nat.le_of_ble_eq_true rfl, Nat.le_of_ble_eq_true rfl⟩) hK hH hS hZ hd_48 rfl rfl rfl hl.1 rfl (Nat.le_of_ble_eq_true rfl) d_Mo_fillCommands_197 ⟨Nat.zero_le _, Nat.zero_le _⟩ (fun H locs hH hS => ?_)
              refine lv_iload_n hx hb d_Mo_fillCommands_200 rfl (lv_at hl 4 rfl) ?_
              refine lv_iload hx hb d_Mo_fillCommands_201 (lv_at hl 0 rfl) ?_
              refine lv_iadd hx hb d_Mo_fillCommands_203 ?_
              refine lv_topi (fun x17 ex17 => ?_)
              have h1 := nm_at ex17 h1
              refine lv_istore_n (lv' := [(3, .int x17), (5, .int 6), (0, .ref (ad 48 0)), (1, .int a1), (2, .int x2), (4, .int p4)]) hx hb d_Mo_fillCommands_204 rfl hl (by decide) rfl (fun ls hl => ?_)
              refine lv_goto (tgt := 218) hx hb d_Mo_fillCommands_205 (by decide) ?_
              refine lv_goto (tgt := 14) hx hb d_Mo_fillCommands_218 (by decide) ?_
              cases h1
              exact ih1 σ16 x17 _ _ ls hH hS (lv_sub hl [2, 3, 4, 0] rfl) hk1
      have J134 : ∀ (σ : St) (p3 : Int32) (p4 : Int32) (p5 : Int32) (H : Heap) (locs : List Loc) (ls : Array Slot), Hold D aC A ad n σ H → va_S A s.heap H locs → lv_has ls 7 [(0, .ref (ad 48 0)), (1, .int a1), (2, .int x2), (3, .int p3), (4, .int p4), (5, .int p5)] → jn_Mo_fillCommands_134_2 a1 x2 σ p3 p4 p5 = some z1 → W p l e (headSpec w_Mo_fillCommands rm_Mo_fillCommands).room s m args below meth c H locs 0 0 Q0 (F0 m 134 ls []) := by
        intro σ p3 p4 p5  H locs ls hH hS hl h1
        unfold jn_Mo_fillCommands_134_2 at h1
        refine lv_iload hx hb d_Mo_fillCommands_134 (lv_at hl 4 rfl) ?_
        refine lv_if_ne (tgt := 163) hx hb d_Mo_fillCommands_136 (by decide) (fun c136 => ?_) (fun c136 => ?_)
        · have h1 := ie h1 c136
          exact J163 σ p3 p4 p5 _ _ ls hH hS (lv_sub hl [0, 1, 2, 3, 4, 5] rfl) h1
        · have h1 := it h1 c136
          refine lv_iload hx hb d_Mo_fillCommands_139 (lv_at hl 5 rfl) ?_
          refine lv_iconst (v := 3) hx hb d_Mo_fillCommands_141 (by decide) ?_
          refine lv_icmp_lt (tgt := 163) hx hb d_Mo_fillCommands_142 (by decide) (fun c142 => ?_) (fun c142 => ?_)
          · have h1 := it h1 c142
            exact J163 σ p3 p4 p5 _ _ ls hH hS (lv_sub hl [0, 1, 2, 3, 4, 5] rfl) h1
          · have h1 := ie h1 c142
            refine lv_aload_n hx hb d_Mo_fillCommands_145 rfl (lv_at hl 0 rfl) ?_
            refine lv_bipush (v := 17) hx hb d_Mo_fillCommands_146 (by decide) ?_
            refine lv_iload hx hb d_Mo_fillCommands_148 (lv_at hl 5 rfl) ?_
            refine lv_iconst (v := 3) hx hb d_Mo_fillCommands_150 (by decide) ?_
            refine lv_isub hx hb d_Mo_fillCommands_151 ?_
            obtain ⟨qc, hc152, h1⟩ := b1_some h1
            obtain ⟨σ18, rfl⟩ : ∃ z, z = qc := ⟨_, rfl⟩
            have h1 := b1_at h1
            refine st_Vv (As := [.int 17, .int (p5 - 3)]) (rest := []) ⟨hx, hb, hml, hown, hg⟩ (c_Mo_tell l D aC A ad n _ 17 (p5 - 3) _ hc152) (cwG hg wd_512 wd_513 wd_514 wd_515 wd_428 yd_Mo_tell ⟨Nat.le_of_ble_eq_true rfl, Nat.le_of_ble_eq_true rfl⟩) hK hH hS hZ hd_48 rfl rfl rfl hl.1 rfl (Nat.le_of_ble_eq_true rfl) d_Mo_fillCommands_152 ⟨Nat.zero_le _, Nat.zero_le _⟩ (fun H locs hH hS => ?_)
            refine lv_iload_n hx hb d_Mo_fillCommands_155 rfl (lv_at hl 3 rfl) ?_
            refine lv_iload hx hb d_Mo_fillCommands_156 (lv_at hl 5 rfl) ?_
            refine lv_iadd hx hb d_Mo_fillCommands_158 ?_
            refine lv_topi (fun x19 ex19 => ?_)
            have h1 := nm_at ex19 h1
            refine lv_istore_n (lv' := [(3, .int x19), (0, .ref (ad 48 0)), (1, .int a1), (2, .int x2), (4, .int p4), (5, .int p5)]) hx hb d_Mo_fillCommands_159 rfl hl (by decide) rfl (fun ls hl => ?_)
            refine lv_goto (tgt := 218) hx hb d_Mo_fillCommands_160 (by decide) ?_
            refine lv_goto (tgt := 14) hx hb d_Mo_fillCommands_218 (by decide) ?_
            cases h1
            exact ih1 σ18 x19 _ _ ls hH hS (lv_sub hl [1, 2, 3, 0] rfl) hk1
      have J55 : ∀ (σ : St) (p3 : Int32) (p4 : Int32) (p5 : Int32) (k0 : Int32) (H : Heap) (locs : List Loc) (ls : Array Slot), Hold D aC A ad n σ H → va_S A s.heap H locs → lv_has ls 7 [(0, .ref (ad 48 0)), (1, .int a1), (2, .int x2), (3, .int p3), (4, .int p4), (5, .int p5)] → jn_Mo_fillCommands_55 a1 x2 σ p3 p4 p5 k0 = some z1 → W p l e (headSpec w_Mo_fillCommands rm_Mo_fillCommands).room s m args below meth c H locs 0 0 Q0 (F0 m 55 ls [.int k0]) := by
        intro σ p3 p4 p5 k0  H locs ls hH hS hl h1
        unfold jn_Mo_fillCommands_55 at h1
        refine lv_istore (lv' := [(6, .int k0), (0, .ref (ad 48 0)), (1, .int a1), (2, .int x2), (3, .int p3), (4, .int p4), (5, .int p5)]) hx hb d_Mo_fillCommands_55 hl (by decide) rfl (fun ls hl => ?_)
        obtain ⟨q2, hq2, h1⟩ := b2_some h1
        have K2 : ∀ (σ8 : St) (x9 : Int32) (H : Heap) (locs : List Loc) (ls : Array Slot), q2 = (σ8, x9) → Hold D aC A ad n σ8 H → va_S A s.heap H locs → lv_has ls 7 [(0, .ref (ad 48 0)), (1, .int a1), (2, .int x2), (3, .int p3), (4, .int p4), (5, .int x9), (6, .int k0)] → W p l e (headSpec w_Mo_fillCommands rm_Mo_fillCommands).room s m args below meth c H locs 0 0 Q0 (F0 m 85 ls []) := by
          intro σ8 x9 H locs ls eq2 hH hS hl
          subst eq2
          have h1 := b2_at h1
          refine lv_iload hx hb d_Mo_fillCommands_85 (lv_at hl 4 rfl) ?_
          refine lv_if_ne (tgt := 134) hx hb d_Mo_fillCommands_87 (by decide) (fun c87 => ?_) (fun c87 => ?_)
          · have h1 := ie h1 c87
            exact J134 σ8 p3 p4 x9 _ _ ls hH hS (lv_sub hl [0, 1, 2, 3, 4, 5] rfl) h1
          · have h1 := it h1 c87
            refine lv_iload hx hb d_Mo_fillCommands_90 (lv_at hl 5 rfl) ?_
            refine lv_bipush (v := 11) hx hb d_Mo_fillCommands_92 (by decide) ?_
            refine lv_icmp_lt (tgt := 134) hx hb d_Mo_fillCommands_94 (by decide) (fun c94 => ?_) (fun c94 => ?_)
            · have h1 := it h1 c94
              exact J134 σ8 p3 p4 x9 _ _ ls hH hS (lv_sub hl [0, 1, 2, 3, 4, 5] rfl) h1
            · have h1 := ie h1 c94
              refine lv_iload hx hb d_Mo_fillCommands_97 (lv_at hl 5 rfl) ?_
              refine lv_sipush (v := 138) hx hb d_Mo_fillCommands_99 (by decide) ?_
              refine lv_icmp_le (tgt := 111) hx hb d_Mo_fillCommands_102 (by decide) (fun c102 => ?_) (fun c102 => ?_)
              · have h1 := it h1 c102
                refine lv_iload hx hb d_Mo_fillCommands_111 (lv_at hl 5 rfl) ?_
                refine lv_istore (lv' := [(5, .int x9), (0, .ref (ad 48 0)), (1, .int a1), (2, .int x2), (3, .int p3), (4, .int p4), (6, .int k0)]) hx hb d_Mo_fillCommands_113 hl (by decide) rfl (fun ls hl => ?_)
                refine lv_aload_n hx hb d_Mo_fillCommands_115 rfl (lv_at hl 1 rfl) ?_
                refine lv_bipush (v := 18) hx hb d_Mo_fillCommands_116 (by decide) ?_
                refine lv_iload hx hb d_Mo_fillCommands_118 (lv_at hl 0 rfl) ?_
                refine lv_bipush (v := 11) hx hb d_Mo_fillCommands_120 (by decide) ?_
                refine lv_isub hx hb d_Mo_fillCommands_122 ?_
                obtain ⟨qc, hc123, h1⟩ := b1_some h1
                obtain ⟨σ20, rfl⟩ : ∃ z, z = qc := ⟨_, rfl⟩
                have h1 := b1_at h1
                refine st_Vv (As := [.int 18, .int (x9 - 11)]) (rest := []) ⟨hx, hb, hml, hown, hg⟩ (c_Mo_tell l D aC A ad n _ 18 (x9 - 11) _ hc123) (cwG hg wd_512 wd_513 wd_514 wd_515 wd_428 yd_Mo_tell ⟨Nat.le_of_ble_eq_true rfl, Nat.le_of_ble_eq_true rfl⟩) hK hH hS hZ hd_48 rfl rfl rfl hl.1 rfl (Nat.le_of_ble_eq_true rfl) d_Mo_fillCommands_123 ⟨Nat.zero_le _, Nat.zero_le _⟩ (fun H locs hH hS => ?_)
                refine lv_iload_n hx hb d_Mo_fillCommands_126 rfl (lv_at hl 4 rfl) ?_
                refine lv_iload hx hb d_Mo_fillCommands_127 (lv_at hl 0 rfl) ?_
                refine lv_iadd hx hb d_Mo_fillCommands_129 ?_
                refine lv_topi (fun x21 ex21 => ?_)
                have h1 := nm_at ex21 h1
                refine lv_istore_n (lv' := [(3, .int x21), (5, .int x9), (0, .ref (ad 48 0)), (1, .int a1), (2, .int x2), (4, .int p4), (6, .int k0)]) hx hb d_Mo_fillCommands_130 rfl hl (by decide) rfl (fun ls hl => ?_)
                refine lv_goto (tgt := 218) hx hb d_Mo_fillCommands_131 (by decide) ?_
                refine lv_goto (tgt := 14) hx hb d_Mo_fillCommands_218 (by decide) ?_
                cases h1
                exact ih1 σ20 x21 _ _ ls hH hS (lv_sub hl [2, 3, 4, 0] rfl) hk1
              · have h1 := ie h1 c102
                refine lv_sipush (v := 138) hx hb d_Mo_fillCommands_105 (by decide) ?_
                refine lv_goto (tgt := 113) hx hb d_Mo_fillCommands_108 (by decide) ?_
                refine lv_istore (lv' := [(5, .int 138), (0, .ref (ad 48 0)), (1, .int a1), (2, .int x2), (3, .int p3), (4, .int p4), (6, .int k0)]) hx hb d_Mo_fillCommands_113 hl (by decide) rfl (fun ls hl => ?_)
                refine lv_aload_n hx hb d_Mo_fillCommands_115 rfl (lv_at hl 1 rfl) ?_
                refine lv_bipush (v := 18) hx hb d_Mo_fillCommands_116 (by decide) ?_
                refine lv_iload hx hb d_Mo_fillCommands_118 (lv_at hl 0 rfl) ?_
                refine lv_bipush (v := 11) hx hb d_Mo_fillCommands_120 (by decide) ?_
                refine lv_isub hx hb d_Mo_fillCommands_122 ?_
                obtain ⟨qc, hc123, h1⟩ := b1_some h1
                obtain ⟨σ22, rfl⟩ : ∃ z, z = qc := ⟨_, rfl⟩
                have h1 := b1_at h1
                refine st_Vv (As := [.int 18, .int (138 - 11)]) (rest := []) ⟨hx, hb, hml, hown, hg⟩ (c_Mo_tell l D aC A ad n _ 18 (138 - 11) _ hc123) (cwG hg wd_512 wd_513 wd_514 wd_515 wd_428 yd_Mo_tell ⟨Nat.le_of_ble_eq_true rfl, Nat.le_of_ble_eq_true rfl⟩) hK hH hS hZ hd_48 rfl rfl rfl hl.1 rfl (Nat.le_of_ble_eq_true rfl) d_Mo_fillCommands_123 ⟨Nat.zero_le _, Nat.zero_le _⟩ (fun H locs hH hS => ?_)
                refine lv_iload_n hx hb d_Mo_fillCommands_126 rfl (lv_at hl 4 rfl) ?_
                refine lv_iload hx hb d_Mo_fillCommands_127 (lv_at hl 0 rfl) ?_
                refine lv_iadd hx hb d_Mo_fillCommands_129 ?_
                refine lv_topi (fun x23 ex23 => ?_)
                have h1 := nm_at ex23 h1
                refine lv_istore_n (lv' := [(3, .int x23), (5, .int 138), (0, .ref (ad 48 0)), (1, .int a1), (2, .int x2), (4, .int p4), (6, .int k0)]) hx hb d_Mo_fillCommands_130 rfl hl (by decide) rfl (fun ls hl => ?_)
                refine lv_goto (tgt := 218) hx hb d_Mo_fillCommands_131 (by decide) ?_
                refine lv_goto (tgt := 14) hx hb d_Mo_fillCommands_218 (by decide) ?_
                cases h1
                exact ih1 σ22 x23 _ _ ls hH hS (lv_sub hl [2, 3, 4, 0] rfl) hk1
        have loop2 : ∀ (k : Nat) (σ : St) (v5 : Int32) (H : Heap) (locs : List Loc) (ls : Array Slot), Hold D aC A ad n σ H → va_S A s.heap H locs → lv_has ls 7 [(0, .ref (ad 48 0)), (1, .int a1), (2, .int x2), (3, .int p3), (4, .int p4), (5, .int v5), (6, .int k0)] → lp (fun q => lb_Mo_fillCommands_57 a1 x2 p3 p4 k0 q.1 q.2) k (σ, v5) = some q2 → W p l e (headSpec w_Mo_fillCommands rm_Mo_fillCommands).room s m args below meth c H locs 0 0 Q0 (F0 m 57 ls []) := by
          intro k
          induction k with
          | zero => intro σ v5 H locs ls hH hS hl hlp; exact absurd hlp (lp_zero _ _ _)
          | succ k ih2 =>
            intro σ v5 H locs ls hH hS hl hlp
            obtain ⟨z2, h2, hk2⟩ := lp_succ hlp
            have h2 : lb_Mo_fillCommands_57 a1 x2 p3 p4 k0 σ v5 = some z2 := h2
            unfold lb_Mo_fillCommands_57 at h2
            refine lv_iload_n hx hb d_Mo_fillCommands_57 rfl (lv_at hl 3 rfl) ?_
            refine lv_iload hx hb d_Mo_fillCommands_58 (lv_at hl 5 rfl) ?_
            refine lv_iadd hx hb d_Mo_fillCommands_60 ?_
            refine lv_iload_n hx hb d_Mo_fillCommands_61 rfl (lv_at hl 2 rfl) ?_
            refine lv_icmp_ge (tgt := 85) hx hb d_Mo_fillCommands_62 (by decide) (fun c62 => ?_) (fun c62 => ?_)
            · have h2 := it h2 c62
              cases h2
              exact K2 σ v5 _ _ ls (Option.some.inj hk2).symm hH hS (lv_sub hl [0, 1, 2, 3, 4, 5, 6] rfl)
            · have h2 := ie h2 c62
              refine lv_aload_n hx hb d_Mo_fillCommands_65 rfl (lv_at hl 0 rfl) ?_
              refine lv_iload_n hx hb d_Mo_fillCommands_66 rfl (lv_at hl 1 rfl) ?_
              refine lv_iload_n hx hb d_Mo_fillCommands_67 rfl (lv_at hl 3 rfl) ?_
              refine lv_iload hx hb d_Mo_fillCommands_68 (lv_at hl 5 rfl) ?_
              refine lv_iadd hx hb d_Mo_fillCommands_70 ?_
              obtain ⟨qc, hc71, h2⟩ := b2_some h2
              obtain ⟨σ5, x6⟩ := qc
              have h2 := b2_at h2
              refine st_Vi (As := [.int a1, .int (p3 + v5)]) (rest := []) ⟨hx, hb, hml, hown, hg⟩ (c_Mo_lengthOf l D aC A ad n _ a1 (p3 + v5) _ hc71) (cwG hg wd_440 wd_441 wd_442 wd_443 wd_428 yd_Mo_lengthOf ⟨Nat.le_of_ble_eq_true rfl, Nat.le_of_ble_eq_true rfl⟩) hK hH hS hZ hd_48 rfl rfl rfl hl.1 rfl (Nat.le_of_ble_eq_true rfl) d_Mo_fillCommands_71 ⟨Nat.zero_le _, Nat.zero_le _⟩ (fun H locs hH hS => ?_)
              refine lv_iload hx hb d_Mo_fillCommands_74 (lv_at hl 6 rfl) ?_
              refine lv_icmp_ne (tgt := 85) hx hb d_Mo_fillCommands_76 (by decide) (fun c76 => ?_) (fun c76 => ?_)
              · have h2 := ie h2 c76
                cases h2
                exact K2 σ5 v5 _ _ ls (Option.some.inj hk2).symm hH hS (lv_sub hl [0, 1, 2, 3, 4, 5, 6] rfl)
              · have h2 := it h2 c76
                obtain ⟨x7, ex7⟩ : ∃ y : Int32, y = v5 + 1 := ⟨_, rfl⟩
                have h2 := nm_at ex7 h2
                refine lv_iinc (v := x7) (lv' := [(5, .int x7), (0, .ref (ad 48 0)), (1, .int a1), (2, .int x2), (3, .int p3), (4, .int p4), (6, .int k0)]) hx hb d_Mo_fillCommands_79 hl (k := 5) rfl (by rw [ex7]; rfl) (by decide) rfl (fun ls hl => ?_)
                refine lv_goto (tgt := 57) hx hb d_Mo_fillCommands_82 (by decide) ?_
                cases h2
                exact ih2 σ5 x7 _ _ ls hH hS (lv_sub hl [1, 2, 3, 4, 5, 0, 6] rfl) hk2
        obtain ⟨k2, hq2⟩ := lpE_some hq2
        exact loop2 k2 σ p5 _ _ ls hH hS (lv_sub hl [1, 2, 3, 4, 5, 6, 0] rfl) hq2
      refine lv_iload_n hx hb d_Mo_fillCommands_14 rfl (lv_at hl 3 rfl) ?_
      refine lv_iload_n hx hb d_Mo_fillCommands_15 rfl (lv_at hl 2 rfl) ?_
      refine lv_icmp_ge (tgt := 221) hx hb d_Mo_fillCommands_16 (by decide) (fun c16 => ?_) (fun c16 => ?_)
      · have h1 := it h1 c16
        cases h1
        exact K1 σ v3 _ _ ls (Option.some.inj hk1).symm hH hS (lv_sub hl [0, 1, 2, 3] rfl)
      · have h1 := ie h1 c16
        refine lv_aload_n hx hb d_Mo_fillCommands_19 rfl (lv_at hl 0 rfl) ?_
        refine lv_iload_n hx hb d_Mo_fillCommands_20 rfl (lv_at hl 1 rfl) ?_
        refine lv_iload_n hx hb d_Mo_fillCommands_21 rfl (lv_at hl 3 rfl) ?_
        obtain ⟨qc, hc22, h1⟩ := b2_some h1
        obtain ⟨σ3, x4⟩ := qc
        have h1 := b2_at h1
        refine st_Vi (As := [.int a1, .int v3]) (rest := []) ⟨hx, hb, hml, hown, hg⟩ (c_Mo_lengthOf l D aC A ad n _ a1 v3 _ hc22) (cwG hg wd_440 wd_441 wd_442 wd_443 wd_428 yd_Mo_lengthOf ⟨Nat.le_of_ble_eq_true rfl, Nat.le_of_ble_eq_true rfl⟩) hK hH hS hZ hd_48 rfl rfl rfl hl.1 rfl (Nat.le_of_ble_eq_true rfl) d_Mo_fillCommands_22 ⟨Nat.zero_le _, Nat.zero_le _⟩ (fun H locs hH hS => ?_)
        refine lv_istore (lv' := [(4, .int x4), (0, .ref (ad 48 0)), (1, .int a1), (2, .int x2), (3, .int v3)]) hx hb d_Mo_fillCommands_25 hl (by decide) rfl (fun ls hl => ?_)
        refine lv_iconst (v := 0) hx hb d_Mo_fillCommands_27 (by decide) ?_
        refine lv_istore (lv' := [(5, .int 0), (4, .int x4), (0, .ref (ad 48 0)), (1, .int a1), (2, .int x2), (3, .int v3)]) hx hb d_Mo_fillCommands_28 hl (by decide) rfl (fun ls hl => ?_)
        refine lv_iload hx hb d_Mo_fillCommands_30 (lv_at hl 1 rfl) ?_
        refine lv_if_ne (tgt := 39) hx hb d_Mo_fillCommands_32 (by decide) (fun c32 => ?_) (fun c32 => ?_)
        · have h1 := ie h1 c32
          refine lv_iload_n hx hb d_Mo_fillCommands_39 rfl (lv_at hl 5 rfl) ?_
          refine lv_if_le (tgt := 54) hx hb d_Mo_fillCommands_40 (by decide) (fun c40 => ?_) (fun c40 => ?_)
          · have h1 := it h1 c40
            refine lv_iconst (v := (-1)) hx hb d_Mo_fillCommands_54 (by decide) ?_
            exact J55 σ3 v3 x4 0 (-1) _ _ ls hH hS (lv_sub hl [2, 3, 4, 5, 1, 0] rfl) h1
          · have h1 := ie h1 c40
            refine lv_aload_n hx hb d_Mo_fillCommands_43 rfl (lv_at hl 2 rfl) ?_
            refine lv_iload_n hx hb d_Mo_fillCommands_44 rfl (lv_at hl 3 rfl) ?_
            refine lv_iload_n hx hb d_Mo_fillCommands_45 rfl (lv_at hl 5 rfl) ?_
            refine lv_iconst (v := 1) hx hb d_Mo_fillCommands_46 (by decide) ?_
            refine lv_isub hx hb d_Mo_fillCommands_47 ?_
            obtain ⟨qc, hc48, h1⟩ := b2_some h1
            obtain ⟨σ24, x25⟩ := qc
            have h1 := b2_at h1
            refine st_Vi (As := [.int a1, .int (v3 - 1)]) (rest := []) ⟨hx, hb, hml, hown, hg⟩ (c_Mo_lengthOf l D aC A ad n _ a1 (v3 - 1) _ hc48) (cwG hg wd_440 wd_441 wd_442 wd_443 wd_428 yd_Mo_lengthOf ⟨Nat.le_of_ble_eq_true rfl, Nat.le_of_ble_eq_true rfl⟩) hK hH hS hZ hd_48 rfl rfl rfl hl.1 rfl (Nat.le_of_ble_eq_true rfl) d_Mo_fillCommands_48 ⟨Nat.zero_le _, Nat.zero_le _⟩ (fun H locs hH hS => ?_)
            refine lv_goto (tgt := 55) hx hb d_Mo_fillCommands_51 (by decide) ?_
            exact J55 σ24 v3 x4 0 x25 _ _ ls hH hS (lv_sub hl [2, 3, 4, 5, 1, 0] rfl) h1
        · have h1 := it h1 c32
          refine lv_iconst (v := 0) hx hb d_Mo_fillCommands_35 (by decide) ?_
          refine lv_goto (tgt := 55) hx hb d_Mo_fillCommands_36 (by decide) ?_
          exact J55 σ3 v3 x4 0 0 _ _ ls hH hS (lv_sub hl [2, 3, 4, 5, 1, 0] rfl) h1
  obtain ⟨k1, hq1⟩ := lpE_some hq1
  exact loop1 k1 σ1 0 _ _ ls hH hS (lv_sub hl [2, 3, 1, 0] rfl) hq1
set_option maxHeartbeats 4000000 in
set_option maxRecDepth 100000 in
theorem c_Mo_runs (l : Launch) (D : va_G) (aC : Nat → ClassId) (A : Nat → Prop) (ad : Nat → Nat → Nat) (n : Nat) (σ : St) (a1 : Int32) (a2 : Int32) (o : St × Int32) (h : f_Mo_runs σ a1 a2 = some o) : Met l y_Mo_runs w_Mo_runs rm_Mo_runs (va_Pc [.ref (ad 48 0), .int a1, .int a2] (Pre D aC A ad n σ)) (va_Qi (fun r (_ : Unit) => r = o.2) (fun _ t => Hold D aC A ad n o.1 t.heap) A) 0 0 A := by
  refine Met.ofW (cc := prog_13_method_39_code) (maxL := 8) (ret := (some .int)) (by decide) rfl ?_
  intro p e s m args below meth c s₁ B hml hv
  obtain ⟨hargs, hH, hK, hZ⟩ := hv
  have hx := B.exec
  have hb := B.bytes
  have hr := B.returns
  have hts := atoms_spec (ws := w_Mo_runs) B.pre
  have hg : ∀ w ∈ gW, w.before args s = true := fun w h => hts w (List.mem_cons_of_mem _ h)
  have hown : s.vm.findClass "PrefixCodesModel" = some m.cls := findClass_of_methodNamed B.named
  have hlocks := B.notSynchronized
  have hS : va_S A s.heap s.heap [] := va_S.rf
  have hl := lv_entry ([.ref (ad 48 0), .int a1, .int a2]) (n := 8) (Nat.le_of_ble_eq_true rfl)
  rw [show entryFrame m args 8 = entryFrame m (([.ref (ad 48 0), .int a1, .int a2] : List Value).toArray) 8 by rw [hargs], lg_entry_eq]
  generalize (lg_sl ([.ref (ad 48 0), .int a1, .int a2]) ++ List.replicate (8 - (lg_sl ([.ref (ad 48 0), .int a1, .int a2])).length) Slot.unset).toArray = ls at hl ⊢
  have hl : lv_has ls 8 [(0, .ref (ad 48 0)), (1, .int a1), (2, .int a2)] := hl
  generalize hQ0 : MQ below (va_Qi (fun r (_ : Unit) => r = o.2) (fun _ t => Hold D aC A ad n o.1 t.heap) A) args s 0 0 A = Q0
  unfold f_Mo_runs at h
  refine lv_aload_n hx hb d_Mo_runs_0 rfl (lv_at hl 0 rfl) ?_
  refine lv_iload_n hx hb d_Mo_runs_1 rfl (lv_at hl 1 rfl) ?_
  obtain ⟨qc, hc2, h⟩ := b1_some h
  obtain ⟨σ1, rfl⟩ : ∃ z, z = qc := ⟨_, rfl⟩
  have h := b1_at h
  refine st_Vv (As := [.int a1]) (rest := []) ⟨hx, hb, hml, hown, hg⟩ (c_Mo_fillCommands l D aC A ad n _ a1 _ hc2) (cwG hg wd_516 wd_517 wd_518 wd_519 wd_428 yd_Mo_fillCommands ⟨Nat.le_of_ble_eq_true rfl, Nat.le_of_ble_eq_true rfl⟩) hK hH hS hZ hd_48 rfl rfl rfl hl.1 rfl (Nat.le_of_ble_eq_true rfl) d_Mo_runs_2 ⟨Nat.zero_le _, Nat.zero_le _⟩ (fun H locs hH hS => ?_)
  refine lv_iconst (v := 0) hx hb d_Mo_runs_5 (by decide) ?_
  refine lv_istore_n (lv' := [(3, .int 0), (0, .ref (ad 48 0)), (1, .int a1), (2, .int a2)]) hx hb d_Mo_runs_6 rfl hl (by decide) rfl (fun ls hl => ?_)
  obtain ⟨q1, hq1, h⟩ := b2_some h
  have K1 : ∀ (σ4 : St) (x5 : Int32) (H : Heap) (locs : List Loc) (ls : Array Slot), q1 = (σ4, x5) → Hold D aC A ad n σ4 H → va_S A s.heap H locs → lv_has ls 8 [(0, .ref (ad 48 0)), (2, .int a2), (3, .int x5)] → W p l e (headSpec w_Mo_runs rm_Mo_runs).room s m args below meth c H locs 0 0 Q0 (F0 m 26 ls []) := by
    intro σ4 x5 H locs ls eq1 hH hS hl
    subst eq1
    have h := b2_at h
    refine lv_iconst (v := 0) hx hb d_Mo_runs_26 (by decide) ?_
    refine lv_istore_n (lv' := [(3, .int 0), (0, .ref (ad 48 0)), (2, .int a2)]) hx hb d_Mo_runs_27 rfl hl (by decide) rfl (fun ls hl => ?_)
    obtain ⟨q1, hq1, h⟩ := b2_some h
    have K1 : ∀ (σ8 : St) (x9 : Int32) (H : Heap) (locs : List Loc) (ls : Array Slot), q1 = (σ8, x9) → Hold D aC A ad n σ8 H → va_S A s.heap H locs → lv_has ls 8 [(0, .ref (ad 48 0)), (2, .int a2), (3, .int x9)] → W p l e (headSpec w_Mo_runs rm_Mo_runs).room s m args below meth c H locs 0 0 Q0 (F0 m 57 ls []) := by
      intro σ8 x9 H locs ls eq1 hH hS hl
      subst eq1
      have h := b2_at h
      refine lv_aload_n hx hb d_Mo_runs_57 rfl (lv_at hl 0 rfl) ?_
      refine st_get hx hb hg hown hK hH (f := 48) (i := 0) hd_48 rfl rfl u_Mo 2 (by decide) (hg _ wd_425) (v := .ref (ad 49 0)) rfl d_Mo_runs_58 ?_
      refine lv_bipush (v := 12) hx hb d_Mo_runs_61 (by decide) ?_
      refine lv_bipush (v := 19) hx hb d_Mo_runs_63 (by decide) ?_
      obtain ⟨g65, h⟩ := gd_some h
      refine st_iast hx hb hK hH hS (f := 49) (i := 0) hd_49 rfl g65 d_Mo_runs_65 (fun σ10 H locs eσ10 hH hS => ?_)
      have h := nm_at eσ10 h
      refine lv_aload_n hx hb d_Mo_runs_66 rfl (lv_at hl 0 rfl) ?_
      refine lv_bipush (v := 12) hx hb d_Mo_runs_67 (by decide) ?_
      refine lv_bipush (v := 19) hx hb d_Mo_runs_69 (by decide) ?_
      refine lv_bipush (v := 7) hx hb d_Mo_runs_71 (by decide) ?_
      obtain ⟨qc, hc73, h⟩ := b1_some h
      obtain ⟨σ11, rfl⟩ : ∃ z, z = qc := ⟨_, rfl⟩
      have h := b1_at h
      refine st_Vv (As := [.int 12, .int 19, .int 7]) (rest := []) ⟨hx, hb, hml, hown, hg⟩ (c_Mo_packages l D aC A ad n _ 12 19 7 _ hc73) (cwG hg wd_484 wd_485 wd_486 wd_487 wd_428 yd_Mo_packages ⟨Nat.le_of_ble_eq_true rfl, Nat.le_of_ble_eq_true rfl⟩) hK hH hS hZ hd_48 rfl rfl rfl hl.1 rfl (Nat.le_of_ble_eq_true rfl) d_Mo_runs_73 ⟨Nat.zero_le _, Nat.zero_le _⟩ (fun H locs hH hS => ?_)
      refine lv_bipush (v := 19) hx hb d_Mo_runs_76 (by decide) ?_
      refine lv_istore_n (lv' := [(3, .int 19), (0, .ref (ad 48 0)), (2, .int a2)]) hx hb d_Mo_runs_78 rfl hl (by decide) rfl (fun ls hl => ?_)
      obtain ⟨q1, hq1, h⟩ := b2_some h
      have K1 : ∀ (σ15 : St) (x16 : Int32) (H : Heap) (locs : List Loc) (ls : Array Slot), q1 = (σ15, x16) → Hold D aC A ad n σ15 H → va_S A s.heap H locs → lv_has ls 8 [(0, .ref (ad 48 0)), (2, .int a2), (3, .int x16)] → W p l e (headSpec w_Mo_runs rm_Mo_runs).room s m args below meth c H locs 0 0 Q0 (F0 m 108 ls []) := by
        intro σ15 x16 H locs ls eq1 hH hS hl
        subst eq1
        have h := b2_at h
        refine lv_iconst (v := 4) hx hb d_Mo_runs_108 (by decide) ?_
        refine lv_iconst (v := 3) hx hb d_Mo_runs_109 (by decide) ?_
        refine lv_iload_n hx hb d_Mo_runs_110 rfl (lv_at hl 2 rfl) ?_
        refine lv_imul hx hb d_Mo_runs_111 ?_
        refine lv_iadd hx hb d_Mo_runs_112 ?_
        refine lv_topi (fun x17 ex17 => ?_)
        have h := nm_at ex17 h
        refine lv_istore (lv' := [(4, .int x17), (0, .ref (ad 48 0)), (2, .int a2), (3, .int x16)]) hx hb d_Mo_runs_113 hl (by decide) rfl (fun ls hl => ?_)
        refine lv_iload_n hx hb d_Mo_runs_115 rfl (lv_at hl 2 rfl) ?_
        refine lv_if_eq (tgt := 161) hx hb d_Mo_runs_116 (by decide) (fun c116 => ?_) (fun c116 => ?_)
        · have h := it h c116
          refine lv_iconst (v := 0) hx hb d_Mo_runs_161 (by decide) ?_
          refine lv_istore (lv' := [(5, .int 0), (4, .int x17), (0, .ref (ad 48 0)), (2, .int a2), (3, .int x16)]) hx hb d_Mo_runs_162 hl (by decide) rfl (fun ls hl => ?_)
          obtain ⟨q1, hq1, h⟩ := b3_some h
          have K1 : ∀ (σ34 : St) (x35 : Int32) (x36 : Int32) (H : Heap) (locs : List Loc) (ls : Array Slot), q1 = (σ34, x35, x36) → Hold D aC A ad n σ34 H → va_S A s.heap H locs → lv_has ls 8 [(0, .ref (ad 48 0)), (2, .int a2), (4, .int x35), (5, .int x36)] → W p l e (headSpec w_Mo_runs rm_Mo_runs).room s m args below meth c H locs 0 0 Q0 (F0 m 256 ls []) := by
            intro σ34 x35 x36 H locs ls eq1 hH hS hl
            subst eq1
            have h := b3_at h
            refine lv_iload hx hb d_Mo_runs_256 (lv_at hl 2 rfl) ?_
            cases h
            rw [← hQ0]
            exact W.iret hx hb hr (fun t ht hW => ⟨⟨_, (), rfl, rfl, by dsimp only; rw [ht]; exact hH⟩, hS.F ht⟩) hS.2.2 d_Mo_runs_258
          have loop1 : ∀ (k : Nat) (σ : St) (v4 : Int32) (v5 : Int32) (H : Heap) (locs : List Loc) (ls : Array Slot), Hold D aC A ad n σ H → va_S A s.heap H locs → lv_has ls 8 [(0, .ref (ad 48 0)), (2, .int a2), (4, .int v4), (5, .int v5)] → lp (fun q => lb_Mo_runs_164 a2 q.1 q.2.1 q.2.2) k (σ, v4, v5) = some q1 → W p l e (headSpec w_Mo_runs rm_Mo_runs).room s m args below meth c H locs 0 0 Q0 (F0 m 164 ls []) := by
            intro k
            induction k with
            | zero => intro σ v4 v5 H locs ls hH hS hl hlp; exact absurd hlp (lp_zero _ _ _)
            | succ k ih1 =>
              intro σ v4 v5 H locs ls hH hS hl hlp
              obtain ⟨z1, h1, hk1⟩ := lp_succ hlp
              have h1 : lb_Mo_runs_164 a2 σ v4 v5 = some z1 := h1
              unfold lb_Mo_runs_164 at h1
              refine lv_iload hx hb d_Mo_runs_164 (lv_at hl 3 rfl) ?_
              refine lv_aload_n hx hb d_Mo_runs_166 rfl (lv_at hl 0 rfl) ?_
              refine st_get hx hb hg hown hK hH (f := 48) (i := 0) hd_48 rfl rfl u_Mo 15 (by decide) (hg _ wd_510) (v := .int (σ.1 48 0 15)) rfl d_Mo_runs_167 ?_
              refine lv_icmp_ge (tgt := 256) hx hb d_Mo_runs_170 (by decide) (fun c170 => ?_) (fun c170 => ?_)
              · have h1 := it h1 c170
                cases h1
                exact K1 σ v4 v5 _ _ ls (Option.some.inj hk1).symm hH hS (lv_sub hl [0, 1, 2, 3] rfl)
              · have h1 := ie h1 c170
                refine lv_aload_n hx hb d_Mo_runs_173 rfl (lv_at hl 0 rfl) ?_
                refine st_get hx hb hg hown hK hH (f := 48) (i := 0) hd_48 rfl rfl u_Mo 13 (by decide) (hg _ wd_509) (v := .ref (ad 58 0)) rfl d_Mo_runs_174 ?_
                refine lv_iload hx hb d_Mo_runs_177 (lv_at hl 3 rfl) ?_
                obtain ⟨g179, h1⟩ := gd_some h1
                refine st_iald hx hb hK hH (f := 58) (i := 0) hd_58 rfl g179 d_Mo_runs_179 ?_
                refine lv_topi (fun x18 ex18 => ?_)
                have h1 := nm_at ex18 h1
                refine lv_istore (lv' := [(6, .int x18), (0, .ref (ad 48 0)), (2, .int a2), (4, .int v4), (5, .int v5)]) hx hb d_Mo_runs_180 hl (by decide) rfl (fun ls hl => ?_)
                refine lv_aload_n hx hb d_Mo_runs_182 rfl (lv_at hl 1 rfl) ?_
                refine st_get hx hb hg hown hK hH (f := 48) (i := 0) hd_48 rfl rfl u_Mo 3 (by decide) (hg _ wd_431) (v := .ref (ad 50 0)) rfl d_Mo_runs_183 ?_
                refine lv_sipush (v := 768) hx hb d_Mo_runs_186 (by decide) ?_
                refine lv_iload hx hb d_Mo_runs_189 (lv_at hl 0 rfl) ?_
                refine lv_iadd hx hb d_Mo_runs_191 ?_
                obtain ⟨g192, h1⟩ := gd_some h1
                refine st_iald hx hb hK hH (f := 50) (i := 0) hd_50 rfl g192 d_Mo_runs_192 ?_
                refine lv_topi (fun x19 ex19 => ?_)
                have h1 := nm_at ex19 h1
                refine lv_istore (lv' := [(7, .int x19), (6, .int x18), (0, .ref (ad 48 0)), (2, .int a2), (4, .int v4), (5, .int v5)]) hx hb d_Mo_runs_193 hl (by decide) rfl (fun ls hl => ?_)
                refine lv_iload hx hb d_Mo_runs_195 (lv_at hl 4 rfl) ?_
                refine lv_iload hx hb d_Mo_runs_197 (lv_at hl 0 rfl) ?_
                refine lv_iload hx hb d_Mo_runs_199 (lv_at hl 1 rfl) ?_
                obtain ⟨qc, hc201, h1⟩ := b2_some h1
                obtain ⟨σ20, x21⟩ := qc
                have h1 := b2_at h1
                refine st_Si (As := [.int x18]) (rest := [.int x19, .int v4]) ⟨hx, hb, hml, hown, hg⟩ (c_Mo_extra l D aC A ad n _ x18 _ hc201) (cwGS hg wd_520 wd_521 wd_522 wd_428 yd_Mo_extra ⟨Nat.le_of_ble_eq_true rfl, Nat.le_of_ble_eq_true rfl⟩) hK hH hS hZ rfl hl.1 rfl (Nat.le_of_ble_eq_true rfl) d_Mo_runs_201 ⟨Nat.zero_le _, Nat.zero_le _⟩ (fun H locs hH hS => ?_)
                refine lv_iadd hx hb d_Mo_runs_204 ?_
                refine lv_iadd hx hb d_Mo_runs_205 ?_
                refine lv_topi (fun x22 ex22 => ?_)
                have h1 := nm_at ex22 h1
                refine lv_istore (lv' := [(4, .int x22), (7, .int x19), (6, .int x18), (0, .ref (ad 48 0)), (2, .int a2), (5, .int v5)]) hx hb d_Mo_runs_206 hl (by decide) rfl (fun ls hl => ?_)
                refine lv_iload_n hx hb d_Mo_runs_208 rfl (lv_at hl 4 rfl) ?_
                refine lv_if_eq (tgt := 250) hx hb d_Mo_runs_209 (by decide) (fun c209 => ?_) (fun c209 => ?_)
                · have h1 := it h1 c209
                  obtain ⟨x23, ex23⟩ : ∃ y : Int32, y = v5 + 1 := ⟨_, rfl⟩
                  have h1 := nm_at ex23 h1
                  refine lv_iinc (v := x23) (lv' := [(5, .int x23), (4, .int x22), (7, .int x19), (6, .int x18), (0, .ref (ad 48 0)), (2, .int a2)]) hx hb d_Mo_runs_250 hl (k := 5) rfl (by rw [ex23]; rfl) (by decide) rfl (fun ls hl => ?_)
                  refine lv_goto (tgt := 164) hx hb d_Mo_runs_253 (by decide) ?_
                  cases h1
                  exact ih1 σ20 x22 x23 _ _ ls hH hS (lv_sub hl [4, 5, 1, 0] rfl) hk1
                · have h1 := ie h1 c209
                  refine lv_aload_n hx hb d_Mo_runs_212 rfl (lv_at hl 3 rfl) ?_
                  refine lv_aload_n hx hb d_Mo_runs_213 rfl (lv_at hl 3 rfl) ?_
                  refine lv_bipush (v := 12) hx hb d_Mo_runs_214 (by decide) ?_
                  refine lv_iload hx hb d_Mo_runs_216 (lv_at hl 2 rfl) ?_
                  obtain ⟨qc, hc218, h1⟩ := b2_some h1
                  obtain ⟨σ24, x25⟩ := qc
                  have h1 := b2_at h1
                  refine st_Vi (As := [.int 12, .int x18]) (rest := [.ref (ad 48 0)]) ⟨hx, hb, hml, hown, hg⟩ (c_Mo_wordOf l D aC A ad n _ 12 x18 _ hc218) (cwG hg wd_461 wd_462 wd_463 wd_464 wd_428 yd_Mo_wordOf ⟨Nat.le_of_ble_eq_true rfl, Nat.le_of_ble_eq_true rfl⟩) hK hH hS hZ hd_48 rfl rfl rfl hl.1 rfl (Nat.le_of_ble_eq_true rfl) d_Mo_runs_218 ⟨Nat.zero_le _, Nat.zero_le _⟩ (fun H locs hH hS => ?_)
                  refine lv_iload hx hb d_Mo_runs_221 (lv_at hl 1 rfl) ?_
                  obtain ⟨qc, hc223, h1⟩ := b1_some h1
                  obtain ⟨σ26, rfl⟩ : ∃ z, z = qc := ⟨_, rfl⟩
                  have h1 := b1_at h1
                  refine st_Vv (As := [.int x25, .int x19]) (rest := []) ⟨hx, hb, hml, hown, hg⟩ (c_Mo_putBits l D aC A ad n _ x25 x19 _ hc223) (cwG hg wd_497 wd_498 wd_499 wd_500 wd_428 yd_Mo_putBits ⟨Nat.le_of_ble_eq_true rfl, Nat.le_of_ble_eq_true rfl⟩) hK hH hS hZ hd_48 rfl rfl rfl hl.1 rfl (Nat.le_of_ble_eq_true rfl) d_Mo_runs_223 ⟨Nat.zero_le _, Nat.zero_le _⟩ (fun H locs hH hS => ?_)
                  refine lv_iload hx hb d_Mo_runs_226 (lv_at hl 2 rfl) ?_
                  obtain ⟨qc, hc228, h1⟩ := b2_some h1
                  obtain ⟨σ27, x28⟩ := qc
                  have h1 := b2_at h1
                  refine st_Si (As := [.int x18]) (rest := []) ⟨hx, hb, hml, hown, hg⟩ (c_Mo_extra l D aC A ad n _ x18 _ hc228) (cwGS hg wd_520 wd_521 wd_522 wd_428 yd_Mo_extra ⟨Nat.le_of_ble_eq_true rfl, Nat.le_of_ble_eq_true rfl⟩) hK hH hS hZ rfl hl.1 rfl (Nat.le_of_ble_eq_true rfl) d_Mo_runs_228 ⟨Nat.zero_le _, Nat.zero_le _⟩ (fun H locs hH hS => ?_)
                  refine lv_if_le (tgt := 250) hx hb d_Mo_runs_231 (by decide) (fun c231 => ?_) (fun c231 => ?_)
                  · have h1 := it h1 c231
                    obtain ⟨x29, ex29⟩ : ∃ y : Int32, y = v5 + 1 := ⟨_, rfl⟩
                    have h1 := nm_at ex29 h1
                    refine lv_iinc (v := x29) (lv' := [(5, .int x29), (4, .int x22), (7, .int x19), (6, .int x18), (0, .ref (ad 48 0)), (2, .int a2)]) hx hb d_Mo_runs_250 hl (k := 5) rfl (by rw [ex29]; rfl) (by decide) rfl (fun ls hl => ?_)
                    refine lv_goto (tgt := 164) hx hb d_Mo_runs_253 (by decide) ?_
                    cases h1
                    exact ih1 σ27 x22 x29 _ _ ls hH hS (lv_sub hl [4, 5, 1, 0] rfl) hk1
                  · have h1 := ie h1 c231
                    refine lv_aload_n hx hb d_Mo_runs_234 rfl (lv_at hl 3 rfl) ?_
                    refine lv_aload_n hx hb d_Mo_runs_235 rfl (lv_at hl 3 rfl) ?_
                    refine st_get hx hb hg hown hK hH (f := 48) (i := 0) hd_48 rfl rfl u_Mo 14 (by decide) (hg _ wd_511) (v := .ref (ad 59 0)) rfl d_Mo_runs_236 ?_
                    refine lv_iload hx hb d_Mo_runs_239 (lv_at hl 5 rfl) ?_
                    obtain ⟨g241, h1⟩ := gd_some h1
                    refine st_iald hx hb hK hH (f := 59) (i := 0) hd_59 rfl g241 d_Mo_runs_241 ?_
                    refine lv_iload hx hb d_Mo_runs_242 (lv_at hl 2 rfl) ?_
                    obtain ⟨qc, hc244, h1⟩ := b2_some h1
                    obtain ⟨σ30, x31⟩ := qc
                    have h1 := b2_at h1
                    refine st_Si (As := [.int x18]) (rest := [.int (σ27.1 59 0 v5.toNatClampNeg), .ref (ad 48 0)]) ⟨hx, hb, hml, hown, hg⟩ (c_Mo_extra l D aC A ad n _ x18 _ hc244) (cwGS hg wd_520 wd_521 wd_522 wd_428 yd_Mo_extra ⟨Nat.le_of_ble_eq_true rfl, Nat.le_of_ble_eq_true rfl⟩) hK hH hS hZ rfl hl.1 rfl (Nat.le_of_ble_eq_true rfl) d_Mo_runs_244 ⟨Nat.zero_le _, Nat.zero_le _⟩ (fun H locs hH hS => ?_)
                    obtain ⟨qc, hc247, h1⟩ := b1_some h1
                    obtain ⟨σ32, rfl⟩ : ∃ z, z = qc := ⟨_, rfl⟩
                    have h1 := b1_at h1
                    refine st_Vv (As := [.int (σ27.1 59 0 v5.toNatClampNeg), .int x31]) (rest := []) ⟨hx, hb, hml, hown, hg⟩ (c_Mo_putBits l D aC A ad n _ (σ27.1 59 0 v5.toNatClampNeg) x31 _ hc247) (cwG hg wd_497 wd_498 wd_499 wd_500 wd_428 yd_Mo_putBits ⟨Nat.le_of_ble_eq_true rfl, Nat.le_of_ble_eq_true rfl⟩) hK hH hS hZ hd_48 rfl rfl rfl hl.1 rfl (Nat.le_of_ble_eq_true rfl) d_Mo_runs_247 ⟨Nat.zero_le _, Nat.zero_le _⟩ (fun H locs hH hS => ?_)
                    obtain ⟨x33, ex33⟩ : ∃ y : Int32, y = v5 + 1 := ⟨_, rfl⟩
                    have h1 := nm_at ex33 h1
                    refine lv_iinc (v := x33) (lv' := [(5, .int x33), (4, .int x22), (7, .int x19), (6, .int x18), (0, .ref (ad 48 0)), (2, .int a2)]) hx hb d_Mo_runs_250 hl (k := 5) rfl (by rw [ex33]; rfl) (by decide) rfl (fun ls hl => ?_)
                    refine lv_goto (tgt := 164) hx hb d_Mo_runs_253 (by decide) ?_
                    cases h1
                    exact ih1 σ32 x22 x33 _ _ ls hH hS (lv_sub hl [4, 5, 1, 0] rfl) hk1
          obtain ⟨k1, hq1⟩ := lpE_some hq1
          exact loop1 k1 σ15 x17 0 _ _ ls hH hS (lv_sub hl [2, 3, 1, 0] rfl) hq1
        · have h := ie h c116
          refine lv_aload_n hx hb d_Mo_runs_119 rfl (lv_at hl 1 rfl) ?_
          refine lv_iload_n hx hb d_Mo_runs_120 rfl (lv_at hl 3 rfl) ?_
          refine lv_iconst (v := 4) hx hb d_Mo_runs_121 (by decide) ?_
          refine lv_isub hx hb d_Mo_runs_122 ?_
          refine lv_iconst (v := 4) hx hb d_Mo_runs_123 (by decide) ?_
          obtain ⟨qc, hc124, h⟩ := b1_some h
          obtain ⟨σ37, rfl⟩ : ∃ z, z = qc := ⟨_, rfl⟩
          have h := b1_at h
          refine st_Vv (As := [.int (x16 - 4), .int 4]) (rest := []) ⟨hx, hb, hml, hown, hg⟩ (c_Mo_putBits l D aC A ad n _ (x16 - 4) 4 _ hc124) (cwG hg wd_497 wd_498 wd_499 wd_500 wd_428 yd_Mo_putBits ⟨Nat.le_of_ble_eq_true rfl, Nat.le_of_ble_eq_true rfl⟩) hK hH hS hZ hd_48 rfl rfl rfl hl.1 rfl (Nat.le_of_ble_eq_true rfl) d_Mo_runs_124 ⟨Nat.zero_le _, Nat.zero_le _⟩ (fun H locs hH hS => ?_)
          refine lv_iconst (v := 0) hx hb d_Mo_runs_127 (by decide) ?_
          refine lv_istore (lv' := [(5, .int 0), (4, .int x17), (0, .ref (ad 48 0)), (2, .int a2), (3, .int x16)]) hx hb d_Mo_runs_128 hl (by decide) rfl (fun ls hl => ?_)
          obtain ⟨q1, hq1, h⟩ := b2_some h
          have K1 : ∀ (σ42 : St) (x43 : Int32) (H : Heap) (locs : List Loc) (ls : Array Slot), q1 = (σ42, x43) → Hold D aC A ad n σ42 H → va_S A s.heap H locs → lv_has ls 8 [(0, .ref (ad 48 0)), (2, .int a2), (3, .int x16), (4, .int x17), (5, .int x43)] → W p l e (headSpec w_Mo_runs rm_Mo_runs).room s m args below meth c H locs 0 0 Q0 (F0 m 161 ls []) := by
            intro σ42 x43 H locs ls eq1 hH hS hl
            subst eq1
            have h := b2_at h
            refine lv_iconst (v := 0) hx hb d_Mo_runs_161 (by decide) ?_
            refine lv_istore (lv' := [(5, .int 0), (0, .ref (ad 48 0)), (2, .int a2), (3, .int x16), (4, .int x17)]) hx hb d_Mo_runs_162 hl (by decide) rfl (fun ls hl => ?_)
            obtain ⟨q1, hq1, h⟩ := b3_some h
            have K1 : ∀ (σ60 : St) (x61 : Int32) (x62 : Int32) (H : Heap) (locs : List Loc) (ls : Array Slot), q1 = (σ60, x61, x62) → Hold D aC A ad n σ60 H → va_S A s.heap H locs → lv_has ls 8 [(0, .ref (ad 48 0)), (2, .int a2), (4, .int x61), (5, .int x62)] → W p l e (headSpec w_Mo_runs rm_Mo_runs).room s m args below meth c H locs 0 0 Q0 (F0 m 256 ls []) := by
              intro σ60 x61 x62 H locs ls eq1 hH hS hl
              subst eq1
              have h := b3_at h
              refine lv_iload hx hb d_Mo_runs_256 (lv_at hl 2 rfl) ?_
              cases h
              rw [← hQ0]
              exact W.iret hx hb hr (fun t ht hW => ⟨⟨_, (), rfl, rfl, by dsimp only; rw [ht]; exact hH⟩, hS.F ht⟩) hS.2.2 d_Mo_runs_258
            have loop1 : ∀ (k : Nat) (σ : St) (v4 : Int32) (v5 : Int32) (H : Heap) (locs : List Loc) (ls : Array Slot), Hold D aC A ad n σ H → va_S A s.heap H locs → lv_has ls 8 [(0, .ref (ad 48 0)), (2, .int a2), (4, .int v4), (5, .int v5)] → lp (fun q => lb_Mo_runs_164_2 a2 q.1 q.2.1 q.2.2) k (σ, v4, v5) = some q1 → W p l e (headSpec w_Mo_runs rm_Mo_runs).room s m args below meth c H locs 0 0 Q0 (F0 m 164 ls []) := by
              intro k
              induction k with
              | zero => intro σ v4 v5 H locs ls hH hS hl hlp; exact absurd hlp (lp_zero _ _ _)
              | succ k ih1 =>
                intro σ v4 v5 H locs ls hH hS hl hlp
                obtain ⟨z1, h1, hk1⟩ := lp_succ hlp
                have h1 : lb_Mo_runs_164_2 a2 σ v4 v5 = some z1 := h1
                unfold lb_Mo_runs_164_2 at h1
                refine lv_iload hx hb d_Mo_runs_164 (lv_at hl 3 rfl) ?_
                refine lv_aload_n hx hb d_Mo_runs_166 rfl (lv_at hl 0 rfl) ?_
                refine st_get hx hb hg hown hK hH (f := 48) (i := 0) hd_48 rfl rfl u_Mo 15 (by decide) (hg _ wd_510) (v := .int (σ.1 48 0 15)) rfl d_Mo_runs_167 ?_
                refine lv_icmp_ge (tgt := 256) hx hb d_Mo_runs_170 (by decide) (fun c170 => ?_) (fun c170 => ?_)
                · have h1 := it h1 c170
                  cases h1
                  exact K1 σ v4 v5 _ _ ls (Option.some.inj hk1).symm hH hS (lv_sub hl [0, 1, 2, 3] rfl)
                · have h1 := ie h1 c170
                  refine lv_aload_n hx hb d_Mo_runs_173 rfl (lv_at hl 0 rfl) ?_
                  refine st_get hx hb hg hown hK hH (f := 48) (i := 0) hd_48 rfl rfl u_Mo 13 (by decide) (hg _ wd_509) (v := .ref (ad 58 0)) rfl d_Mo_runs_174 ?_
                  refine lv_iload hx hb d_Mo_runs_177 (lv_at hl 3 rfl) ?_
                  obtain ⟨g179, h1⟩ := gd_some h1
                  refine st_iald hx hb hK hH (f := 58) (i := 0) hd_58 rfl g179 d_Mo_runs_179 ?_
                  refine lv_topi (fun x44 ex44 => ?_)
                  have h1 := nm_at ex44 h1
                  refine lv_istore (lv' := [(6, .int x44), (0, .ref (ad 48 0)), (2, .int a2), (4, .int v4), (5, .int v5)]) hx hb d_Mo_runs_180 hl (by decide) rfl (fun ls hl => ?_)
                  refine lv_aload_n hx hb d_Mo_runs_182 rfl (lv_at hl 1 rfl) ?_
                  refine st_get hx hb hg hown hK hH (f := 48) (i := 0) hd_48 rfl rfl u_Mo 3 (by decide) (hg _ wd_431) (v := .ref (ad 50 0)) rfl d_Mo_runs_183 ?_
                  refine lv_sipush (v := 768) hx hb d_Mo_runs_186 (by decide) ?_
                  refine lv_iload hx hb d_Mo_runs_189 (lv_at hl 0 rfl) ?_
                  refine lv_iadd hx hb d_Mo_runs_191 ?_
                  obtain ⟨g192, h1⟩ := gd_some h1
                  refine st_iald hx hb hK hH (f := 50) (i := 0) hd_50 rfl g192 d_Mo_runs_192 ?_
                  refine lv_topi (fun x45 ex45 => ?_)
                  have h1 := nm_at ex45 h1
                  refine lv_istore (lv' := [(7, .int x45), (6, .int x44), (0, .ref (ad 48 0)), (2, .int a2), (4, .int v4), (5, .int v5)]) hx hb d_Mo_runs_193 hl (by decide) rfl (fun ls hl => ?_)
                  refine lv_iload hx hb d_Mo_runs_195 (lv_at hl 4 rfl) ?_
                  refine lv_iload hx hb d_Mo_runs_197 (lv_at hl 0 rfl) ?_
                  refine lv_iload hx hb d_Mo_runs_199 (lv_at hl 1 rfl) ?_
                  obtain ⟨qc, hc201, h1⟩ := b2_some h1
                  obtain ⟨σ46, x47⟩ := qc
                  have h1 := b2_at h1
                  refine st_Si (As := [.int x44]) (rest := [.int x45, .int v4]) ⟨hx, hb, hml, hown, hg⟩ (c_Mo_extra l D aC A ad n _ x44 _ hc201) (cwGS hg wd_520 wd_521 wd_522 wd_428 yd_Mo_extra ⟨Nat.le_of_ble_eq_true rfl, Nat.le_of_ble_eq_true rfl⟩) hK hH hS hZ rfl hl.1 rfl (Nat.le_of_ble_eq_true rfl) d_Mo_runs_201 ⟨Nat.zero_le _, Nat.zero_le _⟩ (fun H locs hH hS => ?_)
                  refine lv_iadd hx hb d_Mo_runs_204 ?_
                  refine lv_iadd hx hb d_Mo_runs_205 ?_
                  refine lv_topi (fun x48 ex48 => ?_)
                  have h1 := nm_at ex48 h1
                  refine lv_istore (lv' := [(4, .int x48), (7, .int x45), (6, .int x44), (0, .ref (ad 48 0)), (2, .int a2), (5, .int v5)]) hx hb d_Mo_runs_206 hl (by decide) rfl (fun ls hl => ?_)
                  refine lv_iload_n hx hb d_Mo_runs_208 rfl (lv_at hl 4 rfl) ?_
                  refine lv_if_eq (tgt := 250) hx hb d_Mo_runs_209 (by decide) (fun c209 => ?_) (fun c209 => ?_)
                  · have h1 := it h1 c209
                    obtain ⟨x49, ex49⟩ : ∃ y : Int32, y = v5 + 1 := ⟨_, rfl⟩
                    have h1 := nm_at ex49 h1
                    refine lv_iinc (v := x49) (lv' := [(5, .int x49), (4, .int x48), (7, .int x45), (6, .int x44), (0, .ref (ad 48 0)), (2, .int a2)]) hx hb d_Mo_runs_250 hl (k := 5) rfl (by rw [ex49]; rfl) (by decide) rfl (fun ls hl => ?_)
                    refine lv_goto (tgt := 164) hx hb d_Mo_runs_253 (by decide) ?_
                    cases h1
                    exact ih1 σ46 x48 x49 _ _ ls hH hS (lv_sub hl [4, 5, 1, 0] rfl) hk1
                  · have h1 := ie h1 c209
                    refine lv_aload_n hx hb d_Mo_runs_212 rfl (lv_at hl 3 rfl) ?_
                    refine lv_aload_n hx hb d_Mo_runs_213 rfl (lv_at hl 3 rfl) ?_
                    refine lv_bipush (v := 12) hx hb d_Mo_runs_214 (by decide) ?_
                    refine lv_iload hx hb d_Mo_runs_216 (lv_at hl 2 rfl) ?_
                    obtain ⟨qc, hc218, h1⟩ := b2_some h1
                    obtain ⟨σ50, x51⟩ := qc
                    have h1 := b2_at h1
                    refine st_Vi (As := [.int 12, .int x44]) (rest := [.ref (ad 48 0)]) ⟨hx, hb, hml, hown, hg⟩ (c_Mo_wordOf l D aC A ad n _ 12 x44 _ hc218) (cwG hg wd_461 wd_462 wd_463 wd_464 wd_428 yd_Mo_wordOf ⟨Nat.le_of_ble_eq_true rfl, Nat.le_of_ble_eq_true rfl⟩) hK hH hS hZ hd_48 rfl rfl rfl hl.1 rfl (Nat.le_of_ble_eq_true rfl) d_Mo_runs_218 ⟨Nat.zero_le _, Nat.zero_le _⟩ (fun H locs hH hS => ?_)
                    refine lv_iload hx hb d_Mo_runs_221 (lv_at hl 1 rfl) ?_
                    obtain ⟨qc, hc223, h1⟩ := b1_some h1
                    obtain ⟨σ52, rfl⟩ : ∃ z, z = qc := ⟨_, rfl⟩
                    have h1 := b1_at h1
                    refine st_Vv (As := [.int x51, .int x45]) (rest := []) ⟨hx, hb, hml, hown, hg⟩ (c_Mo_putBits l D aC A ad n _ x51 x45 _ hc223) (cwG hg wd_497 wd_498 wd_499 wd_500 wd_428 yd_Mo_putBits ⟨Nat.le_of_ble_eq_true rfl, Nat.le_of_ble_eq_true rfl⟩) hK hH hS hZ hd_48 rfl rfl rfl hl.1 rfl (Nat.le_of_ble_eq_true rfl) d_Mo_runs_223 ⟨Nat.zero_le _, Nat.zero_le _⟩ (fun H locs hH hS => ?_)
                    refine lv_iload hx hb d_Mo_runs_226 (lv_at hl 2 rfl) ?_
                    obtain ⟨qc, hc228, h1⟩ := b2_some h1
                    obtain ⟨σ53, x54⟩ := qc
                    have h1 := b2_at h1
                    refine st_Si (As := [.int x44]) (rest := []) ⟨hx, hb, hml, hown, hg⟩ (c_Mo_extra l D aC A ad n _ x44 _ hc228) (cwGS hg wd_520 wd_521 wd_522 wd_428 yd_Mo_extra ⟨Nat.le_of_ble_eq_true rfl, Nat.le_of_ble_eq_true rfl⟩) hK hH hS hZ rfl hl.1 rfl (Nat.le_of_ble_eq_true rfl) d_Mo_runs_228 ⟨Nat.zero_le _, Nat.zero_le _⟩ (fun H locs hH hS => ?_)
                    refine lv_if_le (tgt := 250) hx hb d_Mo_runs_231 (by decide) (fun c231 => ?_) (fun c231 => ?_)
                    · have h1 := it h1 c231
                      obtain ⟨x55, ex55⟩ : ∃ y : Int32, y = v5 + 1 := ⟨_, rfl⟩
                      have h1 := nm_at ex55 h1
                      refine lv_iinc (v := x55) (lv' := [(5, .int x55), (4, .int x48), (7, .int x45), (6, .int x44), (0, .ref (ad 48 0)), (2, .int a2)]) hx hb d_Mo_runs_250 hl (k := 5) rfl (by rw [ex55]; rfl) (by decide) rfl (fun ls hl => ?_)
                      refine lv_goto (tgt := 164) hx hb d_Mo_runs_253 (by decide) ?_
                      cases h1
                      exact ih1 σ53 x48 x55 _ _ ls hH hS (lv_sub hl [4, 5, 1, 0] rfl) hk1
                    · have h1 := ie h1 c231
                      refine lv_aload_n hx hb d_Mo_runs_234 rfl (lv_at hl 3 rfl) ?_
                      refine lv_aload_n hx hb d_Mo_runs_235 rfl (lv_at hl 3 rfl) ?_
                      refine st_get hx hb hg hown hK hH (f := 48) (i := 0) hd_48 rfl rfl u_Mo 14 (by decide) (hg _ wd_511) (v := .ref (ad 59 0)) rfl d_Mo_runs_236 ?_
                      refine lv_iload hx hb d_Mo_runs_239 (lv_at hl 5 rfl) ?_
                      obtain ⟨g241, h1⟩ := gd_some h1
                      refine st_iald hx hb hK hH (f := 59) (i := 0) hd_59 rfl g241 d_Mo_runs_241 ?_
                      refine lv_iload hx hb d_Mo_runs_242 (lv_at hl 2 rfl) ?_
                      obtain ⟨qc, hc244, h1⟩ := b2_some h1
                      obtain ⟨σ56, x57⟩ := qc
                      have h1 := b2_at h1
                      refine st_Si (As := [.int x44]) (rest := [.int (σ53.1 59 0 v5.toNatClampNeg), .ref (ad 48 0)]) ⟨hx, hb, hml, hown, hg⟩ (c_Mo_extra l D aC A ad n _ x44 _ hc244) (cwGS hg wd_520 wd_521 wd_522 wd_428 yd_Mo_extra ⟨Nat.le_of_ble_eq_true rfl, Nat.le_of_ble_eq_true rfl⟩) hK hH hS hZ rfl hl.1 rfl (Nat.le_of_ble_eq_true rfl) d_Mo_runs_244 ⟨Nat.zero_le _, Nat.zero_le _⟩ (fun H locs hH hS => ?_)
                      obtain ⟨qc, hc247, h1⟩ := b1_some h1
                      obtain ⟨σ58, rfl⟩ : ∃ z, z = qc := ⟨_, rfl⟩
                      have h1 := b1_at h1
                      refine st_Vv (As := [.int (σ53.1 59 0 v5.toNatClampNeg), .int x57]) (rest := []) ⟨hx, hb, hml, hown, hg⟩ (c_Mo_putBits l D aC A ad n _ (σ53.1 59 0 v5.toNatClampNeg) x57 _ hc247) (cwG hg wd_497 wd_498 wd_499 wd_500 wd_428 yd_Mo_putBits ⟨Nat.le_of_ble_eq_true rfl, Nat.le_of_ble_eq_true rfl⟩) hK hH hS hZ hd_48 rfl rfl rfl hl.1 rfl (Nat.le_of_ble_eq_true rfl) d_Mo_runs_247 ⟨Nat.zero_le _, Nat.zero_le _⟩ (fun H locs hH hS => ?_)
                      obtain ⟨x59, ex59⟩ : ∃ y : Int32, y = v5 + 1 := ⟨_, rfl⟩
                      have h1 := nm_at ex59 h1
                      refine lv_iinc (v := x59) (lv' := [(5, .int x59), (4, .int x48), (7, .int x45), (6, .int x44), (0, .ref (ad 48 0)), (2, .int a2)]) hx hb d_Mo_runs_250 hl (k := 5) rfl (by rw [ex59]; rfl) (by decide) rfl (fun ls hl => ?_)
                      refine lv_goto (tgt := 164) hx hb d_Mo_runs_253 (by decide) ?_
                      cases h1
                      exact ih1 σ58 x48 x59 _ _ ls hH hS (lv_sub hl [4, 5, 1, 0] rfl) hk1
            obtain ⟨k1, hq1⟩ := lpE_some hq1
            exact loop1 k1 σ42 x17 0 _ _ ls hH hS (lv_sub hl [1, 2, 4, 0] rfl) hq1
          have loop1 : ∀ (k : Nat) (σ : St) (v5 : Int32) (H : Heap) (locs : List Loc) (ls : Array Slot), Hold D aC A ad n σ H → va_S A s.heap H locs → lv_has ls 8 [(0, .ref (ad 48 0)), (2, .int a2), (3, .int x16), (4, .int x17), (5, .int v5)] → lp (fun q => lb_Mo_runs_130 a2 x16 x17 q.1 q.2) k (σ, v5) = some q1 → W p l e (headSpec w_Mo_runs rm_Mo_runs).room s m args below meth c H locs 0 0 Q0 (F0 m 130 ls []) := by
            intro k
            induction k with
            | zero => intro σ v5 H locs ls hH hS hl hlp; exact absurd hlp (lp_zero _ _ _)
            | succ k ih1 =>
              intro σ v5 H locs ls hH hS hl hlp
              obtain ⟨z1, h1, hk1⟩ := lp_succ hlp
              have h1 : lb_Mo_runs_130 a2 x16 x17 σ v5 = some z1 := h1
              unfold lb_Mo_runs_130 at h1
              refine lv_iload hx hb d_Mo_runs_130 (lv_at hl 4 rfl) ?_
              refine lv_iload_n hx hb d_Mo_runs_132 rfl (lv_at hl 2 rfl) ?_
              refine lv_icmp_ge (tgt := 161) hx hb d_Mo_runs_133 (by decide) (fun c133 => ?_) (fun c133 => ?_)
              · have h1 := it h1 c133
                cases h1
                exact K1 σ v5 _ _ ls (Option.some.inj hk1).symm hH hS (lv_sub hl [0, 1, 2, 3, 4] rfl)
              · have h1 := ie h1 c133
                refine lv_aload_n hx hb d_Mo_runs_136 rfl (lv_at hl 0 rfl) ?_
                refine lv_aload_n hx hb d_Mo_runs_137 rfl (lv_at hl 0 rfl) ?_
                refine st_get hx hb hg hown hK hH (f := 48) (i := 0) hd_48 rfl rfl u_Mo 3 (by decide) (hg _ wd_431) (v := .ref (ad 50 0)) rfl d_Mo_runs_138 ?_
                refine lv_sipush (v := 768) hx hb d_Mo_runs_141 (by decide) ?_
                refine lv_iload hx hb d_Mo_runs_144 (lv_at hl 4 rfl) ?_
                obtain ⟨qc, hc146, h1⟩ := b2_some h1
                obtain ⟨σ38, x39⟩ := qc
                have h1 := b2_at h1
                refine st_Si (As := [.int v5]) (rest := [.int 768, .ref (ad 50 0), .ref (ad 48 0)]) ⟨hx, hb, hml, hown, hg⟩ (c_Mo_orderOf l D aC A ad n _ v5 _ hc146) (cwGS hg wd_523 wd_524 wd_525 wd_428 yd_Mo_orderOf ⟨Nat.le_of_ble_eq_true rfl, Nat.le_of_ble_eq_true rfl⟩) hK hH hS hZ rfl hl.1 rfl (Nat.le_of_ble_eq_true rfl) d_Mo_runs_146 ⟨Nat.zero_le _, Nat.zero_le _⟩ (fun H locs hH hS => ?_)
                refine lv_iadd hx hb d_Mo_runs_149 ?_
                obtain ⟨g150, h1⟩ := gd_some h1
                refine st_iald hx hb hK hH (f := 50) (i := 0) hd_50 rfl g150 d_Mo_runs_150 ?_
                refine lv_iconst (v := 3) hx hb d_Mo_runs_151 (by decide) ?_
                obtain ⟨qc, hc152, h1⟩ := b1_some h1
                obtain ⟨σ40, rfl⟩ : ∃ z, z = qc := ⟨_, rfl⟩
                have h1 := b1_at h1
                refine st_Vv (As := [.int (σ38.1 50 0 (768 + x39).toNatClampNeg), .int 3]) (rest := []) ⟨hx, hb, hml, hown, hg⟩ (c_Mo_putBits l D aC A ad n _ (σ38.1 50 0 (768 + x39).toNatClampNeg) 3 _ hc152) (cwG hg wd_497 wd_498 wd_499 wd_500 wd_428 yd_Mo_putBits ⟨Nat.le_of_ble_eq_true rfl, Nat.le_of_ble_eq_true rfl⟩) hK hH hS hZ hd_48 rfl rfl rfl hl.1 rfl (Nat.le_of_ble_eq_true rfl) d_Mo_runs_152 ⟨Nat.zero_le _, Nat.zero_le _⟩ (fun H locs hH hS => ?_)
                obtain ⟨x41, ex41⟩ : ∃ y : Int32, y = v5 + 1 := ⟨_, rfl⟩
                have h1 := nm_at ex41 h1
                refine lv_iinc (v := x41) (lv' := [(5, .int x41), (0, .ref (ad 48 0)), (2, .int a2), (3, .int x16), (4, .int x17)]) hx hb d_Mo_runs_155 hl (k := 4) rfl (by rw [ex41]; rfl) (by decide) rfl (fun ls hl => ?_)
                refine lv_goto (tgt := 130) hx hb d_Mo_runs_158 (by decide) ?_
                cases h1
                exact ih1 σ40 x41 _ _ ls hH hS (lv_sub hl [1, 2, 3, 4, 0] rfl) hk1
          obtain ⟨k1, hq1⟩ := lpE_some hq1
          exact loop1 k1 σ37 0 _ _ ls hH hS (lv_sub hl [2, 3, 4, 1, 0] rfl) hq1
      have loop1 : ∀ (k : Nat) (σ : St) (v3 : Int32) (H : Heap) (locs : List Loc) (ls : Array Slot), Hold D aC A ad n σ H → va_S A s.heap H locs → lv_has ls 8 [(0, .ref (ad 48 0)), (2, .int a2), (3, .int v3)] → lp (fun q => lb_Mo_runs_79 a2 q.1 q.2) k (σ, v3) = some q1 → W p l e (headSpec w_Mo_runs rm_Mo_runs).room s m args below meth c H locs 0 0 Q0 (F0 m 79 ls []) := by
        intro k
        induction k with
        | zero => intro σ v3 H locs ls hH hS hl hlp; exact absurd hlp (lp_zero _ _ _)
        | succ k ih1 =>
          intro σ v3 H locs ls hH hS hl hlp
          obtain ⟨z1, h1, hk1⟩ := lp_succ hlp
          have h1 : lb_Mo_runs_79 a2 σ v3 = some z1 := h1
          unfold lb_Mo_runs_79 at h1
          refine lv_iload_n hx hb d_Mo_runs_79 rfl (lv_at hl 2 rfl) ?_
          refine lv_iconst (v := 4) hx hb d_Mo_runs_80 (by decide) ?_
          refine lv_icmp_le (tgt := 108) hx hb d_Mo_runs_81 (by decide) (fun c81 => ?_) (fun c81 => ?_)
          · have h1 := it h1 c81
            cases h1
            exact K1 σ v3 _ _ ls (Option.some.inj hk1).symm hH hS (lv_sub hl [0, 1, 2] rfl)
          · have h1 := ie h1 c81
            refine lv_aload_n hx hb d_Mo_runs_84 rfl (lv_at hl 0 rfl) ?_
            refine st_get hx hb hg hown hK hH (f := 48) (i := 0) hd_48 rfl rfl u_Mo 3 (by decide) (hg _ wd_431) (v := .ref (ad 50 0)) rfl d_Mo_runs_85 ?_
            refine lv_sipush (v := 768) hx hb d_Mo_runs_88 (by decide) ?_
            refine lv_iload_n hx hb d_Mo_runs_91 rfl (lv_at hl 2 rfl) ?_
            refine lv_iconst (v := 1) hx hb d_Mo_runs_92 (by decide) ?_
            refine lv_isub hx hb d_Mo_runs_93 ?_
            obtain ⟨qc, hc94, h1⟩ := b2_some h1
            obtain ⟨σ12, x13⟩ := qc
            have h1 := b2_at h1
            refine st_Si (As := [.int (v3 - 1)]) (rest := [.int 768, .ref (ad 50 0)]) ⟨hx, hb, hml, hown, hg⟩ (c_Mo_orderOf l D aC A ad n _ (v3 - 1) _ hc94) (cwGS hg wd_523 wd_524 wd_525 wd_428 yd_Mo_orderOf ⟨Nat.le_of_ble_eq_true rfl, Nat.le_of_ble_eq_true rfl⟩) hK hH hS hZ rfl hl.1 rfl (Nat.le_of_ble_eq_true rfl) d_Mo_runs_94 ⟨Nat.zero_le _, Nat.zero_le _⟩ (fun H locs hH hS => ?_)
            refine lv_iadd hx hb d_Mo_runs_97 ?_
            obtain ⟨g98, h1⟩ := gd_some h1
            refine st_iald hx hb hK hH (f := 50) (i := 0) hd_50 rfl g98 d_Mo_runs_98 ?_
            refine lv_if_ne (tgt := 108) hx hb d_Mo_runs_99 (by decide) (fun c99 => ?_) (fun c99 => ?_)
            · have h1 := ie h1 c99
              cases h1
              exact K1 σ12 v3 _ _ ls (Option.some.inj hk1).symm hH hS (lv_sub hl [0, 1, 2] rfl)
            · have h1 := it h1 c99
              obtain ⟨x14, ex14⟩ : ∃ y : Int32, y = v3 + (-1) := ⟨_, rfl⟩
              have h1 := nm_at ex14 h1
              refine lv_iinc (v := x14) (lv' := [(3, .int x14), (0, .ref (ad 48 0)), (2, .int a2)]) hx hb d_Mo_runs_102 hl (k := 2) rfl (by rw [ex14]; rfl) (by decide) rfl (fun ls hl => ?_)
              refine lv_goto (tgt := 79) hx hb d_Mo_runs_105 (by decide) ?_
              cases h1
              exact ih1 σ12 x14 _ _ ls hH hS (lv_sub hl [1, 2, 0] rfl) hk1
      obtain ⟨k1, hq1⟩ := lpE_some hq1
      exact loop1 k1 σ11 19 _ _ ls hH hS (lv_sub hl [1, 2, 0] rfl) hq1
    have loop1 : ∀ (k : Nat) (σ : St) (v3 : Int32) (H : Heap) (locs : List Loc) (ls : Array Slot), Hold D aC A ad n σ H → va_S A s.heap H locs → lv_has ls 8 [(0, .ref (ad 48 0)), (2, .int a2), (3, .int v3)] → lp (fun q => lb_Mo_runs_28 a2 q.1 q.2) k (σ, v3) = some q1 → W p l e (headSpec w_Mo_runs rm_Mo_runs).room s m args below meth c H locs 0 0 Q0 (F0 m 28 ls []) := by
      intro k
      induction k with
      | zero => intro σ v3 H locs ls hH hS hl hlp; exact absurd hlp (lp_zero _ _ _)
      | succ k ih1 =>
        intro σ v3 H locs ls hH hS hl hlp
        obtain ⟨z1, h1, hk1⟩ := lp_succ hlp
        have h1 : lb_Mo_runs_28 a2 σ v3 = some z1 := h1
        unfold lb_Mo_runs_28 at h1
        refine lv_iload_n hx hb d_Mo_runs_28 rfl (lv_at hl 2 rfl) ?_
        refine lv_aload_n hx hb d_Mo_runs_29 rfl (lv_at hl 0 rfl) ?_
        refine st_get hx hb hg hown hK hH (f := 48) (i := 0) hd_48 rfl rfl u_Mo 15 (by decide) (hg _ wd_510) (v := .int (σ.1 48 0 15)) rfl d_Mo_runs_30 ?_
        refine lv_icmp_ge (tgt := 57) hx hb d_Mo_runs_33 (by decide) (fun c33 => ?_) (fun c33 => ?_)
        · have h1 := it h1 c33
          cases h1
          exact K1 σ v3 _ _ ls (Option.some.inj hk1).symm hH hS (lv_sub hl [0, 1, 2] rfl)
        · have h1 := ie h1 c33
          refine lv_aload_n hx hb d_Mo_runs_36 rfl (lv_at hl 0 rfl) ?_
          refine st_get hx hb hg hown hK hH (f := 48) (i := 0) hd_48 rfl rfl u_Mo 9 (by decide) (hg _ wd_478) (v := .ref (ad 56 0)) rfl d_Mo_runs_37 ?_
          refine lv_aload_n hx hb d_Mo_runs_40 rfl (lv_at hl 0 rfl) ?_
          refine st_get hx hb hg hown hK hH (f := 48) (i := 0) hd_48 rfl rfl u_Mo 13 (by decide) (hg _ wd_509) (v := .ref (ad 58 0)) rfl d_Mo_runs_41 ?_
          refine lv_iload_n hx hb d_Mo_runs_44 rfl (lv_at hl 2 rfl) ?_
          obtain ⟨g45, h1⟩ := gd_some h1
          refine st_iald hx hb hK hH (f := 58) (i := 0) hd_58 rfl g45 d_Mo_runs_45 ?_
          refine lv_dup2_11 hx hb d_Mo_runs_46 rfl rfl ?_
          obtain ⟨g47, h1⟩ := gd_some h1
          refine st_iald hx hb hK hH (f := 56) (i := 0) hd_56 rfl g47 d_Mo_runs_47 ?_
          refine lv_iconst (v := 1) hx hb d_Mo_runs_48 (by decide) ?_
          refine lv_iadd hx hb d_Mo_runs_49 ?_
          obtain ⟨g50, h1⟩ := gd_some h1
          refine st_iast hx hb hK hH hS (f := 56) (i := 0) hd_56 rfl g50 d_Mo_runs_50 (fun σ6 H locs eσ6 hH hS => ?_)
          have h1 := nm_at eσ6 h1
          obtain ⟨x7, ex7⟩ : ∃ y : Int32, y = v3 + 1 := ⟨_, rfl⟩
          have h1 := nm_at ex7 h1
          refine lv_iinc (v := x7) (lv' := [(3, .int x7), (0, .ref (ad 48 0)), (2, .int a2)]) hx hb d_Mo_runs_51 hl (k := 2) rfl (by rw [ex7]; rfl) (by decide) rfl (fun ls hl => ?_)
          refine lv_goto (tgt := 28) hx hb d_Mo_runs_54 (by decide) ?_
          cases h1
          exact ih1 σ6 x7 _ _ ls hH hS (lv_sub hl [1, 2, 0] rfl) hk1
    obtain ⟨k1, hq1⟩ := lpE_some hq1
    exact loop1 k1 σ4 0 _ _ ls hH hS (lv_sub hl [1, 2, 0] rfl) hq1
  have loop1 : ∀ (k : Nat) (σ : St) (v3 : Int32) (H : Heap) (locs : List Loc) (ls : Array Slot), Hold D aC A ad n σ H → va_S A s.heap H locs → lv_has ls 8 [(0, .ref (ad 48 0)), (2, .int a2), (3, .int v3)] → lp (fun q => lb_Mo_runs_7 a2 q.1 q.2) k (σ, v3) = some q1 → W p l e (headSpec w_Mo_runs rm_Mo_runs).room s m args below meth c H locs 0 0 Q0 (F0 m 7 ls []) := by
    intro k
    induction k with
    | zero => intro σ v3 H locs ls hH hS hl hlp; exact absurd hlp (lp_zero _ _ _)
    | succ k ih1 =>
      intro σ v3 H locs ls hH hS hl hlp
      obtain ⟨z1, h1, hk1⟩ := lp_succ hlp
      have h1 : lb_Mo_runs_7 a2 σ v3 = some z1 := h1
      unfold lb_Mo_runs_7 at h1
      refine lv_iload_n hx hb d_Mo_runs_7 rfl (lv_at hl 2 rfl) ?_
      refine lv_bipush (v := 64) hx hb d_Mo_runs_8 (by decide) ?_
      refine lv_icmp_ge (tgt := 26) hx hb d_Mo_runs_10 (by decide) (fun c10 => ?_) (fun c10 => ?_)
      · have h1 := it h1 c10
        cases h1
        exact K1 σ v3 _ _ ls (Option.some.inj hk1).symm hH hS (lv_sub hl [0, 1, 2] rfl)
      · have h1 := ie h1 c10
        refine lv_aload_n hx hb d_Mo_runs_13 rfl (lv_at hl 0 rfl) ?_
        refine st_get hx hb hg hown hK hH (f := 48) (i := 0) hd_48 rfl rfl u_Mo 9 (by decide) (hg _ wd_478) (v := .ref (ad 56 0)) rfl d_Mo_runs_14 ?_
        refine lv_iload_n hx hb d_Mo_runs_17 rfl (lv_at hl 2 rfl) ?_
        refine lv_iconst (v := 0) hx hb d_Mo_runs_18 (by decide) ?_
        obtain ⟨g19, h1⟩ := gd_some h1
        refine st_iast hx hb hK hH hS (f := 56) (i := 0) hd_56 rfl g19 d_Mo_runs_19 (fun σ2 H locs eσ2 hH hS => ?_)
        have h1 := nm_at eσ2 h1
        obtain ⟨x3, ex3⟩ : ∃ y : Int32, y = v3 + 1 := ⟨_, rfl⟩
        have h1 := nm_at ex3 h1
        refine lv_iinc (v := x3) (lv' := [(3, .int x3), (0, .ref (ad 48 0)), (2, .int a2)]) hx hb d_Mo_runs_20 hl (k := 2) rfl (by rw [ex3]; rfl) (by decide) rfl (fun ls hl => ?_)
        refine lv_goto (tgt := 7) hx hb d_Mo_runs_23 (by decide) ?_
        cases h1
        exact ih1 σ2 x3 _ _ ls hH hS (lv_sub hl [1, 2, 0] rfl) hk1
  obtain ⟨k1, hq1⟩ := lpE_some hq1
  exact loop1 k1 σ1 0 _ _ ls hH hS (lv_sub hl [1, 3, 0] rfl) hq1
