theorem d_Mo_table_0 : decode prog_13_method_45_code 0 = .ok (.aload_n 0, 1) := by decide +kernel
theorem d_Mo_table_1 : decode prog_13_method_45_code 1 = .ok (.iload_n 1, 1) := by decide +kernel
theorem d_Mo_table_2 : decode prog_13_method_45_code 2 = .ok (.invokevirtual 87, 3) := by decide +kernel
theorem d_Mo_table_5 : decode prog_13_method_45_code 5 = .ok (.ifCond .ne 6, 3) := by decide +kernel
theorem d_Mo_table_8 : decode prog_13_method_45_code 8 = .ok (.bipush (-101), 2) := by decide +kernel
theorem d_Mo_table_10 : decode prog_13_method_45_code 10 = .ok (.ireturn, 1) := by decide +kernel
theorem d_Mo_table_11 : decode prog_13_method_45_code 11 = .ok (.iload_n 2, 1) := by decide +kernel
theorem d_Mo_table_12 : decode prog_13_method_45_code 12 = .ok (.iconst 1, 1) := by decide +kernel
theorem d_Mo_table_13 : decode prog_13_method_45_code 13 = .ok (.if_icmp .lt 9, 3) := by decide +kernel
theorem d_Mo_table_16 : decode prog_13_method_45_code 16 = .ok (.iload_n 2, 1) := by decide +kernel
theorem d_Mo_table_17 : decode prog_13_method_45_code 17 = .ok (.bipush 9, 2) := by decide +kernel
theorem d_Mo_table_19 : decode prog_13_method_45_code 19 = .ok (.if_icmp .le 6, 3) := by decide +kernel
theorem d_Mo_table_22 : decode prog_13_method_45_code 22 = .ok (.bipush (-102), 2) := by decide +kernel
theorem d_Mo_table_24 : decode prog_13_method_45_code 24 = .ok (.ireturn, 1) := by decide +kernel
theorem d_Mo_table_25 : decode prog_13_method_45_code 25 = .ok (.aload_n 0, 1) := by decide +kernel
theorem d_Mo_table_26 : decode prog_13_method_45_code 26 = .ok (.iload_n 1, 1) := by decide +kernel
theorem d_Mo_table_27 : decode prog_13_method_45_code 27 = .ok (.invokevirtual 113, 3) := by decide +kernel
theorem d_Mo_table_30 : decode prog_13_method_45_code 30 = .ok (.iconst 4, 1) := by decide +kernel
theorem d_Mo_table_31 : decode prog_13_method_45_code 31 = .ok (.if_icmp .ne 6, 3) := by decide +kernel
theorem d_Mo_table_34 : decode prog_13_method_45_code 34 = .ok (.bipush (-103), 2) := by decide +kernel
theorem d_Mo_table_36 : decode prog_13_method_45_code 36 = .ok (.ireturn, 1) := by decide +kernel
theorem d_Mo_table_37 : decode prog_13_method_45_code 37 = .ok (.iconst 1, 1) := by decide +kernel
theorem d_Mo_table_38 : decode prog_13_method_45_code 38 = .ok (.iload_n 2, 1) := by decide +kernel
theorem d_Mo_table_39 : decode prog_13_method_45_code 39 = .ok (.ishl, 1) := by decide +kernel
theorem d_Mo_table_40 : decode prog_13_method_45_code 40 = .ok (.istore_n 3, 1) := by decide +kernel
theorem d_Mo_table_41 : decode prog_13_method_45_code 41 = .ok (.aload_n 0, 1) := by decide +kernel
theorem d_Mo_table_42 : decode prog_13_method_45_code 42 = .ok (.iload_n 3, 1) := by decide +kernel
theorem d_Mo_table_43 : decode prog_13_method_45_code 43 = .ok (.putfield 194, 3) := by decide +kernel
theorem d_Mo_table_46 : decode prog_13_method_45_code 46 = .ok (.aload_n 0, 1) := by decide +kernel
theorem d_Mo_table_47 : decode prog_13_method_45_code 47 = .ok (.iconst 0, 1) := by decide +kernel
theorem d_Mo_table_48 : decode prog_13_method_45_code 48 = .ok (.iload_n 3, 1) := by decide +kernel
theorem d_Mo_table_49 : decode prog_13_method_45_code 49 = .ok (.invokevirtual 197, 3) := by decide +kernel
theorem d_Mo_table_52 : decode prog_13_method_45_code 52 = .ok (.iconst 0, 1) := by decide +kernel
theorem d_Mo_table_53 : decode prog_13_method_45_code 53 = .ok (.istore 4, 2) := by decide +kernel
theorem d_Mo_table_55 : decode prog_13_method_45_code 55 = .ok (.iload 4, 2) := by decide +kernel
theorem d_Mo_table_57 : decode prog_13_method_45_code 57 = .ok (.aload_n 0, 1) := by decide +kernel
theorem d_Mo_table_58 : decode prog_13_method_45_code 58 = .ok (.getfield 7, 3) := by decide +kernel
theorem d_Mo_table_61 : decode prog_13_method_45_code 61 = .ok (.iload_n 1, 1) := by decide +kernel
theorem d_Mo_table_62 : decode prog_13_method_45_code 62 = .ok (.iaload, 1) := by decide +kernel
theorem d_Mo_table_63 : decode prog_13_method_45_code 63 = .ok (.if_icmp .ge 77, 3) := by decide +kernel
theorem d_Mo_table_66 : decode prog_13_method_45_code 66 = .ok (.aload_n 0, 1) := by decide +kernel
theorem d_Mo_table_67 : decode prog_13_method_45_code 67 = .ok (.iload_n 1, 1) := by decide +kernel
theorem d_Mo_table_68 : decode prog_13_method_45_code 68 = .ok (.iload 4, 2) := by decide +kernel
theorem d_Mo_table_70 : decode prog_13_method_45_code 70 = .ok (.invokevirtual 99, 3) := by decide +kernel
theorem d_Mo_table_73 : decode prog_13_method_45_code 73 = .ok (.istore 5, 2) := by decide +kernel
theorem d_Mo_table_75 : decode prog_13_method_45_code 75 = .ok (.iload 5, 2) := by decide +kernel
theorem d_Mo_table_77 : decode prog_13_method_45_code 77 = .ok (.ifCond .le 57, 3) := by decide +kernel
theorem d_Mo_table_80 : decode prog_13_method_45_code 80 = .ok (.iload 5, 2) := by decide +kernel
theorem d_Mo_table_82 : decode prog_13_method_45_code 82 = .ok (.iload_n 2, 1) := by decide +kernel
theorem d_Mo_table_83 : decode prog_13_method_45_code 83 = .ok (.if_icmp .gt 51, 3) := by decide +kernel
theorem d_Mo_table_86 : decode prog_13_method_45_code 86 = .ok (.aload_n 0, 1) := by decide +kernel
theorem d_Mo_table_87 : decode prog_13_method_45_code 87 = .ok (.iload_n 1, 1) := by decide +kernel
theorem d_Mo_table_88 : decode prog_13_method_45_code 88 = .ok (.iload 4, 2) := by decide +kernel
theorem d_Mo_table_90 : decode prog_13_method_45_code 90 = .ok (.invokevirtual 116, 3) := by decide +kernel
theorem d_Mo_table_93 : decode prog_13_method_45_code 93 = .ok (.iload_n 2, 1) := by decide +kernel
theorem d_Mo_table_94 : decode prog_13_method_45_code 94 = .ok (.iload 5, 2) := by decide +kernel
theorem d_Mo_table_96 : decode prog_13_method_45_code 96 = .ok (.isub, 1) := by decide +kernel
theorem d_Mo_table_97 : decode prog_13_method_45_code 97 = .ok (.ishl, 1) := by decide +kernel
theorem d_Mo_table_98 : decode prog_13_method_45_code 98 = .ok (.istore 6, 2) := by decide +kernel
theorem d_Mo_table_100 : decode prog_13_method_45_code 100 = .ok (.iconst 0, 1) := by decide +kernel
theorem d_Mo_table_101 : decode prog_13_method_45_code 101 = .ok (.istore 7, 2) := by decide +kernel
theorem d_Mo_table_103 : decode prog_13_method_45_code 103 = .ok (.iload 7, 2) := by decide +kernel
theorem d_Mo_table_105 : decode prog_13_method_45_code 105 = .ok (.iconst 1, 1) := by decide +kernel
theorem d_Mo_table_106 : decode prog_13_method_45_code 106 = .ok (.iload_n 2, 1) := by decide +kernel
theorem d_Mo_table_107 : decode prog_13_method_45_code 107 = .ok (.iload 5, 2) := by decide +kernel
theorem d_Mo_table_109 : decode prog_13_method_45_code 109 = .ok (.isub, 1) := by decide +kernel
theorem d_Mo_table_110 : decode prog_13_method_45_code 110 = .ok (.ishl, 1) := by decide +kernel
theorem d_Mo_table_111 : decode prog_13_method_45_code 111 = .ok (.if_icmp .ge 23, 3) := by decide +kernel
theorem d_Mo_table_114 : decode prog_13_method_45_code 114 = .ok (.aload_n 0, 1) := by decide +kernel
theorem d_Mo_table_115 : decode prog_13_method_45_code 115 = .ok (.iload 6, 2) := by decide +kernel
theorem d_Mo_table_117 : decode prog_13_method_45_code 117 = .ok (.iload 7, 2) := by decide +kernel
theorem d_Mo_table_119 : decode prog_13_method_45_code 119 = .ok (.iadd, 1) := by decide +kernel
theorem d_Mo_table_120 : decode prog_13_method_45_code 120 = .ok (.iconst 1, 1) := by decide +kernel
theorem d_Mo_table_121 : decode prog_13_method_45_code 121 = .ok (.iload 4, 2) := by decide +kernel
theorem d_Mo_table_123 : decode prog_13_method_45_code 123 = .ok (.iload 5, 2) := by decide +kernel
theorem d_Mo_table_125 : decode prog_13_method_45_code 125 = .ok (.invokevirtual 200, 3) := by decide +kernel
theorem d_Mo_table_128 : decode prog_13_method_45_code 128 = .ok (.iinc 7 1, 3) := by decide +kernel
theorem d_Mo_table_131 : decode prog_13_method_45_code 131 = .ok (.goto (-28), 3) := by decide +kernel
theorem d_Mo_table_134 : decode prog_13_method_45_code 134 = .ok (.iinc 4 1, 3) := by decide +kernel
theorem d_Mo_table_137 : decode prog_13_method_45_code 137 = .ok (.goto (-82), 3) := by decide +kernel
theorem d_Mo_table_140 : decode prog_13_method_45_code 140 = .ok (.iconst 0, 1) := by decide +kernel
theorem d_Mo_table_141 : decode prog_13_method_45_code 141 = .ok (.istore 4, 2) := by decide +kernel
theorem d_Mo_table_143 : decode prog_13_method_45_code 143 = .ok (.iload 4, 2) := by decide +kernel
theorem d_Mo_table_145 : decode prog_13_method_45_code 145 = .ok (.iload_n 3, 1) := by decide +kernel
theorem d_Mo_table_146 : decode prog_13_method_45_code 146 = .ok (.if_icmp .ge 99, 3) := by decide +kernel
theorem d_Mo_table_149 : decode prog_13_method_45_code 149 = .ok (.iconst 0, 1) := by decide +kernel
theorem d_Mo_table_150 : decode prog_13_method_45_code 150 = .ok (.istore 5, 2) := by decide +kernel
theorem d_Mo_table_152 : decode prog_13_method_45_code 152 = .ok (.iconst 0, 1) := by decide +kernel
theorem d_Mo_table_153 : decode prog_13_method_45_code 153 = .ok (.istore 6, 2) := by decide +kernel
theorem d_Mo_table_155 : decode prog_13_method_45_code 155 = .ok (.iload 6, 2) := by decide +kernel
theorem d_Mo_table_157 : decode prog_13_method_45_code 157 = .ok (.aload_n 0, 1) := by decide +kernel
theorem d_Mo_table_158 : decode prog_13_method_45_code 158 = .ok (.getfield 7, 3) := by decide +kernel
theorem d_Mo_table_161 : decode prog_13_method_45_code 161 = .ok (.iload_n 1, 1) := by decide +kernel
theorem d_Mo_table_162 : decode prog_13_method_45_code 162 = .ok (.iaload, 1) := by decide +kernel
theorem d_Mo_table_163 : decode prog_13_method_45_code 163 = .ok (.if_icmp .ge 61, 3) := by decide +kernel
theorem d_Mo_table_166 : decode prog_13_method_45_code 166 = .ok (.aload_n 0, 1) := by decide +kernel
theorem d_Mo_table_167 : decode prog_13_method_45_code 167 = .ok (.iload_n 1, 1) := by decide +kernel
theorem d_Mo_table_168 : decode prog_13_method_45_code 168 = .ok (.iload 6, 2) := by decide +kernel
theorem d_Mo_table_170 : decode prog_13_method_45_code 170 = .ok (.invokevirtual 99, 3) := by decide +kernel
theorem d_Mo_table_173 : decode prog_13_method_45_code 173 = .ok (.istore 7, 2) := by decide +kernel
theorem d_Mo_table_175 : decode prog_13_method_45_code 175 = .ok (.iload 7, 2) := by decide +kernel
theorem d_Mo_table_177 : decode prog_13_method_45_code 177 = .ok (.iload_n 2, 1) := by decide +kernel
theorem d_Mo_table_178 : decode prog_13_method_45_code 178 = .ok (.if_icmp .le 40, 3) := by decide +kernel
theorem d_Mo_table_181 : decode prog_13_method_45_code 181 = .ok (.aload_n 0, 1) := by decide +kernel
theorem d_Mo_table_182 : decode prog_13_method_45_code 182 = .ok (.iload_n 1, 1) := by decide +kernel
theorem d_Mo_table_183 : decode prog_13_method_45_code 183 = .ok (.iload 6, 2) := by decide +kernel
theorem d_Mo_table_185 : decode prog_13_method_45_code 185 = .ok (.invokevirtual 116, 3) := by decide +kernel
theorem d_Mo_table_188 : decode prog_13_method_45_code 188 = .ok (.iload 7, 2) := by decide +kernel
theorem d_Mo_table_190 : decode prog_13_method_45_code 190 = .ok (.iload_n 2, 1) := by decide +kernel
theorem d_Mo_table_191 : decode prog_13_method_45_code 191 = .ok (.isub, 1) := by decide +kernel
theorem d_Mo_table_192 : decode prog_13_method_45_code 192 = .ok (.ishr, 1) := by decide +kernel
theorem d_Mo_table_193 : decode prog_13_method_45_code 193 = .ok (.iload 4, 2) := by decide +kernel
theorem d_Mo_table_195 : decode prog_13_method_45_code 195 = .ok (.if_icmp .ne 23, 3) := by decide +kernel
theorem d_Mo_table_198 : decode prog_13_method_45_code 198 = .ok (.iload 7, 2) := by decide +kernel
theorem d_Mo_table_200 : decode prog_13_method_45_code 200 = .ok (.iload_n 2, 1) := by decide +kernel
theorem d_Mo_table_201 : decode prog_13_method_45_code 201 = .ok (.isub, 1) := by decide +kernel
theorem d_Mo_table_202 : decode prog_13_method_45_code 202 = .ok (.iload 5, 2) := by decide +kernel
theorem d_Mo_table_204 : decode prog_13_method_45_code 204 = .ok (.if_icmp .le 10, 3) := by decide +kernel
theorem d_Mo_table_207 : decode prog_13_method_45_code 207 = .ok (.iload 7, 2) := by decide +kernel
theorem d_Mo_table_209 : decode prog_13_method_45_code 209 = .ok (.iload_n 2, 1) := by decide +kernel
theorem d_Mo_table_210 : decode prog_13_method_45_code 210 = .ok (.isub, 1) := by decide +kernel
theorem d_Mo_table_211 : decode prog_13_method_45_code 211 = .ok (.goto 5, 3) := by decide +kernel
theorem d_Mo_table_214 : decode prog_13_method_45_code 214 = .ok (.iload 5, 2) := by decide +kernel
theorem d_Mo_table_216 : decode prog_13_method_45_code 216 = .ok (.istore 5, 2) := by decide +kernel
theorem d_Mo_table_218 : decode prog_13_method_45_code 218 = .ok (.iinc 6 1, 3) := by decide +kernel
theorem d_Mo_table_221 : decode prog_13_method_45_code 221 = .ok (.goto (-66), 3) := by decide +kernel
theorem d_Mo_table_224 : decode prog_13_method_45_code 224 = .ok (.iload 5, 2) := by decide +kernel
theorem d_Mo_table_226 : decode prog_13_method_45_code 226 = .ok (.ifCond .le 13, 3) := by decide +kernel
theorem d_Mo_table_229 : decode prog_13_method_45_code 229 = .ok (.aload_n 0, 1) := by decide +kernel
theorem d_Mo_table_230 : decode prog_13_method_45_code 230 = .ok (.iload_n 1, 1) := by decide +kernel
theorem d_Mo_table_231 : decode prog_13_method_45_code 231 = .ok (.iload_n 2, 1) := by decide +kernel
theorem d_Mo_table_232 : decode prog_13_method_45_code 232 = .ok (.iload 4, 2) := by decide +kernel
theorem d_Mo_table_234 : decode prog_13_method_45_code 234 = .ok (.iload 5, 2) := by decide +kernel
theorem d_Mo_table_236 : decode prog_13_method_45_code 236 = .ok (.invokevirtual 204, 3) := by decide +kernel
theorem d_Mo_table_239 : decode prog_13_method_45_code 239 = .ok (.iinc 4 1, 3) := by decide +kernel
theorem d_Mo_table_242 : decode prog_13_method_45_code 242 = .ok (.goto (-99), 3) := by decide +kernel
theorem d_Mo_table_245 : decode prog_13_method_45_code 245 = .ok (.aload_n 0, 1) := by decide +kernel
theorem d_Mo_table_246 : decode prog_13_method_45_code 246 = .ok (.getfield 194, 3) := by decide +kernel
theorem d_Mo_table_249 : decode prog_13_method_45_code 249 = .ok (.ireturn, 1) := by decide +kernel
theorem d_Mo_entry_0 : decode prog_13_method_49_code 0 = .ok (.aload_n 0, 1) := by decide +kernel
theorem d_Mo_entry_1 : decode prog_13_method_49_code 1 = .ok (.iconst 0, 1) := by decide +kernel
theorem d_Mo_entry_2 : decode prog_13_method_49_code 2 = .ok (.putfield 81, 3) := by decide +kernel
theorem d_Mo_entry_5 : decode prog_13_method_49_code 5 = .ok (.iload_n 1, 1) := by decide +kernel
theorem d_Mo_entry_6 : decode prog_13_method_49_code 6 = .ok (.ifCond .lt 20, 3) := by decide +kernel
theorem d_Mo_entry_9 : decode prog_13_method_49_code 9 = .ok (.iload_n 1, 1) := by decide +kernel
theorem d_Mo_entry_10 : decode prog_13_method_49_code 10 = .ok (.aload_n 0, 1) := by decide +kernel
theorem d_Mo_entry_11 : decode prog_13_method_49_code 11 = .ok (.getfield 194, 3) := by decide +kernel
theorem d_Mo_entry_14 : decode prog_13_method_49_code 14 = .ok (.if_icmp .ge 12, 3) := by decide +kernel
theorem d_Mo_entry_17 : decode prog_13_method_49_code 17 = .ok (.iload_n 2, 1) := by decide +kernel
theorem d_Mo_entry_18 : decode prog_13_method_49_code 18 = .ok (.ifCond .lt 8, 3) := by decide +kernel
theorem d_Mo_entry_21 : decode prog_13_method_49_code 21 = .ok (.iload_n 2, 1) := by decide +kernel
theorem d_Mo_entry_22 : decode prog_13_method_49_code 22 = .ok (.iconst 2, 1) := by decide +kernel
theorem d_Mo_entry_23 : decode prog_13_method_49_code 23 = .ok (.if_icmp .le 10, 3) := by decide +kernel
theorem d_Mo_entry_26 : decode prog_13_method_49_code 26 = .ok (.aload_n 0, 1) := by decide +kernel
theorem d_Mo_entry_27 : decode prog_13_method_49_code 27 = .ok (.iconst 1, 1) := by decide +kernel
theorem d_Mo_entry_28 : decode prog_13_method_49_code 28 = .ok (.putfield 81, 3) := by decide +kernel
theorem d_Mo_entry_31 : decode prog_13_method_49_code 31 = .ok (.iconst 0, 1) := by decide +kernel
theorem d_Mo_entry_32 : decode prog_13_method_49_code 32 = .ok (.ireturn, 1) := by decide +kernel
theorem d_Mo_entry_33 : decode prog_13_method_49_code 33 = .ok (.iload_n 2, 1) := by decide +kernel
theorem d_Mo_entry_34 : decode prog_13_method_49_code 34 = .ok (.ifCond .ne 12, 3) := by decide +kernel
theorem d_Mo_entry_37 : decode prog_13_method_49_code 37 = .ok (.aload_n 0, 1) := by decide +kernel
theorem d_Mo_entry_38 : decode prog_13_method_49_code 38 = .ok (.getfield 50, 3) := by decide +kernel
theorem d_Mo_entry_41 : decode prog_13_method_49_code 41 = .ok (.iload_n 1, 1) := by decide +kernel
theorem d_Mo_entry_42 : decode prog_13_method_49_code 42 = .ok (.baload, 1) := by decide +kernel
theorem d_Mo_entry_43 : decode prog_13_method_49_code 43 = .ok (.goto 23, 3) := by decide +kernel
theorem d_Mo_entry_46 : decode prog_13_method_49_code 46 = .ok (.iload_n 2, 1) := by decide +kernel
theorem d_Mo_entry_47 : decode prog_13_method_49_code 47 = .ok (.iconst 1, 1) := by decide +kernel
theorem d_Mo_entry_48 : decode prog_13_method_49_code 48 = .ok (.if_icmp .ne 12, 3) := by decide +kernel
theorem d_Mo_entry_51 : decode prog_13_method_49_code 51 = .ok (.aload_n 0, 1) := by decide +kernel
theorem d_Mo_entry_52 : decode prog_13_method_49_code 52 = .ok (.getfield 53, 3) := by decide +kernel
theorem d_Mo_entry_55 : decode prog_13_method_49_code 55 = .ok (.iload_n 1, 1) := by decide +kernel
theorem d_Mo_entry_56 : decode prog_13_method_49_code 56 = .ok (.iaload, 1) := by decide +kernel
theorem d_Mo_entry_57 : decode prog_13_method_49_code 57 = .ok (.goto 9, 3) := by decide +kernel
theorem d_Mo_entry_60 : decode prog_13_method_49_code 60 = .ok (.aload_n 0, 1) := by decide +kernel
theorem d_Mo_entry_61 : decode prog_13_method_49_code 61 = .ok (.getfield 56, 3) := by decide +kernel
theorem d_Mo_entry_64 : decode prog_13_method_49_code 64 = .ok (.iload_n 1, 1) := by decide +kernel
theorem d_Mo_entry_65 : decode prog_13_method_49_code 65 = .ok (.iaload, 1) := by decide +kernel
theorem d_Mo_entry_66 : decode prog_13_method_49_code 66 = .ok (.ireturn, 1) := by decide +kernel
theorem d_Mo_at_0 : decode prog_13_method_51_code 0 = .ok (.iload_n 0, 1) := by decide +kernel
theorem d_Mo_at_1 : decode prog_13_method_51_code 1 = .ok (.ifCond .ne 7, 3) := by decide +kernel
theorem d_Mo_at_4 : decode prog_13_method_51_code 4 = .ok (.iload_n 1, 1) := by decide +kernel
theorem d_Mo_at_5 : decode prog_13_method_51_code 5 = .ok (.goto 33, 3) := by decide +kernel
theorem d_Mo_at_8 : decode prog_13_method_51_code 8 = .ok (.iload_n 0, 1) := by decide +kernel
theorem d_Mo_at_9 : decode prog_13_method_51_code 9 = .ok (.iconst 1, 1) := by decide +kernel
theorem d_Mo_at_10 : decode prog_13_method_51_code 10 = .ok (.if_icmp .ne 7, 3) := by decide +kernel
theorem d_Mo_at_13 : decode prog_13_method_51_code 13 = .ok (.iload_n 2, 1) := by decide +kernel
theorem d_Mo_at_14 : decode prog_13_method_51_code 14 = .ok (.goto 24, 3) := by decide +kernel
theorem d_Mo_at_17 : decode prog_13_method_51_code 17 = .ok (.iload_n 0, 1) := by decide +kernel
theorem d_Mo_at_18 : decode prog_13_method_51_code 18 = .ok (.iconst 2, 1) := by decide +kernel
theorem d_Mo_at_19 : decode prog_13_method_51_code 19 = .ok (.if_icmp .ne 7, 3) := by decide +kernel
theorem d_Mo_at_22 : decode prog_13_method_51_code 22 = .ok (.iload_n 3, 1) := by decide +kernel
theorem d_Mo_at_23 : decode prog_13_method_51_code 23 = .ok (.goto 15, 3) := by decide +kernel
theorem d_Mo_at_26 : decode prog_13_method_51_code 26 = .ok (.iload_n 0, 1) := by decide +kernel
theorem d_Mo_at_27 : decode prog_13_method_51_code 27 = .ok (.iconst 3, 1) := by decide +kernel
theorem d_Mo_at_28 : decode prog_13_method_51_code 28 = .ok (.if_icmp .ne 8, 3) := by decide +kernel
theorem d_Mo_at_31 : decode prog_13_method_51_code 31 = .ok (.iload 4, 2) := by decide +kernel
theorem d_Mo_at_33 : decode prog_13_method_51_code 33 = .ok (.goto 5, 3) := by decide +kernel
theorem d_Mo_at_36 : decode prog_13_method_51_code 36 = .ok (.iload 5, 2) := by decide +kernel
theorem d_Mo_at_38 : decode prog_13_method_51_code 38 = .ok (.ireturn, 1) := by decide +kernel
theorem d_Mo_add_0 : decode prog_13_method_50_code 0 = .ok (.iconst 0, 1) := by decide +kernel
theorem d_Mo_add_1 : decode prog_13_method_50_code 1 = .ok (.istore 6, 2) := by decide +kernel
theorem d_Mo_add_3 : decode prog_13_method_50_code 3 = .ok (.iload 6, 2) := by decide +kernel
theorem d_Mo_add_5 : decode prog_13_method_50_code 5 = .ok (.iconst 5, 1) := by decide +kernel
theorem d_Mo_add_6 : decode prog_13_method_50_code 6 = .ok (.if_icmp .ge 44, 3) := by decide +kernel
theorem d_Mo_add_9 : decode prog_13_method_50_code 9 = .ok (.iload 6, 2) := by decide +kernel
theorem d_Mo_add_11 : decode prog_13_method_50_code 11 = .ok (.iload_n 1, 1) := by decide +kernel
theorem d_Mo_add_12 : decode prog_13_method_50_code 12 = .ok (.iload_n 2, 1) := by decide +kernel
theorem d_Mo_add_13 : decode prog_13_method_50_code 13 = .ok (.iload_n 3, 1) := by decide +kernel
theorem d_Mo_add_14 : decode prog_13_method_50_code 14 = .ok (.iload 4, 2) := by decide +kernel
theorem d_Mo_add_16 : decode prog_13_method_50_code 16 = .ok (.iload 5, 2) := by decide +kernel
theorem d_Mo_add_18 : decode prog_13_method_50_code 18 = .ok (.invokestatic 207, 3) := by decide +kernel
theorem d_Mo_add_21 : decode prog_13_method_50_code 21 = .ok (.ifCond .lt 29, 3) := by decide +kernel
theorem d_Mo_add_24 : decode prog_13_method_50_code 24 = .ok (.iload 6, 2) := by decide +kernel
theorem d_Mo_add_26 : decode prog_13_method_50_code 26 = .ok (.iload_n 1, 1) := by decide +kernel
theorem d_Mo_add_27 : decode prog_13_method_50_code 27 = .ok (.iload_n 2, 1) := by decide +kernel
theorem d_Mo_add_28 : decode prog_13_method_50_code 28 = .ok (.iload_n 3, 1) := by decide +kernel
theorem d_Mo_add_29 : decode prog_13_method_50_code 29 = .ok (.iload 4, 2) := by decide +kernel
theorem d_Mo_add_31 : decode prog_13_method_50_code 31 = .ok (.iload 5, 2) := by decide +kernel
theorem d_Mo_add_33 : decode prog_13_method_50_code 33 = .ok (.invokestatic 207, 3) := by decide +kernel
theorem d_Mo_add_36 : decode prog_13_method_50_code 36 = .ok (.bipush 64, 2) := by decide +kernel
theorem d_Mo_add_38 : decode prog_13_method_50_code 38 = .ok (.if_icmp .lt 6, 3) := by decide +kernel
theorem d_Mo_add_41 : decode prog_13_method_50_code 41 = .ok (.bipush (-102), 2) := by decide +kernel
theorem d_Mo_add_43 : decode prog_13_method_50_code 43 = .ok (.ireturn, 1) := by decide +kernel
theorem d_Mo_add_44 : decode prog_13_method_50_code 44 = .ok (.iinc 6 1, 3) := by decide +kernel
theorem d_Mo_add_47 : decode prog_13_method_50_code 47 = .ok (.goto (-44), 3) := by decide +kernel
theorem d_Mo_add_50 : decode prog_13_method_50_code 50 = .ok (.aload_n 0, 1) := by decide +kernel
theorem d_Mo_add_51 : decode prog_13_method_50_code 51 = .ok (.getfield 123, 3) := by decide +kernel
theorem d_Mo_add_54 : decode prog_13_method_50_code 54 = .ok (.iload 6, 2) := by decide +kernel
theorem d_Mo_add_56 : decode prog_13_method_50_code 56 = .ok (.iadd, 1) := by decide +kernel
theorem d_Mo_add_57 : decode prog_13_method_50_code 57 = .ok (.sipush 1000, 3) := by decide +kernel
theorem d_Mo_add_60 : decode prog_13_method_50_code 60 = .ok (.if_icmp .le 6, 3) := by decide +kernel
theorem d_Mo_add_63 : decode prog_13_method_50_code 63 = .ok (.bipush (-106), 2) := by decide +kernel
theorem d_Mo_add_65 : decode prog_13_method_50_code 65 = .ok (.ireturn, 1) := by decide +kernel
theorem d_Mo_add_66 : decode prog_13_method_50_code 66 = .ok (.iconst 0, 1) := by decide +kernel
theorem d_Mo_add_67 : decode prog_13_method_50_code 67 = .ok (.istore 7, 2) := by decide +kernel
theorem d_Mo_add_69 : decode prog_13_method_50_code 69 = .ok (.iload 7, 2) := by decide +kernel
theorem d_Mo_add_71 : decode prog_13_method_50_code 71 = .ok (.iload 6, 2) := by decide +kernel
theorem d_Mo_add_73 : decode prog_13_method_50_code 73 = .ok (.if_icmp .ge 40, 3) := by decide +kernel
theorem d_Mo_add_76 : decode prog_13_method_50_code 76 = .ok (.aload_n 0, 1) := by decide +kernel
theorem d_Mo_add_77 : decode prog_13_method_50_code 77 = .ok (.getfield 59, 3) := by decide +kernel
theorem d_Mo_add_80 : decode prog_13_method_50_code 80 = .ok (.aload_n 0, 1) := by decide +kernel
theorem d_Mo_add_81 : decode prog_13_method_50_code 81 = .ok (.getfield 123, 3) := by decide +kernel
theorem d_Mo_add_84 : decode prog_13_method_50_code 84 = .ok (.iload 7, 2) := by decide +kernel
theorem d_Mo_add_86 : decode prog_13_method_50_code 86 = .ok (.iload_n 1, 1) := by decide +kernel
theorem d_Mo_add_87 : decode prog_13_method_50_code 87 = .ok (.iload_n 2, 1) := by decide +kernel
theorem d_Mo_add_88 : decode prog_13_method_50_code 88 = .ok (.iload_n 3, 1) := by decide +kernel
theorem d_Mo_add_89 : decode prog_13_method_50_code 89 = .ok (.iload 4, 2) := by decide +kernel
theorem d_Mo_add_91 : decode prog_13_method_50_code 91 = .ok (.iload 5, 2) := by decide +kernel
theorem d_Mo_add_93 : decode prog_13_method_50_code 93 = .ok (.invokestatic 207, 3) := by decide +kernel
theorem d_Mo_add_96 : decode prog_13_method_50_code 96 = .ok (.iastore, 1) := by decide +kernel
theorem d_Mo_add_97 : decode prog_13_method_50_code 97 = .ok (.aload_n 0, 1) := by decide +kernel
theorem d_Mo_add_98 : decode prog_13_method_50_code 98 = .ok (.dup, 1) := by decide +kernel
theorem d_Mo_add_99 : decode prog_13_method_50_code 99 = .ok (.getfield 123, 3) := by decide +kernel
theorem d_Mo_add_102 : decode prog_13_method_50_code 102 = .ok (.iconst 1, 1) := by decide +kernel
theorem d_Mo_add_103 : decode prog_13_method_50_code 103 = .ok (.iadd, 1) := by decide +kernel
theorem d_Mo_add_104 : decode prog_13_method_50_code 104 = .ok (.putfield 123, 3) := by decide +kernel
theorem d_Mo_add_107 : decode prog_13_method_50_code 107 = .ok (.iinc 7 1, 3) := by decide +kernel
theorem d_Mo_add_110 : decode prog_13_method_50_code 110 = .ok (.goto (-41), 3) := by decide +kernel
theorem d_Mo_add_113 : decode prog_13_method_50_code 113 = .ok (.aload_n 0, 1) := by decide +kernel
theorem d_Mo_add_114 : decode prog_13_method_50_code 114 = .ok (.getfield 123, 3) := by decide +kernel
theorem d_Mo_add_117 : decode prog_13_method_50_code 117 = .ok (.ireturn, 1) := by decide +kernel
theorem d_Mo_forget_0 : decode prog_13_method_52_code 0 = .ok (.aload_n 0, 1) := by decide +kernel
theorem d_Mo_forget_1 : decode prog_13_method_52_code 1 = .ok (.getfield 123, 3) := by decide +kernel
theorem d_Mo_forget_4 : decode prog_13_method_52_code 4 = .ok (.istore_n 1, 1) := by decide +kernel
theorem d_Mo_forget_5 : decode prog_13_method_52_code 5 = .ok (.aload_n 0, 1) := by decide +kernel
theorem d_Mo_forget_6 : decode prog_13_method_52_code 6 = .ok (.iconst 0, 1) := by decide +kernel
theorem d_Mo_forget_7 : decode prog_13_method_52_code 7 = .ok (.putfield 123, 3) := by decide +kernel
theorem d_Mo_forget_10 : decode prog_13_method_52_code 10 = .ok (.iload_n 1, 1) := by decide +kernel
theorem d_Mo_forget_11 : decode prog_13_method_52_code 11 = .ok (.ireturn, 1) := by decide +kernel
theorem d_Mo_groupOf_0 : decode prog_13_method_53_code 0 = .ok (.iload_n 1, 1) := by decide +kernel
theorem d_Mo_groupOf_1 : decode prog_13_method_53_code 1 = .ok (.iload_n 2, 1) := by decide +kernel
theorem d_Mo_groupOf_2 : decode prog_13_method_53_code 2 = .ok (.imul, 1) := by decide +kernel
theorem d_Mo_groupOf_3 : decode prog_13_method_53_code 3 = .ok (.aload_n 0, 1) := by decide +kernel
theorem d_Mo_groupOf_4 : decode prog_13_method_53_code 4 = .ok (.getfield 211, 3) := by decide +kernel
theorem d_Mo_groupOf_7 : decode prog_13_method_53_code 7 = .ok (.idiv, 1) := by decide +kernel
theorem d_Mo_groupOf_8 : decode prog_13_method_53_code 8 = .ok (.ireturn, 1) := by decide +kernel
noncomputable def lb_Mo_table_103 (a1 : Int32) (a2 : Int32) (x5 : Int32) (v4 : Int32) (x9 : Int32) (x14 : Int32) (σ : St) (v7 : Int32) : Option ((St × Int32) ⊕ ((St × Int32))) :=
  if (1 <<< ((a2 - x9) &&& 31)) ≤ v7 then
    some (.inr (σ, v7))
  else
  b1 (f_Mo_putEntry σ (x14 + v7) 1 v4 x9) fun σ15 =>
  nm (v7 + 1) fun x16 =>
  some (.inl (σ15, x16))
noncomputable def lb_Mo_table_55 (a1 : Int32) (a2 : Int32) (x5 : Int32) (σ : St) (v4 : Int32) : Option ((St × Int32) ⊕ ((St × Int32))) :=
  gd (ib a1 13) <|
  if (σ.1 49 0 a1.toNatClampNeg) ≤ v4 then
    some (.inr (σ, v4))
  else
  b2 (f_Mo_lengthOf σ a1 v4) fun σ8 x9 =>
  if x9 ≤ 0 then
    nm (v4 + 1) fun x10 =>
    some (.inl (σ8, x10))
  else
  if a2 < x9 then
    nm (v4 + 1) fun x11 =>
    some (.inl (σ8, x11))
  else
  b2 (f_Mo_wordOf σ8 a1 v4) fun σ12 x13 =>
  nm (x13 <<< ((a2 - x9) &&& 31)) fun x14 =>
  b2 (lpE (fun q => lb_Mo_table_103 a1 a2 x5 v4 x9 x14 q.1 q.2) (σ12, 0)) fun σ17 x18 =>
  nm (v4 + 1) fun x19 =>
  some (.inl (σ17, x19))
noncomputable def lb_Mo_table_155 (a1 : Int32) (a2 : Int32) (x5 : Int32) (v4 : Int32) (σ : St) (v5 : Int32) (v6 : Int32) : Option ((St × Int32 × Int32) ⊕ ((St × Int32 × Int32))) :=
  gd (ib a1 13) <|
  if (σ.1 49 0 a1.toNatClampNeg) ≤ v6 then
    some (.inr (σ, v5, v6))
  else
  b2 (f_Mo_lengthOf σ a1 v6) fun σ22 x23 =>
  if x23 ≤ a2 then
    nm (v6 + 1) fun x24 =>
    some (.inl (σ22, v5, x24))
  else
  b2 (f_Mo_wordOf σ22 a1 v6) fun σ25 x26 =>
  if (x26 >>> ((x23 - a2) &&& 31)) = v4 then
    if (x23 - a2) ≤ v5 then
      nm (v6 + 1) fun x28 =>
      some (.inl (σ25, v5, x28))
    else
    nm (x23 - a2) fun x29 =>
    nm (v6 + 1) fun x30 =>
    some (.inl (σ25, x29, x30))
  else
  nm (v6 + 1) fun x27 =>
  some (.inl (σ25, v5, x27))
noncomputable def lb_Mo_table_143 (a1 : Int32) (a2 : Int32) (x5 : Int32) (σ : St) (v4 : Int32) : Option ((St × Int32) ⊕ ((St × Int32))) :=
  if x5 ≤ v4 then
    some (.inr (σ, v4))
  else
  b3 (lpE (fun q => lb_Mo_table_155 a1 a2 x5 v4 q.1 q.2.1 q.2.2) (σ, 0, 0)) fun σ31 x32 x33 =>
  if x32 ≤ 0 then
    nm (v4 + 1) fun x34 =>
    some (.inl (σ31, x34))
  else
  b1 (f_Mo_part σ31 a1 a2 v4 x32) fun σ35 =>
  nm (v4 + 1) fun x36 =>
  some (.inl (σ35, x36))
noncomputable def f_Mo_table (σ : St) (a1 : Int32) (a2 : Int32) : Option (St × Int32) :=
  b2 (f_Mo_has σ a1) fun σ1 x2 =>
  if x2 = 0 then
    some (σ1, (-101))
  else
  if a2 < 1 then
    some (σ1, (-102))
  else
  if a2 ≤ 9 then
    b2 (f_Mo_kind σ1 a1) fun σ3 x4 =>
    if x4 = 4 then
      some (σ3, (-103))
    else
    nm (1 <<< (a2 &&& 31)) fun x5 =>
    nm (sI σ3 48 0 20 x5) fun σ6 =>
    b1 (f_Mo_clearEntries σ6 0 x5) fun σ7 =>
    b2 (lpE (fun q => lb_Mo_table_55 a1 a2 x5 q.1 q.2) (σ7, 0)) fun σ20 x21 =>
    b2 (lpE (fun q => lb_Mo_table_143 a1 a2 x5 q.1 q.2) (σ20, 0)) fun σ37 x38 =>
    some (σ37, σ37.1 48 0 20)
  else
  some (σ1, (-102))
noncomputable def f_Mo_entry (σ : St) (a1 : Int32) (a2 : Int32) : Option (St × Int32) :=
  nm (sI σ 48 0 0 0) fun σ1 =>
  if a1 < 0 then
    nm (sI σ1 48 0 0 1) fun σ2 =>
    some (σ2, 0)
  else
  if (σ1.1 48 0 20) ≤ a1 then
    nm (sI σ1 48 0 0 1) fun σ3 =>
    some (σ3, 0)
  else
  if a2 < 0 then
    nm (sI σ1 48 0 0 1) fun σ4 =>
    some (σ4, 0)
  else
  if a2 ≤ 2 then
    if a2 = 0 then
      gd (ib a1 80000) <|
      some (σ1, σ1.1 61 0 a1.toNatClampNeg)
    else
    if a2 = 1 then
      gd (ib a1 80000) <|
      some (σ1, σ1.1 62 0 a1.toNatClampNeg)
    else
    gd (ib a1 80000) <|
    some (σ1, σ1.1 63 0 a1.toNatClampNeg)
  else
  nm (sI σ1 48 0 0 1) fun σ5 =>
  some (σ5, 0)
noncomputable def f_Mo_at (σ : St) (a1 : Int32) (a2 : Int32) (a3 : Int32) (a4 : Int32) (a5 : Int32) (a6 : Int32) : Option (St × Int32) :=
  if a1 = 0 then
    some (σ, a2)
  else
  if a1 = 1 then
    some (σ, a3)
  else
  if a1 = 2 then
    some (σ, a4)
  else
  if a1 = 3 then
    some (σ, a5)
  else
  some (σ, a6)
noncomputable def lb_Mo_add_3 (a1 : Int32) (a2 : Int32) (a3 : Int32) (a4 : Int32) (a5 : Int32) (σ : St) (v6 : Int32) : Option ((St × Int32) ⊕ ((St × Int32) ⊕ (St × Int32))) :=
  if 5 ≤ v6 then
    some (.inr (.inl (σ, v6)))
  else
  b2 (f_Mo_at σ v6 a1 a2 a3 a4 a5) fun σ1 x2 =>
  if x2 < 0 then
    some (.inr (.inl (σ1, v6)))
  else
  b2 (f_Mo_at σ1 v6 a1 a2 a3 a4 a5) fun σ3 x4 =>
  if x4 < 64 then
    nm (v6 + 1) fun x5 =>
    some (.inl (σ3, x5))
  else
  some (.inr (.inr (σ3, (-102))))
noncomputable def lb_Mo_add_69 (a1 : Int32) (a2 : Int32) (a3 : Int32) (a4 : Int32) (a5 : Int32) (x7 : Int32) (σ : St) (v7 : Int32) : Option ((St × Int32) ⊕ ((St × Int32))) :=
  if x7 ≤ v7 then
    some (.inr (σ, v7))
  else
  b2 (f_Mo_at σ v7 a1 a2 a3 a4 a5) fun σ8 x9 =>
  gd (ib (σ.1 48 0 22) 1000) <|
  nm (sI σ8 64 0 ((σ.1 48 0 22).toNatClampNeg) x9) fun σ10 =>
  nm (sI σ10 48 0 22 ((σ10.1 48 0 22) + 1)) fun σ11 =>
  nm (v7 + 1) fun x12 =>
  some (.inl (σ11, x12))
noncomputable def f_Mo_add (σ : St) (a1 : Int32) (a2 : Int32) (a3 : Int32) (a4 : Int32) (a5 : Int32) : Option (St × Int32) :=
  bs2 (lpE (fun q => lb_Mo_add_3 a1 a2 a3 a4 a5 q.1 q.2) (σ, 0)) (fun z => some z) fun σ6 x7 =>
  if ((σ6.1 48 0 22) + x7) ≤ 1000 then
    b2 (lpE (fun q => lb_Mo_add_69 a1 a2 a3 a4 a5 x7 q.1 q.2) (σ6, 0)) fun σ13 x14 =>
    some (σ13, σ13.1 48 0 22)
  else
  some (σ6, (-106))
noncomputable def f_Mo_forget (σ : St) : Option (St × Int32) :=
  nm (σ.1 48 0 22) fun x1 =>
  nm (sI σ 48 0 22 0) fun σ2 =>
  some (σ2, x1)
noncomputable def f_Mo_groupOf (σ : St) (a1 : Int32) (a2 : Int32) : Option (St × Int32) :=
  gd (¬ (σ.1 48 0 26) = 0) <|
  some (σ, (a1 * a2) / (σ.1 48 0 26))
set_option maxHeartbeats 4000000 in
set_option maxRecDepth 100000 in
theorem c_Mo_table (l : Launch) (D : va_G) (aC : Nat → ClassId) (A : Nat → Prop) (ad : Nat → Nat → Nat) (n : Nat) (σ : St) (a1 : Int32) (a2 : Int32) (o : St × Int32) (h : f_Mo_table σ a1 a2 = some o) : Met l y_Mo_table w_Mo_table rm_Mo_table (va_Pc [.ref (ad 48 0), .int a1, .int a2] (Pre D aC A ad n σ)) (va_Qi (fun r (_ : Unit) => r = o.2) (fun _ t => Hold D aC A ad n o.1 t.heap) A) 0 0 A := by
  refine Met.ofW (cc := prog_13_method_45_code) (maxL := 8) (ret := (some .int)) (by decide) rfl ?_
  intro p e s m args below meth c s₁ B hml hv
  obtain ⟨hargs, hH, hK, hZ⟩ := hv
  have hx := B.exec
  have hb := B.bytes
  have hr := B.returns
  have hts := atoms_spec (ws := w_Mo_table) B.pre
  have hg : ∀ w ∈ gW, w.before args s = true := fun w h => hts w (List.mem_cons_of_mem _ h)
  have hown : s.vm.findClass "PrefixCodesModel" = some m.cls := findClass_of_methodNamed B.named
  have hlocks := B.notSynchronized
  have hS : va_S A s.heap s.heap [] := va_S.rf
  have hl := lv_entry ([.ref (ad 48 0), .int a1, .int a2]) (n := 8) (Nat.le_of_ble_eq_true rfl)
  rw [show entryFrame m args 8 = entryFrame m (([.ref (ad 48 0), .int a1, .int a2] : List Value).toArray) 8 by rw [hargs], lg_entry_eq]
  generalize (lg_sl ([.ref (ad 48 0), .int a1, .int a2]) ++ List.replicate (8 - (lg_sl ([.ref (ad 48 0), .int a1, .int a2])).length) Slot.unset).toArray = ls at hl ⊢
  have hl : lv_has ls 8 [(0, .ref (ad 48 0)), (1, .int a1), (2, .int a2)] := hl
  generalize hQ0 : MQ below (va_Qi (fun r (_ : Unit) => r = o.2) (fun _ t => Hold D aC A ad n o.1 t.heap) A) args s 0 0 A = Q0
  unfold f_Mo_table at h
  refine lv_aload_n hx hb d_Mo_table_0 rfl (lv_at hl 0 rfl) ?_
  refine lv_iload_n hx hb d_Mo_table_1 rfl (lv_at hl 1 rfl) ?_
  obtain ⟨qc, hc2, h⟩ := b2_some h
  obtain ⟨σ1, x2⟩ := qc
  have h := b2_at h
  refine st_Vi (As := [.int a1]) (rest := []) ⟨hx, hb, hml, hown, hg⟩ (c_Mo_has l D aC A ad n _ a1 _ hc2) (cwG hg wd_426 wd_427 wd_429 wd_430 wd_428 yd_Mo_has ⟨Nat.le_of_ble_eq_true rfl, Nat.le_of_ble_eq_true rfl⟩) hK hH hS hZ hd_48 rfl rfl rfl hl.1 rfl (Nat.le_of_ble_eq_true rfl) d_Mo_table_2 ⟨Nat.zero_le _, Nat.zero_le _⟩ (fun H locs hH hS => ?_)
  refine lv_if_ne (tgt := 11) hx hb d_Mo_table_5 (by decide) (fun c5 => ?_) (fun c5 => ?_)
  · have h := ie h c5
    refine lv_iload_n hx hb d_Mo_table_11 rfl (lv_at hl 2 rfl) ?_
    refine lv_iconst (v := 1) hx hb d_Mo_table_12 (by decide) ?_
    refine lv_icmp_lt (tgt := 22) hx hb d_Mo_table_13 (by decide) (fun c13 => ?_) (fun c13 => ?_)
    · have h := it h c13
      refine lv_bipush (v := (-102)) hx hb d_Mo_table_22 (by decide) ?_
      cases h
      rw [← hQ0]
      exact W.iret hx hb hr (fun t ht hW => ⟨⟨_, (), rfl, rfl, by dsimp only; rw [ht]; exact hH⟩, hS.F ht⟩) hS.2.2 d_Mo_table_24
    · have h := ie h c13
      refine lv_iload_n hx hb d_Mo_table_16 rfl (lv_at hl 2 rfl) ?_
      refine lv_bipush (v := 9) hx hb d_Mo_table_17 (by decide) ?_
      refine lv_icmp_le (tgt := 25) hx hb d_Mo_table_19 (by decide) (fun c19 => ?_) (fun c19 => ?_)
      · have h := it h c19
        refine lv_aload_n hx hb d_Mo_table_25 rfl (lv_at hl 0 rfl) ?_
        refine lv_iload_n hx hb d_Mo_table_26 rfl (lv_at hl 1 rfl) ?_
        obtain ⟨qc, hc27, h⟩ := b2_some h
        obtain ⟨σ3, x4⟩ := qc
        have h := b2_at h
        refine st_Vi (As := [.int a1]) (rest := []) ⟨hx, hb, hml, hown, hg⟩ (c_Mo_kind l D aC A ad n _ a1 _ hc27) (cwG hg wd_457 wd_458 wd_459 wd_460 wd_428 yd_Mo_kind ⟨Nat.le_of_ble_eq_true rfl, Nat.le_of_ble_eq_true rfl⟩) hK hH hS hZ hd_48 rfl rfl rfl hl.1 rfl (Nat.le_of_ble_eq_true rfl) d_Mo_table_27 ⟨Nat.zero_le _, Nat.zero_le _⟩ (fun H locs hH hS => ?_)
        refine lv_iconst (v := 4) hx hb d_Mo_table_30 (by decide) ?_
        refine lv_icmp_ne (tgt := 37) hx hb d_Mo_table_31 (by decide) (fun c31 => ?_) (fun c31 => ?_)
        · have h := ie h c31
          refine lv_iconst (v := 1) hx hb d_Mo_table_37 (by decide) ?_
          refine lv_iload_n hx hb d_Mo_table_38 rfl (lv_at hl 2 rfl) ?_
          refine lv_ishl hx hb d_Mo_table_39 ?_
          refine lv_topi (fun x5 ex5 => ?_)
          have h := nm_at ex5 h
          refine lv_istore_n (lv' := [(3, .int x5), (0, .ref (ad 48 0)), (1, .int a1), (2, .int a2)]) hx hb d_Mo_table_40 rfl hl (by decide) rfl (fun ls hl => ?_)
          refine lv_aload_n hx hb d_Mo_table_41 rfl (lv_at hl 1 rfl) ?_
          refine lv_iload_n hx hb d_Mo_table_42 rfl (lv_at hl 0 rfl) ?_
          refine st_put hx hb hg hown hK hH hS (f := 48) (i := 0) hd_48 rfl rfl u_Mo t_Mo t_Mo_ok n_Mo 20 (by decide) (hg _ wd_558) rfl rfl rfl d_Mo_table_43 (fun σ6 H locs eσ6 hH hS => ?_)
          have h := nm_at eσ6 h
          refine lv_aload_n hx hb d_Mo_table_46 rfl (lv_at hl 1 rfl) ?_
          refine lv_iconst (v := 0) hx hb d_Mo_table_47 (by decide) ?_
          refine lv_iload_n hx hb d_Mo_table_48 rfl (lv_at hl 0 rfl) ?_
          obtain ⟨qc, hc49, h⟩ := b1_some h
          obtain ⟨σ7, rfl⟩ : ∃ z, z = qc := ⟨_, rfl⟩
          have h := b1_at h
          refine st_Vv (As := [.int 0, .int x5]) (rest := []) ⟨hx, hb, hml, hown, hg⟩ (c_Mo_clearEntries l D aC A ad n _ 0 x5 _ hc49) (cwG hg wd_559 wd_560 wd_561 wd_562 wd_428 yd_Mo_clearEntries ⟨Nat.le_of_ble_eq_true rfl, Nat.le_of_ble_eq_true rfl⟩) hK hH hS hZ hd_48 rfl rfl rfl hl.1 rfl (Nat.le_of_ble_eq_true rfl) d_Mo_table_49 ⟨Nat.zero_le _, Nat.zero_le _⟩ (fun H locs hH hS => ?_)
          refine lv_iconst (v := 0) hx hb d_Mo_table_52 (by decide) ?_
          refine lv_istore (lv' := [(4, .int 0), (3, .int x5), (0, .ref (ad 48 0)), (1, .int a1), (2, .int a2)]) hx hb d_Mo_table_53 hl (by decide) rfl (fun ls hl => ?_)
          obtain ⟨q1, hq1, h⟩ := b2_some h
          have K1 : ∀ (σ20 : St) (x21 : Int32) (H : Heap) (locs : List Loc) (ls : Array Slot), q1 = (σ20, x21) → Hold D aC A ad n σ20 H → va_S A s.heap H locs → lv_has ls 8 [(0, .ref (ad 48 0)), (1, .int a1), (2, .int a2), (3, .int x5), (4, .int x21)] → W p l e (headSpec w_Mo_table rm_Mo_table).room s m args below meth c H locs 0 0 Q0 (F0 m 140 ls []) := by
            intro σ20 x21 H locs ls eq1 hH hS hl
            subst eq1
            have h := b2_at h
            refine lv_iconst (v := 0) hx hb d_Mo_table_140 (by decide) ?_
            refine lv_istore (lv' := [(4, .int 0), (0, .ref (ad 48 0)), (1, .int a1), (2, .int a2), (3, .int x5)]) hx hb d_Mo_table_141 hl (by decide) rfl (fun ls hl => ?_)
            obtain ⟨q1, hq1, h⟩ := b2_some h
            have K1 : ∀ (σ37 : St) (x38 : Int32) (H : Heap) (locs : List Loc) (ls : Array Slot), q1 = (σ37, x38) → Hold D aC A ad n σ37 H → va_S A s.heap H locs → lv_has ls 8 [(0, .ref (ad 48 0)), (1, .int a1), (2, .int a2), (3, .int x5), (4, .int x38)] → W p l e (headSpec w_Mo_table rm_Mo_table).room s m args below meth c H locs 0 0 Q0 (F0 m 245 ls []) := by
              intro σ37 x38 H locs ls eq1 hH hS hl
              subst eq1
              have h := b2_at h
              refine lv_aload_n hx hb d_Mo_table_245 rfl (lv_at hl 0 rfl) ?_
              refine st_get hx hb hg hown hK hH (f := 48) (i := 0) hd_48 rfl rfl u_Mo 20 (by decide) (hg _ wd_558) (v := .int (σ37.1 48 0 20)) rfl d_Mo_table_246 ?_
              cases h
              rw [← hQ0]
              exact W.iret hx hb hr (fun t ht hW => ⟨⟨_, (), rfl, rfl, by dsimp only; rw [ht]; exact hH⟩, hS.F ht⟩) hS.2.2 d_Mo_table_249
            have loop1 : ∀ (k : Nat) (σ : St) (v4 : Int32) (H : Heap) (locs : List Loc) (ls : Array Slot), Hold D aC A ad n σ H → va_S A s.heap H locs → lv_has ls 8 [(0, .ref (ad 48 0)), (1, .int a1), (2, .int a2), (3, .int x5), (4, .int v4)] → lp (fun q => lb_Mo_table_143 a1 a2 x5 q.1 q.2) k (σ, v4) = some q1 → W p l e (headSpec w_Mo_table rm_Mo_table).room s m args below meth c H locs 0 0 Q0 (F0 m 143 ls []) := by
              intro k
              induction k with
              | zero => intro σ v4 H locs ls hH hS hl hlp; exact absurd hlp (lp_zero _ _ _)
              | succ k ih1 =>
                intro σ v4 H locs ls hH hS hl hlp
                obtain ⟨z1, h1, hk1⟩ := lp_succ hlp
                have h1 : lb_Mo_table_143 a1 a2 x5 σ v4 = some z1 := h1
                unfold lb_Mo_table_143 at h1
                refine lv_iload hx hb d_Mo_table_143 (lv_at hl 4 rfl) ?_
                refine lv_iload_n hx hb d_Mo_table_145 rfl (lv_at hl 3 rfl) ?_
                refine lv_icmp_ge (tgt := 245) hx hb d_Mo_table_146 (by decide) (fun c146 => ?_) (fun c146 => ?_)
                · have h1 := it h1 c146
                  cases h1
                  exact K1 σ v4 _ _ ls (Option.some.inj hk1).symm hH hS (lv_sub hl [0, 1, 2, 3, 4] rfl)
                · have h1 := ie h1 c146
                  refine lv_iconst (v := 0) hx hb d_Mo_table_149 (by decide) ?_
                  refine lv_istore (lv' := [(5, .int 0), (0, .ref (ad 48 0)), (1, .int a1), (2, .int a2), (3, .int x5), (4, .int v4)]) hx hb d_Mo_table_150 hl (by decide) rfl (fun ls hl => ?_)
                  refine lv_iconst (v := 0) hx hb d_Mo_table_152 (by decide) ?_
                  refine lv_istore (lv' := [(6, .int 0), (5, .int 0), (0, .ref (ad 48 0)), (1, .int a1), (2, .int a2), (3, .int x5), (4, .int v4)]) hx hb d_Mo_table_153 hl (by decide) rfl (fun ls hl => ?_)
                  obtain ⟨q2, hq2, h1⟩ := b3_some h1
                  have K2 : ∀ (σ31 : St) (x32 : Int32) (x33 : Int32) (H : Heap) (locs : List Loc) (ls : Array Slot), q2 = (σ31, x32, x33) → Hold D aC A ad n σ31 H → va_S A s.heap H locs → lv_has ls 8 [(0, .ref (ad 48 0)), (1, .int a1), (2, .int a2), (3, .int x5), (4, .int v4), (5, .int x32), (6, .int x33)] → W p l e (headSpec w_Mo_table rm_Mo_table).room s m args below meth c H locs 0 0 Q0 (F0 m 224 ls []) := by
                    intro σ31 x32 x33 H locs ls eq2 hH hS hl
                    subst eq2
                    have h1 := b3_at h1
                    refine lv_iload hx hb d_Mo_table_224 (lv_at hl 5 rfl) ?_
                    refine lv_if_le (tgt := 239) hx hb d_Mo_table_226 (by decide) (fun c226 => ?_) (fun c226 => ?_)
                    · have h1 := it h1 c226
                      obtain ⟨x34, ex34⟩ : ∃ y : Int32, y = v4 + 1 := ⟨_, rfl⟩
                      have h1 := nm_at ex34 h1
                      refine lv_iinc (v := x34) (lv' := [(4, .int x34), (0, .ref (ad 48 0)), (1, .int a1), (2, .int a2), (3, .int x5), (5, .int x32), (6, .int x33)]) hx hb d_Mo_table_239 hl (k := 4) rfl (by rw [ex34]; rfl) (by decide) rfl (fun ls hl => ?_)
                      refine lv_goto (tgt := 143) hx hb d_Mo_table_242 (by decide) ?_
                      cases h1
                      exact ih1 σ31 x34 _ _ ls hH hS (lv_sub hl [1, 2, 3, 4, 0] rfl) hk1
                    · have h1 := ie h1 c226
                      refine lv_aload_n hx hb d_Mo_table_229 rfl (lv_at hl 0 rfl) ?_
                      refine lv_iload_n hx hb d_Mo_table_230 rfl (lv_at hl 1 rfl) ?_
                      refine lv_iload_n hx hb d_Mo_table_231 rfl (lv_at hl 2 rfl) ?_
                      refine lv_iload hx hb d_Mo_table_232 (lv_at hl 4 rfl) ?_
                      refine lv_iload hx hb d_Mo_table_234 (lv_at hl 5 rfl) ?_
                      obtain ⟨qc, hc236, h1⟩ := b1_some h1
                      obtain ⟨σ35, rfl⟩ : ∃ z, z = qc := ⟨_, rfl⟩
                      have h1 := b1_at h1
                      refine st_Vv (As := [.int a1, .int a2, .int v4, .int x32]) (rest := []) ⟨hx, hb, hml, hown, hg⟩ (c_Mo_part l D aC A ad n _ a1 a2 v4 x32 _ hc236) (cwG hg wd_563 wd_564 wd_565 wd_566 wd_428 yd_Mo_part ⟨Nat.le_of_ble_eq_true rfl, Nat.le_of_ble_eq_true rfl⟩) hK hH hS hZ hd_48 rfl rfl rfl hl.1 rfl (Nat.le_of_ble_eq_true rfl) d_Mo_table_236 ⟨Nat.zero_le _, Nat.zero_le _⟩ (fun H locs hH hS => ?_)
                      obtain ⟨x36, ex36⟩ : ∃ y : Int32, y = v4 + 1 := ⟨_, rfl⟩
                      have h1 := nm_at ex36 h1
                      refine lv_iinc (v := x36) (lv' := [(4, .int x36), (0, .ref (ad 48 0)), (1, .int a1), (2, .int a2), (3, .int x5), (5, .int x32), (6, .int x33)]) hx hb d_Mo_table_239 hl (k := 4) rfl (by rw [ex36]; rfl) (by decide) rfl (fun ls hl => ?_)
                      refine lv_goto (tgt := 143) hx hb d_Mo_table_242 (by decide) ?_
                      cases h1
                      exact ih1 σ35 x36 _ _ ls hH hS (lv_sub hl [1, 2, 3, 4, 0] rfl) hk1
                  have loop2 : ∀ (k : Nat) (σ : St) (v5 : Int32) (v6 : Int32) (H : Heap) (locs : List Loc) (ls : Array Slot), Hold D aC A ad n σ H → va_S A s.heap H locs → lv_has ls 8 [(0, .ref (ad 48 0)), (1, .int a1), (2, .int a2), (3, .int x5), (4, .int v4), (5, .int v5), (6, .int v6)] → lp (fun q => lb_Mo_table_155 a1 a2 x5 v4 q.1 q.2.1 q.2.2) k (σ, v5, v6) = some q2 → W p l e (headSpec w_Mo_table rm_Mo_table).room s m args below meth c H locs 0 0 Q0 (F0 m 155 ls []) := by
                    intro k
                    induction k with
                    | zero => intro σ v5 v6 H locs ls hH hS hl hlp; exact absurd hlp (lp_zero _ _ _)
                    | succ k ih2 =>
                      intro σ v5 v6 H locs ls hH hS hl hlp
                      obtain ⟨z2, h2, hk2⟩ := lp_succ hlp
                      have h2 : lb_Mo_table_155 a1 a2 x5 v4 σ v5 v6 = some z2 := h2
                      unfold lb_Mo_table_155 at h2
                      refine lv_iload hx hb d_Mo_table_155 (lv_at hl 6 rfl) ?_
                      refine lv_aload_n hx hb d_Mo_table_157 rfl (lv_at hl 0 rfl) ?_
                      refine st_get hx hb hg hown hK hH (f := 48) (i := 0) hd_48 rfl rfl u_Mo 2 (by decide) (hg _ wd_425) (v := .ref (ad 49 0)) rfl d_Mo_table_158 ?_
                      refine lv_iload_n hx hb d_Mo_table_161 rfl (lv_at hl 1 rfl) ?_
                      obtain ⟨g162, h2⟩ := gd_some h2
                      refine st_iald hx hb hK hH (f := 49) (i := 0) hd_49 rfl g162 d_Mo_table_162 ?_
                      refine lv_icmp_ge (tgt := 224) hx hb d_Mo_table_163 (by decide) (fun c163 => ?_) (fun c163 => ?_)
                      · have h2 := it h2 c163
                        cases h2
                        exact K2 σ v5 v6 _ _ ls (Option.some.inj hk2).symm hH hS (lv_sub hl [0, 1, 2, 3, 4, 5, 6] rfl)
                      · have h2 := ie h2 c163
                        refine lv_aload_n hx hb d_Mo_table_166 rfl (lv_at hl 0 rfl) ?_
                        refine lv_iload_n hx hb d_Mo_table_167 rfl (lv_at hl 1 rfl) ?_
                        refine lv_iload hx hb d_Mo_table_168 (lv_at hl 6 rfl) ?_
                        obtain ⟨qc, hc170, h2⟩ := b2_some h2
                        obtain ⟨σ22, x23⟩ := qc
                        have h2 := b2_at h2
                        refine st_Vi (As := [.int a1, .int v6]) (rest := []) ⟨hx, hb, hml, hown, hg⟩ (c_Mo_lengthOf l D aC A ad n _ a1 v6 _ hc170) (cwG hg wd_440 wd_441 wd_442 wd_443 wd_428 yd_Mo_lengthOf ⟨Nat.le_of_ble_eq_true rfl, Nat.le_of_ble_eq_true rfl⟩) hK hH hS hZ hd_48 rfl rfl rfl hl.1 rfl (Nat.le_of_ble_eq_true rfl) d_Mo_table_170 ⟨Nat.zero_le _, Nat.zero_le _⟩ (fun H locs hH hS => ?_)
                        refine lv_istore (lv' := [(7, .int x23), (0, .ref (ad 48 0)), (1, .int a1), (2, .int a2), (3, .int x5), (4, .int v4), (5, .int v5), (6, .int v6)]) hx hb d_Mo_table_173 hl (by decide) rfl (fun ls hl => ?_)
                        refine lv_iload hx hb d_Mo_table_175 (lv_at hl 0 rfl) ?_
                        refine lv_iload_n hx hb d_Mo_table_177 rfl (lv_at hl 3 rfl) ?_
                        refine lv_icmp_le (tgt := 218) hx hb d_Mo_table_178 (by decide) (fun c178 => ?_) (fun c178 => ?_)
                        · have h2 := it h2 c178
                          obtain ⟨x24, ex24⟩ : ∃ y : Int32, y = v6 + 1 := ⟨_, rfl⟩
                          have h2 := nm_at ex24 h2
                          refine lv_iinc (v := x24) (lv' := [(6, .int x24), (7, .int x23), (0, .ref (ad 48 0)), (1, .int a1), (2, .int a2), (3, .int x5), (4, .int v4), (5, .int v5)]) hx hb d_Mo_table_218 hl (k := 7) rfl (by rw [ex24]; rfl) (by decide) rfl (fun ls hl => ?_)
                          refine lv_goto (tgt := 155) hx hb d_Mo_table_221 (by decide) ?_
                          cases h2
                          exact ih2 σ22 v5 x24 _ _ ls hH hS (lv_sub hl [2, 3, 4, 5, 6, 7, 0] rfl) hk2
                        · have h2 := ie h2 c178
                          refine lv_aload_n hx hb d_Mo_table_181 rfl (lv_at hl 1 rfl) ?_
                          refine lv_iload_n hx hb d_Mo_table_182 rfl (lv_at hl 2 rfl) ?_
                          refine lv_iload hx hb d_Mo_table_183 (lv_at hl 7 rfl) ?_
                          obtain ⟨qc, hc185, h2⟩ := b2_some h2
                          obtain ⟨σ25, x26⟩ := qc
                          have h2 := b2_at h2
                          refine st_Vi (As := [.int a1, .int v6]) (rest := []) ⟨hx, hb, hml, hown, hg⟩ (c_Mo_wordOf l D aC A ad n _ a1 v6 _ hc185) (cwG hg wd_461 wd_462 wd_463 wd_464 wd_428 yd_Mo_wordOf ⟨Nat.le_of_ble_eq_true rfl, Nat.le_of_ble_eq_true rfl⟩) hK hH hS hZ hd_48 rfl rfl rfl hl.1 rfl (Nat.le_of_ble_eq_true rfl) d_Mo_table_185 ⟨Nat.zero_le _, Nat.zero_le _⟩ (fun H locs hH hS => ?_)
                          refine lv_iload hx hb d_Mo_table_188 (lv_at hl 0 rfl) ?_
                          refine lv_iload_n hx hb d_Mo_table_190 rfl (lv_at hl 3 rfl) ?_
                          refine lv_isub hx hb d_Mo_table_191 ?_
                          refine lv_ishr hx hb d_Mo_table_192 ?_
                          refine lv_iload hx hb d_Mo_table_193 (lv_at hl 5 rfl) ?_
                          refine lv_icmp_ne (tgt := 218) hx hb d_Mo_table_195 (by decide) (fun c195 => ?_) (fun c195 => ?_)
                          · have h2 := ie h2 c195
                            obtain ⟨x27, ex27⟩ : ∃ y : Int32, y = v6 + 1 := ⟨_, rfl⟩
                            have h2 := nm_at ex27 h2
                            refine lv_iinc (v := x27) (lv' := [(6, .int x27), (7, .int x23), (0, .ref (ad 48 0)), (1, .int a1), (2, .int a2), (3, .int x5), (4, .int v4), (5, .int v5)]) hx hb d_Mo_table_218 hl (k := 7) rfl (by rw [ex27]; rfl) (by decide) rfl (fun ls hl => ?_)
                            refine lv_goto (tgt := 155) hx hb d_Mo_table_221 (by decide) ?_
                            cases h2
                            exact ih2 σ25 v5 x27 _ _ ls hH hS (lv_sub hl [2, 3, 4, 5, 6, 7, 0] rfl) hk2
                          · have h2 := it h2 c195
                            refine lv_iload hx hb d_Mo_table_198 (lv_at hl 0 rfl) ?_
                            refine lv_iload_n hx hb d_Mo_table_200 rfl (lv_at hl 3 rfl) ?_
                            refine lv_isub hx hb d_Mo_table_201 ?_
                            refine lv_iload hx hb d_Mo_table_202 (lv_at hl 6 rfl) ?_
                            refine lv_icmp_le (tgt := 214) hx hb d_Mo_table_204 (by decide) (fun c204 => ?_) (fun c204 => ?_)
                            · have h2 := it h2 c204
                              refine lv_iload hx hb d_Mo_table_214 (lv_at hl 6 rfl) ?_
                              refine lv_istore (lv' := [(5, .int v5), (7, .int x23), (0, .ref (ad 48 0)), (1, .int a1), (2, .int a2), (3, .int x5), (4, .int v4), (6, .int v6)]) hx hb d_Mo_table_216 hl (by decide) rfl (fun ls hl => ?_)
                              obtain ⟨x28, ex28⟩ : ∃ y : Int32, y = v6 + 1 := ⟨_, rfl⟩
                              have h2 := nm_at ex28 h2
                              refine lv_iinc (v := x28) (lv' := [(6, .int x28), (5, .int v5), (7, .int x23), (0, .ref (ad 48 0)), (1, .int a1), (2, .int a2), (3, .int x5), (4, .int v4)]) hx hb d_Mo_table_218 hl (k := 7) rfl (by rw [ex28]; rfl) (by decide) rfl (fun ls hl => ?_)
                              refine lv_goto (tgt := 155) hx hb d_Mo_table_221 (by decide) ?_
                              cases h2
                              exact ih2 σ25 v5 x28 _ _ ls hH hS (lv_sub hl [3, 4, 5, 6, 7, 1, 0] rfl) hk2
                            · have h2 := ie h2 c204
                              refine lv_iload hx hb d_Mo_table_207 (lv_at hl 0 rfl) ?_
                              refine lv_iload_n hx hb d_Mo_table_209 rfl (lv_at hl 3 rfl) ?_
                              refine lv_isub hx hb d_Mo_table_210 ?_
                              refine lv_goto (tgt := 216) hx hb d_Mo_table_211 (by decide) ?_
                              refine lv_topi (fun x29 ex29 => ?_)
                              have h2 := nm_at ex29 h2
                              refine lv_istore (lv' := [(5, .int x29), (7, .int x23), (0, .ref (ad 48 0)), (1, .int a1), (2, .int a2), (3, .int x5), (4, .int v4), (6, .int v6)]) hx hb d_Mo_table_216 hl (by decide) rfl (fun ls hl => ?_)
                              obtain ⟨x30, ex30⟩ : ∃ y : Int32, y = v6 + 1 := ⟨_, rfl⟩
                              have h2 := nm_at ex30 h2
                              refine lv_iinc (v := x30) (lv' := [(6, .int x30), (5, .int x29), (7, .int x23), (0, .ref (ad 48 0)), (1, .int a1), (2, .int a2), (3, .int x5), (4, .int v4)]) hx hb d_Mo_table_218 hl (k := 7) rfl (by rw [ex30]; rfl) (by decide) rfl (fun ls hl => ?_)
                              refine lv_goto (tgt := 155) hx hb d_Mo_table_221 (by decide) ?_
                              cases h2
                              exact ih2 σ25 x29 x30 _ _ ls hH hS (lv_sub hl [3, 4, 5, 6, 7, 1, 0] rfl) hk2
                  obtain ⟨k2, hq2⟩ := lpE_some hq2
                  exact loop2 k2 σ 0 0 _ _ ls hH hS (lv_sub hl [2, 3, 4, 5, 6, 1, 0] rfl) hq2
            obtain ⟨k1, hq1⟩ := lpE_some hq1
            exact loop1 k1 σ20 0 _ _ ls hH hS (lv_sub hl [1, 2, 3, 4, 0] rfl) hq1
          have loop1 : ∀ (k : Nat) (σ : St) (v4 : Int32) (H : Heap) (locs : List Loc) (ls : Array Slot), Hold D aC A ad n σ H → va_S A s.heap H locs → lv_has ls 8 [(0, .ref (ad 48 0)), (1, .int a1), (2, .int a2), (3, .int x5), (4, .int v4)] → lp (fun q => lb_Mo_table_55 a1 a2 x5 q.1 q.2) k (σ, v4) = some q1 → W p l e (headSpec w_Mo_table rm_Mo_table).room s m args below meth c H locs 0 0 Q0 (F0 m 55 ls []) := by
            intro k
            induction k with
            | zero => intro σ v4 H locs ls hH hS hl hlp; exact absurd hlp (lp_zero _ _ _)
            | succ k ih1 =>
              intro σ v4 H locs ls hH hS hl hlp
              obtain ⟨z1, h1, hk1⟩ := lp_succ hlp
              have h1 : lb_Mo_table_55 a1 a2 x5 σ v4 = some z1 := h1
              unfold lb_Mo_table_55 at h1
              refine lv_iload hx hb d_Mo_table_55 (lv_at hl 4 rfl) ?_
              refine lv_aload_n hx hb d_Mo_table_57 rfl (lv_at hl 0 rfl) ?_
              refine st_get hx hb hg hown hK hH (f := 48) (i := 0) hd_48 rfl rfl u_Mo 2 (by decide) (hg _ wd_425) (v := .ref (ad 49 0)) rfl d_Mo_table_58 ?_
              refine lv_iload_n hx hb d_Mo_table_61 rfl (lv_at hl 1 rfl) ?_
              obtain ⟨g62, h1⟩ := gd_some h1
              refine st_iald hx hb hK hH (f := 49) (i := 0) hd_49 rfl g62 d_Mo_table_62 ?_
              refine lv_icmp_ge (tgt := 140) hx hb d_Mo_table_63 (by decide) (fun c63 => ?_) (fun c63 => ?_)
              · have h1 := it h1 c63
                cases h1
                exact K1 σ v4 _ _ ls (Option.some.inj hk1).symm hH hS (lv_sub hl [0, 1, 2, 3, 4] rfl)
              · have h1 := ie h1 c63
                refine lv_aload_n hx hb d_Mo_table_66 rfl (lv_at hl 0 rfl) ?_
                refine lv_iload_n hx hb d_Mo_table_67 rfl (lv_at hl 1 rfl) ?_
                refine lv_iload hx hb d_Mo_table_68 (lv_at hl 4 rfl) ?_
                obtain ⟨qc, hc70, h1⟩ := b2_some h1
                obtain ⟨σ8, x9⟩ := qc
                have h1 := b2_at h1
                refine st_Vi (As := [.int a1, .int v4]) (rest := []) ⟨hx, hb, hml, hown, hg⟩ (c_Mo_lengthOf l D aC A ad n _ a1 v4 _ hc70) (cwG hg wd_440 wd_441 wd_442 wd_443 wd_428 yd_Mo_lengthOf ⟨Nat.le_of_ble_eq_true rfl, Nat.le_of_ble_eq_true rfl⟩) hK hH hS hZ hd_48 rfl rfl rfl hl.1 rfl (Nat.le_of_ble_eq_true rfl) d_Mo_table_70 ⟨Nat.zero_le _, Nat.zero_le _⟩ (fun H locs hH hS => ?_)
                refine lv_istore (lv' := [(5, .int x9), (0, .ref (ad 48 0)), (1, .int a1), (2, .int a2), (3, .int x5), (4, .int v4)]) hx hb d_Mo_table_73 hl (by decide) rfl (fun ls hl => ?_)
                refine lv_iload hx hb d_Mo_table_75 (lv_at hl 0 rfl) ?_
                refine lv_if_le (tgt := 134) hx hb d_Mo_table_77 (by decide) (fun c77 => ?_) (fun c77 => ?_)
                · have h1 := it h1 c77
                  obtain ⟨x10, ex10⟩ : ∃ y : Int32, y = v4 + 1 := ⟨_, rfl⟩
                  have h1 := nm_at ex10 h1
                  refine lv_iinc (v := x10) (lv' := [(4, .int x10), (5, .int x9), (0, .ref (ad 48 0)), (1, .int a1), (2, .int a2), (3, .int x5)]) hx hb d_Mo_table_134 hl (k := 5) rfl (by rw [ex10]; rfl) (by decide) rfl (fun ls hl => ?_)
                  refine lv_goto (tgt := 55) hx hb d_Mo_table_137 (by decide) ?_
                  cases h1
                  exact ih1 σ8 x10 _ _ ls hH hS (lv_sub hl [2, 3, 4, 5, 0] rfl) hk1
                · have h1 := ie h1 c77
                  refine lv_iload hx hb d_Mo_table_80 (lv_at hl 0 rfl) ?_
                  refine lv_iload_n hx hb d_Mo_table_82 rfl (lv_at hl 3 rfl) ?_
                  refine lv_icmp_gt (tgt := 134) hx hb d_Mo_table_83 (by decide) (fun c83 => ?_) (fun c83 => ?_)
                  · have h1 := it h1 c83
                    obtain ⟨x11, ex11⟩ : ∃ y : Int32, y = v4 + 1 := ⟨_, rfl⟩
                    have h1 := nm_at ex11 h1
                    refine lv_iinc (v := x11) (lv' := [(4, .int x11), (5, .int x9), (0, .ref (ad 48 0)), (1, .int a1), (2, .int a2), (3, .int x5)]) hx hb d_Mo_table_134 hl (k := 5) rfl (by rw [ex11]; rfl) (by decide) rfl (fun ls hl => ?_)
                    refine lv_goto (tgt := 55) hx hb d_Mo_table_137 (by decide) ?_
                    cases h1
                    exact ih1 σ8 x11 _ _ ls hH hS (lv_sub hl [2, 3, 4, 5, 0] rfl) hk1
                  · have h1 := ie h1 c83
                    refine lv_aload_n hx hb d_Mo_table_86 rfl (lv_at hl 1 rfl) ?_
                    refine lv_iload_n hx hb d_Mo_table_87 rfl (lv_at hl 2 rfl) ?_
                    refine lv_iload hx hb d_Mo_table_88 (lv_at hl 5 rfl) ?_
                    obtain ⟨qc, hc90, h1⟩ := b2_some h1
                    obtain ⟨σ12, x13⟩ := qc
                    have h1 := b2_at h1
                    refine st_Vi (As := [.int a1, .int v4]) (rest := []) ⟨hx, hb, hml, hown, hg⟩ (c_Mo_wordOf l D aC A ad n _ a1 v4 _ hc90) (cwG hg wd_461 wd_462 wd_463 wd_464 wd_428 yd_Mo_wordOf ⟨Nat.le_of_ble_eq_true rfl, Nat.le_of_ble_eq_true rfl⟩) hK hH hS hZ hd_48 rfl rfl rfl hl.1 rfl (Nat.le_of_ble_eq_true rfl) d_Mo_table_90 ⟨Nat.zero_le _, Nat.zero_le _⟩ (fun H locs hH hS => ?_)
                    refine lv_iload_n hx hb d_Mo_table_93 rfl (lv_at hl 3 rfl) ?_
                    refine lv_iload hx hb d_Mo_table_94 (lv_at hl 0 rfl) ?_
                    refine lv_isub hx hb d_Mo_table_96 ?_
                    refine lv_ishl hx hb d_Mo_table_97 ?_
                    refine lv_topi (fun x14 ex14 => ?_)
                    have h1 := nm_at ex14 h1
                    refine lv_istore (lv' := [(6, .int x14), (5, .int x9), (0, .ref (ad 48 0)), (1, .int a1), (2, .int a2), (3, .int x5), (4, .int v4)]) hx hb d_Mo_table_98 hl (by decide) rfl (fun ls hl => ?_)
                    refine lv_iconst (v := 0) hx hb d_Mo_table_100 (by decide) ?_
                    refine lv_istore (lv' := [(7, .int 0), (6, .int x14), (5, .int x9), (0, .ref (ad 48 0)), (1, .int a1), (2, .int a2), (3, .int x5), (4, .int v4)]) hx hb d_Mo_table_101 hl (by decide) rfl (fun ls hl => ?_)
                    obtain ⟨q2, hq2, h1⟩ := b2_some h1
                    have K2 : ∀ (σ17 : St) (x18 : Int32) (H : Heap) (locs : List Loc) (ls : Array Slot), q2 = (σ17, x18) → Hold D aC A ad n σ17 H → va_S A s.heap H locs → lv_has ls 8 [(0, .ref (ad 48 0)), (1, .int a1), (2, .int a2), (3, .int x5), (4, .int v4), (5, .int x9), (6, .int x14), (7, .int x18)] → W p l e (headSpec w_Mo_table rm_Mo_table).room s m args below meth c H locs 0 0 Q0 (F0 m 134 ls []) := by
                      intro σ17 x18 H locs ls eq2 hH hS hl
                      subst eq2
                      have h1 := b2_at h1
                      obtain ⟨x19, ex19⟩ : ∃ y : Int32, y = v4 + 1 := ⟨_, rfl⟩
                      have h1 := nm_at ex19 h1
                      refine lv_iinc (v := x19) (lv' := [(4, .int x19), (0, .ref (ad 48 0)), (1, .int a1), (2, .int a2), (3, .int x5), (5, .int x9), (6, .int x14), (7, .int x18)]) hx hb d_Mo_table_134 hl (k := 4) rfl (by rw [ex19]; rfl) (by decide) rfl (fun ls hl => ?_)
                      refine lv_goto (tgt := 55) hx hb d_Mo_table_137 (by decide) ?_
                      cases h1
                      exact ih1 σ17 x19 _ _ ls hH hS (lv_sub hl [1, 2, 3, 4, 0] rfl) hk1
                    have loop2 : ∀ (k : Nat) (σ : St) (v7 : Int32) (H : Heap) (locs : List Loc) (ls : Array Slot), Hold D aC A ad n σ H → va_S A s.heap H locs → lv_has ls 8 [(0, .ref (ad 48 0)), (1, .int a1), (2, .int a2), (3, .int x5), (4, .int v4), (5, .int x9), (6, .int x14), (7, .int v7)] → lp (fun q => lb_Mo_table_103 a1 a2 x5 v4 x9 x14 q.1 q.2) k (σ, v7) = some q2 → W p l e (headSpec w_Mo_table rm_Mo_table).room s m args below meth c H locs 0 0 Q0 (F0 m 103 ls []) := by
                      intro k
                      induction k with
                      | zero => intro σ v7 H locs ls hH hS hl hlp; exact absurd hlp (lp_zero _ _ _)
                      | succ k ih2 =>
                        intro σ v7 H locs ls hH hS hl hlp
                        obtain ⟨z2, h2, hk2⟩ := lp_succ hlp
                        have h2 : lb_Mo_table_103 a1 a2 x5 v4 x9 x14 σ v7 = some z2 := h2
                        unfold lb_Mo_table_103 at h2
                        refine lv_iload hx hb d_Mo_table_103 (lv_at hl 7 rfl) ?_
                        refine lv_iconst (v := 1) hx hb d_Mo_table_105 (by decide) ?_
                        refine lv_iload_n hx hb d_Mo_table_106 rfl (lv_at hl 2 rfl) ?_
                        refine lv_iload hx hb d_Mo_table_107 (lv_at hl 5 rfl) ?_
                        refine lv_isub hx hb d_Mo_table_109 ?_
                        refine lv_ishl hx hb d_Mo_table_110 ?_
                        refine lv_icmp_ge (tgt := 134) hx hb d_Mo_table_111 (by decide) (fun c111 => ?_) (fun c111 => ?_)
                        · have h2 := it h2 c111
                          cases h2
                          exact K2 σ v7 _ _ ls (Option.some.inj hk2).symm hH hS (lv_sub hl [0, 1, 2, 3, 4, 5, 6, 7] rfl)
                        · have h2 := ie h2 c111
                          refine lv_aload_n hx hb d_Mo_table_114 rfl (lv_at hl 0 rfl) ?_
                          refine lv_iload hx hb d_Mo_table_115 (lv_at hl 6 rfl) ?_
                          refine lv_iload hx hb d_Mo_table_117 (lv_at hl 7 rfl) ?_
                          refine lv_iadd hx hb d_Mo_table_119 ?_
                          refine lv_iconst (v := 1) hx hb d_Mo_table_120 (by decide) ?_
                          refine lv_iload hx hb d_Mo_table_121 (lv_at hl 4 rfl) ?_
                          refine lv_iload hx hb d_Mo_table_123 (lv_at hl 5 rfl) ?_
                          obtain ⟨qc, hc125, h2⟩ := b1_some h2
                          obtain ⟨σ15, rfl⟩ : ∃ z, z = qc := ⟨_, rfl⟩
                          have h2 := b1_at h2
                          refine st_Vv (As := [.int (x14 + v7), .int 1, .int v4, .int x9]) (rest := []) ⟨hx, hb, hml, hown, hg⟩ (c_Mo_putEntry l D aC A ad n _ (x14 + v7) 1 v4 x9 _ hc125) (cwG hg wd_554 wd_555 wd_556 wd_557 wd_428 yd_Mo_putEntry ⟨Nat.le_of_ble_eq_true rfl, Nat.le_of_ble_eq_true rfl⟩) hK hH hS hZ hd_48 rfl rfl rfl hl.1 rfl (Nat.le_of_ble_eq_true rfl) d_Mo_table_125 ⟨Nat.zero_le _, Nat.zero_le _⟩ (fun H locs hH hS => ?_)
                          obtain ⟨x16, ex16⟩ : ∃ y : Int32, y = v7 + 1 := ⟨_, rfl⟩
                          have h2 := nm_at ex16 h2
                          refine lv_iinc (v := x16) (lv' := [(7, .int x16), (0, .ref (ad 48 0)), (1, .int a1), (2, .int a2), (3, .int x5), (4, .int v4), (5, .int x9), (6, .int x14)]) hx hb d_Mo_table_128 hl (k := 7) rfl (by rw [ex16]; rfl) (by decide) rfl (fun ls hl => ?_)
                          refine lv_goto (tgt := 103) hx hb d_Mo_table_131 (by decide) ?_
                          cases h2
                          exact ih2 σ15 x16 _ _ ls hH hS (lv_sub hl [1, 2, 3, 4, 5, 6, 7, 0] rfl) hk2
                    obtain ⟨k2, hq2⟩ := lpE_some hq2
                    exact loop2 k2 σ12 0 _ _ ls hH hS (lv_sub hl [3, 4, 5, 6, 7, 2, 1, 0] rfl) hq2
          obtain ⟨k1, hq1⟩ := lpE_some hq1
          exact loop1 k1 σ7 0 _ _ ls hH hS (lv_sub hl [2, 3, 4, 1, 0] rfl) hq1
        · have h := it h c31
          refine lv_bipush (v := (-103)) hx hb d_Mo_table_34 (by decide) ?_
          cases h
          rw [← hQ0]
          exact W.iret hx hb hr (fun t ht hW => ⟨⟨_, (), rfl, rfl, by dsimp only; rw [ht]; exact hH⟩, hS.F ht⟩) hS.2.2 d_Mo_table_36
      · have h := ie h c19
        refine lv_bipush (v := (-102)) hx hb d_Mo_table_22 (by decide) ?_
        cases h
        rw [← hQ0]
        exact W.iret hx hb hr (fun t ht hW => ⟨⟨_, (), rfl, rfl, by dsimp only; rw [ht]; exact hH⟩, hS.F ht⟩) hS.2.2 d_Mo_table_24
  · have h := it h c5
    refine lv_bipush (v := (-101)) hx hb d_Mo_table_8 (by decide) ?_
    cases h
    rw [← hQ0]
    exact W.iret hx hb hr (fun t ht hW => ⟨⟨_, (), rfl, rfl, by dsimp only; rw [ht]; exact hH⟩, hS.F ht⟩) hS.2.2 d_Mo_table_10
set_option maxHeartbeats 4000000 in
set_option maxRecDepth 100000 in
theorem c_Mo_entry (l : Launch) (D : va_G) (aC : Nat → ClassId) (A : Nat → Prop) (ad : Nat → Nat → Nat) (n : Nat) (σ : St) (a1 : Int32) (a2 : Int32) (o : St × Int32) (h : f_Mo_entry σ a1 a2 = some o) : Met l y_Mo_entry w_Mo_entry rm_Mo_entry (va_Pc [.ref (ad 48 0), .int a1, .int a2] (Pre D aC A ad n σ)) (va_Qi (fun r (_ : Unit) => r = o.2) (fun _ t => Hold D aC A ad n o.1 t.heap) A) 0 0 A := by
  refine Met.ofW (cc := prog_13_method_49_code) (maxL := 3) (ret := (some .int)) (by decide) rfl ?_
  intro p e s m args below meth c s₁ B hml hv
  obtain ⟨hargs, hH, hK, hZ⟩ := hv
  have hx := B.exec
  have hb := B.bytes
  have hr := B.returns
  have hts := atoms_spec (ws := w_Mo_entry) B.pre
  have hg : ∀ w ∈ gW, w.before args s = true := fun w h => hts w (List.mem_cons_of_mem _ h)
  have hown : s.vm.findClass "PrefixCodesModel" = some m.cls := findClass_of_methodNamed B.named
  have hlocks := B.notSynchronized
  have hS : va_S A s.heap s.heap [] := va_S.rf
  have hl := lv_entry ([.ref (ad 48 0), .int a1, .int a2]) (n := 3) (Nat.le_of_ble_eq_true rfl)
  rw [show entryFrame m args 3 = entryFrame m (([.ref (ad 48 0), .int a1, .int a2] : List Value).toArray) 3 by rw [hargs], lg_entry_eq]
  generalize (lg_sl ([.ref (ad 48 0), .int a1, .int a2]) ++ List.replicate (3 - (lg_sl ([.ref (ad 48 0), .int a1, .int a2])).length) Slot.unset).toArray = ls at hl ⊢
  have hl : lv_has ls 3 [(0, .ref (ad 48 0)), (1, .int a1), (2, .int a2)] := hl
  generalize hQ0 : MQ below (va_Qi (fun r (_ : Unit) => r = o.2) (fun _ t => Hold D aC A ad n o.1 t.heap) A) args s 0 0 A = Q0
  unfold f_Mo_entry at h
  refine lv_aload_n hx hb d_Mo_entry_0 rfl (lv_at hl 0 rfl) ?_
  refine lv_iconst (v := 0) hx hb d_Mo_entry_1 (by decide) ?_
  refine st_put hx hb hg hown hK hH hS (f := 48) (i := 0) hd_48 rfl rfl u_Mo t_Mo t_Mo_ok n_Mo 0 (by decide) (hg _ wd_423) rfl rfl rfl d_Mo_entry_2 (fun σ1 H locs eσ1 hH hS => ?_)
  have h := nm_at eσ1 h
  refine lv_iload_n hx hb d_Mo_entry_5 rfl (lv_at hl 1 rfl) ?_
  refine lv_if_lt (tgt := 26) hx hb d_Mo_entry_6 (by decide) (fun c6 => ?_) (fun c6 => ?_)
  · have h := it h c6
    refine lv_aload_n hx hb d_Mo_entry_26 rfl (lv_at hl 0 rfl) ?_
    refine lv_iconst (v := 1) hx hb d_Mo_entry_27 (by decide) ?_
    refine st_put hx hb hg hown hK hH hS (f := 48) (i := 0) hd_48 rfl rfl u_Mo t_Mo t_Mo_ok n_Mo 0 (by decide) (hg _ wd_423) rfl rfl rfl d_Mo_entry_28 (fun σ2 H locs eσ2 hH hS => ?_)
    have h := nm_at eσ2 h
    refine lv_iconst (v := 0) hx hb d_Mo_entry_31 (by decide) ?_
    cases h
    rw [← hQ0]
    exact W.iret hx hb hr (fun t ht hW => ⟨⟨_, (), rfl, rfl, by dsimp only; rw [ht]; exact hH⟩, hS.F ht⟩) hS.2.2 d_Mo_entry_32
  · have h := ie h c6
    refine lv_iload_n hx hb d_Mo_entry_9 rfl (lv_at hl 1 rfl) ?_
    refine lv_aload_n hx hb d_Mo_entry_10 rfl (lv_at hl 0 rfl) ?_
    refine st_get hx hb hg hown hK hH (f := 48) (i := 0) hd_48 rfl rfl u_Mo 20 (by decide) (hg _ wd_558) (v := .int (σ1.1 48 0 20)) rfl d_Mo_entry_11 ?_
    refine lv_icmp_ge (tgt := 26) hx hb d_Mo_entry_14 (by decide) (fun c14 => ?_) (fun c14 => ?_)
    · have h := it h c14
      refine lv_aload_n hx hb d_Mo_entry_26 rfl (lv_at hl 0 rfl) ?_
      refine lv_iconst (v := 1) hx hb d_Mo_entry_27 (by decide) ?_
      refine st_put hx hb hg hown hK hH hS (f := 48) (i := 0) hd_48 rfl rfl u_Mo t_Mo t_Mo_ok n_Mo 0 (by decide) (hg _ wd_423) rfl rfl rfl d_Mo_entry_28 (fun σ3 H locs eσ3 hH hS => ?_)
      have h := nm_at eσ3 h
      refine lv_iconst (v := 0) hx hb d_Mo_entry_31 (by decide) ?_
      cases h
      rw [← hQ0]
      exact W.iret hx hb hr (fun t ht hW => ⟨⟨_, (), rfl, rfl, by dsimp only; rw [ht]; exact hH⟩, hS.F ht⟩) hS.2.2 d_Mo_entry_32
    · have h := ie h c14
      refine lv_iload_n hx hb d_Mo_entry_17 rfl (lv_at hl 2 rfl) ?_
      refine lv_if_lt (tgt := 26) hx hb d_Mo_entry_18 (by decide) (fun c18 => ?_) (fun c18 => ?_)
      · have h := it h c18
        refine lv_aload_n hx hb d_Mo_entry_26 rfl (lv_at hl 0 rfl) ?_
        refine lv_iconst (v := 1) hx hb d_Mo_entry_27 (by decide) ?_
        refine st_put hx hb hg hown hK hH hS (f := 48) (i := 0) hd_48 rfl rfl u_Mo t_Mo t_Mo_ok n_Mo 0 (by decide) (hg _ wd_423) rfl rfl rfl d_Mo_entry_28 (fun σ4 H locs eσ4 hH hS => ?_)
        have h := nm_at eσ4 h
        refine lv_iconst (v := 0) hx hb d_Mo_entry_31 (by decide) ?_
        cases h
        rw [← hQ0]
        exact W.iret hx hb hr (fun t ht hW => ⟨⟨_, (), rfl, rfl, by dsimp only; rw [ht]; exact hH⟩, hS.F ht⟩) hS.2.2 d_Mo_entry_32
      · have h := ie h c18
        refine lv_iload_n hx hb d_Mo_entry_21 rfl (lv_at hl 2 rfl) ?_
        refine lv_iconst (v := 2) hx hb d_Mo_entry_22 (by decide) ?_
        refine lv_icmp_le (tgt := 33) hx hb d_Mo_entry_23 (by decide) (fun c23 => ?_) (fun c23 => ?_)
        · have h := it h c23
          refine lv_iload_n hx hb d_Mo_entry_33 rfl (lv_at hl 2 rfl) ?_
          refine lv_if_ne (tgt := 46) hx hb d_Mo_entry_34 (by decide) (fun c34 => ?_) (fun c34 => ?_)
          · have h := ie h c34
            refine lv_iload_n hx hb d_Mo_entry_46 rfl (lv_at hl 2 rfl) ?_
            refine lv_iconst (v := 1) hx hb d_Mo_entry_47 (by decide) ?_
            refine lv_icmp_ne (tgt := 60) hx hb d_Mo_entry_48 (by decide) (fun c48 => ?_) (fun c48 => ?_)
            · have h := ie h c48
              refine lv_aload_n hx hb d_Mo_entry_60 rfl (lv_at hl 0 rfl) ?_
              refine st_get hx hb hg hown hK hH (f := 48) (i := 0) hd_48 rfl rfl u_Mo 19 (by decide) (hg _ wd_553) (v := .ref (ad 63 0)) rfl d_Mo_entry_61 ?_
              refine lv_iload_n hx hb d_Mo_entry_64 rfl (lv_at hl 1 rfl) ?_
              obtain ⟨g65, h⟩ := gd_some h
              refine st_iald hx hb hK hH (f := 63) (i := 0) hd_63 rfl g65 d_Mo_entry_65 ?_
              cases h
              rw [← hQ0]
              exact W.iret hx hb hr (fun t ht hW => ⟨⟨_, (), rfl, rfl, by dsimp only; rw [ht]; exact hH⟩, hS.F ht⟩) hS.2.2 d_Mo_entry_66
            · have h := it h c48
              refine lv_aload_n hx hb d_Mo_entry_51 rfl (lv_at hl 0 rfl) ?_
              refine st_get hx hb hg hown hK hH (f := 48) (i := 0) hd_48 rfl rfl u_Mo 18 (by decide) (hg _ wd_552) (v := .ref (ad 62 0)) rfl d_Mo_entry_52 ?_
              refine lv_iload_n hx hb d_Mo_entry_55 rfl (lv_at hl 1 rfl) ?_
              obtain ⟨g56, h⟩ := gd_some h
              refine st_iald hx hb hK hH (f := 62) (i := 0) hd_62 rfl g56 d_Mo_entry_56 ?_
              refine lv_goto (tgt := 66) hx hb d_Mo_entry_57 (by decide) ?_
              cases h
              rw [← hQ0]
              exact W.iret hx hb hr (fun t ht hW => ⟨⟨_, (), rfl, rfl, by dsimp only; rw [ht]; exact hH⟩, hS.F ht⟩) hS.2.2 d_Mo_entry_66
          · have h := it h c34
            refine lv_aload_n hx hb d_Mo_entry_37 rfl (lv_at hl 0 rfl) ?_
            refine st_get hx hb hg hown hK hH (f := 48) (i := 0) hd_48 rfl rfl u_Mo 17 (by decide) (hg _ wd_551) (v := .ref (ad 61 0)) rfl d_Mo_entry_38 ?_
            refine lv_iload_n hx hb d_Mo_entry_41 rfl (lv_at hl 1 rfl) ?_
            obtain ⟨g42, h⟩ := gd_some h
            refine st_bald hx hb hK hH (f := 61) (i := 0) hd_61 rfl g42 d_Mo_entry_42 ?_
            refine lv_goto (tgt := 66) hx hb d_Mo_entry_43 (by decide) ?_
            cases h
            rw [← hQ0]
            exact W.iret hx hb hr (fun t ht hW => ⟨⟨_, (), rfl, rfl, by dsimp only; rw [ht]; exact hH⟩, hS.F ht⟩) hS.2.2 d_Mo_entry_66
        · have h := ie h c23
          refine lv_aload_n hx hb d_Mo_entry_26 rfl (lv_at hl 0 rfl) ?_
          refine lv_iconst (v := 1) hx hb d_Mo_entry_27 (by decide) ?_
          refine st_put hx hb hg hown hK hH hS (f := 48) (i := 0) hd_48 rfl rfl u_Mo t_Mo t_Mo_ok n_Mo 0 (by decide) (hg _ wd_423) rfl rfl rfl d_Mo_entry_28 (fun σ5 H locs eσ5 hH hS => ?_)
          have h := nm_at eσ5 h
          refine lv_iconst (v := 0) hx hb d_Mo_entry_31 (by decide) ?_
          cases h
          rw [← hQ0]
          exact W.iret hx hb hr (fun t ht hW => ⟨⟨_, (), rfl, rfl, by dsimp only; rw [ht]; exact hH⟩, hS.F ht⟩) hS.2.2 d_Mo_entry_32
set_option maxHeartbeats 4000000 in
set_option maxRecDepth 100000 in
theorem c_Mo_at (l : Launch) (D : va_G) (aC : Nat → ClassId) (A : Nat → Prop) (ad : Nat → Nat → Nat) (n : Nat) (σ : St) (a1 : Int32) (a2 : Int32) (a3 : Int32) (a4 : Int32) (a5 : Int32) (a6 : Int32) (o : St × Int32) (h : f_Mo_at σ a1 a2 a3 a4 a5 a6 = some o) : Met l y_Mo_at w_Mo_at rm_Mo_at (va_Pc [.int a1, .int a2, .int a3, .int a4, .int a5, .int a6] (Pre D aC A ad n σ)) (va_Qi (fun r (_ : Unit) => r = o.2) (fun _ t => Hold D aC A ad n o.1 t.heap) A) 0 0 A := by
  refine Met.ofW (cc := prog_13_method_51_code) (maxL := 6) (ret := (some .int)) (by decide) rfl ?_
  intro p e s m args below meth c s₁ B hml hv
  obtain ⟨hargs, hH, hK, hZ⟩ := hv
  have hx := B.exec
  have hb := B.bytes
  have hr := B.returns
  have hts := atoms_spec (ws := w_Mo_at) B.pre
  have hg : ∀ w ∈ gW, w.before args s = true := fun w h => hts w (List.mem_cons_of_mem _ h)
  have hown : s.vm.findClass "PrefixCodesModel" = some m.cls := findClass_of_methodNamed B.named
  have hlocks := B.notSynchronized
  have hS : va_S A s.heap s.heap [] := va_S.rf
  have hl := lv_entry ([.int a1, .int a2, .int a3, .int a4, .int a5, .int a6]) (n := 6) (Nat.le_of_ble_eq_true rfl)
  rw [show entryFrame m args 6 = entryFrame m (([.int a1, .int a2, .int a3, .int a4, .int a5, .int a6] : List Value).toArray) 6 by rw [hargs], lg_entry_eq]
  generalize (lg_sl ([.int a1, .int a2, .int a3, .int a4, .int a5, .int a6]) ++ List.replicate (6 - (lg_sl ([.int a1, .int a2, .int a3, .int a4, .int a5, .int a6])).length) Slot.unset).toArray = ls at hl ⊢
  have hl : lv_has ls 6 [(0, .int a1), (1, .int a2), (2, .int a3), (3, .int a4), (4, .int a5), (5, .int a6)] := hl
  generalize hQ0 : MQ below (va_Qi (fun r (_ : Unit) => r = o.2) (fun _ t => Hold D aC A ad n o.1 t.heap) A) args s 0 0 A = Q0
  unfold f_Mo_at at h
  refine lv_iload_n hx hb d_Mo_at_0 rfl (lv_at hl 0 rfl) ?_
  refine lv_if_ne (tgt := 8) hx hb d_Mo_at_1 (by decide) (fun c1 => ?_) (fun c1 => ?_)
  · have h := ie h c1
    refine lv_iload_n hx hb d_Mo_at_8 rfl (lv_at hl 0 rfl) ?_
    refine lv_iconst (v := 1) hx hb d_Mo_at_9 (by decide) ?_
    refine lv_icmp_ne (tgt := 17) hx hb d_Mo_at_10 (by decide) (fun c10 => ?_) (fun c10 => ?_)
    · have h := ie h c10
      refine lv_iload_n hx hb d_Mo_at_17 rfl (lv_at hl 0 rfl) ?_
      refine lv_iconst (v := 2) hx hb d_Mo_at_18 (by decide) ?_
      refine lv_icmp_ne (tgt := 26) hx hb d_Mo_at_19 (by decide) (fun c19 => ?_) (fun c19 => ?_)
      · have h := ie h c19
        refine lv_iload_n hx hb d_Mo_at_26 rfl (lv_at hl 0 rfl) ?_
        refine lv_iconst (v := 3) hx hb d_Mo_at_27 (by decide) ?_
        refine lv_icmp_ne (tgt := 36) hx hb d_Mo_at_28 (by decide) (fun c28 => ?_) (fun c28 => ?_)
        · have h := ie h c28
          refine lv_iload hx hb d_Mo_at_36 (lv_at hl 5 rfl) ?_
          cases h
          rw [← hQ0]
          exact W.iret hx hb hr (fun t ht hW => ⟨⟨_, (), rfl, rfl, by dsimp only; rw [ht]; exact hH⟩, hS.F ht⟩) hS.2.2 d_Mo_at_38
        · have h := it h c28
          refine lv_iload hx hb d_Mo_at_31 (lv_at hl 4 rfl) ?_
          refine lv_goto (tgt := 38) hx hb d_Mo_at_33 (by decide) ?_
          cases h
          rw [← hQ0]
          exact W.iret hx hb hr (fun t ht hW => ⟨⟨_, (), rfl, rfl, by dsimp only; rw [ht]; exact hH⟩, hS.F ht⟩) hS.2.2 d_Mo_at_38
      · have h := it h c19
        refine lv_iload_n hx hb d_Mo_at_22 rfl (lv_at hl 3 rfl) ?_
        refine lv_goto (tgt := 38) hx hb d_Mo_at_23 (by decide) ?_
        cases h
        rw [← hQ0]
        exact W.iret hx hb hr (fun t ht hW => ⟨⟨_, (), rfl, rfl, by dsimp only; rw [ht]; exact hH⟩, hS.F ht⟩) hS.2.2 d_Mo_at_38
    · have h := it h c10
      refine lv_iload_n hx hb d_Mo_at_13 rfl (lv_at hl 2 rfl) ?_
      refine lv_goto (tgt := 38) hx hb d_Mo_at_14 (by decide) ?_
      cases h
      rw [← hQ0]
      exact W.iret hx hb hr (fun t ht hW => ⟨⟨_, (), rfl, rfl, by dsimp only; rw [ht]; exact hH⟩, hS.F ht⟩) hS.2.2 d_Mo_at_38
  · have h := it h c1
    refine lv_iload_n hx hb d_Mo_at_4 rfl (lv_at hl 1 rfl) ?_
    refine lv_goto (tgt := 38) hx hb d_Mo_at_5 (by decide) ?_
    cases h
    rw [← hQ0]
    exact W.iret hx hb hr (fun t ht hW => ⟨⟨_, (), rfl, rfl, by dsimp only; rw [ht]; exact hH⟩, hS.F ht⟩) hS.2.2 d_Mo_at_38
set_option maxHeartbeats 4000000 in
set_option maxRecDepth 100000 in
theorem c_Mo_add (l : Launch) (D : va_G) (aC : Nat → ClassId) (A : Nat → Prop) (ad : Nat → Nat → Nat) (n : Nat) (σ : St) (a1 : Int32) (a2 : Int32) (a3 : Int32) (a4 : Int32) (a5 : Int32) (o : St × Int32) (h : f_Mo_add σ a1 a2 a3 a4 a5 = some o) : Met l y_Mo_add w_Mo_add rm_Mo_add (va_Pc [.ref (ad 48 0), .int a1, .int a2, .int a3, .int a4, .int a5] (Pre D aC A ad n σ)) (va_Qi (fun r (_ : Unit) => r = o.2) (fun _ t => Hold D aC A ad n o.1 t.heap) A) 0 0 A := by
  refine Met.ofW (cc := prog_13_method_50_code) (maxL := 8) (ret := (some .int)) (by decide) rfl ?_
  intro p e s m args below meth c s₁ B hml hv
  obtain ⟨hargs, hH, hK, hZ⟩ := hv
  have hx := B.exec
  have hb := B.bytes
  have hr := B.returns
  have hts := atoms_spec (ws := w_Mo_add) B.pre
  have hg : ∀ w ∈ gW, w.before args s = true := fun w h => hts w (List.mem_cons_of_mem _ h)
  have hown : s.vm.findClass "PrefixCodesModel" = some m.cls := findClass_of_methodNamed B.named
  have hlocks := B.notSynchronized
  have hS : va_S A s.heap s.heap [] := va_S.rf
  have hl := lv_entry ([.ref (ad 48 0), .int a1, .int a2, .int a3, .int a4, .int a5]) (n := 8) (Nat.le_of_ble_eq_true rfl)
  rw [show entryFrame m args 8 = entryFrame m (([.ref (ad 48 0), .int a1, .int a2, .int a3, .int a4, .int a5] : List Value).toArray) 8 by rw [hargs], lg_entry_eq]
  generalize (lg_sl ([.ref (ad 48 0), .int a1, .int a2, .int a3, .int a4, .int a5]) ++ List.replicate (8 - (lg_sl ([.ref (ad 48 0), .int a1, .int a2, .int a3, .int a4, .int a5])).length) Slot.unset).toArray = ls at hl ⊢
  have hl : lv_has ls 8 [(0, .ref (ad 48 0)), (1, .int a1), (2, .int a2), (3, .int a3), (4, .int a4), (5, .int a5)] := hl
  generalize hQ0 : MQ below (va_Qi (fun r (_ : Unit) => r = o.2) (fun _ t => Hold D aC A ad n o.1 t.heap) A) args s 0 0 A = Q0
  unfold f_Mo_add at h
  refine lv_iconst (v := 0) hx hb d_Mo_add_0 (by decide) ?_
  refine lv_istore (lv' := [(6, .int 0), (0, .ref (ad 48 0)), (1, .int a1), (2, .int a2), (3, .int a3), (4, .int a4), (5, .int a5)]) hx hb d_Mo_add_1 hl (by decide) rfl (fun ls hl => ?_)
  obtain ⟨q1, hq1, h⟩ := bs2_some h
  have K1 : ∀ (σ6 : St) (x7 : Int32) (H : Heap) (locs : List Loc) (ls : Array Slot), q1 = .inl (σ6, x7) → Hold D aC A ad n σ6 H → va_S A s.heap H locs → lv_has ls 8 [(0, .ref (ad 48 0)), (1, .int a1), (2, .int a2), (3, .int a3), (4, .int a4), (5, .int a5), (6, .int x7)] → W p l e (headSpec w_Mo_add rm_Mo_add).room s m args below meth c H locs 0 0 Q0 (F0 m 50 ls []) := by
    intro σ6 x7 H locs ls eq1 hH hS hl
    subst eq1
    have h := bs2_at h
    refine lv_aload_n hx hb d_Mo_add_50 rfl (lv_at hl 0 rfl) ?_
    refine st_get hx hb hg hown hK hH (f := 48) (i := 0) hd_48 rfl rfl u_Mo 22 (by decide) (hg _ wd_470) (v := .int (σ6.1 48 0 22)) rfl d_Mo_add_51 ?_
    refine lv_iload hx hb d_Mo_add_54 (lv_at hl 6 rfl) ?_
    refine lv_iadd hx hb d_Mo_add_56 ?_
    refine lv_sipush (v := 1000) hx hb d_Mo_add_57 (by decide) ?_
    refine lv_icmp_le (tgt := 66) hx hb d_Mo_add_60 (by decide) (fun c60 => ?_) (fun c60 => ?_)
    · have h := it h c60
      refine lv_iconst (v := 0) hx hb d_Mo_add_66 (by decide) ?_
      refine lv_istore (lv' := [(7, .int 0), (0, .ref (ad 48 0)), (1, .int a1), (2, .int a2), (3, .int a3), (4, .int a4), (5, .int a5), (6, .int x7)]) hx hb d_Mo_add_67 hl (by decide) rfl (fun ls hl => ?_)
      obtain ⟨q1, hq1, h⟩ := b2_some h
      have K1 : ∀ (σ13 : St) (x14 : Int32) (H : Heap) (locs : List Loc) (ls : Array Slot), q1 = (σ13, x14) → Hold D aC A ad n σ13 H → va_S A s.heap H locs → lv_has ls 8 [(0, .ref (ad 48 0)), (1, .int a1), (2, .int a2), (3, .int a3), (4, .int a4), (5, .int a5), (6, .int x7), (7, .int x14)] → W p l e (headSpec w_Mo_add rm_Mo_add).room s m args below meth c H locs 0 0 Q0 (F0 m 113 ls []) := by
        intro σ13 x14 H locs ls eq1 hH hS hl
        subst eq1
        have h := b2_at h
        refine lv_aload_n hx hb d_Mo_add_113 rfl (lv_at hl 0 rfl) ?_
        refine st_get hx hb hg hown hK hH (f := 48) (i := 0) hd_48 rfl rfl u_Mo 22 (by decide) (hg _ wd_470) (v := .int (σ13.1 48 0 22)) rfl d_Mo_add_114 ?_
        cases h
        rw [← hQ0]
        exact W.iret hx hb hr (fun t ht hW => ⟨⟨_, (), rfl, rfl, by dsimp only; rw [ht]; exact hH⟩, hS.F ht⟩) hS.2.2 d_Mo_add_117
      have loop1 : ∀ (k : Nat) (σ : St) (v7 : Int32) (H : Heap) (locs : List Loc) (ls : Array Slot), Hold D aC A ad n σ H → va_S A s.heap H locs → lv_has ls 8 [(0, .ref (ad 48 0)), (1, .int a1), (2, .int a2), (3, .int a3), (4, .int a4), (5, .int a5), (6, .int x7), (7, .int v7)] → lp (fun q => lb_Mo_add_69 a1 a2 a3 a4 a5 x7 q.1 q.2) k (σ, v7) = some q1 → W p l e (headSpec w_Mo_add rm_Mo_add).room s m args below meth c H locs 0 0 Q0 (F0 m 69 ls []) := by
        intro k
        induction k with
        | zero => intro σ v7 H locs ls hH hS hl hlp; exact absurd hlp (lp_zero _ _ _)
        | succ k ih1 =>
          intro σ v7 H locs ls hH hS hl hlp
          obtain ⟨z1, h1, hk1⟩ := lp_succ hlp
          have h1 : lb_Mo_add_69 a1 a2 a3 a4 a5 x7 σ v7 = some z1 := h1
          unfold lb_Mo_add_69 at h1
          refine lv_iload hx hb d_Mo_add_69 (lv_at hl 7 rfl) ?_
          refine lv_iload hx hb d_Mo_add_71 (lv_at hl 6 rfl) ?_
          refine lv_icmp_ge (tgt := 113) hx hb d_Mo_add_73 (by decide) (fun c73 => ?_) (fun c73 => ?_)
          · have h1 := it h1 c73
            cases h1
            exact K1 σ v7 _ _ ls (Option.some.inj hk1).symm hH hS (lv_sub hl [0, 1, 2, 3, 4, 5, 6, 7] rfl)
          · have h1 := ie h1 c73
            refine lv_aload_n hx hb d_Mo_add_76 rfl (lv_at hl 0 rfl) ?_
            refine st_get hx hb hg hown hK hH (f := 48) (i := 0) hd_48 rfl rfl u_Mo 21 (by decide) (hg _ wd_471) (v := .ref (ad 64 0)) rfl d_Mo_add_77 ?_
            refine lv_aload_n hx hb d_Mo_add_80 rfl (lv_at hl 0 rfl) ?_
            refine st_get hx hb hg hown hK hH (f := 48) (i := 0) hd_48 rfl rfl u_Mo 22 (by decide) (hg _ wd_470) (v := .int (σ.1 48 0 22)) rfl d_Mo_add_81 ?_
            refine lv_iload hx hb d_Mo_add_84 (lv_at hl 7 rfl) ?_
            refine lv_iload_n hx hb d_Mo_add_86 rfl (lv_at hl 1 rfl) ?_
            refine lv_iload_n hx hb d_Mo_add_87 rfl (lv_at hl 2 rfl) ?_
            refine lv_iload_n hx hb d_Mo_add_88 rfl (lv_at hl 3 rfl) ?_
            refine lv_iload hx hb d_Mo_add_89 (lv_at hl 4 rfl) ?_
            refine lv_iload hx hb d_Mo_add_91 (lv_at hl 5 rfl) ?_
            obtain ⟨qc, hc93, h1⟩ := b2_some h1
            obtain ⟨σ8, x9⟩ := qc
            have h1 := b2_at h1
            refine st_Si (As := [.int v7, .int a1, .int a2, .int a3, .int a4, .int a5]) (rest := [.int (σ.1 48 0 22), .ref (ad 64 0)]) ⟨hx, hb, hml, hown, hg⟩ (c_Mo_at l D aC A ad n _ v7 a1 a2 a3 a4 a5 _ hc93) (cwGS hg wd_567 wd_568 wd_569 wd_428 yd_Mo_at ⟨Nat.le_of_ble_eq_true rfl, Nat.le_of_ble_eq_true rfl⟩) hK hH hS hZ rfl hl.1 rfl (Nat.le_of_ble_eq_true rfl) d_Mo_add_93 ⟨Nat.zero_le _, Nat.zero_le _⟩ (fun H locs hH hS => ?_)
            obtain ⟨g96, h1⟩ := gd_some h1
            refine st_iast hx hb hK hH hS (f := 64) (i := 0) hd_64 rfl g96 d_Mo_add_96 (fun σ10 H locs eσ10 hH hS => ?_)
            have h1 := nm_at eσ10 h1
            refine lv_aload_n hx hb d_Mo_add_97 rfl (lv_at hl 0 rfl) ?_
            refine lv_dup hx hb d_Mo_add_98 rfl ?_
            refine st_get hx hb hg hown hK hH (f := 48) (i := 0) hd_48 rfl rfl u_Mo 22 (by decide) (hg _ wd_470) (v := .int (σ10.1 48 0 22)) rfl d_Mo_add_99 ?_
            refine lv_iconst (v := 1) hx hb d_Mo_add_102 (by decide) ?_
            refine lv_iadd hx hb d_Mo_add_103 ?_
            refine st_put hx hb hg hown hK hH hS (f := 48) (i := 0) hd_48 rfl rfl u_Mo t_Mo t_Mo_ok n_Mo 22 (by decide) (hg _ wd_470) rfl rfl rfl d_Mo_add_104 (fun σ11 H locs eσ11 hH hS => ?_)
            have h1 := nm_at eσ11 h1
            obtain ⟨x12, ex12⟩ : ∃ y : Int32, y = v7 + 1 := ⟨_, rfl⟩
            have h1 := nm_at ex12 h1
            refine lv_iinc (v := x12) (lv' := [(7, .int x12), (0, .ref (ad 48 0)), (1, .int a1), (2, .int a2), (3, .int a3), (4, .int a4), (5, .int a5), (6, .int x7)]) hx hb d_Mo_add_107 hl (k := 7) rfl (by rw [ex12]; rfl) (by decide) rfl (fun ls hl => ?_)
            refine lv_goto (tgt := 69) hx hb d_Mo_add_110 (by decide) ?_
            cases h1
            exact ih1 σ11 x12 _ _ ls hH hS (lv_sub hl [1, 2, 3, 4, 5, 6, 7, 0] rfl) hk1
      obtain ⟨k1, hq1⟩ := lpE_some hq1
      exact loop1 k1 σ6 0 _ _ ls hH hS (lv_sub hl [1, 2, 3, 4, 5, 6, 7, 0] rfl) hq1
    · have h := ie h c60
      refine lv_bipush (v := (-106)) hx hb d_Mo_add_63 (by decide) ?_
      cases h
      rw [← hQ0]
      exact W.iret hx hb hr (fun t ht hW => ⟨⟨_, (), rfl, rfl, by dsimp only; rw [ht]; exact hH⟩, hS.F ht⟩) hS.2.2 d_Mo_add_65
  have loop1 : ∀ (k : Nat) (σ : St) (v6 : Int32) (H : Heap) (locs : List Loc) (ls : Array Slot), Hold D aC A ad n σ H → va_S A s.heap H locs → lv_has ls 8 [(0, .ref (ad 48 0)), (1, .int a1), (2, .int a2), (3, .int a3), (4, .int a4), (5, .int a5), (6, .int v6)] → lp (fun q => lb_Mo_add_3 a1 a2 a3 a4 a5 q.1 q.2) k (σ, v6) = some q1 → W p l e (headSpec w_Mo_add rm_Mo_add).room s m args below meth c H locs 0 0 Q0 (F0 m 3 ls []) := by
    intro k
    induction k with
    | zero => intro σ v6 H locs ls hH hS hl hlp; exact absurd hlp (lp_zero _ _ _)
    | succ k ih1 =>
      intro σ v6 H locs ls hH hS hl hlp
      obtain ⟨z1, h1, hk1⟩ := lp_succ hlp
      have h1 : lb_Mo_add_3 a1 a2 a3 a4 a5 σ v6 = some z1 := h1
      unfold lb_Mo_add_3 at h1
      refine lv_iload hx hb d_Mo_add_3 (lv_at hl 6 rfl) ?_
      refine lv_iconst (v := 5) hx hb d_Mo_add_5 (by decide) ?_
      refine lv_icmp_ge (tgt := 50) hx hb d_Mo_add_6 (by decide) (fun c6 => ?_) (fun c6 => ?_)
      · have h1 := it h1 c6
        cases h1
        exact K1 σ v6 _ _ ls (Option.some.inj hk1).symm hH hS (lv_sub hl [0, 1, 2, 3, 4, 5, 6] rfl)
      · have h1 := ie h1 c6
        refine lv_iload hx hb d_Mo_add_9 (lv_at hl 6 rfl) ?_
        refine lv_iload_n hx hb d_Mo_add_11 rfl (lv_at hl 1 rfl) ?_
        refine lv_iload_n hx hb d_Mo_add_12 rfl (lv_at hl 2 rfl) ?_
        refine lv_iload_n hx hb d_Mo_add_13 rfl (lv_at hl 3 rfl) ?_
        refine lv_iload hx hb d_Mo_add_14 (lv_at hl 4 rfl) ?_
        refine lv_iload hx hb d_Mo_add_16 (lv_at hl 5 rfl) ?_
        obtain ⟨qc, hc18, h1⟩ := b2_some h1
        obtain ⟨σ1, x2⟩ := qc
        have h1 := b2_at h1
        refine st_Si (As := [.int v6, .int a1, .int a2, .int a3, .int a4, .int a5]) (rest := []) ⟨hx, hb, hml, hown, hg⟩ (c_Mo_at l D aC A ad n _ v6 a1 a2 a3 a4 a5 _ hc18) (cwGS hg wd_567 wd_568 wd_569 wd_428 yd_Mo_at ⟨Nat.le_of_ble_eq_true rfl, Nat.le_of_ble_eq_true rfl⟩) hK hH hS hZ rfl hl.1 rfl (Nat.le_of_ble_eq_true rfl) d_Mo_add_18 ⟨Nat.zero_le _, Nat.zero_le _⟩ (fun H locs hH hS => ?_)
        refine lv_if_lt (tgt := 50) hx hb d_Mo_add_21 (by decide) (fun c21 => ?_) (fun c21 => ?_)
        · have h1 := it h1 c21
          cases h1
          exact K1 σ1 v6 _ _ ls (Option.some.inj hk1).symm hH hS (lv_sub hl [0, 1, 2, 3, 4, 5, 6] rfl)
        · have h1 := ie h1 c21
          refine lv_iload hx hb d_Mo_add_24 (lv_at hl 6 rfl) ?_
          refine lv_iload_n hx hb d_Mo_add_26 rfl (lv_at hl 1 rfl) ?_
          refine lv_iload_n hx hb d_Mo_add_27 rfl (lv_at hl 2 rfl) ?_
          refine lv_iload_n hx hb d_Mo_add_28 rfl (lv_at hl 3 rfl) ?_
          refine lv_iload hx hb d_Mo_add_29 (lv_at hl 4 rfl) ?_
          refine lv_iload hx hb d_Mo_add_31 (lv_at hl 5 rfl) ?_
          obtain ⟨qc, hc33, h1⟩ := b2_some h1
          obtain ⟨σ3, x4⟩ := qc
          have h1 := b2_at h1
          refine st_Si (As := [.int v6, .int a1, .int a2, .int a3, .int a4, .int a5]) (rest := []) ⟨hx, hb, hml, hown, hg⟩ (c_Mo_at l D aC A ad n _ v6 a1 a2 a3 a4 a5 _ hc33) (cwGS hg wd_567 wd_568 wd_569 wd_428 yd_Mo_at ⟨Nat.le_of_ble_eq_true rfl, Nat.le_of_ble_eq_true rfl⟩) hK hH hS hZ rfl hl.1 rfl (Nat.le_of_ble_eq_true rfl) d_Mo_add_33 ⟨Nat.zero_le _, Nat.zero_le _⟩ (fun H locs hH hS => ?_)
          refine lv_bipush (v := 64) hx hb d_Mo_add_36 (by decide) ?_
          refine lv_icmp_lt (tgt := 44) hx hb d_Mo_add_38 (by decide) (fun c38 => ?_) (fun c38 => ?_)
          · have h1 := it h1 c38
            obtain ⟨x5, ex5⟩ : ∃ y : Int32, y = v6 + 1 := ⟨_, rfl⟩
            have h1 := nm_at ex5 h1
            refine lv_iinc (v := x5) (lv' := [(6, .int x5), (0, .ref (ad 48 0)), (1, .int a1), (2, .int a2), (3, .int a3), (4, .int a4), (5, .int a5)]) hx hb d_Mo_add_44 hl (k := 6) rfl (by rw [ex5]; rfl) (by decide) rfl (fun ls hl => ?_)
            refine lv_goto (tgt := 3) hx hb d_Mo_add_47 (by decide) ?_
            cases h1
            exact ih1 σ3 x5 _ _ ls hH hS (lv_sub hl [1, 2, 3, 4, 5, 6, 0] rfl) hk1
          · have h1 := ie h1 c38
            refine lv_bipush (v := (-102)) hx hb d_Mo_add_41 (by decide) ?_
            cases h1
            have hk1 := Option.some.inj hk1
            subst hk1
            have h := bs2_r h
            cases h
            rw [← hQ0]
            exact W.iret hx hb hr (fun t ht hW => ⟨⟨_, (), rfl, rfl, by dsimp only; rw [ht]; exact hH⟩, hS.F ht⟩) hS.2.2 d_Mo_add_43
  obtain ⟨k1, hq1⟩ := lpE_some hq1
  exact loop1 k1 σ 0 _ _ ls hH hS (lv_sub hl [1, 2, 3, 4, 5, 6, 0] rfl) hq1
set_option maxHeartbeats 4000000 in
set_option maxRecDepth 100000 in
theorem c_Mo_forget (l : Launch) (D : va_G) (aC : Nat → ClassId) (A : Nat → Prop) (ad : Nat → Nat → Nat) (n : Nat) (σ : St) (o : St × Int32) (h : f_Mo_forget σ  = some o) : Met l y_Mo_forget w_Mo_forget rm_Mo_forget (va_Pc [.ref (ad 48 0)] (Pre D aC A ad n σ)) (va_Qi (fun r (_ : Unit) => r = o.2) (fun _ t => Hold D aC A ad n o.1 t.heap) A) 0 0 A := by
  refine Met.ofW (cc := prog_13_method_52_code) (maxL := 2) (ret := (some .int)) (by decide) rfl ?_
  intro p e s m args below meth c s₁ B hml hv
  obtain ⟨hargs, hH, hK, hZ⟩ := hv
  have hx := B.exec
  have hb := B.bytes
  have hr := B.returns
  have hts := atoms_spec (ws := w_Mo_forget) B.pre
  have hg : ∀ w ∈ gW, w.before args s = true := fun w h => hts w (List.mem_cons_of_mem _ h)
  have hown : s.vm.findClass "PrefixCodesModel" = some m.cls := findClass_of_methodNamed B.named
  have hlocks := B.notSynchronized
  have hS : va_S A s.heap s.heap [] := va_S.rf
  have hl := lv_entry ([.ref (ad 48 0)]) (n := 2) (Nat.le_of_ble_eq_true rfl)
  rw [show entryFrame m args 2 = entryFrame m (([.ref (ad 48 0)] : List Value).toArray) 2 by rw [hargs], lg_entry_eq]
  generalize (lg_sl ([.ref (ad 48 0)]) ++ List.replicate (2 - (lg_sl ([.ref (ad 48 0)])).length) Slot.unset).toArray = ls at hl ⊢
  have hl : lv_has ls 2 [(0, .ref (ad 48 0))] := hl
  generalize hQ0 : MQ below (va_Qi (fun r (_ : Unit) => r = o.2) (fun _ t => Hold D aC A ad n o.1 t.heap) A) args s 0 0 A = Q0
  unfold f_Mo_forget at h
  refine lv_aload_n hx hb d_Mo_forget_0 rfl (lv_at hl 0 rfl) ?_
  refine st_get hx hb hg hown hK hH (f := 48) (i := 0) hd_48 rfl rfl u_Mo 22 (by decide) (hg _ wd_470) (v := .int (σ.1 48 0 22)) rfl d_Mo_forget_1 ?_
  refine lv_topi (fun x1 ex1 => ?_)
  have h := nm_at ex1 h
  refine lv_istore_n (lv' := [(1, .int x1), (0, .ref (ad 48 0))]) hx hb d_Mo_forget_4 rfl hl (by decide) rfl (fun ls hl => ?_)
  refine lv_aload_n hx hb d_Mo_forget_5 rfl (lv_at hl 1 rfl) ?_
  refine lv_iconst (v := 0) hx hb d_Mo_forget_6 (by decide) ?_
  refine st_put hx hb hg hown hK hH hS (f := 48) (i := 0) hd_48 rfl rfl u_Mo t_Mo t_Mo_ok n_Mo 22 (by decide) (hg _ wd_470) rfl rfl rfl d_Mo_forget_7 (fun σ2 H locs eσ2 hH hS => ?_)
  have h := nm_at eσ2 h
  refine lv_iload_n hx hb d_Mo_forget_10 rfl (lv_at hl 0 rfl) ?_
  cases h
  rw [← hQ0]
  exact W.iret hx hb hr (fun t ht hW => ⟨⟨_, (), rfl, rfl, by dsimp only; rw [ht]; exact hH⟩, hS.F ht⟩) hS.2.2 d_Mo_forget_11
set_option maxHeartbeats 4000000 in
set_option maxRecDepth 100000 in
theorem c_Mo_groupOf (l : Launch) (D : va_G) (aC : Nat → ClassId) (A : Nat → Prop) (ad : Nat → Nat → Nat) (n : Nat) (σ : St) (a1 : Int32) (a2 : Int32) (o : St × Int32) (h : f_Mo_groupOf σ a1 a2 = some o) : Met l y_Mo_groupOf w_Mo_groupOf rm_Mo_groupOf (va_Pc [.ref (ad 48 0), .int a1, .int a2] (Pre D aC A ad n σ)) (va_Qi (fun r (_ : Unit) => r = o.2) (fun _ t => Hold D aC A ad n o.1 t.heap) A) 0 0 A := by
  refine Met.ofW (cc := prog_13_method_53_code) (maxL := 3) (ret := (some .int)) (by decide) rfl ?_
  intro p e s m args below meth c s₁ B hml hv
  obtain ⟨hargs, hH, hK, hZ⟩ := hv
  have hx := B.exec
  have hb := B.bytes
  have hr := B.returns
  have hts := atoms_spec (ws := w_Mo_groupOf) B.pre
  have hg : ∀ w ∈ gW, w.before args s = true := fun w h => hts w (List.mem_cons_of_mem _ h)
  have hown : s.vm.findClass "PrefixCodesModel" = some m.cls := findClass_of_methodNamed B.named
  have hlocks := B.notSynchronized
  have hS : va_S A s.heap s.heap [] := va_S.rf
  have hl := lv_entry ([.ref (ad 48 0), .int a1, .int a2]) (n := 3) (Nat.le_of_ble_eq_true rfl)
  rw [show entryFrame m args 3 = entryFrame m (([.ref (ad 48 0), .int a1, .int a2] : List Value).toArray) 3 by rw [hargs], lg_entry_eq]
  generalize (lg_sl ([.ref (ad 48 0), .int a1, .int a2]) ++ List.replicate (3 - (lg_sl ([.ref (ad 48 0), .int a1, .int a2])).length) Slot.unset).toArray = ls at hl ⊢
  have hl : lv_has ls 3 [(0, .ref (ad 48 0)), (1, .int a1), (2, .int a2)] := hl
  generalize hQ0 : MQ below (va_Qi (fun r (_ : Unit) => r = o.2) (fun _ t => Hold D aC A ad n o.1 t.heap) A) args s 0 0 A = Q0
  unfold f_Mo_groupOf at h
  refine lv_iload_n hx hb d_Mo_groupOf_0 rfl (lv_at hl 1 rfl) ?_
  refine lv_iload_n hx hb d_Mo_groupOf_1 rfl (lv_at hl 2 rfl) ?_
  refine lv_imul hx hb d_Mo_groupOf_2 ?_
  refine lv_aload_n hx hb d_Mo_groupOf_3 rfl (lv_at hl 0 rfl) ?_
  refine st_get hx hb hg hown hK hH (f := 48) (i := 0) hd_48 rfl rfl u_Mo 26 (by decide) (hg _ wd_570) (v := .int (σ.1 48 0 26)) rfl d_Mo_groupOf_4 ?_
  obtain ⟨g7, h⟩ := gd_some h
  refine lv_idiv hx hb d_Mo_groupOf_7 g7 ?_
  cases h
  rw [← hQ0]
  exact W.iret hx hb hr (fun t ht hW => ⟨⟨_, (), rfl, rfl, by dsimp only; rw [ht]; exact hH⟩, hS.F ht⟩) hS.2.2 d_Mo_groupOf_8
