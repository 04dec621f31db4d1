theorem d_Mo_begin_0 : decode prog_13_method_58_code 0 = .ok (.iconst 0, 1) := by decide +kernel
theorem d_Mo_begin_1 : decode prog_13_method_58_code 1 = .ok (.istore_n 2, 1) := by decide +kernel
theorem d_Mo_begin_2 : decode prog_13_method_58_code 2 = .ok (.iload_n 2, 1) := by decide +kernel
theorem d_Mo_begin_3 : decode prog_13_method_58_code 3 = .ok (.iload_n 1, 1) := by decide +kernel
theorem d_Mo_begin_4 : decode prog_13_method_58_code 4 = .ok (.if_icmp .ge 16, 3) := by decide +kernel
theorem d_Mo_begin_7 : decode prog_13_method_58_code 7 = .ok (.aload_n 0, 1) := by decide +kernel
theorem d_Mo_begin_8 : decode prog_13_method_58_code 8 = .ok (.getfield 72, 3) := by decide +kernel
theorem d_Mo_begin_11 : decode prog_13_method_58_code 11 = .ok (.iload_n 2, 1) := by decide +kernel
theorem d_Mo_begin_12 : decode prog_13_method_58_code 12 = .ok (.iload_n 2, 1) := by decide +kernel
theorem d_Mo_begin_13 : decode prog_13_method_58_code 13 = .ok (.iastore, 1) := by decide +kernel
theorem d_Mo_begin_14 : decode prog_13_method_58_code 14 = .ok (.iinc 2 1, 3) := by decide +kernel
theorem d_Mo_begin_17 : decode prog_13_method_58_code 17 = .ok (.goto (-15), 3) := by decide +kernel
theorem d_Mo_begin_20 : decode prog_13_method_58_code 20 = .ok (.return_, 1) := by decide +kernel
theorem d_Mo_front_0 : decode prog_13_method_59_code 0 = .ok (.aload_n 0, 1) := by decide +kernel
theorem d_Mo_front_1 : decode prog_13_method_59_code 1 = .ok (.getfield 72, 3) := by decide +kernel
theorem d_Mo_front_4 : decode prog_13_method_59_code 4 = .ok (.iload_n 1, 1) := by decide +kernel
theorem d_Mo_front_5 : decode prog_13_method_59_code 5 = .ok (.iaload, 1) := by decide +kernel
theorem d_Mo_front_6 : decode prog_13_method_59_code 6 = .ok (.istore_n 2, 1) := by decide +kernel
theorem d_Mo_front_7 : decode prog_13_method_59_code 7 = .ok (.iload_n 1, 1) := by decide +kernel
theorem d_Mo_front_8 : decode prog_13_method_59_code 8 = .ok (.istore_n 3, 1) := by decide +kernel
theorem d_Mo_front_9 : decode prog_13_method_59_code 9 = .ok (.iload_n 3, 1) := by decide +kernel
theorem d_Mo_front_10 : decode prog_13_method_59_code 10 = .ok (.ifCond .le 23, 3) := by decide +kernel
theorem d_Mo_front_13 : decode prog_13_method_59_code 13 = .ok (.aload_n 0, 1) := by decide +kernel
theorem d_Mo_front_14 : decode prog_13_method_59_code 14 = .ok (.getfield 72, 3) := by decide +kernel
theorem d_Mo_front_17 : decode prog_13_method_59_code 17 = .ok (.iload_n 3, 1) := by decide +kernel
theorem d_Mo_front_18 : decode prog_13_method_59_code 18 = .ok (.aload_n 0, 1) := by decide +kernel
theorem d_Mo_front_19 : decode prog_13_method_59_code 19 = .ok (.getfield 72, 3) := by decide +kernel
theorem d_Mo_front_22 : decode prog_13_method_59_code 22 = .ok (.iload_n 3, 1) := by decide +kernel
theorem d_Mo_front_23 : decode prog_13_method_59_code 23 = .ok (.iconst 1, 1) := by decide +kernel
theorem d_Mo_front_24 : decode prog_13_method_59_code 24 = .ok (.isub, 1) := by decide +kernel
theorem d_Mo_front_25 : decode prog_13_method_59_code 25 = .ok (.iaload, 1) := by decide +kernel
theorem d_Mo_front_26 : decode prog_13_method_59_code 26 = .ok (.iastore, 1) := by decide +kernel
theorem d_Mo_front_27 : decode prog_13_method_59_code 27 = .ok (.iinc 3 (-1), 3) := by decide +kernel
theorem d_Mo_front_30 : decode prog_13_method_59_code 30 = .ok (.goto (-21), 3) := by decide +kernel
theorem d_Mo_front_33 : decode prog_13_method_59_code 33 = .ok (.aload_n 0, 1) := by decide +kernel
theorem d_Mo_front_34 : decode prog_13_method_59_code 34 = .ok (.getfield 72, 3) := by decide +kernel
theorem d_Mo_front_37 : decode prog_13_method_59_code 37 = .ok (.iconst 0, 1) := by decide +kernel
theorem d_Mo_front_38 : decode prog_13_method_59_code 38 = .ok (.iload_n 2, 1) := by decide +kernel
theorem d_Mo_front_39 : decode prog_13_method_59_code 39 = .ok (.iastore, 1) := by decide +kernel
theorem d_Mo_front_40 : decode prog_13_method_59_code 40 = .ok (.iload_n 2, 1) := by decide +kernel
theorem d_Mo_front_41 : decode prog_13_method_59_code 41 = .ok (.ireturn, 1) := by decide +kernel
theorem d_Mo_write_0 : decode prog_13_method_60_code 0 = .ok (.aload_n 0, 1) := by decide +kernel
theorem d_Mo_write_1 : decode prog_13_method_60_code 1 = .ok (.getfield 62, 3) := by decide +kernel
theorem d_Mo_write_4 : decode prog_13_method_60_code 4 = .ok (.iconst (-1), 1) := by decide +kernel
theorem d_Mo_write_5 : decode prog_13_method_60_code 5 = .ok (.if_icmp .ne 6, 3) := by decide +kernel
theorem d_Mo_write_8 : decode prog_13_method_60_code 8 = .ok (.bipush (-103), 2) := by decide +kernel
theorem d_Mo_write_10 : decode prog_13_method_60_code 10 = .ok (.ireturn, 1) := by decide +kernel
theorem d_Mo_write_11 : decode prog_13_method_60_code 11 = .ok (.iconst 0, 1) := by decide +kernel
theorem d_Mo_write_12 : decode prog_13_method_60_code 12 = .ok (.istore_n 1, 1) := by decide +kernel
theorem d_Mo_write_13 : decode prog_13_method_60_code 13 = .ok (.iconst 0, 1) := by decide +kernel
theorem d_Mo_write_14 : decode prog_13_method_60_code 14 = .ok (.istore_n 2, 1) := by decide +kernel
theorem d_Mo_write_15 : decode prog_13_method_60_code 15 = .ok (.iload_n 2, 1) := by decide +kernel
theorem d_Mo_write_16 : decode prog_13_method_60_code 16 = .ok (.aload_n 0, 1) := by decide +kernel
theorem d_Mo_write_17 : decode prog_13_method_60_code 17 = .ok (.getfield 217, 3) := by decide +kernel
theorem d_Mo_write_20 : decode prog_13_method_60_code 20 = .ok (.if_icmp .ge 66, 3) := by decide +kernel
theorem d_Mo_write_23 : decode prog_13_method_60_code 23 = .ok (.aload_n 0, 1) := by decide +kernel
theorem d_Mo_write_24 : decode prog_13_method_60_code 24 = .ok (.getfield 62, 3) := by decide +kernel
theorem d_Mo_write_27 : decode prog_13_method_60_code 27 = .ok (.aload_n 0, 1) := by decide +kernel
theorem d_Mo_write_28 : decode prog_13_method_60_code 28 = .ok (.getfield 66, 3) := by decide +kernel
theorem d_Mo_write_31 : decode prog_13_method_60_code 31 = .ok (.iload_n 2, 1) := by decide +kernel
theorem d_Mo_write_32 : decode prog_13_method_60_code 32 = .ok (.aload_n 0, 1) := by decide +kernel
theorem d_Mo_write_33 : decode prog_13_method_60_code 33 = .ok (.getfield 220, 3) := by decide +kernel
theorem d_Mo_write_36 : decode prog_13_method_60_code 36 = .ok (.idiv, 1) := by decide +kernel
theorem d_Mo_write_37 : decode prog_13_method_60_code 37 = .ok (.iaload, 1) := by decide +kernel
theorem d_Mo_write_38 : decode prog_13_method_60_code 38 = .ok (.iadd, 1) := by decide +kernel
theorem d_Mo_write_39 : decode prog_13_method_60_code 39 = .ok (.istore_n 3, 1) := by decide +kernel
theorem d_Mo_write_40 : decode prog_13_method_60_code 40 = .ok (.aload_n 0, 1) := by decide +kernel
theorem d_Mo_write_41 : decode prog_13_method_60_code 41 = .ok (.iload_n 3, 1) := by decide +kernel
theorem d_Mo_write_42 : decode prog_13_method_60_code 42 = .ok (.invokevirtual 113, 3) := by decide +kernel
theorem d_Mo_write_45 : decode prog_13_method_60_code 45 = .ok (.iconst 4, 1) := by decide +kernel
theorem d_Mo_write_46 : decode prog_13_method_60_code 46 = .ok (.if_icmp .eq 17, 3) := by decide +kernel
theorem d_Mo_write_49 : decode prog_13_method_60_code 49 = .ok (.aload_n 0, 1) := by decide +kernel
theorem d_Mo_write_50 : decode prog_13_method_60_code 50 = .ok (.iload_n 3, 1) := by decide +kernel
theorem d_Mo_write_51 : decode prog_13_method_60_code 51 = .ok (.aload_n 0, 1) := by decide +kernel
theorem d_Mo_write_52 : decode prog_13_method_60_code 52 = .ok (.getfield 69, 3) := by decide +kernel
theorem d_Mo_write_55 : decode prog_13_method_60_code 55 = .ok (.iload_n 2, 1) := by decide +kernel
theorem d_Mo_write_56 : decode prog_13_method_60_code 56 = .ok (.iaload, 1) := by decide +kernel
theorem d_Mo_write_57 : decode prog_13_method_60_code 57 = .ok (.invokevirtual 99, 3) := by decide +kernel
theorem d_Mo_write_60 : decode prog_13_method_60_code 60 = .ok (.ifCond .ne 6, 3) := by decide +kernel
theorem d_Mo_write_63 : decode prog_13_method_60_code 63 = .ok (.bipush (-103), 2) := by decide +kernel
theorem d_Mo_write_65 : decode prog_13_method_60_code 65 = .ok (.ireturn, 1) := by decide +kernel
theorem d_Mo_write_66 : decode prog_13_method_60_code 66 = .ok (.iload_n 1, 1) := by decide +kernel
theorem d_Mo_write_67 : decode prog_13_method_60_code 67 = .ok (.aload_n 0, 1) := by decide +kernel
theorem d_Mo_write_68 : decode prog_13_method_60_code 68 = .ok (.iload_n 3, 1) := by decide +kernel
theorem d_Mo_write_69 : decode prog_13_method_60_code 69 = .ok (.aload_n 0, 1) := by decide +kernel
theorem d_Mo_write_70 : decode prog_13_method_60_code 70 = .ok (.getfield 69, 3) := by decide +kernel
theorem d_Mo_write_73 : decode prog_13_method_60_code 73 = .ok (.iload_n 2, 1) := by decide +kernel
theorem d_Mo_write_74 : decode prog_13_method_60_code 74 = .ok (.iaload, 1) := by decide +kernel
theorem d_Mo_write_75 : decode prog_13_method_60_code 75 = .ok (.invokevirtual 99, 3) := by decide +kernel
theorem d_Mo_write_78 : decode prog_13_method_60_code 78 = .ok (.iadd, 1) := by decide +kernel
theorem d_Mo_write_79 : decode prog_13_method_60_code 79 = .ok (.istore_n 1, 1) := by decide +kernel
theorem d_Mo_write_80 : decode prog_13_method_60_code 80 = .ok (.iinc 2 1, 3) := by decide +kernel
theorem d_Mo_write_83 : decode prog_13_method_60_code 83 = .ok (.goto (-68), 3) := by decide +kernel
theorem d_Mo_write_86 : decode prog_13_method_60_code 86 = .ok (.iconst 0, 1) := by decide +kernel
theorem d_Mo_write_87 : decode prog_13_method_60_code 87 = .ok (.istore_n 2, 1) := by decide +kernel
theorem d_Mo_write_88 : decode prog_13_method_60_code 88 = .ok (.iload_n 2, 1) := by decide +kernel
theorem d_Mo_write_89 : decode prog_13_method_60_code 89 = .ok (.iconst 2, 1) := by decide +kernel
theorem d_Mo_write_90 : decode prog_13_method_60_code 90 = .ok (.if_icmp .ge 122, 3) := by decide +kernel
theorem d_Mo_write_93 : decode prog_13_method_60_code 93 = .ok (.aload_n 0, 1) := by decide +kernel
theorem d_Mo_write_94 : decode prog_13_method_60_code 94 = .ok (.aload_n 0, 1) := by decide +kernel
theorem d_Mo_write_95 : decode prog_13_method_60_code 95 = .ok (.getfield 214, 3) := by decide +kernel
theorem d_Mo_write_98 : decode prog_13_method_60_code 98 = .ok (.invokevirtual 232, 3) := by decide +kernel
theorem d_Mo_write_101 : decode prog_13_method_60_code 101 = .ok (.iconst 0, 1) := by decide +kernel
theorem d_Mo_write_102 : decode prog_13_method_60_code 102 = .ok (.istore_n 3, 1) := by decide +kernel
theorem d_Mo_write_103 : decode prog_13_method_60_code 103 = .ok (.iload_n 3, 1) := by decide +kernel
theorem d_Mo_write_104 : decode prog_13_method_60_code 104 = .ok (.aload_n 0, 1) := by decide +kernel
theorem d_Mo_write_105 : decode prog_13_method_60_code 105 = .ok (.getfield 211, 3) := by decide +kernel
theorem d_Mo_write_108 : decode prog_13_method_60_code 108 = .ok (.if_icmp .ge 83, 3) := by decide +kernel
theorem d_Mo_write_111 : decode prog_13_method_60_code 111 = .ok (.iconst 0, 1) := by decide +kernel
theorem d_Mo_write_112 : decode prog_13_method_60_code 112 = .ok (.istore 4, 2) := by decide +kernel
theorem d_Mo_write_114 : decode prog_13_method_60_code 114 = .ok (.aload_n 0, 1) := by decide +kernel
theorem d_Mo_write_115 : decode prog_13_method_60_code 115 = .ok (.getfield 72, 3) := by decide +kernel
theorem d_Mo_write_118 : decode prog_13_method_60_code 118 = .ok (.iload 4, 2) := by decide +kernel
theorem d_Mo_write_120 : decode prog_13_method_60_code 120 = .ok (.iaload, 1) := by decide +kernel
theorem d_Mo_write_121 : decode prog_13_method_60_code 121 = .ok (.aload_n 0, 1) := by decide +kernel
theorem d_Mo_write_122 : decode prog_13_method_60_code 122 = .ok (.getfield 66, 3) := by decide +kernel
theorem d_Mo_write_125 : decode prog_13_method_60_code 125 = .ok (.iload_n 3, 1) := by decide +kernel
theorem d_Mo_write_126 : decode prog_13_method_60_code 126 = .ok (.iaload, 1) := by decide +kernel
theorem d_Mo_write_127 : decode prog_13_method_60_code 127 = .ok (.if_icmp .eq 9, 3) := by decide +kernel
theorem d_Mo_write_130 : decode prog_13_method_60_code 130 = .ok (.iinc 4 1, 3) := by decide +kernel
theorem d_Mo_write_133 : decode prog_13_method_60_code 133 = .ok (.goto (-19), 3) := by decide +kernel
theorem d_Mo_write_136 : decode prog_13_method_60_code 136 = .ok (.aload_n 0, 1) := by decide +kernel
theorem d_Mo_write_137 : decode prog_13_method_60_code 137 = .ok (.iload 4, 2) := by decide +kernel
theorem d_Mo_write_139 : decode prog_13_method_60_code 139 = .ok (.invokevirtual 235, 3) := by decide +kernel
theorem d_Mo_write_142 : decode prog_13_method_60_code 142 = .ok (.pop, 1) := by decide +kernel
theorem d_Mo_write_143 : decode prog_13_method_60_code 143 = .ok (.iload_n 2, 1) := by decide +kernel
theorem d_Mo_write_144 : decode prog_13_method_60_code 144 = .ok (.ifCond .ne 13, 3) := by decide +kernel
theorem d_Mo_write_147 : decode prog_13_method_60_code 147 = .ok (.iload_n 1, 1) := by decide +kernel
theorem d_Mo_write_148 : decode prog_13_method_60_code 148 = .ok (.iload 4, 2) := by decide +kernel
theorem d_Mo_write_150 : decode prog_13_method_60_code 150 = .ok (.iconst 1, 1) := by decide +kernel
theorem d_Mo_write_151 : decode prog_13_method_60_code 151 = .ok (.iadd, 1) := by decide +kernel
theorem d_Mo_write_152 : decode prog_13_method_60_code 152 = .ok (.iadd, 1) := by decide +kernel
theorem d_Mo_write_153 : decode prog_13_method_60_code 153 = .ok (.istore_n 1, 1) := by decide +kernel
theorem d_Mo_write_154 : decode prog_13_method_60_code 154 = .ok (.goto 31, 3) := by decide +kernel
theorem d_Mo_write_157 : decode prog_13_method_60_code 157 = .ok (.iconst 0, 1) := by decide +kernel
theorem d_Mo_write_158 : decode prog_13_method_60_code 158 = .ok (.istore 5, 2) := by decide +kernel
theorem d_Mo_write_160 : decode prog_13_method_60_code 160 = .ok (.iload 5, 2) := by decide +kernel
theorem d_Mo_write_162 : decode prog_13_method_60_code 162 = .ok (.iload 4, 2) := by decide +kernel
theorem d_Mo_write_164 : decode prog_13_method_60_code 164 = .ok (.if_icmp .ge 15, 3) := by decide +kernel
theorem d_Mo_write_167 : decode prog_13_method_60_code 167 = .ok (.aload_n 0, 1) := by decide +kernel
theorem d_Mo_write_168 : decode prog_13_method_60_code 168 = .ok (.iconst 1, 1) := by decide +kernel
theorem d_Mo_write_169 : decode prog_13_method_60_code 169 = .ok (.iconst 1, 1) := by decide +kernel
theorem d_Mo_write_170 : decode prog_13_method_60_code 170 = .ok (.invokevirtual 149, 3) := by decide +kernel
theorem d_Mo_write_173 : decode prog_13_method_60_code 173 = .ok (.iinc 5 1, 3) := by decide +kernel
theorem d_Mo_write_176 : decode prog_13_method_60_code 176 = .ok (.goto (-16), 3) := by decide +kernel
theorem d_Mo_write_179 : decode prog_13_method_60_code 179 = .ok (.aload_n 0, 1) := by decide +kernel
theorem d_Mo_write_180 : decode prog_13_method_60_code 180 = .ok (.iconst 0, 1) := by decide +kernel
theorem d_Mo_write_181 : decode prog_13_method_60_code 181 = .ok (.iconst 1, 1) := by decide +kernel
theorem d_Mo_write_182 : decode prog_13_method_60_code 182 = .ok (.invokevirtual 149, 3) := by decide +kernel
theorem d_Mo_write_185 : decode prog_13_method_60_code 185 = .ok (.iinc 3 1, 3) := by decide +kernel
theorem d_Mo_write_188 : decode prog_13_method_60_code 188 = .ok (.goto (-85), 3) := by decide +kernel
theorem d_Mo_write_191 : decode prog_13_method_60_code 191 = .ok (.iload_n 2, 1) := by decide +kernel
theorem d_Mo_write_192 : decode prog_13_method_60_code 192 = .ok (.ifCond .ne 14, 3) := by decide +kernel
theorem d_Mo_write_195 : decode prog_13_method_60_code 195 = .ok (.aload_n 0, 1) := by decide +kernel
theorem d_Mo_write_196 : decode prog_13_method_60_code 196 = .ok (.iload_n 1, 1) := by decide +kernel
theorem d_Mo_write_197 : decode prog_13_method_60_code 197 = .ok (.invokevirtual 146, 3) := by decide +kernel
theorem d_Mo_write_200 : decode prog_13_method_60_code 200 = .ok (.ifCond .ne 6, 3) := by decide +kernel
theorem d_Mo_write_203 : decode prog_13_method_60_code 203 = .ok (.bipush (-106), 2) := by decide +kernel
theorem d_Mo_write_205 : decode prog_13_method_60_code 205 = .ok (.ireturn, 1) := by decide +kernel
theorem d_Mo_write_206 : decode prog_13_method_60_code 206 = .ok (.iinc 2 1, 3) := by decide +kernel
theorem d_Mo_write_209 : decode prog_13_method_60_code 209 = .ok (.goto (-121), 3) := by decide +kernel
theorem d_Mo_write_212 : decode prog_13_method_60_code 212 = .ok (.iconst 0, 1) := by decide +kernel
theorem d_Mo_write_213 : decode prog_13_method_60_code 213 = .ok (.istore_n 2, 1) := by decide +kernel
theorem d_Mo_write_214 : decode prog_13_method_60_code 214 = .ok (.iload_n 2, 1) := by decide +kernel
theorem d_Mo_write_215 : decode prog_13_method_60_code 215 = .ok (.aload_n 0, 1) := by decide +kernel
theorem d_Mo_write_216 : decode prog_13_method_60_code 216 = .ok (.getfield 217, 3) := by decide +kernel
theorem d_Mo_write_219 : decode prog_13_method_60_code 219 = .ok (.if_icmp .ge 52, 3) := by decide +kernel
theorem d_Mo_write_222 : decode prog_13_method_60_code 222 = .ok (.aload_n 0, 1) := by decide +kernel
theorem d_Mo_write_223 : decode prog_13_method_60_code 223 = .ok (.getfield 62, 3) := by decide +kernel
theorem d_Mo_write_226 : decode prog_13_method_60_code 226 = .ok (.aload_n 0, 1) := by decide +kernel
theorem d_Mo_write_227 : decode prog_13_method_60_code 227 = .ok (.getfield 66, 3) := by decide +kernel
theorem d_Mo_write_230 : decode prog_13_method_60_code 230 = .ok (.iload_n 2, 1) := by decide +kernel
theorem d_Mo_write_231 : decode prog_13_method_60_code 231 = .ok (.aload_n 0, 1) := by decide +kernel
theorem d_Mo_write_232 : decode prog_13_method_60_code 232 = .ok (.getfield 220, 3) := by decide +kernel
theorem d_Mo_write_235 : decode prog_13_method_60_code 235 = .ok (.idiv, 1) := by decide +kernel
theorem d_Mo_write_236 : decode prog_13_method_60_code 236 = .ok (.iaload, 1) := by decide +kernel
theorem d_Mo_write_237 : decode prog_13_method_60_code 237 = .ok (.iadd, 1) := by decide +kernel
theorem d_Mo_write_238 : decode prog_13_method_60_code 238 = .ok (.istore_n 3, 1) := by decide +kernel
theorem d_Mo_write_239 : decode prog_13_method_60_code 239 = .ok (.aload_n 0, 1) := by decide +kernel
theorem d_Mo_write_240 : decode prog_13_method_60_code 240 = .ok (.aload_n 0, 1) := by decide +kernel
theorem d_Mo_write_241 : decode prog_13_method_60_code 241 = .ok (.iload_n 3, 1) := by decide +kernel
theorem d_Mo_write_242 : decode prog_13_method_60_code 242 = .ok (.aload_n 0, 1) := by decide +kernel
theorem d_Mo_write_243 : decode prog_13_method_60_code 243 = .ok (.getfield 69, 3) := by decide +kernel
theorem d_Mo_write_246 : decode prog_13_method_60_code 246 = .ok (.iload_n 2, 1) := by decide +kernel
theorem d_Mo_write_247 : decode prog_13_method_60_code 247 = .ok (.iaload, 1) := by decide +kernel
theorem d_Mo_write_248 : decode prog_13_method_60_code 248 = .ok (.invokevirtual 116, 3) := by decide +kernel
theorem d_Mo_write_251 : decode prog_13_method_60_code 251 = .ok (.aload_n 0, 1) := by decide +kernel
theorem d_Mo_write_252 : decode prog_13_method_60_code 252 = .ok (.iload_n 3, 1) := by decide +kernel
theorem d_Mo_write_253 : decode prog_13_method_60_code 253 = .ok (.aload_n 0, 1) := by decide +kernel
theorem d_Mo_write_254 : decode prog_13_method_60_code 254 = .ok (.getfield 69, 3) := by decide +kernel
theorem d_Mo_write_257 : decode prog_13_method_60_code 257 = .ok (.iload_n 2, 1) := by decide +kernel
theorem d_Mo_write_258 : decode prog_13_method_60_code 258 = .ok (.iaload, 1) := by decide +kernel
theorem d_Mo_write_259 : decode prog_13_method_60_code 259 = .ok (.invokevirtual 99, 3) := by decide +kernel
theorem d_Mo_write_262 : decode prog_13_method_60_code 262 = .ok (.invokevirtual 149, 3) := by decide +kernel
theorem d_Mo_write_265 : decode prog_13_method_60_code 265 = .ok (.iinc 2 1, 3) := by decide +kernel
theorem d_Mo_write_268 : decode prog_13_method_60_code 268 = .ok (.goto (-54), 3) := by decide +kernel
theorem d_Mo_write_271 : decode prog_13_method_60_code 271 = .ok (.iload_n 1, 1) := by decide +kernel
theorem d_Mo_write_272 : decode prog_13_method_60_code 272 = .ok (.ireturn, 1) := by decide +kernel
noncomputable def lb_Mo_begin_2 (a1 : Int32) (σ : St) (v2 : Int32) : Option ((St × Int32) ⊕ ((St × Int32))) :=
  if a1 ≤ v2 then
    some (.inr (σ, v2))
  else
  gd (ib v2 6) <|
  nm (sI σ 67 0 (v2.toNatClampNeg) v2) fun σ1 =>
  nm (v2 + 1) fun x2 =>
  some (.inl (σ1, x2))
noncomputable def f_Mo_begin (σ : St) (a1 : Int32) : Option (St) :=
  b2 (lpE (fun q => lb_Mo_begin_2 a1 q.1 q.2) (σ, 0)) fun σ3 x4 =>
  some σ3
noncomputable def lb_Mo_front_9 (x1 : Int32) (σ : St) (v3 : Int32) : Option ((St × Int32) ⊕ ((St × Int32))) :=
  if v3 ≤ 0 then
    some (.inr (σ, v3))
  else
  gd (ib (v3 - 1) 6) <|
  gd (ib v3 6) <|
  nm (sI σ 67 0 (v3.toNatClampNeg) (σ.1 67 0 (v3 - 1).toNatClampNeg)) fun σ2 =>
  nm (v3 + (-1)) fun x3 =>
  some (.inl (σ2, x3))
noncomputable def f_Mo_front (σ : St) (a1 : Int32) : Option (St × Int32) :=
  gd (ib a1 6) <|
  nm (σ.1 67 0 a1.toNatClampNeg) fun x1 =>
  b2 (lpE (fun q => lb_Mo_front_9 x1 q.1 q.2) (σ, a1)) fun σ4 x5 =>
  gd (ib 0 6) <|
  nm (sI σ4 67 0 ((0 : Int32).toNatClampNeg) x1) fun σ6 =>
  some (σ6, x1)
noncomputable def lb_Mo_write_15 (σ : St) (v1 : Int32) (v2 : Int32) : Option ((St × Int32 × Int32) ⊕ ((St × Int32 × Int32) ⊕ (St × Int32))) :=
  if (σ.1 48 0 29) ≤ v2 then
    some (.inr (.inl (σ, v1, v2)))
  else
  gd (¬ (σ.1 48 0 25) = 0) <|
  gd (ib (v2 / (σ.1 48 0 25)) 1000) <|
  nm ((σ.1 48 0 23) + (σ.1 65 0 (v2 / (σ.1 48 0 25)).toNatClampNeg)) fun x1 =>
  b2 (f_Mo_kind σ x1) fun σ2 x3 =>
  if x3 = 4 then
    some (.inr (.inr (σ2, (-103))))
  else
  gd (ib v2 1000) <|
  b2 (f_Mo_lengthOf σ2 x1 (σ2.1 66 0 v2.toNatClampNeg)) fun σ4 x5 =>
  if x5 = 0 then
    some (.inr (.inr (σ4, (-103))))
  else
  gd (ib v2 1000) <|
  b2 (f_Mo_lengthOf σ4 x1 (σ4.1 66 0 v2.toNatClampNeg)) fun σ6 x7 =>
  nm (v1 + x7) fun x8 =>
  nm (v2 + 1) fun x9 =>
  some (.inl (σ6, x8, x9))
noncomputable def lb_Mo_write_114 (v1 : Int32) (v2 : Int32) (v3 : Int32) (σ : St) (v4 : Int32) : Option ((St × Int32) ⊕ ((St × Int32))) :=
  gd (ib v4 6) <|
  gd (ib v3 1000) <|
  if (σ.1 67 0 v4.toNatClampNeg) = (σ.1 65 0 v3.toNatClampNeg) then
    some (.inr (σ, v4))
  else
  nm (v4 + 1) fun x14 =>
  some (.inl (σ, x14))
noncomputable def lb_Mo_write_160 (v1 : Int32) (v2 : Int32) (v3 : Int32) (x16 : Int32) (σ : St) (v5 : Int32) : Option ((St × Int32) ⊕ ((St × Int32))) :=
  if x16 ≤ v5 then
    some (.inr (σ, v5))
  else
  b1 (f_Mo_putBits σ 1 1) fun σ19 =>
  nm (v5 + 1) fun x20 =>
  some (.inl (σ19, x20))
noncomputable def lb_Mo_write_103 (v2 : Int32) (σ : St) (v1 : Int32) (v3 : Int32) : Option ((St × Int32 × Int32) ⊕ ((St × Int32 × Int32))) :=
  if (σ.1 48 0 26) ≤ v3 then
    some (.inr (σ, v1, v3))
  else
  b2 (lpE (fun q => lb_Mo_write_114 v1 v2 v3 q.1 q.2) (σ, 0)) fun σ15 x16 =>
  b2 (f_Mo_front σ15 x16) fun σ17 x18 =>
  if v2 = 0 then
    nm (v1 + (x16 + 1)) fun x25 =>
    nm (v3 + 1) fun x26 =>
    some (.inl (σ17, x25, x26))
  else
  b2 (lpE (fun q => lb_Mo_write_160 v1 v2 v3 x16 q.1 q.2) (σ17, 0)) fun σ21 x22 =>
  b1 (f_Mo_putBits σ21 0 1) fun σ23 =>
  nm (v3 + 1) fun x24 =>
  some (.inl (σ23, v1, x24))
noncomputable def lb_Mo_write_88 (σ : St) (v1 : Int32) (v2 : Int32) : Option ((St × Int32 × Int32) ⊕ ((St × Int32 × Int32) ⊕ (St × Int32))) :=
  if 2 ≤ v2 then
    some (.inr (.inl (σ, v1, v2)))
  else
  b1 (f_Mo_begin σ (σ.1 48 0 24)) fun σ13 =>
  b3 (lpE (fun q => lb_Mo_write_103 v2 q.1 q.2.1 q.2.2) (σ13, v1, 0)) fun σ27 x28 x29 =>
  if v2 = 0 then
    b2 (f_Mo_hasRoom σ27 x28) fun σ31 x32 =>
    if x32 = 0 then
      some (.inr (.inr (σ31, (-106))))
    else
    nm (v2 + 1) fun x33 =>
    some (.inl (σ31, x28, x33))
  else
  nm (v2 + 1) fun x30 =>
  some (.inl (σ27, x28, x30))
noncomputable def lb_Mo_write_214 (x35 : Int32) (σ : St) (v2 : Int32) : Option ((St × Int32) ⊕ ((St × Int32))) :=
  if (σ.1 48 0 29) ≤ v2 then
    some (.inr (σ, v2))
  else
  gd (¬ (σ.1 48 0 25) = 0) <|
  gd (ib (v2 / (σ.1 48 0 25)) 1000) <|
  nm ((σ.1 48 0 23) + (σ.1 65 0 (v2 / (σ.1 48 0 25)).toNatClampNeg)) fun x37 =>
  gd (ib v2 1000) <|
  b2 (f_Mo_wordOf σ x37 (σ.1 66 0 v2.toNatClampNeg)) fun σ38 x39 =>
  gd (ib v2 1000) <|
  b2 (f_Mo_lengthOf σ38 x37 (σ38.1 66 0 v2.toNatClampNeg)) fun σ40 x41 =>
  b1 (f_Mo_putBits σ40 x39 x41) fun σ42 =>
  nm (v2 + 1) fun x43 =>
  some (.inl (σ42, x43))
noncomputable def f_Mo_write (σ : St) : Option (St × Int32) :=
  if (σ.1 48 0 23) = (-1) then
    some (σ, (-103))
  else
  bs3 (lpE (fun q => lb_Mo_write_15 q.1 q.2.1 q.2.2) (σ, 0, 0)) (fun z => some z) fun σ10 x11 x12 =>
  bs3 (lpE (fun q => lb_Mo_write_88 q.1 q.2.1 q.2.2) (σ10, x11, 0)) (fun z => some z) fun σ34 x35 x36 =>
  b2 (lpE (fun q => lb_Mo_write_214 x35 q.1 q.2) (σ34, 0)) fun σ44 x45 =>
  some (σ44, x35)
set_option maxHeartbeats 4000000 in
set_option maxRecDepth 100000 in
theorem c_Mo_begin (l : Launch) (D : va_G) (aC : Nat → ClassId) (A : Nat → Prop) (ad : Nat → Nat → Nat) (n : Nat) (σ : St) (a1 : Int32) (o : St) (h : f_Mo_begin σ a1 = some o) : Met l y_Mo_begin w_Mo_begin rm_Mo_begin (va_Pc [.ref (ad 48 0), .int a1] (Pre D aC A ad n σ)) (va_Qv (fun (_ : Unit) => True) (fun _ t => Hold D aC A ad n o t.heap) A) 0 0 A := by
  refine Met.ofW (cc := prog_13_method_58_code) (maxL := 3) (ret := none) (by decide) rfl ?_
  intro p e s m args below meth c s₁ B hml hv
  obtain ⟨hargs, hH, hK, hZ⟩ := hv
  have hx := B.exec
  have hb := B.bytes
  have hr := B.returns
  have hts := atoms_spec (ws := w_Mo_begin) B.pre
  have hg : ∀ w ∈ gW, w.before args s = true := fun w h => hts w (List.mem_cons_of_mem _ h)
  have hown : s.vm.findClass "PrefixCodesModel" = some m.cls := findClass_of_methodNamed B.named
  have hlocks := B.notSynchronized
  have hS : va_S A s.heap s.heap [] := va_S.rf
  have hl := lv_entry ([.ref (ad 48 0), .int a1]) (n := 3) (Nat.le_of_ble_eq_true rfl)
  rw [show entryFrame m args 3 = entryFrame m (([.ref (ad 48 0), .int a1] : List Value).toArray) 3 by rw [hargs], lg_entry_eq]
  generalize (lg_sl ([.ref (ad 48 0), .int a1]) ++ List.replicate (3 - (lg_sl ([.ref (ad 48 0), .int a1])).length) Slot.unset).toArray = ls at hl ⊢
  have hl : lv_has ls 3 [(0, .ref (ad 48 0)), (1, .int a1)] := hl
  generalize hQ0 : MQ below (va_Qv (fun (_ : Unit) => True) (fun _ t => Hold D aC A ad n o t.heap) A) args s 0 0 A = Q0
  unfold f_Mo_begin at h
  refine lv_iconst (v := 0) hx hb d_Mo_begin_0 (by decide) ?_
  refine lv_istore_n (lv' := [(2, .int 0), (0, .ref (ad 48 0)), (1, .int a1)]) hx hb d_Mo_begin_1 rfl hl (by decide) rfl (fun ls hl => ?_)
  obtain ⟨q1, hq1, h⟩ := b2_some h
  have K1 : ∀ (σ3 : St) (x4 : Int32) (H : Heap) (locs : List Loc) (ls : Array Slot), q1 = (σ3, x4) → Hold D aC A ad n σ3 H → va_S A s.heap H locs → lv_has ls 3 [(0, .ref (ad 48 0)), (1, .int a1), (2, .int x4)] → W p l e (headSpec w_Mo_begin rm_Mo_begin).room s m args below meth c H locs 0 0 Q0 (F0 m 20 ls []) := by
    intro σ3 x4 H locs ls eq1 hH hS hl
    subst eq1
    have h := b2_at h
    cases h
    rw [← hQ0]
    exact W.vret hx hb hr (fun t ht hW => ⟨⟨(), rfl, trivial, by dsimp only; rw [ht]; exact hH⟩, hS.F ht⟩) hS.2.2 d_Mo_begin_20
  have loop1 : ∀ (k : Nat) (σ : St) (v2 : Int32) (H : Heap) (locs : List Loc) (ls : Array Slot), Hold D aC A ad n σ H → va_S A s.heap H locs → lv_has ls 3 [(0, .ref (ad 48 0)), (1, .int a1), (2, .int v2)] → lp (fun q => lb_Mo_begin_2 a1 q.1 q.2) k (σ, v2) = some q1 → W p l e (headSpec w_Mo_begin rm_Mo_begin).room s m args below meth c H locs 0 0 Q0 (F0 m 2 ls []) := by
    intro k
    induction k with
    | zero => intro σ v2 H locs ls hH hS hl hlp; exact absurd hlp (lp_zero _ _ _)
    | succ k ih1 =>
      intro σ v2 H locs ls hH hS hl hlp
      obtain ⟨z1, h1, hk1⟩ := lp_succ hlp
      have h1 : lb_Mo_begin_2 a1 σ v2 = some z1 := h1
      unfold lb_Mo_begin_2 at h1
      refine lv_iload_n hx hb d_Mo_begin_2 rfl (lv_at hl 2 rfl) ?_
      refine lv_iload_n hx hb d_Mo_begin_3 rfl (lv_at hl 1 rfl) ?_
      refine lv_icmp_ge (tgt := 20) hx hb d_Mo_begin_4 (by decide) (fun c4 => ?_) (fun c4 => ?_)
      · have h1 := it h1 c4
        cases h1
        exact K1 σ v2 _ _ ls (Option.some.inj hk1).symm hH hS (lv_sub hl [0, 1, 2] rfl)
      · have h1 := ie h1 c4
        refine lv_aload_n hx hb d_Mo_begin_7 rfl (lv_at hl 0 rfl) ?_
        refine st_get hx hb hg hown hK hH (f := 48) (i := 0) hd_48 rfl rfl u_Mo 30 (by decide) (hg _ wd_589) (v := .ref (ad 67 0)) rfl d_Mo_begin_8 ?_
        refine lv_iload_n hx hb d_Mo_begin_11 rfl (lv_at hl 2 rfl) ?_
        refine lv_iload_n hx hb d_Mo_begin_12 rfl (lv_at hl 2 rfl) ?_
        obtain ⟨g13, h1⟩ := gd_some h1
        refine st_iast hx hb hK hH hS (f := 67) (i := 0) hd_67 rfl g13 d_Mo_begin_13 (fun σ1 H locs eσ1 hH hS => ?_)
        have h1 := nm_at eσ1 h1
        obtain ⟨x2, ex2⟩ : ∃ y : Int32, y = v2 + 1 := ⟨_, rfl⟩
        have h1 := nm_at ex2 h1
        refine lv_iinc (v := x2) (lv' := [(2, .int x2), (0, .ref (ad 48 0)), (1, .int a1)]) hx hb d_Mo_begin_14 hl (k := 2) rfl (by rw [ex2]; rfl) (by decide) rfl (fun ls hl => ?_)
        refine lv_goto (tgt := 2) hx hb d_Mo_begin_17 (by decide) ?_
        cases h1
        exact ih1 σ1 x2 _ _ ls hH hS (lv_sub hl [1, 2, 0] rfl) hk1
  obtain ⟨k1, hq1⟩ := lpE_some hq1
  exact loop1 k1 σ 0 _ _ ls hH hS (lv_sub hl [1, 2, 0] rfl) hq1
set_option maxHeartbeats 4000000 in
set_option maxRecDepth 100000 in
theorem c_Mo_front (l : Launch) (D : va_G) (aC : Nat → ClassId) (A : Nat → Prop) (ad : Nat → Nat → Nat) (n : Nat) (σ : St) (a1 : Int32) (o : St × Int32) (h : f_Mo_front σ a1 = some o) : Met l y_Mo_front w_Mo_front rm_Mo_front (va_Pc [.ref (ad 48 0), .int a1] (Pre D aC A ad n σ)) (va_Qi (fun r (_ : Unit) => r = o.2) (fun _ t => Hold D aC A ad n o.1 t.heap) A) 0 0 A := by
  refine Met.ofW (cc := prog_13_method_59_code) (maxL := 4) (ret := (some .int)) (by decide) rfl ?_
  intro p e s m args below meth c s₁ B hml hv
  obtain ⟨hargs, hH, hK, hZ⟩ := hv
  have hx := B.exec
  have hb := B.bytes
  have hr := B.returns
  have hts := atoms_spec (ws := w_Mo_front) B.pre
  have hg : ∀ w ∈ gW, w.before args s = true := fun w h => hts w (List.mem_cons_of_mem _ h)
  have hown : s.vm.findClass "PrefixCodesModel" = some m.cls := findClass_of_methodNamed B.named
  have hlocks := B.notSynchronized
  have hS : va_S A s.heap s.heap [] := va_S.rf
  have hl := lv_entry ([.ref (ad 48 0), .int a1]) (n := 4) (Nat.le_of_ble_eq_true rfl)
  rw [show entryFrame m args 4 = entryFrame m (([.ref (ad 48 0), .int a1] : List Value).toArray) 4 by rw [hargs], lg_entry_eq]
  generalize (lg_sl ([.ref (ad 48 0), .int a1]) ++ List.replicate (4 - (lg_sl ([.ref (ad 48 0), .int a1])).length) Slot.unset).toArray = ls at hl ⊢
  have hl : lv_has ls 4 [(0, .ref (ad 48 0)), (1, .int a1)] := hl
  generalize hQ0 : MQ below (va_Qi (fun r (_ : Unit) => r = o.2) (fun _ t => Hold D aC A ad n o.1 t.heap) A) args s 0 0 A = Q0
  unfold f_Mo_front at h
  refine lv_aload_n hx hb d_Mo_front_0 rfl (lv_at hl 0 rfl) ?_
  refine st_get hx hb hg hown hK hH (f := 48) (i := 0) hd_48 rfl rfl u_Mo 30 (by decide) (hg _ wd_589) (v := .ref (ad 67 0)) rfl d_Mo_front_1 ?_
  refine lv_iload_n hx hb d_Mo_front_4 rfl (lv_at hl 1 rfl) ?_
  obtain ⟨g5, h⟩ := gd_some h
  refine st_iald hx hb hK hH (f := 67) (i := 0) hd_67 rfl g5 d_Mo_front_5 ?_
  refine lv_topi (fun x1 ex1 => ?_)
  have h := nm_at ex1 h
  refine lv_istore_n (lv' := [(2, .int x1), (0, .ref (ad 48 0)), (1, .int a1)]) hx hb d_Mo_front_6 rfl hl (by decide) rfl (fun ls hl => ?_)
  refine lv_iload_n hx hb d_Mo_front_7 rfl (lv_at hl 2 rfl) ?_
  refine lv_istore_n (lv' := [(3, .int a1), (2, .int x1), (0, .ref (ad 48 0)), (1, .int a1)]) hx hb d_Mo_front_8 rfl hl (by decide) rfl (fun ls hl => ?_)
  obtain ⟨q1, hq1, h⟩ := b2_some h
  have K1 : ∀ (σ4 : St) (x5 : Int32) (H : Heap) (locs : List Loc) (ls : Array Slot), q1 = (σ4, x5) → Hold D aC A ad n σ4 H → va_S A s.heap H locs → lv_has ls 4 [(0, .ref (ad 48 0)), (2, .int x1), (3, .int x5)] → W p l e (headSpec w_Mo_front rm_Mo_front).room s m args below meth c H locs 0 0 Q0 (F0 m 33 ls []) := by
    intro σ4 x5 H locs ls eq1 hH hS hl
    subst eq1
    have h := b2_at h
    refine lv_aload_n hx hb d_Mo_front_33 rfl (lv_at hl 0 rfl) ?_
    refine st_get hx hb hg hown hK hH (f := 48) (i := 0) hd_48 rfl rfl u_Mo 30 (by decide) (hg _ wd_589) (v := .ref (ad 67 0)) rfl d_Mo_front_34 ?_
    refine lv_iconst (v := 0) hx hb d_Mo_front_37 (by decide) ?_
    refine lv_iload_n hx hb d_Mo_front_38 rfl (lv_at hl 1 rfl) ?_
    obtain ⟨g39, h⟩ := gd_some h
    refine st_iast hx hb hK hH hS (f := 67) (i := 0) hd_67 rfl g39 d_Mo_front_39 (fun σ6 H locs eσ6 hH hS => ?_)
    have h := nm_at eσ6 h
    refine lv_iload_n hx hb d_Mo_front_40 rfl (lv_at hl 1 rfl) ?_
    cases h
    rw [← hQ0]
    exact W.iret hx hb hr (fun t ht hW => ⟨⟨_, (), rfl, rfl, by dsimp only; rw [ht]; exact hH⟩, hS.F ht⟩) hS.2.2 d_Mo_front_41
  have loop1 : ∀ (k : Nat) (σ : St) (v3 : Int32) (H : Heap) (locs : List Loc) (ls : Array Slot), Hold D aC A ad n σ H → va_S A s.heap H locs → lv_has ls 4 [(0, .ref (ad 48 0)), (2, .int x1), (3, .int v3)] → lp (fun q => lb_Mo_front_9 x1 q.1 q.2) k (σ, v3) = some q1 → W p l e (headSpec w_Mo_front rm_Mo_front).room s m args below meth c H locs 0 0 Q0 (F0 m 9 ls []) := by
    intro k
    induction k with
    | zero => intro σ v3 H locs ls hH hS hl hlp; exact absurd hlp (lp_zero _ _ _)
    | succ k ih1 =>
      intro σ v3 H locs ls hH hS hl hlp
      obtain ⟨z1, h1, hk1⟩ := lp_succ hlp
      have h1 : lb_Mo_front_9 x1 σ v3 = some z1 := h1
      unfold lb_Mo_front_9 at h1
      refine lv_iload_n hx hb d_Mo_front_9 rfl (lv_at hl 2 rfl) ?_
      refine lv_if_le (tgt := 33) hx hb d_Mo_front_10 (by decide) (fun c10 => ?_) (fun c10 => ?_)
      · have h1 := it h1 c10
        cases h1
        exact K1 σ v3 _ _ ls (Option.some.inj hk1).symm hH hS (lv_sub hl [0, 1, 2] rfl)
      · have h1 := ie h1 c10
        refine lv_aload_n hx hb d_Mo_front_13 rfl (lv_at hl 0 rfl) ?_
        refine st_get hx hb hg hown hK hH (f := 48) (i := 0) hd_48 rfl rfl u_Mo 30 (by decide) (hg _ wd_589) (v := .ref (ad 67 0)) rfl d_Mo_front_14 ?_
        refine lv_iload_n hx hb d_Mo_front_17 rfl (lv_at hl 2 rfl) ?_
        refine lv_aload_n hx hb d_Mo_front_18 rfl (lv_at hl 0 rfl) ?_
        refine st_get hx hb hg hown hK hH (f := 48) (i := 0) hd_48 rfl rfl u_Mo 30 (by decide) (hg _ wd_589) (v := .ref (ad 67 0)) rfl d_Mo_front_19 ?_
        refine lv_iload_n hx hb d_Mo_front_22 rfl (lv_at hl 2 rfl) ?_
        refine lv_iconst (v := 1) hx hb d_Mo_front_23 (by decide) ?_
        refine lv_isub hx hb d_Mo_front_24 ?_
        obtain ⟨g25, h1⟩ := gd_some h1
        refine st_iald hx hb hK hH (f := 67) (i := 0) hd_67 rfl g25 d_Mo_front_25 ?_
        obtain ⟨g26, h1⟩ := gd_some h1
        refine st_iast hx hb hK hH hS (f := 67) (i := 0) hd_67 rfl g26 d_Mo_front_26 (fun σ2 H locs eσ2 hH hS => ?_)
        have h1 := nm_at eσ2 h1
        obtain ⟨x3, ex3⟩ : ∃ y : Int32, y = v3 + (-1) := ⟨_, rfl⟩
        have h1 := nm_at ex3 h1
        refine lv_iinc (v := x3) (lv' := [(3, .int x3), (0, .ref (ad 48 0)), (2, .int x1)]) hx hb d_Mo_front_27 hl (k := 2) rfl (by rw [ex3]; rfl) (by decide) rfl (fun ls hl => ?_)
        refine lv_goto (tgt := 9) hx hb d_Mo_front_30 (by decide) ?_
        cases h1
        exact ih1 σ2 x3 _ _ ls hH hS (lv_sub hl [1, 2, 0] rfl) hk1
  obtain ⟨k1, hq1⟩ := lpE_some hq1
  exact loop1 k1 σ a1 _ _ ls hH hS (lv_sub hl [2, 1, 0] rfl) hq1
set_option maxHeartbeats 4000000 in
set_option maxRecDepth 100000 in
theorem c_Mo_write (l : Launch) (D : va_G) (aC : Nat → ClassId) (A : Nat → Prop) (ad : Nat → Nat → Nat) (n : Nat) (σ : St) (o : St × Int32) (h : f_Mo_write σ  = some o) : Met l y_Mo_write w_Mo_write rm_Mo_write (va_Pc [.ref (ad 48 0)] (Pre D aC A ad n σ)) (va_Qi (fun r (_ : Unit) => r = o.2) (fun _ t => Hold D aC A ad n o.1 t.heap) A) 0 0 A := by
  refine Met.ofW (cc := prog_13_method_60_code) (maxL := 6) (ret := (some .int)) (by decide) rfl ?_
  intro p e s m args below meth c s₁ B hml hv
  obtain ⟨hargs, hH, hK, hZ⟩ := hv
  have hx := B.exec
  have hb := B.bytes
  have hr := B.returns
  have hts := atoms_spec (ws := w_Mo_write) B.pre
  have hg : ∀ w ∈ gW, w.before args s = true := fun w h => hts w (List.mem_cons_of_mem _ h)
  have hown : s.vm.findClass "PrefixCodesModel" = some m.cls := findClass_of_methodNamed B.named
  have hlocks := B.notSynchronized
  have hS : va_S A s.heap s.heap [] := va_S.rf
  have hl := lv_entry ([.ref (ad 48 0)]) (n := 6) (Nat.le_of_ble_eq_true rfl)
  rw [show entryFrame m args 6 = entryFrame m (([.ref (ad 48 0)] : List Value).toArray) 6 by rw [hargs], lg_entry_eq]
  generalize (lg_sl ([.ref (ad 48 0)]) ++ List.replicate (6 - (lg_sl ([.ref (ad 48 0)])).length) Slot.unset).toArray = ls at hl ⊢
  have hl : lv_has ls 6 [(0, .ref (ad 48 0))] := hl
  generalize hQ0 : MQ below (va_Qi (fun r (_ : Unit) => r = o.2) (fun _ t => Hold D aC A ad n o.1 t.heap) A) args s 0 0 A = Q0
  unfold f_Mo_write at h
  refine lv_aload_n hx hb d_Mo_write_0 rfl (lv_at hl 0 rfl) ?_
  refine st_get hx hb hg hown hK hH (f := 48) (i := 0) hd_48 rfl rfl u_Mo 23 (by decide) (hg _ wd_576) (v := .int (σ.1 48 0 23)) rfl d_Mo_write_1 ?_
  refine lv_iconst (v := (-1)) hx hb d_Mo_write_4 (by decide) ?_
  refine lv_icmp_ne (tgt := 11) hx hb d_Mo_write_5 (by decide) (fun c5 => ?_) (fun c5 => ?_)
  · have h := ie h c5
    refine lv_iconst (v := 0) hx hb d_Mo_write_11 (by decide) ?_
    refine lv_istore_n (lv' := [(1, .int 0), (0, .ref (ad 48 0))]) hx hb d_Mo_write_12 rfl hl (by decide) rfl (fun ls hl => ?_)
    refine lv_iconst (v := 0) hx hb d_Mo_write_13 (by decide) ?_
    refine lv_istore_n (lv' := [(2, .int 0), (1, .int 0), (0, .ref (ad 48 0))]) hx hb d_Mo_write_14 rfl hl (by decide) rfl (fun ls hl => ?_)
    obtain ⟨q1, hq1, h⟩ := bs3_some h
    have K1 : ∀ (σ10 : St) (x11 : Int32) (x12 : Int32) (H : Heap) (locs : List Loc) (ls : Array Slot), q1 = .inl (σ10, x11, x12) → Hold D aC A ad n σ10 H → va_S A s.heap H locs → lv_has ls 6 [(0, .ref (ad 48 0)), (1, .int x11), (2, .int x12)] → W p l e (headSpec w_Mo_write rm_Mo_write).room s m args below meth c H locs 0 0 Q0 (F0 m 86 ls []) := by
      intro σ10 x11 x12 H locs ls eq1 hH hS hl
      subst eq1
      have h := bs3_at h
      refine lv_iconst (v := 0) hx hb d_Mo_write_86 (by decide) ?_
      refine lv_istore_n (lv' := [(2, .int 0), (0, .ref (ad 48 0)), (1, .int x11)]) hx hb d_Mo_write_87 rfl hl (by decide) rfl (fun ls hl => ?_)
      obtain ⟨q1, hq1, h⟩ := bs3_some h
      have K1 : ∀ (σ34 : St) (x35 : Int32) (x36 : Int32) (H : Heap) (locs : List Loc) (ls : Array Slot), q1 = .inl (σ34, x35, x36) → Hold D aC A ad n σ34 H → va_S A s.heap H locs → lv_has ls 6 [(0, .ref (ad 48 0)), (1, .int x35), (2, .int x36)] → W p l e (headSpec w_Mo_write rm_Mo_write).room s m args below meth c H locs 0 0 Q0 (F0 m 212 ls []) := by
        intro σ34 x35 x36 H locs ls eq1 hH hS hl
        subst eq1
        have h := bs3_at h
        refine lv_iconst (v := 0) hx hb d_Mo_write_212 (by decide) ?_
        refine lv_istore_n (lv' := [(2, .int 0), (0, .ref (ad 48 0)), (1, .int x35)]) hx hb d_Mo_write_213 rfl hl (by decide) rfl (fun ls hl => ?_)
        obtain ⟨q1, hq1, h⟩ := b2_some h
        have K1 : ∀ (σ44 : St) (x45 : Int32) (H : Heap) (locs : List Loc) (ls : Array Slot), q1 = (σ44, x45) → Hold D aC A ad n σ44 H → va_S A s.heap H locs → lv_has ls 6 [(0, .ref (ad 48 0)), (1, .int x35), (2, .int x45)] → W p l e (headSpec w_Mo_write rm_Mo_write).room s m args below meth c H locs 0 0 Q0 (F0 m 271 ls []) := by
          intro σ44 x45 H locs ls eq1 hH hS hl
          subst eq1
          have h := b2_at h
          refine lv_iload_n hx hb d_Mo_write_271 rfl (lv_at hl 1 rfl) ?_
          cases h
          rw [← hQ0]
          exact W.iret hx hb hr (fun t ht hW => ⟨⟨_, (), rfl, rfl, by dsimp only; rw [ht]; exact hH⟩, hS.F ht⟩) hS.2.2 d_Mo_write_272
        have loop1 : ∀ (k : Nat) (σ : St) (v2 : Int32) (H : Heap) (locs : List Loc) (ls : Array Slot), Hold D aC A ad n σ H → va_S A s.heap H locs → lv_has ls 6 [(0, .ref (ad 48 0)), (1, .int x35), (2, .int v2)] → lp (fun q => lb_Mo_write_214 x35 q.1 q.2) k (σ, v2) = some q1 → W p l e (headSpec w_Mo_write rm_Mo_write).room s m args below meth c H locs 0 0 Q0 (F0 m 214 ls []) := by
          intro k
          induction k with
          | zero => intro σ v2 H locs ls hH hS hl hlp; exact absurd hlp (lp_zero _ _ _)
          | succ k ih1 =>
            intro σ v2 H locs ls hH hS hl hlp
            obtain ⟨z1, h1, hk1⟩ := lp_succ hlp
            have h1 : lb_Mo_write_214 x35 σ v2 = some z1 := h1
            unfold lb_Mo_write_214 at h1
            refine lv_iload_n hx hb d_Mo_write_214 rfl (lv_at hl 2 rfl) ?_
            refine lv_aload_n hx hb d_Mo_write_215 rfl (lv_at hl 0 rfl) ?_
            refine st_get hx hb hg hown hK hH (f := 48) (i := 0) hd_48 rfl rfl u_Mo 29 (by decide) (hg _ wd_572) (v := .int (σ.1 48 0 29)) rfl d_Mo_write_216 ?_
            refine lv_icmp_ge (tgt := 271) hx hb d_Mo_write_219 (by decide) (fun c219 => ?_) (fun c219 => ?_)
            · have h1 := it h1 c219
              cases h1
              exact K1 σ v2 _ _ ls (Option.some.inj hk1).symm hH hS (lv_sub hl [0, 1, 2] rfl)
            · have h1 := ie h1 c219
              refine lv_aload_n hx hb d_Mo_write_222 rfl (lv_at hl 0 rfl) ?_
              refine st_get hx hb hg hown hK hH (f := 48) (i := 0) hd_48 rfl rfl u_Mo 23 (by decide) (hg _ wd_576) (v := .int (σ.1 48 0 23)) rfl d_Mo_write_223 ?_
              refine lv_aload_n hx hb d_Mo_write_226 rfl (lv_at hl 0 rfl) ?_
              refine st_get hx hb hg hown hK hH (f := 48) (i := 0) hd_48 rfl rfl u_Mo 27 (by decide) (hg _ wd_574) (v := .ref (ad 65 0)) rfl d_Mo_write_227 ?_
              refine lv_iload_n hx hb d_Mo_write_230 rfl (lv_at hl 2 rfl) ?_
              refine lv_aload_n hx hb d_Mo_write_231 rfl (lv_at hl 0 rfl) ?_
              refine st_get hx hb hg hown hK hH (f := 48) (i := 0) hd_48 rfl rfl u_Mo 25 (by decide) (hg _ wd_575) (v := .int (σ.1 48 0 25)) rfl d_Mo_write_232 ?_
              obtain ⟨g235, h1⟩ := gd_some h1
              refine lv_idiv hx hb d_Mo_write_235 g235 ?_
              obtain ⟨g236, h1⟩ := gd_some h1
              refine st_iald hx hb hK hH (f := 65) (i := 0) hd_65 rfl g236 d_Mo_write_236 ?_
              refine lv_iadd hx hb d_Mo_write_237 ?_
              refine lv_topi (fun x37 ex37 => ?_)
              have h1 := nm_at ex37 h1
              refine lv_istore_n (lv' := [(3, .int x37), (0, .ref (ad 48 0)), (1, .int x35), (2, .int v2)]) hx hb d_Mo_write_238 rfl hl (by decide) rfl (fun ls hl => ?_)
              refine lv_aload_n hx hb d_Mo_write_239 rfl (lv_at hl 1 rfl) ?_
              refine lv_aload_n hx hb d_Mo_write_240 rfl (lv_at hl 1 rfl) ?_
              refine lv_iload_n hx hb d_Mo_write_241 rfl (lv_at hl 0 rfl) ?_
              refine lv_aload_n hx hb d_Mo_write_242 rfl (lv_at hl 1 rfl) ?_
              refine st_get hx hb hg hown hK hH (f := 48) (i := 0) hd_48 rfl rfl u_Mo 28 (by decide) (hg _ wd_573) (v := .ref (ad 66 0)) rfl d_Mo_write_243 ?_
              refine lv_iload_n hx hb d_Mo_write_246 rfl (lv_at hl 3 rfl) ?_
              obtain ⟨g247, h1⟩ := gd_some h1
              refine st_iald hx hb hK hH (f := 66) (i := 0) hd_66 rfl g247 d_Mo_write_247 ?_
              obtain ⟨qc, hc248, h1⟩ := b2_some h1
              obtain ⟨σ38, x39⟩ := qc
              have h1 := b2_at h1
              refine st_Vi (As := [.int x37, .int (σ.1 66 0 v2.toNatClampNeg)]) (rest := [.ref (ad 48 0)]) ⟨hx, hb, hml, hown, hg⟩ (c_Mo_wordOf l D aC A ad n _ x37 (σ.1 66 0 v2.toNatClampNeg) _ hc248) (cwG hg wd_461 wd_462 wd_463 wd_464 wd_428 yd_Mo_wordOf ⟨Nat.le_of_ble_eq_true rfl, Nat.le_of_ble_eq_true rfl⟩) hK hH hS hZ hd_48 rfl rfl rfl hl.1 rfl (Nat.le_of_ble_eq_true rfl) d_Mo_write_248 ⟨Nat.zero_le _, Nat.zero_le _⟩ (fun H locs hH hS => ?_)
              refine lv_aload_n hx hb d_Mo_write_251 rfl (lv_at hl 1 rfl) ?_
              refine lv_iload_n hx hb d_Mo_write_252 rfl (lv_at hl 0 rfl) ?_
              refine lv_aload_n hx hb d_Mo_write_253 rfl (lv_at hl 1 rfl) ?_
              refine st_get hx hb hg hown hK hH (f := 48) (i := 0) hd_48 rfl rfl u_Mo 28 (by decide) (hg _ wd_573) (v := .ref (ad 66 0)) rfl d_Mo_write_254 ?_
              refine lv_iload_n hx hb d_Mo_write_257 rfl (lv_at hl 3 rfl) ?_
              obtain ⟨g258, h1⟩ := gd_some h1
              refine st_iald hx hb hK hH (f := 66) (i := 0) hd_66 rfl g258 d_Mo_write_258 ?_
              obtain ⟨qc, hc259, h1⟩ := b2_some h1
              obtain ⟨σ40, x41⟩ := qc
              have h1 := b2_at h1
              refine st_Vi (As := [.int x37, .int (σ38.1 66 0 v2.toNatClampNeg)]) (rest := [.int x39, .ref (ad 48 0)]) ⟨hx, hb, hml, hown, hg⟩ (c_Mo_lengthOf l D aC A ad n _ x37 (σ38.1 66 0 v2.toNatClampNeg) _ hc259) (cwG hg wd_440 wd_441 wd_442 wd_443 wd_428 yd_Mo_lengthOf ⟨Nat.le_of_ble_eq_true rfl, Nat.le_of_ble_eq_true rfl⟩) hK hH hS hZ hd_48 rfl rfl rfl hl.1 rfl (Nat.le_of_ble_eq_true rfl) d_Mo_write_259 ⟨Nat.zero_le _, Nat.zero_le _⟩ (fun H locs hH hS => ?_)
              obtain ⟨qc, hc262, h1⟩ := b1_some h1
              obtain ⟨σ42, rfl⟩ : ∃ z, z = qc := ⟨_, rfl⟩
              have h1 := b1_at h1
              refine st_Vv (As := [.int x39, .int x41]) (rest := []) ⟨hx, hb, hml, hown, hg⟩ (c_Mo_putBits l D aC A ad n _ x39 x41 _ hc262) (cwG hg wd_497 wd_498 wd_499 wd_500 wd_428 yd_Mo_putBits ⟨Nat.le_of_ble_eq_true rfl, Nat.le_of_ble_eq_true rfl⟩) hK hH hS hZ hd_48 rfl rfl rfl hl.1 rfl (Nat.le_of_ble_eq_true rfl) d_Mo_write_262 ⟨Nat.zero_le _, Nat.zero_le _⟩ (fun H locs hH hS => ?_)
              obtain ⟨x43, ex43⟩ : ∃ y : Int32, y = v2 + 1 := ⟨_, rfl⟩
              have h1 := nm_at ex43 h1
              refine lv_iinc (v := x43) (lv' := [(2, .int x43), (3, .int x37), (0, .ref (ad 48 0)), (1, .int x35)]) hx hb d_Mo_write_265 hl (k := 3) rfl (by rw [ex43]; rfl) (by decide) rfl (fun ls hl => ?_)
              refine lv_goto (tgt := 214) hx hb d_Mo_write_268 (by decide) ?_
              cases h1
              exact ih1 σ42 x43 _ _ ls hH hS (lv_sub hl [2, 3, 0] rfl) hk1
        obtain ⟨k1, hq1⟩ := lpE_some hq1
        exact loop1 k1 σ34 0 _ _ ls hH hS (lv_sub hl [1, 2, 0] rfl) hq1
      have loop1 : ∀ (k : Nat) (σ : St) (v1 : Int32) (v2 : Int32) (H : Heap) (locs : List Loc) (ls : Array Slot), Hold D aC A ad n σ H → va_S A s.heap H locs → lv_has ls 6 [(0, .ref (ad 48 0)), (1, .int v1), (2, .int v2)] → lp (fun q => lb_Mo_write_88 q.1 q.2.1 q.2.2) k (σ, v1, v2) = some q1 → W p l e (headSpec w_Mo_write rm_Mo_write).room s m args below meth c H locs 0 0 Q0 (F0 m 88 ls []) := by
        intro k
        induction k with
        | zero => intro σ v1 v2 H locs ls hH hS hl hlp; exact absurd hlp (lp_zero _ _ _)
        | succ k ih1 =>
          intro σ v1 v2 H locs ls hH hS hl hlp
          obtain ⟨z1, h1, hk1⟩ := lp_succ hlp
          have h1 : lb_Mo_write_88 σ v1 v2 = some z1 := h1
          unfold lb_Mo_write_88 at h1
          refine lv_iload_n hx hb d_Mo_write_88 rfl (lv_at hl 2 rfl) ?_
          refine lv_iconst (v := 2) hx hb d_Mo_write_89 (by decide) ?_
          refine lv_icmp_ge (tgt := 212) hx hb d_Mo_write_90 (by decide) (fun c90 => ?_) (fun c90 => ?_)
          · have h1 := it h1 c90
            cases h1
            exact K1 σ v1 v2 _ _ ls (Option.some.inj hk1).symm hH hS (lv_sub hl [0, 1, 2] rfl)
          · have h1 := ie h1 c90
            refine lv_aload_n hx hb d_Mo_write_93 rfl (lv_at hl 0 rfl) ?_
            refine lv_aload_n hx hb d_Mo_write_94 rfl (lv_at hl 0 rfl) ?_
            refine st_get hx hb hg hown hK hH (f := 48) (i := 0) hd_48 rfl rfl u_Mo 24 (by decide) (hg _ wd_571) (v := .int (σ.1 48 0 24)) rfl d_Mo_write_95 ?_
            obtain ⟨qc, hc98, h1⟩ := b1_some h1
            obtain ⟨σ13, rfl⟩ : ∃ z, z = qc := ⟨_, rfl⟩
            have h1 := b1_at h1
            refine st_Vv (As := [.int (σ.1 48 0 24)]) (rest := []) ⟨hx, hb, hml, hown, hg⟩ (c_Mo_begin l D aC A ad n _ (σ.1 48 0 24) _ hc98) (cwG hg wd_590 wd_591 wd_592 wd_593 wd_428 yd_Mo_begin ⟨Nat.le_of_ble_eq_true rfl, Nat.le_of_ble_eq_true rfl⟩) hK hH hS hZ hd_48 rfl rfl rfl hl.1 rfl (Nat.le_of_ble_eq_true rfl) d_Mo_write_98 ⟨Nat.zero_le _, Nat.zero_le _⟩ (fun H locs hH hS => ?_)
            refine lv_iconst (v := 0) hx hb d_Mo_write_101 (by decide) ?_
            refine lv_istore_n (lv' := [(3, .int 0), (0, .ref (ad 48 0)), (1, .int v1), (2, .int v2)]) hx hb d_Mo_write_102 rfl hl (by decide) rfl (fun ls hl => ?_)
            obtain ⟨q2, hq2, h1⟩ := b3_some h1
            have K2 : ∀ (σ27 : St) (x28 : Int32) (x29 : Int32) (H : Heap) (locs : List Loc) (ls : Array Slot), q2 = (σ27, x28, x29) → Hold D aC A ad n σ27 H → va_S A s.heap H locs → lv_has ls 6 [(0, .ref (ad 48 0)), (1, .int x28), (2, .int v2), (3, .int x29)] → W p l e (headSpec w_Mo_write rm_Mo_write).room s m args below meth c H locs 0 0 Q0 (F0 m 191 ls []) := by
              intro σ27 x28 x29 H locs ls eq2 hH hS hl
              subst eq2
              have h1 := b3_at h1
              refine lv_iload_n hx hb d_Mo_write_191 rfl (lv_at hl 2 rfl) ?_
              refine lv_if_ne (tgt := 206) hx hb d_Mo_write_192 (by decide) (fun c192 => ?_) (fun c192 => ?_)
              · have h1 := ie h1 c192
                obtain ⟨x30, ex30⟩ : ∃ y : Int32, y = v2 + 1 := ⟨_, rfl⟩
                have h1 := nm_at ex30 h1
                refine lv_iinc (v := x30) (lv' := [(2, .int x30), (0, .ref (ad 48 0)), (1, .int x28), (3, .int x29)]) hx hb d_Mo_write_206 hl (k := 2) rfl (by rw [ex30]; rfl) (by decide) rfl (fun ls hl => ?_)
                refine lv_goto (tgt := 88) hx hb d_Mo_write_209 (by decide) ?_
                cases h1
                exact ih1 σ27 x28 x30 _ _ ls hH hS (lv_sub hl [1, 2, 0] rfl) hk1
              · have h1 := it h1 c192
                refine lv_aload_n hx hb d_Mo_write_195 rfl (lv_at hl 0 rfl) ?_
                refine lv_iload_n hx hb d_Mo_write_196 rfl (lv_at hl 1 rfl) ?_
                obtain ⟨qc, hc197, h1⟩ := b2_some h1
                obtain ⟨σ31, x32⟩ := qc
                have h1 := b2_at h1
                refine st_Vi (As := [.int x28]) (rest := []) ⟨hx, hb, hml, hown, hg⟩ (c_Mo_hasRoom l D aC A ad n _ x28 _ hc197) (cwG hg wd_493 wd_494 wd_495 wd_496 wd_428 yd_Mo_hasRoom ⟨Nat.le_of_ble_eq_true rfl, Nat.le_of_ble_eq_true rfl⟩) hK hH hS hZ hd_48 rfl rfl rfl hl.1 rfl (Nat.le_of_ble_eq_true rfl) d_Mo_write_197 ⟨Nat.zero_le _, Nat.zero_le _⟩ (fun H locs hH hS => ?_)
                refine lv_if_ne (tgt := 206) hx hb d_Mo_write_200 (by decide) (fun c200 => ?_) (fun c200 => ?_)
                · have h1 := ie h1 c200
                  obtain ⟨x33, ex33⟩ : ∃ y : Int32, y = v2 + 1 := ⟨_, rfl⟩
                  have h1 := nm_at ex33 h1
                  refine lv_iinc (v := x33) (lv' := [(2, .int x33), (0, .ref (ad 48 0)), (1, .int x28), (3, .int x29)]) hx hb d_Mo_write_206 hl (k := 2) rfl (by rw [ex33]; rfl) (by decide) rfl (fun ls hl => ?_)
                  refine lv_goto (tgt := 88) hx hb d_Mo_write_209 (by decide) ?_
                  cases h1
                  exact ih1 σ31 x28 x33 _ _ ls hH hS (lv_sub hl [1, 2, 0] rfl) hk1
                · have h1 := it h1 c200
                  refine lv_bipush (v := (-106)) hx hb d_Mo_write_203 (by decide) ?_
                  cases h1
                  have hk1 := Option.some.inj hk1
                  subst hk1
                  have h := bs3_r h
                  cases h
                  rw [← hQ0]
                  exact W.iret hx hb hr (fun t ht hW => ⟨⟨_, (), rfl, rfl, by dsimp only; rw [ht]; exact hH⟩, hS.F ht⟩) hS.2.2 d_Mo_write_205
            have loop2 : ∀ (k : Nat) (σ : St) (v1 : Int32) (v3 : Int32) (H : Heap) (locs : List Loc) (ls : Array Slot), Hold D aC A ad n σ H → va_S A s.heap H locs → lv_has ls 6 [(0, .ref (ad 48 0)), (1, .int v1), (2, .int v2), (3, .int v3)] → lp (fun q => lb_Mo_write_103 v2 q.1 q.2.1 q.2.2) k (σ, v1, v3) = some q2 → W p l e (headSpec w_Mo_write rm_Mo_write).room s m args below meth c H locs 0 0 Q0 (F0 m 103 ls []) := by
              intro k
              induction k with
              | zero => intro σ v1 v3 H locs ls hH hS hl hlp; exact absurd hlp (lp_zero _ _ _)
              | succ k ih2 =>
                intro σ v1 v3 H locs ls hH hS hl hlp
                obtain ⟨z2, h2, hk2⟩ := lp_succ hlp
                have h2 : lb_Mo_write_103 v2 σ v1 v3 = some z2 := h2
                unfold lb_Mo_write_103 at h2
                refine lv_iload_n hx hb d_Mo_write_103 rfl (lv_at hl 3 rfl) ?_
                refine lv_aload_n hx hb d_Mo_write_104 rfl (lv_at hl 0 rfl) ?_
                refine st_get hx hb hg hown hK hH (f := 48) (i := 0) hd_48 rfl rfl u_Mo 26 (by decide) (hg _ wd_570) (v := .int (σ.1 48 0 26)) rfl d_Mo_write_105 ?_
                refine lv_icmp_ge (tgt := 191) hx hb d_Mo_write_108 (by decide) (fun c108 => ?_) (fun c108 => ?_)
                · have h2 := it h2 c108
                  cases h2
                  exact K2 σ v1 v3 _ _ ls (Option.some.inj hk2).symm hH hS (lv_sub hl [0, 1, 2, 3] rfl)
                · have h2 := ie h2 c108
                  refine lv_iconst (v := 0) hx hb d_Mo_write_111 (by decide) ?_
                  refine lv_istore (lv' := [(4, .int 0), (0, .ref (ad 48 0)), (1, .int v1), (2, .int v2), (3, .int v3)]) hx hb d_Mo_write_112 hl (by decide) rfl (fun ls hl => ?_)
                  obtain ⟨q3, hq3, h2⟩ := b2_some h2
                  have K3 : ∀ (σ15 : St) (x16 : Int32) (H : Heap) (locs : List Loc) (ls : Array Slot), q3 = (σ15, x16) → Hold D aC A ad n σ15 H → va_S A s.heap H locs → lv_has ls 6 [(0, .ref (ad 48 0)), (1, .int v1), (2, .int v2), (3, .int v3), (4, .int x16)] → W p l e (headSpec w_Mo_write rm_Mo_write).room s m args below meth c H locs 0 0 Q0 (F0 m 136 ls []) := by
                    intro σ15 x16 H locs ls eq3 hH hS hl
                    subst eq3
                    have h2 := b2_at h2
                    refine lv_aload_n hx hb d_Mo_write_136 rfl (lv_at hl 0 rfl) ?_
                    refine lv_iload hx hb d_Mo_write_137 (lv_at hl 4 rfl) ?_
                    obtain ⟨qc, hc139, h2⟩ := b2_some h2
                    obtain ⟨σ17, x18⟩ := qc
                    have h2 := b2_at h2
                    refine st_Vi (As := [.int x16]) (rest := []) ⟨hx, hb, hml, hown, hg⟩ (c_Mo_front l D aC A ad n _ x16 _ hc139) (cwG hg wd_594 wd_595 wd_596 wd_597 wd_428 yd_Mo_front ⟨Nat.le_of_ble_eq_true rfl, Nat.le_of_ble_eq_true rfl⟩) hK hH hS hZ hd_48 rfl rfl rfl hl.1 rfl (Nat.le_of_ble_eq_true rfl) d_Mo_write_139 ⟨Nat.zero_le _, Nat.zero_le _⟩ (fun H locs hH hS => ?_)
                    refine lv_pop hx hb d_Mo_write_142 rfl ?_
                    refine lv_iload_n hx hb d_Mo_write_143 rfl (lv_at hl 2 rfl) ?_
                    refine lv_if_ne (tgt := 157) hx hb d_Mo_write_144 (by decide) (fun c144 => ?_) (fun c144 => ?_)
                    · have h2 := ie h2 c144
                      refine lv_iconst (v := 0) hx hb d_Mo_write_157 (by decide) ?_
                      refine lv_istore (lv' := [(5, .int 0), (0, .ref (ad 48 0)), (1, .int v1), (2, .int v2), (3, .int v3), (4, .int x16)]) hx hb d_Mo_write_158 hl (by decide) rfl (fun ls hl => ?_)
                      obtain ⟨q3, hq3, h2⟩ := b2_some h2
                      have K3 : ∀ (σ21 : St) (x22 : Int32) (H : Heap) (locs : List Loc) (ls : Array Slot), q3 = (σ21, x22) → Hold D aC A ad n σ21 H → va_S A s.heap H locs → lv_has ls 6 [(0, .ref (ad 48 0)), (1, .int v1), (2, .int v2), (3, .int v3), (4, .int x16), (5, .int x22)] → W p l e (headSpec w_Mo_write rm_Mo_write).room s m args below meth c H locs 0 0 Q0 (F0 m 179 ls []) := by
                        intro σ21 x22 H locs ls eq3 hH hS hl
                        subst eq3
                        have h2 := b2_at h2
                        refine lv_aload_n hx hb d_Mo_write_179 rfl (lv_at hl 0 rfl) ?_
                        refine lv_iconst (v := 0) hx hb d_Mo_write_180 (by decide) ?_
                        refine lv_iconst (v := 1) hx hb d_Mo_write_181 (by decide) ?_
                        obtain ⟨qc, hc182, h2⟩ := b1_some h2
                        obtain ⟨σ23, rfl⟩ : ∃ z, z = qc := ⟨_, rfl⟩
                        have h2 := b1_at h2
                        refine st_Vv (As := [.int 0, .int 1]) (rest := []) ⟨hx, hb, hml, hown, hg⟩ (c_Mo_putBits l D aC A ad n _ 0 1 _ hc182) (cwG hg wd_497 wd_498 wd_499 wd_500 wd_428 yd_Mo_putBits ⟨Nat.le_of_ble_eq_true rfl, Nat.le_of_ble_eq_true rfl⟩) hK hH hS hZ hd_48 rfl rfl rfl hl.1 rfl (Nat.le_of_ble_eq_true rfl) d_Mo_write_182 ⟨Nat.zero_le _, Nat.zero_le _⟩ (fun H locs hH hS => ?_)
                        obtain ⟨x24, ex24⟩ : ∃ y : Int32, y = v3 + 1 := ⟨_, rfl⟩
                        have h2 := nm_at ex24 h2
                        refine lv_iinc (v := x24) (lv' := [(3, .int x24), (0, .ref (ad 48 0)), (1, .int v1), (2, .int v2), (4, .int x16), (5, .int x22)]) hx hb d_Mo_write_185 hl (k := 3) rfl (by rw [ex24]; rfl) (by decide) rfl (fun ls hl => ?_)
                        refine lv_goto (tgt := 103) hx hb d_Mo_write_188 (by decide) ?_
                        cases h2
                        exact ih2 σ23 v1 x24 _ _ ls hH hS (lv_sub hl [1, 2, 3, 0] rfl) hk2
                      have loop3 : ∀ (k : Nat) (σ : St) (v5 : Int32) (H : Heap) (locs : List Loc) (ls : Array Slot), Hold D aC A ad n σ H → va_S A s.heap H locs → lv_has ls 6 [(0, .ref (ad 48 0)), (1, .int v1), (2, .int v2), (3, .int v3), (4, .int x16), (5, .int v5)] → lp (fun q => lb_Mo_write_160 v1 v2 v3 x16 q.1 q.2) k (σ, v5) = some q3 → W p l e (headSpec w_Mo_write rm_Mo_write).room s m args below meth c H locs 0 0 Q0 (F0 m 160 ls []) := by
                        intro k
                        induction k with
                        | zero => intro σ v5 H locs ls hH hS hl hlp; exact absurd hlp (lp_zero _ _ _)
                        | succ k ih3 =>
                          intro σ v5 H locs ls hH hS hl hlp
                          obtain ⟨z3, h3, hk3⟩ := lp_succ hlp
                          have h3 : lb_Mo_write_160 v1 v2 v3 x16 σ v5 = some z3 := h3
                          unfold lb_Mo_write_160 at h3
                          refine lv_iload hx hb d_Mo_write_160 (lv_at hl 5 rfl) ?_
                          refine lv_iload hx hb d_Mo_write_162 (lv_at hl 4 rfl) ?_
                          refine lv_icmp_ge (tgt := 179) hx hb d_Mo_write_164 (by decide) (fun c164 => ?_) (fun c164 => ?_)
                          · have h3 := it h3 c164
                            cases h3
                            exact K3 σ v5 _ _ ls (Option.some.inj hk3).symm hH hS (lv_sub hl [0, 1, 2, 3, 4, 5] rfl)
                          · have h3 := ie h3 c164
                            refine lv_aload_n hx hb d_Mo_write_167 rfl (lv_at hl 0 rfl) ?_
                            refine lv_iconst (v := 1) hx hb d_Mo_write_168 (by decide) ?_
                            refine lv_iconst (v := 1) hx hb d_Mo_write_169 (by decide) ?_
                            obtain ⟨qc, hc170, h3⟩ := b1_some h3
                            obtain ⟨σ19, rfl⟩ : ∃ z, z = qc := ⟨_, rfl⟩
                            have h3 := b1_at h3
                            refine st_Vv (As := [.int 1, .int 1]) (rest := []) ⟨hx, hb, hml, hown, hg⟩ (c_Mo_putBits l D aC A ad n _ 1 1 _ hc170) (cwG hg wd_497 wd_498 wd_499 wd_500 wd_428 yd_Mo_putBits ⟨Nat.le_of_ble_eq_true rfl, Nat.le_of_ble_eq_true rfl⟩) hK hH hS hZ hd_48 rfl rfl rfl hl.1 rfl (Nat.le_of_ble_eq_true rfl) d_Mo_write_170 ⟨Nat.zero_le _, Nat.zero_le _⟩ (fun H locs hH hS => ?_)
                            obtain ⟨x20, ex20⟩ : ∃ y : Int32, y = v5 + 1 := ⟨_, rfl⟩
                            have h3 := nm_at ex20 h3
                            refine lv_iinc (v := x20) (lv' := [(5, .int x20), (0, .ref (ad 48 0)), (1, .int v1), (2, .int v2), (3, .int v3), (4, .int x16)]) hx hb d_Mo_write_173 hl (k := 5) rfl (by rw [ex20]; rfl) (by decide) rfl (fun ls hl => ?_)
                            refine lv_goto (tgt := 160) hx hb d_Mo_write_176 (by decide) ?_
                            cases h3
                            exact ih3 σ19 x20 _ _ ls hH hS (lv_sub hl [1, 2, 3, 4, 5, 0] rfl) hk3
                      obtain ⟨k3, hq3⟩ := lpE_some hq3
                      exact loop3 k3 σ17 0 _ _ ls hH hS (lv_sub hl [1, 2, 3, 4, 5, 0] rfl) hq3
                    · have h2 := it h2 c144
                      refine lv_iload_n hx hb d_Mo_write_147 rfl (lv_at hl 1 rfl) ?_
                      refine lv_iload hx hb d_Mo_write_148 (lv_at hl 4 rfl) ?_
                      refine lv_iconst (v := 1) hx hb d_Mo_write_150 (by decide) ?_
                      refine lv_iadd hx hb d_Mo_write_151 ?_
                      refine lv_iadd hx hb d_Mo_write_152 ?_
                      refine lv_topi (fun x25 ex25 => ?_)
                      have h2 := nm_at ex25 h2
                      refine lv_istore_n (lv' := [(1, .int x25), (0, .ref (ad 48 0)), (2, .int v2), (3, .int v3), (4, .int x16)]) hx hb d_Mo_write_153 rfl hl (by decide) rfl (fun ls hl => ?_)
                      refine lv_goto (tgt := 185) hx hb d_Mo_write_154 (by decide) ?_
                      obtain ⟨x26, ex26⟩ : ∃ y : Int32, y = v3 + 1 := ⟨_, rfl⟩
                      have h2 := nm_at ex26 h2
                      refine lv_iinc (v := x26) (lv' := [(3, .int x26), (1, .int x25), (0, .ref (ad 48 0)), (2, .int v2), (4, .int x16)]) hx hb d_Mo_write_185 hl (k := 3) rfl (by rw [ex26]; rfl) (by decide) rfl (fun ls hl => ?_)
                      refine lv_goto (tgt := 103) hx hb d_Mo_write_188 (by decide) ?_
                      cases h2
                      exact ih2 σ17 x25 x26 _ _ ls hH hS (lv_sub hl [2, 1, 3, 0] rfl) hk2
                  have loop3 : ∀ (k : Nat) (σ : St) (v4 : Int32) (H : Heap) (locs : List Loc) (ls : Array Slot), Hold D aC A ad n σ H → va_S A s.heap H locs → lv_has ls 6 [(0, .ref (ad 48 0)), (1, .int v1), (2, .int v2), (3, .int v3), (4, .int v4)] → lp (fun q => lb_Mo_write_114 v1 v2 v3 q.1 q.2) k (σ, v4) = some q3 → W p l e (headSpec w_Mo_write rm_Mo_write).room s m args below meth c H locs 0 0 Q0 (F0 m 114 ls []) := by
                    intro k
                    induction k with
                    | zero => intro σ v4 H locs ls hH hS hl hlp; exact absurd hlp (lp_zero _ _ _)
                    | succ k ih3 =>
                      intro σ v4 H locs ls hH hS hl hlp
                      obtain ⟨z3, h3, hk3⟩ := lp_succ hlp
                      have h3 : lb_Mo_write_114 v1 v2 v3 σ v4 = some z3 := h3
                      unfold lb_Mo_write_114 at h3
                      refine lv_aload_n hx hb d_Mo_write_114 rfl (lv_at hl 0 rfl) ?_
                      refine st_get hx hb hg hown hK hH (f := 48) (i := 0) hd_48 rfl rfl u_Mo 30 (by decide) (hg _ wd_589) (v := .ref (ad 67 0)) rfl d_Mo_write_115 ?_
                      refine lv_iload hx hb d_Mo_write_118 (lv_at hl 4 rfl) ?_
                      obtain ⟨g120, h3⟩ := gd_some h3
                      refine st_iald hx hb hK hH (f := 67) (i := 0) hd_67 rfl g120 d_Mo_write_120 ?_
                      refine lv_aload_n hx hb d_Mo_write_121 rfl (lv_at hl 0 rfl) ?_
                      refine st_get hx hb hg hown hK hH (f := 48) (i := 0) hd_48 rfl rfl u_Mo 27 (by decide) (hg _ wd_574) (v := .ref (ad 65 0)) rfl d_Mo_write_122 ?_
                      refine lv_iload_n hx hb d_Mo_write_125 rfl (lv_at hl 3 rfl) ?_
                      obtain ⟨g126, h3⟩ := gd_some h3
                      refine st_iald hx hb hK hH (f := 65) (i := 0) hd_65 rfl g126 d_Mo_write_126 ?_
                      refine lv_icmp_eq (tgt := 136) hx hb d_Mo_write_127 (by decide) (fun c127 => ?_) (fun c127 => ?_)
                      · have h3 := it h3 c127
                        cases h3
                        exact K3 σ v4 _ _ ls (Option.some.inj hk3).symm hH hS (lv_sub hl [0, 1, 2, 3, 4] rfl)
                      · have h3 := ie h3 c127
                        obtain ⟨x14, ex14⟩ : ∃ y : Int32, y = v4 + 1 := ⟨_, rfl⟩
                        have h3 := nm_at ex14 h3
                        refine lv_iinc (v := x14) (lv' := [(4, .int x14), (0, .ref (ad 48 0)), (1, .int v1), (2, .int v2), (3, .int v3)]) hx hb d_Mo_write_130 hl (k := 4) rfl (by rw [ex14]; rfl) (by decide) rfl (fun ls hl => ?_)
                        refine lv_goto (tgt := 114) hx hb d_Mo_write_133 (by decide) ?_
                        cases h3
                        exact ih3 σ x14 _ _ ls hH hS (lv_sub hl [1, 2, 3, 4, 0] rfl) hk3
                  obtain ⟨k3, hq3⟩ := lpE_some hq3
                  exact loop3 k3 σ 0 _ _ ls hH hS (lv_sub hl [1, 2, 3, 4, 0] rfl) hq3
            obtain ⟨k2, hq2⟩ := lpE_some hq2
            exact loop2 k2 σ13 v1 0 _ _ ls hH hS (lv_sub hl [1, 2, 3, 0] rfl) hq2
      obtain ⟨k1, hq1⟩ := lpE_some hq1
      exact loop1 k1 σ10 x11 0 _ _ ls hH hS (lv_sub hl [1, 2, 0] rfl) hq1
    have loop1 : ∀ (k : Nat) (σ : St) (v1 : Int32) (v2 : Int32) (H : Heap) (locs : List Loc) (ls : Array Slot), Hold D aC A ad n σ H → va_S A s.heap H locs → lv_has ls 6 [(0, .ref (ad 48 0)), (1, .int v1), (2, .int v2)] → lp (fun q => lb_Mo_write_15 q.1 q.2.1 q.2.2) k (σ, v1, v2) = some q1 → W p l e (headSpec w_Mo_write rm_Mo_write).room s m args below meth c H locs 0 0 Q0 (F0 m 15 ls []) := by
      intro k
      induction k with
      | zero => intro σ v1 v2 H locs ls hH hS hl hlp; exact absurd hlp (lp_zero _ _ _)
      | succ k ih1 =>
        intro σ v1 v2 H locs ls hH hS hl hlp
        obtain ⟨z1, h1, hk1⟩ := lp_succ hlp
        have h1 : lb_Mo_write_15 σ v1 v2 = some z1 := h1
        unfold lb_Mo_write_15 at h1
        refine lv_iload_n hx hb d_Mo_write_15 rfl (lv_at hl 2 rfl) ?_
        refine lv_aload_n hx hb d_Mo_write_16 rfl (lv_at hl 0 rfl) ?_
        refine st_get hx hb hg hown hK hH (f := 48) (i := 0) hd_48 rfl rfl u_Mo 29 (by decide) (hg _ wd_572) (v := .int (σ.1 48 0 29)) rfl d_Mo_write_17 ?_
        refine lv_icmp_ge (tgt := 86) hx hb d_Mo_write_20 (by decide) (fun c20 => ?_) (fun c20 => ?_)
        · have h1 := it h1 c20
          cases h1
          exact K1 σ v1 v2 _ _ ls (Option.some.inj hk1).symm hH hS (lv_sub hl [0, 1, 2] rfl)
        · have h1 := ie h1 c20
          refine lv_aload_n hx hb d_Mo_write_23 rfl (lv_at hl 0 rfl) ?_
          refine st_get hx hb hg hown hK hH (f := 48) (i := 0) hd_48 rfl rfl u_Mo 23 (by decide) (hg _ wd_576) (v := .int (σ.1 48 0 23)) rfl d_Mo_write_24 ?_
          refine lv_aload_n hx hb d_Mo_write_27 rfl (lv_at hl 0 rfl) ?_
          refine st_get hx hb hg hown hK hH (f := 48) (i := 0) hd_48 rfl rfl u_Mo 27 (by decide) (hg _ wd_574) (v := .ref (ad 65 0)) rfl d_Mo_write_28 ?_
          refine lv_iload_n hx hb d_Mo_write_31 rfl (lv_at hl 2 rfl) ?_
          refine lv_aload_n hx hb d_Mo_write_32 rfl (lv_at hl 0 rfl) ?_
          refine st_get hx hb hg hown hK hH (f := 48) (i := 0) hd_48 rfl rfl u_Mo 25 (by decide) (hg _ wd_575) (v := .int (σ.1 48 0 25)) rfl d_Mo_write_33 ?_
          obtain ⟨g36, h1⟩ := gd_some h1
          refine lv_idiv hx hb d_Mo_write_36 g36 ?_
          obtain ⟨g37, h1⟩ := gd_some h1
          refine st_iald hx hb hK hH (f := 65) (i := 0) hd_65 rfl g37 d_Mo_write_37 ?_
          refine lv_iadd hx hb d_Mo_write_38 ?_
          refine lv_topi (fun x1 ex1 => ?_)
          have h1 := nm_at ex1 h1
          refine lv_istore_n (lv' := [(3, .int x1), (0, .ref (ad 48 0)), (1, .int v1), (2, .int v2)]) hx hb d_Mo_write_39 rfl hl (by decide) rfl (fun ls hl => ?_)
          refine lv_aload_n hx hb d_Mo_write_40 rfl (lv_at hl 1 rfl) ?_
          refine lv_iload_n hx hb d_Mo_write_41 rfl (lv_at hl 0 rfl) ?_
          obtain ⟨qc, hc42, h1⟩ := b2_some h1
          obtain ⟨σ2, x3⟩ := qc
          have h1 := b2_at h1
          refine st_Vi (As := [.int x1]) (rest := []) ⟨hx, hb, hml, hown, hg⟩ (c_Mo_kind l D aC A ad n _ x1 _ hc42) (cwG hg wd_457 wd_458 wd_459 wd_460 wd_428 yd_Mo_kind ⟨Nat.le_of_ble_eq_true rfl, Nat.le_of_ble_eq_true rfl⟩) hK hH hS hZ hd_48 rfl rfl rfl hl.1 rfl (Nat.le_of_ble_eq_true rfl) d_Mo_write_42 ⟨Nat.zero_le _, Nat.zero_le _⟩ (fun H locs hH hS => ?_)
          refine lv_iconst (v := 4) hx hb d_Mo_write_45 (by decide) ?_
          refine lv_icmp_eq (tgt := 63) hx hb d_Mo_write_46 (by decide) (fun c46 => ?_) (fun c46 => ?_)
          · have h1 := it h1 c46
            refine lv_bipush (v := (-103)) hx hb d_Mo_write_63 (by decide) ?_
            cases h1
            have hk1 := Option.some.inj hk1
            subst hk1
            have h := bs3_r h
            cases h
            rw [← hQ0]
            exact W.iret hx hb hr (fun t ht hW => ⟨⟨_, (), rfl, rfl, by dsimp only; rw [ht]; exact hH⟩, hS.F ht⟩) hS.2.2 d_Mo_write_65
          · have h1 := ie h1 c46
            refine lv_aload_n hx hb d_Mo_write_49 rfl (lv_at hl 1 rfl) ?_
            refine lv_iload_n hx hb d_Mo_write_50 rfl (lv_at hl 0 rfl) ?_
            refine lv_aload_n hx hb d_Mo_write_51 rfl (lv_at hl 1 rfl) ?_
            refine st_get hx hb hg hown hK hH (f := 48) (i := 0) hd_48 rfl rfl u_Mo 28 (by decide) (hg _ wd_573) (v := .ref (ad 66 0)) rfl d_Mo_write_52 ?_
            refine lv_iload_n hx hb d_Mo_write_55 rfl (lv_at hl 3 rfl) ?_
            obtain ⟨g56, h1⟩ := gd_some h1
            refine st_iald hx hb hK hH (f := 66) (i := 0) hd_66 rfl g56 d_Mo_write_56 ?_
            obtain ⟨qc, hc57, h1⟩ := b2_some h1
            obtain ⟨σ4, x5⟩ := qc
            have h1 := b2_at h1
            refine st_Vi (As := [.int x1, .int (σ2.1 66 0 v2.toNatClampNeg)]) (rest := []) ⟨hx, hb, hml, hown, hg⟩ (c_Mo_lengthOf l D aC A ad n _ x1 (σ2.1 66 0 v2.toNatClampNeg) _ hc57) (cwG hg wd_440 wd_441 wd_442 wd_443 wd_428 yd_Mo_lengthOf ⟨Nat.le_of_ble_eq_true rfl, Nat.le_of_ble_eq_true rfl⟩) hK hH hS hZ hd_48 rfl rfl rfl hl.1 rfl (Nat.le_of_ble_eq_true rfl) d_Mo_write_57 ⟨Nat.zero_le _, Nat.zero_le _⟩ (fun H locs hH hS => ?_)
            refine lv_if_ne (tgt := 66) hx hb d_Mo_write_60 (by decide) (fun c60 => ?_) (fun c60 => ?_)
            · have h1 := ie h1 c60
              refine lv_iload_n hx hb d_Mo_write_66 rfl (lv_at hl 2 rfl) ?_
              refine lv_aload_n hx hb d_Mo_write_67 rfl (lv_at hl 1 rfl) ?_
              refine lv_iload_n hx hb d_Mo_write_68 rfl (lv_at hl 0 rfl) ?_
              refine lv_aload_n hx hb d_Mo_write_69 rfl (lv_at hl 1 rfl) ?_
              refine st_get hx hb hg hown hK hH (f := 48) (i := 0) hd_48 rfl rfl u_Mo 28 (by decide) (hg _ wd_573) (v := .ref (ad 66 0)) rfl d_Mo_write_70 ?_
              refine lv_iload_n hx hb d_Mo_write_73 rfl (lv_at hl 3 rfl) ?_
              obtain ⟨g74, h1⟩ := gd_some h1
              refine st_iald hx hb hK hH (f := 66) (i := 0) hd_66 rfl g74 d_Mo_write_74 ?_
              obtain ⟨qc, hc75, h1⟩ := b2_some h1
              obtain ⟨σ6, x7⟩ := qc
              have h1 := b2_at h1
              refine st_Vi (As := [.int x1, .int (σ4.1 66 0 v2.toNatClampNeg)]) (rest := [.int v1]) ⟨hx, hb, hml, hown, hg⟩ (c_Mo_lengthOf l D aC A ad n _ x1 (σ4.1 66 0 v2.toNatClampNeg) _ hc75) (cwG hg wd_440 wd_441 wd_442 wd_443 wd_428 yd_Mo_lengthOf ⟨Nat.le_of_ble_eq_true rfl, Nat.le_of_ble_eq_true rfl⟩) hK hH hS hZ hd_48 rfl rfl rfl hl.1 rfl (Nat.le_of_ble_eq_true rfl) d_Mo_write_75 ⟨Nat.zero_le _, Nat.zero_le _⟩ (fun H locs hH hS => ?_)
              refine lv_iadd hx hb d_Mo_write_78 ?_
              refine lv_topi (fun x8 ex8 => ?_)
              have h1 := nm_at ex8 h1
              refine lv_istore_n (lv' := [(1, .int x8), (3, .int x1), (0, .ref (ad 48 0)), (2, .int v2)]) hx hb d_Mo_write_79 rfl hl (by decide) rfl (fun ls hl => ?_)
              obtain ⟨x9, ex9⟩ : ∃ y : Int32, y = v2 + 1 := ⟨_, rfl⟩
              have h1 := nm_at ex9 h1
              refine lv_iinc (v := x9) (lv' := [(2, .int x9), (1, .int x8), (3, .int x1), (0, .ref (ad 48 0))]) hx hb d_Mo_write_80 hl (k := 3) rfl (by rw [ex9]; rfl) (by decide) rfl (fun ls hl => ?_)
              refine lv_goto (tgt := 15) hx hb d_Mo_write_83 (by decide) ?_
              cases h1
              exact ih1 σ6 x8 x9 _ _ ls hH hS (lv_sub hl [3, 1, 0] rfl) hk1
            · have h1 := it h1 c60
              refine lv_bipush (v := (-103)) hx hb d_Mo_write_63 (by decide) ?_
              cases h1
              have hk1 := Option.some.inj hk1
              subst hk1
              have h := bs3_r h
              cases h
              rw [← hQ0]
              exact W.iret hx hb hr (fun t ht hW => ⟨⟨_, (), rfl, rfl, by dsimp only; rw [ht]; exact hH⟩, hS.F ht⟩) hS.2.2 d_Mo_write_65
    obtain ⟨k1, hq1⟩ := lpE_some hq1
    exact loop1 k1 σ 0 0 _ _ ls hH hS (lv_sub hl [2, 1, 0] rfl) hq1
  · have h := it h c5
    refine lv_bipush (v := (-103)) hx hb d_Mo_write_8 (by decide) ?_
    cases h
    rw [← hQ0]
    exact W.iret hx hb hr (fun t ht hW => ⟨⟨_, (), rfl, rfl, by dsimp only; rw [ht]; exact hH⟩, hS.F ht⟩) hS.2.2 d_Mo_write_10
