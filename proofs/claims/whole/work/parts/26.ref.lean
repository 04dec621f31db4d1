theorem d_Mo_readRuns_0 : decode prog_13_method_44_code 0 = .ok (.aload_n 0, 1) := by decide +kernel
theorem d_Mo_readRuns_1 : decode prog_13_method_44_code 1 = .ok (.iconst 4, 1) := by decide +kernel
theorem d_Mo_readRuns_2 : decode prog_13_method_44_code 2 = .ok (.invokevirtual 191, 3) := by decide +kernel
theorem d_Mo_readRuns_5 : decode prog_13_method_44_code 5 = .ok (.istore_n 2, 1) := by decide +kernel
theorem d_Mo_readRuns_6 : decode prog_13_method_44_code 6 = .ok (.iload_n 2, 1) := by decide +kernel
theorem d_Mo_readRuns_7 : decode prog_13_method_44_code 7 = .ok (.ifCond .ge 5, 3) := by decide +kernel
theorem d_Mo_readRuns_10 : decode prog_13_method_44_code 10 = .ok (.iload_n 2, 1) := by decide +kernel
theorem d_Mo_readRuns_11 : decode prog_13_method_44_code 11 = .ok (.ireturn, 1) := by decide +kernel
theorem d_Mo_readRuns_12 : decode prog_13_method_44_code 12 = .ok (.iconst 0, 1) := by decide +kernel
theorem d_Mo_readRuns_13 : decode prog_13_method_44_code 13 = .ok (.istore_n 3, 1) := by decide +kernel
theorem d_Mo_readRuns_14 : decode prog_13_method_44_code 14 = .ok (.iload_n 3, 1) := by decide +kernel
theorem d_Mo_readRuns_15 : decode prog_13_method_44_code 15 = .ok (.bipush 64, 2) := by decide +kernel
theorem d_Mo_readRuns_17 : decode prog_13_method_44_code 17 = .ok (.if_icmp .ge 20, 3) := by decide +kernel
theorem d_Mo_readRuns_20 : decode prog_13_method_44_code 20 = .ok (.aload_n 0, 1) := by decide +kernel
theorem d_Mo_readRuns_21 : decode prog_13_method_44_code 21 = .ok (.getfield 13, 3) := by decide +kernel
theorem d_Mo_readRuns_24 : decode prog_13_method_44_code 24 = .ok (.sipush 768, 3) := by decide +kernel
theorem d_Mo_readRuns_27 : decode prog_13_method_44_code 27 = .ok (.iload_n 3, 1) := by decide +kernel
theorem d_Mo_readRuns_28 : decode prog_13_method_44_code 28 = .ok (.iadd, 1) := by decide +kernel
theorem d_Mo_readRuns_29 : decode prog_13_method_44_code 29 = .ok (.iconst 0, 1) := by decide +kernel
theorem d_Mo_readRuns_30 : decode prog_13_method_44_code 30 = .ok (.iastore, 1) := by decide +kernel
theorem d_Mo_readRuns_31 : decode prog_13_method_44_code 31 = .ok (.iinc 3 1, 3) := by decide +kernel
theorem d_Mo_readRuns_34 : decode prog_13_method_44_code 34 = .ok (.goto (-20), 3) := by decide +kernel
theorem d_Mo_readRuns_37 : decode prog_13_method_44_code 37 = .ok (.aload_n 0, 1) := by decide +kernel
theorem d_Mo_readRuns_38 : decode prog_13_method_44_code 38 = .ok (.getfield 7, 3) := by decide +kernel
theorem d_Mo_readRuns_41 : decode prog_13_method_44_code 41 = .ok (.bipush 12, 2) := by decide +kernel
theorem d_Mo_readRuns_43 : decode prog_13_method_44_code 43 = .ok (.bipush 19, 2) := by decide +kernel
theorem d_Mo_readRuns_45 : decode prog_13_method_44_code 45 = .ok (.iastore, 1) := by decide +kernel
theorem d_Mo_readRuns_46 : decode prog_13_method_44_code 46 = .ok (.iconst 0, 1) := by decide +kernel
theorem d_Mo_readRuns_47 : decode prog_13_method_44_code 47 = .ok (.istore_n 3, 1) := by decide +kernel
theorem d_Mo_readRuns_48 : decode prog_13_method_44_code 48 = .ok (.iload_n 3, 1) := by decide +kernel
theorem d_Mo_readRuns_49 : decode prog_13_method_44_code 49 = .ok (.iload_n 2, 1) := by decide +kernel
theorem d_Mo_readRuns_50 : decode prog_13_method_44_code 50 = .ok (.iconst 4, 1) := by decide +kernel
theorem d_Mo_readRuns_51 : decode prog_13_method_44_code 51 = .ok (.iadd, 1) := by decide +kernel
theorem d_Mo_readRuns_52 : decode prog_13_method_44_code 52 = .ok (.if_icmp .ge 39, 3) := by decide +kernel
theorem d_Mo_readRuns_55 : decode prog_13_method_44_code 55 = .ok (.aload_n 0, 1) := by decide +kernel
theorem d_Mo_readRuns_56 : decode prog_13_method_44_code 56 = .ok (.iconst 3, 1) := by decide +kernel
theorem d_Mo_readRuns_57 : decode prog_13_method_44_code 57 = .ok (.invokevirtual 191, 3) := by decide +kernel
theorem d_Mo_readRuns_60 : decode prog_13_method_44_code 60 = .ok (.istore 4, 2) := by decide +kernel
theorem d_Mo_readRuns_62 : decode prog_13_method_44_code 62 = .ok (.iload 4, 2) := by decide +kernel
theorem d_Mo_readRuns_64 : decode prog_13_method_44_code 64 = .ok (.ifCond .ge 6, 3) := by decide +kernel
theorem d_Mo_readRuns_67 : decode prog_13_method_44_code 67 = .ok (.iload 4, 2) := by decide +kernel
theorem d_Mo_readRuns_69 : decode prog_13_method_44_code 69 = .ok (.ireturn, 1) := by decide +kernel
theorem d_Mo_readRuns_70 : decode prog_13_method_44_code 70 = .ok (.aload_n 0, 1) := by decide +kernel
theorem d_Mo_readRuns_71 : decode prog_13_method_44_code 71 = .ok (.getfield 13, 3) := by decide +kernel
theorem d_Mo_readRuns_74 : decode prog_13_method_44_code 74 = .ok (.sipush 768, 3) := by decide +kernel
theorem d_Mo_readRuns_77 : decode prog_13_method_44_code 77 = .ok (.iload_n 3, 1) := by decide +kernel
theorem d_Mo_readRuns_78 : decode prog_13_method_44_code 78 = .ok (.invokestatic 173, 3) := by decide +kernel
theorem d_Mo_readRuns_81 : decode prog_13_method_44_code 81 = .ok (.iadd, 1) := by decide +kernel
theorem d_Mo_readRuns_82 : decode prog_13_method_44_code 82 = .ok (.iload 4, 2) := by decide +kernel
theorem d_Mo_readRuns_84 : decode prog_13_method_44_code 84 = .ok (.iastore, 1) := by decide +kernel
theorem d_Mo_readRuns_85 : decode prog_13_method_44_code 85 = .ok (.iinc 3 1, 3) := by decide +kernel
theorem d_Mo_readRuns_88 : decode prog_13_method_44_code 88 = .ok (.goto (-40), 3) := by decide +kernel
theorem d_Mo_readRuns_91 : decode prog_13_method_44_code 91 = .ok (.aload_n 0, 1) := by decide +kernel
theorem d_Mo_readRuns_92 : decode prog_13_method_44_code 92 = .ok (.bipush 12, 2) := by decide +kernel
theorem d_Mo_readRuns_94 : decode prog_13_method_44_code 94 = .ok (.invokevirtual 113, 3) := by decide +kernel
theorem d_Mo_readRuns_97 : decode prog_13_method_44_code 97 = .ok (.istore_n 3, 1) := by decide +kernel
theorem d_Mo_readRuns_98 : decode prog_13_method_44_code 98 = .ok (.iload_n 3, 1) := by decide +kernel
theorem d_Mo_readRuns_99 : decode prog_13_method_44_code 99 = .ok (.iconst 1, 1) := by decide +kernel
theorem d_Mo_readRuns_100 : decode prog_13_method_44_code 100 = .ok (.if_icmp .eq 11, 3) := by decide +kernel
theorem d_Mo_readRuns_103 : decode prog_13_method_44_code 103 = .ok (.iload_n 3, 1) := by decide +kernel
theorem d_Mo_readRuns_104 : decode prog_13_method_44_code 104 = .ok (.iconst 2, 1) := by decide +kernel
theorem d_Mo_readRuns_105 : decode prog_13_method_44_code 105 = .ok (.if_icmp .eq 6, 3) := by decide +kernel
theorem d_Mo_readRuns_108 : decode prog_13_method_44_code 108 = .ok (.bipush (-105), 2) := by decide +kernel
theorem d_Mo_readRuns_110 : decode prog_13_method_44_code 110 = .ok (.ireturn, 1) := by decide +kernel
theorem d_Mo_readRuns_111 : decode prog_13_method_44_code 111 = .ok (.iconst 0, 1) := by decide +kernel
theorem d_Mo_readRuns_112 : decode prog_13_method_44_code 112 = .ok (.istore 4, 2) := by decide +kernel
theorem d_Mo_readRuns_114 : decode prog_13_method_44_code 114 = .ok (.iload 4, 2) := by decide +kernel
theorem d_Mo_readRuns_116 : decode prog_13_method_44_code 116 = .ok (.iload_n 1, 1) := by decide +kernel
theorem d_Mo_readRuns_117 : decode prog_13_method_44_code 117 = .ok (.if_icmp .ge 171, 3) := by decide +kernel
theorem d_Mo_readRuns_120 : decode prog_13_method_44_code 120 = .ok (.aload_n 0, 1) := by decide +kernel
theorem d_Mo_readRuns_121 : decode prog_13_method_44_code 121 = .ok (.bipush 12, 2) := by decide +kernel
theorem d_Mo_readRuns_123 : decode prog_13_method_44_code 123 = .ok (.iconst 0, 1) := by decide +kernel
theorem d_Mo_readRuns_124 : decode prog_13_method_44_code 124 = .ok (.invokevirtual 156, 3) := by decide +kernel
theorem d_Mo_readRuns_127 : decode prog_13_method_44_code 127 = .ok (.istore 5, 2) := by decide +kernel
theorem d_Mo_readRuns_129 : decode prog_13_method_44_code 129 = .ok (.iload 5, 2) := by decide +kernel
theorem d_Mo_readRuns_131 : decode prog_13_method_44_code 131 = .ok (.ifCond .ge 6, 3) := by decide +kernel
theorem d_Mo_readRuns_134 : decode prog_13_method_44_code 134 = .ok (.iload 5, 2) := by decide +kernel
theorem d_Mo_readRuns_136 : decode prog_13_method_44_code 136 = .ok (.ireturn, 1) := by decide +kernel
theorem d_Mo_readRuns_137 : decode prog_13_method_44_code 137 = .ok (.iload 5, 2) := by decide +kernel
theorem d_Mo_readRuns_139 : decode prog_13_method_44_code 139 = .ok (.bipush 16, 2) := by decide +kernel
theorem d_Mo_readRuns_141 : decode prog_13_method_44_code 141 = .ok (.if_icmp .ge 18, 3) := by decide +kernel
theorem d_Mo_readRuns_144 : decode prog_13_method_44_code 144 = .ok (.aload_n 0, 1) := by decide +kernel
theorem d_Mo_readRuns_145 : decode prog_13_method_44_code 145 = .ok (.getfield 46, 3) := by decide +kernel
theorem d_Mo_readRuns_148 : decode prog_13_method_44_code 148 = .ok (.iload 4, 2) := by decide +kernel
theorem d_Mo_readRuns_150 : decode prog_13_method_44_code 150 = .ok (.iload 5, 2) := by decide +kernel
theorem d_Mo_readRuns_152 : decode prog_13_method_44_code 152 = .ok (.iastore, 1) := by decide +kernel
theorem d_Mo_readRuns_153 : decode prog_13_method_44_code 153 = .ok (.iinc 4 1, 3) := by decide +kernel
theorem d_Mo_readRuns_156 : decode prog_13_method_44_code 156 = .ok (.goto (-42), 3) := by decide +kernel
theorem d_Mo_readRuns_159 : decode prog_13_method_44_code 159 = .ok (.iload 5, 2) := by decide +kernel
theorem d_Mo_readRuns_161 : decode prog_13_method_44_code 161 = .ok (.bipush 16, 2) := by decide +kernel
theorem d_Mo_readRuns_163 : decode prog_13_method_44_code 163 = .ok (.if_icmp .ne 23, 3) := by decide +kernel
theorem d_Mo_readRuns_166 : decode prog_13_method_44_code 166 = .ok (.iload 4, 2) := by decide +kernel
theorem d_Mo_readRuns_168 : decode prog_13_method_44_code 168 = .ok (.ifCond .eq 15, 3) := by decide +kernel
theorem d_Mo_readRuns_171 : decode prog_13_method_44_code 171 = .ok (.aload_n 0, 1) := by decide +kernel
theorem d_Mo_readRuns_172 : decode prog_13_method_44_code 172 = .ok (.getfield 46, 3) := by decide +kernel
theorem d_Mo_readRuns_175 : decode prog_13_method_44_code 175 = .ok (.iload 4, 2) := by decide +kernel
theorem d_Mo_readRuns_177 : decode prog_13_method_44_code 177 = .ok (.iconst 1, 1) := by decide +kernel
theorem d_Mo_readRuns_178 : decode prog_13_method_44_code 178 = .ok (.isub, 1) := by decide +kernel
theorem d_Mo_readRuns_179 : decode prog_13_method_44_code 179 = .ok (.iaload, 1) := by decide +kernel
theorem d_Mo_readRuns_180 : decode prog_13_method_44_code 180 = .ok (.ifCond .ne 6, 3) := by decide +kernel
theorem d_Mo_readRuns_183 : decode prog_13_method_44_code 183 = .ok (.bipush (-105), 2) := by decide +kernel
theorem d_Mo_readRuns_185 : decode prog_13_method_44_code 185 = .ok (.ireturn, 1) := by decide +kernel
theorem d_Mo_readRuns_186 : decode prog_13_method_44_code 186 = .ok (.aload_n 0, 1) := by decide +kernel
theorem d_Mo_readRuns_187 : decode prog_13_method_44_code 187 = .ok (.iload 5, 2) := by decide +kernel
theorem d_Mo_readRuns_189 : decode prog_13_method_44_code 189 = .ok (.invokestatic 176, 3) := by decide +kernel
theorem d_Mo_readRuns_192 : decode prog_13_method_44_code 192 = .ok (.invokevirtual 191, 3) := by decide +kernel
theorem d_Mo_readRuns_195 : decode prog_13_method_44_code 195 = .ok (.istore 6, 2) := by decide +kernel
theorem d_Mo_readRuns_197 : decode prog_13_method_44_code 197 = .ok (.iload 6, 2) := by decide +kernel
theorem d_Mo_readRuns_199 : decode prog_13_method_44_code 199 = .ok (.ifCond .ge 6, 3) := by decide +kernel
theorem d_Mo_readRuns_202 : decode prog_13_method_44_code 202 = .ok (.iload 6, 2) := by decide +kernel
theorem d_Mo_readRuns_204 : decode prog_13_method_44_code 204 = .ok (.ireturn, 1) := by decide +kernel
theorem d_Mo_readRuns_205 : decode prog_13_method_44_code 205 = .ok (.iload 6, 2) := by decide +kernel
theorem d_Mo_readRuns_207 : decode prog_13_method_44_code 207 = .ok (.iload 5, 2) := by decide +kernel
theorem d_Mo_readRuns_209 : decode prog_13_method_44_code 209 = .ok (.bipush 18, 2) := by decide +kernel
theorem d_Mo_readRuns_211 : decode prog_13_method_44_code 211 = .ok (.if_icmp .ne 8, 3) := by decide +kernel
theorem d_Mo_readRuns_214 : decode prog_13_method_44_code 214 = .ok (.bipush 11, 2) := by decide +kernel
theorem d_Mo_readRuns_216 : decode prog_13_method_44_code 216 = .ok (.goto 4, 3) := by decide +kernel
theorem d_Mo_readRuns_219 : decode prog_13_method_44_code 219 = .ok (.iconst 3, 1) := by decide +kernel
theorem d_Mo_readRuns_220 : decode prog_13_method_44_code 220 = .ok (.iadd, 1) := by decide +kernel
theorem d_Mo_readRuns_221 : decode prog_13_method_44_code 221 = .ok (.istore 7, 2) := by decide +kernel
theorem d_Mo_readRuns_223 : decode prog_13_method_44_code 223 = .ok (.iload 4, 2) := by decide +kernel
theorem d_Mo_readRuns_225 : decode prog_13_method_44_code 225 = .ok (.iload 7, 2) := by decide +kernel
theorem d_Mo_readRuns_227 : decode prog_13_method_44_code 227 = .ok (.iadd, 1) := by decide +kernel
theorem d_Mo_readRuns_228 : decode prog_13_method_44_code 228 = .ok (.iload_n 1, 1) := by decide +kernel
theorem d_Mo_readRuns_229 : decode prog_13_method_44_code 229 = .ok (.if_icmp .le 6, 3) := by decide +kernel
theorem d_Mo_readRuns_232 : decode prog_13_method_44_code 232 = .ok (.bipush (-105), 2) := by decide +kernel
theorem d_Mo_readRuns_234 : decode prog_13_method_44_code 234 = .ok (.ireturn, 1) := by decide +kernel
theorem d_Mo_readRuns_235 : decode prog_13_method_44_code 235 = .ok (.iload 5, 2) := by decide +kernel
theorem d_Mo_readRuns_237 : decode prog_13_method_44_code 237 = .ok (.bipush 16, 2) := by decide +kernel
theorem d_Mo_readRuns_239 : decode prog_13_method_44_code 239 = .ok (.if_icmp .ne 15, 3) := by decide +kernel
theorem d_Mo_readRuns_242 : decode prog_13_method_44_code 242 = .ok (.aload_n 0, 1) := by decide +kernel
theorem d_Mo_readRuns_243 : decode prog_13_method_44_code 243 = .ok (.getfield 46, 3) := by decide +kernel
theorem d_Mo_readRuns_246 : decode prog_13_method_44_code 246 = .ok (.iload 4, 2) := by decide +kernel
theorem d_Mo_readRuns_248 : decode prog_13_method_44_code 248 = .ok (.iconst 1, 1) := by decide +kernel
theorem d_Mo_readRuns_249 : decode prog_13_method_44_code 249 = .ok (.isub, 1) := by decide +kernel
theorem d_Mo_readRuns_250 : decode prog_13_method_44_code 250 = .ok (.iaload, 1) := by decide +kernel
theorem d_Mo_readRuns_251 : decode prog_13_method_44_code 251 = .ok (.goto 4, 3) := by decide +kernel
theorem d_Mo_readRuns_254 : decode prog_13_method_44_code 254 = .ok (.iconst 0, 1) := by decide +kernel
theorem d_Mo_readRuns_255 : decode prog_13_method_44_code 255 = .ok (.istore 8, 2) := by decide +kernel
theorem d_Mo_readRuns_257 : decode prog_13_method_44_code 257 = .ok (.iconst 0, 1) := by decide +kernel
theorem d_Mo_readRuns_258 : decode prog_13_method_44_code 258 = .ok (.istore 9, 2) := by decide +kernel
theorem d_Mo_readRuns_260 : decode prog_13_method_44_code 260 = .ok (.iload 9, 2) := by decide +kernel
theorem d_Mo_readRuns_262 : decode prog_13_method_44_code 262 = .ok (.iload 7, 2) := by decide +kernel
theorem d_Mo_readRuns_264 : decode prog_13_method_44_code 264 = .ok (.if_icmp .ge 21, 3) := by decide +kernel
theorem d_Mo_readRuns_267 : decode prog_13_method_44_code 267 = .ok (.aload_n 0, 1) := by decide +kernel
theorem d_Mo_readRuns_268 : decode prog_13_method_44_code 268 = .ok (.getfield 46, 3) := by decide +kernel
theorem d_Mo_readRuns_271 : decode prog_13_method_44_code 271 = .ok (.iload 4, 2) := by decide +kernel
theorem d_Mo_readRuns_273 : decode prog_13_method_44_code 273 = .ok (.iload 8, 2) := by decide +kernel
theorem d_Mo_readRuns_275 : decode prog_13_method_44_code 275 = .ok (.iastore, 1) := by decide +kernel
theorem d_Mo_readRuns_276 : decode prog_13_method_44_code 276 = .ok (.iinc 4 1, 3) := by decide +kernel
theorem d_Mo_readRuns_279 : decode prog_13_method_44_code 279 = .ok (.iinc 9 1, 3) := by decide +kernel
theorem d_Mo_readRuns_282 : decode prog_13_method_44_code 282 = .ok (.goto (-22), 3) := by decide +kernel
theorem d_Mo_readRuns_285 : decode prog_13_method_44_code 285 = .ok (.goto (-171), 3) := by decide +kernel
theorem d_Mo_readRuns_288 : decode prog_13_method_44_code 288 = .ok (.iconst 0, 1) := by decide +kernel
theorem d_Mo_readRuns_289 : decode prog_13_method_44_code 289 = .ok (.ireturn, 1) := by decide +kernel
theorem d_Mo_unpack_0 : decode prog_13_method_41_code 0 = .ok (.iload_n 1, 1) := by decide +kernel
theorem d_Mo_unpack_1 : decode prog_13_method_41_code 1 = .ok (.iconst 1, 1) := by decide +kernel
theorem d_Mo_unpack_2 : decode prog_13_method_41_code 2 = .ok (.if_icmp .lt 18, 3) := by decide +kernel
theorem d_Mo_unpack_5 : decode prog_13_method_41_code 5 = .ok (.iload_n 1, 1) := by decide +kernel
theorem d_Mo_unpack_6 : decode prog_13_method_41_code 6 = .ok (.bipush 64, 2) := by decide +kernel
theorem d_Mo_unpack_8 : decode prog_13_method_41_code 8 = .ok (.if_icmp .gt 12, 3) := by decide +kernel
theorem d_Mo_unpack_11 : decode prog_13_method_41_code 11 = .ok (.iload_n 2, 1) := by decide +kernel
theorem d_Mo_unpack_12 : decode prog_13_method_41_code 12 = .ok (.ifCond .lt 8, 3) := by decide +kernel
theorem d_Mo_unpack_15 : decode prog_13_method_41_code 15 = .ok (.iload_n 2, 1) := by decide +kernel
theorem d_Mo_unpack_16 : decode prog_13_method_41_code 16 = .ok (.iconst 2, 1) := by decide +kernel
theorem d_Mo_unpack_17 : decode prog_13_method_41_code 17 = .ok (.if_icmp .le 6, 3) := by decide +kernel
theorem d_Mo_unpack_20 : decode prog_13_method_41_code 20 = .ok (.bipush (-102), 2) := by decide +kernel
theorem d_Mo_unpack_22 : decode prog_13_method_41_code 22 = .ok (.ireturn, 1) := by decide +kernel
theorem d_Mo_unpack_23 : decode prog_13_method_41_code 23 = .ok (.aload_n 0, 1) := by decide +kernel
theorem d_Mo_unpack_24 : decode prog_13_method_41_code 24 = .ok (.getfield 143, 3) := by decide +kernel
theorem d_Mo_unpack_27 : decode prog_13_method_41_code 27 = .ok (.istore_n 3, 1) := by decide +kernel
theorem d_Mo_unpack_28 : decode prog_13_method_41_code 28 = .ok (.iload_n 2, 1) := by decide +kernel
theorem d_Mo_unpack_29 : decode prog_13_method_41_code 29 = .ok (.ifCond .ne 11, 3) := by decide +kernel
theorem d_Mo_unpack_32 : decode prog_13_method_41_code 32 = .ok (.aload_n 0, 1) := by decide +kernel
theorem d_Mo_unpack_33 : decode prog_13_method_41_code 33 = .ok (.iload_n 1, 1) := by decide +kernel
theorem d_Mo_unpack_34 : decode prog_13_method_41_code 34 = .ok (.invokevirtual 182, 3) := by decide +kernel
theorem d_Mo_unpack_37 : decode prog_13_method_41_code 37 = .ok (.goto 21, 3) := by decide +kernel
theorem d_Mo_unpack_40 : decode prog_13_method_41_code 40 = .ok (.iload_n 2, 1) := by decide +kernel
theorem d_Mo_unpack_41 : decode prog_13_method_41_code 41 = .ok (.iconst 1, 1) := by decide +kernel
theorem d_Mo_unpack_42 : decode prog_13_method_41_code 42 = .ok (.if_icmp .ne 11, 3) := by decide +kernel
theorem d_Mo_unpack_45 : decode prog_13_method_41_code 45 = .ok (.aload_n 0, 1) := by decide +kernel
theorem d_Mo_unpack_46 : decode prog_13_method_41_code 46 = .ok (.iload_n 1, 1) := by decide +kernel
theorem d_Mo_unpack_47 : decode prog_13_method_41_code 47 = .ok (.invokevirtual 185, 3) := by decide +kernel
theorem d_Mo_unpack_50 : decode prog_13_method_41_code 50 = .ok (.goto 8, 3) := by decide +kernel
theorem d_Mo_unpack_53 : decode prog_13_method_41_code 53 = .ok (.aload_n 0, 1) := by decide +kernel
theorem d_Mo_unpack_54 : decode prog_13_method_41_code 54 = .ok (.iload_n 1, 1) := by decide +kernel
theorem d_Mo_unpack_55 : decode prog_13_method_41_code 55 = .ok (.invokevirtual 188, 3) := by decide +kernel
theorem d_Mo_unpack_58 : decode prog_13_method_41_code 58 = .ok (.istore 4, 2) := by decide +kernel
theorem d_Mo_unpack_60 : decode prog_13_method_41_code 60 = .ok (.iload 4, 2) := by decide +kernel
theorem d_Mo_unpack_62 : decode prog_13_method_41_code 62 = .ok (.ifCond .ge 6, 3) := by decide +kernel
theorem d_Mo_unpack_65 : decode prog_13_method_41_code 65 = .ok (.iload 4, 2) := by decide +kernel
theorem d_Mo_unpack_67 : decode prog_13_method_41_code 67 = .ok (.ireturn, 1) := by decide +kernel
theorem d_Mo_unpack_68 : decode prog_13_method_41_code 68 = .ok (.aload_n 0, 1) := by decide +kernel
theorem d_Mo_unpack_69 : decode prog_13_method_41_code 69 = .ok (.getfield 84, 3) := by decide +kernel
theorem d_Mo_unpack_72 : decode prog_13_method_41_code 72 = .ok (.bipush 12, 2) := by decide +kernel
theorem d_Mo_unpack_74 : decode prog_13_method_41_code 74 = .ok (.if_icmp .ne 11, 3) := by decide +kernel
theorem d_Mo_unpack_77 : decode prog_13_method_41_code 77 = .ok (.aload_n 0, 1) := by decide +kernel
theorem d_Mo_unpack_78 : decode prog_13_method_41_code 78 = .ok (.iload_n 3, 1) := by decide +kernel
theorem d_Mo_unpack_79 : decode prog_13_method_41_code 79 = .ok (.putfield 143, 3) := by decide +kernel
theorem d_Mo_unpack_82 : decode prog_13_method_41_code 82 = .ok (.bipush (-106), 2) := by decide +kernel
theorem d_Mo_unpack_84 : decode prog_13_method_41_code 84 = .ok (.ireturn, 1) := by decide +kernel
theorem d_Mo_unpack_85 : decode prog_13_method_41_code 85 = .ok (.aload_n 0, 1) := by decide +kernel
theorem d_Mo_unpack_86 : decode prog_13_method_41_code 86 = .ok (.iload_n 1, 1) := by decide +kernel
theorem d_Mo_unpack_87 : decode prog_13_method_41_code 87 = .ok (.invokevirtual 91, 3) := by decide +kernel
theorem d_Mo_unpack_90 : decode prog_13_method_41_code 90 = .ok (.istore 5, 2) := by decide +kernel
theorem d_Mo_unpack_92 : decode prog_13_method_41_code 92 = .ok (.iconst 0, 1) := by decide +kernel
theorem d_Mo_unpack_93 : decode prog_13_method_41_code 93 = .ok (.istore 6, 2) := by decide +kernel
theorem d_Mo_unpack_95 : decode prog_13_method_41_code 95 = .ok (.iload 6, 2) := by decide +kernel
theorem d_Mo_unpack_97 : decode prog_13_method_41_code 97 = .ok (.iload_n 1, 1) := by decide +kernel
theorem d_Mo_unpack_98 : decode prog_13_method_41_code 98 = .ok (.if_icmp .ge 29, 3) := by decide +kernel
theorem d_Mo_unpack_101 : decode prog_13_method_41_code 101 = .ok (.aload_n 0, 1) := by decide +kernel
theorem d_Mo_unpack_102 : decode prog_13_method_41_code 102 = .ok (.getfield 13, 3) := by decide +kernel
theorem d_Mo_unpack_105 : decode prog_13_method_41_code 105 = .ok (.bipush 64, 2) := by decide +kernel
theorem d_Mo_unpack_107 : decode prog_13_method_41_code 107 = .ok (.iload 5, 2) := by decide +kernel
theorem d_Mo_unpack_109 : decode prog_13_method_41_code 109 = .ok (.imul, 1) := by decide +kernel
theorem d_Mo_unpack_110 : decode prog_13_method_41_code 110 = .ok (.iload 6, 2) := by decide +kernel
theorem d_Mo_unpack_112 : decode prog_13_method_41_code 112 = .ok (.iadd, 1) := by decide +kernel
theorem d_Mo_unpack_113 : decode prog_13_method_41_code 113 = .ok (.aload_n 0, 1) := by decide +kernel
theorem d_Mo_unpack_114 : decode prog_13_method_41_code 114 = .ok (.getfield 46, 3) := by decide +kernel
theorem d_Mo_unpack_117 : decode prog_13_method_41_code 117 = .ok (.iload 6, 2) := by decide +kernel
theorem d_Mo_unpack_119 : decode prog_13_method_41_code 119 = .ok (.iaload, 1) := by decide +kernel
theorem d_Mo_unpack_120 : decode prog_13_method_41_code 120 = .ok (.iastore, 1) := by decide +kernel
theorem d_Mo_unpack_121 : decode prog_13_method_41_code 121 = .ok (.iinc 6 1, 3) := by decide +kernel
theorem d_Mo_unpack_124 : decode prog_13_method_41_code 124 = .ok (.goto (-29), 3) := by decide +kernel
theorem d_Mo_unpack_127 : decode prog_13_method_41_code 127 = .ok (.iload 5, 2) := by decide +kernel
theorem d_Mo_unpack_129 : decode prog_13_method_41_code 129 = .ok (.ireturn, 1) := by decide +kernel
theorem d_Mo_putEntry_0 : decode prog_13_method_47_code 0 = .ok (.aload_n 0, 1) := by decide +kernel
theorem d_Mo_putEntry_1 : decode prog_13_method_47_code 1 = .ok (.getfield 50, 3) := by decide +kernel
theorem d_Mo_putEntry_4 : decode prog_13_method_47_code 4 = .ok (.iload_n 1, 1) := by decide +kernel
theorem d_Mo_putEntry_5 : decode prog_13_method_47_code 5 = .ok (.iload_n 2, 1) := by decide +kernel
theorem d_Mo_putEntry_6 : decode prog_13_method_47_code 6 = .ok (.i2b, 1) := by decide +kernel
theorem d_Mo_putEntry_7 : decode prog_13_method_47_code 7 = .ok (.bastore, 1) := by decide +kernel
theorem d_Mo_putEntry_8 : decode prog_13_method_47_code 8 = .ok (.aload_n 0, 1) := by decide +kernel
theorem d_Mo_putEntry_9 : decode prog_13_method_47_code 9 = .ok (.getfield 53, 3) := by decide +kernel
theorem d_Mo_putEntry_12 : decode prog_13_method_47_code 12 = .ok (.iload_n 1, 1) := by decide +kernel
theorem d_Mo_putEntry_13 : decode prog_13_method_47_code 13 = .ok (.iload_n 3, 1) := by decide +kernel
theorem d_Mo_putEntry_14 : decode prog_13_method_47_code 14 = .ok (.iastore, 1) := by decide +kernel
theorem d_Mo_putEntry_15 : decode prog_13_method_47_code 15 = .ok (.aload_n 0, 1) := by decide +kernel
theorem d_Mo_putEntry_16 : decode prog_13_method_47_code 16 = .ok (.getfield 56, 3) := by decide +kernel
theorem d_Mo_putEntry_19 : decode prog_13_method_47_code 19 = .ok (.iload_n 1, 1) := by decide +kernel
theorem d_Mo_putEntry_20 : decode prog_13_method_47_code 20 = .ok (.iload 4, 2) := by decide +kernel
theorem d_Mo_putEntry_22 : decode prog_13_method_47_code 22 = .ok (.iastore, 1) := by decide +kernel
theorem d_Mo_putEntry_23 : decode prog_13_method_47_code 23 = .ok (.return_, 1) := by decide +kernel
theorem d_Mo_clearEntries_0 : decode prog_13_method_46_code 0 = .ok (.iload_n 1, 1) := by decide +kernel
theorem d_Mo_clearEntries_1 : decode prog_13_method_46_code 1 = .ok (.istore_n 3, 1) := by decide +kernel
theorem d_Mo_clearEntries_2 : decode prog_13_method_46_code 2 = .ok (.iload_n 3, 1) := by decide +kernel
theorem d_Mo_clearEntries_3 : decode prog_13_method_46_code 3 = .ok (.iload_n 1, 1) := by decide +kernel
theorem d_Mo_clearEntries_4 : decode prog_13_method_46_code 4 = .ok (.iload_n 2, 1) := by decide +kernel
theorem d_Mo_clearEntries_5 : decode prog_13_method_46_code 5 = .ok (.iadd, 1) := by decide +kernel
theorem d_Mo_clearEntries_6 : decode prog_13_method_46_code 6 = .ok (.if_icmp .ge 17, 3) := by decide +kernel
theorem d_Mo_clearEntries_9 : decode prog_13_method_46_code 9 = .ok (.aload_n 0, 1) := by decide +kernel
theorem d_Mo_clearEntries_10 : decode prog_13_method_46_code 10 = .ok (.iload_n 3, 1) := by decide +kernel
theorem d_Mo_clearEntries_11 : decode prog_13_method_46_code 11 = .ok (.iconst 0, 1) := by decide +kernel
theorem d_Mo_clearEntries_12 : decode prog_13_method_46_code 12 = .ok (.iconst (-1), 1) := by decide +kernel
theorem d_Mo_clearEntries_13 : decode prog_13_method_46_code 13 = .ok (.iconst 0, 1) := by decide +kernel
theorem d_Mo_clearEntries_14 : decode prog_13_method_46_code 14 = .ok (.invokevirtual 200, 3) := by decide +kernel
theorem d_Mo_clearEntries_17 : decode prog_13_method_46_code 17 = .ok (.iinc 3 1, 3) := by decide +kernel
theorem d_Mo_clearEntries_20 : decode prog_13_method_46_code 20 = .ok (.goto (-18), 3) := by decide +kernel
theorem d_Mo_clearEntries_23 : decode prog_13_method_46_code 23 = .ok (.return_, 1) := by decide +kernel
theorem d_Mo_part_0 : decode prog_13_method_48_code 0 = .ok (.aload_n 0, 1) := by decide +kernel
theorem d_Mo_part_1 : decode prog_13_method_48_code 1 = .ok (.getfield 194, 3) := by decide +kernel
theorem d_Mo_part_4 : decode prog_13_method_48_code 4 = .ok (.istore 5, 2) := by decide +kernel
theorem d_Mo_part_6 : decode prog_13_method_48_code 6 = .ok (.aload_n 0, 1) := by decide +kernel
theorem d_Mo_part_7 : decode prog_13_method_48_code 7 = .ok (.iload_n 3, 1) := by decide +kernel
theorem d_Mo_part_8 : decode prog_13_method_48_code 8 = .ok (.iconst 2, 1) := by decide +kernel
theorem d_Mo_part_9 : decode prog_13_method_48_code 9 = .ok (.iload 5, 2) := by decide +kernel
theorem d_Mo_part_11 : decode prog_13_method_48_code 11 = .ok (.iload 4, 2) := by decide +kernel
theorem d_Mo_part_13 : decode prog_13_method_48_code 13 = .ok (.invokevirtual 200, 3) := by decide +kernel
theorem d_Mo_part_16 : decode prog_13_method_48_code 16 = .ok (.aload_n 0, 1) := by decide +kernel
theorem d_Mo_part_17 : decode prog_13_method_48_code 17 = .ok (.dup, 1) := by decide +kernel
theorem d_Mo_part_18 : decode prog_13_method_48_code 18 = .ok (.getfield 194, 3) := by decide +kernel
theorem d_Mo_part_21 : decode prog_13_method_48_code 21 = .ok (.iconst 1, 1) := by decide +kernel
theorem d_Mo_part_22 : decode prog_13_method_48_code 22 = .ok (.iload 4, 2) := by decide +kernel
theorem d_Mo_part_24 : decode prog_13_method_48_code 24 = .ok (.ishl, 1) := by decide +kernel
theorem d_Mo_part_25 : decode prog_13_method_48_code 25 = .ok (.iadd, 1) := by decide +kernel
theorem d_Mo_part_26 : decode prog_13_method_48_code 26 = .ok (.putfield 194, 3) := by decide +kernel
theorem d_Mo_part_29 : decode prog_13_method_48_code 29 = .ok (.aload_n 0, 1) := by decide +kernel
theorem d_Mo_part_30 : decode prog_13_method_48_code 30 = .ok (.iload 5, 2) := by decide +kernel
theorem d_Mo_part_32 : decode prog_13_method_48_code 32 = .ok (.iconst 1, 1) := by decide +kernel
theorem d_Mo_part_33 : decode prog_13_method_48_code 33 = .ok (.iload 4, 2) := by decide +kernel
theorem d_Mo_part_35 : decode prog_13_method_48_code 35 = .ok (.ishl, 1) := by decide +kernel
theorem d_Mo_part_36 : decode prog_13_method_48_code 36 = .ok (.invokevirtual 197, 3) := by decide +kernel
theorem d_Mo_part_39 : decode prog_13_method_48_code 39 = .ok (.iconst 0, 1) := by decide +kernel
theorem d_Mo_part_40 : decode prog_13_method_48_code 40 = .ok (.istore 6, 2) := by decide +kernel
theorem d_Mo_part_42 : decode prog_13_method_48_code 42 = .ok (.iload 6, 2) := by decide +kernel
theorem d_Mo_part_44 : decode prog_13_method_48_code 44 = .ok (.aload_n 0, 1) := by decide +kernel
theorem d_Mo_part_45 : decode prog_13_method_48_code 45 = .ok (.getfield 7, 3) := by decide +kernel
theorem d_Mo_part_48 : decode prog_13_method_48_code 48 = .ok (.iload_n 1, 1) := by decide +kernel
theorem d_Mo_part_49 : decode prog_13_method_48_code 49 = .ok (.iaload, 1) := by decide +kernel
theorem d_Mo_part_50 : decode prog_13_method_48_code 50 = .ok (.if_icmp .ge 106, 3) := by decide +kernel
theorem d_Mo_part_53 : decode prog_13_method_48_code 53 = .ok (.aload_n 0, 1) := by decide +kernel
theorem d_Mo_part_54 : decode prog_13_method_48_code 54 = .ok (.iload_n 1, 1) := by decide +kernel
theorem d_Mo_part_55 : decode prog_13_method_48_code 55 = .ok (.iload 6, 2) := by decide +kernel
theorem d_Mo_part_57 : decode prog_13_method_48_code 57 = .ok (.invokevirtual 99, 3) := by decide +kernel
theorem d_Mo_part_60 : decode prog_13_method_48_code 60 = .ok (.istore 7, 2) := by decide +kernel
theorem d_Mo_part_62 : decode prog_13_method_48_code 62 = .ok (.iload 7, 2) := by decide +kernel
theorem d_Mo_part_64 : decode prog_13_method_48_code 64 = .ok (.iload_n 2, 1) := by decide +kernel
theorem d_Mo_part_65 : decode prog_13_method_48_code 65 = .ok (.if_icmp .le 85, 3) := by decide +kernel
theorem d_Mo_part_68 : decode prog_13_method_48_code 68 = .ok (.aload_n 0, 1) := by decide +kernel
theorem d_Mo_part_69 : decode prog_13_method_48_code 69 = .ok (.iload_n 1, 1) := by decide +kernel
theorem d_Mo_part_70 : decode prog_13_method_48_code 70 = .ok (.iload 6, 2) := by decide +kernel
theorem d_Mo_part_72 : decode prog_13_method_48_code 72 = .ok (.invokevirtual 116, 3) := by decide +kernel
theorem d_Mo_part_75 : decode prog_13_method_48_code 75 = .ok (.iload 7, 2) := by decide +kernel
theorem d_Mo_part_77 : decode prog_13_method_48_code 77 = .ok (.iload_n 2, 1) := by decide +kernel
theorem d_Mo_part_78 : decode prog_13_method_48_code 78 = .ok (.isub, 1) := by decide +kernel
theorem d_Mo_part_79 : decode prog_13_method_48_code 79 = .ok (.ishr, 1) := by decide +kernel
theorem d_Mo_part_80 : decode prog_13_method_48_code 80 = .ok (.iload_n 3, 1) := by decide +kernel
theorem d_Mo_part_81 : decode prog_13_method_48_code 81 = .ok (.if_icmp .ne 69, 3) := by decide +kernel
theorem d_Mo_part_84 : decode prog_13_method_48_code 84 = .ok (.iload 7, 2) := by decide +kernel
theorem d_Mo_part_86 : decode prog_13_method_48_code 86 = .ok (.iload_n 2, 1) := by decide +kernel
theorem d_Mo_part_87 : decode prog_13_method_48_code 87 = .ok (.isub, 1) := by decide +kernel
theorem d_Mo_part_88 : decode prog_13_method_48_code 88 = .ok (.istore 8, 2) := by decide +kernel
theorem d_Mo_part_90 : decode prog_13_method_48_code 90 = .ok (.aload_n 0, 1) := by decide +kernel
theorem d_Mo_part_91 : decode prog_13_method_48_code 91 = .ok (.iload_n 1, 1) := by decide +kernel
theorem d_Mo_part_92 : decode prog_13_method_48_code 92 = .ok (.iload 6, 2) := by decide +kernel
theorem d_Mo_part_94 : decode prog_13_method_48_code 94 = .ok (.invokevirtual 116, 3) := by decide +kernel
theorem d_Mo_part_97 : decode prog_13_method_48_code 97 = .ok (.iconst 1, 1) := by decide +kernel
theorem d_Mo_part_98 : decode prog_13_method_48_code 98 = .ok (.iload 8, 2) := by decide +kernel
theorem d_Mo_part_100 : decode prog_13_method_48_code 100 = .ok (.ishl, 1) := by decide +kernel
theorem d_Mo_part_101 : decode prog_13_method_48_code 101 = .ok (.iconst 1, 1) := by decide +kernel
theorem d_Mo_part_102 : decode prog_13_method_48_code 102 = .ok (.isub, 1) := by decide +kernel
theorem d_Mo_part_103 : decode prog_13_method_48_code 103 = .ok (.iand, 1) := by decide +kernel
theorem d_Mo_part_104 : decode prog_13_method_48_code 104 = .ok (.iload 4, 2) := by decide +kernel
theorem d_Mo_part_106 : decode prog_13_method_48_code 106 = .ok (.iload 8, 2) := by decide +kernel
theorem d_Mo_part_108 : decode prog_13_method_48_code 108 = .ok (.isub, 1) := by decide +kernel
theorem d_Mo_part_109 : decode prog_13_method_48_code 109 = .ok (.ishl, 1) := by decide +kernel
theorem d_Mo_part_110 : decode prog_13_method_48_code 110 = .ok (.istore 9, 2) := by decide +kernel
theorem d_Mo_part_112 : decode prog_13_method_48_code 112 = .ok (.iconst 0, 1) := by decide +kernel
theorem d_Mo_part_113 : decode prog_13_method_48_code 113 = .ok (.istore 10, 2) := by decide +kernel
theorem d_Mo_part_115 : decode prog_13_method_48_code 115 = .ok (.iload 10, 2) := by decide +kernel
theorem d_Mo_part_117 : decode prog_13_method_48_code 117 = .ok (.iconst 1, 1) := by decide +kernel
theorem d_Mo_part_118 : decode prog_13_method_48_code 118 = .ok (.iload 4, 2) := by decide +kernel
theorem d_Mo_part_120 : decode prog_13_method_48_code 120 = .ok (.iload 8, 2) := by decide +kernel
theorem d_Mo_part_122 : decode prog_13_method_48_code 122 = .ok (.isub, 1) := by decide +kernel
theorem d_Mo_part_123 : decode prog_13_method_48_code 123 = .ok (.ishl, 1) := by decide +kernel
theorem d_Mo_part_124 : decode prog_13_method_48_code 124 = .ok (.if_icmp .ge 26, 3) := by decide +kernel
theorem d_Mo_part_127 : decode prog_13_method_48_code 127 = .ok (.aload_n 0, 1) := by decide +kernel
theorem d_Mo_part_128 : decode prog_13_method_48_code 128 = .ok (.iload 5, 2) := by decide +kernel
theorem d_Mo_part_130 : decode prog_13_method_48_code 130 = .ok (.iload 9, 2) := by decide +kernel
theorem d_Mo_part_132 : decode prog_13_method_48_code 132 = .ok (.iadd, 1) := by decide +kernel
theorem d_Mo_part_133 : decode prog_13_method_48_code 133 = .ok (.iload 10, 2) := by decide +kernel
theorem d_Mo_part_135 : decode prog_13_method_48_code 135 = .ok (.iadd, 1) := by decide +kernel
theorem d_Mo_part_136 : decode prog_13_method_48_code 136 = .ok (.iconst 1, 1) := by decide +kernel
theorem d_Mo_part_137 : decode prog_13_method_48_code 137 = .ok (.iload 6, 2) := by decide +kernel
theorem d_Mo_part_139 : decode prog_13_method_48_code 139 = .ok (.iload 7, 2) := by decide +kernel
theorem d_Mo_part_141 : decode prog_13_method_48_code 141 = .ok (.invokevirtual 200, 3) := by decide +kernel
theorem d_Mo_part_144 : decode prog_13_method_48_code 144 = .ok (.iinc 10 1, 3) := by decide +kernel
theorem d_Mo_part_147 : decode prog_13_method_48_code 147 = .ok (.goto (-32), 3) := by decide +kernel
theorem d_Mo_part_150 : decode prog_13_method_48_code 150 = .ok (.iinc 6 1, 3) := by decide +kernel
theorem d_Mo_part_153 : decode prog_13_method_48_code 153 = .ok (.goto (-111), 3) := by decide +kernel
theorem d_Mo_part_156 : decode prog_13_method_48_code 156 = .ok (.return_, 1) := by decide +kernel
noncomputable def lb_Mo_readRuns_14 (a1 : Int32) (x2 : Int32) (σ : St) (v3 : Int32) : Option ((St × Int32) ⊕ ((St × Int32))) :=
  if 64 ≤ v3 then
    some (.inr (σ, v3))
  else
  gd (ib (768 + v3) 832) <|
  nm (sI σ 50 0 ((768 + v3).toNatClampNeg) 0) fun σ3 =>
  nm (v3 + 1) fun x4 =>
  some (.inl (σ3, x4))
noncomputable def lb_Mo_readRuns_48 (a1 : Int32) (x2 : Int32) (σ : St) (v3 : Int32) : Option ((St × Int32) ⊕ ((St × Int32) ⊕ (St × Int32))) :=
  if (x2 + 4) ≤ v3 then
    some (.inr (.inl (σ, v3)))
  else
  b2 (f_Mo_takeNumber σ 3) fun σ8 x9 =>
  if 0 ≤ x9 then
    b2 (f_Mo_orderOf σ8 v3) fun σ10 x11 =>
    gd (ib (768 + x11) 832) <|
    nm (sI σ10 50 0 ((768 + x11).toNatClampNeg) x9) fun σ12 =>
    nm (v3 + 1) fun x13 =>
    some (.inl (σ12, x13))
  else
  some (.inr (.inr (σ8, x9)))
noncomputable def lb_Mo_readRuns_260 (p1 : Int32) (p7 : Int32) (k0 : Int32) (σ : St) (v4 : Int32) (v9 : Int32) : Option ((St × Int32 × Int32) ⊕ ((St × Int32 × Int32))) :=
  if p7 ≤ v9 then
    some (.inr (σ, v4, v9))
  else
  gd (ib v4 64) <|
  nm (sI σ 60 0 (v4.toNatClampNeg) k0) fun σ25 =>
  nm (v4 + 1) fun x26 =>
  nm (v9 + 1) fun x27 =>
  some (.inl (σ25, x26, x27))
noncomputable def jn_Mo_readRuns_255_4 (p1 : Int32) (σ : St) (p4 : Int32) (p7 : Int32) (k0 : Int32) : Option ((St × Int32) ⊕ ((St × Int32) ⊕ (St × Int32))) :=
  b3 (lpE (fun q => lb_Mo_readRuns_260 p1 p7 k0 q.1 q.2.1 q.2.2) (σ, p4, 0)) fun σ28 x29 x30 =>
  some (.inl (σ28, x29))
noncomputable def jn_Mo_readRuns_220_3 (p1 : Int32) (σ : St) (p4 : Int32) (p5 : Int32) (k0 : Int32) (k1 : Int32) : Option ((St × Int32) ⊕ ((St × Int32) ⊕ (St × Int32))) :=
  nm (k0 + k1) fun x24 =>
  if (p4 + x24) ≤ p1 then
    if p5 = 16 then
      gd (ib (p4 - 1) 64) <|
      jn_Mo_readRuns_255_4 p1 σ p4 x24 (σ.1 60 0 (p4 - 1).toNatClampNeg)
    else
    jn_Mo_readRuns_255_4 p1 σ p4 x24 0
  else
  some (.inr (.inr (σ, (-105))))
noncomputable def jn_Mo_readRuns_186_2 (p1 : Int32) (σ : St) (p4 : Int32) (p5 : Int32) : Option ((St × Int32) ⊕ ((St × Int32) ⊕ (St × Int32))) :=
  b2 (f_Mo_extra σ p5) fun σ20 x21 =>
  b2 (f_Mo_takeNumber σ20 x21) fun σ22 x23 =>
  if 0 ≤ x23 then
    if p5 = 18 then
      jn_Mo_readRuns_220_3 p1 σ22 p4 p5 x23 11
    else
    jn_Mo_readRuns_220_3 p1 σ22 p4 p5 x23 3
  else
  some (.inr (.inr (σ22, x23)))
noncomputable def lb_Mo_readRuns_114 (p1 : Int32) (σ : St) (v4 : Int32) : Option ((St × Int32) ⊕ ((St × Int32) ⊕ (St × Int32))) :=
  if p1 ≤ v4 then
    some (.inr (.inl (σ, v4)))
  else
  b2 (f_Mo_taken σ 12 0) fun σ18 x19 =>
  if 0 ≤ x19 then
    if 16 ≤ x19 then
      if x19 = 16 then
        if v4 = 0 then
          some (.inr (.inr (σ18, (-105))))
        else
        gd (ib (v4 - 1) 64) <|
        if (σ18.1 60 0 (v4 - 1).toNatClampNeg) = 0 then
          some (.inr (.inr (σ18, (-105))))
        else
        jn_Mo_readRuns_186_2 p1 σ18 v4 x19
      else
      jn_Mo_readRuns_186_2 p1 σ18 v4 x19
    else
    gd (ib v4 64) <|
    nm (sI σ18 60 0 (v4.toNatClampNeg) x19) fun σ31 =>
    nm (v4 + 1) fun x32 =>
    some (.inl (σ31, x32))
  else
  some (.inr (.inr (σ18, x19)))
noncomputable def jn_Mo_readRuns_111 (σ : St) (p1 : Int32) : Option (St × Int32) :=
  bs2 (lpE (fun q => lb_Mo_readRuns_114 p1 q.1 q.2) (σ, 0)) (fun z => some z) fun σ33 x34 =>
  some (σ33, 0)
noncomputable def f_Mo_readRuns (σ : St) (a1 : Int32) : Option (St × Int32) :=
  b2 (f_Mo_takeNumber σ 4) fun σ1 x2 =>
  if 0 ≤ x2 then
    b2 (lpE (fun q => lb_Mo_readRuns_14 a1 x2 q.1 q.2) (σ1, 0)) fun σ5 x6 =>
    gd (ib 12 13) <|
    nm (sI σ5 49 0 ((12 : Int32).toNatClampNeg) 19) fun σ7 =>
    bs2 (lpE (fun q => lb_Mo_readRuns_48 a1 x2 q.1 q.2) (σ7, 0)) (fun z => some z) fun σ14 x15 =>
    b2 (f_Mo_kind σ14 12) fun σ16 x17 =>
    if x17 = 1 then
      jn_Mo_readRuns_111 σ16 a1
    else
    if x17 = 2 then
      jn_Mo_readRuns_111 σ16 a1
    else
    some (σ16, (-105))
  else
  some (σ1, x2)
noncomputable def lb_Mo_unpack_95 (p1 : Int32) (x5 : Int32) (σ : St) (v6 : Int32) : Option ((St × Int32) ⊕ ((St × Int32))) :=
  if p1 ≤ v6 then
    some (.inr (σ, v6))
  else
  gd (ib v6 64) <|
  gd (ib ((64 * x5) + v6) 832) <|
  nm (sI σ 50 0 (((64 * x5) + v6).toNatClampNeg) (σ.1 60 0 v6.toNatClampNeg)) fun σ6 =>
  nm (v6 + 1) fun x7 =>
  some (.inl (σ6, x7))
noncomputable def jn_Mo_unpack_58 (σ : St) (p1 : Int32) (p3 : Int32) (k0 : Int32) : Option (St × Int32) :=
  if 0 ≤ k0 then
    if (σ.1 48 0 1) = 12 then
      nm (sI σ 48 0 11 p3) fun σ10 =>
      some (σ10, (-106))
    else
    b2 (f_Mo_made σ p1) fun σ4 x5 =>
    b2 (lpE (fun q => lb_Mo_unpack_95 p1 x5 q.1 q.2) (σ4, 0)) fun σ8 x9 =>
    some (σ8, x5)
  else
  some (σ, k0)
noncomputable def f_Mo_unpack (σ : St) (a1 : Int32) (a2 : Int32) : Option (St × Int32) :=
  if a1 < 1 then
    some (σ, (-102))
  else
  if 64 < a1 then
    some (σ, (-102))
  else
  if a2 < 0 then
    some (σ, (-102))
  else
  if a2 ≤ 2 then
    nm (σ.1 48 0 11) fun x1 =>
    if a2 = 0 then
      b2 (f_Mo_plain σ a1) fun σ13 x14 =>
      jn_Mo_unpack_58 σ13 a1 x1 x14
    else
    if a2 = 1 then
      b2 (f_Mo_steps σ a1) fun σ11 x12 =>
      jn_Mo_unpack_58 σ11 a1 x1 x12
    else
    b2 (f_Mo_readRuns σ a1) fun σ2 x3 =>
    jn_Mo_unpack_58 σ2 a1 x1 x3
  else
  some (σ, (-102))
noncomputable def f_Mo_putEntry (σ : St) (a1 : Int32) (a2 : Int32) (a3 : Int32) (a4 : Int32) : Option (St) :=
  gd (ib a1 80000) <|
  nm (sI σ 61 0 (a1.toNatClampNeg) (a2.toInt8.toInt32.toInt8.toInt32)) fun σ1 =>
  gd (ib a1 80000) <|
  nm (sI σ1 62 0 (a1.toNatClampNeg) a3) fun σ2 =>
  gd (ib a1 80000) <|
  nm (sI σ2 63 0 (a1.toNatClampNeg) a4) fun σ3 =>
  some σ3
noncomputable def lb_Mo_clearEntries_2 (a1 : Int32) (a2 : Int32) (σ : St) (v3 : Int32) : Option ((St × Int32) ⊕ ((St × Int32))) :=
  if (a1 + a2) ≤ v3 then
    some (.inr (σ, v3))
  else
  b1 (f_Mo_putEntry σ v3 0 (-1) 0) fun σ1 =>
  nm (v3 + 1) fun x2 =>
  some (.inl (σ1, x2))
noncomputable def f_Mo_clearEntries (σ : St) (a1 : Int32) (a2 : Int32) : Option (St) :=
  b2 (lpE (fun q => lb_Mo_clearEntries_2 a1 a2 q.1 q.2) (σ, a1)) fun σ3 x4 =>
  some σ3
noncomputable def lb_Mo_part_115 (a1 : Int32) (a2 : Int32) (a3 : Int32) (a4 : Int32) (x1 : Int32) (v6 : Int32) (x6 : Int32) (x11 : Int32) (x14 : Int32) (σ : St) (v10 : Int32) : Option ((St × Int32) ⊕ ((St × Int32))) :=
  if (1 <<< ((a4 - x11) &&& 31)) ≤ v10 then
    some (.inr (σ, v10))
  else
  b1 (f_Mo_putEntry σ ((x1 + x14) + v10) 1 v6 x6) fun σ15 =>
  nm (v10 + 1) fun x16 =>
  some (.inl (σ15, x16))
noncomputable def lb_Mo_part_42 (a1 : Int32) (a2 : Int32) (a3 : Int32) (a4 : Int32) (x1 : Int32) (σ : St) (v6 : Int32) : Option ((St × Int32) ⊕ ((St × Int32))) :=
  gd (ib a1 13) <|
  if (σ.1 49 0 a1.toNatClampNeg) ≤ v6 then
    some (.inr (σ, v6))
  else
  b2 (f_Mo_lengthOf σ a1 v6) fun σ5 x6 =>
  if x6 ≤ a2 then
    nm (v6 + 1) fun x7 =>
    some (.inl (σ5, x7))
  else
  b2 (f_Mo_wordOf σ5 a1 v6) fun σ8 x9 =>
  if (x9 >>> ((x6 - a2) &&& 31)) = a3 then
    nm (x6 - a2) fun x11 =>
    b2 (f_Mo_wordOf σ8 a1 v6) fun σ12 x13 =>
    nm ((x13 &&& ((1 <<< (x11 &&& 31)) - 1)) <<< ((a4 - x11) &&& 31)) fun x14 =>
    b2 (lpE (fun q => lb_Mo_part_115 a1 a2 a3 a4 x1 v6 x6 x11 x14 q.1 q.2) (σ12, 0)) fun σ17 x18 =>
    nm (v6 + 1) fun x19 =>
    some (.inl (σ17, x19))
  else
  nm (v6 + 1) fun x10 =>
  some (.inl (σ8, x10))
noncomputable def f_Mo_part (σ : St) (a1 : Int32) (a2 : Int32) (a3 : Int32) (a4 : Int32) : Option (St) :=
  nm (σ.1 48 0 20) fun x1 =>
  b1 (f_Mo_putEntry σ a3 2 x1 a4) fun σ2 =>
  nm (sI σ2 48 0 20 ((σ2.1 48 0 20) + (1 <<< (a4 &&& 31)))) fun σ3 =>
  b1 (f_Mo_clearEntries σ3 x1 (1 <<< (a4 &&& 31))) fun σ4 =>
  b2 (lpE (fun q => lb_Mo_part_42 a1 a2 a3 a4 x1 q.1 q.2) (σ4, 0)) fun σ20 x21 =>
  some σ20
set_option maxHeartbeats 4000000 in
set_option maxRecDepth 100000 in
theorem c_Mo_readRuns (l : Launch) (D : va_G) (aC : Nat → ClassId) (A : Nat → Prop) (ad : Nat → Nat → Nat) (n : Nat) (σ : St) (a1 : Int32) (o : St × Int32) (h : f_Mo_readRuns σ a1 = some o) : Met l y_Mo_readRuns w_Mo_readRuns rm_Mo_readRuns (va_Pc [.ref (ad 48 0), .int a1] (Pre D aC A ad n σ)) (va_Qi (fun r (_ : Unit) => r = o.2) (fun _ t => Hold D aC A ad n o.1 t.heap) A) 0 0 A := by
  refine Met.ofW (cc := prog_13_method_44_code) (maxL := 10) (ret := (some .int)) (by decide) rfl ?_
  intro p e s m args below meth c s₁ B hml hv
  obtain ⟨hargs, hH, hK, hZ⟩ := hv
  have hx := B.exec
  have hb := B.bytes
  have hr := B.returns
  have hts := atoms_spec (ws := w_Mo_readRuns) B.pre
  have hg : ∀ w ∈ gW, w.before args s = true := fun w h => hts w (List.mem_cons_of_mem _ h)
  have hown : s.vm.findClass "PrefixCodesModel" = some m.cls := findClass_of_methodNamed B.named
  have hlocks := B.notSynchronized
  have hS : va_S A s.heap s.heap [] := va_S.rf
  have hl := lv_entry ([.ref (ad 48 0), .int a1]) (n := 10) (Nat.le_of_ble_eq_true rfl)
  rw [show entryFrame m args 10 = entryFrame m (([.ref (ad 48 0), .int a1] : List Value).toArray) 10 by rw [hargs], lg_entry_eq]
  generalize (lg_sl ([.ref (ad 48 0), .int a1]) ++ List.replicate (10 - (lg_sl ([.ref (ad 48 0), .int a1])).length) Slot.unset).toArray = ls at hl ⊢
  have hl : lv_has ls 10 [(0, .ref (ad 48 0)), (1, .int a1)] := hl
  generalize hQ0 : MQ below (va_Qi (fun r (_ : Unit) => r = o.2) (fun _ t => Hold D aC A ad n o.1 t.heap) A) args s 0 0 A = Q0
  unfold f_Mo_readRuns at h
  have J111 : ∀ (σ : St) (p1 : Int32) (H : Heap) (locs : List Loc) (ls : Array Slot), Hold D aC A ad n σ H → va_S A s.heap H locs → lv_has ls 10 [(0, .ref (ad 48 0)), (1, .int p1)] → jn_Mo_readRuns_111 σ p1 = some o → W p l e (headSpec w_Mo_readRuns rm_Mo_readRuns).room s m args below meth c H locs 0 0 Q0 (F0 m 111 ls []) := by
    intro σ p1  H locs ls hH hS hl h
    unfold jn_Mo_readRuns_111 at h
    refine lv_iconst (v := 0) hx hb d_Mo_readRuns_111 (by decide) ?_
    refine lv_istore (lv' := [(4, .int 0), (0, .ref (ad 48 0)), (1, .int p1)]) hx hb d_Mo_readRuns_112 hl (by decide) rfl (fun ls hl => ?_)
    obtain ⟨q1, hq1, h⟩ := bs2_some h
    have K1 : ∀ (σ33 : St) (x34 : Int32) (H : Heap) (locs : List Loc) (ls : Array Slot), q1 = .inl (σ33, x34) → Hold D aC A ad n σ33 H → va_S A s.heap H locs → lv_has ls 10 [(0, .ref (ad 48 0)), (1, .int p1), (4, .int x34)] → W p l e (headSpec w_Mo_readRuns rm_Mo_readRuns).room s m args below meth c H locs 0 0 Q0 (F0 m 288 ls []) := by
      intro σ33 x34 H locs ls eq1 hH hS hl
      subst eq1
      have h := bs2_at h
      refine lv_iconst (v := 0) hx hb d_Mo_readRuns_288 (by decide) ?_
      cases h
      rw [← hQ0]
      exact W.iret hx hb hr (fun t ht hW => ⟨⟨_, (), rfl, rfl, by dsimp only; rw [ht]; exact hH⟩, hS.F ht⟩) hS.2.2 d_Mo_readRuns_289
    have loop1 : ∀ (k : Nat) (σ : St) (v4 : Int32) (H : Heap) (locs : List Loc) (ls : Array Slot), Hold D aC A ad n σ H → va_S A s.heap H locs → lv_has ls 10 [(0, .ref (ad 48 0)), (1, .int p1), (4, .int v4)] → lp (fun q => lb_Mo_readRuns_114 p1 q.1 q.2) k (σ, v4) = some q1 → W p l e (headSpec w_Mo_readRuns rm_Mo_readRuns).room s m args below meth c H locs 0 0 Q0 (F0 m 114 ls []) := by
      intro k
      induction k with
      | zero => intro σ v4 H locs ls hH hS hl hlp; exact absurd hlp (lp_zero _ _ _)
      | succ k ih1 =>
        intro σ v4 H locs ls hH hS hl hlp
        obtain ⟨z1, h1, hk1⟩ := lp_succ hlp
        have h1 : lb_Mo_readRuns_114 p1 σ v4 = some z1 := h1
        unfold lb_Mo_readRuns_114 at h1
        have J255 : ∀ (σ : St) (p4 : Int32) (p7 : Int32) (k0 : Int32) (H : Heap) (locs : List Loc) (ls : Array Slot), Hold D aC A ad n σ H → va_S A s.heap H locs → lv_has ls 10 [(0, .ref (ad 48 0)), (1, .int p1), (4, .int p4), (7, .int p7)] → jn_Mo_readRuns_255_4 p1 σ p4 p7 k0 = some z1 → W p l e (headSpec w_Mo_readRuns rm_Mo_readRuns).room s m args below meth c H locs 0 0 Q0 (F0 m 255 ls [.int k0]) := by
          intro σ p4 p7 k0  H locs ls hH hS hl h1
          unfold jn_Mo_readRuns_255_4 at h1
          refine lv_istore (lv' := [(8, .int k0), (0, .ref (ad 48 0)), (1, .int p1), (4, .int p4), (7, .int p7)]) hx hb d_Mo_readRuns_255 hl (by decide) rfl (fun ls hl => ?_)
          refine lv_iconst (v := 0) hx hb d_Mo_readRuns_257 (by decide) ?_
          refine lv_istore (lv' := [(9, .int 0), (8, .int k0), (0, .ref (ad 48 0)), (1, .int p1), (4, .int p4), (7, .int p7)]) hx hb d_Mo_readRuns_258 hl (by decide) rfl (fun ls hl => ?_)
          obtain ⟨q2, hq2, h1⟩ := b3_some h1
          have K2 : ∀ (σ28 : St) (x29 : Int32) (x30 : Int32) (H : Heap) (locs : List Loc) (ls : Array Slot), q2 = (σ28, x29, x30) → Hold D aC A ad n σ28 H → va_S A s.heap H locs → lv_has ls 10 [(0, .ref (ad 48 0)), (1, .int p1), (4, .int x29), (7, .int p7), (8, .int k0), (9, .int x30)] → W p l e (headSpec w_Mo_readRuns rm_Mo_readRuns).room s m args below meth c H locs 0 0 Q0 (F0 m 285 ls []) := by
            intro σ28 x29 x30 H locs ls eq2 hH hS hl
            subst eq2
            have h1 := b3_at h1
            refine lv_goto (tgt := 114) hx hb d_Mo_readRuns_285 (by decide) ?_
            cases h1
            exact ih1 σ28 x29 _ _ ls hH hS (lv_sub hl [0, 1, 2] rfl) hk1
          have loop2 : ∀ (k : Nat) (σ : St) (v4 : Int32) (v9 : Int32) (H : Heap) (locs : List Loc) (ls : Array Slot), Hold D aC A ad n σ H → va_S A s.heap H locs → lv_has ls 10 [(0, .ref (ad 48 0)), (1, .int p1), (4, .int v4), (7, .int p7), (8, .int k0), (9, .int v9)] → lp (fun q => lb_Mo_readRuns_260 p1 p7 k0 q.1 q.2.1 q.2.2) k (σ, v4, v9) = some q2 → W p l e (headSpec w_Mo_readRuns rm_Mo_readRuns).room s m args below meth c H locs 0 0 Q0 (F0 m 260 ls []) := by
            intro k
            induction k with
            | zero => intro σ v4 v9 H locs ls hH hS hl hlp; exact absurd hlp (lp_zero _ _ _)
            | succ k ih2 =>
              intro σ v4 v9 H locs ls hH hS hl hlp
              obtain ⟨z2, h2, hk2⟩ := lp_succ hlp
              have h2 : lb_Mo_readRuns_260 p1 p7 k0 σ v4 v9 = some z2 := h2
              unfold lb_Mo_readRuns_260 at h2
              refine lv_iload hx hb d_Mo_readRuns_260 (lv_at hl 5 rfl) ?_
              refine lv_iload hx hb d_Mo_readRuns_262 (lv_at hl 3 rfl) ?_
              refine lv_icmp_ge (tgt := 285) hx hb d_Mo_readRuns_264 (by decide) (fun c264 => ?_) (fun c264 => ?_)
              · have h2 := it h2 c264
                cases h2
                exact K2 σ v4 v9 _ _ ls (Option.some.inj hk2).symm hH hS (lv_sub hl [0, 1, 2, 3, 4, 5] rfl)
              · have h2 := ie h2 c264
                refine lv_aload_n hx hb d_Mo_readRuns_267 rfl (lv_at hl 0 rfl) ?_
                refine st_get hx hb hg hown hK hH (f := 48) (i := 0) hd_48 rfl rfl u_Mo 16 (by decide) (hg _ wd_534) (v := .ref (ad 60 0)) rfl d_Mo_readRuns_268 ?_
                refine lv_iload hx hb d_Mo_readRuns_271 (lv_at hl 2 rfl) ?_
                refine lv_iload hx hb d_Mo_readRuns_273 (lv_at hl 4 rfl) ?_
                obtain ⟨g275, h2⟩ := gd_some h2
                refine st_iast hx hb hK hH hS (f := 60) (i := 0) hd_60 rfl g275 d_Mo_readRuns_275 (fun σ25 H locs eσ25 hH hS => ?_)
                have h2 := nm_at eσ25 h2
                obtain ⟨x26, ex26⟩ : ∃ y : Int32, y = v4 + 1 := ⟨_, rfl⟩
                have h2 := nm_at ex26 h2
                refine lv_iinc (v := x26) (lv' := [(4, .int x26), (0, .ref (ad 48 0)), (1, .int p1), (7, .int p7), (8, .int k0), (9, .int v9)]) hx hb d_Mo_readRuns_276 hl (k := 2) rfl (by rw [ex26]; rfl) (by decide) rfl (fun ls hl => ?_)
                obtain ⟨x27, ex27⟩ : ∃ y : Int32, y = v9 + 1 := ⟨_, rfl⟩
                have h2 := nm_at ex27 h2
                refine lv_iinc (v := x27) (lv' := [(9, .int x27), (4, .int x26), (0, .ref (ad 48 0)), (1, .int p1), (7, .int p7), (8, .int k0)]) hx hb d_Mo_readRuns_279 hl (k := 5) rfl (by rw [ex27]; rfl) (by decide) rfl (fun ls hl => ?_)
                refine lv_goto (tgt := 260) hx hb d_Mo_readRuns_282 (by decide) ?_
                cases h2
                exact ih2 σ25 x26 x27 _ _ ls hH hS (lv_sub hl [2, 3, 1, 4, 5, 0] rfl) hk2
          obtain ⟨k2, hq2⟩ := lpE_some hq2
          exact loop2 k2 σ p4 0 _ _ ls hH hS (lv_sub hl [2, 3, 4, 5, 1, 0] rfl) hq2
        have J220 : ∀ (σ : St) (p4 : Int32) (p5 : Int32) (k0 : Int32) (k1 : Int32) (H : Heap) (locs : List Loc) (ls : Array Slot), Hold D aC A ad n σ H → va_S A s.heap H locs → lv_has ls 10 [(0, .ref (ad 48 0)), (1, .int p1), (4, .int p4), (5, .int p5)] → jn_Mo_readRuns_220_3 p1 σ p4 p5 k0 k1 = some z1 → W p l e (headSpec w_Mo_readRuns rm_Mo_readRuns).room s m args below meth c H locs 0 0 Q0 (F0 m 220 ls [.int k1, .int k0]) := by
          intro σ p4 p5 k0 k1  H locs ls hH hS hl h1
          unfold jn_Mo_readRuns_220_3 at h1
          refine lv_iadd hx hb d_Mo_readRuns_220 ?_
          refine lv_topi (fun x24 ex24 => ?_)
          have h1 := nm_at ex24 h1
          refine lv_istore (lv' := [(7, .int x24), (0, .ref (ad 48 0)), (1, .int p1), (4, .int p4), (5, .int p5)]) hx hb d_Mo_readRuns_221 hl (by decide) rfl (fun ls hl => ?_)
          refine lv_iload hx hb d_Mo_readRuns_223 (lv_at hl 3 rfl) ?_
          refine lv_iload hx hb d_Mo_readRuns_225 (lv_at hl 0 rfl) ?_
          refine lv_iadd hx hb d_Mo_readRuns_227 ?_
          refine lv_iload_n hx hb d_Mo_readRuns_228 rfl (lv_at hl 2 rfl) ?_
          refine lv_icmp_le (tgt := 235) hx hb d_Mo_readRuns_229 (by decide) (fun c229 => ?_) (fun c229 => ?_)
          · have h1 := it h1 c229
            refine lv_iload hx hb d_Mo_readRuns_235 (lv_at hl 4 rfl) ?_
            refine lv_bipush (v := 16) hx hb d_Mo_readRuns_237 (by decide) ?_
            refine lv_icmp_ne (tgt := 254) hx hb d_Mo_readRuns_239 (by decide) (fun c239 => ?_) (fun c239 => ?_)
            · have h1 := ie h1 c239
              refine lv_iconst (v := 0) hx hb d_Mo_readRuns_254 (by decide) ?_
              exact J255 σ p4 x24 0 _ _ ls hH hS (lv_sub hl [1, 2, 3, 0] rfl) h1
            · have h1 := it h1 c239
              refine lv_aload_n hx hb d_Mo_readRuns_242 rfl (lv_at hl 1 rfl) ?_
              refine st_get hx hb hg hown hK hH (f := 48) (i := 0) hd_48 rfl rfl u_Mo 16 (by decide) (hg _ wd_534) (v := .ref (ad 60 0)) rfl d_Mo_readRuns_243 ?_
              refine lv_iload hx hb d_Mo_readRuns_246 (lv_at hl 3 rfl) ?_
              refine lv_iconst (v := 1) hx hb d_Mo_readRuns_248 (by decide) ?_
              refine lv_isub hx hb d_Mo_readRuns_249 ?_
              obtain ⟨g250, h1⟩ := gd_some h1
              refine st_iald hx hb hK hH (f := 60) (i := 0) hd_60 rfl g250 d_Mo_readRuns_250 ?_
              refine lv_goto (tgt := 255) hx hb d_Mo_readRuns_251 (by decide) ?_
              exact J255 σ p4 x24 (σ.1 60 0 (p4 - 1).toNatClampNeg) _ _ ls hH hS (lv_sub hl [1, 2, 3, 0] rfl) h1
          · have h1 := ie h1 c229
            refine lv_bipush (v := (-105)) hx hb d_Mo_readRuns_232 (by decide) ?_
            cases h1
            have hk1 := Option.some.inj hk1
            subst hk1
            have h := bs2_r h
            cases h
            rw [← hQ0]
            exact W.iret hx hb hr (fun t ht hW => ⟨⟨_, (), rfl, rfl, by dsimp only; rw [ht]; exact hH⟩, hS.F ht⟩) hS.2.2 d_Mo_readRuns_234
        have J186 : ∀ (σ : St) (p4 : Int32) (p5 : Int32) (H : Heap) (locs : List Loc) (ls : Array Slot), Hold D aC A ad n σ H → va_S A s.heap H locs → lv_has ls 10 [(0, .ref (ad 48 0)), (1, .int p1), (4, .int p4), (5, .int p5)] → jn_Mo_readRuns_186_2 p1 σ p4 p5 = some z1 → W p l e (headSpec w_Mo_readRuns rm_Mo_readRuns).room s m args below meth c H locs 0 0 Q0 (F0 m 186 ls []) := by
          intro σ p4 p5  H locs ls hH hS hl h1
          unfold jn_Mo_readRuns_186_2 at h1
          refine lv_aload_n hx hb d_Mo_readRuns_186 rfl (lv_at hl 0 rfl) ?_
          refine lv_iload hx hb d_Mo_readRuns_187 (lv_at hl 3 rfl) ?_
          obtain ⟨qc, hc189, h1⟩ := b2_some h1
          obtain ⟨σ20, x21⟩ := qc
          have h1 := b2_at h1
          refine st_Si (As := [.int p5]) (rest := [.ref (ad 48 0)]) ⟨hx, hb, hml, hown, hg⟩ (c_Mo_extra l D aC A ad n _ p5 _ hc189) (cwGS hg wd_520 wd_521 wd_522 wd_428 yd_Mo_extra ⟨Nat.le_of_ble_eq_true rfl, Nat.le_of_ble_eq_true rfl⟩) hK hH hS hZ rfl hl.1 rfl (Nat.le_of_ble_eq_true rfl) d_Mo_readRuns_189 ⟨Nat.zero_le _, Nat.zero_le _⟩ (fun H locs hH hS => ?_)
          obtain ⟨qc, hc192, h1⟩ := b2_some h1
          obtain ⟨σ22, x23⟩ := qc
          have h1 := b2_at h1
          refine st_Vi (As := [.int x21]) (rest := []) ⟨hx, hb, hml, hown, hg⟩ (c_Mo_takeNumber l D aC A ad n _ x21 _ hc192) (cwG hg wd_535 wd_536 wd_537 wd_538 wd_428 yd_Mo_takeNumber ⟨Nat.le_of_ble_eq_true rfl, Nat.le_of_ble_eq_true rfl⟩) hK hH hS hZ hd_48 rfl rfl rfl hl.1 rfl (Nat.le_of_ble_eq_true rfl) d_Mo_readRuns_192 ⟨Nat.zero_le _, Nat.zero_le _⟩ (fun H locs hH hS => ?_)
          refine lv_istore (lv' := [(6, .int x23), (0, .ref (ad 48 0)), (1, .int p1), (4, .int p4), (5, .int p5)]) hx hb d_Mo_readRuns_195 hl (by decide) rfl (fun ls hl => ?_)
          refine lv_iload hx hb d_Mo_readRuns_197 (lv_at hl 0 rfl) ?_
          refine lv_if_ge (tgt := 205) hx hb d_Mo_readRuns_199 (by decide) (fun c199 => ?_) (fun c199 => ?_)
          · have h1 := it h1 c199
            refine lv_iload hx hb d_Mo_readRuns_205 (lv_at hl 0 rfl) ?_
            refine lv_iload hx hb d_Mo_readRuns_207 (lv_at hl 4 rfl) ?_
            refine lv_bipush (v := 18) hx hb d_Mo_readRuns_209 (by decide) ?_
            refine lv_icmp_ne (tgt := 219) hx hb d_Mo_readRuns_211 (by decide) (fun c211 => ?_) (fun c211 => ?_)
            · have h1 := ie h1 c211
              refine lv_iconst (v := 3) hx hb d_Mo_readRuns_219 (by decide) ?_
              exact J220 σ22 p4 p5 x23 3 _ _ ls hH hS (lv_sub hl [1, 2, 3, 4] rfl) h1
            · have h1 := it h1 c211
              refine lv_bipush (v := 11) hx hb d_Mo_readRuns_214 (by decide) ?_
              refine lv_goto (tgt := 220) hx hb d_Mo_readRuns_216 (by decide) ?_
              exact J220 σ22 p4 p5 x23 11 _ _ ls hH hS (lv_sub hl [1, 2, 3, 4] rfl) h1
          · have h1 := ie h1 c199
            refine lv_iload hx hb d_Mo_readRuns_202 (lv_at hl 0 rfl) ?_
            cases h1
            have hk1 := Option.some.inj hk1
            subst hk1
            have h := bs2_r h
            cases h
            rw [← hQ0]
            exact W.iret hx hb hr (fun t ht hW => ⟨⟨_, (), rfl, rfl, by dsimp only; rw [ht]; exact hH⟩, hS.F ht⟩) hS.2.2 d_Mo_readRuns_204
        refine lv_iload hx hb d_Mo_readRuns_114 (lv_at hl 2 rfl) ?_
        refine lv_iload_n hx hb d_Mo_readRuns_116 rfl (lv_at hl 1 rfl) ?_
        refine lv_icmp_ge (tgt := 288) hx hb d_Mo_readRuns_117 (by decide) (fun c117 => ?_) (fun c117 => ?_)
        · have h1 := it h1 c117
          cases h1
          exact K1 σ v4 _ _ ls (Option.some.inj hk1).symm hH hS (lv_sub hl [0, 1, 2] rfl)
        · have h1 := ie h1 c117
          refine lv_aload_n hx hb d_Mo_readRuns_120 rfl (lv_at hl 0 rfl) ?_
          refine lv_bipush (v := 12) hx hb d_Mo_readRuns_121 (by decide) ?_
          refine lv_iconst (v := 0) hx hb d_Mo_readRuns_123 (by decide) ?_
          obtain ⟨qc, hc124, h1⟩ := b2_some h1
          obtain ⟨σ18, x19⟩ := qc
          have h1 := b2_at h1
          refine st_Vi (As := [.int 12, .int 0]) (rest := []) ⟨hx, hb, hml, hown, hg⟩ (c_Mo_taken l D aC A ad n _ 12 0 _ hc124) (cwG hg wd_505 wd_506 wd_507 wd_508 wd_428 yd_Mo_taken ⟨Nat.le_of_ble_eq_true rfl, Nat.le_of_ble_eq_true rfl⟩) hK hH hS hZ hd_48 rfl rfl rfl hl.1 rfl (Nat.le_of_ble_eq_true rfl) d_Mo_readRuns_124 ⟨Nat.zero_le _, Nat.zero_le _⟩ (fun H locs hH hS => ?_)
          refine lv_istore (lv' := [(5, .int x19), (0, .ref (ad 48 0)), (1, .int p1), (4, .int v4)]) hx hb d_Mo_readRuns_127 hl (by decide) rfl (fun ls hl => ?_)
          refine lv_iload hx hb d_Mo_readRuns_129 (lv_at hl 0 rfl) ?_
          refine lv_if_ge (tgt := 137) hx hb d_Mo_readRuns_131 (by decide) (fun c131 => ?_) (fun c131 => ?_)
          · have h1 := it h1 c131
            refine lv_iload hx hb d_Mo_readRuns_137 (lv_at hl 0 rfl) ?_
            refine lv_bipush (v := 16) hx hb d_Mo_readRuns_139 (by decide) ?_
            refine lv_icmp_ge (tgt := 159) hx hb d_Mo_readRuns_141 (by decide) (fun c141 => ?_) (fun c141 => ?_)
            · have h1 := it h1 c141
              refine lv_iload hx hb d_Mo_readRuns_159 (lv_at hl 0 rfl) ?_
              refine lv_bipush (v := 16) hx hb d_Mo_readRuns_161 (by decide) ?_
              refine lv_icmp_ne (tgt := 186) hx hb d_Mo_readRuns_163 (by decide) (fun c163 => ?_) (fun c163 => ?_)
              · have h1 := ie h1 c163
                exact J186 σ18 v4 x19 _ _ ls hH hS (lv_sub hl [1, 2, 3, 0] rfl) h1
              · have h1 := it h1 c163
                refine lv_iload hx hb d_Mo_readRuns_166 (lv_at hl 3 rfl) ?_
                refine lv_if_eq (tgt := 183) hx hb d_Mo_readRuns_168 (by decide) (fun c168 => ?_) (fun c168 => ?_)
                · have h1 := it h1 c168
                  refine lv_bipush (v := (-105)) hx hb d_Mo_readRuns_183 (by decide) ?_
                  cases h1
                  have hk1 := Option.some.inj hk1
                  subst hk1
                  have h := bs2_r h
                  cases h
                  rw [← hQ0]
                  exact W.iret hx hb hr (fun t ht hW => ⟨⟨_, (), rfl, rfl, by dsimp only; rw [ht]; exact hH⟩, hS.F ht⟩) hS.2.2 d_Mo_readRuns_185
                · have h1 := ie h1 c168
                  refine lv_aload_n hx hb d_Mo_readRuns_171 rfl (lv_at hl 1 rfl) ?_
                  refine st_get hx hb hg hown hK hH (f := 48) (i := 0) hd_48 rfl rfl u_Mo 16 (by decide) (hg _ wd_534) (v := .ref (ad 60 0)) rfl d_Mo_readRuns_172 ?_
                  refine lv_iload hx hb d_Mo_readRuns_175 (lv_at hl 3 rfl) ?_
                  refine lv_iconst (v := 1) hx hb d_Mo_readRuns_177 (by decide) ?_
                  refine lv_isub hx hb d_Mo_readRuns_178 ?_
                  obtain ⟨g179, h1⟩ := gd_some h1
                  refine st_iald hx hb hK hH (f := 60) (i := 0) hd_60 rfl g179 d_Mo_readRuns_179 ?_
                  refine lv_if_ne (tgt := 186) hx hb d_Mo_readRuns_180 (by decide) (fun c180 => ?_) (fun c180 => ?_)
                  · have h1 := ie h1 c180
                    exact J186 σ18 v4 x19 _ _ ls hH hS (lv_sub hl [1, 2, 3, 0] rfl) h1
                  · have h1 := it h1 c180
                    refine lv_bipush (v := (-105)) hx hb d_Mo_readRuns_183 (by decide) ?_
                    cases h1
                    have hk1 := Option.some.inj hk1
                    subst hk1
                    have h := bs2_r h
                    cases h
                    rw [← hQ0]
                    exact W.iret hx hb hr (fun t ht hW => ⟨⟨_, (), rfl, rfl, by dsimp only; rw [ht]; exact hH⟩, hS.F ht⟩) hS.2.2 d_Mo_readRuns_185
            · have h1 := ie h1 c141
              refine lv_aload_n hx hb d_Mo_readRuns_144 rfl (lv_at hl 1 rfl) ?_
              refine st_get hx hb hg hown hK hH (f := 48) (i := 0) hd_48 rfl rfl u_Mo 16 (by decide) (hg _ wd_534) (v := .ref (ad 60 0)) rfl d_Mo_readRuns_145 ?_
              refine lv_iload hx hb d_Mo_readRuns_148 (lv_at hl 3 rfl) ?_
              refine lv_iload hx hb d_Mo_readRuns_150 (lv_at hl 0 rfl) ?_
              obtain ⟨g152, h1⟩ := gd_some h1
              refine st_iast hx hb hK hH hS (f := 60) (i := 0) hd_60 rfl g152 d_Mo_readRuns_152 (fun σ31 H locs eσ31 hH hS => ?_)
              have h1 := nm_at eσ31 h1
              obtain ⟨x32, ex32⟩ : ∃ y : Int32, y = v4 + 1 := ⟨_, rfl⟩
              have h1 := nm_at ex32 h1
              refine lv_iinc (v := x32) (lv' := [(4, .int x32), (5, .int x19), (0, .ref (ad 48 0)), (1, .int p1)]) hx hb d_Mo_readRuns_153 hl (k := 3) rfl (by rw [ex32]; rfl) (by decide) rfl (fun ls hl => ?_)
              refine lv_goto (tgt := 114) hx hb d_Mo_readRuns_156 (by decide) ?_
              cases h1
              exact ih1 σ31 x32 _ _ ls hH hS (lv_sub hl [2, 3, 0] rfl) hk1
          · have h1 := ie h1 c131
            refine lv_iload hx hb d_Mo_readRuns_134 (lv_at hl 0 rfl) ?_
            cases h1
            have hk1 := Option.some.inj hk1
            subst hk1
            have h := bs2_r h
            cases h
            rw [← hQ0]
            exact W.iret hx hb hr (fun t ht hW => ⟨⟨_, (), rfl, rfl, by dsimp only; rw [ht]; exact hH⟩, hS.F ht⟩) hS.2.2 d_Mo_readRuns_136
    obtain ⟨k1, hq1⟩ := lpE_some hq1
    exact loop1 k1 σ 0 _ _ ls hH hS (lv_sub hl [1, 2, 0] rfl) hq1
  refine lv_aload_n hx hb d_Mo_readRuns_0 rfl (lv_at hl 0 rfl) ?_
  refine lv_iconst (v := 4) hx hb d_Mo_readRuns_1 (by decide) ?_
  obtain ⟨qc, hc2, h⟩ := b2_some h
  obtain ⟨σ1, x2⟩ := qc
  have h := b2_at h
  refine st_Vi (As := [.int 4]) (rest := []) ⟨hx, hb, hml, hown, hg⟩ (c_Mo_takeNumber l D aC A ad n _ 4 _ hc2) (cwG hg wd_535 wd_536 wd_537 wd_538 wd_428 yd_Mo_takeNumber ⟨Nat.le_of_ble_eq_true rfl, Nat.le_of_ble_eq_true rfl⟩) hK hH hS hZ hd_48 rfl rfl rfl hl.1 rfl (Nat.le_of_ble_eq_true rfl) d_Mo_readRuns_2 ⟨Nat.zero_le _, Nat.zero_le _⟩ (fun H locs hH hS => ?_)
  refine lv_istore_n (lv' := [(2, .int x2), (0, .ref (ad 48 0)), (1, .int a1)]) hx hb d_Mo_readRuns_5 rfl hl (by decide) rfl (fun ls hl => ?_)
  refine lv_iload_n hx hb d_Mo_readRuns_6 rfl (lv_at hl 0 rfl) ?_
  refine lv_if_ge (tgt := 12) hx hb d_Mo_readRuns_7 (by decide) (fun c7 => ?_) (fun c7 => ?_)
  · have h := it h c7
    refine lv_iconst (v := 0) hx hb d_Mo_readRuns_12 (by decide) ?_
    refine lv_istore_n (lv' := [(3, .int 0), (2, .int x2), (0, .ref (ad 48 0)), (1, .int a1)]) hx hb d_Mo_readRuns_13 rfl hl (by decide) rfl (fun ls hl => ?_)
    obtain ⟨q1, hq1, h⟩ := b2_some h
    have K1 : ∀ (σ5 : St) (x6 : Int32) (H : Heap) (locs : List Loc) (ls : Array Slot), q1 = (σ5, x6) → Hold D aC A ad n σ5 H → va_S A s.heap H locs → lv_has ls 10 [(0, .ref (ad 48 0)), (1, .int a1), (2, .int x2), (3, .int x6)] → W p l e (headSpec w_Mo_readRuns rm_Mo_readRuns).room s m args below meth c H locs 0 0 Q0 (F0 m 37 ls []) := by
      intro σ5 x6 H locs ls eq1 hH hS hl
      subst eq1
      have h := b2_at h
      refine lv_aload_n hx hb d_Mo_readRuns_37 rfl (lv_at hl 0 rfl) ?_
      refine st_get hx hb hg hown hK hH (f := 48) (i := 0) hd_48 rfl rfl u_Mo 2 (by decide) (hg _ wd_425) (v := .ref (ad 49 0)) rfl d_Mo_readRuns_38 ?_
      refine lv_bipush (v := 12) hx hb d_Mo_readRuns_41 (by decide) ?_
      refine lv_bipush (v := 19) hx hb d_Mo_readRuns_43 (by decide) ?_
      obtain ⟨g45, h⟩ := gd_some h
      refine st_iast hx hb hK hH hS (f := 49) (i := 0) hd_49 rfl g45 d_Mo_readRuns_45 (fun σ7 H locs eσ7 hH hS => ?_)
      have h := nm_at eσ7 h
      refine lv_iconst (v := 0) hx hb d_Mo_readRuns_46 (by decide) ?_
      refine lv_istore_n (lv' := [(3, .int 0), (0, .ref (ad 48 0)), (1, .int a1), (2, .int x2)]) hx hb d_Mo_readRuns_47 rfl hl (by decide) rfl (fun ls hl => ?_)
      obtain ⟨q1, hq1, h⟩ := bs2_some h
      have K1 : ∀ (σ14 : St) (x15 : Int32) (H : Heap) (locs : List Loc) (ls : Array Slot), q1 = .inl (σ14, x15) → Hold D aC A ad n σ14 H → va_S A s.heap H locs → lv_has ls 10 [(0, .ref (ad 48 0)), (1, .int a1), (2, .int x2), (3, .int x15)] → W p l e (headSpec w_Mo_readRuns rm_Mo_readRuns).room s m args below meth c H locs 0 0 Q0 (F0 m 91 ls []) := by
        intro σ14 x15 H locs ls eq1 hH hS hl
        subst eq1
        have h := bs2_at h
        refine lv_aload_n hx hb d_Mo_readRuns_91 rfl (lv_at hl 0 rfl) ?_
        refine lv_bipush (v := 12) hx hb d_Mo_readRuns_92 (by decide) ?_
        obtain ⟨qc, hc94, h⟩ := b2_some h
        obtain ⟨σ16, x17⟩ := qc
        have h := b2_at h
        refine st_Vi (As := [.int 12]) (rest := []) ⟨hx, hb, hml, hown, hg⟩ (c_Mo_kind l D aC A ad n _ 12 _ hc94) (cwG hg wd_457 wd_458 wd_459 wd_460 wd_428 yd_Mo_kind ⟨Nat.le_of_ble_eq_true rfl, Nat.le_of_ble_eq_true rfl⟩) hK hH hS hZ hd_48 rfl rfl rfl hl.1 rfl (Nat.le_of_ble_eq_true rfl) d_Mo_readRuns_94 ⟨Nat.zero_le _, Nat.zero_le _⟩ (fun H locs hH hS => ?_)
        refine lv_istore_n (lv' := [(3, .int x17), (0, .ref (ad 48 0)), (1, .int a1), (2, .int x2)]) hx hb d_Mo_readRuns_97 rfl hl (by decide) rfl (fun ls hl => ?_)
        refine lv_iload_n hx hb d_Mo_readRuns_98 rfl (lv_at hl 0 rfl) ?_
        refine lv_iconst (v := 1) hx hb d_Mo_readRuns_99 (by decide) ?_
        refine lv_icmp_eq (tgt := 111) hx hb d_Mo_readRuns_100 (by decide) (fun c100 => ?_) (fun c100 => ?_)
        · have h := it h c100
          exact J111 σ16 a1 _ _ ls hH hS (lv_sub hl [1, 2] rfl) h
        · have h := ie h c100
          refine lv_iload_n hx hb d_Mo_readRuns_103 rfl (lv_at hl 0 rfl) ?_
          refine lv_iconst (v := 2) hx hb d_Mo_readRuns_104 (by decide) ?_
          refine lv_icmp_eq (tgt := 111) hx hb d_Mo_readRuns_105 (by decide) (fun c105 => ?_) (fun c105 => ?_)
          · have h := it h c105
            exact J111 σ16 a1 _ _ ls hH hS (lv_sub hl [1, 2] rfl) h
          · have h := ie h c105
            refine lv_bipush (v := (-105)) hx hb d_Mo_readRuns_108 (by decide) ?_
            cases h
            rw [← hQ0]
            exact W.iret hx hb hr (fun t ht hW => ⟨⟨_, (), rfl, rfl, by dsimp only; rw [ht]; exact hH⟩, hS.F ht⟩) hS.2.2 d_Mo_readRuns_110
      have loop1 : ∀ (k : Nat) (σ : St) (v3 : Int32) (H : Heap) (locs : List Loc) (ls : Array Slot), Hold D aC A ad n σ H → va_S A s.heap H locs → lv_has ls 10 [(0, .ref (ad 48 0)), (1, .int a1), (2, .int x2), (3, .int v3)] → lp (fun q => lb_Mo_readRuns_48 a1 x2 q.1 q.2) k (σ, v3) = some q1 → W p l e (headSpec w_Mo_readRuns rm_Mo_readRuns).room s m args below meth c H locs 0 0 Q0 (F0 m 48 ls []) := by
        intro k
        induction k with
        | zero => intro σ v3 H locs ls hH hS hl hlp; exact absurd hlp (lp_zero _ _ _)
        | succ k ih1 =>
          intro σ v3 H locs ls hH hS hl hlp
          obtain ⟨z1, h1, hk1⟩ := lp_succ hlp
          have h1 : lb_Mo_readRuns_48 a1 x2 σ v3 = some z1 := h1
          unfold lb_Mo_readRuns_48 at h1
          refine lv_iload_n hx hb d_Mo_readRuns_48 rfl (lv_at hl 3 rfl) ?_
          refine lv_iload_n hx hb d_Mo_readRuns_49 rfl (lv_at hl 2 rfl) ?_
          refine lv_iconst (v := 4) hx hb d_Mo_readRuns_50 (by decide) ?_
          refine lv_iadd hx hb d_Mo_readRuns_51 ?_
          refine lv_icmp_ge (tgt := 91) hx hb d_Mo_readRuns_52 (by decide) (fun c52 => ?_) (fun c52 => ?_)
          · have h1 := it h1 c52
            cases h1
            exact K1 σ v3 _ _ ls (Option.some.inj hk1).symm hH hS (lv_sub hl [0, 1, 2, 3] rfl)
          · have h1 := ie h1 c52
            refine lv_aload_n hx hb d_Mo_readRuns_55 rfl (lv_at hl 0 rfl) ?_
            refine lv_iconst (v := 3) hx hb d_Mo_readRuns_56 (by decide) ?_
            obtain ⟨qc, hc57, h1⟩ := b2_some h1
            obtain ⟨σ8, x9⟩ := qc
            have h1 := b2_at h1
            refine st_Vi (As := [.int 3]) (rest := []) ⟨hx, hb, hml, hown, hg⟩ (c_Mo_takeNumber l D aC A ad n _ 3 _ hc57) (cwG hg wd_535 wd_536 wd_537 wd_538 wd_428 yd_Mo_takeNumber ⟨Nat.le_of_ble_eq_true rfl, Nat.le_of_ble_eq_true rfl⟩) hK hH hS hZ hd_48 rfl rfl rfl hl.1 rfl (Nat.le_of_ble_eq_true rfl) d_Mo_readRuns_57 ⟨Nat.zero_le _, Nat.zero_le _⟩ (fun H locs hH hS => ?_)
            refine lv_istore (lv' := [(4, .int x9), (0, .ref (ad 48 0)), (1, .int a1), (2, .int x2), (3, .int v3)]) hx hb d_Mo_readRuns_60 hl (by decide) rfl (fun ls hl => ?_)
            refine lv_iload hx hb d_Mo_readRuns_62 (lv_at hl 0 rfl) ?_
            refine lv_if_ge (tgt := 70) hx hb d_Mo_readRuns_64 (by decide) (fun c64 => ?_) (fun c64 => ?_)
            · have h1 := it h1 c64
              refine lv_aload_n hx hb d_Mo_readRuns_70 rfl (lv_at hl 1 rfl) ?_
              refine st_get hx hb hg hown hK hH (f := 48) (i := 0) hd_48 rfl rfl u_Mo 3 (by decide) (hg _ wd_431) (v := .ref (ad 50 0)) rfl d_Mo_readRuns_71 ?_
              refine lv_sipush (v := 768) hx hb d_Mo_readRuns_74 (by decide) ?_
              refine lv_iload_n hx hb d_Mo_readRuns_77 rfl (lv_at hl 4 rfl) ?_
              obtain ⟨qc, hc78, h1⟩ := b2_some h1
              obtain ⟨σ10, x11⟩ := qc
              have h1 := b2_at h1
              refine st_Si (As := [.int v3]) (rest := [.int 768, .ref (ad 50 0)]) ⟨hx, hb, hml, hown, hg⟩ (c_Mo_orderOf l D aC A ad n _ v3 _ hc78) (cwGS hg wd_523 wd_524 wd_525 wd_428 yd_Mo_orderOf ⟨Nat.le_of_ble_eq_true rfl, Nat.le_of_ble_eq_true rfl⟩) hK hH hS hZ rfl hl.1 rfl (Nat.le_of_ble_eq_true rfl) d_Mo_readRuns_78 ⟨Nat.zero_le _, Nat.zero_le _⟩ (fun H locs hH hS => ?_)
              refine lv_iadd hx hb d_Mo_readRuns_81 ?_
              refine lv_iload hx hb d_Mo_readRuns_82 (lv_at hl 0 rfl) ?_
              obtain ⟨g84, h1⟩ := gd_some h1
              refine st_iast hx hb hK hH hS (f := 50) (i := 0) hd_50 rfl g84 d_Mo_readRuns_84 (fun σ12 H locs eσ12 hH hS => ?_)
              have h1 := nm_at eσ12 h1
              obtain ⟨x13, ex13⟩ : ∃ y : Int32, y = v3 + 1 := ⟨_, rfl⟩
              have h1 := nm_at ex13 h1
              refine lv_iinc (v := x13) (lv' := [(3, .int x13), (4, .int x9), (0, .ref (ad 48 0)), (1, .int a1), (2, .int x2)]) hx hb d_Mo_readRuns_85 hl (k := 4) rfl (by rw [ex13]; rfl) (by decide) rfl (fun ls hl => ?_)
              refine lv_goto (tgt := 48) hx hb d_Mo_readRuns_88 (by decide) ?_
              cases h1
              exact ih1 σ12 x13 _ _ ls hH hS (lv_sub hl [2, 3, 4, 0] rfl) hk1
            · have h1 := ie h1 c64
              refine lv_iload hx hb d_Mo_readRuns_67 (lv_at hl 0 rfl) ?_
              cases h1
              have hk1 := Option.some.inj hk1
              subst hk1
              have h := bs2_r h
              cases h
              rw [← hQ0]
              exact W.iret hx hb hr (fun t ht hW => ⟨⟨_, (), rfl, rfl, by dsimp only; rw [ht]; exact hH⟩, hS.F ht⟩) hS.2.2 d_Mo_readRuns_69
      obtain ⟨k1, hq1⟩ := lpE_some hq1
      exact loop1 k1 σ7 0 _ _ ls hH hS (lv_sub hl [1, 2, 3, 0] rfl) hq1
    have loop1 : ∀ (k : Nat) (σ : St) (v3 : Int32) (H : Heap) (locs : List Loc) (ls : Array Slot), Hold D aC A ad n σ H → va_S A s.heap H locs → lv_has ls 10 [(0, .ref (ad 48 0)), (1, .int a1), (2, .int x2), (3, .int v3)] → lp (fun q => lb_Mo_readRuns_14 a1 x2 q.1 q.2) k (σ, v3) = some q1 → W p l e (headSpec w_Mo_readRuns rm_Mo_readRuns).room s m args below meth c H locs 0 0 Q0 (F0 m 14 ls []) := by
      intro k
      induction k with
      | zero => intro σ v3 H locs ls hH hS hl hlp; exact absurd hlp (lp_zero _ _ _)
      | succ k ih1 =>
        intro σ v3 H locs ls hH hS hl hlp
        obtain ⟨z1, h1, hk1⟩ := lp_succ hlp
        have h1 : lb_Mo_readRuns_14 a1 x2 σ v3 = some z1 := h1
        unfold lb_Mo_readRuns_14 at h1
        refine lv_iload_n hx hb d_Mo_readRuns_14 rfl (lv_at hl 3 rfl) ?_
        refine lv_bipush (v := 64) hx hb d_Mo_readRuns_15 (by decide) ?_
        refine lv_icmp_ge (tgt := 37) hx hb d_Mo_readRuns_17 (by decide) (fun c17 => ?_) (fun c17 => ?_)
        · have h1 := it h1 c17
          cases h1
          exact K1 σ v3 _ _ ls (Option.some.inj hk1).symm hH hS (lv_sub hl [0, 1, 2, 3] rfl)
        · have h1 := ie h1 c17
          refine lv_aload_n hx hb d_Mo_readRuns_20 rfl (lv_at hl 0 rfl) ?_
          refine st_get hx hb hg hown hK hH (f := 48) (i := 0) hd_48 rfl rfl u_Mo 3 (by decide) (hg _ wd_431) (v := .ref (ad 50 0)) rfl d_Mo_readRuns_21 ?_
          refine lv_sipush (v := 768) hx hb d_Mo_readRuns_24 (by decide) ?_
          refine lv_iload_n hx hb d_Mo_readRuns_27 rfl (lv_at hl 3 rfl) ?_
          refine lv_iadd hx hb d_Mo_readRuns_28 ?_
          refine lv_iconst (v := 0) hx hb d_Mo_readRuns_29 (by decide) ?_
          obtain ⟨g30, h1⟩ := gd_some h1
          refine st_iast hx hb hK hH hS (f := 50) (i := 0) hd_50 rfl g30 d_Mo_readRuns_30 (fun σ3 H locs eσ3 hH hS => ?_)
          have h1 := nm_at eσ3 h1
          obtain ⟨x4, ex4⟩ : ∃ y : Int32, y = v3 + 1 := ⟨_, rfl⟩
          have h1 := nm_at ex4 h1
          refine lv_iinc (v := x4) (lv' := [(3, .int x4), (0, .ref (ad 48 0)), (1, .int a1), (2, .int x2)]) hx hb d_Mo_readRuns_31 hl (k := 3) rfl (by rw [ex4]; rfl) (by decide) rfl (fun ls hl => ?_)
          refine lv_goto (tgt := 14) hx hb d_Mo_readRuns_34 (by decide) ?_
          cases h1
          exact ih1 σ3 x4 _ _ ls hH hS (lv_sub hl [1, 2, 3, 0] rfl) hk1
    obtain ⟨k1, hq1⟩ := lpE_some hq1
    exact loop1 k1 σ1 0 _ _ ls hH hS (lv_sub hl [2, 3, 1, 0] rfl) hq1
  · have h := ie h c7
    refine lv_iload_n hx hb d_Mo_readRuns_10 rfl (lv_at hl 0 rfl) ?_
    cases h
    rw [← hQ0]
    exact W.iret hx hb hr (fun t ht hW => ⟨⟨_, (), rfl, rfl, by dsimp only; rw [ht]; exact hH⟩, hS.F ht⟩) hS.2.2 d_Mo_readRuns_11
set_option maxHeartbeats 4000000 in
set_option maxRecDepth 100000 in
theorem c_Mo_unpack (l : Launch) (D : va_G) (aC : Nat → ClassId) (A : Nat → Prop) (ad : Nat → Nat → Nat) (n : Nat) (σ : St) (a1 : Int32) (a2 : Int32) (o : St × Int32) (h : f_Mo_unpack σ a1 a2 = some o) : Met l y_Mo_unpack w_Mo_unpack rm_Mo_unpack (va_Pc [.ref (ad 48 0), .int a1, .int a2] (Pre D aC A ad n σ)) (va_Qi (fun r (_ : Unit) => r = o.2) (fun _ t => Hold D aC A ad n o.1 t.heap) A) 0 0 A := by
  refine Met.ofW (cc := prog_13_method_41_code) (maxL := 7) (ret := (some .int)) (by decide) rfl ?_
  intro p e s m args below meth c s₁ B hml hv
  obtain ⟨hargs, hH, hK, hZ⟩ := hv
  have hx := B.exec
  have hb := B.bytes
  have hr := B.returns
  have hts := atoms_spec (ws := w_Mo_unpack) B.pre
  have hg : ∀ w ∈ gW, w.before args s = true := fun w h => hts w (List.mem_cons_of_mem _ h)
  have hown : s.vm.findClass "PrefixCodesModel" = some m.cls := findClass_of_methodNamed B.named
  have hlocks := B.notSynchronized
  have hS : va_S A s.heap s.heap [] := va_S.rf
  have hl := lv_entry ([.ref (ad 48 0), .int a1, .int a2]) (n := 7) (Nat.le_of_ble_eq_true rfl)
  rw [show entryFrame m args 7 = entryFrame m (([.ref (ad 48 0), .int a1, .int a2] : List Value).toArray) 7 by rw [hargs], lg_entry_eq]
  generalize (lg_sl ([.ref (ad 48 0), .int a1, .int a2]) ++ List.replicate (7 - (lg_sl ([.ref (ad 48 0), .int a1, .int a2])).length) Slot.unset).toArray = ls at hl ⊢
  have hl : lv_has ls 7 [(0, .ref (ad 48 0)), (1, .int a1), (2, .int a2)] := hl
  generalize hQ0 : MQ below (va_Qi (fun r (_ : Unit) => r = o.2) (fun _ t => Hold D aC A ad n o.1 t.heap) A) args s 0 0 A = Q0
  unfold f_Mo_unpack at h
  have J58 : ∀ (σ : St) (p1 : Int32) (p3 : Int32) (k0 : Int32) (H : Heap) (locs : List Loc) (ls : Array Slot), Hold D aC A ad n σ H → va_S A s.heap H locs → lv_has ls 7 [(0, .ref (ad 48 0)), (1, .int p1), (3, .int p3)] → jn_Mo_unpack_58 σ p1 p3 k0 = some o → W p l e (headSpec w_Mo_unpack rm_Mo_unpack).room s m args below meth c H locs 0 0 Q0 (F0 m 58 ls [.int k0]) := by
    intro σ p1 p3 k0  H locs ls hH hS hl h
    unfold jn_Mo_unpack_58 at h
    refine lv_istore (lv' := [(4, .int k0), (0, .ref (ad 48 0)), (1, .int p1), (3, .int p3)]) hx hb d_Mo_unpack_58 hl (by decide) rfl (fun ls hl => ?_)
    refine lv_iload hx hb d_Mo_unpack_60 (lv_at hl 0 rfl) ?_
    refine lv_if_ge (tgt := 68) hx hb d_Mo_unpack_62 (by decide) (fun c62 => ?_) (fun c62 => ?_)
    · have h := it h c62
      refine lv_aload_n hx hb d_Mo_unpack_68 rfl (lv_at hl 1 rfl) ?_
      refine st_get hx hb hg hown hK hH (f := 48) (i := 0) hd_48 rfl rfl u_Mo 1 (by decide) (hg _ wd_424) (v := .int (σ.1 48 0 1)) rfl d_Mo_unpack_69 ?_
      refine lv_bipush (v := 12) hx hb d_Mo_unpack_72 (by decide) ?_
      refine lv_icmp_ne (tgt := 85) hx hb d_Mo_unpack_74 (by decide) (fun c74 => ?_) (fun c74 => ?_)
      · have h := ie h c74
        refine lv_aload_n hx hb d_Mo_unpack_85 rfl (lv_at hl 1 rfl) ?_
        refine lv_iload_n hx hb d_Mo_unpack_86 rfl (lv_at hl 2 rfl) ?_
        obtain ⟨qc, hc87, h⟩ := b2_some h
        obtain ⟨σ4, x5⟩ := qc
        have h := b2_at h
        refine st_Vi (As := [.int p1]) (rest := []) ⟨hx, hb, hml, hown, hg⟩ (c_Mo_made l D aC A ad n _ p1 _ hc87) (cwG hg wd_432 wd_433 wd_434 wd_435 wd_428 yd_Mo_made ⟨Nat.le_of_ble_eq_true rfl, Nat.le_of_ble_eq_true rfl⟩) hK hH hS hZ hd_48 rfl rfl rfl hl.1 rfl (Nat.le_of_ble_eq_true rfl) d_Mo_unpack_87 ⟨Nat.zero_le _, Nat.zero_le _⟩ (fun H locs hH hS => ?_)
        refine lv_istore (lv' := [(5, .int x5), (4, .int k0), (0, .ref (ad 48 0)), (1, .int p1), (3, .int p3)]) hx hb d_Mo_unpack_90 hl (by decide) rfl (fun ls hl => ?_)
        refine lv_iconst (v := 0) hx hb d_Mo_unpack_92 (by decide) ?_
        refine lv_istore (lv' := [(6, .int 0), (5, .int x5), (4, .int k0), (0, .ref (ad 48 0)), (1, .int p1), (3, .int p3)]) hx hb d_Mo_unpack_93 hl (by decide) rfl (fun ls hl => ?_)
        obtain ⟨q1, hq1, h⟩ := b2_some h
        have K1 : ∀ (σ8 : St) (x9 : Int32) (H : Heap) (locs : List Loc) (ls : Array Slot), q1 = (σ8, x9) → Hold D aC A ad n σ8 H → va_S A s.heap H locs → lv_has ls 7 [(0, .ref (ad 48 0)), (1, .int p1), (5, .int x5), (6, .int x9)] → W p l e (headSpec w_Mo_unpack rm_Mo_unpack).room s m args below meth c H locs 0 0 Q0 (F0 m 127 ls []) := by
          intro σ8 x9 H locs ls eq1 hH hS hl
          subst eq1
          have h := b2_at h
          refine lv_iload hx hb d_Mo_unpack_127 (lv_at hl 2 rfl) ?_
          cases h
          rw [← hQ0]
          exact W.iret hx hb hr (fun t ht hW => ⟨⟨_, (), rfl, rfl, by dsimp only; rw [ht]; exact hH⟩, hS.F ht⟩) hS.2.2 d_Mo_unpack_129
        have loop1 : ∀ (k : Nat) (σ : St) (v6 : Int32) (H : Heap) (locs : List Loc) (ls : Array Slot), Hold D aC A ad n σ H → va_S A s.heap H locs → lv_has ls 7 [(0, .ref (ad 48 0)), (1, .int p1), (5, .int x5), (6, .int v6)] → lp (fun q => lb_Mo_unpack_95 p1 x5 q.1 q.2) k (σ, v6) = some q1 → W p l e (headSpec w_Mo_unpack rm_Mo_unpack).room s m args below meth c H locs 0 0 Q0 (F0 m 95 ls []) := by
          intro k
          induction k with
          | zero => intro σ v6 H locs ls hH hS hl hlp; exact absurd hlp (lp_zero _ _ _)
          | succ k ih1 =>
            intro σ v6 H locs ls hH hS hl hlp
            obtain ⟨z1, h1, hk1⟩ := lp_succ hlp
            have h1 : lb_Mo_unpack_95 p1 x5 σ v6 = some z1 := h1
            unfold lb_Mo_unpack_95 at h1
            refine lv_iload hx hb d_Mo_unpack_95 (lv_at hl 3 rfl) ?_
            refine lv_iload_n hx hb d_Mo_unpack_97 rfl (lv_at hl 1 rfl) ?_
            refine lv_icmp_ge (tgt := 127) hx hb d_Mo_unpack_98 (by decide) (fun c98 => ?_) (fun c98 => ?_)
            · have h1 := it h1 c98
              cases h1
              exact K1 σ v6 _ _ ls (Option.some.inj hk1).symm hH hS (lv_sub hl [0, 1, 2, 3] rfl)
            · have h1 := ie h1 c98
              refine lv_aload_n hx hb d_Mo_unpack_101 rfl (lv_at hl 0 rfl) ?_
              refine st_get hx hb hg hown hK hH (f := 48) (i := 0) hd_48 rfl rfl u_Mo 3 (by decide) (hg _ wd_431) (v := .ref (ad 50 0)) rfl d_Mo_unpack_102 ?_
              refine lv_bipush (v := 64) hx hb d_Mo_unpack_105 (by decide) ?_
              refine lv_iload hx hb d_Mo_unpack_107 (lv_at hl 2 rfl) ?_
              refine lv_imul hx hb d_Mo_unpack_109 ?_
              refine lv_iload hx hb d_Mo_unpack_110 (lv_at hl 3 rfl) ?_
              refine lv_iadd hx hb d_Mo_unpack_112 ?_
              refine lv_aload_n hx hb d_Mo_unpack_113 rfl (lv_at hl 0 rfl) ?_
              refine st_get hx hb hg hown hK hH (f := 48) (i := 0) hd_48 rfl rfl u_Mo 16 (by decide) (hg _ wd_534) (v := .ref (ad 60 0)) rfl d_Mo_unpack_114 ?_
              refine lv_iload hx hb d_Mo_unpack_117 (lv_at hl 3 rfl) ?_
              obtain ⟨g119, h1⟩ := gd_some h1
              refine st_iald hx hb hK hH (f := 60) (i := 0) hd_60 rfl g119 d_Mo_unpack_119 ?_
              obtain ⟨g120, h1⟩ := gd_some h1
              refine st_iast hx hb hK hH hS (f := 50) (i := 0) hd_50 rfl g120 d_Mo_unpack_120 (fun σ6 H locs eσ6 hH hS => ?_)
              have h1 := nm_at eσ6 h1
              obtain ⟨x7, ex7⟩ : ∃ y : Int32, y = v6 + 1 := ⟨_, rfl⟩
              have h1 := nm_at ex7 h1
              refine lv_iinc (v := x7) (lv' := [(6, .int x7), (0, .ref (ad 48 0)), (1, .int p1), (5, .int x5)]) hx hb d_Mo_unpack_121 hl (k := 3) rfl (by rw [ex7]; rfl) (by decide) rfl (fun ls hl => ?_)
              refine lv_goto (tgt := 95) hx hb d_Mo_unpack_124 (by decide) ?_
              cases h1
              exact ih1 σ6 x7 _ _ ls hH hS (lv_sub hl [1, 2, 3, 0] rfl) hk1
        obtain ⟨k1, hq1⟩ := lpE_some hq1
        exact loop1 k1 σ4 0 _ _ ls hH hS (lv_sub hl [3, 4, 1, 0] rfl) hq1
      · have h := it h c74
        refine lv_aload_n hx hb d_Mo_unpack_77 rfl (lv_at hl 1 rfl) ?_
        refine lv_iload_n hx hb d_Mo_unpack_78 rfl (lv_at hl 3 rfl) ?_
        refine st_put hx hb hg hown hK hH hS (f := 48) (i := 0) hd_48 rfl rfl u_Mo t_Mo t_Mo_ok n_Mo 11 (by decide) (hg _ wd_490) rfl rfl rfl d_Mo_unpack_79 (fun σ10 H locs eσ10 hH hS => ?_)
        have h := nm_at eσ10 h
        refine lv_bipush (v := (-106)) hx hb d_Mo_unpack_82 (by decide) ?_
        cases h
        rw [← hQ0]
        exact W.iret hx hb hr (fun t ht hW => ⟨⟨_, (), rfl, rfl, by dsimp only; rw [ht]; exact hH⟩, hS.F ht⟩) hS.2.2 d_Mo_unpack_84
    · have h := ie h c62
      refine lv_iload hx hb d_Mo_unpack_65 (lv_at hl 0 rfl) ?_
      cases h
      rw [← hQ0]
      exact W.iret hx hb hr (fun t ht hW => ⟨⟨_, (), rfl, rfl, by dsimp only; rw [ht]; exact hH⟩, hS.F ht⟩) hS.2.2 d_Mo_unpack_67
  refine lv_iload_n hx hb d_Mo_unpack_0 rfl (lv_at hl 1 rfl) ?_
  refine lv_iconst (v := 1) hx hb d_Mo_unpack_1 (by decide) ?_
  refine lv_icmp_lt (tgt := 20) hx hb d_Mo_unpack_2 (by decide) (fun c2 => ?_) (fun c2 => ?_)
  · have h := it h c2
    refine lv_bipush (v := (-102)) hx hb d_Mo_unpack_20 (by decide) ?_
    cases h
    rw [← hQ0]
    exact W.iret hx hb hr (fun t ht hW => ⟨⟨_, (), rfl, rfl, by dsimp only; rw [ht]; exact hH⟩, hS.F ht⟩) hS.2.2 d_Mo_unpack_22
  · have h := ie h c2
    refine lv_iload_n hx hb d_Mo_unpack_5 rfl (lv_at hl 1 rfl) ?_
    refine lv_bipush (v := 64) hx hb d_Mo_unpack_6 (by decide) ?_
    refine lv_icmp_gt (tgt := 20) hx hb d_Mo_unpack_8 (by decide) (fun c8 => ?_) (fun c8 => ?_)
    · have h := it h c8
      refine lv_bipush (v := (-102)) hx hb d_Mo_unpack_20 (by decide) ?_
      cases h
      rw [← hQ0]
      exact W.iret hx hb hr (fun t ht hW => ⟨⟨_, (), rfl, rfl, by dsimp only; rw [ht]; exact hH⟩, hS.F ht⟩) hS.2.2 d_Mo_unpack_22
    · have h := ie h c8
      refine lv_iload_n hx hb d_Mo_unpack_11 rfl (lv_at hl 2 rfl) ?_
      refine lv_if_lt (tgt := 20) hx hb d_Mo_unpack_12 (by decide) (fun c12 => ?_) (fun c12 => ?_)
      · have h := it h c12
        refine lv_bipush (v := (-102)) hx hb d_Mo_unpack_20 (by decide) ?_
        cases h
        rw [← hQ0]
        exact W.iret hx hb hr (fun t ht hW => ⟨⟨_, (), rfl, rfl, by dsimp only; rw [ht]; exact hH⟩, hS.F ht⟩) hS.2.2 d_Mo_unpack_22
      · have h := ie h c12
        refine lv_iload_n hx hb d_Mo_unpack_15 rfl (lv_at hl 2 rfl) ?_
        refine lv_iconst (v := 2) hx hb d_Mo_unpack_16 (by decide) ?_
        refine lv_icmp_le (tgt := 23) hx hb d_Mo_unpack_17 (by decide) (fun c17 => ?_) (fun c17 => ?_)
        · have h := it h c17
          refine lv_aload_n hx hb d_Mo_unpack_23 rfl (lv_at hl 0 rfl) ?_
          refine st_get hx hb hg hown hK hH (f := 48) (i := 0) hd_48 rfl rfl u_Mo 11 (by decide) (hg _ wd_490) (v := .int (σ.1 48 0 11)) rfl d_Mo_unpack_24 ?_
          refine lv_topi (fun x1 ex1 => ?_)
          have h := nm_at ex1 h
          refine lv_istore_n (lv' := [(3, .int x1), (0, .ref (ad 48 0)), (1, .int a1), (2, .int a2)]) hx hb d_Mo_unpack_27 rfl hl (by decide) rfl (fun ls hl => ?_)
          refine lv_iload_n hx hb d_Mo_unpack_28 rfl (lv_at hl 3 rfl) ?_
          refine lv_if_ne (tgt := 40) hx hb d_Mo_unpack_29 (by decide) (fun c29 => ?_) (fun c29 => ?_)
          · have h := ie h c29
            refine lv_iload_n hx hb d_Mo_unpack_40 rfl (lv_at hl 3 rfl) ?_
            refine lv_iconst (v := 1) hx hb d_Mo_unpack_41 (by decide) ?_
            refine lv_icmp_ne (tgt := 53) hx hb d_Mo_unpack_42 (by decide) (fun c42 => ?_) (fun c42 => ?_)
            · have h := ie h c42
              refine lv_aload_n hx hb d_Mo_unpack_53 rfl (lv_at hl 1 rfl) ?_
              refine lv_iload_n hx hb d_Mo_unpack_54 rfl (lv_at hl 2 rfl) ?_
              obtain ⟨qc, hc55, h⟩ := b2_some h
              obtain ⟨σ2, x3⟩ := qc
              have h := b2_at h
              refine st_Vi (As := [.int a1]) (rest := []) ⟨hx, hb, hml, hown, hg⟩ (c_Mo_readRuns l D aC A ad n _ a1 _ hc55) (cwG hg wd_539 wd_540 wd_541 wd_542 wd_428 yd_Mo_readRuns ⟨Nat.le_of_ble_eq_true rfl, Nat.le_of_ble_eq_true rfl⟩) hK hH hS hZ hd_48 rfl rfl rfl hl.1 rfl (Nat.le_of_ble_eq_true rfl) d_Mo_unpack_55 ⟨Nat.zero_le _, Nat.zero_le _⟩ (fun H locs hH hS => ?_)
              exact J58 σ2 a1 x1 x3 _ _ ls hH hS (lv_sub hl [1, 2, 0] rfl) h
            · have h := it h c42
              refine lv_aload_n hx hb d_Mo_unpack_45 rfl (lv_at hl 1 rfl) ?_
              refine lv_iload_n hx hb d_Mo_unpack_46 rfl (lv_at hl 2 rfl) ?_
              obtain ⟨qc, hc47, h⟩ := b2_some h
              obtain ⟨σ11, x12⟩ := qc
              have h := b2_at h
              refine st_Vi (As := [.int a1]) (rest := []) ⟨hx, hb, hml, hown, hg⟩ (c_Mo_steps l D aC A ad n _ a1 _ hc47) (cwG hg wd_543 wd_544 wd_545 wd_546 wd_428 yd_Mo_steps ⟨Nat.le_of_ble_eq_true rfl, Nat.le_of_ble_eq_true rfl⟩) hK hH hS hZ hd_48 rfl rfl rfl hl.1 rfl (Nat.le_of_ble_eq_true rfl) d_Mo_unpack_47 ⟨Nat.zero_le _, Nat.zero_le _⟩ (fun H locs hH hS => ?_)
              refine lv_goto (tgt := 58) hx hb d_Mo_unpack_50 (by decide) ?_
              exact J58 σ11 a1 x1 x12 _ _ ls hH hS (lv_sub hl [1, 2, 0] rfl) h
          · have h := it h c29
            refine lv_aload_n hx hb d_Mo_unpack_32 rfl (lv_at hl 1 rfl) ?_
            refine lv_iload_n hx hb d_Mo_unpack_33 rfl (lv_at hl 2 rfl) ?_
            obtain ⟨qc, hc34, h⟩ := b2_some h
            obtain ⟨σ13, x14⟩ := qc
            have h := b2_at h
            refine st_Vi (As := [.int a1]) (rest := []) ⟨hx, hb, hml, hown, hg⟩ (c_Mo_plain l D aC A ad n _ a1 _ hc34) (cwG hg wd_547 wd_548 wd_549 wd_550 wd_428 yd_Mo_plain ⟨Nat.le_of_ble_eq_true rfl, Nat.le_of_ble_eq_true rfl⟩) hK hH hS hZ hd_48 rfl rfl rfl hl.1 rfl (Nat.le_of_ble_eq_true rfl) d_Mo_unpack_34 ⟨Nat.zero_le _, Nat.zero_le _⟩ (fun H locs hH hS => ?_)
            refine lv_goto (tgt := 58) hx hb d_Mo_unpack_37 (by decide) ?_
            exact J58 σ13 a1 x1 x14 _ _ ls hH hS (lv_sub hl [1, 2, 0] rfl) h
        · have h := ie h c17
          refine lv_bipush (v := (-102)) hx hb d_Mo_unpack_20 (by decide) ?_
          cases h
          rw [← hQ0]
          exact W.iret hx hb hr (fun t ht hW => ⟨⟨_, (), rfl, rfl, by dsimp only; rw [ht]; exact hH⟩, hS.F ht⟩) hS.2.2 d_Mo_unpack_22
set_option maxHeartbeats 4000000 in
set_option maxRecDepth 100000 in
theorem c_Mo_putEntry (l : Launch) (D : va_G) (aC : Nat → ClassId) (A : Nat → Prop) (ad : Nat → Nat → Nat) (n : Nat) (σ : St) (a1 : Int32) (a2 : Int32) (a3 : Int32) (a4 : Int32) (o : St) (h : f_Mo_putEntry σ a1 a2 a3 a4 = some o) : Met l y_Mo_putEntry w_Mo_putEntry rm_Mo_putEntry (va_Pc [.ref (ad 48 0), .int a1, .int a2, .int a3, .int a4] (Pre D aC A ad n σ)) (va_Qv (fun (_ : Unit) => True) (fun _ t => Hold D aC A ad n o t.heap) A) 0 0 A := by
  refine Met.ofW (cc := prog_13_method_47_code) (maxL := 5) (ret := none) (by decide) rfl ?_
  intro p e s m args below meth c s₁ B hml hv
  obtain ⟨hargs, hH, hK, hZ⟩ := hv
  have hx := B.exec
  have hb := B.bytes
  have hr := B.returns
  have hts := atoms_spec (ws := w_Mo_putEntry) B.pre
  have hg : ∀ w ∈ gW, w.before args s = true := fun w h => hts w (List.mem_cons_of_mem _ h)
  have hown : s.vm.findClass "PrefixCodesModel" = some m.cls := findClass_of_methodNamed B.named
  have hlocks := B.notSynchronized
  have hS : va_S A s.heap s.heap [] := va_S.rf
  have hl := lv_entry ([.ref (ad 48 0), .int a1, .int a2, .int a3, .int a4]) (n := 5) (Nat.le_of_ble_eq_true rfl)
  rw [show entryFrame m args 5 = entryFrame m (([.ref (ad 48 0), .int a1, .int a2, .int a3, .int a4] : List Value).toArray) 5 by rw [hargs], lg_entry_eq]
  generalize (lg_sl ([.ref (ad 48 0), .int a1, .int a2, .int a3, .int a4]) ++ List.replicate (5 - (lg_sl ([.ref (ad 48 0), .int a1, .int a2, .int a3, .int a4])).length) Slot.unset).toArray = ls at hl ⊢
  have hl : lv_has ls 5 [(0, .ref (ad 48 0)), (1, .int a1), (2, .int a2), (3, .int a3), (4, .int a4)] := hl
  generalize hQ0 : MQ below (va_Qv (fun (_ : Unit) => True) (fun _ t => Hold D aC A ad n o t.heap) A) args s 0 0 A = Q0
  unfold f_Mo_putEntry at h
  refine lv_aload_n hx hb d_Mo_putEntry_0 rfl (lv_at hl 0 rfl) ?_
  refine st_get hx hb hg hown hK hH (f := 48) (i := 0) hd_48 rfl rfl u_Mo 17 (by decide) (hg _ wd_551) (v := .ref (ad 61 0)) rfl d_Mo_putEntry_1 ?_
  refine lv_iload_n hx hb d_Mo_putEntry_4 rfl (lv_at hl 1 rfl) ?_
  refine lv_iload_n hx hb d_Mo_putEntry_5 rfl (lv_at hl 2 rfl) ?_
  refine lv_i2b hx hb d_Mo_putEntry_6 rfl ?_
  obtain ⟨g7, h⟩ := gd_some h
  refine st_bast hx hb hK hH hS (f := 61) (i := 0) hd_61 rfl g7 d_Mo_putEntry_7 (fun σ1 H locs eσ1 hH hS => ?_)
  have h := nm_at eσ1 h
  refine lv_aload_n hx hb d_Mo_putEntry_8 rfl (lv_at hl 0 rfl) ?_
  refine st_get hx hb hg hown hK hH (f := 48) (i := 0) hd_48 rfl rfl u_Mo 18 (by decide) (hg _ wd_552) (v := .ref (ad 62 0)) rfl d_Mo_putEntry_9 ?_
  refine lv_iload_n hx hb d_Mo_putEntry_12 rfl (lv_at hl 1 rfl) ?_
  refine lv_iload_n hx hb d_Mo_putEntry_13 rfl (lv_at hl 3 rfl) ?_
  obtain ⟨g14, h⟩ := gd_some h
  refine st_iast hx hb hK hH hS (f := 62) (i := 0) hd_62 rfl g14 d_Mo_putEntry_14 (fun σ2 H locs eσ2 hH hS => ?_)
  have h := nm_at eσ2 h
  refine lv_aload_n hx hb d_Mo_putEntry_15 rfl (lv_at hl 0 rfl) ?_
  refine st_get hx hb hg hown hK hH (f := 48) (i := 0) hd_48 rfl rfl u_Mo 19 (by decide) (hg _ wd_553) (v := .ref (ad 63 0)) rfl d_Mo_putEntry_16 ?_
  refine lv_iload_n hx hb d_Mo_putEntry_19 rfl (lv_at hl 1 rfl) ?_
  refine lv_iload hx hb d_Mo_putEntry_20 (lv_at hl 4 rfl) ?_
  obtain ⟨g22, h⟩ := gd_some h
  refine st_iast hx hb hK hH hS (f := 63) (i := 0) hd_63 rfl g22 d_Mo_putEntry_22 (fun σ3 H locs eσ3 hH hS => ?_)
  have h := nm_at eσ3 h
  cases h
  rw [← hQ0]
  exact W.vret hx hb hr (fun t ht hW => ⟨⟨(), rfl, trivial, by dsimp only; rw [ht]; exact hH⟩, hS.F ht⟩) hS.2.2 d_Mo_putEntry_23
set_option maxHeartbeats 4000000 in
set_option maxRecDepth 100000 in
theorem c_Mo_clearEntries (l : Launch) (D : va_G) (aC : Nat → ClassId) (A : Nat → Prop) (ad : Nat → Nat → Nat) (n : Nat) (σ : St) (a1 : Int32) (a2 : Int32) (o : St) (h : f_Mo_clearEntries σ a1 a2 = some o) : Met l y_Mo_clearEntries w_Mo_clearEntries rm_Mo_clearEntries (va_Pc [.ref (ad 48 0), .int a1, .int a2] (Pre D aC A ad n σ)) (va_Qv (fun (_ : Unit) => True) (fun _ t => Hold D aC A ad n o t.heap) A) 0 0 A := by
  refine Met.ofW (cc := prog_13_method_46_code) (maxL := 4) (ret := none) (by decide) rfl ?_
  intro p e s m args below meth c s₁ B hml hv
  obtain ⟨hargs, hH, hK, hZ⟩ := hv
  have hx := B.exec
  have hb := B.bytes
  have hr := B.returns
  have hts := atoms_spec (ws := w_Mo_clearEntries) B.pre
  have hg : ∀ w ∈ gW, w.before args s = true := fun w h => hts w (List.mem_cons_of_mem _ h)
  have hown : s.vm.findClass "PrefixCodesModel" = some m.cls := findClass_of_methodNamed B.named
  have hlocks := B.notSynchronized
  have hS : va_S A s.heap s.heap [] := va_S.rf
  have hl := lv_entry ([.ref (ad 48 0), .int a1, .int a2]) (n := 4) (Nat.le_of_ble_eq_true rfl)
  rw [show entryFrame m args 4 = entryFrame m (([.ref (ad 48 0), .int a1, .int a2] : List Value).toArray) 4 by rw [hargs], lg_entry_eq]
  generalize (lg_sl ([.ref (ad 48 0), .int a1, .int a2]) ++ List.replicate (4 - (lg_sl ([.ref (ad 48 0), .int a1, .int a2])).length) Slot.unset).toArray = ls at hl ⊢
  have hl : lv_has ls 4 [(0, .ref (ad 48 0)), (1, .int a1), (2, .int a2)] := hl
  generalize hQ0 : MQ below (va_Qv (fun (_ : Unit) => True) (fun _ t => Hold D aC A ad n o t.heap) A) args s 0 0 A = Q0
  unfold f_Mo_clearEntries at h
  refine lv_iload_n hx hb d_Mo_clearEntries_0 rfl (lv_at hl 1 rfl) ?_
  refine lv_istore_n (lv' := [(3, .int a1), (0, .ref (ad 48 0)), (1, .int a1), (2, .int a2)]) hx hb d_Mo_clearEntries_1 rfl hl (by decide) rfl (fun ls hl => ?_)
  obtain ⟨q1, hq1, h⟩ := b2_some h
  have K1 : ∀ (σ3 : St) (x4 : Int32) (H : Heap) (locs : List Loc) (ls : Array Slot), q1 = (σ3, x4) → Hold D aC A ad n σ3 H → va_S A s.heap H locs → lv_has ls 4 [(0, .ref (ad 48 0)), (1, .int a1), (2, .int a2), (3, .int x4)] → W p l e (headSpec w_Mo_clearEntries rm_Mo_clearEntries).room s m args below meth c H locs 0 0 Q0 (F0 m 23 ls []) := by
    intro σ3 x4 H locs ls eq1 hH hS hl
    subst eq1
    have h := b2_at h
    cases h
    rw [← hQ0]
    exact W.vret hx hb hr (fun t ht hW => ⟨⟨(), rfl, trivial, by dsimp only; rw [ht]; exact hH⟩, hS.F ht⟩) hS.2.2 d_Mo_clearEntries_23
  have loop1 : ∀ (k : Nat) (σ : St) (v3 : Int32) (H : Heap) (locs : List Loc) (ls : Array Slot), Hold D aC A ad n σ H → va_S A s.heap H locs → lv_has ls 4 [(0, .ref (ad 48 0)), (1, .int a1), (2, .int a2), (3, .int v3)] → lp (fun q => lb_Mo_clearEntries_2 a1 a2 q.1 q.2) k (σ, v3) = some q1 → W p l e (headSpec w_Mo_clearEntries rm_Mo_clearEntries).room s m args below meth c H locs 0 0 Q0 (F0 m 2 ls []) := by
    intro k
    induction k with
    | zero => intro σ v3 H locs ls hH hS hl hlp; exact absurd hlp (lp_zero _ _ _)
    | succ k ih1 =>
      intro σ v3 H locs ls hH hS hl hlp
      obtain ⟨z1, h1, hk1⟩ := lp_succ hlp
      have h1 : lb_Mo_clearEntries_2 a1 a2 σ v3 = some z1 := h1
      unfold lb_Mo_clearEntries_2 at h1
      refine lv_iload_n hx hb d_Mo_clearEntries_2 rfl (lv_at hl 3 rfl) ?_
      refine lv_iload_n hx hb d_Mo_clearEntries_3 rfl (lv_at hl 1 rfl) ?_
      refine lv_iload_n hx hb d_Mo_clearEntries_4 rfl (lv_at hl 2 rfl) ?_
      refine lv_iadd hx hb d_Mo_clearEntries_5 ?_
      refine lv_icmp_ge (tgt := 23) hx hb d_Mo_clearEntries_6 (by decide) (fun c6 => ?_) (fun c6 => ?_)
      · have h1 := it h1 c6
        cases h1
        exact K1 σ v3 _ _ ls (Option.some.inj hk1).symm hH hS (lv_sub hl [0, 1, 2, 3] rfl)
      · have h1 := ie h1 c6
        refine lv_aload_n hx hb d_Mo_clearEntries_9 rfl (lv_at hl 0 rfl) ?_
        refine lv_iload_n hx hb d_Mo_clearEntries_10 rfl (lv_at hl 3 rfl) ?_
        refine lv_iconst (v := 0) hx hb d_Mo_clearEntries_11 (by decide) ?_
        refine lv_iconst (v := (-1)) hx hb d_Mo_clearEntries_12 (by decide) ?_
        refine lv_iconst (v := 0) hx hb d_Mo_clearEntries_13 (by decide) ?_
        obtain ⟨qc, hc14, h1⟩ := b1_some h1
        obtain ⟨σ1, rfl⟩ : ∃ z, z = qc := ⟨_, rfl⟩
        have h1 := b1_at h1
        refine st_Vv (As := [.int v3, .int 0, .int (-1), .int 0]) (rest := []) ⟨hx, hb, hml, hown, hg⟩ (c_Mo_putEntry l D aC A ad n _ v3 0 (-1) 0 _ hc14) (cwG hg wd_554 wd_555 wd_556 wd_557 wd_428 yd_Mo_putEntry ⟨Nat.le_of_ble_eq_true rfl, Nat.le_of_ble_eq_true rfl⟩) hK hH hS hZ hd_48 rfl rfl rfl hl.1 rfl (Nat.le_of_ble_eq_true rfl) d_Mo_clearEntries_14 ⟨Nat.zero_le _, Nat.zero_le _⟩ (fun H locs hH hS => ?_)
        obtain ⟨x2, ex2⟩ : ∃ y : Int32, y = v3 + 1 := ⟨_, rfl⟩
        have h1 := nm_at ex2 h1
        refine lv_iinc (v := x2) (lv' := [(3, .int x2), (0, .ref (ad 48 0)), (1, .int a1), (2, .int a2)]) hx hb d_Mo_clearEntries_17 hl (k := 3) rfl (by rw [ex2]; rfl) (by decide) rfl (fun ls hl => ?_)
        refine lv_goto (tgt := 2) hx hb d_Mo_clearEntries_20 (by decide) ?_
        cases h1
        exact ih1 σ1 x2 _ _ ls hH hS (lv_sub hl [1, 2, 3, 0] rfl) hk1
  obtain ⟨k1, hq1⟩ := lpE_some hq1
  exact loop1 k1 σ a1 _ _ ls hH hS (lv_sub hl [1, 2, 3, 0] rfl) hq1
set_option maxHeartbeats 4000000 in
set_option maxRecDepth 100000 in
theorem c_Mo_part (l : Launch) (D : va_G) (aC : Nat → ClassId) (A : Nat → Prop) (ad : Nat → Nat → Nat) (n : Nat) (σ : St) (a1 : Int32) (a2 : Int32) (a3 : Int32) (a4 : Int32) (o : St) (h : f_Mo_part σ a1 a2 a3 a4 = some o) : Met l y_Mo_part w_Mo_part rm_Mo_part (va_Pc [.ref (ad 48 0), .int a1, .int a2, .int a3, .int a4] (Pre D aC A ad n σ)) (va_Qv (fun (_ : Unit) => True) (fun _ t => Hold D aC A ad n o t.heap) A) 0 0 A := by
  refine Met.ofW (cc := prog_13_method_48_code) (maxL := 11) (ret := none) (by decide) rfl ?_
  intro p e s m args below meth c s₁ B hml hv
  obtain ⟨hargs, hH, hK, hZ⟩ := hv
  have hx := B.exec
  have hb := B.bytes
  have hr := B.returns
  have hts := atoms_spec (ws := w_Mo_part) B.pre
  have hg : ∀ w ∈ gW, w.before args s = true := fun w h => hts w (List.mem_cons_of_mem _ h)
  have hown : s.vm.findClass "PrefixCodesModel" = some m.cls := findClass_of_methodNamed B.named
  have hlocks := B.notSynchronized
  have hS : va_S A s.heap s.heap [] := va_S.rf
  have hl := lv_entry ([.ref (ad 48 0), .int a1, .int a2, .int a3, .int a4]) (n := 11) (Nat.le_of_ble_eq_true rfl)
  rw [show entryFrame m args 11 = entryFrame m (([.ref (ad 48 0), .int a1, .int a2, .int a3, .int a4] : List Value).toArray) 11 by rw [hargs], lg_entry_eq]
  generalize (lg_sl ([.ref (ad 48 0), .int a1, .int a2, .int a3, .int a4]) ++ List.replicate (11 - (lg_sl ([.ref (ad 48 0), .int a1, .int a2, .int a3, .int a4])).length) Slot.unset).toArray = ls at hl ⊢
  have hl : lv_has ls 11 [(0, .ref (ad 48 0)), (1, .int a1), (2, .int a2), (3, .int a3), (4, .int a4)] := hl
  generalize hQ0 : MQ below (va_Qv (fun (_ : Unit) => True) (fun _ t => Hold D aC A ad n o t.heap) A) args s 0 0 A = Q0
  unfold f_Mo_part at h
  refine lv_aload_n hx hb d_Mo_part_0 rfl (lv_at hl 0 rfl) ?_
  refine st_get hx hb hg hown hK hH (f := 48) (i := 0) hd_48 rfl rfl u_Mo 20 (by decide) (hg _ wd_558) (v := .int (σ.1 48 0 20)) rfl d_Mo_part_1 ?_
  refine lv_topi (fun x1 ex1 => ?_)
  have h := nm_at ex1 h
  refine lv_istore (lv' := [(5, .int x1), (0, .ref (ad 48 0)), (1, .int a1), (2, .int a2), (3, .int a3), (4, .int a4)]) hx hb d_Mo_part_4 hl (by decide) rfl (fun ls hl => ?_)
  refine lv_aload_n hx hb d_Mo_part_6 rfl (lv_at hl 1 rfl) ?_
  refine lv_iload_n hx hb d_Mo_part_7 rfl (lv_at hl 4 rfl) ?_
  refine lv_iconst (v := 2) hx hb d_Mo_part_8 (by decide) ?_
  refine lv_iload hx hb d_Mo_part_9 (lv_at hl 0 rfl) ?_
  refine lv_iload hx hb d_Mo_part_11 (lv_at hl 5 rfl) ?_
  obtain ⟨qc, hc13, h⟩ := b1_some h
  obtain ⟨σ2, rfl⟩ : ∃ z, z = qc := ⟨_, rfl⟩
  have h := b1_at h
  refine st_Vv (As := [.int a3, .int 2, .int x1, .int a4]) (rest := []) ⟨hx, hb, hml, hown, hg⟩ (c_Mo_putEntry l D aC A ad n _ a3 2 x1 a4 _ hc13) (cwG hg wd_554 wd_555 wd_556 wd_557 wd_428 yd_Mo_putEntry ⟨Nat.le_of_ble_eq_true rfl, Nat.le_of_ble_eq_true rfl⟩) hK hH hS hZ hd_48 rfl rfl rfl hl.1 rfl (Nat.le_of_ble_eq_true rfl) d_Mo_part_13 ⟨Nat.zero_le _, Nat.zero_le _⟩ (fun H locs hH hS => ?_)
  refine lv_aload_n hx hb d_Mo_part_16 rfl (lv_at hl 1 rfl) ?_
  refine lv_dup hx hb d_Mo_part_17 rfl ?_
  refine st_get hx hb hg hown hK hH (f := 48) (i := 0) hd_48 rfl rfl u_Mo 20 (by decide) (hg _ wd_558) (v := .int (σ2.1 48 0 20)) rfl d_Mo_part_18 ?_
  refine lv_iconst (v := 1) hx hb d_Mo_part_21 (by decide) ?_
  refine lv_iload hx hb d_Mo_part_22 (lv_at hl 5 rfl) ?_
  refine lv_ishl hx hb d_Mo_part_24 ?_
  refine lv_iadd hx hb d_Mo_part_25 ?_
  refine st_put hx hb hg hown hK hH hS (f := 48) (i := 0) hd_48 rfl rfl u_Mo t_Mo t_Mo_ok n_Mo 20 (by decide) (hg _ wd_558) rfl rfl rfl d_Mo_part_26 (fun σ3 H locs eσ3 hH hS => ?_)
  have h := nm_at eσ3 h
  refine lv_aload_n hx hb d_Mo_part_29 rfl (lv_at hl 1 rfl) ?_
  refine lv_iload hx hb d_Mo_part_30 (lv_at hl 0 rfl) ?_
  refine lv_iconst (v := 1) hx hb d_Mo_part_32 (by decide) ?_
  refine lv_iload hx hb d_Mo_part_33 (lv_at hl 5 rfl) ?_
  refine lv_ishl hx hb d_Mo_part_35 ?_
  obtain ⟨qc, hc36, h⟩ := b1_some h
  obtain ⟨σ4, rfl⟩ : ∃ z, z = qc := ⟨_, rfl⟩
  have h := b1_at h
  refine st_Vv (As := [.int x1, .int (1 <<< (a4 &&& 31))]) (rest := []) ⟨hx, hb, hml, hown, hg⟩ (c_Mo_clearEntries l D aC A ad n _ x1 (1 <<< (a4 &&& 31)) _ hc36) (cwG hg wd_559 wd_560 wd_561 wd_562 wd_428 yd_Mo_clearEntries ⟨Nat.le_of_ble_eq_true rfl, Nat.le_of_ble_eq_true rfl⟩) hK hH hS hZ hd_48 rfl rfl rfl hl.1 rfl (Nat.le_of_ble_eq_true rfl) d_Mo_part_36 ⟨Nat.zero_le _, Nat.zero_le _⟩ (fun H locs hH hS => ?_)
  refine lv_iconst (v := 0) hx hb d_Mo_part_39 (by decide) ?_
  refine lv_istore (lv' := [(6, .int 0), (5, .int x1), (0, .ref (ad 48 0)), (1, .int a1), (2, .int a2), (3, .int a3), (4, .int a4)]) hx hb d_Mo_part_40 hl (by decide) rfl (fun ls hl => ?_)
  obtain ⟨q1, hq1, h⟩ := b2_some h
  have K1 : ∀ (σ20 : St) (x21 : Int32) (H : Heap) (locs : List Loc) (ls : Array Slot), q1 = (σ20, x21) → Hold D aC A ad n σ20 H → va_S A s.heap H locs → lv_has ls 11 [(0, .ref (ad 48 0)), (1, .int a1), (2, .int a2), (3, .int a3), (4, .int a4), (5, .int x1), (6, .int x21)] → W p l e (headSpec w_Mo_part rm_Mo_part).room s m args below meth c H locs 0 0 Q0 (F0 m 156 ls []) := by
    intro σ20 x21 H locs ls eq1 hH hS hl
    subst eq1
    have h := b2_at h
    cases h
    rw [← hQ0]
    exact W.vret hx hb hr (fun t ht hW => ⟨⟨(), rfl, trivial, by dsimp only; rw [ht]; exact hH⟩, hS.F ht⟩) hS.2.2 d_Mo_part_156
  have loop1 : ∀ (k : Nat) (σ : St) (v6 : Int32) (H : Heap) (locs : List Loc) (ls : Array Slot), Hold D aC A ad n σ H → va_S A s.heap H locs → lv_has ls 11 [(0, .ref (ad 48 0)), (1, .int a1), (2, .int a2), (3, .int a3), (4, .int a4), (5, .int x1), (6, .int v6)] → lp (fun q => lb_Mo_part_42 a1 a2 a3 a4 x1 q.1 q.2) k (σ, v6) = some q1 → W p l e (headSpec w_Mo_part rm_Mo_part).room s m args below meth c H locs 0 0 Q0 (F0 m 42 ls []) := by
    intro k
    induction k with
    | zero => intro σ v6 H locs ls hH hS hl hlp; exact absurd hlp (lp_zero _ _ _)
    | succ k ih1 =>
      intro σ v6 H locs ls hH hS hl hlp
      obtain ⟨z1, h1, hk1⟩ := lp_succ hlp
      have h1 : lb_Mo_part_42 a1 a2 a3 a4 x1 σ v6 = some z1 := h1
      unfold lb_Mo_part_42 at h1
      refine lv_iload hx hb d_Mo_part_42 (lv_at hl 6 rfl) ?_
      refine lv_aload_n hx hb d_Mo_part_44 rfl (lv_at hl 0 rfl) ?_
      refine st_get hx hb hg hown hK hH (f := 48) (i := 0) hd_48 rfl rfl u_Mo 2 (by decide) (hg _ wd_425) (v := .ref (ad 49 0)) rfl d_Mo_part_45 ?_
      refine lv_iload_n hx hb d_Mo_part_48 rfl (lv_at hl 1 rfl) ?_
      obtain ⟨g49, h1⟩ := gd_some h1
      refine st_iald hx hb hK hH (f := 49) (i := 0) hd_49 rfl g49 d_Mo_part_49 ?_
      refine lv_icmp_ge (tgt := 156) hx hb d_Mo_part_50 (by decide) (fun c50 => ?_) (fun c50 => ?_)
      · have h1 := it h1 c50
        cases h1
        exact K1 σ v6 _ _ ls (Option.some.inj hk1).symm hH hS (lv_sub hl [0, 1, 2, 3, 4, 5, 6] rfl)
      · have h1 := ie h1 c50
        refine lv_aload_n hx hb d_Mo_part_53 rfl (lv_at hl 0 rfl) ?_
        refine lv_iload_n hx hb d_Mo_part_54 rfl (lv_at hl 1 rfl) ?_
        refine lv_iload hx hb d_Mo_part_55 (lv_at hl 6 rfl) ?_
        obtain ⟨qc, hc57, h1⟩ := b2_some h1
        obtain ⟨σ5, x6⟩ := qc
        have h1 := b2_at h1
        refine st_Vi (As := [.int a1, .int v6]) (rest := []) ⟨hx, hb, hml, hown, hg⟩ (c_Mo_lengthOf l D aC A ad n _ a1 v6 _ hc57) (cwG hg wd_440 wd_441 wd_442 wd_443 wd_428 yd_Mo_lengthOf ⟨Nat.le_of_ble_eq_true rfl, Nat.le_of_ble_eq_true rfl⟩) hK hH hS hZ hd_48 rfl rfl rfl hl.1 rfl (Nat.le_of_ble_eq_true rfl) d_Mo_part_57 ⟨Nat.zero_le _, Nat.zero_le _⟩ (fun H locs hH hS => ?_)
        refine lv_istore (lv' := [(7, .int x6), (0, .ref (ad 48 0)), (1, .int a1), (2, .int a2), (3, .int a3), (4, .int a4), (5, .int x1), (6, .int v6)]) hx hb d_Mo_part_60 hl (by decide) rfl (fun ls hl => ?_)
        refine lv_iload hx hb d_Mo_part_62 (lv_at hl 0 rfl) ?_
        refine lv_iload_n hx hb d_Mo_part_64 rfl (lv_at hl 3 rfl) ?_
        refine lv_icmp_le (tgt := 150) hx hb d_Mo_part_65 (by decide) (fun c65 => ?_) (fun c65 => ?_)
        · have h1 := it h1 c65
          obtain ⟨x7, ex7⟩ : ∃ y : Int32, y = v6 + 1 := ⟨_, rfl⟩
          have h1 := nm_at ex7 h1
          refine lv_iinc (v := x7) (lv' := [(6, .int x7), (7, .int x6), (0, .ref (ad 48 0)), (1, .int a1), (2, .int a2), (3, .int a3), (4, .int a4), (5, .int x1)]) hx hb d_Mo_part_150 hl (k := 7) rfl (by rw [ex7]; rfl) (by decide) rfl (fun ls hl => ?_)
          refine lv_goto (tgt := 42) hx hb d_Mo_part_153 (by decide) ?_
          cases h1
          exact ih1 σ5 x7 _ _ ls hH hS (lv_sub hl [2, 3, 4, 5, 6, 7, 0] rfl) hk1
        · have h1 := ie h1 c65
          refine lv_aload_n hx hb d_Mo_part_68 rfl (lv_at hl 1 rfl) ?_
          refine lv_iload_n hx hb d_Mo_part_69 rfl (lv_at hl 2 rfl) ?_
          refine lv_iload hx hb d_Mo_part_70 (lv_at hl 7 rfl) ?_
          obtain ⟨qc, hc72, h1⟩ := b2_some h1
          obtain ⟨σ8, x9⟩ := qc
          have h1 := b2_at h1
          refine st_Vi (As := [.int a1, .int v6]) (rest := []) ⟨hx, hb, hml, hown, hg⟩ (c_Mo_wordOf l D aC A ad n _ a1 v6 _ hc72) (cwG hg wd_461 wd_462 wd_463 wd_464 wd_428 yd_Mo_wordOf ⟨Nat.le_of_ble_eq_true rfl, Nat.le_of_ble_eq_true rfl⟩) hK hH hS hZ hd_48 rfl rfl rfl hl.1 rfl (Nat.le_of_ble_eq_true rfl) d_Mo_part_72 ⟨Nat.zero_le _, Nat.zero_le _⟩ (fun H locs hH hS => ?_)
          refine lv_iload hx hb d_Mo_part_75 (lv_at hl 0 rfl) ?_
          refine lv_iload_n hx hb d_Mo_part_77 rfl (lv_at hl 3 rfl) ?_
          refine lv_isub hx hb d_Mo_part_78 ?_
          refine lv_ishr hx hb d_Mo_part_79 ?_
          refine lv_iload_n hx hb d_Mo_part_80 rfl (lv_at hl 4 rfl) ?_
          refine lv_icmp_ne (tgt := 150) hx hb d_Mo_part_81 (by decide) (fun c81 => ?_) (fun c81 => ?_)
          · have h1 := ie h1 c81
            obtain ⟨x10, ex10⟩ : ∃ y : Int32, y = v6 + 1 := ⟨_, rfl⟩
            have h1 := nm_at ex10 h1
            refine lv_iinc (v := x10) (lv' := [(6, .int x10), (7, .int x6), (0, .ref (ad 48 0)), (1, .int a1), (2, .int a2), (3, .int a3), (4, .int a4), (5, .int x1)]) hx hb d_Mo_part_150 hl (k := 7) rfl (by rw [ex10]; rfl) (by decide) rfl (fun ls hl => ?_)
            refine lv_goto (tgt := 42) hx hb d_Mo_part_153 (by decide) ?_
            cases h1
            exact ih1 σ8 x10 _ _ ls hH hS (lv_sub hl [2, 3, 4, 5, 6, 7, 0] rfl) hk1
          · have h1 := it h1 c81
            refine lv_iload hx hb d_Mo_part_84 (lv_at hl 0 rfl) ?_
            refine lv_iload_n hx hb d_Mo_part_86 rfl (lv_at hl 3 rfl) ?_
            refine lv_isub hx hb d_Mo_part_87 ?_
            refine lv_topi (fun x11 ex11 => ?_)
            have h1 := nm_at ex11 h1
            refine lv_istore (lv' := [(8, .int x11), (7, .int x6), (0, .ref (ad 48 0)), (1, .int a1), (2, .int a2), (3, .int a3), (4, .int a4), (5, .int x1), (6, .int v6)]) hx hb d_Mo_part_88 hl (by decide) rfl (fun ls hl => ?_)
            refine lv_aload_n hx hb d_Mo_part_90 rfl (lv_at hl 2 rfl) ?_
            refine lv_iload_n hx hb d_Mo_part_91 rfl (lv_at hl 3 rfl) ?_
            refine lv_iload hx hb d_Mo_part_92 (lv_at hl 8 rfl) ?_
            obtain ⟨qc, hc94, h1⟩ := b2_some h1
            obtain ⟨σ12, x13⟩ := qc
            have h1 := b2_at h1
            refine st_Vi (As := [.int a1, .int v6]) (rest := []) ⟨hx, hb, hml, hown, hg⟩ (c_Mo_wordOf l D aC A ad n _ a1 v6 _ hc94) (cwG hg wd_461 wd_462 wd_463 wd_464 wd_428 yd_Mo_wordOf ⟨Nat.le_of_ble_eq_true rfl, Nat.le_of_ble_eq_true rfl⟩) hK hH hS hZ hd_48 rfl rfl rfl hl.1 rfl (Nat.le_of_ble_eq_true rfl) d_Mo_part_94 ⟨Nat.zero_le _, Nat.zero_le _⟩ (fun H locs hH hS => ?_)
            refine lv_iconst (v := 1) hx hb d_Mo_part_97 (by decide) ?_
            refine lv_iload hx hb d_Mo_part_98 (lv_at hl 0 rfl) ?_
            refine lv_ishl hx hb d_Mo_part_100 ?_
            refine lv_iconst (v := 1) hx hb d_Mo_part_101 (by decide) ?_
            refine lv_isub hx hb d_Mo_part_102 ?_
            refine lv_iand hx hb d_Mo_part_103 ?_
            refine lv_iload hx hb d_Mo_part_104 (lv_at hl 6 rfl) ?_
            refine lv_iload hx hb d_Mo_part_106 (lv_at hl 0 rfl) ?_
            refine lv_isub hx hb d_Mo_part_108 ?_
            refine lv_ishl hx hb d_Mo_part_109 ?_
            refine lv_topi (fun x14 ex14 => ?_)
            have h1 := nm_at ex14 h1
            refine lv_istore (lv' := [(9, .int x14), (8, .int x11), (7, .int x6), (0, .ref (ad 48 0)), (1, .int a1), (2, .int a2), (3, .int a3), (4, .int a4), (5, .int x1), (6, .int v6)]) hx hb d_Mo_part_110 hl (by decide) rfl (fun ls hl => ?_)
            refine lv_iconst (v := 0) hx hb d_Mo_part_112 (by decide) ?_
            refine lv_istore (lv' := [(10, .int 0), (9, .int x14), (8, .int x11), (7, .int x6), (0, .ref (ad 48 0)), (1, .int a1), (2, .int a2), (3, .int a3), (4, .int a4), (5, .int x1), (6, .int v6)]) hx hb d_Mo_part_113 hl (by decide) rfl (fun ls hl => ?_)
            obtain ⟨q2, hq2, h1⟩ := b2_some h1
            have K2 : ∀ (σ17 : St) (x18 : Int32) (H : Heap) (locs : List Loc) (ls : Array Slot), q2 = (σ17, x18) → Hold D aC A ad n σ17 H → va_S A s.heap H locs → lv_has ls 11 [(0, .ref (ad 48 0)), (1, .int a1), (2, .int a2), (3, .int a3), (4, .int a4), (5, .int x1), (6, .int v6), (7, .int x6), (8, .int x11), (9, .int x14), (10, .int x18)] → W p l e (headSpec w_Mo_part rm_Mo_part).room s m args below meth c H locs 0 0 Q0 (F0 m 150 ls []) := by
              intro σ17 x18 H locs ls eq2 hH hS hl
              subst eq2
              have h1 := b2_at h1
              obtain ⟨x19, ex19⟩ : ∃ y : Int32, y = v6 + 1 := ⟨_, rfl⟩
              have h1 := nm_at ex19 h1
              refine lv_iinc (v := x19) (lv' := [(6, .int x19), (0, .ref (ad 48 0)), (1, .int a1), (2, .int a2), (3, .int a3), (4, .int a4), (5, .int x1), (7, .int x6), (8, .int x11), (9, .int x14), (10, .int x18)]) hx hb d_Mo_part_150 hl (k := 6) rfl (by rw [ex19]; rfl) (by decide) rfl (fun ls hl => ?_)
              refine lv_goto (tgt := 42) hx hb d_Mo_part_153 (by decide) ?_
              cases h1
              exact ih1 σ17 x19 _ _ ls hH hS (lv_sub hl [1, 2, 3, 4, 5, 6, 0] rfl) hk1
            have loop2 : ∀ (k : Nat) (σ : St) (v10 : Int32) (H : Heap) (locs : List Loc) (ls : Array Slot), Hold D aC A ad n σ H → va_S A s.heap H locs → lv_has ls 11 [(0, .ref (ad 48 0)), (1, .int a1), (2, .int a2), (3, .int a3), (4, .int a4), (5, .int x1), (6, .int v6), (7, .int x6), (8, .int x11), (9, .int x14), (10, .int v10)] → lp (fun q => lb_Mo_part_115 a1 a2 a3 a4 x1 v6 x6 x11 x14 q.1 q.2) k (σ, v10) = some q2 → W p l e (headSpec w_Mo_part rm_Mo_part).room s m args below meth c H locs 0 0 Q0 (F0 m 115 ls []) := by
              intro k
              induction k with
              | zero => intro σ v10 H locs ls hH hS hl hlp; exact absurd hlp (lp_zero _ _ _)
              | succ k ih2 =>
                intro σ v10 H locs ls hH hS hl hlp
                obtain ⟨z2, h2, hk2⟩ := lp_succ hlp
                have h2 : lb_Mo_part_115 a1 a2 a3 a4 x1 v6 x6 x11 x14 σ v10 = some z2 := h2
                unfold lb_Mo_part_115 at h2
                refine lv_iload hx hb d_Mo_part_115 (lv_at hl 10 rfl) ?_
                refine lv_iconst (v := 1) hx hb d_Mo_part_117 (by decide) ?_
                refine lv_iload hx hb d_Mo_part_118 (lv_at hl 4 rfl) ?_
                refine lv_iload hx hb d_Mo_part_120 (lv_at hl 8 rfl) ?_
                refine lv_isub hx hb d_Mo_part_122 ?_
                refine lv_ishl hx hb d_Mo_part_123 ?_
                refine lv_icmp_ge (tgt := 150) hx hb d_Mo_part_124 (by decide) (fun c124 => ?_) (fun c124 => ?_)
                · have h2 := it h2 c124
                  cases h2
                  exact K2 σ v10 _ _ ls (Option.some.inj hk2).symm hH hS (lv_sub hl [0, 1, 2, 3, 4, 5, 6, 7, 8, 9, 10] rfl)
                · have h2 := ie h2 c124
                  refine lv_aload_n hx hb d_Mo_part_127 rfl (lv_at hl 0 rfl) ?_
                  refine lv_iload hx hb d_Mo_part_128 (lv_at hl 5 rfl) ?_
                  refine lv_iload hx hb d_Mo_part_130 (lv_at hl 9 rfl) ?_
                  refine lv_iadd hx hb d_Mo_part_132 ?_
                  refine lv_iload hx hb d_Mo_part_133 (lv_at hl 10 rfl) ?_
                  refine lv_iadd hx hb d_Mo_part_135 ?_
                  refine lv_iconst (v := 1) hx hb d_Mo_part_136 (by decide) ?_
                  refine lv_iload hx hb d_Mo_part_137 (lv_at hl 6 rfl) ?_
                  refine lv_iload hx hb d_Mo_part_139 (lv_at hl 7 rfl) ?_
                  obtain ⟨qc, hc141, h2⟩ := b1_some h2
                  obtain ⟨σ15, rfl⟩ : ∃ z, z = qc := ⟨_, rfl⟩
                  have h2 := b1_at h2
                  refine st_Vv (As := [.int ((x1 + x14) + v10), .int 1, .int v6, .int x6]) (rest := []) ⟨hx, hb, hml, hown, hg⟩ (c_Mo_putEntry l D aC A ad n _ ((x1 + x14) + v10) 1 v6 x6 _ hc141) (cwG hg wd_554 wd_555 wd_556 wd_557 wd_428 yd_Mo_putEntry ⟨Nat.le_of_ble_eq_true rfl, Nat.le_of_ble_eq_true rfl⟩) hK hH hS hZ hd_48 rfl rfl rfl hl.1 rfl (Nat.le_of_ble_eq_true rfl) d_Mo_part_141 ⟨Nat.zero_le _, Nat.zero_le _⟩ (fun H locs hH hS => ?_)
                  obtain ⟨x16, ex16⟩ : ∃ y : Int32, y = v10 + 1 := ⟨_, rfl⟩
                  have h2 := nm_at ex16 h2
                  refine lv_iinc (v := x16) (lv' := [(10, .int x16), (0, .ref (ad 48 0)), (1, .int a1), (2, .int a2), (3, .int a3), (4, .int a4), (5, .int x1), (6, .int v6), (7, .int x6), (8, .int x11), (9, .int x14)]) hx hb d_Mo_part_144 hl (k := 10) rfl (by rw [ex16]; rfl) (by decide) rfl (fun ls hl => ?_)
                  refine lv_goto (tgt := 115) hx hb d_Mo_part_147 (by decide) ?_
                  cases h2
                  exact ih2 σ15 x16 _ _ ls hH hS (lv_sub hl [1, 2, 3, 4, 5, 6, 7, 8, 9, 10, 0] rfl) hk2
            obtain ⟨k2, hq2⟩ := lpE_some hq2
            exact loop2 k2 σ12 0 _ _ ls hH hS (lv_sub hl [4, 5, 6, 7, 8, 9, 10, 3, 2, 1, 0] rfl) hq2
  obtain ⟨k1, hq1⟩ := lpE_some hq1
  exact loop1 k1 σ4 0 _ _ ls hH hS (lv_sub hl [2, 3, 4, 5, 6, 1, 0] rfl) hq1
