theorem d_Mo_packages_0 : decode prog_13_method_20_code 0 = .ok (.bipush 64, 2) := by decide +kernel
theorem d_Mo_packages_2 : decode prog_13_method_20_code 2 = .ok (.iload_n 1, 1) := by decide +kernel
theorem d_Mo_packages_3 : decode prog_13_method_20_code 3 = .ok (.imul, 1) := by decide +kernel
theorem d_Mo_packages_4 : decode prog_13_method_20_code 4 = .ok (.istore 4, 2) := by decide +kernel
theorem d_Mo_packages_6 : decode prog_13_method_20_code 6 = .ok (.iconst 0, 1) := by decide +kernel
theorem d_Mo_packages_7 : decode prog_13_method_20_code 7 = .ok (.istore 5, 2) := by decide +kernel
theorem d_Mo_packages_9 : decode prog_13_method_20_code 9 = .ok (.iconst 0, 1) := by decide +kernel
theorem d_Mo_packages_10 : decode prog_13_method_20_code 10 = .ok (.istore 6, 2) := by decide +kernel
theorem d_Mo_packages_12 : decode prog_13_method_20_code 12 = .ok (.iload 6, 2) := by decide +kernel
theorem d_Mo_packages_14 : decode prog_13_method_20_code 14 = .ok (.iload_n 2, 1) := by decide +kernel
theorem d_Mo_packages_15 : decode prog_13_method_20_code 15 = .ok (.if_icmp .ge 97, 3) := by decide +kernel
theorem d_Mo_packages_18 : decode prog_13_method_20_code 18 = .ok (.aload_n 0, 1) := by decide +kernel
theorem d_Mo_packages_19 : decode prog_13_method_20_code 19 = .ok (.getfield 13, 3) := by decide +kernel
theorem d_Mo_packages_22 : decode prog_13_method_20_code 22 = .ok (.iload 4, 2) := by decide +kernel
theorem d_Mo_packages_24 : decode prog_13_method_20_code 24 = .ok (.iload 6, 2) := by decide +kernel
theorem d_Mo_packages_26 : decode prog_13_method_20_code 26 = .ok (.iadd, 1) := by decide +kernel
theorem d_Mo_packages_27 : decode prog_13_method_20_code 27 = .ok (.iconst 0, 1) := by decide +kernel
theorem d_Mo_packages_28 : decode prog_13_method_20_code 28 = .ok (.iastore, 1) := by decide +kernel
theorem d_Mo_packages_29 : decode prog_13_method_20_code 29 = .ok (.aload_n 0, 1) := by decide +kernel
theorem d_Mo_packages_30 : decode prog_13_method_20_code 30 = .ok (.getfield 32, 3) := by decide +kernel
theorem d_Mo_packages_33 : decode prog_13_method_20_code 33 = .ok (.iload 6, 2) := by decide +kernel
theorem d_Mo_packages_35 : decode prog_13_method_20_code 35 = .ok (.iaload, 1) := by decide +kernel
theorem d_Mo_packages_36 : decode prog_13_method_20_code 36 = .ok (.ifCond .le 70, 3) := by decide +kernel
theorem d_Mo_packages_39 : decode prog_13_method_20_code 39 = .ok (.iload 5, 2) := by decide +kernel
theorem d_Mo_packages_41 : decode prog_13_method_20_code 41 = .ok (.istore 7, 2) := by decide +kernel
theorem d_Mo_packages_43 : decode prog_13_method_20_code 43 = .ok (.iload 7, 2) := by decide +kernel
theorem d_Mo_packages_45 : decode prog_13_method_20_code 45 = .ok (.ifCond .le 49, 3) := by decide +kernel
theorem d_Mo_packages_48 : decode prog_13_method_20_code 48 = .ok (.aload_n 0, 1) := by decide +kernel
theorem d_Mo_packages_49 : decode prog_13_method_20_code 49 = .ok (.getfield 32, 3) := by decide +kernel
theorem d_Mo_packages_52 : decode prog_13_method_20_code 52 = .ok (.aload_n 0, 1) := by decide +kernel
theorem d_Mo_packages_53 : decode prog_13_method_20_code 53 = .ok (.getfield 23, 3) := by decide +kernel
theorem d_Mo_packages_56 : decode prog_13_method_20_code 56 = .ok (.iload 7, 2) := by decide +kernel
theorem d_Mo_packages_58 : decode prog_13_method_20_code 58 = .ok (.iconst 1, 1) := by decide +kernel
theorem d_Mo_packages_59 : decode prog_13_method_20_code 59 = .ok (.isub, 1) := by decide +kernel
theorem d_Mo_packages_60 : decode prog_13_method_20_code 60 = .ok (.iaload, 1) := by decide +kernel
theorem d_Mo_packages_61 : decode prog_13_method_20_code 61 = .ok (.iaload, 1) := by decide +kernel
theorem d_Mo_packages_62 : decode prog_13_method_20_code 62 = .ok (.aload_n 0, 1) := by decide +kernel
theorem d_Mo_packages_63 : decode prog_13_method_20_code 63 = .ok (.getfield 32, 3) := by decide +kernel
theorem d_Mo_packages_66 : decode prog_13_method_20_code 66 = .ok (.iload 6, 2) := by decide +kernel
theorem d_Mo_packages_68 : decode prog_13_method_20_code 68 = .ok (.iaload, 1) := by decide +kernel
theorem d_Mo_packages_69 : decode prog_13_method_20_code 69 = .ok (.if_icmp .le 25, 3) := by decide +kernel
theorem d_Mo_packages_72 : decode prog_13_method_20_code 72 = .ok (.aload_n 0, 1) := by decide +kernel
theorem d_Mo_packages_73 : decode prog_13_method_20_code 73 = .ok (.getfield 23, 3) := by decide +kernel
theorem d_Mo_packages_76 : decode prog_13_method_20_code 76 = .ok (.iload 7, 2) := by decide +kernel
theorem d_Mo_packages_78 : decode prog_13_method_20_code 78 = .ok (.aload_n 0, 1) := by decide +kernel
theorem d_Mo_packages_79 : decode prog_13_method_20_code 79 = .ok (.getfield 23, 3) := by decide +kernel
theorem d_Mo_packages_82 : decode prog_13_method_20_code 82 = .ok (.iload 7, 2) := by decide +kernel
theorem d_Mo_packages_84 : decode prog_13_method_20_code 84 = .ok (.iconst 1, 1) := by decide +kernel
theorem d_Mo_packages_85 : decode prog_13_method_20_code 85 = .ok (.isub, 1) := by decide +kernel
theorem d_Mo_packages_86 : decode prog_13_method_20_code 86 = .ok (.iaload, 1) := by decide +kernel
theorem d_Mo_packages_87 : decode prog_13_method_20_code 87 = .ok (.iastore, 1) := by decide +kernel
theorem d_Mo_packages_88 : decode prog_13_method_20_code 88 = .ok (.iinc 7 (-1), 3) := by decide +kernel
theorem d_Mo_packages_91 : decode prog_13_method_20_code 91 = .ok (.goto (-48), 3) := by decide +kernel
theorem d_Mo_packages_94 : decode prog_13_method_20_code 94 = .ok (.aload_n 0, 1) := by decide +kernel
theorem d_Mo_packages_95 : decode prog_13_method_20_code 95 = .ok (.getfield 23, 3) := by decide +kernel
theorem d_Mo_packages_98 : decode prog_13_method_20_code 98 = .ok (.iload 7, 2) := by decide +kernel
theorem d_Mo_packages_100 : decode prog_13_method_20_code 100 = .ok (.iload 6, 2) := by decide +kernel
theorem d_Mo_packages_102 : decode prog_13_method_20_code 102 = .ok (.iastore, 1) := by decide +kernel
theorem d_Mo_packages_103 : decode prog_13_method_20_code 103 = .ok (.iinc 5 1, 3) := by decide +kernel
theorem d_Mo_packages_106 : decode prog_13_method_20_code 106 = .ok (.iinc 6 1, 3) := by decide +kernel
theorem d_Mo_packages_109 : decode prog_13_method_20_code 109 = .ok (.goto (-97), 3) := by decide +kernel
theorem d_Mo_packages_112 : decode prog_13_method_20_code 112 = .ok (.iload 5, 2) := by decide +kernel
theorem d_Mo_packages_114 : decode prog_13_method_20_code 114 = .ok (.iconst 2, 1) := by decide +kernel
theorem d_Mo_packages_115 : decode prog_13_method_20_code 115 = .ok (.if_icmp .ge 36, 3) := by decide +kernel
theorem d_Mo_packages_118 : decode prog_13_method_20_code 118 = .ok (.iconst 0, 1) := by decide +kernel
theorem d_Mo_packages_119 : decode prog_13_method_20_code 119 = .ok (.istore 6, 2) := by decide +kernel
theorem d_Mo_packages_121 : decode prog_13_method_20_code 121 = .ok (.iload 6, 2) := by decide +kernel
theorem d_Mo_packages_123 : decode prog_13_method_20_code 123 = .ok (.iload 5, 2) := by decide +kernel
theorem d_Mo_packages_125 : decode prog_13_method_20_code 125 = .ok (.if_icmp .ge 25, 3) := by decide +kernel
theorem d_Mo_packages_128 : decode prog_13_method_20_code 128 = .ok (.aload_n 0, 1) := by decide +kernel
theorem d_Mo_packages_129 : decode prog_13_method_20_code 129 = .ok (.getfield 13, 3) := by decide +kernel
theorem d_Mo_packages_132 : decode prog_13_method_20_code 132 = .ok (.iload 4, 2) := by decide +kernel
theorem d_Mo_packages_134 : decode prog_13_method_20_code 134 = .ok (.aload_n 0, 1) := by decide +kernel
theorem d_Mo_packages_135 : decode prog_13_method_20_code 135 = .ok (.getfield 23, 3) := by decide +kernel
theorem d_Mo_packages_138 : decode prog_13_method_20_code 138 = .ok (.iload 6, 2) := by decide +kernel
theorem d_Mo_packages_140 : decode prog_13_method_20_code 140 = .ok (.iaload, 1) := by decide +kernel
theorem d_Mo_packages_141 : decode prog_13_method_20_code 141 = .ok (.iadd, 1) := by decide +kernel
theorem d_Mo_packages_142 : decode prog_13_method_20_code 142 = .ok (.iconst 1, 1) := by decide +kernel
theorem d_Mo_packages_143 : decode prog_13_method_20_code 143 = .ok (.iastore, 1) := by decide +kernel
theorem d_Mo_packages_144 : decode prog_13_method_20_code 144 = .ok (.iinc 6 1, 3) := by decide +kernel
theorem d_Mo_packages_147 : decode prog_13_method_20_code 147 = .ok (.goto (-26), 3) := by decide +kernel
theorem d_Mo_packages_150 : decode prog_13_method_20_code 150 = .ok (.return_, 1) := by decide +kernel
theorem d_Mo_packages_151 : decode prog_13_method_20_code 151 = .ok (.aload_n 0, 1) := by decide +kernel
theorem d_Mo_packages_152 : decode prog_13_method_20_code 152 = .ok (.getfield 29, 3) := by decide +kernel
theorem d_Mo_packages_155 : decode prog_13_method_20_code 155 = .ok (.iconst 0, 1) := by decide +kernel
theorem d_Mo_packages_156 : decode prog_13_method_20_code 156 = .ok (.iload 5, 2) := by decide +kernel
theorem d_Mo_packages_158 : decode prog_13_method_20_code 158 = .ok (.iastore, 1) := by decide +kernel
theorem d_Mo_packages_159 : decode prog_13_method_20_code 159 = .ok (.iconst 0, 1) := by decide +kernel
theorem d_Mo_packages_160 : decode prog_13_method_20_code 160 = .ok (.istore 6, 2) := by decide +kernel
theorem d_Mo_packages_162 : decode prog_13_method_20_code 162 = .ok (.iload 6, 2) := by decide +kernel
theorem d_Mo_packages_164 : decode prog_13_method_20_code 164 = .ok (.iload 5, 2) := by decide +kernel
theorem d_Mo_packages_166 : decode prog_13_method_20_code 166 = .ok (.if_icmp .ge 29, 3) := by decide +kernel
theorem d_Mo_packages_169 : decode prog_13_method_20_code 169 = .ok (.aload_n 0, 1) := by decide +kernel
theorem d_Mo_packages_170 : decode prog_13_method_20_code 170 = .ok (.getfield 19, 3) := by decide +kernel
theorem d_Mo_packages_173 : decode prog_13_method_20_code 173 = .ok (.iload 6, 2) := by decide +kernel
theorem d_Mo_packages_175 : decode prog_13_method_20_code 175 = .ok (.aload_n 0, 1) := by decide +kernel
theorem d_Mo_packages_176 : decode prog_13_method_20_code 176 = .ok (.getfield 32, 3) := by decide +kernel
theorem d_Mo_packages_179 : decode prog_13_method_20_code 179 = .ok (.aload_n 0, 1) := by decide +kernel
theorem d_Mo_packages_180 : decode prog_13_method_20_code 180 = .ok (.getfield 23, 3) := by decide +kernel
theorem d_Mo_packages_183 : decode prog_13_method_20_code 183 = .ok (.iload 6, 2) := by decide +kernel
theorem d_Mo_packages_185 : decode prog_13_method_20_code 185 = .ok (.iaload, 1) := by decide +kernel
theorem d_Mo_packages_186 : decode prog_13_method_20_code 186 = .ok (.iaload, 1) := by decide +kernel
theorem d_Mo_packages_187 : decode prog_13_method_20_code 187 = .ok (.i2l, 1) := by decide +kernel
theorem d_Mo_packages_188 : decode prog_13_method_20_code 188 = .ok (.lastore, 1) := by decide +kernel
theorem d_Mo_packages_189 : decode prog_13_method_20_code 189 = .ok (.iinc 6 1, 3) := by decide +kernel
theorem d_Mo_packages_192 : decode prog_13_method_20_code 192 = .ok (.goto (-30), 3) := by decide +kernel
theorem d_Mo_packages_195 : decode prog_13_method_20_code 195 = .ok (.iconst 1, 1) := by decide +kernel
theorem d_Mo_packages_196 : decode prog_13_method_20_code 196 = .ok (.istore 6, 2) := by decide +kernel
theorem d_Mo_packages_198 : decode prog_13_method_20_code 198 = .ok (.iload 6, 2) := by decide +kernel
theorem d_Mo_packages_200 : decode prog_13_method_20_code 200 = .ok (.iload_n 3, 1) := by decide +kernel
theorem d_Mo_packages_201 : decode prog_13_method_20_code 201 = .ok (.if_icmp .ge 17, 3) := by decide +kernel
theorem d_Mo_packages_204 : decode prog_13_method_20_code 204 = .ok (.aload_n 0, 1) := by decide +kernel
theorem d_Mo_packages_205 : decode prog_13_method_20_code 205 = .ok (.iload 6, 2) := by decide +kernel
theorem d_Mo_packages_207 : decode prog_13_method_20_code 207 = .ok (.iload 5, 2) := by decide +kernel
theorem d_Mo_packages_209 : decode prog_13_method_20_code 209 = .ok (.invokevirtual 130, 3) := by decide +kernel
theorem d_Mo_packages_212 : decode prog_13_method_20_code 212 = .ok (.iinc 6 1, 3) := by decide +kernel
theorem d_Mo_packages_215 : decode prog_13_method_20_code 215 = .ok (.goto (-17), 3) := by decide +kernel
theorem d_Mo_packages_218 : decode prog_13_method_20_code 218 = .ok (.sipush 128, 3) := by decide +kernel
theorem d_Mo_packages_221 : decode prog_13_method_20_code 221 = .ok (.iload_n 3, 1) := by decide +kernel
theorem d_Mo_packages_222 : decode prog_13_method_20_code 222 = .ok (.iconst 1, 1) := by decide +kernel
theorem d_Mo_packages_223 : decode prog_13_method_20_code 223 = .ok (.isub, 1) := by decide +kernel
theorem d_Mo_packages_224 : decode prog_13_method_20_code 224 = .ok (.imul, 1) := by decide +kernel
theorem d_Mo_packages_225 : decode prog_13_method_20_code 225 = .ok (.istore 6, 2) := by decide +kernel
theorem d_Mo_packages_227 : decode prog_13_method_20_code 227 = .ok (.iconst 0, 1) := by decide +kernel
theorem d_Mo_packages_228 : decode prog_13_method_20_code 228 = .ok (.istore 7, 2) := by decide +kernel
theorem d_Mo_packages_230 : decode prog_13_method_20_code 230 = .ok (.iload 7, 2) := by decide +kernel
theorem d_Mo_packages_232 : decode prog_13_method_20_code 232 = .ok (.sipush 1920, 3) := by decide +kernel
theorem d_Mo_packages_235 : decode prog_13_method_20_code 235 = .ok (.if_icmp .ge 42, 3) := by decide +kernel
theorem d_Mo_packages_238 : decode prog_13_method_20_code 238 = .ok (.aload_n 0, 1) := by decide +kernel
theorem d_Mo_packages_239 : decode prog_13_method_20_code 239 = .ok (.getfield 26, 3) := by decide +kernel
theorem d_Mo_packages_242 : decode prog_13_method_20_code 242 = .ok (.iload 7, 2) := by decide +kernel
theorem d_Mo_packages_244 : decode prog_13_method_20_code 244 = .ok (.iload 7, 2) := by decide +kernel
theorem d_Mo_packages_246 : decode prog_13_method_20_code 246 = .ok (.iload 6, 2) := by decide +kernel
theorem d_Mo_packages_248 : decode prog_13_method_20_code 248 = .ok (.if_icmp .lt 21, 3) := by decide +kernel
theorem d_Mo_packages_251 : decode prog_13_method_20_code 251 = .ok (.iload 7, 2) := by decide +kernel
theorem d_Mo_packages_253 : decode prog_13_method_20_code 253 = .ok (.iload 6, 2) := by decide +kernel
theorem d_Mo_packages_255 : decode prog_13_method_20_code 255 = .ok (.iconst 2, 1) := by decide +kernel
theorem d_Mo_packages_256 : decode prog_13_method_20_code 256 = .ok (.iload 5, 2) := by decide +kernel
theorem d_Mo_packages_258 : decode prog_13_method_20_code 258 = .ok (.imul, 1) := by decide +kernel
theorem d_Mo_packages_259 : decode prog_13_method_20_code 259 = .ok (.iadd, 1) := by decide +kernel
theorem d_Mo_packages_260 : decode prog_13_method_20_code 260 = .ok (.iconst 2, 1) := by decide +kernel
theorem d_Mo_packages_261 : decode prog_13_method_20_code 261 = .ok (.isub, 1) := by decide +kernel
theorem d_Mo_packages_262 : decode prog_13_method_20_code 262 = .ok (.if_icmp .ge 7, 3) := by decide +kernel
theorem d_Mo_packages_265 : decode prog_13_method_20_code 265 = .ok (.iconst 1, 1) := by decide +kernel
theorem d_Mo_packages_266 : decode prog_13_method_20_code 266 = .ok (.goto 4, 3) := by decide +kernel
theorem d_Mo_packages_269 : decode prog_13_method_20_code 269 = .ok (.iconst 0, 1) := by decide +kernel
theorem d_Mo_packages_270 : decode prog_13_method_20_code 270 = .ok (.iastore, 1) := by decide +kernel
theorem d_Mo_packages_271 : decode prog_13_method_20_code 271 = .ok (.iinc 7 1, 3) := by decide +kernel
theorem d_Mo_packages_274 : decode prog_13_method_20_code 274 = .ok (.goto (-44), 3) := by decide +kernel
theorem d_Mo_packages_277 : decode prog_13_method_20_code 277 = .ok (.iload_n 3, 1) := by decide +kernel
theorem d_Mo_packages_278 : decode prog_13_method_20_code 278 = .ok (.iconst 1, 1) := by decide +kernel
theorem d_Mo_packages_279 : decode prog_13_method_20_code 279 = .ok (.isub, 1) := by decide +kernel
theorem d_Mo_packages_280 : decode prog_13_method_20_code 280 = .ok (.istore 7, 2) := by decide +kernel
theorem d_Mo_packages_282 : decode prog_13_method_20_code 282 = .ok (.iload 7, 2) := by decide +kernel
theorem d_Mo_packages_284 : decode prog_13_method_20_code 284 = .ok (.ifCond .lt 140, 3) := by decide +kernel
theorem d_Mo_packages_287 : decode prog_13_method_20_code 287 = .ok (.iconst 0, 1) := by decide +kernel
theorem d_Mo_packages_288 : decode prog_13_method_20_code 288 = .ok (.istore 8, 2) := by decide +kernel
theorem d_Mo_packages_290 : decode prog_13_method_20_code 290 = .ok (.iload 8, 2) := by decide +kernel
theorem d_Mo_packages_292 : decode prog_13_method_20_code 292 = .ok (.aload_n 0, 1) := by decide +kernel
theorem d_Mo_packages_293 : decode prog_13_method_20_code 293 = .ok (.getfield 29, 3) := by decide +kernel
theorem d_Mo_packages_296 : decode prog_13_method_20_code 296 = .ok (.iload 7, 2) := by decide +kernel
theorem d_Mo_packages_298 : decode prog_13_method_20_code 298 = .ok (.iaload, 1) := by decide +kernel
theorem d_Mo_packages_299 : decode prog_13_method_20_code 299 = .ok (.if_icmp .ge 119, 3) := by decide +kernel
theorem d_Mo_packages_302 : decode prog_13_method_20_code 302 = .ok (.sipush 128, 3) := by decide +kernel
theorem d_Mo_packages_305 : decode prog_13_method_20_code 305 = .ok (.iload 7, 2) := by decide +kernel
theorem d_Mo_packages_307 : decode prog_13_method_20_code 307 = .ok (.imul, 1) := by decide +kernel
theorem d_Mo_packages_308 : decode prog_13_method_20_code 308 = .ok (.iload 8, 2) := by decide +kernel
theorem d_Mo_packages_310 : decode prog_13_method_20_code 310 = .ok (.iadd, 1) := by decide +kernel
theorem d_Mo_packages_311 : decode prog_13_method_20_code 311 = .ok (.istore 9, 2) := by decide +kernel
theorem d_Mo_packages_313 : decode prog_13_method_20_code 313 = .ok (.aload_n 0, 1) := by decide +kernel
theorem d_Mo_packages_314 : decode prog_13_method_20_code 314 = .ok (.getfield 23, 3) := by decide +kernel
theorem d_Mo_packages_317 : decode prog_13_method_20_code 317 = .ok (.iload 9, 2) := by decide +kernel
theorem d_Mo_packages_319 : decode prog_13_method_20_code 319 = .ok (.iaload, 1) := by decide +kernel
theorem d_Mo_packages_320 : decode prog_13_method_20_code 320 = .ok (.sipush 1000, 3) := by decide +kernel
theorem d_Mo_packages_323 : decode prog_13_method_20_code 323 = .ok (.if_icmp .ge 31, 3) := by decide +kernel
theorem d_Mo_packages_326 : decode prog_13_method_20_code 326 = .ok (.aload_n 0, 1) := by decide +kernel
theorem d_Mo_packages_327 : decode prog_13_method_20_code 327 = .ok (.getfield 13, 3) := by decide +kernel
theorem d_Mo_packages_330 : decode prog_13_method_20_code 330 = .ok (.iload 4, 2) := by decide +kernel
theorem d_Mo_packages_332 : decode prog_13_method_20_code 332 = .ok (.aload_n 0, 1) := by decide +kernel
theorem d_Mo_packages_333 : decode prog_13_method_20_code 333 = .ok (.getfield 23, 3) := by decide +kernel
theorem d_Mo_packages_336 : decode prog_13_method_20_code 336 = .ok (.iload 9, 2) := by decide +kernel
theorem d_Mo_packages_338 : decode prog_13_method_20_code 338 = .ok (.iaload, 1) := by decide +kernel
theorem d_Mo_packages_339 : decode prog_13_method_20_code 339 = .ok (.iadd, 1) := by decide +kernel
theorem d_Mo_packages_340 : decode prog_13_method_20_code 340 = .ok (.dup2, 1) := by decide +kernel
theorem d_Mo_packages_341 : decode prog_13_method_20_code 341 = .ok (.iaload, 1) := by decide +kernel
theorem d_Mo_packages_342 : decode prog_13_method_20_code 342 = .ok (.aload_n 0, 1) := by decide +kernel
theorem d_Mo_packages_343 : decode prog_13_method_20_code 343 = .ok (.getfield 26, 3) := by decide +kernel
theorem d_Mo_packages_346 : decode prog_13_method_20_code 346 = .ok (.iload 9, 2) := by decide +kernel
theorem d_Mo_packages_348 : decode prog_13_method_20_code 348 = .ok (.iaload, 1) := by decide +kernel
theorem d_Mo_packages_349 : decode prog_13_method_20_code 349 = .ok (.iadd, 1) := by decide +kernel
theorem d_Mo_packages_350 : decode prog_13_method_20_code 350 = .ok (.iastore, 1) := by decide +kernel
theorem d_Mo_packages_351 : decode prog_13_method_20_code 351 = .ok (.goto 61, 3) := by decide +kernel
theorem d_Mo_packages_354 : decode prog_13_method_20_code 354 = .ok (.sipush 128, 3) := by decide +kernel
theorem d_Mo_packages_357 : decode prog_13_method_20_code 357 = .ok (.iload 7, 2) := by decide +kernel
theorem d_Mo_packages_359 : decode prog_13_method_20_code 359 = .ok (.iconst 1, 1) := by decide +kernel
theorem d_Mo_packages_360 : decode prog_13_method_20_code 360 = .ok (.isub, 1) := by decide +kernel
theorem d_Mo_packages_361 : decode prog_13_method_20_code 361 = .ok (.imul, 1) := by decide +kernel
theorem d_Mo_packages_362 : decode prog_13_method_20_code 362 = .ok (.aload_n 0, 1) := by decide +kernel
theorem d_Mo_packages_363 : decode prog_13_method_20_code 363 = .ok (.getfield 23, 3) := by decide +kernel
theorem d_Mo_packages_366 : decode prog_13_method_20_code 366 = .ok (.iload 9, 2) := by decide +kernel
theorem d_Mo_packages_368 : decode prog_13_method_20_code 368 = .ok (.iaload, 1) := by decide +kernel
theorem d_Mo_packages_369 : decode prog_13_method_20_code 369 = .ok (.iadd, 1) := by decide +kernel
theorem d_Mo_packages_370 : decode prog_13_method_20_code 370 = .ok (.sipush 1000, 3) := by decide +kernel
theorem d_Mo_packages_373 : decode prog_13_method_20_code 373 = .ok (.isub, 1) := by decide +kernel
theorem d_Mo_packages_374 : decode prog_13_method_20_code 374 = .ok (.istore 10, 2) := by decide +kernel
theorem d_Mo_packages_376 : decode prog_13_method_20_code 376 = .ok (.aload_n 0, 1) := by decide +kernel
theorem d_Mo_packages_377 : decode prog_13_method_20_code 377 = .ok (.getfield 26, 3) := by decide +kernel
theorem d_Mo_packages_380 : decode prog_13_method_20_code 380 = .ok (.iload 10, 2) := by decide +kernel
theorem d_Mo_packages_382 : decode prog_13_method_20_code 382 = .ok (.dup2, 1) := by decide +kernel
theorem d_Mo_packages_383 : decode prog_13_method_20_code 383 = .ok (.iaload, 1) := by decide +kernel
theorem d_Mo_packages_384 : decode prog_13_method_20_code 384 = .ok (.aload_n 0, 1) := by decide +kernel
theorem d_Mo_packages_385 : decode prog_13_method_20_code 385 = .ok (.getfield 26, 3) := by decide +kernel
theorem d_Mo_packages_388 : decode prog_13_method_20_code 388 = .ok (.iload 9, 2) := by decide +kernel
theorem d_Mo_packages_390 : decode prog_13_method_20_code 390 = .ok (.iaload, 1) := by decide +kernel
theorem d_Mo_packages_391 : decode prog_13_method_20_code 391 = .ok (.iadd, 1) := by decide +kernel
theorem d_Mo_packages_392 : decode prog_13_method_20_code 392 = .ok (.iastore, 1) := by decide +kernel
theorem d_Mo_packages_393 : decode prog_13_method_20_code 393 = .ok (.aload_n 0, 1) := by decide +kernel
theorem d_Mo_packages_394 : decode prog_13_method_20_code 394 = .ok (.getfield 26, 3) := by decide +kernel
theorem d_Mo_packages_397 : decode prog_13_method_20_code 397 = .ok (.iload 10, 2) := by decide +kernel
theorem d_Mo_packages_399 : decode prog_13_method_20_code 399 = .ok (.iconst 1, 1) := by decide +kernel
theorem d_Mo_packages_400 : decode prog_13_method_20_code 400 = .ok (.iadd, 1) := by decide +kernel
theorem d_Mo_packages_401 : decode prog_13_method_20_code 401 = .ok (.dup2, 1) := by decide +kernel
theorem d_Mo_packages_402 : decode prog_13_method_20_code 402 = .ok (.iaload, 1) := by decide +kernel
theorem d_Mo_packages_403 : decode prog_13_method_20_code 403 = .ok (.aload_n 0, 1) := by decide +kernel
theorem d_Mo_packages_404 : decode prog_13_method_20_code 404 = .ok (.getfield 26, 3) := by decide +kernel
theorem d_Mo_packages_407 : decode prog_13_method_20_code 407 = .ok (.iload 9, 2) := by decide +kernel
theorem d_Mo_packages_409 : decode prog_13_method_20_code 409 = .ok (.iaload, 1) := by decide +kernel
theorem d_Mo_packages_410 : decode prog_13_method_20_code 410 = .ok (.iadd, 1) := by decide +kernel
theorem d_Mo_packages_411 : decode prog_13_method_20_code 411 = .ok (.iastore, 1) := by decide +kernel
theorem d_Mo_packages_412 : decode prog_13_method_20_code 412 = .ok (.iinc 8 1, 3) := by decide +kernel
theorem d_Mo_packages_415 : decode prog_13_method_20_code 415 = .ok (.goto (-125), 3) := by decide +kernel
theorem d_Mo_packages_418 : decode prog_13_method_20_code 418 = .ok (.iinc 7 (-1), 3) := by decide +kernel
theorem d_Mo_packages_421 : decode prog_13_method_20_code 421 = .ok (.goto (-139), 3) := by decide +kernel
theorem d_Mo_packages_424 : decode prog_13_method_20_code 424 = .ok (.return_, 1) := by decide +kernel
theorem d_Mo_least_0 : decode prog_13_method_22_code 0 = .ok (.iload_n 1, 1) := by decide +kernel
theorem d_Mo_least_1 : decode prog_13_method_22_code 1 = .ok (.iconst 1, 1) := by decide +kernel
theorem d_Mo_least_2 : decode prog_13_method_22_code 2 = .ok (.if_icmp .lt 20, 3) := by decide +kernel
theorem d_Mo_least_5 : decode prog_13_method_22_code 5 = .ok (.iload_n 1, 1) := by decide +kernel
theorem d_Mo_least_6 : decode prog_13_method_22_code 6 = .ok (.bipush 64, 2) := by decide +kernel
theorem d_Mo_least_8 : decode prog_13_method_22_code 8 = .ok (.if_icmp .gt 14, 3) := by decide +kernel
theorem d_Mo_least_11 : decode prog_13_method_22_code 11 = .ok (.iload_n 2, 1) := by decide +kernel
theorem d_Mo_least_12 : decode prog_13_method_22_code 12 = .ok (.iconst 1, 1) := by decide +kernel
theorem d_Mo_least_13 : decode prog_13_method_22_code 13 = .ok (.if_icmp .lt 9, 3) := by decide +kernel
theorem d_Mo_least_16 : decode prog_13_method_22_code 16 = .ok (.iload_n 2, 1) := by decide +kernel
theorem d_Mo_least_17 : decode prog_13_method_22_code 17 = .ok (.bipush 15, 2) := by decide +kernel
theorem d_Mo_least_19 : decode prog_13_method_22_code 19 = .ok (.if_icmp .le 6, 3) := by decide +kernel
theorem d_Mo_least_22 : decode prog_13_method_22_code 22 = .ok (.bipush (-102), 2) := by decide +kernel
theorem d_Mo_least_24 : decode prog_13_method_22_code 24 = .ok (.ireturn, 1) := by decide +kernel
theorem d_Mo_least_25 : decode prog_13_method_22_code 25 = .ok (.aload_n 0, 1) := by decide +kernel
theorem d_Mo_least_26 : decode prog_13_method_22_code 26 = .ok (.getfield 16, 3) := by decide +kernel
theorem d_Mo_least_29 : decode prog_13_method_22_code 29 = .ok (.iload_n 1, 1) := by decide +kernel
theorem d_Mo_least_30 : decode prog_13_method_22_code 30 = .ok (.invokestatic 126, 3) := by decide +kernel
theorem d_Mo_least_33 : decode prog_13_method_22_code 33 = .ok (.iconst 1, 1) := by decide +kernel
theorem d_Mo_least_34 : decode prog_13_method_22_code 34 = .ok (.iload_n 2, 1) := by decide +kernel
theorem d_Mo_least_35 : decode prog_13_method_22_code 35 = .ok (.ishl, 1) := by decide +kernel
theorem d_Mo_least_36 : decode prog_13_method_22_code 36 = .ok (.if_icmp .le 6, 3) := by decide +kernel
theorem d_Mo_least_39 : decode prog_13_method_22_code 39 = .ok (.bipush (-103), 2) := by decide +kernel
theorem d_Mo_least_41 : decode prog_13_method_22_code 41 = .ok (.ireturn, 1) := by decide +kernel
theorem d_Mo_least_42 : decode prog_13_method_22_code 42 = .ok (.aload_n 0, 1) := by decide +kernel
theorem d_Mo_least_43 : decode prog_13_method_22_code 43 = .ok (.getfield 84, 3) := by decide +kernel
theorem d_Mo_least_46 : decode prog_13_method_22_code 46 = .ok (.bipush 12, 2) := by decide +kernel
theorem d_Mo_least_48 : decode prog_13_method_22_code 48 = .ok (.if_icmp .ne 6, 3) := by decide +kernel
theorem d_Mo_least_51 : decode prog_13_method_22_code 51 = .ok (.bipush (-106), 2) := by decide +kernel
theorem d_Mo_least_53 : decode prog_13_method_22_code 53 = .ok (.ireturn, 1) := by decide +kernel
theorem d_Mo_least_54 : decode prog_13_method_22_code 54 = .ok (.aload_n 0, 1) := by decide +kernel
theorem d_Mo_least_55 : decode prog_13_method_22_code 55 = .ok (.iload_n 1, 1) := by decide +kernel
theorem d_Mo_least_56 : decode prog_13_method_22_code 56 = .ok (.invokevirtual 91, 3) := by decide +kernel
theorem d_Mo_least_59 : decode prog_13_method_22_code 59 = .ok (.istore_n 3, 1) := by decide +kernel
theorem d_Mo_least_60 : decode prog_13_method_22_code 60 = .ok (.iconst 0, 1) := by decide +kernel
theorem d_Mo_least_61 : decode prog_13_method_22_code 61 = .ok (.istore 4, 2) := by decide +kernel
theorem d_Mo_least_63 : decode prog_13_method_22_code 63 = .ok (.iload 4, 2) := by decide +kernel
theorem d_Mo_least_65 : decode prog_13_method_22_code 65 = .ok (.iload_n 1, 1) := by decide +kernel
theorem d_Mo_least_66 : decode prog_13_method_22_code 66 = .ok (.if_icmp .ge 23, 3) := by decide +kernel
theorem d_Mo_least_69 : decode prog_13_method_22_code 69 = .ok (.aload_n 0, 1) := by decide +kernel
theorem d_Mo_least_70 : decode prog_13_method_22_code 70 = .ok (.getfield 32, 3) := by decide +kernel
theorem d_Mo_least_73 : decode prog_13_method_22_code 73 = .ok (.iload 4, 2) := by decide +kernel
theorem d_Mo_least_75 : decode prog_13_method_22_code 75 = .ok (.aload_n 0, 1) := by decide +kernel
theorem d_Mo_least_76 : decode prog_13_method_22_code 76 = .ok (.getfield 16, 3) := by decide +kernel
theorem d_Mo_least_79 : decode prog_13_method_22_code 79 = .ok (.iload 4, 2) := by decide +kernel
theorem d_Mo_least_81 : decode prog_13_method_22_code 81 = .ok (.iaload, 1) := by decide +kernel
theorem d_Mo_least_82 : decode prog_13_method_22_code 82 = .ok (.iastore, 1) := by decide +kernel
theorem d_Mo_least_83 : decode prog_13_method_22_code 83 = .ok (.iinc 4 1, 3) := by decide +kernel
theorem d_Mo_least_86 : decode prog_13_method_22_code 86 = .ok (.goto (-23), 3) := by decide +kernel
theorem d_Mo_least_89 : decode prog_13_method_22_code 89 = .ok (.aload_n 0, 1) := by decide +kernel
theorem d_Mo_least_90 : decode prog_13_method_22_code 90 = .ok (.iload_n 3, 1) := by decide +kernel
theorem d_Mo_least_91 : decode prog_13_method_22_code 91 = .ok (.iload_n 1, 1) := by decide +kernel
theorem d_Mo_least_92 : decode prog_13_method_22_code 92 = .ok (.iload_n 2, 1) := by decide +kernel
theorem d_Mo_least_93 : decode prog_13_method_22_code 93 = .ok (.invokevirtual 134, 3) := by decide +kernel
theorem d_Mo_least_96 : decode prog_13_method_22_code 96 = .ok (.iload_n 3, 1) := by decide +kernel
theorem d_Mo_least_97 : decode prog_13_method_22_code 97 = .ok (.ireturn, 1) := by decide +kernel
theorem d_Mo_cost_0 : decode prog_13_method_23_code 0 = .ok (.aload_n 0, 1) := by decide +kernel
theorem d_Mo_cost_1 : decode prog_13_method_23_code 1 = .ok (.iload_n 1, 1) := by decide +kernel
theorem d_Mo_cost_2 : decode prog_13_method_23_code 2 = .ok (.invokevirtual 87, 3) := by decide +kernel
theorem d_Mo_cost_5 : decode prog_13_method_23_code 5 = .ok (.ifCond .ne 7, 3) := by decide +kernel
theorem d_Mo_cost_8 : decode prog_13_method_23_code 8 = .ok (.ldc2_w 138, 3) := by decide +kernel
theorem d_Mo_cost_11 : decode prog_13_method_23_code 11 = .ok (.lreturn, 1) := by decide +kernel
theorem d_Mo_cost_12 : decode prog_13_method_23_code 12 = .ok (.lconst 0, 1) := by decide +kernel
theorem d_Mo_cost_13 : decode prog_13_method_23_code 13 = .ok (.lstore_n 2, 1) := by decide +kernel
theorem d_Mo_cost_14 : decode prog_13_method_23_code 14 = .ok (.iconst 0, 1) := by decide +kernel
theorem d_Mo_cost_15 : decode prog_13_method_23_code 15 = .ok (.istore 4, 2) := by decide +kernel
theorem d_Mo_cost_17 : decode prog_13_method_23_code 17 = .ok (.iload 4, 2) := by decide +kernel
theorem d_Mo_cost_19 : decode prog_13_method_23_code 19 = .ok (.aload_n 0, 1) := by decide +kernel
theorem d_Mo_cost_20 : decode prog_13_method_23_code 20 = .ok (.getfield 7, 3) := by decide +kernel
theorem d_Mo_cost_23 : decode prog_13_method_23_code 23 = .ok (.iload_n 1, 1) := by decide +kernel
theorem d_Mo_cost_24 : decode prog_13_method_23_code 24 = .ok (.iaload, 1) := by decide +kernel
theorem d_Mo_cost_25 : decode prog_13_method_23_code 25 = .ok (.if_icmp .ge 29, 3) := by decide +kernel
theorem d_Mo_cost_28 : decode prog_13_method_23_code 28 = .ok (.lload_n 2, 1) := by decide +kernel
theorem d_Mo_cost_29 : decode prog_13_method_23_code 29 = .ok (.aload_n 0, 1) := by decide +kernel
theorem d_Mo_cost_30 : decode prog_13_method_23_code 30 = .ok (.getfield 16, 3) := by decide +kernel
theorem d_Mo_cost_33 : decode prog_13_method_23_code 33 = .ok (.iload 4, 2) := by decide +kernel
theorem d_Mo_cost_35 : decode prog_13_method_23_code 35 = .ok (.iaload, 1) := by decide +kernel
theorem d_Mo_cost_36 : decode prog_13_method_23_code 36 = .ok (.i2l, 1) := by decide +kernel
theorem d_Mo_cost_37 : decode prog_13_method_23_code 37 = .ok (.aload_n 0, 1) := by decide +kernel
theorem d_Mo_cost_38 : decode prog_13_method_23_code 38 = .ok (.iload_n 1, 1) := by decide +kernel
theorem d_Mo_cost_39 : decode prog_13_method_23_code 39 = .ok (.iload 4, 2) := by decide +kernel
theorem d_Mo_cost_41 : decode prog_13_method_23_code 41 = .ok (.invokevirtual 99, 3) := by decide +kernel
theorem d_Mo_cost_44 : decode prog_13_method_23_code 44 = .ok (.i2l, 1) := by decide +kernel
theorem d_Mo_cost_45 : decode prog_13_method_23_code 45 = .ok (.lmul, 1) := by decide +kernel
theorem d_Mo_cost_46 : decode prog_13_method_23_code 46 = .ok (.ladd, 1) := by decide +kernel
theorem d_Mo_cost_47 : decode prog_13_method_23_code 47 = .ok (.lstore_n 2, 1) := by decide +kernel
theorem d_Mo_cost_48 : decode prog_13_method_23_code 48 = .ok (.iinc 4 1, 3) := by decide +kernel
theorem d_Mo_cost_51 : decode prog_13_method_23_code 51 = .ok (.goto (-34), 3) := by decide +kernel
theorem d_Mo_cost_54 : decode prog_13_method_23_code 54 = .ok (.lload_n 2, 1) := by decide +kernel
theorem d_Mo_cost_55 : decode prog_13_method_23_code 55 = .ok (.lreturn, 1) := by decide +kernel
theorem d_Mo_bits_0 : decode prog_13_method_24_code 0 = .ok (.aload_n 0, 1) := by decide +kernel
theorem d_Mo_bits_1 : decode prog_13_method_24_code 1 = .ok (.getfield 140, 3) := by decide +kernel
theorem d_Mo_bits_4 : decode prog_13_method_24_code 4 = .ok (.aload_n 0, 1) := by decide +kernel
theorem d_Mo_bits_5 : decode prog_13_method_24_code 5 = .ok (.getfield 143, 3) := by decide +kernel
theorem d_Mo_bits_8 : decode prog_13_method_24_code 8 = .ok (.isub, 1) := by decide +kernel
theorem d_Mo_bits_9 : decode prog_13_method_24_code 9 = .ok (.ireturn, 1) := by decide +kernel
theorem d_Mo_bit_0 : decode prog_13_method_25_code 0 = .ok (.aload_n 0, 1) := by decide +kernel
theorem d_Mo_bit_1 : decode prog_13_method_25_code 1 = .ok (.iconst 0, 1) := by decide +kernel
theorem d_Mo_bit_2 : decode prog_13_method_25_code 2 = .ok (.putfield 81, 3) := by decide +kernel
theorem d_Mo_bit_5 : decode prog_13_method_25_code 5 = .ok (.iload_n 1, 1) := by decide +kernel
theorem d_Mo_bit_6 : decode prog_13_method_25_code 6 = .ok (.ifCond .lt 16, 3) := by decide +kernel
theorem d_Mo_bit_9 : decode prog_13_method_25_code 9 = .ok (.iload_n 1, 1) := by decide +kernel
theorem d_Mo_bit_10 : decode prog_13_method_25_code 10 = .ok (.aload_n 0, 1) := by decide +kernel
theorem d_Mo_bit_11 : decode prog_13_method_25_code 11 = .ok (.getfield 140, 3) := by decide +kernel
theorem d_Mo_bit_14 : decode prog_13_method_25_code 14 = .ok (.aload_n 0, 1) := by decide +kernel
theorem d_Mo_bit_15 : decode prog_13_method_25_code 15 = .ok (.getfield 143, 3) := by decide +kernel
theorem d_Mo_bit_18 : decode prog_13_method_25_code 18 = .ok (.isub, 1) := by decide +kernel
theorem d_Mo_bit_19 : decode prog_13_method_25_code 19 = .ok (.if_icmp .lt 10, 3) := by decide +kernel
theorem d_Mo_bit_22 : decode prog_13_method_25_code 22 = .ok (.aload_n 0, 1) := by decide +kernel
theorem d_Mo_bit_23 : decode prog_13_method_25_code 23 = .ok (.iconst 1, 1) := by decide +kernel
theorem d_Mo_bit_24 : decode prog_13_method_25_code 24 = .ok (.putfield 81, 3) := by decide +kernel
theorem d_Mo_bit_27 : decode prog_13_method_25_code 27 = .ok (.iconst 0, 1) := by decide +kernel
theorem d_Mo_bit_28 : decode prog_13_method_25_code 28 = .ok (.ireturn, 1) := by decide +kernel
theorem d_Mo_bit_29 : decode prog_13_method_25_code 29 = .ok (.aload_n 0, 1) := by decide +kernel
theorem d_Mo_bit_30 : decode prog_13_method_25_code 30 = .ok (.getfield 36, 3) := by decide +kernel
theorem d_Mo_bit_33 : decode prog_13_method_25_code 33 = .ok (.aload_n 0, 1) := by decide +kernel
theorem d_Mo_bit_34 : decode prog_13_method_25_code 34 = .ok (.getfield 143, 3) := by decide +kernel
theorem d_Mo_bit_37 : decode prog_13_method_25_code 37 = .ok (.iload_n 1, 1) := by decide +kernel
theorem d_Mo_bit_38 : decode prog_13_method_25_code 38 = .ok (.iadd, 1) := by decide +kernel
theorem d_Mo_bit_39 : decode prog_13_method_25_code 39 = .ok (.baload, 1) := by decide +kernel
theorem d_Mo_bit_40 : decode prog_13_method_25_code 40 = .ok (.ireturn, 1) := by decide +kernel
noncomputable def lb_Mo_packages_43 (a2 : Int32) (a3 : Int32) (x1 : Int32) (v5 : Int32) (v6 : Int32) (σ : St) (v7 : Int32) : Option ((St × Int32) ⊕ ((St × Int32))) :=
  if v7 ≤ 0 then
    some (.inr (σ, v7))
  else
  gd (ib (v7 - 1) 1920) <|
  gd (ib (σ.1 53 0 (v7 - 1).toNatClampNeg) 64) <|
  gd (ib v6 64) <|
  if (σ.1 56 0 (σ.1 53 0 (v7 - 1).toNatClampNeg).toNatClampNeg) ≤ (σ.1 56 0 v6.toNatClampNeg) then
    some (.inr (σ, v7))
  else
  gd (ib (v7 - 1) 1920) <|
  gd (ib v7 1920) <|
  nm (sI σ 53 0 (v7.toNatClampNeg) (σ.1 53 0 (v7 - 1).toNatClampNeg)) fun σ4 =>
  nm (v7 + (-1)) fun x5 =>
  some (.inl (σ4, x5))
noncomputable def lb_Mo_packages_12 (a2 : Int32) (a3 : Int32) (x1 : Int32) (σ : St) (v5 : Int32) (v6 : Int32) : Option ((St × Int32 × Int32) ⊕ ((St × Int32 × Int32))) :=
  if a2 ≤ v6 then
    some (.inr (σ, v5, v6))
  else
  gd (ib (x1 + v6) 832) <|
  nm (sI σ 50 0 ((x1 + v6).toNatClampNeg) 0) fun σ2 =>
  gd (ib v6 64) <|
  if (σ2.1 56 0 v6.toNatClampNeg) ≤ 0 then
    nm (v6 + 1) fun x3 =>
    some (.inl (σ2, v5, x3))
  else
  b2 (lpE (fun q => lb_Mo_packages_43 a2 a3 x1 v5 v6 q.1 q.2) (σ2, v5)) fun σ6 x7 =>
  gd (ib x7 1920) <|
  nm (sI σ6 53 0 (x7.toNatClampNeg) v6) fun σ8 =>
  nm (v5 + 1) fun x9 =>
  nm (v6 + 1) fun x10 =>
  some (.inl (σ8, x9, x10))
noncomputable def lb_Mo_packages_162 (a3 : Int32) (x1 : Int32) (x12 : Int32) (σ : St) (v6 : Int32) : Option ((St × Int32) ⊕ ((St × Int32))) :=
  if x12 ≤ v6 then
    some (.inr (σ, v6))
  else
  gd (ib v6 1920) <|
  gd (ib (σ.1 53 0 v6.toNatClampNeg) 64) <|
  gd (ib v6 1920) <|
  nm (sL σ 52 0 (v6.toNatClampNeg) ((σ.1 56 0 (σ.1 53 0 v6.toNatClampNeg).toNatClampNeg).toInt64)) fun σ15 =>
  nm (v6 + 1) fun x16 =>
  some (.inl (σ15, x16))
noncomputable def lb_Mo_packages_198 (a3 : Int32) (x1 : Int32) (x12 : Int32) (σ : St) (v6 : Int32) : Option ((St × Int32) ⊕ ((St × Int32))) :=
  if a3 ≤ v6 then
    some (.inr (σ, v6))
  else
  b1 (f_Mo_join σ v6 x12) fun σ19 =>
  nm (v6 + 1) fun x20 =>
  some (.inl (σ19, x20))
noncomputable def lb_Mo_packages_230 (a3 : Int32) (x1 : Int32) (x12 : Int32) (x23 : Int32) (σ : St) (v7 : Int32) : Option ((St × Int32) ⊕ ((St × Int32))) :=
  if 1920 ≤ v7 then
    some (.inr (σ, v7))
  else
  if v7 < x23 then
    gd (ib v7 1920) <|
    nm (sI σ 54 0 (v7.toNatClampNeg) 0) fun σ24 =>
    nm (v7 + 1) fun x25 =>
    some (.inl (σ24, x25))
  else
  if ((x23 + (2 * x12)) - 2) ≤ v7 then
    gd (ib v7 1920) <|
    nm (sI σ 54 0 (v7.toNatClampNeg) 0) fun σ26 =>
    nm (v7 + 1) fun x27 =>
    some (.inl (σ26, x27))
  else
  gd (ib v7 1920) <|
  nm (sI σ 54 0 (v7.toNatClampNeg) 1) fun σ28 =>
  nm (v7 + 1) fun x29 =>
  some (.inl (σ28, x29))
noncomputable def lb_Mo_packages_290 (x1 : Int32) (v7 : Int32) (σ : St) (v8 : Int32) : Option ((St × Int32) ⊕ ((St × Int32))) :=
  gd (ib v7 15) <|
  if (σ.1 55 0 v7.toNatClampNeg) ≤ v8 then
    some (.inr (σ, v8))
  else
  nm ((128 * v7) + v8) fun x33 =>
  gd (ib x33 1920) <|
  if 1000 ≤ (σ.1 53 0 x33.toNatClampNeg) then
    gd (ib x33 1920) <|
    nm (((128 * (v7 - 1)) + (σ.1 53 0 x33.toNatClampNeg)) - 1000) fun x34 =>
    gd (ib x34 1920) <|
    gd (ib x33 1920) <|
    gd (ib x34 1920) <|
    nm (sI σ 54 0 (x34.toNatClampNeg) ((σ.1 54 0 x34.toNatClampNeg) + (σ.1 54 0 x33.toNatClampNeg))) fun σ35 =>
    gd (ib (x34 + 1) 1920) <|
    gd (ib x33 1920) <|
    gd (ib (x34 + 1) 1920) <|
    nm (sI σ35 54 0 ((x34 + 1).toNatClampNeg) ((σ35.1 54 0 (x34 + 1).toNatClampNeg) + (σ35.1 54 0 x33.toNatClampNeg))) fun σ36 =>
    nm (v8 + 1) fun x37 =>
    some (.inl (σ36, x37))
  else
  gd (ib x33 1920) <|
  gd (ib (x1 + (σ.1 53 0 x33.toNatClampNeg)) 832) <|
  gd (ib x33 1920) <|
  gd (ib (x1 + (σ.1 53 0 x33.toNatClampNeg)) 832) <|
  nm (sI σ 50 0 ((x1 + (σ.1 53 0 x33.toNatClampNeg)).toNatClampNeg) ((σ.1 50 0 (x1 + (σ.1 53 0 x33.toNatClampNeg)).toNatClampNeg) + (σ.1 54 0 x33.toNatClampNeg))) fun σ38 =>
  nm (v8 + 1) fun x39 =>
  some (.inl (σ38, x39))
noncomputable def lb_Mo_packages_282 (x1 : Int32) (σ : St) (v7 : Int32) : Option ((St × Int32) ⊕ ((St × Int32))) :=
  if v7 < 0 then
    some (.inr (σ, v7))
  else
  b2 (lpE (fun q => lb_Mo_packages_290 x1 v7 q.1 q.2) (σ, 0)) fun σ40 x41 =>
  nm (v7 + (-1)) fun x42 =>
  some (.inl (σ40, x42))
noncomputable def lb_Mo_packages_121 (x1 : Int32) (x12 : Int32) (σ : St) (v6 : Int32) : Option ((St × Int32) ⊕ ((St × Int32))) :=
  if x12 ≤ v6 then
    some (.inr (σ, v6))
  else
  gd (ib v6 1920) <|
  gd (ib (x1 + (σ.1 53 0 v6.toNatClampNeg)) 832) <|
  nm (sI σ 50 0 ((x1 + (σ.1 53 0 v6.toNatClampNeg)).toNatClampNeg) 1) fun σ45 =>
  nm (v6 + 1) fun x46 =>
  some (.inl (σ45, x46))
noncomputable def f_Mo_packages (σ : St) (a1 : Int32) (a2 : Int32) (a3 : Int32) : Option (St) :=
  nm (64 * a1) fun x1 =>
  b3 (lpE (fun q => lb_Mo_packages_12 a2 a3 x1 q.1 q.2.1 q.2.2) (σ, 0, 0)) fun σ11 x12 x13 =>
  if 2 ≤ x12 then
    gd (ib 0 15) <|
    nm (sI σ11 55 0 ((0 : Int32).toNatClampNeg) x12) fun σ14 =>
    b2 (lpE (fun q => lb_Mo_packages_162 a3 x1 x12 q.1 q.2) (σ14, 0)) fun σ17 x18 =>
    b2 (lpE (fun q => lb_Mo_packages_198 a3 x1 x12 q.1 q.2) (σ17, 1)) fun σ21 x22 =>
    nm (128 * (a3 - 1)) fun x23 =>
    b2 (lpE (fun q => lb_Mo_packages_230 a3 x1 x12 x23 q.1 q.2) (σ21, 0)) fun σ30 x31 =>
    nm (a3 - 1) fun x32 =>
    b2 (lpE (fun q => lb_Mo_packages_282 x1 q.1 q.2) (σ30, x32)) fun σ43 x44 =>
    some σ43
  else
  b2 (lpE (fun q => lb_Mo_packages_121 x1 x12 q.1 q.2) (σ11, 0)) fun σ47 x48 =>
  some σ47
noncomputable def lb_Mo_least_63 (a1 : Int32) (a2 : Int32) (x4 : Int32) (σ : St) (v4 : Int32) : Option ((St × Int32) ⊕ ((St × Int32))) :=
  if a1 ≤ v4 then
    some (.inr (σ, v4))
  else
  gd (ib v4 64) <|
  gd (ib v4 64) <|
  nm (sI σ 56 0 (v4.toNatClampNeg) (σ.1 51 0 v4.toNatClampNeg)) fun σ5 =>
  nm (v4 + 1) fun x6 =>
  some (.inl (σ5, x6))
noncomputable def f_Mo_least (σ : St) (a1 : Int32) (a2 : Int32) : Option (St × Int32) :=
  if a1 < 1 then
    some (σ, (-102))
  else
  if 64 < a1 then
    some (σ, (-102))
  else
  if a2 < 1 then
    some (σ, (-102))
  else
  if a2 ≤ 15 then
    b2 (f_Mo_different σ 51 0 64 a1) fun σ1 x2 =>
    if x2 ≤ (1 <<< (a2 &&& 31)) then
      if (σ1.1 48 0 1) = 12 then
        some (σ1, (-106))
      else
      b2 (f_Mo_made σ1 a1) fun σ3 x4 =>
      b2 (lpE (fun q => lb_Mo_least_63 a1 a2 x4 q.1 q.2) (σ3, 0)) fun σ7 x8 =>
      b1 (f_Mo_packages σ7 x4 a1 a2) fun σ9 =>
      some (σ9, x4)
    else
    some (σ1, (-103))
  else
  some (σ, (-102))
noncomputable def lb_Mo_cost_17 (a1 : Int32) (σ : St) (v2 : Int64) (v4 : Int32) : Option ((St × Int64 × Int32) ⊕ ((St × Int64 × Int32))) :=
  gd (ib a1 13) <|
  if (σ.1 49 0 a1.toNatClampNeg) ≤ v4 then
    some (.inr (σ, v2, v4))
  else
  gd (ib v4 64) <|
  b2 (f_Mo_lengthOf σ a1 v4) fun σ3 x4 =>
  nm (v2 + (((σ.1 51 0 v4.toNatClampNeg).toInt64) * x4.toInt64)) fun x5 =>
  nm (v4 + 1) fun x6 =>
  some (.inl (σ3, x5, x6))
noncomputable def f_Mo_cost (σ : St) (a1 : Int32) : Option (St × Int64) :=
  b2 (f_Mo_has σ a1) fun σ1 x2 =>
  if x2 = 0 then
    some (σ1, (-101))
  else
  b3 (lpE (fun q => lb_Mo_cost_17 a1 q.1 q.2.1 q.2.2) (σ1, 0, 0)) fun σ7 x8 x9 =>
  some (σ7, x8)
noncomputable def f_Mo_bits (σ : St) : Option (St × Int32) :=
  some (σ, (σ.1 48 0 12) - (σ.1 48 0 11))
noncomputable def f_Mo_bit (σ : St) (a1 : Int32) : Option (St × Int32) :=
  nm (sI σ 48 0 0 0) fun σ1 =>
  if a1 < 0 then
    nm (sI σ1 48 0 0 1) fun σ2 =>
    some (σ2, 0)
  else
  if a1 < ((σ1.1 48 0 12) - (σ1.1 48 0 11)) then
    gd (ib ((σ1.1 48 0 11) + a1) 60000) <|
    some (σ1, σ1.1 57 0 ((σ1.1 48 0 11) + a1).toNatClampNeg)
  else
  nm (sI σ1 48 0 0 1) fun σ3 =>
  some (σ3, 0)
set_option maxHeartbeats 4000000 in
set_option maxRecDepth 100000 in
theorem c_Mo_packages (l : Launch) (D : va_G) (aC : Nat → ClassId) (A : Nat → Prop) (ad : Nat → Nat → Nat) (n : Nat) (σ : St) (a1 : Int32) (a2 : Int32) (a3 : Int32) (o : St) (h : f_Mo_packages σ a1 a2 a3 = some o) : Met l y_Mo_packages w_Mo_packages rm_Mo_packages (va_Pc [.ref (ad 48 0), .int a1, .int a2, .int a3] (Pre D aC A ad n σ)) (va_Qv (fun (_ : Unit) => True) (fun _ t => Hold D aC A ad n o t.heap) A) 0 0 A := by
  refine Met.ofW (cc := prog_13_method_20_code) (maxL := 11) (ret := none) (by decide) rfl ?_
  intro p e s m args below meth c s₁ B hml hv
  obtain ⟨hargs, hH, hK, hZ⟩ := hv
  have hx := B.exec
  have hb := B.bytes
  have hr := B.returns
  have hts := atoms_spec (ws := w_Mo_packages) B.pre
  have hg : ∀ w ∈ gW, w.before args s = true := fun w h => hts w (List.mem_cons_of_mem _ h)
  have hown : s.vm.findClass "PrefixCodesModel" = some m.cls := findClass_of_methodNamed B.named
  have hlocks := B.notSynchronized
  have hS : va_S A s.heap s.heap [] := va_S.rf
  have hl := lv_entry ([.ref (ad 48 0), .int a1, .int a2, .int a3]) (n := 11) (Nat.le_of_ble_eq_true rfl)
  rw [show entryFrame m args 11 = entryFrame m (([.ref (ad 48 0), .int a1, .int a2, .int a3] : List Value).toArray) 11 by rw [hargs], lg_entry_eq]
  generalize (lg_sl ([.ref (ad 48 0), .int a1, .int a2, .int a3]) ++ List.replicate (11 - (lg_sl ([.ref (ad 48 0), .int a1, .int a2, .int a3])).length) Slot.unset).toArray = ls at hl ⊢
  have hl : lv_has ls 11 [(0, .ref (ad 48 0)), (1, .int a1), (2, .int a2), (3, .int a3)] := hl
  generalize hQ0 : MQ below (va_Qv (fun (_ : Unit) => True) (fun _ t => Hold D aC A ad n o t.heap) A) args s 0 0 A = Q0
  unfold f_Mo_packages at h
  refine lv_bipush (v := 64) hx hb d_Mo_packages_0 (by decide) ?_
  refine lv_iload_n hx hb d_Mo_packages_2 rfl (lv_at hl 1 rfl) ?_
  refine lv_imul hx hb d_Mo_packages_3 ?_
  refine lv_topi (fun x1 ex1 => ?_)
  have h := nm_at ex1 h
  refine lv_istore (lv' := [(4, .int x1), (0, .ref (ad 48 0)), (1, .int a1), (2, .int a2), (3, .int a3)]) hx hb d_Mo_packages_4 hl (by decide) rfl (fun ls hl => ?_)
  refine lv_iconst (v := 0) hx hb d_Mo_packages_6 (by decide) ?_
  refine lv_istore (lv' := [(5, .int 0), (4, .int x1), (0, .ref (ad 48 0)), (1, .int a1), (2, .int a2), (3, .int a3)]) hx hb d_Mo_packages_7 hl (by decide) rfl (fun ls hl => ?_)
  refine lv_iconst (v := 0) hx hb d_Mo_packages_9 (by decide) ?_
  refine lv_istore (lv' := [(6, .int 0), (5, .int 0), (4, .int x1), (0, .ref (ad 48 0)), (1, .int a1), (2, .int a2), (3, .int a3)]) hx hb d_Mo_packages_10 hl (by decide) rfl (fun ls hl => ?_)
  obtain ⟨q1, hq1, h⟩ := b3_some h
  have K1 : ∀ (σ11 : St) (x12 : Int32) (x13 : Int32) (H : Heap) (locs : List Loc) (ls : Array Slot), q1 = (σ11, x12, x13) → Hold D aC A ad n σ11 H → va_S A s.heap H locs → lv_has ls 11 [(0, .ref (ad 48 0)), (2, .int a2), (3, .int a3), (4, .int x1), (5, .int x12), (6, .int x13)] → W p l e (headSpec w_Mo_packages rm_Mo_packages).room s m args below meth c H locs 0 0 Q0 (F0 m 112 ls []) := by
    intro σ11 x12 x13 H locs ls eq1 hH hS hl
    subst eq1
    have h := b3_at h
    refine lv_iload hx hb d_Mo_packages_112 (lv_at hl 4 rfl) ?_
    refine lv_iconst (v := 2) hx hb d_Mo_packages_114 (by decide) ?_
    refine lv_icmp_ge (tgt := 151) hx hb d_Mo_packages_115 (by decide) (fun c115 => ?_) (fun c115 => ?_)
    · have h := it h c115
      refine lv_aload_n hx hb d_Mo_packages_151 rfl (lv_at hl 0 rfl) ?_
      refine st_get hx hb hg hown hK hH (f := 48) (i := 0) hd_48 rfl rfl u_Mo 8 (by decide) (hg _ wd_475) (v := .ref (ad 55 0)) rfl d_Mo_packages_152 ?_
      refine lv_iconst (v := 0) hx hb d_Mo_packages_155 (by decide) ?_
      refine lv_iload hx hb d_Mo_packages_156 (lv_at hl 4 rfl) ?_
      obtain ⟨g158, h⟩ := gd_some h
      refine st_iast hx hb hK hH hS (f := 55) (i := 0) hd_55 rfl g158 d_Mo_packages_158 (fun σ14 H locs eσ14 hH hS => ?_)
      have h := nm_at eσ14 h
      refine lv_iconst (v := 0) hx hb d_Mo_packages_159 (by decide) ?_
      refine lv_istore (lv' := [(6, .int 0), (0, .ref (ad 48 0)), (2, .int a2), (3, .int a3), (4, .int x1), (5, .int x12)]) hx hb d_Mo_packages_160 hl (by decide) rfl (fun ls hl => ?_)
      obtain ⟨q1, hq1, h⟩ := b2_some h
      have K1 : ∀ (σ17 : St) (x18 : Int32) (H : Heap) (locs : List Loc) (ls : Array Slot), q1 = (σ17, x18) → Hold D aC A ad n σ17 H → va_S A s.heap H locs → lv_has ls 11 [(0, .ref (ad 48 0)), (3, .int a3), (4, .int x1), (5, .int x12), (6, .int x18)] → W p l e (headSpec w_Mo_packages rm_Mo_packages).room s m args below meth c H locs 0 0 Q0 (F0 m 195 ls []) := by
        intro σ17 x18 H locs ls eq1 hH hS hl
        subst eq1
        have h := b2_at h
        refine lv_iconst (v := 1) hx hb d_Mo_packages_195 (by decide) ?_
        refine lv_istore (lv' := [(6, .int 1), (0, .ref (ad 48 0)), (3, .int a3), (4, .int x1), (5, .int x12)]) hx hb d_Mo_packages_196 hl (by decide) rfl (fun ls hl => ?_)
        obtain ⟨q1, hq1, h⟩ := b2_some h
        have K1 : ∀ (σ21 : St) (x22 : Int32) (H : Heap) (locs : List Loc) (ls : Array Slot), q1 = (σ21, x22) → Hold D aC A ad n σ21 H → va_S A s.heap H locs → lv_has ls 11 [(0, .ref (ad 48 0)), (3, .int a3), (4, .int x1), (5, .int x12), (6, .int x22)] → W p l e (headSpec w_Mo_packages rm_Mo_packages).room s m args below meth c H locs 0 0 Q0 (F0 m 218 ls []) := by
          intro σ21 x22 H locs ls eq1 hH hS hl
          subst eq1
          have h := b2_at h
          refine lv_sipush (v := 128) hx hb d_Mo_packages_218 (by decide) ?_
          refine lv_iload_n hx hb d_Mo_packages_221 rfl (lv_at hl 1 rfl) ?_
          refine lv_iconst (v := 1) hx hb d_Mo_packages_222 (by decide) ?_
          refine lv_isub hx hb d_Mo_packages_223 ?_
          refine lv_imul hx hb d_Mo_packages_224 ?_
          refine lv_topi (fun x23 ex23 => ?_)
          have h := nm_at ex23 h
          refine lv_istore (lv' := [(6, .int x23), (0, .ref (ad 48 0)), (3, .int a3), (4, .int x1), (5, .int x12)]) hx hb d_Mo_packages_225 hl (by decide) rfl (fun ls hl => ?_)
          refine lv_iconst (v := 0) hx hb d_Mo_packages_227 (by decide) ?_
          refine lv_istore (lv' := [(7, .int 0), (6, .int x23), (0, .ref (ad 48 0)), (3, .int a3), (4, .int x1), (5, .int x12)]) hx hb d_Mo_packages_228 hl (by decide) rfl (fun ls hl => ?_)
          obtain ⟨q1, hq1, h⟩ := b2_some h
          have K1 : ∀ (σ30 : St) (x31 : Int32) (H : Heap) (locs : List Loc) (ls : Array Slot), q1 = (σ30, x31) → Hold D aC A ad n σ30 H → va_S A s.heap H locs → lv_has ls 11 [(0, .ref (ad 48 0)), (3, .int a3), (4, .int x1), (5, .int x12), (6, .int x23), (7, .int x31)] → W p l e (headSpec w_Mo_packages rm_Mo_packages).room s m args below meth c H locs 0 0 Q0 (F0 m 277 ls []) := by
            intro σ30 x31 H locs ls eq1 hH hS hl
            subst eq1
            have h := b2_at h
            refine lv_iload_n hx hb d_Mo_packages_277 rfl (lv_at hl 1 rfl) ?_
            refine lv_iconst (v := 1) hx hb d_Mo_packages_278 (by decide) ?_
            refine lv_isub hx hb d_Mo_packages_279 ?_
            refine lv_topi (fun x32 ex32 => ?_)
            have h := nm_at ex32 h
            refine lv_istore (lv' := [(7, .int x32), (0, .ref (ad 48 0)), (3, .int a3), (4, .int x1), (5, .int x12), (6, .int x23)]) hx hb d_Mo_packages_280 hl (by decide) rfl (fun ls hl => ?_)
            obtain ⟨q1, hq1, h⟩ := b2_some h
            have K1 : ∀ (σ43 : St) (x44 : Int32) (H : Heap) (locs : List Loc) (ls : Array Slot), q1 = (σ43, x44) → Hold D aC A ad n σ43 H → va_S A s.heap H locs → lv_has ls 11 [(0, .ref (ad 48 0)), (4, .int x1), (7, .int x44)] → W p l e (headSpec w_Mo_packages rm_Mo_packages).room s m args below meth c H locs 0 0 Q0 (F0 m 424 ls []) := by
              intro σ43 x44 H locs ls eq1 hH hS hl
              subst eq1
              have h := b2_at h
              cases h
              rw [← hQ0]
              exact W.vret hx hb hr (fun t ht hW => ⟨⟨(), rfl, trivial, by dsimp only; rw [ht]; exact hH⟩, hS.F ht⟩) hS.2.2 d_Mo_packages_424
            have loop1 : ∀ (k : Nat) (σ : St) (v7 : Int32) (H : Heap) (locs : List Loc) (ls : Array Slot), Hold D aC A ad n σ H → va_S A s.heap H locs → lv_has ls 11 [(0, .ref (ad 48 0)), (4, .int x1), (7, .int v7)] → lp (fun q => lb_Mo_packages_282 x1 q.1 q.2) k (σ, v7) = some q1 → W p l e (headSpec w_Mo_packages rm_Mo_packages).room s m args below meth c H locs 0 0 Q0 (F0 m 282 ls []) := by
              intro k
              induction k with
              | zero => intro σ v7 H locs ls hH hS hl hlp; exact absurd hlp (lp_zero _ _ _)
              | succ k ih1 =>
                intro σ v7 H locs ls hH hS hl hlp
                obtain ⟨z1, h1, hk1⟩ := lp_succ hlp
                have h1 : lb_Mo_packages_282 x1 σ v7 = some z1 := h1
                unfold lb_Mo_packages_282 at h1
                refine lv_iload hx hb d_Mo_packages_282 (lv_at hl 2 rfl) ?_
                refine lv_if_lt (tgt := 424) hx hb d_Mo_packages_284 (by decide) (fun c284 => ?_) (fun c284 => ?_)
                · have h1 := it h1 c284
                  cases h1
                  exact K1 σ v7 _ _ ls (Option.some.inj hk1).symm hH hS (lv_sub hl [0, 1, 2] rfl)
                · have h1 := ie h1 c284
                  refine lv_iconst (v := 0) hx hb d_Mo_packages_287 (by decide) ?_
                  refine lv_istore (lv' := [(8, .int 0), (0, .ref (ad 48 0)), (4, .int x1), (7, .int v7)]) hx hb d_Mo_packages_288 hl (by decide) rfl (fun ls hl => ?_)
                  obtain ⟨q2, hq2, h1⟩ := b2_some h1
                  have K2 : ∀ (σ40 : St) (x41 : Int32) (H : Heap) (locs : List Loc) (ls : Array Slot), q2 = (σ40, x41) → Hold D aC A ad n σ40 H → va_S A s.heap H locs → lv_has ls 11 [(0, .ref (ad 48 0)), (4, .int x1), (7, .int v7), (8, .int x41)] → W p l e (headSpec w_Mo_packages rm_Mo_packages).room s m args below meth c H locs 0 0 Q0 (F0 m 418 ls []) := by
                    intro σ40 x41 H locs ls eq2 hH hS hl
                    subst eq2
                    have h1 := b2_at h1
                    obtain ⟨x42, ex42⟩ : ∃ y : Int32, y = v7 + (-1) := ⟨_, rfl⟩
                    have h1 := nm_at ex42 h1
                    refine lv_iinc (v := x42) (lv' := [(7, .int x42), (0, .ref (ad 48 0)), (4, .int x1), (8, .int x41)]) hx hb d_Mo_packages_418 hl (k := 2) rfl (by rw [ex42]; rfl) (by decide) rfl (fun ls hl => ?_)
                    refine lv_goto (tgt := 282) hx hb d_Mo_packages_421 (by decide) ?_
                    cases h1
                    exact ih1 σ40 x42 _ _ ls hH hS (lv_sub hl [1, 2, 0] rfl) hk1
                  have loop2 : ∀ (k : Nat) (σ : St) (v8 : Int32) (H : Heap) (locs : List Loc) (ls : Array Slot), Hold D aC A ad n σ H → va_S A s.heap H locs → lv_has ls 11 [(0, .ref (ad 48 0)), (4, .int x1), (7, .int v7), (8, .int v8)] → lp (fun q => lb_Mo_packages_290 x1 v7 q.1 q.2) k (σ, v8) = some q2 → W p l e (headSpec w_Mo_packages rm_Mo_packages).room s m args below meth c H locs 0 0 Q0 (F0 m 290 ls []) := by
                    intro k
                    induction k with
                    | zero => intro σ v8 H locs ls hH hS hl hlp; exact absurd hlp (lp_zero _ _ _)
                    | succ k ih2 =>
                      intro σ v8 H locs ls hH hS hl hlp
                      obtain ⟨z2, h2, hk2⟩ := lp_succ hlp
                      have h2 : lb_Mo_packages_290 x1 v7 σ v8 = some z2 := h2
                      unfold lb_Mo_packages_290 at h2
                      refine lv_iload hx hb d_Mo_packages_290 (lv_at hl 3 rfl) ?_
                      refine lv_aload_n hx hb d_Mo_packages_292 rfl (lv_at hl 0 rfl) ?_
                      refine st_get hx hb hg hown hK hH (f := 48) (i := 0) hd_48 rfl rfl u_Mo 8 (by decide) (hg _ wd_475) (v := .ref (ad 55 0)) rfl d_Mo_packages_293 ?_
                      refine lv_iload hx hb d_Mo_packages_296 (lv_at hl 2 rfl) ?_
                      obtain ⟨g298, h2⟩ := gd_some h2
                      refine st_iald hx hb hK hH (f := 55) (i := 0) hd_55 rfl g298 d_Mo_packages_298 ?_
                      refine lv_icmp_ge (tgt := 418) hx hb d_Mo_packages_299 (by decide) (fun c299 => ?_) (fun c299 => ?_)
                      · have h2 := it h2 c299
                        cases h2
                        exact K2 σ v8 _ _ ls (Option.some.inj hk2).symm hH hS (lv_sub hl [0, 1, 2, 3] rfl)
                      · have h2 := ie h2 c299
                        refine lv_sipush (v := 128) hx hb d_Mo_packages_302 (by decide) ?_
                        refine lv_iload hx hb d_Mo_packages_305 (lv_at hl 2 rfl) ?_
                        refine lv_imul hx hb d_Mo_packages_307 ?_
                        refine lv_iload hx hb d_Mo_packages_308 (lv_at hl 3 rfl) ?_
                        refine lv_iadd hx hb d_Mo_packages_310 ?_
                        refine lv_topi (fun x33 ex33 => ?_)
                        have h2 := nm_at ex33 h2
                        refine lv_istore (lv' := [(9, .int x33), (0, .ref (ad 48 0)), (4, .int x1), (7, .int v7), (8, .int v8)]) hx hb d_Mo_packages_311 hl (by decide) rfl (fun ls hl => ?_)
                        refine lv_aload_n hx hb d_Mo_packages_313 rfl (lv_at hl 1 rfl) ?_
                        refine st_get hx hb hg hown hK hH (f := 48) (i := 0) hd_48 rfl rfl u_Mo 6 (by decide) (hg _ wd_477) (v := .ref (ad 53 0)) rfl d_Mo_packages_314 ?_
                        refine lv_iload hx hb d_Mo_packages_317 (lv_at hl 0 rfl) ?_
                        obtain ⟨g319, h2⟩ := gd_some h2
                        refine st_iald hx hb hK hH (f := 53) (i := 0) hd_53 rfl g319 d_Mo_packages_319 ?_
                        refine lv_sipush (v := 1000) hx hb d_Mo_packages_320 (by decide) ?_
                        refine lv_icmp_ge (tgt := 354) hx hb d_Mo_packages_323 (by decide) (fun c323 => ?_) (fun c323 => ?_)
                        · have h2 := it h2 c323
                          refine lv_sipush (v := 128) hx hb d_Mo_packages_354 (by decide) ?_
                          refine lv_iload hx hb d_Mo_packages_357 (lv_at hl 3 rfl) ?_
                          refine lv_iconst (v := 1) hx hb d_Mo_packages_359 (by decide) ?_
                          refine lv_isub hx hb d_Mo_packages_360 ?_
                          refine lv_imul hx hb d_Mo_packages_361 ?_
                          refine lv_aload_n hx hb d_Mo_packages_362 rfl (lv_at hl 1 rfl) ?_
                          refine st_get hx hb hg hown hK hH (f := 48) (i := 0) hd_48 rfl rfl u_Mo 6 (by decide) (hg _ wd_477) (v := .ref (ad 53 0)) rfl d_Mo_packages_363 ?_
                          refine lv_iload hx hb d_Mo_packages_366 (lv_at hl 0 rfl) ?_
                          obtain ⟨g368, h2⟩ := gd_some h2
                          refine st_iald hx hb hK hH (f := 53) (i := 0) hd_53 rfl g368 d_Mo_packages_368 ?_
                          refine lv_iadd hx hb d_Mo_packages_369 ?_
                          refine lv_sipush (v := 1000) hx hb d_Mo_packages_370 (by decide) ?_
                          refine lv_isub hx hb d_Mo_packages_373 ?_
                          refine lv_topi (fun x34 ex34 => ?_)
                          have h2 := nm_at ex34 h2
                          refine lv_istore (lv' := [(10, .int x34), (9, .int x33), (0, .ref (ad 48 0)), (4, .int x1), (7, .int v7), (8, .int v8)]) hx hb d_Mo_packages_374 hl (by decide) rfl (fun ls hl => ?_)
                          refine lv_aload_n hx hb d_Mo_packages_376 rfl (lv_at hl 2 rfl) ?_
                          refine st_get hx hb hg hown hK hH (f := 48) (i := 0) hd_48 rfl rfl u_Mo 7 (by decide) (hg _ wd_479) (v := .ref (ad 54 0)) rfl d_Mo_packages_377 ?_
                          refine lv_iload hx hb d_Mo_packages_380 (lv_at hl 0 rfl) ?_
                          refine lv_dup2_11 hx hb d_Mo_packages_382 rfl rfl ?_
                          obtain ⟨g383, h2⟩ := gd_some h2
                          refine st_iald hx hb hK hH (f := 54) (i := 0) hd_54 rfl g383 d_Mo_packages_383 ?_
                          refine lv_aload_n hx hb d_Mo_packages_384 rfl (lv_at hl 2 rfl) ?_
                          refine st_get hx hb hg hown hK hH (f := 48) (i := 0) hd_48 rfl rfl u_Mo 7 (by decide) (hg _ wd_479) (v := .ref (ad 54 0)) rfl d_Mo_packages_385 ?_
                          refine lv_iload hx hb d_Mo_packages_388 (lv_at hl 1 rfl) ?_
                          obtain ⟨g390, h2⟩ := gd_some h2
                          refine st_iald hx hb hK hH (f := 54) (i := 0) hd_54 rfl g390 d_Mo_packages_390 ?_
                          refine lv_iadd hx hb d_Mo_packages_391 ?_
                          obtain ⟨g392, h2⟩ := gd_some h2
                          refine st_iast hx hb hK hH hS (f := 54) (i := 0) hd_54 rfl g392 d_Mo_packages_392 (fun σ35 H locs eσ35 hH hS => ?_)
                          have h2 := nm_at eσ35 h2
                          refine lv_aload_n hx hb d_Mo_packages_393 rfl (lv_at hl 2 rfl) ?_
                          refine st_get hx hb hg hown hK hH (f := 48) (i := 0) hd_48 rfl rfl u_Mo 7 (by decide) (hg _ wd_479) (v := .ref (ad 54 0)) rfl d_Mo_packages_394 ?_
                          refine lv_iload hx hb d_Mo_packages_397 (lv_at hl 0 rfl) ?_
                          refine lv_iconst (v := 1) hx hb d_Mo_packages_399 (by decide) ?_
                          refine lv_iadd hx hb d_Mo_packages_400 ?_
                          refine lv_dup2_11 hx hb d_Mo_packages_401 rfl rfl ?_
                          obtain ⟨g402, h2⟩ := gd_some h2
                          refine st_iald hx hb hK hH (f := 54) (i := 0) hd_54 rfl g402 d_Mo_packages_402 ?_
                          refine lv_aload_n hx hb d_Mo_packages_403 rfl (lv_at hl 2 rfl) ?_
                          refine st_get hx hb hg hown hK hH (f := 48) (i := 0) hd_48 rfl rfl u_Mo 7 (by decide) (hg _ wd_479) (v := .ref (ad 54 0)) rfl d_Mo_packages_404 ?_
                          refine lv_iload hx hb d_Mo_packages_407 (lv_at hl 1 rfl) ?_
                          obtain ⟨g409, h2⟩ := gd_some h2
                          refine st_iald hx hb hK hH (f := 54) (i := 0) hd_54 rfl g409 d_Mo_packages_409 ?_
                          refine lv_iadd hx hb d_Mo_packages_410 ?_
                          obtain ⟨g411, h2⟩ := gd_some h2
                          refine st_iast hx hb hK hH hS (f := 54) (i := 0) hd_54 rfl g411 d_Mo_packages_411 (fun σ36 H locs eσ36 hH hS => ?_)
                          have h2 := nm_at eσ36 h2
                          obtain ⟨x37, ex37⟩ : ∃ y : Int32, y = v8 + 1 := ⟨_, rfl⟩
                          have h2 := nm_at ex37 h2
                          refine lv_iinc (v := x37) (lv' := [(8, .int x37), (10, .int x34), (9, .int x33), (0, .ref (ad 48 0)), (4, .int x1), (7, .int v7)]) hx hb d_Mo_packages_412 hl (k := 5) rfl (by rw [ex37]; rfl) (by decide) rfl (fun ls hl => ?_)
                          refine lv_goto (tgt := 290) hx hb d_Mo_packages_415 (by decide) ?_
                          cases h2
                          exact ih2 σ36 x37 _ _ ls hH hS (lv_sub hl [3, 4, 5, 0] rfl) hk2
                        · have h2 := ie h2 c323
                          refine lv_aload_n hx hb d_Mo_packages_326 rfl (lv_at hl 1 rfl) ?_
                          refine st_get hx hb hg hown hK hH (f := 48) (i := 0) hd_48 rfl rfl u_Mo 3 (by decide) (hg _ wd_431) (v := .ref (ad 50 0)) rfl d_Mo_packages_327 ?_
                          refine lv_iload hx hb d_Mo_packages_330 (lv_at hl 2 rfl) ?_
                          refine lv_aload_n hx hb d_Mo_packages_332 rfl (lv_at hl 1 rfl) ?_
                          refine st_get hx hb hg hown hK hH (f := 48) (i := 0) hd_48 rfl rfl u_Mo 6 (by decide) (hg _ wd_477) (v := .ref (ad 53 0)) rfl d_Mo_packages_333 ?_
                          refine lv_iload hx hb d_Mo_packages_336 (lv_at hl 0 rfl) ?_
                          obtain ⟨g338, h2⟩ := gd_some h2
                          refine st_iald hx hb hK hH (f := 53) (i := 0) hd_53 rfl g338 d_Mo_packages_338 ?_
                          refine lv_iadd hx hb d_Mo_packages_339 ?_
                          refine lv_dup2_11 hx hb d_Mo_packages_340 rfl rfl ?_
                          obtain ⟨g341, h2⟩ := gd_some h2
                          refine st_iald hx hb hK hH (f := 50) (i := 0) hd_50 rfl g341 d_Mo_packages_341 ?_
                          refine lv_aload_n hx hb d_Mo_packages_342 rfl (lv_at hl 1 rfl) ?_
                          refine st_get hx hb hg hown hK hH (f := 48) (i := 0) hd_48 rfl rfl u_Mo 7 (by decide) (hg _ wd_479) (v := .ref (ad 54 0)) rfl d_Mo_packages_343 ?_
                          refine lv_iload hx hb d_Mo_packages_346 (lv_at hl 0 rfl) ?_
                          obtain ⟨g348, h2⟩ := gd_some h2
                          refine st_iald hx hb hK hH (f := 54) (i := 0) hd_54 rfl g348 d_Mo_packages_348 ?_
                          refine lv_iadd hx hb d_Mo_packages_349 ?_
                          obtain ⟨g350, h2⟩ := gd_some h2
                          refine st_iast hx hb hK hH hS (f := 50) (i := 0) hd_50 rfl g350 d_Mo_packages_350 (fun σ38 H locs eσ38 hH hS => ?_)
                          have h2 := nm_at eσ38 h2
                          refine lv_goto (tgt := 412) hx hb d_Mo_packages_351 (by decide) ?_
                          obtain ⟨x39, ex39⟩ : ∃ y : Int32, y = v8 + 1 := ⟨_, rfl⟩
                          have h2 := nm_at ex39 h2
                          refine lv_iinc (v := x39) (lv' := [(8, .int x39), (9, .int x33), (0, .ref (ad 48 0)), (4, .int x1), (7, .int v7)]) hx hb d_Mo_packages_412 hl (k := 4) rfl (by rw [ex39]; rfl) (by decide) rfl (fun ls hl => ?_)
                          refine lv_goto (tgt := 290) hx hb d_Mo_packages_415 (by decide) ?_
                          cases h2
                          exact ih2 σ38 x39 _ _ ls hH hS (lv_sub hl [2, 3, 4, 0] rfl) hk2
                  obtain ⟨k2, hq2⟩ := lpE_some hq2
                  exact loop2 k2 σ 0 _ _ ls hH hS (lv_sub hl [1, 2, 3, 0] rfl) hq2
            obtain ⟨k1, hq1⟩ := lpE_some hq1
            exact loop1 k1 σ30 x32 _ _ ls hH hS (lv_sub hl [1, 3, 0] rfl) hq1
          have loop1 : ∀ (k : Nat) (σ : St) (v7 : Int32) (H : Heap) (locs : List Loc) (ls : Array Slot), Hold D aC A ad n σ H → va_S A s.heap H locs → lv_has ls 11 [(0, .ref (ad 48 0)), (3, .int a3), (4, .int x1), (5, .int x12), (6, .int x23), (7, .int v7)] → lp (fun q => lb_Mo_packages_230 a3 x1 x12 x23 q.1 q.2) k (σ, v7) = some q1 → W p l e (headSpec w_Mo_packages rm_Mo_packages).room s m args below meth c H locs 0 0 Q0 (F0 m 230 ls []) := by
            intro k
            induction k with
            | zero => intro σ v7 H locs ls hH hS hl hlp; exact absurd hlp (lp_zero _ _ _)
            | succ k ih1 =>
              intro σ v7 H locs ls hH hS hl hlp
              obtain ⟨z1, h1, hk1⟩ := lp_succ hlp
              have h1 : lb_Mo_packages_230 a3 x1 x12 x23 σ v7 = some z1 := h1
              unfold lb_Mo_packages_230 at h1
              refine lv_iload hx hb d_Mo_packages_230 (lv_at hl 5 rfl) ?_
              refine lv_sipush (v := 1920) hx hb d_Mo_packages_232 (by decide) ?_
              refine lv_icmp_ge (tgt := 277) hx hb d_Mo_packages_235 (by decide) (fun c235 => ?_) (fun c235 => ?_)
              · have h1 := it h1 c235
                cases h1
                exact K1 σ v7 _ _ ls (Option.some.inj hk1).symm hH hS (lv_sub hl [0, 1, 2, 3, 4, 5] rfl)
              · have h1 := ie h1 c235
                refine lv_aload_n hx hb d_Mo_packages_238 rfl (lv_at hl 0 rfl) ?_
                refine st_get hx hb hg hown hK hH (f := 48) (i := 0) hd_48 rfl rfl u_Mo 7 (by decide) (hg _ wd_479) (v := .ref (ad 54 0)) rfl d_Mo_packages_239 ?_
                refine lv_iload hx hb d_Mo_packages_242 (lv_at hl 5 rfl) ?_
                refine lv_iload hx hb d_Mo_packages_244 (lv_at hl 5 rfl) ?_
                refine lv_iload hx hb d_Mo_packages_246 (lv_at hl 4 rfl) ?_
                refine lv_icmp_lt (tgt := 269) hx hb d_Mo_packages_248 (by decide) (fun c248 => ?_) (fun c248 => ?_)
                · have h1 := it h1 c248
                  refine lv_iconst (v := 0) hx hb d_Mo_packages_269 (by decide) ?_
                  obtain ⟨g270, h1⟩ := gd_some h1
                  refine st_iast hx hb hK hH hS (f := 54) (i := 0) hd_54 rfl g270 d_Mo_packages_270 (fun σ24 H locs eσ24 hH hS => ?_)
                  have h1 := nm_at eσ24 h1
                  obtain ⟨x25, ex25⟩ : ∃ y : Int32, y = v7 + 1 := ⟨_, rfl⟩
                  have h1 := nm_at ex25 h1
                  refine lv_iinc (v := x25) (lv' := [(7, .int x25), (0, .ref (ad 48 0)), (3, .int a3), (4, .int x1), (5, .int x12), (6, .int x23)]) hx hb d_Mo_packages_271 hl (k := 5) rfl (by rw [ex25]; rfl) (by decide) rfl (fun ls hl => ?_)
                  refine lv_goto (tgt := 230) hx hb d_Mo_packages_274 (by decide) ?_
                  cases h1
                  exact ih1 σ24 x25 _ _ ls hH hS (lv_sub hl [1, 2, 3, 4, 5, 0] rfl) hk1
                · have h1 := ie h1 c248
                  refine lv_iload hx hb d_Mo_packages_251 (lv_at hl 5 rfl) ?_
                  refine lv_iload hx hb d_Mo_packages_253 (lv_at hl 4 rfl) ?_
                  refine lv_iconst (v := 2) hx hb d_Mo_packages_255 (by decide) ?_
                  refine lv_iload hx hb d_Mo_packages_256 (lv_at hl 3 rfl) ?_
                  refine lv_imul hx hb d_Mo_packages_258 ?_
                  refine lv_iadd hx hb d_Mo_packages_259 ?_
                  refine lv_iconst (v := 2) hx hb d_Mo_packages_260 (by decide) ?_
                  refine lv_isub hx hb d_Mo_packages_261 ?_
                  refine lv_icmp_ge (tgt := 269) hx hb d_Mo_packages_262 (by decide) (fun c262 => ?_) (fun c262 => ?_)
                  · have h1 := it h1 c262
                    refine lv_iconst (v := 0) hx hb d_Mo_packages_269 (by decide) ?_
                    obtain ⟨g270, h1⟩ := gd_some h1
                    refine st_iast hx hb hK hH hS (f := 54) (i := 0) hd_54 rfl g270 d_Mo_packages_270 (fun σ26 H locs eσ26 hH hS => ?_)
                    have h1 := nm_at eσ26 h1
                    obtain ⟨x27, ex27⟩ : ∃ y : Int32, y = v7 + 1 := ⟨_, rfl⟩
                    have h1 := nm_at ex27 h1
                    refine lv_iinc (v := x27) (lv' := [(7, .int x27), (0, .ref (ad 48 0)), (3, .int a3), (4, .int x1), (5, .int x12), (6, .int x23)]) hx hb d_Mo_packages_271 hl (k := 5) rfl (by rw [ex27]; rfl) (by decide) rfl (fun ls hl => ?_)
                    refine lv_goto (tgt := 230) hx hb d_Mo_packages_274 (by decide) ?_
                    cases h1
                    exact ih1 σ26 x27 _ _ ls hH hS (lv_sub hl [1, 2, 3, 4, 5, 0] rfl) hk1
                  · have h1 := ie h1 c262
                    refine lv_iconst (v := 1) hx hb d_Mo_packages_265 (by decide) ?_
                    refine lv_goto (tgt := 270) hx hb d_Mo_packages_266 (by decide) ?_
                    obtain ⟨g270, h1⟩ := gd_some h1
                    refine st_iast hx hb hK hH hS (f := 54) (i := 0) hd_54 rfl g270 d_Mo_packages_270 (fun σ28 H locs eσ28 hH hS => ?_)
                    have h1 := nm_at eσ28 h1
                    obtain ⟨x29, ex29⟩ : ∃ y : Int32, y = v7 + 1 := ⟨_, rfl⟩
                    have h1 := nm_at ex29 h1
                    refine lv_iinc (v := x29) (lv' := [(7, .int x29), (0, .ref (ad 48 0)), (3, .int a3), (4, .int x1), (5, .int x12), (6, .int x23)]) hx hb d_Mo_packages_271 hl (k := 5) rfl (by rw [ex29]; rfl) (by decide) rfl (fun ls hl => ?_)
                    refine lv_goto (tgt := 230) hx hb d_Mo_packages_274 (by decide) ?_
                    cases h1
                    exact ih1 σ28 x29 _ _ ls hH hS (lv_sub hl [1, 2, 3, 4, 5, 0] rfl) hk1
          obtain ⟨k1, hq1⟩ := lpE_some hq1
          exact loop1 k1 σ21 0 _ _ ls hH hS (lv_sub hl [2, 3, 4, 5, 1, 0] rfl) hq1
        have loop1 : ∀ (k : Nat) (σ : St) (v6 : Int32) (H : Heap) (locs : List Loc) (ls : Array Slot), Hold D aC A ad n σ H → va_S A s.heap H locs → lv_has ls 11 [(0, .ref (ad 48 0)), (3, .int a3), (4, .int x1), (5, .int x12), (6, .int v6)] → lp (fun q => lb_Mo_packages_198 a3 x1 x12 q.1 q.2) k (σ, v6) = some q1 → W p l e (headSpec w_Mo_packages rm_Mo_packages).room s m args below meth c H locs 0 0 Q0 (F0 m 198 ls []) := by
          intro k
          induction k with
          | zero => intro σ v6 H locs ls hH hS hl hlp; exact absurd hlp (lp_zero _ _ _)
          | succ k ih1 =>
            intro σ v6 H locs ls hH hS hl hlp
            obtain ⟨z1, h1, hk1⟩ := lp_succ hlp
            have h1 : lb_Mo_packages_198 a3 x1 x12 σ v6 = some z1 := h1
            unfold lb_Mo_packages_198 at h1
            refine lv_iload hx hb d_Mo_packages_198 (lv_at hl 4 rfl) ?_
            refine lv_iload_n hx hb d_Mo_packages_200 rfl (lv_at hl 1 rfl) ?_
            refine lv_icmp_ge (tgt := 218) hx hb d_Mo_packages_201 (by decide) (fun c201 => ?_) (fun c201 => ?_)
            · have h1 := it h1 c201
              cases h1
              exact K1 σ v6 _ _ ls (Option.some.inj hk1).symm hH hS (lv_sub hl [0, 1, 2, 3, 4] rfl)
            · have h1 := ie h1 c201
              refine lv_aload_n hx hb d_Mo_packages_204 rfl (lv_at hl 0 rfl) ?_
              refine lv_iload hx hb d_Mo_packages_205 (lv_at hl 4 rfl) ?_
              refine lv_iload hx hb d_Mo_packages_207 (lv_at hl 3 rfl) ?_
              obtain ⟨qc, hc209, h1⟩ := b1_some h1
              obtain ⟨σ19, rfl⟩ : ∃ z, z = qc := ⟨_, rfl⟩
              have h1 := b1_at h1
              refine st_Vv (As := [.int v6, .int x12]) (rest := []) ⟨hx, hb, hml, hown, hg⟩ (c_Mo_join l D aC A ad n _ v6 x12 _ hc209) (cwG hg wd_480 wd_481 wd_482 wd_483 wd_428 yd_Mo_join ⟨Nat.le_of_ble_eq_true rfl, Nat.le_of_ble_eq_true rfl⟩) hK hH hS hZ hd_48 rfl rfl rfl hl.1 rfl (Nat.le_of_ble_eq_true rfl) d_Mo_packages_209 ⟨Nat.zero_le _, Nat.zero_le _⟩ (fun H locs hH hS => ?_)
              obtain ⟨x20, ex20⟩ : ∃ y : Int32, y = v6 + 1 := ⟨_, rfl⟩
              have h1 := nm_at ex20 h1
              refine lv_iinc (v := x20) (lv' := [(6, .int x20), (0, .ref (ad 48 0)), (3, .int a3), (4, .int x1), (5, .int x12)]) hx hb d_Mo_packages_212 hl (k := 4) rfl (by rw [ex20]; rfl) (by decide) rfl (fun ls hl => ?_)
              refine lv_goto (tgt := 198) hx hb d_Mo_packages_215 (by decide) ?_
              cases h1
              exact ih1 σ19 x20 _ _ ls hH hS (lv_sub hl [1, 2, 3, 4, 0] rfl) hk1
        obtain ⟨k1, hq1⟩ := lpE_some hq1
        exact loop1 k1 σ17 1 _ _ ls hH hS (lv_sub hl [1, 2, 3, 4, 0] rfl) hq1
      have loop1 : ∀ (k : Nat) (σ : St) (v6 : Int32) (H : Heap) (locs : List Loc) (ls : Array Slot), Hold D aC A ad n σ H → va_S A s.heap H locs → lv_has ls 11 [(0, .ref (ad 48 0)), (3, .int a3), (4, .int x1), (5, .int x12), (6, .int v6)] → lp (fun q => lb_Mo_packages_162 a3 x1 x12 q.1 q.2) k (σ, v6) = some q1 → W p l e (headSpec w_Mo_packages rm_Mo_packages).room s m args below meth c H locs 0 0 Q0 (F0 m 162 ls []) := by
        intro k
        induction k with
        | zero => intro σ v6 H locs ls hH hS hl hlp; exact absurd hlp (lp_zero _ _ _)
        | succ k ih1 =>
          intro σ v6 H locs ls hH hS hl hlp
          obtain ⟨z1, h1, hk1⟩ := lp_succ hlp
          have h1 : lb_Mo_packages_162 a3 x1 x12 σ v6 = some z1 := h1
          unfold lb_Mo_packages_162 at h1
          refine lv_iload hx hb d_Mo_packages_162 (lv_at hl 4 rfl) ?_
          refine lv_iload hx hb d_Mo_packages_164 (lv_at hl 3 rfl) ?_
          refine lv_icmp_ge (tgt := 195) hx hb d_Mo_packages_166 (by decide) (fun c166 => ?_) (fun c166 => ?_)
          · have h1 := it h1 c166
            cases h1
            exact K1 σ v6 _ _ ls (Option.some.inj hk1).symm hH hS (lv_sub hl [0, 1, 2, 3, 4] rfl)
          · have h1 := ie h1 c166
            refine lv_aload_n hx hb d_Mo_packages_169 rfl (lv_at hl 0 rfl) ?_
            refine st_get hx hb hg hown hK hH (f := 48) (i := 0) hd_48 rfl rfl u_Mo 5 (by decide) (hg _ wd_476) (v := .ref (ad 52 0)) rfl d_Mo_packages_170 ?_
            refine lv_iload hx hb d_Mo_packages_173 (lv_at hl 4 rfl) ?_
            refine lv_aload_n hx hb d_Mo_packages_175 rfl (lv_at hl 0 rfl) ?_
            refine st_get hx hb hg hown hK hH (f := 48) (i := 0) hd_48 rfl rfl u_Mo 9 (by decide) (hg _ wd_478) (v := .ref (ad 56 0)) rfl d_Mo_packages_176 ?_
            refine lv_aload_n hx hb d_Mo_packages_179 rfl (lv_at hl 0 rfl) ?_
            refine st_get hx hb hg hown hK hH (f := 48) (i := 0) hd_48 rfl rfl u_Mo 6 (by decide) (hg _ wd_477) (v := .ref (ad 53 0)) rfl d_Mo_packages_180 ?_
            refine lv_iload hx hb d_Mo_packages_183 (lv_at hl 4 rfl) ?_
            obtain ⟨g185, h1⟩ := gd_some h1
            refine st_iald hx hb hK hH (f := 53) (i := 0) hd_53 rfl g185 d_Mo_packages_185 ?_
            obtain ⟨g186, h1⟩ := gd_some h1
            refine st_iald hx hb hK hH (f := 56) (i := 0) hd_56 rfl g186 d_Mo_packages_186 ?_
            refine lv_i2l hx hb d_Mo_packages_187 rfl ?_
            obtain ⟨g188, h1⟩ := gd_some h1
            refine st_last hx hb hK hH hS (f := 52) (i := 0) hd_52 rfl g188 d_Mo_packages_188 (fun σ15 H locs eσ15 hH hS => ?_)
            have h1 := nm_at eσ15 h1
            obtain ⟨x16, ex16⟩ : ∃ y : Int32, y = v6 + 1 := ⟨_, rfl⟩
            have h1 := nm_at ex16 h1
            refine lv_iinc (v := x16) (lv' := [(6, .int x16), (0, .ref (ad 48 0)), (3, .int a3), (4, .int x1), (5, .int x12)]) hx hb d_Mo_packages_189 hl (k := 4) rfl (by rw [ex16]; rfl) (by decide) rfl (fun ls hl => ?_)
            refine lv_goto (tgt := 162) hx hb d_Mo_packages_192 (by decide) ?_
            cases h1
            exact ih1 σ15 x16 _ _ ls hH hS (lv_sub hl [1, 2, 3, 4, 0] rfl) hk1
      obtain ⟨k1, hq1⟩ := lpE_some hq1
      exact loop1 k1 σ14 0 _ _ ls hH hS (lv_sub hl [1, 3, 4, 5, 0] rfl) hq1
    · have h := ie h c115
      refine lv_iconst (v := 0) hx hb d_Mo_packages_118 (by decide) ?_
      refine lv_istore (lv' := [(6, .int 0), (0, .ref (ad 48 0)), (2, .int a2), (3, .int a3), (4, .int x1), (5, .int x12)]) hx hb d_Mo_packages_119 hl (by decide) rfl (fun ls hl => ?_)
      obtain ⟨q1, hq1, h⟩ := b2_some h
      have K1 : ∀ (σ47 : St) (x48 : Int32) (H : Heap) (locs : List Loc) (ls : Array Slot), q1 = (σ47, x48) → Hold D aC A ad n σ47 H → va_S A s.heap H locs → lv_has ls 11 [(0, .ref (ad 48 0)), (4, .int x1), (5, .int x12), (6, .int x48)] → W p l e (headSpec w_Mo_packages rm_Mo_packages).room s m args below meth c H locs 0 0 Q0 (F0 m 150 ls []) := by
        intro σ47 x48 H locs ls eq1 hH hS hl
        subst eq1
        have h := b2_at h
        cases h
        rw [← hQ0]
        exact W.vret hx hb hr (fun t ht hW => ⟨⟨(), rfl, trivial, by dsimp only; rw [ht]; exact hH⟩, hS.F ht⟩) hS.2.2 d_Mo_packages_150
      have loop1 : ∀ (k : Nat) (σ : St) (v6 : Int32) (H : Heap) (locs : List Loc) (ls : Array Slot), Hold D aC A ad n σ H → va_S A s.heap H locs → lv_has ls 11 [(0, .ref (ad 48 0)), (4, .int x1), (5, .int x12), (6, .int v6)] → lp (fun q => lb_Mo_packages_121 x1 x12 q.1 q.2) k (σ, v6) = some q1 → W p l e (headSpec w_Mo_packages rm_Mo_packages).room s m args below meth c H locs 0 0 Q0 (F0 m 121 ls []) := by
        intro k
        induction k with
        | zero => intro σ v6 H locs ls hH hS hl hlp; exact absurd hlp (lp_zero _ _ _)
        | succ k ih1 =>
          intro σ v6 H locs ls hH hS hl hlp
          obtain ⟨z1, h1, hk1⟩ := lp_succ hlp
          have h1 : lb_Mo_packages_121 x1 x12 σ v6 = some z1 := h1
          unfold lb_Mo_packages_121 at h1
          refine lv_iload hx hb d_Mo_packages_121 (lv_at hl 3 rfl) ?_
          refine lv_iload hx hb d_Mo_packages_123 (lv_at hl 2 rfl) ?_
          refine lv_icmp_ge (tgt := 150) hx hb d_Mo_packages_125 (by decide) (fun c125 => ?_) (fun c125 => ?_)
          · have h1 := it h1 c125
            cases h1
            exact K1 σ v6 _ _ ls (Option.some.inj hk1).symm hH hS (lv_sub hl [0, 1, 2, 3] rfl)
          · have h1 := ie h1 c125
            refine lv_aload_n hx hb d_Mo_packages_128 rfl (lv_at hl 0 rfl) ?_
            refine st_get hx hb hg hown hK hH (f := 48) (i := 0) hd_48 rfl rfl u_Mo 3 (by decide) (hg _ wd_431) (v := .ref (ad 50 0)) rfl d_Mo_packages_129 ?_
            refine lv_iload hx hb d_Mo_packages_132 (lv_at hl 1 rfl) ?_
            refine lv_aload_n hx hb d_Mo_packages_134 rfl (lv_at hl 0 rfl) ?_
            refine st_get hx hb hg hown hK hH (f := 48) (i := 0) hd_48 rfl rfl u_Mo 6 (by decide) (hg _ wd_477) (v := .ref (ad 53 0)) rfl d_Mo_packages_135 ?_
            refine lv_iload hx hb d_Mo_packages_138 (lv_at hl 3 rfl) ?_
            obtain ⟨g140, h1⟩ := gd_some h1
            refine st_iald hx hb hK hH (f := 53) (i := 0) hd_53 rfl g140 d_Mo_packages_140 ?_
            refine lv_iadd hx hb d_Mo_packages_141 ?_
            refine lv_iconst (v := 1) hx hb d_Mo_packages_142 (by decide) ?_
            obtain ⟨g143, h1⟩ := gd_some h1
            refine st_iast hx hb hK hH hS (f := 50) (i := 0) hd_50 rfl g143 d_Mo_packages_143 (fun σ45 H locs eσ45 hH hS => ?_)
            have h1 := nm_at eσ45 h1
            obtain ⟨x46, ex46⟩ : ∃ y : Int32, y = v6 + 1 := ⟨_, rfl⟩
            have h1 := nm_at ex46 h1
            refine lv_iinc (v := x46) (lv' := [(6, .int x46), (0, .ref (ad 48 0)), (4, .int x1), (5, .int x12)]) hx hb d_Mo_packages_144 hl (k := 3) rfl (by rw [ex46]; rfl) (by decide) rfl (fun ls hl => ?_)
            refine lv_goto (tgt := 121) hx hb d_Mo_packages_147 (by decide) ?_
            cases h1
            exact ih1 σ45 x46 _ _ ls hH hS (lv_sub hl [1, 2, 3, 0] rfl) hk1
      obtain ⟨k1, hq1⟩ := lpE_some hq1
      exact loop1 k1 σ11 0 _ _ ls hH hS (lv_sub hl [1, 4, 5, 0] rfl) hq1
  have loop1 : ∀ (k : Nat) (σ : St) (v5 : Int32) (v6 : Int32) (H : Heap) (locs : List Loc) (ls : Array Slot), Hold D aC A ad n σ H → va_S A s.heap H locs → lv_has ls 11 [(0, .ref (ad 48 0)), (2, .int a2), (3, .int a3), (4, .int x1), (5, .int v5), (6, .int v6)] → lp (fun q => lb_Mo_packages_12 a2 a3 x1 q.1 q.2.1 q.2.2) k (σ, v5, v6) = some q1 → W p l e (headSpec w_Mo_packages rm_Mo_packages).room s m args below meth c H locs 0 0 Q0 (F0 m 12 ls []) := by
    intro k
    induction k with
    | zero => intro σ v5 v6 H locs ls hH hS hl hlp; exact absurd hlp (lp_zero _ _ _)
    | succ k ih1 =>
      intro σ v5 v6 H locs ls hH hS hl hlp
      obtain ⟨z1, h1, hk1⟩ := lp_succ hlp
      have h1 : lb_Mo_packages_12 a2 a3 x1 σ v5 v6 = some z1 := h1
      unfold lb_Mo_packages_12 at h1
      refine lv_iload hx hb d_Mo_packages_12 (lv_at hl 5 rfl) ?_
      refine lv_iload_n hx hb d_Mo_packages_14 rfl (lv_at hl 1 rfl) ?_
      refine lv_icmp_ge (tgt := 112) hx hb d_Mo_packages_15 (by decide) (fun c15 => ?_) (fun c15 => ?_)
      · have h1 := it h1 c15
        cases h1
        exact K1 σ v5 v6 _ _ ls (Option.some.inj hk1).symm hH hS (lv_sub hl [0, 1, 2, 3, 4, 5] rfl)
      · have h1 := ie h1 c15
        refine lv_aload_n hx hb d_Mo_packages_18 rfl (lv_at hl 0 rfl) ?_
        refine st_get hx hb hg hown hK hH (f := 48) (i := 0) hd_48 rfl rfl u_Mo 3 (by decide) (hg _ wd_431) (v := .ref (ad 50 0)) rfl d_Mo_packages_19 ?_
        refine lv_iload hx hb d_Mo_packages_22 (lv_at hl 3 rfl) ?_
        refine lv_iload hx hb d_Mo_packages_24 (lv_at hl 5 rfl) ?_
        refine lv_iadd hx hb d_Mo_packages_26 ?_
        refine lv_iconst (v := 0) hx hb d_Mo_packages_27 (by decide) ?_
        obtain ⟨g28, h1⟩ := gd_some h1
        refine st_iast hx hb hK hH hS (f := 50) (i := 0) hd_50 rfl g28 d_Mo_packages_28 (fun σ2 H locs eσ2 hH hS => ?_)
        have h1 := nm_at eσ2 h1
        refine lv_aload_n hx hb d_Mo_packages_29 rfl (lv_at hl 0 rfl) ?_
        refine st_get hx hb hg hown hK hH (f := 48) (i := 0) hd_48 rfl rfl u_Mo 9 (by decide) (hg _ wd_478) (v := .ref (ad 56 0)) rfl d_Mo_packages_30 ?_
        refine lv_iload hx hb d_Mo_packages_33 (lv_at hl 5 rfl) ?_
        obtain ⟨g35, h1⟩ := gd_some h1
        refine st_iald hx hb hK hH (f := 56) (i := 0) hd_56 rfl g35 d_Mo_packages_35 ?_
        refine lv_if_le (tgt := 106) hx hb d_Mo_packages_36 (by decide) (fun c36 => ?_) (fun c36 => ?_)
        · have h1 := it h1 c36
          obtain ⟨x3, ex3⟩ : ∃ y : Int32, y = v6 + 1 := ⟨_, rfl⟩
          have h1 := nm_at ex3 h1
          refine lv_iinc (v := x3) (lv' := [(6, .int x3), (0, .ref (ad 48 0)), (2, .int a2), (3, .int a3), (4, .int x1), (5, .int v5)]) hx hb d_Mo_packages_106 hl (k := 5) rfl (by rw [ex3]; rfl) (by decide) rfl (fun ls hl => ?_)
          refine lv_goto (tgt := 12) hx hb d_Mo_packages_109 (by decide) ?_
          cases h1
          exact ih1 σ2 v5 x3 _ _ ls hH hS (lv_sub hl [1, 2, 3, 4, 5, 0] rfl) hk1
        · have h1 := ie h1 c36
          refine lv_iload hx hb d_Mo_packages_39 (lv_at hl 4 rfl) ?_
          refine lv_istore (lv' := [(7, .int v5), (0, .ref (ad 48 0)), (2, .int a2), (3, .int a3), (4, .int x1), (5, .int v5), (6, .int v6)]) hx hb d_Mo_packages_41 hl (by decide) rfl (fun ls hl => ?_)
          obtain ⟨q2, hq2, h1⟩ := b2_some h1
          have K2 : ∀ (σ6 : St) (x7 : Int32) (H : Heap) (locs : List Loc) (ls : Array Slot), q2 = (σ6, x7) → Hold D aC A ad n σ6 H → va_S A s.heap H locs → lv_has ls 11 [(0, .ref (ad 48 0)), (2, .int a2), (3, .int a3), (4, .int x1), (5, .int v5), (6, .int v6), (7, .int x7)] → W p l e (headSpec w_Mo_packages rm_Mo_packages).room s m args below meth c H locs 0 0 Q0 (F0 m 94 ls []) := by
            intro σ6 x7 H locs ls eq2 hH hS hl
            subst eq2
            have h1 := b2_at h1
            refine lv_aload_n hx hb d_Mo_packages_94 rfl (lv_at hl 0 rfl) ?_
            refine st_get hx hb hg hown hK hH (f := 48) (i := 0) hd_48 rfl rfl u_Mo 6 (by decide) (hg _ wd_477) (v := .ref (ad 53 0)) rfl d_Mo_packages_95 ?_
            refine lv_iload hx hb d_Mo_packages_98 (lv_at hl 6 rfl) ?_
            refine lv_iload hx hb d_Mo_packages_100 (lv_at hl 5 rfl) ?_
            obtain ⟨g102, h1⟩ := gd_some h1
            refine st_iast hx hb hK hH hS (f := 53) (i := 0) hd_53 rfl g102 d_Mo_packages_102 (fun σ8 H locs eσ8 hH hS => ?_)
            have h1 := nm_at eσ8 h1
            obtain ⟨x9, ex9⟩ : ∃ y : Int32, y = v5 + 1 := ⟨_, rfl⟩
            have h1 := nm_at ex9 h1
            refine lv_iinc (v := x9) (lv' := [(5, .int x9), (0, .ref (ad 48 0)), (2, .int a2), (3, .int a3), (4, .int x1), (6, .int v6), (7, .int x7)]) hx hb d_Mo_packages_103 hl (k := 4) rfl (by rw [ex9]; rfl) (by decide) rfl (fun ls hl => ?_)
            obtain ⟨x10, ex10⟩ : ∃ y : Int32, y = v6 + 1 := ⟨_, rfl⟩
            have h1 := nm_at ex10 h1
            refine lv_iinc (v := x10) (lv' := [(6, .int x10), (5, .int x9), (0, .ref (ad 48 0)), (2, .int a2), (3, .int a3), (4, .int x1), (7, .int x7)]) hx hb d_Mo_packages_106 hl (k := 5) rfl (by rw [ex10]; rfl) (by decide) rfl (fun ls hl => ?_)
            refine lv_goto (tgt := 12) hx hb d_Mo_packages_109 (by decide) ?_
            cases h1
            exact ih1 σ8 x9 x10 _ _ ls hH hS (lv_sub hl [2, 3, 4, 5, 1, 0] rfl) hk1
          have loop2 : ∀ (k : Nat) (σ : St) (v7 : Int32) (H : Heap) (locs : List Loc) (ls : Array Slot), Hold D aC A ad n σ H → va_S A s.heap H locs → lv_has ls 11 [(0, .ref (ad 48 0)), (2, .int a2), (3, .int a3), (4, .int x1), (5, .int v5), (6, .int v6), (7, .int v7)] → lp (fun q => lb_Mo_packages_43 a2 a3 x1 v5 v6 q.1 q.2) k (σ, v7) = some q2 → W p l e (headSpec w_Mo_packages rm_Mo_packages).room s m args below meth c H locs 0 0 Q0 (F0 m 43 ls []) := by
            intro k
            induction k with
            | zero => intro σ v7 H locs ls hH hS hl hlp; exact absurd hlp (lp_zero _ _ _)
            | succ k ih2 =>
              intro σ v7 H locs ls hH hS hl hlp
              obtain ⟨z2, h2, hk2⟩ := lp_succ hlp
              have h2 : lb_Mo_packages_43 a2 a3 x1 v5 v6 σ v7 = some z2 := h2
              unfold lb_Mo_packages_43 at h2
              refine lv_iload hx hb d_Mo_packages_43 (lv_at hl 6 rfl) ?_
              refine lv_if_le (tgt := 94) hx hb d_Mo_packages_45 (by decide) (fun c45 => ?_) (fun c45 => ?_)
              · have h2 := it h2 c45
                cases h2
                exact K2 σ v7 _ _ ls (Option.some.inj hk2).symm hH hS (lv_sub hl [0, 1, 2, 3, 4, 5, 6] rfl)
              · have h2 := ie h2 c45
                refine lv_aload_n hx hb d_Mo_packages_48 rfl (lv_at hl 0 rfl) ?_
                refine st_get hx hb hg hown hK hH (f := 48) (i := 0) hd_48 rfl rfl u_Mo 9 (by decide) (hg _ wd_478) (v := .ref (ad 56 0)) rfl d_Mo_packages_49 ?_
                refine lv_aload_n hx hb d_Mo_packages_52 rfl (lv_at hl 0 rfl) ?_
                refine st_get hx hb hg hown hK hH (f := 48) (i := 0) hd_48 rfl rfl u_Mo 6 (by decide) (hg _ wd_477) (v := .ref (ad 53 0)) rfl d_Mo_packages_53 ?_
                refine lv_iload hx hb d_Mo_packages_56 (lv_at hl 6 rfl) ?_
                refine lv_iconst (v := 1) hx hb d_Mo_packages_58 (by decide) ?_
                refine lv_isub hx hb d_Mo_packages_59 ?_
                obtain ⟨g60, h2⟩ := gd_some h2
                refine st_iald hx hb hK hH (f := 53) (i := 0) hd_53 rfl g60 d_Mo_packages_60 ?_
                obtain ⟨g61, h2⟩ := gd_some h2
                refine st_iald hx hb hK hH (f := 56) (i := 0) hd_56 rfl g61 d_Mo_packages_61 ?_
                refine lv_aload_n hx hb d_Mo_packages_62 rfl (lv_at hl 0 rfl) ?_
                refine st_get hx hb hg hown hK hH (f := 48) (i := 0) hd_48 rfl rfl u_Mo 9 (by decide) (hg _ wd_478) (v := .ref (ad 56 0)) rfl d_Mo_packages_63 ?_
                refine lv_iload hx hb d_Mo_packages_66 (lv_at hl 5 rfl) ?_
                obtain ⟨g68, h2⟩ := gd_some h2
                refine st_iald hx hb hK hH (f := 56) (i := 0) hd_56 rfl g68 d_Mo_packages_68 ?_
                refine lv_icmp_le (tgt := 94) hx hb d_Mo_packages_69 (by decide) (fun c69 => ?_) (fun c69 => ?_)
                · have h2 := it h2 c69
                  cases h2
                  exact K2 σ v7 _ _ ls (Option.some.inj hk2).symm hH hS (lv_sub hl [0, 1, 2, 3, 4, 5, 6] rfl)
                · have h2 := ie h2 c69
                  refine lv_aload_n hx hb d_Mo_packages_72 rfl (lv_at hl 0 rfl) ?_
                  refine st_get hx hb hg hown hK hH (f := 48) (i := 0) hd_48 rfl rfl u_Mo 6 (by decide) (hg _ wd_477) (v := .ref (ad 53 0)) rfl d_Mo_packages_73 ?_
                  refine lv_iload hx hb d_Mo_packages_76 (lv_at hl 6 rfl) ?_
                  refine lv_aload_n hx hb d_Mo_packages_78 rfl (lv_at hl 0 rfl) ?_
                  refine st_get hx hb hg hown hK hH (f := 48) (i := 0) hd_48 rfl rfl u_Mo 6 (by decide) (hg _ wd_477) (v := .ref (ad 53 0)) rfl d_Mo_packages_79 ?_
                  refine lv_iload hx hb d_Mo_packages_82 (lv_at hl 6 rfl) ?_
                  refine lv_iconst (v := 1) hx hb d_Mo_packages_84 (by decide) ?_
                  refine lv_isub hx hb d_Mo_packages_85 ?_
                  obtain ⟨g86, h2⟩ := gd_some h2
                  refine st_iald hx hb hK hH (f := 53) (i := 0) hd_53 rfl g86 d_Mo_packages_86 ?_
                  obtain ⟨g87, h2⟩ := gd_some h2
                  refine st_iast hx hb hK hH hS (f := 53) (i := 0) hd_53 rfl g87 d_Mo_packages_87 (fun σ4 H locs eσ4 hH hS => ?_)
                  have h2 := nm_at eσ4 h2
                  obtain ⟨x5, ex5⟩ : ∃ y : Int32, y = v7 + (-1) := ⟨_, rfl⟩
                  have h2 := nm_at ex5 h2
                  refine lv_iinc (v := x5) (lv' := [(7, .int x5), (0, .ref (ad 48 0)), (2, .int a2), (3, .int a3), (4, .int x1), (5, .int v5), (6, .int v6)]) hx hb d_Mo_packages_88 hl (k := 6) rfl (by rw [ex5]; rfl) (by decide) rfl (fun ls hl => ?_)
                  refine lv_goto (tgt := 43) hx hb d_Mo_packages_91 (by decide) ?_
                  cases h2
                  exact ih2 σ4 x5 _ _ ls hH hS (lv_sub hl [1, 2, 3, 4, 5, 6, 0] rfl) hk2
          obtain ⟨k2, hq2⟩ := lpE_some hq2
          exact loop2 k2 σ2 v5 _ _ ls hH hS (lv_sub hl [1, 2, 3, 4, 5, 6, 0] rfl) hq2
  obtain ⟨k1, hq1⟩ := lpE_some hq1
  exact loop1 k1 σ 0 0 _ _ ls hH hS (lv_sub hl [3, 5, 6, 2, 1, 0] rfl) hq1
set_option maxHeartbeats 4000000 in
set_option maxRecDepth 100000 in
theorem c_Mo_least (l : Launch) (D : va_G) (aC : Nat → ClassId) (A : Nat → Prop) (ad : Nat → Nat → Nat) (n : Nat) (σ : St) (a1 : Int32) (a2 : Int32) (o : St × Int32) (h : f_Mo_least σ a1 a2 = some o) : Met l y_Mo_least w_Mo_least rm_Mo_least (va_Pc [.ref (ad 48 0), .int a1, .int a2] (Pre D aC A ad n σ)) (va_Qi (fun r (_ : Unit) => r = o.2) (fun _ t => Hold D aC A ad n o.1 t.heap) A) 0 0 A := by
  refine Met.ofW (cc := prog_13_method_22_code) (maxL := 5) (ret := (some .int)) (by decide) rfl ?_
  intro p e s m args below meth c s₁ B hml hv
  obtain ⟨hargs, hH, hK, hZ⟩ := hv
  have hx := B.exec
  have hb := B.bytes
  have hr := B.returns
  have hts := atoms_spec (ws := w_Mo_least) B.pre
  have hg : ∀ w ∈ gW, w.before args s = true := fun w h => hts w (List.mem_cons_of_mem _ h)
  have hown : s.vm.findClass "PrefixCodesModel" = some m.cls := findClass_of_methodNamed B.named
  have hlocks := B.notSynchronized
  have hS : va_S A s.heap s.heap [] := va_S.rf
  have hl := lv_entry ([.ref (ad 48 0), .int a1, .int a2]) (n := 5) (Nat.le_of_ble_eq_true rfl)
  rw [show entryFrame m args 5 = entryFrame m (([.ref (ad 48 0), .int a1, .int a2] : List Value).toArray) 5 by rw [hargs], lg_entry_eq]
  generalize (lg_sl ([.ref (ad 48 0), .int a1, .int a2]) ++ List.replicate (5 - (lg_sl ([.ref (ad 48 0), .int a1, .int a2])).length) Slot.unset).toArray = ls at hl ⊢
  have hl : lv_has ls 5 [(0, .ref (ad 48 0)), (1, .int a1), (2, .int a2)] := hl
  generalize hQ0 : MQ below (va_Qi (fun r (_ : Unit) => r = o.2) (fun _ t => Hold D aC A ad n o.1 t.heap) A) args s 0 0 A = Q0
  unfold f_Mo_least at h
  refine lv_iload_n hx hb d_Mo_least_0 rfl (lv_at hl 1 rfl) ?_
  refine lv_iconst (v := 1) hx hb d_Mo_least_1 (by decide) ?_
  refine lv_icmp_lt (tgt := 22) hx hb d_Mo_least_2 (by decide) (fun c2 => ?_) (fun c2 => ?_)
  · have h := it h c2
    refine lv_bipush (v := (-102)) hx hb d_Mo_least_22 (by decide) ?_
    cases h
    rw [← hQ0]
    exact W.iret hx hb hr (fun t ht hW => ⟨⟨_, (), rfl, rfl, by dsimp only; rw [ht]; exact hH⟩, hS.F ht⟩) hS.2.2 d_Mo_least_24
  · have h := ie h c2
    refine lv_iload_n hx hb d_Mo_least_5 rfl (lv_at hl 1 rfl) ?_
    refine lv_bipush (v := 64) hx hb d_Mo_least_6 (by decide) ?_
    refine lv_icmp_gt (tgt := 22) hx hb d_Mo_least_8 (by decide) (fun c8 => ?_) (fun c8 => ?_)
    · have h := it h c8
      refine lv_bipush (v := (-102)) hx hb d_Mo_least_22 (by decide) ?_
      cases h
      rw [← hQ0]
      exact W.iret hx hb hr (fun t ht hW => ⟨⟨_, (), rfl, rfl, by dsimp only; rw [ht]; exact hH⟩, hS.F ht⟩) hS.2.2 d_Mo_least_24
    · have h := ie h c8
      refine lv_iload_n hx hb d_Mo_least_11 rfl (lv_at hl 2 rfl) ?_
      refine lv_iconst (v := 1) hx hb d_Mo_least_12 (by decide) ?_
      refine lv_icmp_lt (tgt := 22) hx hb d_Mo_least_13 (by decide) (fun c13 => ?_) (fun c13 => ?_)
      · have h := it h c13
        refine lv_bipush (v := (-102)) hx hb d_Mo_least_22 (by decide) ?_
        cases h
        rw [← hQ0]
        exact W.iret hx hb hr (fun t ht hW => ⟨⟨_, (), rfl, rfl, by dsimp only; rw [ht]; exact hH⟩, hS.F ht⟩) hS.2.2 d_Mo_least_24
      · have h := ie h c13
        refine lv_iload_n hx hb d_Mo_least_16 rfl (lv_at hl 2 rfl) ?_
        refine lv_bipush (v := 15) hx hb d_Mo_least_17 (by decide) ?_
        refine lv_icmp_le (tgt := 25) hx hb d_Mo_least_19 (by decide) (fun c19 => ?_) (fun c19 => ?_)
        · have h := it h c19
          refine lv_aload_n hx hb d_Mo_least_25 rfl (lv_at hl 0 rfl) ?_
          refine st_get hx hb hg hown hK hH (f := 48) (i := 0) hd_48 rfl rfl u_Mo 4 (by decide) (hg _ wd_469) (v := .ref (ad 51 0)) rfl d_Mo_least_26 ?_
          refine lv_iload_n hx hb d_Mo_least_29 rfl (lv_at hl 1 rfl) ?_
          obtain ⟨qc, hc30, h⟩ := b2_some h
          obtain ⟨σ1, x2⟩ := qc
          have h := b2_at h
          refine st_Si (As := [.ref (ad 51 0), .int a1]) (rest := []) ⟨hx, hb, hml, hown, hg⟩ (c_Mo_different l D aC A ad n _ 51 0 64 a1 rfl hd_51 _ hc30) (cwGS hg wd_472 wd_473 wd_474 wd_428 yd_Mo_different ⟨Nat.le_of_ble_eq_true rfl, Nat.le_of_ble_eq_true rfl⟩) hK hH hS hZ rfl hl.1 rfl (Nat.le_of_ble_eq_true rfl) d_Mo_least_30 ⟨Nat.zero_le _, Nat.zero_le _⟩ (fun H locs hH hS => ?_)
          refine lv_iconst (v := 1) hx hb d_Mo_least_33 (by decide) ?_
          refine lv_iload_n hx hb d_Mo_least_34 rfl (lv_at hl 2 rfl) ?_
          refine lv_ishl hx hb d_Mo_least_35 ?_
          refine lv_icmp_le (tgt := 42) hx hb d_Mo_least_36 (by decide) (fun c36 => ?_) (fun c36 => ?_)
          · have h := it h c36
            refine lv_aload_n hx hb d_Mo_least_42 rfl (lv_at hl 0 rfl) ?_
            refine st_get hx hb hg hown hK hH (f := 48) (i := 0) hd_48 rfl rfl u_Mo 1 (by decide) (hg _ wd_424) (v := .int (σ1.1 48 0 1)) rfl d_Mo_least_43 ?_
            refine lv_bipush (v := 12) hx hb d_Mo_least_46 (by decide) ?_
            refine lv_icmp_ne (tgt := 54) hx hb d_Mo_least_48 (by decide) (fun c48 => ?_) (fun c48 => ?_)
            · have h := ie h c48
              refine lv_aload_n hx hb d_Mo_least_54 rfl (lv_at hl 0 rfl) ?_
              refine lv_iload_n hx hb d_Mo_least_55 rfl (lv_at hl 1 rfl) ?_
              obtain ⟨qc, hc56, h⟩ := b2_some h
              obtain ⟨σ3, x4⟩ := qc
              have h := b2_at h
              refine st_Vi (As := [.int a1]) (rest := []) ⟨hx, hb, hml, hown, hg⟩ (c_Mo_made l D aC A ad n _ a1 _ hc56) (cwG hg wd_432 wd_433 wd_434 wd_435 wd_428 yd_Mo_made ⟨Nat.le_of_ble_eq_true rfl, Nat.le_of_ble_eq_true rfl⟩) hK hH hS hZ hd_48 rfl rfl rfl hl.1 rfl (Nat.le_of_ble_eq_true rfl) d_Mo_least_56 ⟨Nat.zero_le _, Nat.zero_le _⟩ (fun H locs hH hS => ?_)
              refine lv_istore_n (lv' := [(3, .int x4), (0, .ref (ad 48 0)), (1, .int a1), (2, .int a2)]) hx hb d_Mo_least_59 rfl hl (by decide) rfl (fun ls hl => ?_)
              refine lv_iconst (v := 0) hx hb d_Mo_least_60 (by decide) ?_
              refine lv_istore (lv' := [(4, .int 0), (3, .int x4), (0, .ref (ad 48 0)), (1, .int a1), (2, .int a2)]) hx hb d_Mo_least_61 hl (by decide) rfl (fun ls hl => ?_)
              obtain ⟨q1, hq1, h⟩ := b2_some h
              have K1 : ∀ (σ7 : St) (x8 : Int32) (H : Heap) (locs : List Loc) (ls : Array Slot), q1 = (σ7, x8) → Hold D aC A ad n σ7 H → va_S A s.heap H locs → lv_has ls 5 [(0, .ref (ad 48 0)), (1, .int a1), (2, .int a2), (3, .int x4), (4, .int x8)] → W p l e (headSpec w_Mo_least rm_Mo_least).room s m args below meth c H locs 0 0 Q0 (F0 m 89 ls []) := by
                intro σ7 x8 H locs ls eq1 hH hS hl
                subst eq1
                have h := b2_at h
                refine lv_aload_n hx hb d_Mo_least_89 rfl (lv_at hl 0 rfl) ?_
                refine lv_iload_n hx hb d_Mo_least_90 rfl (lv_at hl 3 rfl) ?_
                refine lv_iload_n hx hb d_Mo_least_91 rfl (lv_at hl 1 rfl) ?_
                refine lv_iload_n hx hb d_Mo_least_92 rfl (lv_at hl 2 rfl) ?_
                obtain ⟨qc, hc93, h⟩ := b1_some h
                obtain ⟨σ9, rfl⟩ : ∃ z, z = qc := ⟨_, rfl⟩
                have h := b1_at h
                refine st_Vv (As := [.int x4, .int a1, .int a2]) (rest := []) ⟨hx, hb, hml, hown, hg⟩ (c_Mo_packages l D aC A ad n _ x4 a1 a2 _ hc93) (cwG hg wd_484 wd_485 wd_486 wd_487 wd_428 yd_Mo_packages ⟨Nat.le_of_ble_eq_true rfl, Nat.le_of_ble_eq_true rfl⟩) hK hH hS hZ hd_48 rfl rfl rfl hl.1 rfl (Nat.le_of_ble_eq_true rfl) d_Mo_least_93 ⟨Nat.zero_le _, Nat.zero_le _⟩ (fun H locs hH hS => ?_)
                refine lv_iload_n hx hb d_Mo_least_96 rfl (lv_at hl 3 rfl) ?_
                cases h
                rw [← hQ0]
                exact W.iret hx hb hr (fun t ht hW => ⟨⟨_, (), rfl, rfl, by dsimp only; rw [ht]; exact hH⟩, hS.F ht⟩) hS.2.2 d_Mo_least_97
              have loop1 : ∀ (k : Nat) (σ : St) (v4 : Int32) (H : Heap) (locs : List Loc) (ls : Array Slot), Hold D aC A ad n σ H → va_S A s.heap H locs → lv_has ls 5 [(0, .ref (ad 48 0)), (1, .int a1), (2, .int a2), (3, .int x4), (4, .int v4)] → lp (fun q => lb_Mo_least_63 a1 a2 x4 q.1 q.2) k (σ, v4) = some q1 → W p l e (headSpec w_Mo_least rm_Mo_least).room s m args below meth c H locs 0 0 Q0 (F0 m 63 ls []) := by
                intro k
                induction k with
                | zero => intro σ v4 H locs ls hH hS hl hlp; exact absurd hlp (lp_zero _ _ _)
                | succ k ih1 =>
                  intro σ v4 H locs ls hH hS hl hlp
                  obtain ⟨z1, h1, hk1⟩ := lp_succ hlp
                  have h1 : lb_Mo_least_63 a1 a2 x4 σ v4 = some z1 := h1
                  unfold lb_Mo_least_63 at h1
                  refine lv_iload hx hb d_Mo_least_63 (lv_at hl 4 rfl) ?_
                  refine lv_iload_n hx hb d_Mo_least_65 rfl (lv_at hl 1 rfl) ?_
                  refine lv_icmp_ge (tgt := 89) hx hb d_Mo_least_66 (by decide) (fun c66 => ?_) (fun c66 => ?_)
                  · have h1 := it h1 c66
                    cases h1
                    exact K1 σ v4 _ _ ls (Option.some.inj hk1).symm hH hS (lv_sub hl [0, 1, 2, 3, 4] rfl)
                  · have h1 := ie h1 c66
                    refine lv_aload_n hx hb d_Mo_least_69 rfl (lv_at hl 0 rfl) ?_
                    refine st_get hx hb hg hown hK hH (f := 48) (i := 0) hd_48 rfl rfl u_Mo 9 (by decide) (hg _ wd_478) (v := .ref (ad 56 0)) rfl d_Mo_least_70 ?_
                    refine lv_iload hx hb d_Mo_least_73 (lv_at hl 4 rfl) ?_
                    refine lv_aload_n hx hb d_Mo_least_75 rfl (lv_at hl 0 rfl) ?_
                    refine st_get hx hb hg hown hK hH (f := 48) (i := 0) hd_48 rfl rfl u_Mo 4 (by decide) (hg _ wd_469) (v := .ref (ad 51 0)) rfl d_Mo_least_76 ?_
                    refine lv_iload hx hb d_Mo_least_79 (lv_at hl 4 rfl) ?_
                    obtain ⟨g81, h1⟩ := gd_some h1
                    refine st_iald hx hb hK hH (f := 51) (i := 0) hd_51 rfl g81 d_Mo_least_81 ?_
                    obtain ⟨g82, h1⟩ := gd_some h1
                    refine st_iast hx hb hK hH hS (f := 56) (i := 0) hd_56 rfl g82 d_Mo_least_82 (fun σ5 H locs eσ5 hH hS => ?_)
                    have h1 := nm_at eσ5 h1
                    obtain ⟨x6, ex6⟩ : ∃ y : Int32, y = v4 + 1 := ⟨_, rfl⟩
                    have h1 := nm_at ex6 h1
                    refine lv_iinc (v := x6) (lv' := [(4, .int x6), (0, .ref (ad 48 0)), (1, .int a1), (2, .int a2), (3, .int x4)]) hx hb d_Mo_least_83 hl (k := 4) rfl (by rw [ex6]; rfl) (by decide) rfl (fun ls hl => ?_)
                    refine lv_goto (tgt := 63) hx hb d_Mo_least_86 (by decide) ?_
                    cases h1
                    exact ih1 σ5 x6 _ _ ls hH hS (lv_sub hl [1, 2, 3, 4, 0] rfl) hk1
              obtain ⟨k1, hq1⟩ := lpE_some hq1
              exact loop1 k1 σ3 0 _ _ ls hH hS (lv_sub hl [2, 3, 4, 1, 0] rfl) hq1
            · have h := it h c48
              refine lv_bipush (v := (-106)) hx hb d_Mo_least_51 (by decide) ?_
              cases h
              rw [← hQ0]
              exact W.iret hx hb hr (fun t ht hW => ⟨⟨_, (), rfl, rfl, by dsimp only; rw [ht]; exact hH⟩, hS.F ht⟩) hS.2.2 d_Mo_least_53
          · have h := ie h c36
            refine lv_bipush (v := (-103)) hx hb d_Mo_least_39 (by decide) ?_
            cases h
            rw [← hQ0]
            exact W.iret hx hb hr (fun t ht hW => ⟨⟨_, (), rfl, rfl, by dsimp only; rw [ht]; exact hH⟩, hS.F ht⟩) hS.2.2 d_Mo_least_41
        · have h := ie h c19
          refine lv_bipush (v := (-102)) hx hb d_Mo_least_22 (by decide) ?_
          cases h
          rw [← hQ0]
          exact W.iret hx hb hr (fun t ht hW => ⟨⟨_, (), rfl, rfl, by dsimp only; rw [ht]; exact hH⟩, hS.F ht⟩) hS.2.2 d_Mo_least_24
set_option maxHeartbeats 4000000 in
set_option maxRecDepth 100000 in
theorem c_Mo_cost (l : Launch) (D : va_G) (aC : Nat → ClassId) (A : Nat → Prop) (ad : Nat → Nat → Nat) (n : Nat) (σ : St) (a1 : Int32) (o : St × Int64) (h : f_Mo_cost σ a1 = some o) : Met l y_Mo_cost w_Mo_cost rm_Mo_cost (va_Pc [.ref (ad 48 0), .int a1] (Pre D aC A ad n σ)) (va_Ql (fun r (_ : Unit) => r = o.2) (fun _ t => Hold D aC A ad n o.1 t.heap) A) 0 0 A := by
  refine Met.ofW (cc := prog_13_method_23_code) (maxL := 5) (ret := (some .long)) (by decide) rfl ?_
  intro p e s m args below meth c s₁ B hml hv
  obtain ⟨hargs, hH, hK, hZ⟩ := hv
  have hx := B.exec
  have hb := B.bytes
  have hr := B.returns
  have hts := atoms_spec (ws := w_Mo_cost) B.pre
  have hg : ∀ w ∈ gW, w.before args s = true := fun w h => hts w (List.mem_cons_of_mem _ h)
  have hown : s.vm.findClass "PrefixCodesModel" = some m.cls := findClass_of_methodNamed B.named
  have hlocks := B.notSynchronized
  have hS : va_S A s.heap s.heap [] := va_S.rf
  have hl := lv_entry ([.ref (ad 48 0), .int a1]) (n := 5) (Nat.le_of_ble_eq_true rfl)
  rw [show entryFrame m args 5 = entryFrame m (([.ref (ad 48 0), .int a1] : List Value).toArray) 5 by rw [hargs], lg_entry_eq]
  generalize (lg_sl ([.ref (ad 48 0), .int a1]) ++ List.replicate (5 - (lg_sl ([.ref (ad 48 0), .int a1])).length) Slot.unset).toArray = ls at hl ⊢
  have hl : lv_has ls 5 [(0, .ref (ad 48 0)), (1, .int a1)] := hl
  generalize hQ0 : MQ below (va_Ql (fun r (_ : Unit) => r = o.2) (fun _ t => Hold D aC A ad n o.1 t.heap) A) args s 0 0 A = Q0
  unfold f_Mo_cost at h
  refine lv_aload_n hx hb d_Mo_cost_0 rfl (lv_at hl 0 rfl) ?_
  refine lv_iload_n hx hb d_Mo_cost_1 rfl (lv_at hl 1 rfl) ?_
  obtain ⟨qc, hc2, h⟩ := b2_some h
  obtain ⟨σ1, x2⟩ := qc
  have h := b2_at h
  refine st_Vi (As := [.int a1]) (rest := []) ⟨hx, hb, hml, hown, hg⟩ (c_Mo_has l D aC A ad n _ a1 _ hc2) (cwG hg wd_426 wd_427 wd_429 wd_430 wd_428 yd_Mo_has ⟨Nat.le_of_ble_eq_true rfl, Nat.le_of_ble_eq_true rfl⟩) hK hH hS hZ hd_48 rfl rfl rfl hl.1 rfl (Nat.le_of_ble_eq_true rfl) d_Mo_cost_2 ⟨Nat.zero_le _, Nat.zero_le _⟩ (fun H locs hH hS => ?_)
  refine lv_if_ne (tgt := 12) hx hb d_Mo_cost_5 (by decide) (fun c5 => ?_) (fun c5 => ?_)
  · have h := ie h c5
    refine lv_lconst (v := 0) hx hb d_Mo_cost_12 (by decide) ?_
    refine lv_lstore_n (lv' := [(2, .long 0), (0, .ref (ad 48 0)), (1, .int a1)]) hx hb d_Mo_cost_13 rfl hl (by decide) rfl (fun ls hl => ?_)
    refine lv_iconst (v := 0) hx hb d_Mo_cost_14 (by decide) ?_
    refine lv_istore (lv' := [(4, .int 0), (2, .long 0), (0, .ref (ad 48 0)), (1, .int a1)]) hx hb d_Mo_cost_15 hl (by decide) rfl (fun ls hl => ?_)
    obtain ⟨q1, hq1, h⟩ := b3_some h
    have K1 : ∀ (σ7 : St) (x8 : Int64) (x9 : Int32) (H : Heap) (locs : List Loc) (ls : Array Slot), q1 = (σ7, x8, x9) → Hold D aC A ad n σ7 H → va_S A s.heap H locs → lv_has ls 5 [(0, .ref (ad 48 0)), (1, .int a1), (2, .long x8), (4, .int x9)] → W p l e (headSpec w_Mo_cost rm_Mo_cost).room s m args below meth c H locs 0 0 Q0 (F0 m 54 ls []) := by
      intro σ7 x8 x9 H locs ls eq1 hH hS hl
      subst eq1
      have h := b3_at h
      refine lv_lload_n hx hb d_Mo_cost_54 rfl (lv_at hl 2 rfl) ?_
      cases h
      rw [← hQ0]
      exact W.lret hx hb hr (fun t ht hW => ⟨⟨_, (), rfl, rfl, by dsimp only; rw [ht]; exact hH⟩, hS.F ht⟩) hS.2.2 d_Mo_cost_55
    have loop1 : ∀ (k : Nat) (σ : St) (v2 : Int64) (v4 : Int32) (H : Heap) (locs : List Loc) (ls : Array Slot), Hold D aC A ad n σ H → va_S A s.heap H locs → lv_has ls 5 [(0, .ref (ad 48 0)), (1, .int a1), (2, .long v2), (4, .int v4)] → lp (fun q => lb_Mo_cost_17 a1 q.1 q.2.1 q.2.2) k (σ, v2, v4) = some q1 → W p l e (headSpec w_Mo_cost rm_Mo_cost).room s m args below meth c H locs 0 0 Q0 (F0 m 17 ls []) := by
      intro k
      induction k with
      | zero => intro σ v2 v4 H locs ls hH hS hl hlp; exact absurd hlp (lp_zero _ _ _)
      | succ k ih1 =>
        intro σ v2 v4 H locs ls hH hS hl hlp
        obtain ⟨z1, h1, hk1⟩ := lp_succ hlp
        have h1 : lb_Mo_cost_17 a1 σ v2 v4 = some z1 := h1
        unfold lb_Mo_cost_17 at h1
        refine lv_iload hx hb d_Mo_cost_17 (lv_at hl 3 rfl) ?_
        refine lv_aload_n hx hb d_Mo_cost_19 rfl (lv_at hl 0 rfl) ?_
        refine st_get hx hb hg hown hK hH (f := 48) (i := 0) hd_48 rfl rfl u_Mo 2 (by decide) (hg _ wd_425) (v := .ref (ad 49 0)) rfl d_Mo_cost_20 ?_
        refine lv_iload_n hx hb d_Mo_cost_23 rfl (lv_at hl 1 rfl) ?_
        obtain ⟨g24, h1⟩ := gd_some h1
        refine st_iald hx hb hK hH (f := 49) (i := 0) hd_49 rfl g24 d_Mo_cost_24 ?_
        refine lv_icmp_ge (tgt := 54) hx hb d_Mo_cost_25 (by decide) (fun c25 => ?_) (fun c25 => ?_)
        · have h1 := it h1 c25
          cases h1
          exact K1 σ v2 v4 _ _ ls (Option.some.inj hk1).symm hH hS (lv_sub hl [0, 1, 2, 3] rfl)
        · have h1 := ie h1 c25
          refine lv_lload_n hx hb d_Mo_cost_28 rfl (lv_at hl 2 rfl) ?_
          refine lv_aload_n hx hb d_Mo_cost_29 rfl (lv_at hl 0 rfl) ?_
          refine st_get hx hb hg hown hK hH (f := 48) (i := 0) hd_48 rfl rfl u_Mo 4 (by decide) (hg _ wd_469) (v := .ref (ad 51 0)) rfl d_Mo_cost_30 ?_
          refine lv_iload hx hb d_Mo_cost_33 (lv_at hl 3 rfl) ?_
          obtain ⟨g35, h1⟩ := gd_some h1
          refine st_iald hx hb hK hH (f := 51) (i := 0) hd_51 rfl g35 d_Mo_cost_35 ?_
          refine lv_i2l hx hb d_Mo_cost_36 rfl ?_
          refine lv_aload_n hx hb d_Mo_cost_37 rfl (lv_at hl 0 rfl) ?_
          refine lv_iload_n hx hb d_Mo_cost_38 rfl (lv_at hl 1 rfl) ?_
          refine lv_iload hx hb d_Mo_cost_39 (lv_at hl 3 rfl) ?_
          obtain ⟨qc, hc41, h1⟩ := b2_some h1
          obtain ⟨σ3, x4⟩ := qc
          have h1 := b2_at h1
          refine st_Vi (As := [.int a1, .int v4]) (rest := [.long ((σ.1 51 0 v4.toNatClampNeg).toInt64), .long v2]) ⟨hx, hb, hml, hown, hg⟩ (c_Mo_lengthOf l D aC A ad n _ a1 v4 _ hc41) (cwG hg wd_440 wd_441 wd_442 wd_443 wd_428 yd_Mo_lengthOf ⟨Nat.le_of_ble_eq_true rfl, Nat.le_of_ble_eq_true rfl⟩) hK hH hS hZ hd_48 rfl rfl rfl hl.1 rfl (Nat.le_of_ble_eq_true rfl) d_Mo_cost_41 ⟨Nat.zero_le _, Nat.zero_le _⟩ (fun H locs hH hS => ?_)
          refine lv_i2l hx hb d_Mo_cost_44 rfl ?_
          refine lv_lmul hx hb d_Mo_cost_45 ?_
          refine lv_ladd hx hb d_Mo_cost_46 ?_
          refine lv_topl (fun x5 ex5 => ?_)
          have h1 := nm_at ex5 h1
          refine lv_lstore_n (lv' := [(2, .long x5), (0, .ref (ad 48 0)), (1, .int a1), (4, .int v4)]) hx hb d_Mo_cost_47 rfl hl (by decide) rfl (fun ls hl => ?_)
          obtain ⟨x6, ex6⟩ : ∃ y : Int32, y = v4 + 1 := ⟨_, rfl⟩
          have h1 := nm_at ex6 h1
          refine lv_iinc (v := x6) (lv' := [(4, .int x6), (2, .long x5), (0, .ref (ad 48 0)), (1, .int a1)]) hx hb d_Mo_cost_48 hl (k := 3) rfl (by rw [ex6]; rfl) (by decide) rfl (fun ls hl => ?_)
          refine lv_goto (tgt := 17) hx hb d_Mo_cost_51 (by decide) ?_
          cases h1
          exact ih1 σ3 x5 x6 _ _ ls hH hS (lv_sub hl [2, 3, 1, 0] rfl) hk1
    obtain ⟨k1, hq1⟩ := lpE_some hq1
    exact loop1 k1 σ1 0 0 _ _ ls hH hS (lv_sub hl [2, 3, 1, 0] rfl) hq1
  · have h := it h c5
    refine lv_ldc2 (v := (-101)) hx hb hown (hg _ wd_488) d_Mo_cost_8 ?_
    cases h
    rw [← hQ0]
    exact W.lret hx hb hr (fun t ht hW => ⟨⟨_, (), rfl, rfl, by dsimp only; rw [ht]; exact hH⟩, hS.F ht⟩) hS.2.2 d_Mo_cost_11
set_option maxHeartbeats 4000000 in
set_option maxRecDepth 100000 in
theorem c_Mo_bits (l : Launch) (D : va_G) (aC : Nat → ClassId) (A : Nat → Prop) (ad : Nat → Nat → Nat) (n : Nat) (σ : St) (o : St × Int32) (h : f_Mo_bits σ  = some o) : Met l y_Mo_bits w_Mo_bits rm_Mo_bits (va_Pc [.ref (ad 48 0)] (Pre D aC A ad n σ)) (va_Qi (fun r (_ : Unit) => r = o.2) (fun _ t => Hold D aC A ad n o.1 t.heap) A) 0 0 A := by
  refine Met.ofW (cc := prog_13_method_24_code) (maxL := 1) (ret := (some .int)) (by decide) rfl ?_
  intro p e s m args below meth c s₁ B hml hv
  obtain ⟨hargs, hH, hK, hZ⟩ := hv
  have hx := B.exec
  have hb := B.bytes
  have hr := B.returns
  have hts := atoms_spec (ws := w_Mo_bits) B.pre
  have hg : ∀ w ∈ gW, w.before args s = true := fun w h => hts w (List.mem_cons_of_mem _ h)
  have hown : s.vm.findClass "PrefixCodesModel" = some m.cls := findClass_of_methodNamed B.named
  have hlocks := B.notSynchronized
  have hS : va_S A s.heap s.heap [] := va_S.rf
  have hl := lv_entry ([.ref (ad 48 0)]) (n := 1) (Nat.le_of_ble_eq_true rfl)
  rw [show entryFrame m args 1 = entryFrame m (([.ref (ad 48 0)] : List Value).toArray) 1 by rw [hargs], lg_entry_eq]
  generalize (lg_sl ([.ref (ad 48 0)]) ++ List.replicate (1 - (lg_sl ([.ref (ad 48 0)])).length) Slot.unset).toArray = ls at hl ⊢
  have hl : lv_has ls 1 [(0, .ref (ad 48 0))] := hl
  generalize hQ0 : MQ below (va_Qi (fun r (_ : Unit) => r = o.2) (fun _ t => Hold D aC A ad n o.1 t.heap) A) args s 0 0 A = Q0
  unfold f_Mo_bits at h
  refine lv_aload_n hx hb d_Mo_bits_0 rfl (lv_at hl 0 rfl) ?_
  refine st_get hx hb hg hown hK hH (f := 48) (i := 0) hd_48 rfl rfl u_Mo 12 (by decide) (hg _ wd_489) (v := .int (σ.1 48 0 12)) rfl d_Mo_bits_1 ?_
  refine lv_aload_n hx hb d_Mo_bits_4 rfl (lv_at hl 0 rfl) ?_
  refine st_get hx hb hg hown hK hH (f := 48) (i := 0) hd_48 rfl rfl u_Mo 11 (by decide) (hg _ wd_490) (v := .int (σ.1 48 0 11)) rfl d_Mo_bits_5 ?_
  refine lv_isub hx hb d_Mo_bits_8 ?_
  cases h
  rw [← hQ0]
  exact W.iret hx hb hr (fun t ht hW => ⟨⟨_, (), rfl, rfl, by dsimp only; rw [ht]; exact hH⟩, hS.F ht⟩) hS.2.2 d_Mo_bits_9
set_option maxHeartbeats 4000000 in
set_option maxRecDepth 100000 in
theorem c_Mo_bit (l : Launch) (D : va_G) (aC : Nat → ClassId) (A : Nat → Prop) (ad : Nat → Nat → Nat) (n : Nat) (σ : St) (a1 : Int32) (o : St × Int32) (h : f_Mo_bit σ a1 = some o) : Met l y_Mo_bit w_Mo_bit rm_Mo_bit (va_Pc [.ref (ad 48 0), .int a1] (Pre D aC A ad n σ)) (va_Qi (fun r (_ : Unit) => r = o.2) (fun _ t => Hold D aC A ad n o.1 t.heap) A) 0 0 A := by
  refine Met.ofW (cc := prog_13_method_25_code) (maxL := 2) (ret := (some .int)) (by decide) rfl ?_
  intro p e s m args below meth c s₁ B hml hv
  obtain ⟨hargs, hH, hK, hZ⟩ := hv
  have hx := B.exec
  have hb := B.bytes
  have hr := B.returns
  have hts := atoms_spec (ws := w_Mo_bit) B.pre
  have hg : ∀ w ∈ gW, w.before args s = true := fun w h => hts w (List.mem_cons_of_mem _ h)
  have hown : s.vm.findClass "PrefixCodesModel" = some m.cls := findClass_of_methodNamed B.named
  have hlocks := B.notSynchronized
  have hS : va_S A s.heap s.heap [] := va_S.rf
  have hl := lv_entry ([.ref (ad 48 0), .int a1]) (n := 2) (Nat.le_of_ble_eq_true rfl)
  rw [show entryFrame m args 2 = entryFrame m (([.ref (ad 48 0), .int a1] : List Value).toArray) 2 by rw [hargs], lg_entry_eq]
  generalize (lg_sl ([.ref (ad 48 0), .int a1]) ++ List.replicate (2 - (lg_sl ([.ref (ad 48 0), .int a1])).length) Slot.unset).toArray = ls at hl ⊢
  have hl : lv_has ls 2 [(0, .ref (ad 48 0)), (1, .int a1)] := hl
  generalize hQ0 : MQ below (va_Qi (fun r (_ : Unit) => r = o.2) (fun _ t => Hold D aC A ad n o.1 t.heap) A) args s 0 0 A = Q0
  unfold f_Mo_bit at h
  refine lv_aload_n hx hb d_Mo_bit_0 rfl (lv_at hl 0 rfl) ?_
  refine lv_iconst (v := 0) hx hb d_Mo_bit_1 (by decide) ?_
  refine st_put hx hb hg hown hK hH hS (f := 48) (i := 0) hd_48 rfl rfl u_Mo t_Mo t_Mo_ok n_Mo 0 (by decide) (hg _ wd_423) rfl rfl rfl d_Mo_bit_2 (fun σ1 H locs eσ1 hH hS => ?_)
  have h := nm_at eσ1 h
  refine lv_iload_n hx hb d_Mo_bit_5 rfl (lv_at hl 1 rfl) ?_
  refine lv_if_lt (tgt := 22) hx hb d_Mo_bit_6 (by decide) (fun c6 => ?_) (fun c6 => ?_)
  · have h := it h c6
    refine lv_aload_n hx hb d_Mo_bit_22 rfl (lv_at hl 0 rfl) ?_
    refine lv_iconst (v := 1) hx hb d_Mo_bit_23 (by decide) ?_
    refine st_put hx hb hg hown hK hH hS (f := 48) (i := 0) hd_48 rfl rfl u_Mo t_Mo t_Mo_ok n_Mo 0 (by decide) (hg _ wd_423) rfl rfl rfl d_Mo_bit_24 (fun σ2 H locs eσ2 hH hS => ?_)
    have h := nm_at eσ2 h
    refine lv_iconst (v := 0) hx hb d_Mo_bit_27 (by decide) ?_
    cases h
    rw [← hQ0]
    exact W.iret hx hb hr (fun t ht hW => ⟨⟨_, (), rfl, rfl, by dsimp only; rw [ht]; exact hH⟩, hS.F ht⟩) hS.2.2 d_Mo_bit_28
  · have h := ie h c6
    refine lv_iload_n hx hb d_Mo_bit_9 rfl (lv_at hl 1 rfl) ?_
    refine lv_aload_n hx hb d_Mo_bit_10 rfl (lv_at hl 0 rfl) ?_
    refine st_get hx hb hg hown hK hH (f := 48) (i := 0) hd_48 rfl rfl u_Mo 12 (by decide) (hg _ wd_489) (v := .int (σ1.1 48 0 12)) rfl d_Mo_bit_11 ?_
    refine lv_aload_n hx hb d_Mo_bit_14 rfl (lv_at hl 0 rfl) ?_
    refine st_get hx hb hg hown hK hH (f := 48) (i := 0) hd_48 rfl rfl u_Mo 11 (by decide) (hg _ wd_490) (v := .int (σ1.1 48 0 11)) rfl d_Mo_bit_15 ?_
    refine lv_isub hx hb d_Mo_bit_18 ?_
    refine lv_icmp_lt (tgt := 29) hx hb d_Mo_bit_19 (by decide) (fun c19 => ?_) (fun c19 => ?_)
    · have h := it h c19
      refine lv_aload_n hx hb d_Mo_bit_29 rfl (lv_at hl 0 rfl) ?_
      refine st_get hx hb hg hown hK hH (f := 48) (i := 0) hd_48 rfl rfl u_Mo 10 (by decide) (hg _ wd_491) (v := .ref (ad 57 0)) rfl d_Mo_bit_30 ?_
      refine lv_aload_n hx hb d_Mo_bit_33 rfl (lv_at hl 0 rfl) ?_
      refine st_get hx hb hg hown hK hH (f := 48) (i := 0) hd_48 rfl rfl u_Mo 11 (by decide) (hg _ wd_490) (v := .int (σ1.1 48 0 11)) rfl d_Mo_bit_34 ?_
      refine lv_iload_n hx hb d_Mo_bit_37 rfl (lv_at hl 1 rfl) ?_
      refine lv_iadd hx hb d_Mo_bit_38 ?_
      obtain ⟨g39, h⟩ := gd_some h
      refine st_bald hx hb hK hH (f := 57) (i := 0) hd_57 rfl g39 d_Mo_bit_39 ?_
      cases h
      rw [← hQ0]
      exact W.iret hx hb hr (fun t ht hW => ⟨⟨_, (), rfl, rfl, by dsimp only; rw [ht]; exact hH⟩, hS.F ht⟩) hS.2.2 d_Mo_bit_40
    · have h := ie h c19
      refine lv_aload_n hx hb d_Mo_bit_22 rfl (lv_at hl 0 rfl) ?_
      refine lv_iconst (v := 1) hx hb d_Mo_bit_23 (by decide) ?_
      refine st_put hx hb hg hown hK hH hS (f := 48) (i := 0) hd_48 rfl rfl u_Mo t_Mo t_Mo_ok n_Mo 0 (by decide) (hg _ wd_423) rfl rfl rfl d_Mo_bit_24 (fun σ3 H locs eσ3 hH hS => ?_)
      have h := nm_at eσ3 h
      refine lv_iconst (v := 0) hx hb d_Mo_bit_27 (by decide) ?_
      cases h
      rw [← hQ0]
      exact W.iret hx hb hr (fun t ht hW => ⟨⟨_, (), rfl, rfl, by dsimp only; rw [ht]; exact hH⟩, hS.F ht⟩) hS.2.2 d_Mo_bit_28
