theorem d_Mo_read_0 : decode prog_13_method_61_code 0 = .ok (.aload_n 0, 1) := by decide +kernel
theorem d_Mo_read_1 : decode prog_13_method_61_code 1 = .ok (.iload_n 1, 1) := by decide +kernel
theorem d_Mo_read_2 : decode prog_13_method_61_code 2 = .ok (.invokevirtual 87, 3) := by decide +kernel
theorem d_Mo_read_5 : decode prog_13_method_61_code 5 = .ok (.ifCond .eq 17, 3) := by decide +kernel
theorem d_Mo_read_8 : decode prog_13_method_61_code 8 = .ok (.iload_n 2, 1) := by decide +kernel
theorem d_Mo_read_9 : decode prog_13_method_61_code 9 = .ok (.ifCond .le 16, 3) := by decide +kernel
theorem d_Mo_read_12 : decode prog_13_method_61_code 12 = .ok (.iload_n 2, 1) := by decide +kernel
theorem d_Mo_read_13 : decode prog_13_method_61_code 13 = .ok (.aload_n 0, 1) := by decide +kernel
theorem d_Mo_read_14 : decode prog_13_method_61_code 14 = .ok (.getfield 84, 3) := by decide +kernel
theorem d_Mo_read_17 : decode prog_13_method_61_code 17 = .ok (.iload_n 1, 1) := by decide +kernel
theorem d_Mo_read_18 : decode prog_13_method_61_code 18 = .ok (.isub, 1) := by decide +kernel
theorem d_Mo_read_19 : decode prog_13_method_61_code 19 = .ok (.if_icmp .le 6, 3) := by decide +kernel
theorem d_Mo_read_22 : decode prog_13_method_61_code 22 = .ok (.bipush (-101), 2) := by decide +kernel
theorem d_Mo_read_24 : decode prog_13_method_61_code 24 = .ok (.ireturn, 1) := by decide +kernel
theorem d_Mo_read_25 : decode prog_13_method_61_code 25 = .ok (.iload_n 2, 1) := by decide +kernel
theorem d_Mo_read_26 : decode prog_13_method_61_code 26 = .ok (.iconst 1, 1) := by decide +kernel
theorem d_Mo_read_27 : decode prog_13_method_61_code 27 = .ok (.if_icmp .lt 34, 3) := by decide +kernel
theorem d_Mo_read_30 : decode prog_13_method_61_code 30 = .ok (.iload_n 2, 1) := by decide +kernel
theorem d_Mo_read_31 : decode prog_13_method_61_code 31 = .ok (.bipush 6, 2) := by decide +kernel
theorem d_Mo_read_33 : decode prog_13_method_61_code 33 = .ok (.if_icmp .gt 28, 3) := by decide +kernel
theorem d_Mo_read_36 : decode prog_13_method_61_code 36 = .ok (.iload_n 3, 1) := by decide +kernel
theorem d_Mo_read_37 : decode prog_13_method_61_code 37 = .ok (.iconst 1, 1) := by decide +kernel
theorem d_Mo_read_38 : decode prog_13_method_61_code 38 = .ok (.if_icmp .lt 23, 3) := by decide +kernel
theorem d_Mo_read_41 : decode prog_13_method_61_code 41 = .ok (.iload_n 3, 1) := by decide +kernel
theorem d_Mo_read_42 : decode prog_13_method_61_code 42 = .ok (.bipush 100, 2) := by decide +kernel
theorem d_Mo_read_44 : decode prog_13_method_61_code 44 = .ok (.if_icmp .gt 17, 3) := by decide +kernel
theorem d_Mo_read_47 : decode prog_13_method_61_code 47 = .ok (.iload 4, 2) := by decide +kernel
theorem d_Mo_read_49 : decode prog_13_method_61_code 49 = .ok (.iconst 1, 1) := by decide +kernel
theorem d_Mo_read_50 : decode prog_13_method_61_code 50 = .ok (.if_icmp .lt 11, 3) := by decide +kernel
theorem d_Mo_read_53 : decode prog_13_method_61_code 53 = .ok (.iload 4, 2) := by decide +kernel
theorem d_Mo_read_55 : decode prog_13_method_61_code 55 = .ok (.sipush 1000, 3) := by decide +kernel
theorem d_Mo_read_58 : decode prog_13_method_61_code 58 = .ok (.if_icmp .le 6, 3) := by decide +kernel
theorem d_Mo_read_61 : decode prog_13_method_61_code 61 = .ok (.bipush (-102), 2) := by decide +kernel
theorem d_Mo_read_63 : decode prog_13_method_61_code 63 = .ok (.ireturn, 1) := by decide +kernel
theorem d_Mo_read_64 : decode prog_13_method_61_code 64 = .ok (.iload_n 1, 1) := by decide +kernel
theorem d_Mo_read_65 : decode prog_13_method_61_code 65 = .ok (.istore 5, 2) := by decide +kernel
theorem d_Mo_read_67 : decode prog_13_method_61_code 67 = .ok (.iload 5, 2) := by decide +kernel
theorem d_Mo_read_69 : decode prog_13_method_61_code 69 = .ok (.iload_n 1, 1) := by decide +kernel
theorem d_Mo_read_70 : decode prog_13_method_61_code 70 = .ok (.iload_n 2, 1) := by decide +kernel
theorem d_Mo_read_71 : decode prog_13_method_61_code 71 = .ok (.iadd, 1) := by decide +kernel
theorem d_Mo_read_72 : decode prog_13_method_61_code 72 = .ok (.if_icmp .ge 31, 3) := by decide +kernel
theorem d_Mo_read_75 : decode prog_13_method_61_code 75 = .ok (.aload_n 0, 1) := by decide +kernel
theorem d_Mo_read_76 : decode prog_13_method_61_code 76 = .ok (.iload 5, 2) := by decide +kernel
theorem d_Mo_read_78 : decode prog_13_method_61_code 78 = .ok (.invokevirtual 113, 3) := by decide +kernel
theorem d_Mo_read_81 : decode prog_13_method_61_code 81 = .ok (.ifCond .eq 13, 3) := by decide +kernel
theorem d_Mo_read_84 : decode prog_13_method_61_code 84 = .ok (.aload_n 0, 1) := by decide +kernel
theorem d_Mo_read_85 : decode prog_13_method_61_code 85 = .ok (.iload 5, 2) := by decide +kernel
theorem d_Mo_read_87 : decode prog_13_method_61_code 87 = .ok (.invokevirtual 113, 3) := by decide +kernel
theorem d_Mo_read_90 : decode prog_13_method_61_code 90 = .ok (.iconst 4, 1) := by decide +kernel
theorem d_Mo_read_91 : decode prog_13_method_61_code 91 = .ok (.if_icmp .ne 6, 3) := by decide +kernel
theorem d_Mo_read_94 : decode prog_13_method_61_code 94 = .ok (.bipush (-103), 2) := by decide +kernel
theorem d_Mo_read_96 : decode prog_13_method_61_code 96 = .ok (.ireturn, 1) := by decide +kernel
theorem d_Mo_read_97 : decode prog_13_method_61_code 97 = .ok (.iinc 5 1, 3) := by decide +kernel
theorem d_Mo_read_100 : decode prog_13_method_61_code 100 = .ok (.goto (-33), 3) := by decide +kernel
theorem d_Mo_read_103 : decode prog_13_method_61_code 103 = .ok (.aload_n 0, 1) := by decide +kernel
theorem d_Mo_read_104 : decode prog_13_method_61_code 104 = .ok (.iload_n 2, 1) := by decide +kernel
theorem d_Mo_read_105 : decode prog_13_method_61_code 105 = .ok (.invokevirtual 232, 3) := by decide +kernel
theorem d_Mo_read_108 : decode prog_13_method_61_code 108 = .ok (.iload 4, 2) := by decide +kernel
theorem d_Mo_read_110 : decode prog_13_method_61_code 110 = .ok (.iload_n 3, 1) := by decide +kernel
theorem d_Mo_read_111 : decode prog_13_method_61_code 111 = .ok (.iadd, 1) := by decide +kernel
theorem d_Mo_read_112 : decode prog_13_method_61_code 112 = .ok (.iconst 1, 1) := by decide +kernel
theorem d_Mo_read_113 : decode prog_13_method_61_code 113 = .ok (.isub, 1) := by decide +kernel
theorem d_Mo_read_114 : decode prog_13_method_61_code 114 = .ok (.iload_n 3, 1) := by decide +kernel
theorem d_Mo_read_115 : decode prog_13_method_61_code 115 = .ok (.idiv, 1) := by decide +kernel
theorem d_Mo_read_116 : decode prog_13_method_61_code 116 = .ok (.istore 5, 2) := by decide +kernel
theorem d_Mo_read_118 : decode prog_13_method_61_code 118 = .ok (.iconst 0, 1) := by decide +kernel
theorem d_Mo_read_119 : decode prog_13_method_61_code 119 = .ok (.istore 6, 2) := by decide +kernel
theorem d_Mo_read_121 : decode prog_13_method_61_code 121 = .ok (.iload 6, 2) := by decide +kernel
theorem d_Mo_read_123 : decode prog_13_method_61_code 123 = .ok (.iload 5, 2) := by decide +kernel
theorem d_Mo_read_125 : decode prog_13_method_61_code 125 = .ok (.if_icmp .ge 68, 3) := by decide +kernel
theorem d_Mo_read_128 : decode prog_13_method_61_code 128 = .ok (.iconst 0, 1) := by decide +kernel
theorem d_Mo_read_129 : decode prog_13_method_61_code 129 = .ok (.istore 7, 2) := by decide +kernel
theorem d_Mo_read_131 : decode prog_13_method_61_code 131 = .ok (.aload_n 0, 1) := by decide +kernel
theorem d_Mo_read_132 : decode prog_13_method_61_code 132 = .ok (.iconst 1, 1) := by decide +kernel
theorem d_Mo_read_133 : decode prog_13_method_61_code 133 = .ok (.invokevirtual 191, 3) := by decide +kernel
theorem d_Mo_read_136 : decode prog_13_method_61_code 136 = .ok (.istore 8, 2) := by decide +kernel
theorem d_Mo_read_138 : decode prog_13_method_61_code 138 = .ok (.iload 8, 2) := by decide +kernel
theorem d_Mo_read_140 : decode prog_13_method_61_code 140 = .ok (.iconst 1, 1) := by decide +kernel
theorem d_Mo_read_141 : decode prog_13_method_61_code 141 = .ok (.if_icmp .ne 25, 3) := by decide +kernel
theorem d_Mo_read_144 : decode prog_13_method_61_code 144 = .ok (.iinc 7 1, 3) := by decide +kernel
theorem d_Mo_read_147 : decode prog_13_method_61_code 147 = .ok (.iload 7, 2) := by decide +kernel
theorem d_Mo_read_149 : decode prog_13_method_61_code 149 = .ok (.iload_n 2, 1) := by decide +kernel
theorem d_Mo_read_150 : decode prog_13_method_61_code 150 = .ok (.if_icmp .ne 6, 3) := by decide +kernel
theorem d_Mo_read_153 : decode prog_13_method_61_code 153 = .ok (.bipush (-105), 2) := by decide +kernel
theorem d_Mo_read_155 : decode prog_13_method_61_code 155 = .ok (.ireturn, 1) := by decide +kernel
theorem d_Mo_read_156 : decode prog_13_method_61_code 156 = .ok (.aload_n 0, 1) := by decide +kernel
theorem d_Mo_read_157 : decode prog_13_method_61_code 157 = .ok (.iconst 1, 1) := by decide +kernel
theorem d_Mo_read_158 : decode prog_13_method_61_code 158 = .ok (.invokevirtual 191, 3) := by decide +kernel
theorem d_Mo_read_161 : decode prog_13_method_61_code 161 = .ok (.istore 8, 2) := by decide +kernel
theorem d_Mo_read_163 : decode prog_13_method_61_code 163 = .ok (.goto (-25), 3) := by decide +kernel
theorem d_Mo_read_166 : decode prog_13_method_61_code 166 = .ok (.iload 8, 2) := by decide +kernel
theorem d_Mo_read_168 : decode prog_13_method_61_code 168 = .ok (.ifCond .ge 6, 3) := by decide +kernel
theorem d_Mo_read_171 : decode prog_13_method_61_code 171 = .ok (.iload 8, 2) := by decide +kernel
theorem d_Mo_read_173 : decode prog_13_method_61_code 173 = .ok (.ireturn, 1) := by decide +kernel
theorem d_Mo_read_174 : decode prog_13_method_61_code 174 = .ok (.aload_n 0, 1) := by decide +kernel
theorem d_Mo_read_175 : decode prog_13_method_61_code 175 = .ok (.getfield 75, 3) := by decide +kernel
theorem d_Mo_read_178 : decode prog_13_method_61_code 178 = .ok (.iload 6, 2) := by decide +kernel
theorem d_Mo_read_180 : decode prog_13_method_61_code 180 = .ok (.aload_n 0, 1) := by decide +kernel
theorem d_Mo_read_181 : decode prog_13_method_61_code 181 = .ok (.iload 7, 2) := by decide +kernel
theorem d_Mo_read_183 : decode prog_13_method_61_code 183 = .ok (.invokevirtual 235, 3) := by decide +kernel
theorem d_Mo_read_186 : decode prog_13_method_61_code 186 = .ok (.iastore, 1) := by decide +kernel
theorem d_Mo_read_187 : decode prog_13_method_61_code 187 = .ok (.iinc 6 1, 3) := by decide +kernel
theorem d_Mo_read_190 : decode prog_13_method_61_code 190 = .ok (.goto (-69), 3) := by decide +kernel
theorem d_Mo_read_193 : decode prog_13_method_61_code 193 = .ok (.iconst 0, 1) := by decide +kernel
theorem d_Mo_read_194 : decode prog_13_method_61_code 194 = .ok (.istore 6, 2) := by decide +kernel
theorem d_Mo_read_196 : decode prog_13_method_61_code 196 = .ok (.iload 6, 2) := by decide +kernel
theorem d_Mo_read_198 : decode prog_13_method_61_code 198 = .ok (.iload 4, 2) := by decide +kernel
theorem d_Mo_read_200 : decode prog_13_method_61_code 200 = .ok (.if_icmp .ge 44, 3) := by decide +kernel
theorem d_Mo_read_203 : decode prog_13_method_61_code 203 = .ok (.aload_n 0, 1) := by decide +kernel
theorem d_Mo_read_204 : decode prog_13_method_61_code 204 = .ok (.iload_n 1, 1) := by decide +kernel
theorem d_Mo_read_205 : decode prog_13_method_61_code 205 = .ok (.aload_n 0, 1) := by decide +kernel
theorem d_Mo_read_206 : decode prog_13_method_61_code 206 = .ok (.getfield 75, 3) := by decide +kernel
theorem d_Mo_read_209 : decode prog_13_method_61_code 209 = .ok (.iload 6, 2) := by decide +kernel
theorem d_Mo_read_211 : decode prog_13_method_61_code 211 = .ok (.iload_n 3, 1) := by decide +kernel
theorem d_Mo_read_212 : decode prog_13_method_61_code 212 = .ok (.idiv, 1) := by decide +kernel
theorem d_Mo_read_213 : decode prog_13_method_61_code 213 = .ok (.iaload, 1) := by decide +kernel
theorem d_Mo_read_214 : decode prog_13_method_61_code 214 = .ok (.iadd, 1) := by decide +kernel
theorem d_Mo_read_215 : decode prog_13_method_61_code 215 = .ok (.iconst 0, 1) := by decide +kernel
theorem d_Mo_read_216 : decode prog_13_method_61_code 216 = .ok (.invokevirtual 156, 3) := by decide +kernel
theorem d_Mo_read_219 : decode prog_13_method_61_code 219 = .ok (.istore 7, 2) := by decide +kernel
theorem d_Mo_read_221 : decode prog_13_method_61_code 221 = .ok (.iload 7, 2) := by decide +kernel
theorem d_Mo_read_223 : decode prog_13_method_61_code 223 = .ok (.ifCond .ge 6, 3) := by decide +kernel
theorem d_Mo_read_226 : decode prog_13_method_61_code 226 = .ok (.iload 7, 2) := by decide +kernel
theorem d_Mo_read_228 : decode prog_13_method_61_code 228 = .ok (.ireturn, 1) := by decide +kernel
theorem d_Mo_read_229 : decode prog_13_method_61_code 229 = .ok (.aload_n 0, 1) := by decide +kernel
theorem d_Mo_read_230 : decode prog_13_method_61_code 230 = .ok (.getfield 78, 3) := by decide +kernel
theorem d_Mo_read_233 : decode prog_13_method_61_code 233 = .ok (.iload 6, 2) := by decide +kernel
theorem d_Mo_read_235 : decode prog_13_method_61_code 235 = .ok (.iload 7, 2) := by decide +kernel
theorem d_Mo_read_237 : decode prog_13_method_61_code 237 = .ok (.iastore, 1) := by decide +kernel
theorem d_Mo_read_238 : decode prog_13_method_61_code 238 = .ok (.iinc 6 1, 3) := by decide +kernel
theorem d_Mo_read_241 : decode prog_13_method_61_code 241 = .ok (.goto (-45), 3) := by decide +kernel
theorem d_Mo_read_244 : decode prog_13_method_61_code 244 = .ok (.iconst 0, 1) := by decide +kernel
theorem d_Mo_read_245 : decode prog_13_method_61_code 245 = .ok (.istore 6, 2) := by decide +kernel
theorem d_Mo_read_247 : decode prog_13_method_61_code 247 = .ok (.iload 6, 2) := by decide +kernel
theorem d_Mo_read_249 : decode prog_13_method_61_code 249 = .ok (.iload 4, 2) := by decide +kernel
theorem d_Mo_read_251 : decode prog_13_method_61_code 251 = .ok (.if_icmp .ge 23, 3) := by decide +kernel
theorem d_Mo_read_254 : decode prog_13_method_61_code 254 = .ok (.aload_n 0, 1) := by decide +kernel
theorem d_Mo_read_255 : decode prog_13_method_61_code 255 = .ok (.getfield 59, 3) := by decide +kernel
theorem d_Mo_read_258 : decode prog_13_method_61_code 258 = .ok (.iload 6, 2) := by decide +kernel
theorem d_Mo_read_260 : decode prog_13_method_61_code 260 = .ok (.aload_n 0, 1) := by decide +kernel
theorem d_Mo_read_261 : decode prog_13_method_61_code 261 = .ok (.getfield 78, 3) := by decide +kernel
theorem d_Mo_read_264 : decode prog_13_method_61_code 264 = .ok (.iload 6, 2) := by decide +kernel
theorem d_Mo_read_266 : decode prog_13_method_61_code 266 = .ok (.iaload, 1) := by decide +kernel
theorem d_Mo_read_267 : decode prog_13_method_61_code 267 = .ok (.iastore, 1) := by decide +kernel
theorem d_Mo_read_268 : decode prog_13_method_61_code 268 = .ok (.iinc 6 1, 3) := by decide +kernel
theorem d_Mo_read_271 : decode prog_13_method_61_code 271 = .ok (.goto (-24), 3) := by decide +kernel
theorem d_Mo_read_274 : decode prog_13_method_61_code 274 = .ok (.aload_n 0, 1) := by decide +kernel
theorem d_Mo_read_275 : decode prog_13_method_61_code 275 = .ok (.iload 4, 2) := by decide +kernel
theorem d_Mo_read_277 : decode prog_13_method_61_code 277 = .ok (.putfield 123, 3) := by decide +kernel
theorem d_Mo_read_280 : decode prog_13_method_61_code 280 = .ok (.iload 4, 2) := by decide +kernel
theorem d_Mo_read_282 : decode prog_13_method_61_code 282 = .ok (.ireturn, 1) := by decide +kernel
theorem d_Mo_symbol_0 : decode prog_13_method_62_code 0 = .ok (.aload_n 0, 1) := by decide +kernel
theorem d_Mo_symbol_1 : decode prog_13_method_62_code 1 = .ok (.iconst 0, 1) := by decide +kernel
theorem d_Mo_symbol_2 : decode prog_13_method_62_code 2 = .ok (.putfield 81, 3) := by decide +kernel
theorem d_Mo_symbol_5 : decode prog_13_method_62_code 5 = .ok (.iload_n 1, 1) := by decide +kernel
theorem d_Mo_symbol_6 : decode prog_13_method_62_code 6 = .ok (.ifCond .lt 11, 3) := by decide +kernel
theorem d_Mo_symbol_9 : decode prog_13_method_62_code 9 = .ok (.iload_n 1, 1) := by decide +kernel
theorem d_Mo_symbol_10 : decode prog_13_method_62_code 10 = .ok (.aload_n 0, 1) := by decide +kernel
theorem d_Mo_symbol_11 : decode prog_13_method_62_code 11 = .ok (.getfield 123, 3) := by decide +kernel
theorem d_Mo_symbol_14 : decode prog_13_method_62_code 14 = .ok (.if_icmp .lt 10, 3) := by decide +kernel
theorem d_Mo_symbol_17 : decode prog_13_method_62_code 17 = .ok (.aload_n 0, 1) := by decide +kernel
theorem d_Mo_symbol_18 : decode prog_13_method_62_code 18 = .ok (.iconst 1, 1) := by decide +kernel
theorem d_Mo_symbol_19 : decode prog_13_method_62_code 19 = .ok (.putfield 81, 3) := by decide +kernel
theorem d_Mo_symbol_22 : decode prog_13_method_62_code 22 = .ok (.iconst 0, 1) := by decide +kernel
theorem d_Mo_symbol_23 : decode prog_13_method_62_code 23 = .ok (.ireturn, 1) := by decide +kernel
theorem d_Mo_symbol_24 : decode prog_13_method_62_code 24 = .ok (.aload_n 0, 1) := by decide +kernel
theorem d_Mo_symbol_25 : decode prog_13_method_62_code 25 = .ok (.getfield 59, 3) := by decide +kernel
theorem d_Mo_symbol_28 : decode prog_13_method_62_code 28 = .ok (.iload_n 1, 1) := by decide +kernel
theorem d_Mo_symbol_29 : decode prog_13_method_62_code 29 = .ok (.iaload, 1) := by decide +kernel
theorem d_Mo_symbol_30 : decode prog_13_method_62_code 30 = .ok (.ireturn, 1) := by decide +kernel
noncomputable def lb_Mo_read_67 (p1 : Int32) (p2 : Int32) (p3 : Int32) (p4 : Int32) (σ : St) (v5 : Int32) : Option ((St × Int32) ⊕ ((St × Int32) ⊕ (St × Int32))) :=
  if (p1 + p2) ≤ v5 then
    some (.inr (.inl (σ, v5)))
  else
  b2 (f_Mo_kind σ v5) fun σ3 x4 =>
  if x4 = 0 then
    some (.inr (.inr (σ3, (-103))))
  else
  b2 (f_Mo_kind σ3 v5) fun σ5 x6 =>
  if x6 = 4 then
    some (.inr (.inr (σ5, (-103))))
  else
  nm (v5 + 1) fun x7 =>
  some (.inl (σ5, x7))
noncomputable def lb_Mo_read_138 (p1 : Int32) (p2 : Int32) (p3 : Int32) (p4 : Int32) (x11 : Int32) (v6 : Int32) (σ : St) (v7 : Int32) (v8 : Int32) : Option ((St × Int32 × Int32) ⊕ ((St × Int32 × Int32) ⊕ (St × Int32))) :=
  if v8 = 1 then
    nm (v7 + 1) fun x14 =>
    if x14 = p2 then
      some (.inr (.inr (σ, (-105))))
    else
    b2 (f_Mo_takeNumber σ 1) fun σ15 x16 =>
    some (.inl (σ15, x14, x16))
  else
  some (.inr (.inl (σ, v7, v8)))
noncomputable def lb_Mo_read_121 (p1 : Int32) (p2 : Int32) (p3 : Int32) (p4 : Int32) (x11 : Int32) (σ : St) (v6 : Int32) : Option ((St × Int32) ⊕ ((St × Int32) ⊕ (St × Int32))) :=
  if x11 ≤ v6 then
    some (.inr (.inl (σ, v6)))
  else
  b2 (f_Mo_takeNumber σ 1) fun σ12 x13 =>
  bs3 (lpE (fun q => lb_Mo_read_138 p1 p2 p3 p4 x11 v6 q.1 q.2.1 q.2.2) (σ12, 0, x13)) (fun z => some (.inr (.inr z))) fun σ17 x18 x19 =>
  if 0 ≤ x19 then
    b2 (f_Mo_front σ17 x18) fun σ20 x21 =>
    gd (ib v6 1000) <|
    nm (sI σ20 68 0 (v6.toNatClampNeg) x21) fun σ22 =>
    nm (v6 + 1) fun x23 =>
    some (.inl (σ22, x23))
  else
  some (.inr (.inr (σ17, x19)))
noncomputable def lb_Mo_read_196 (p1 : Int32) (p3 : Int32) (p4 : Int32) (σ : St) (v6 : Int32) : Option ((St × Int32) ⊕ ((St × Int32) ⊕ (St × Int32))) :=
  if p4 ≤ v6 then
    some (.inr (.inl (σ, v6)))
  else
  gd (¬ p3 = 0) <|
  gd (ib (v6 / p3) 1000) <|
  b2 (f_Mo_taken σ (p1 + (σ.1 68 0 (v6 / p3).toNatClampNeg)) 0) fun σ26 x27 =>
  if 0 ≤ x27 then
    gd (ib v6 1000) <|
    nm (sI σ26 69 0 (v6.toNatClampNeg) x27) fun σ28 =>
    nm (v6 + 1) fun x29 =>
    some (.inl (σ28, x29))
  else
  some (.inr (.inr (σ26, x27)))
noncomputable def lb_Mo_read_247 (p4 : Int32) (σ : St) (v6 : Int32) : Option ((St × Int32) ⊕ ((St × Int32))) :=
  if p4 ≤ v6 then
    some (.inr (σ, v6))
  else
  gd (ib v6 1000) <|
  gd (ib v6 1000) <|
  nm (sI σ 64 0 (v6.toNatClampNeg) (σ.1 69 0 v6.toNatClampNeg)) fun σ32 =>
  nm (v6 + 1) fun x33 =>
  some (.inl (σ32, x33))
noncomputable def jn_Mo_read_25 (σ : St) (p1 : Int32) (p2 : Int32) (p3 : Int32) (p4 : Int32) : Option (St × Int32) :=
  if p2 < 1 then
    some (σ, (-102))
  else
  if 6 < p2 then
    some (σ, (-102))
  else
  if p3 < 1 then
    some (σ, (-102))
  else
  if 100 < p3 then
    some (σ, (-102))
  else
  if p4 < 1 then
    some (σ, (-102))
  else
  if p4 ≤ 1000 then
    bs2 (lpE (fun q => lb_Mo_read_67 p1 p2 p3 p4 q.1 q.2) (σ, p1)) (fun z => some z) fun σ8 x9 =>
    b1 (f_Mo_begin σ8 p2) fun σ10 =>
    gd (¬ p3 = 0) <|
    nm (((p4 + p3) - 1) / p3) fun x11 =>
    bs2 (lpE (fun q => lb_Mo_read_121 p1 p2 p3 p4 x11 q.1 q.2) (σ10, 0)) (fun z => some z) fun σ24 x25 =>
    bs2 (lpE (fun q => lb_Mo_read_196 p1 p3 p4 q.1 q.2) (σ24, 0)) (fun z => some z) fun σ30 x31 =>
    b2 (lpE (fun q => lb_Mo_read_247 p4 q.1 q.2) (σ30, 0)) fun σ34 x35 =>
    nm (sI σ34 48 0 22 p4) fun σ36 =>
    some (σ36, p4)
  else
  some (σ, (-102))
noncomputable def f_Mo_read (σ : St) (a1 : Int32) (a2 : Int32) (a3 : Int32) (a4 : Int32) : Option (St × Int32) :=
  b2 (f_Mo_has σ a1) fun σ1 x2 =>
  if x2 = 0 then
    some (σ1, (-101))
  else
  if a2 ≤ 0 then
    jn_Mo_read_25 σ1 a1 a2 a3 a4
  else
  if a2 ≤ ((σ1.1 48 0 1) - a1) then
    jn_Mo_read_25 σ1 a1 a2 a3 a4
  else
  some (σ1, (-101))
noncomputable def f_Mo_symbol (σ : St) (a1 : Int32) : Option (St × Int32) :=
  nm (sI σ 48 0 0 0) fun σ1 =>
  if a1 < 0 then
    nm (sI σ1 48 0 0 1) fun σ2 =>
    some (σ2, 0)
  else
  if a1 < (σ1.1 48 0 22) then
    gd (ib a1 1000) <|
    some (σ1, σ1.1 64 0 a1.toNatClampNeg)
  else
  nm (sI σ1 48 0 0 1) fun σ3 =>
  some (σ3, 0)
set_option maxHeartbeats 4000000 in
set_option maxRecDepth 100000 in
theorem c_Mo_read (l : Launch) (D : va_G) (aC : Nat → ClassId) (A : Nat → Prop) (ad : Nat → Nat → Nat) (n : Nat) (σ : St) (a1 : Int32) (a2 : Int32) (a3 : Int32) (a4 : Int32) (o : St × Int32) (h : f_Mo_read σ a1 a2 a3 a4 = some o) : Met l y_Mo_read w_Mo_read rm_Mo_read (va_Pc [.ref (ad 48 0), .int a1, .int a2, .int a3, .int a4] (Pre D aC A ad n σ)) (va_Qi (fun r (_ : Unit) => r = o.2) (fun _ t => Hold D aC A ad n o.1 t.heap) A) 0 0 A := by
  refine Met.ofW (cc := prog_13_method_61_code) (maxL := 9) (ret := (some .int)) (by decide) rfl ?_
  intro p e s m args below meth c s₁ B hml hv
  obtain ⟨hargs, hH, hK, hZ⟩ := hv
  have hx := B.exec
  have hb := B.bytes
  have hr := B.returns
  have hts := atoms_spec (ws := w_Mo_read) B.pre
  have hg : ∀ w ∈ gW, w.before args s = true := fun w h => hts w (List.mem_cons_of_mem _ h)
  have hown : s.vm.findClass "PrefixCodesModel" = some m.cls := findClass_of_methodNamed B.named
  have hlocks := B.notSynchronized
  have hS : va_S A s.heap s.heap [] := va_S.rf
  have hl := lv_entry ([.ref (ad 48 0), .int a1, .int a2, .int a3, .int a4]) (n := 9) (Nat.le_of_ble_eq_true rfl)
  rw [show entryFrame m args 9 = entryFrame m (([.ref (ad 48 0), .int a1, .int a2, .int a3, .int a4] : List Value).toArray) 9 by rw [hargs], lg_entry_eq]
  generalize (lg_sl ([.ref (ad 48 0), .int a1, .int a2, .int a3, .int a4]) ++ List.replicate (9 - (lg_sl ([.ref (ad 48 0), .int a1, .int a2, .int a3, .int a4])).length) Slot.unset).toArray = ls at hl ⊢
  have hl : lv_has ls 9 [(0, .ref (ad 48 0)), (1, .int a1), (2, .int a2), (3, .int a3), (4, .int a4)] := hl
  generalize hQ0 : MQ below (va_Qi (fun r (_ : Unit) => r = o.2) (fun _ t => Hold D aC A ad n o.1 t.heap) A) args s 0 0 A = Q0
  unfold f_Mo_read at h
  have J25 : ∀ (σ : St) (p1 : Int32) (p2 : Int32) (p3 : Int32) (p4 : Int32) (H : Heap) (locs : List Loc) (ls : Array Slot), Hold D aC A ad n σ H → va_S A s.heap H locs → lv_has ls 9 [(0, .ref (ad 48 0)), (1, .int p1), (2, .int p2), (3, .int p3), (4, .int p4)] → jn_Mo_read_25 σ p1 p2 p3 p4 = some o → W p l e (headSpec w_Mo_read rm_Mo_read).room s m args below meth c H locs 0 0 Q0 (F0 m 25 ls []) := by
    intro σ p1 p2 p3 p4  H locs ls hH hS hl h
    unfold jn_Mo_read_25 at h
    refine lv_iload_n hx hb d_Mo_read_25 rfl (lv_at hl 2 rfl) ?_
    refine lv_iconst (v := 1) hx hb d_Mo_read_26 (by decide) ?_
    refine lv_icmp_lt (tgt := 61) hx hb d_Mo_read_27 (by decide) (fun c27 => ?_) (fun c27 => ?_)
    · have h := it h c27
      refine lv_bipush (v := (-102)) hx hb d_Mo_read_61 (by decide) ?_
      cases h
      rw [← hQ0]
      exact W.iret hx hb hr (fun t ht hW => ⟨⟨_, (), rfl, rfl, by dsimp only; rw [ht]; exact hH⟩, hS.F ht⟩) hS.2.2 d_Mo_read_63
    · have h := ie h c27
      refine lv_iload_n hx hb d_Mo_read_30 rfl (lv_at hl 2 rfl) ?_
      refine lv_bipush (v := 6) hx hb d_Mo_read_31 (by decide) ?_
      refine lv_icmp_gt (tgt := 61) hx hb d_Mo_read_33 (by decide) (fun c33 => ?_) (fun c33 => ?_)
      · have h := it h c33
        refine lv_bipush (v := (-102)) hx hb d_Mo_read_61 (by decide) ?_
        cases h
        rw [← hQ0]
        exact W.iret hx hb hr (fun t ht hW => ⟨⟨_, (), rfl, rfl, by dsimp only; rw [ht]; exact hH⟩, hS.F ht⟩) hS.2.2 d_Mo_read_63
      · have h := ie h c33
        refine lv_iload_n hx hb d_Mo_read_36 rfl (lv_at hl 3 rfl) ?_
        refine lv_iconst (v := 1) hx hb d_Mo_read_37 (by decide) ?_
        refine lv_icmp_lt (tgt := 61) hx hb d_Mo_read_38 (by decide) (fun c38 => ?_) (fun c38 => ?_)
        · have h := it h c38
          refine lv_bipush (v := (-102)) hx hb d_Mo_read_61 (by decide) ?_
          cases h
          rw [← hQ0]
          exact W.iret hx hb hr (fun t ht hW => ⟨⟨_, (), rfl, rfl, by dsimp only; rw [ht]; exact hH⟩, hS.F ht⟩) hS.2.2 d_Mo_read_63
        · have h := ie h c38
          refine lv_iload_n hx hb d_Mo_read_41 rfl (lv_at hl 3 rfl) ?_
          refine lv_bipush (v := 100) hx hb d_Mo_read_42 (by decide) ?_
          refine lv_icmp_gt (tgt := 61) hx hb d_Mo_read_44 (by decide) (fun c44 => ?_) (fun c44 => ?_)
          · have h := it h c44
            refine lv_bipush (v := (-102)) hx hb d_Mo_read_61 (by decide) ?_
            cases h
            rw [← hQ0]
            exact W.iret hx hb hr (fun t ht hW => ⟨⟨_, (), rfl, rfl, by dsimp only; rw [ht]; exact hH⟩, hS.F ht⟩) hS.2.2 d_Mo_read_63
          · have h := ie h c44
            refine lv_iload hx hb d_Mo_read_47 (lv_at hl 4 rfl) ?_
            refine lv_iconst (v := 1) hx hb d_Mo_read_49 (by decide) ?_
            refine lv_icmp_lt (tgt := 61) hx hb d_Mo_read_50 (by decide) (fun c50 => ?_) (fun c50 => ?_)
            · have h := it h c50
              refine lv_bipush (v := (-102)) hx hb d_Mo_read_61 (by decide) ?_
              cases h
              rw [← hQ0]
              exact W.iret hx hb hr (fun t ht hW => ⟨⟨_, (), rfl, rfl, by dsimp only; rw [ht]; exact hH⟩, hS.F ht⟩) hS.2.2 d_Mo_read_63
            · have h := ie h c50
              refine lv_iload hx hb d_Mo_read_53 (lv_at hl 4 rfl) ?_
              refine lv_sipush (v := 1000) hx hb d_Mo_read_55 (by decide) ?_
              refine lv_icmp_le (tgt := 64) hx hb d_Mo_read_58 (by decide) (fun c58 => ?_) (fun c58 => ?_)
              · have h := it h c58
                refine lv_iload_n hx hb d_Mo_read_64 rfl (lv_at hl 1 rfl) ?_
                refine lv_istore (lv' := [(5, .int p1), (0, .ref (ad 48 0)), (1, .int p1), (2, .int p2), (3, .int p3), (4, .int p4)]) hx hb d_Mo_read_65 hl (by decide) rfl (fun ls hl => ?_)
                obtain ⟨q1, hq1, h⟩ := bs2_some h
                have K1 : ∀ (σ8 : St) (x9 : Int32) (H : Heap) (locs : List Loc) (ls : Array Slot), q1 = .inl (σ8, x9) → Hold D aC A ad n σ8 H → va_S A s.heap H locs → lv_has ls 9 [(0, .ref (ad 48 0)), (1, .int p1), (2, .int p2), (3, .int p3), (4, .int p4), (5, .int x9)] → W p l e (headSpec w_Mo_read rm_Mo_read).room s m args below meth c H locs 0 0 Q0 (F0 m 103 ls []) := by
                  intro σ8 x9 H locs ls eq1 hH hS hl
                  subst eq1
                  have h := bs2_at h
                  refine lv_aload_n hx hb d_Mo_read_103 rfl (lv_at hl 0 rfl) ?_
                  refine lv_iload_n hx hb d_Mo_read_104 rfl (lv_at hl 2 rfl) ?_
                  obtain ⟨qc, hc105, h⟩ := b1_some h
                  obtain ⟨σ10, rfl⟩ : ∃ z, z = qc := ⟨_, rfl⟩
                  have h := b1_at h
                  refine st_Vv (As := [.int p2]) (rest := []) ⟨hx, hb, hml, hown, hg⟩ (c_Mo_begin l D aC A ad n _ p2 _ hc105) (cwG hg wd_590 wd_591 wd_592 wd_593 wd_428 yd_Mo_begin ⟨Nat.le_of_ble_eq_true rfl, Nat.le_of_ble_eq_true rfl⟩) hK hH hS hZ hd_48 rfl rfl rfl hl.1 rfl (Nat.le_of_ble_eq_true rfl) d_Mo_read_105 ⟨Nat.zero_le _, Nat.zero_le _⟩ (fun H locs hH hS => ?_)
                  refine lv_iload hx hb d_Mo_read_108 (lv_at hl 4 rfl) ?_
                  refine lv_iload_n hx hb d_Mo_read_110 rfl (lv_at hl 3 rfl) ?_
                  refine lv_iadd hx hb d_Mo_read_111 ?_
                  refine lv_iconst (v := 1) hx hb d_Mo_read_112 (by decide) ?_
                  refine lv_isub hx hb d_Mo_read_113 ?_
                  refine lv_iload_n hx hb d_Mo_read_114 rfl (lv_at hl 3 rfl) ?_
                  obtain ⟨g115, h⟩ := gd_some h
                  refine lv_idiv hx hb d_Mo_read_115 g115 ?_
                  refine lv_topi (fun x11 ex11 => ?_)
                  have h := nm_at ex11 h
                  refine lv_istore (lv' := [(5, .int x11), (0, .ref (ad 48 0)), (1, .int p1), (2, .int p2), (3, .int p3), (4, .int p4)]) hx hb d_Mo_read_116 hl (by decide) rfl (fun ls hl => ?_)
                  refine lv_iconst (v := 0) hx hb d_Mo_read_118 (by decide) ?_
                  refine lv_istore (lv' := [(6, .int 0), (5, .int x11), (0, .ref (ad 48 0)), (1, .int p1), (2, .int p2), (3, .int p3), (4, .int p4)]) hx hb d_Mo_read_119 hl (by decide) rfl (fun ls hl => ?_)
                  obtain ⟨q1, hq1, h⟩ := bs2_some h
                  have K1 : ∀ (σ24 : St) (x25 : Int32) (H : Heap) (locs : List Loc) (ls : Array Slot), q1 = .inl (σ24, x25) → Hold D aC A ad n σ24 H → va_S A s.heap H locs → lv_has ls 9 [(0, .ref (ad 48 0)), (1, .int p1), (2, .int p2), (3, .int p3), (4, .int p4), (5, .int x11), (6, .int x25)] → W p l e (headSpec w_Mo_read rm_Mo_read).room s m args below meth c H locs 0 0 Q0 (F0 m 193 ls []) := by
                    intro σ24 x25 H locs ls eq1 hH hS hl
                    subst eq1
                    have h := bs2_at h
                    refine lv_iconst (v := 0) hx hb d_Mo_read_193 (by decide) ?_
                    refine lv_istore (lv' := [(6, .int 0), (0, .ref (ad 48 0)), (1, .int p1), (2, .int p2), (3, .int p3), (4, .int p4), (5, .int x11)]) hx hb d_Mo_read_194 hl (by decide) rfl (fun ls hl => ?_)
                    obtain ⟨q1, hq1, h⟩ := bs2_some h
                    have K1 : ∀ (σ30 : St) (x31 : Int32) (H : Heap) (locs : List Loc) (ls : Array Slot), q1 = .inl (σ30, x31) → Hold D aC A ad n σ30 H → va_S A s.heap H locs → lv_has ls 9 [(0, .ref (ad 48 0)), (1, .int p1), (3, .int p3), (4, .int p4), (6, .int x31)] → W p l e (headSpec w_Mo_read rm_Mo_read).room s m args below meth c H locs 0 0 Q0 (F0 m 244 ls []) := by
                      intro σ30 x31 H locs ls eq1 hH hS hl
                      subst eq1
                      have h := bs2_at h
                      refine lv_iconst (v := 0) hx hb d_Mo_read_244 (by decide) ?_
                      refine lv_istore (lv' := [(6, .int 0), (0, .ref (ad 48 0)), (1, .int p1), (3, .int p3), (4, .int p4)]) hx hb d_Mo_read_245 hl (by decide) rfl (fun ls hl => ?_)
                      obtain ⟨q1, hq1, h⟩ := b2_some h
                      have K1 : ∀ (σ34 : St) (x35 : Int32) (H : Heap) (locs : List Loc) (ls : Array Slot), q1 = (σ34, x35) → Hold D aC A ad n σ34 H → va_S A s.heap H locs → lv_has ls 9 [(0, .ref (ad 48 0)), (4, .int p4), (6, .int x35)] → W p l e (headSpec w_Mo_read rm_Mo_read).room s m args below meth c H locs 0 0 Q0 (F0 m 274 ls []) := by
                        intro σ34 x35 H locs ls eq1 hH hS hl
                        subst eq1
                        have h := b2_at h
                        refine lv_aload_n hx hb d_Mo_read_274 rfl (lv_at hl 0 rfl) ?_
                        refine lv_iload hx hb d_Mo_read_275 (lv_at hl 1 rfl) ?_
                        refine st_put hx hb hg hown hK hH hS (f := 48) (i := 0) hd_48 rfl rfl u_Mo t_Mo t_Mo_ok n_Mo 22 (by decide) (hg _ wd_470) rfl rfl rfl d_Mo_read_277 (fun σ36 H locs eσ36 hH hS => ?_)
                        have h := nm_at eσ36 h
                        refine lv_iload hx hb d_Mo_read_280 (lv_at hl 1 rfl) ?_
                        cases h
                        rw [← hQ0]
                        exact W.iret hx hb hr (fun t ht hW => ⟨⟨_, (), rfl, rfl, by dsimp only; rw [ht]; exact hH⟩, hS.F ht⟩) hS.2.2 d_Mo_read_282
                      have loop1 : ∀ (k : Nat) (σ : St) (v6 : Int32) (H : Heap) (locs : List Loc) (ls : Array Slot), Hold D aC A ad n σ H → va_S A s.heap H locs → lv_has ls 9 [(0, .ref (ad 48 0)), (4, .int p4), (6, .int v6)] → lp (fun q => lb_Mo_read_247 p4 q.1 q.2) k (σ, v6) = some q1 → W p l e (headSpec w_Mo_read rm_Mo_read).room s m args below meth c H locs 0 0 Q0 (F0 m 247 ls []) := by
                        intro k
                        induction k with
                        | zero => intro σ v6 H locs ls hH hS hl hlp; exact absurd hlp (lp_zero _ _ _)
                        | succ k ih1 =>
                          intro σ v6 H locs ls hH hS hl hlp
                          obtain ⟨z1, h1, hk1⟩ := lp_succ hlp
                          have h1 : lb_Mo_read_247 p4 σ v6 = some z1 := h1
                          unfold lb_Mo_read_247 at h1
                          refine lv_iload hx hb d_Mo_read_247 (lv_at hl 2 rfl) ?_
                          refine lv_iload hx hb d_Mo_read_249 (lv_at hl 1 rfl) ?_
                          refine lv_icmp_ge (tgt := 274) hx hb d_Mo_read_251 (by decide) (fun c251 => ?_) (fun c251 => ?_)
                          · have h1 := it h1 c251
                            cases h1
                            exact K1 σ v6 _ _ ls (Option.some.inj hk1).symm hH hS (lv_sub hl [0, 1, 2] rfl)
                          · have h1 := ie h1 c251
                            refine lv_aload_n hx hb d_Mo_read_254 rfl (lv_at hl 0 rfl) ?_
                            refine st_get hx hb hg hown hK hH (f := 48) (i := 0) hd_48 rfl rfl u_Mo 21 (by decide) (hg _ wd_471) (v := .ref (ad 64 0)) rfl d_Mo_read_255 ?_
                            refine lv_iload hx hb d_Mo_read_258 (lv_at hl 2 rfl) ?_
                            refine lv_aload_n hx hb d_Mo_read_260 rfl (lv_at hl 0 rfl) ?_
                            refine st_get hx hb hg hown hK hH (f := 48) (i := 0) hd_48 rfl rfl u_Mo 32 (by decide) (hg _ wd_599) (v := .ref (ad 69 0)) rfl d_Mo_read_261 ?_
                            refine lv_iload hx hb d_Mo_read_264 (lv_at hl 2 rfl) ?_
                            obtain ⟨g266, h1⟩ := gd_some h1
                            refine st_iald hx hb hK hH (f := 69) (i := 0) hd_69 rfl g266 d_Mo_read_266 ?_
                            obtain ⟨g267, h1⟩ := gd_some h1
                            refine st_iast hx hb hK hH hS (f := 64) (i := 0) hd_64 rfl g267 d_Mo_read_267 (fun σ32 H locs eσ32 hH hS => ?_)
                            have h1 := nm_at eσ32 h1
                            obtain ⟨x33, ex33⟩ : ∃ y : Int32, y = v6 + 1 := ⟨_, rfl⟩
                            have h1 := nm_at ex33 h1
                            refine lv_iinc (v := x33) (lv' := [(6, .int x33), (0, .ref (ad 48 0)), (4, .int p4)]) hx hb d_Mo_read_268 hl (k := 2) rfl (by rw [ex33]; rfl) (by decide) rfl (fun ls hl => ?_)
                            refine lv_goto (tgt := 247) hx hb d_Mo_read_271 (by decide) ?_
                            cases h1
                            exact ih1 σ32 x33 _ _ ls hH hS (lv_sub hl [1, 2, 0] rfl) hk1
                      obtain ⟨k1, hq1⟩ := lpE_some hq1
                      exact loop1 k1 σ30 0 _ _ ls hH hS (lv_sub hl [1, 4, 0] rfl) hq1
                    have loop1 : ∀ (k : Nat) (σ : St) (v6 : Int32) (H : Heap) (locs : List Loc) (ls : Array Slot), Hold D aC A ad n σ H → va_S A s.heap H locs → lv_has ls 9 [(0, .ref (ad 48 0)), (1, .int p1), (3, .int p3), (4, .int p4), (6, .int v6)] → lp (fun q => lb_Mo_read_196 p1 p3 p4 q.1 q.2) k (σ, v6) = some q1 → W p l e (headSpec w_Mo_read rm_Mo_read).room s m args below meth c H locs 0 0 Q0 (F0 m 196 ls []) := by
                      intro k
                      induction k with
                      | zero => intro σ v6 H locs ls hH hS hl hlp; exact absurd hlp (lp_zero _ _ _)
                      | succ k ih1 =>
                        intro σ v6 H locs ls hH hS hl hlp
                        obtain ⟨z1, h1, hk1⟩ := lp_succ hlp
                        have h1 : lb_Mo_read_196 p1 p3 p4 σ v6 = some z1 := h1
                        unfold lb_Mo_read_196 at h1
                        refine lv_iload hx hb d_Mo_read_196 (lv_at hl 4 rfl) ?_
                        refine lv_iload hx hb d_Mo_read_198 (lv_at hl 3 rfl) ?_
                        refine lv_icmp_ge (tgt := 244) hx hb d_Mo_read_200 (by decide) (fun c200 => ?_) (fun c200 => ?_)
                        · have h1 := it h1 c200
                          cases h1
                          exact K1 σ v6 _ _ ls (Option.some.inj hk1).symm hH hS (lv_sub hl [0, 1, 2, 3, 4] rfl)
                        · have h1 := ie h1 c200
                          refine lv_aload_n hx hb d_Mo_read_203 rfl (lv_at hl 0 rfl) ?_
                          refine lv_iload_n hx hb d_Mo_read_204 rfl (lv_at hl 1 rfl) ?_
                          refine lv_aload_n hx hb d_Mo_read_205 rfl (lv_at hl 0 rfl) ?_
                          refine st_get hx hb hg hown hK hH (f := 48) (i := 0) hd_48 rfl rfl u_Mo 31 (by decide) (hg _ wd_598) (v := .ref (ad 68 0)) rfl d_Mo_read_206 ?_
                          refine lv_iload hx hb d_Mo_read_209 (lv_at hl 4 rfl) ?_
                          refine lv_iload_n hx hb d_Mo_read_211 rfl (lv_at hl 2 rfl) ?_
                          obtain ⟨g212, h1⟩ := gd_some h1
                          refine lv_idiv hx hb d_Mo_read_212 g212 ?_
                          obtain ⟨g213, h1⟩ := gd_some h1
                          refine st_iald hx hb hK hH (f := 68) (i := 0) hd_68 rfl g213 d_Mo_read_213 ?_
                          refine lv_iadd hx hb d_Mo_read_214 ?_
                          refine lv_iconst (v := 0) hx hb d_Mo_read_215 (by decide) ?_
                          obtain ⟨qc, hc216, h1⟩ := b2_some h1
                          obtain ⟨σ26, x27⟩ := qc
                          have h1 := b2_at h1
                          refine st_Vi (As := [.int (p1 + (σ.1 68 0 (v6 / p3).toNatClampNeg)), .int 0]) (rest := []) ⟨hx, hb, hml, hown, hg⟩ (c_Mo_taken l D aC A ad n _ (p1 + (σ.1 68 0 (v6 / p3).toNatClampNeg)) 0 _ hc216) (cwG hg wd_505 wd_506 wd_507 wd_508 wd_428 yd_Mo_taken ⟨Nat.le_of_ble_eq_true rfl, Nat.le_of_ble_eq_true rfl⟩) hK hH hS hZ hd_48 rfl rfl rfl hl.1 rfl (Nat.le_of_ble_eq_true rfl) d_Mo_read_216 ⟨Nat.zero_le _, Nat.zero_le _⟩ (fun H locs hH hS => ?_)
                          refine lv_istore (lv' := [(7, .int x27), (0, .ref (ad 48 0)), (1, .int p1), (3, .int p3), (4, .int p4), (6, .int v6)]) hx hb d_Mo_read_219 hl (by decide) rfl (fun ls hl => ?_)
                          refine lv_iload hx hb d_Mo_read_221 (lv_at hl 0 rfl) ?_
                          refine lv_if_ge (tgt := 229) hx hb d_Mo_read_223 (by decide) (fun c223 => ?_) (fun c223 => ?_)
                          · have h1 := it h1 c223
                            refine lv_aload_n hx hb d_Mo_read_229 rfl (lv_at hl 1 rfl) ?_
                            refine st_get hx hb hg hown hK hH (f := 48) (i := 0) hd_48 rfl rfl u_Mo 32 (by decide) (hg _ wd_599) (v := .ref (ad 69 0)) rfl d_Mo_read_230 ?_
                            refine lv_iload hx hb d_Mo_read_233 (lv_at hl 5 rfl) ?_
                            refine lv_iload hx hb d_Mo_read_235 (lv_at hl 0 rfl) ?_
                            obtain ⟨g237, h1⟩ := gd_some h1
                            refine st_iast hx hb hK hH hS (f := 69) (i := 0) hd_69 rfl g237 d_Mo_read_237 (fun σ28 H locs eσ28 hH hS => ?_)
                            have h1 := nm_at eσ28 h1
                            obtain ⟨x29, ex29⟩ : ∃ y : Int32, y = v6 + 1 := ⟨_, rfl⟩
                            have h1 := nm_at ex29 h1
                            refine lv_iinc (v := x29) (lv' := [(6, .int x29), (7, .int x27), (0, .ref (ad 48 0)), (1, .int p1), (3, .int p3), (4, .int p4)]) hx hb d_Mo_read_238 hl (k := 5) rfl (by rw [ex29]; rfl) (by decide) rfl (fun ls hl => ?_)
                            refine lv_goto (tgt := 196) hx hb d_Mo_read_241 (by decide) ?_
                            cases h1
                            exact ih1 σ28 x29 _ _ ls hH hS (lv_sub hl [2, 3, 4, 5, 0] rfl) hk1
                          · have h1 := ie h1 c223
                            refine lv_iload hx hb d_Mo_read_226 (lv_at hl 0 rfl) ?_
                            cases h1
                            have hk1 := Option.some.inj hk1
                            subst hk1
                            have h := bs2_r h
                            cases h
                            rw [← hQ0]
                            exact W.iret hx hb hr (fun t ht hW => ⟨⟨_, (), rfl, rfl, by dsimp only; rw [ht]; exact hH⟩, hS.F ht⟩) hS.2.2 d_Mo_read_228
                    obtain ⟨k1, hq1⟩ := lpE_some hq1
                    exact loop1 k1 σ24 0 _ _ ls hH hS (lv_sub hl [1, 2, 4, 5, 0] rfl) hq1
                  have loop1 : ∀ (k : Nat) (σ : St) (v6 : Int32) (H : Heap) (locs : List Loc) (ls : Array Slot), Hold D aC A ad n σ H → va_S A s.heap H locs → lv_has ls 9 [(0, .ref (ad 48 0)), (1, .int p1), (2, .int p2), (3, .int p3), (4, .int p4), (5, .int x11), (6, .int v6)] → lp (fun q => lb_Mo_read_121 p1 p2 p3 p4 x11 q.1 q.2) k (σ, v6) = some q1 → W p l e (headSpec w_Mo_read rm_Mo_read).room s m args below meth c H locs 0 0 Q0 (F0 m 121 ls []) := by
                    intro k
                    induction k with
                    | zero => intro σ v6 H locs ls hH hS hl hlp; exact absurd hlp (lp_zero _ _ _)
                    | succ k ih1 =>
                      intro σ v6 H locs ls hH hS hl hlp
                      obtain ⟨z1, h1, hk1⟩ := lp_succ hlp
                      have h1 : lb_Mo_read_121 p1 p2 p3 p4 x11 σ v6 = some z1 := h1
                      unfold lb_Mo_read_121 at h1
                      refine lv_iload hx hb d_Mo_read_121 (lv_at hl 6 rfl) ?_
                      refine lv_iload hx hb d_Mo_read_123 (lv_at hl 5 rfl) ?_
                      refine lv_icmp_ge (tgt := 193) hx hb d_Mo_read_125 (by decide) (fun c125 => ?_) (fun c125 => ?_)
                      · have h1 := it h1 c125
                        cases h1
                        exact K1 σ v6 _ _ ls (Option.some.inj hk1).symm hH hS (lv_sub hl [0, 1, 2, 3, 4, 5, 6] rfl)
                      · have h1 := ie h1 c125
                        refine lv_iconst (v := 0) hx hb d_Mo_read_128 (by decide) ?_
                        refine lv_istore (lv' := [(7, .int 0), (0, .ref (ad 48 0)), (1, .int p1), (2, .int p2), (3, .int p3), (4, .int p4), (5, .int x11), (6, .int v6)]) hx hb d_Mo_read_129 hl (by decide) rfl (fun ls hl => ?_)
                        refine lv_aload_n hx hb d_Mo_read_131 rfl (lv_at hl 1 rfl) ?_
                        refine lv_iconst (v := 1) hx hb d_Mo_read_132 (by decide) ?_
                        obtain ⟨qc, hc133, h1⟩ := b2_some h1
                        obtain ⟨σ12, x13⟩ := qc
                        have h1 := b2_at h1
                        refine st_Vi (As := [.int 1]) (rest := []) ⟨hx, hb, hml, hown, hg⟩ (c_Mo_takeNumber l D aC A ad n _ 1 _ hc133) (cwG hg wd_535 wd_536 wd_537 wd_538 wd_428 yd_Mo_takeNumber ⟨Nat.le_of_ble_eq_true rfl, Nat.le_of_ble_eq_true rfl⟩) hK hH hS hZ hd_48 rfl rfl rfl hl.1 rfl (Nat.le_of_ble_eq_true rfl) d_Mo_read_133 ⟨Nat.zero_le _, Nat.zero_le _⟩ (fun H locs hH hS => ?_)
                        refine lv_istore (lv' := [(8, .int x13), (7, .int 0), (0, .ref (ad 48 0)), (1, .int p1), (2, .int p2), (3, .int p3), (4, .int p4), (5, .int x11), (6, .int v6)]) hx hb d_Mo_read_136 hl (by decide) rfl (fun ls hl => ?_)
                        obtain ⟨q2, hq2, h1⟩ := bs3_some h1
                        have K2 : ∀ (σ17 : St) (x18 : Int32) (x19 : Int32) (H : Heap) (locs : List Loc) (ls : Array Slot), q2 = .inl (σ17, x18, x19) → Hold D aC A ad n σ17 H → va_S A s.heap H locs → lv_has ls 9 [(0, .ref (ad 48 0)), (1, .int p1), (2, .int p2), (3, .int p3), (4, .int p4), (5, .int x11), (6, .int v6), (7, .int x18), (8, .int x19)] → W p l e (headSpec w_Mo_read rm_Mo_read).room s m args below meth c H locs 0 0 Q0 (F0 m 166 ls []) := by
                          intro σ17 x18 x19 H locs ls eq2 hH hS hl
                          subst eq2
                          have h1 := bs3_at h1
                          refine lv_iload hx hb d_Mo_read_166 (lv_at hl 8 rfl) ?_
                          refine lv_if_ge (tgt := 174) hx hb d_Mo_read_168 (by decide) (fun c168 => ?_) (fun c168 => ?_)
                          · have h1 := it h1 c168
                            refine lv_aload_n hx hb d_Mo_read_174 rfl (lv_at hl 0 rfl) ?_
                            refine st_get hx hb hg hown hK hH (f := 48) (i := 0) hd_48 rfl rfl u_Mo 31 (by decide) (hg _ wd_598) (v := .ref (ad 68 0)) rfl d_Mo_read_175 ?_
                            refine lv_iload hx hb d_Mo_read_178 (lv_at hl 6 rfl) ?_
                            refine lv_aload_n hx hb d_Mo_read_180 rfl (lv_at hl 0 rfl) ?_
                            refine lv_iload hx hb d_Mo_read_181 (lv_at hl 7 rfl) ?_
                            obtain ⟨qc, hc183, h1⟩ := b2_some h1
                            obtain ⟨σ20, x21⟩ := qc
                            have h1 := b2_at h1
                            refine st_Vi (As := [.int x18]) (rest := [.int v6, .ref (ad 68 0)]) ⟨hx, hb, hml, hown, hg⟩ (c_Mo_front l D aC A ad n _ x18 _ hc183) (cwG hg wd_594 wd_595 wd_596 wd_597 wd_428 yd_Mo_front ⟨Nat.le_of_ble_eq_true rfl, Nat.le_of_ble_eq_true rfl⟩) hK hH hS hZ hd_48 rfl rfl rfl hl.1 rfl (Nat.le_of_ble_eq_true rfl) d_Mo_read_183 ⟨Nat.zero_le _, Nat.zero_le _⟩ (fun H locs hH hS => ?_)
                            obtain ⟨g186, h1⟩ := gd_some h1
                            refine st_iast hx hb hK hH hS (f := 68) (i := 0) hd_68 rfl g186 d_Mo_read_186 (fun σ22 H locs eσ22 hH hS => ?_)
                            have h1 := nm_at eσ22 h1
                            obtain ⟨x23, ex23⟩ : ∃ y : Int32, y = v6 + 1 := ⟨_, rfl⟩
                            have h1 := nm_at ex23 h1
                            refine lv_iinc (v := x23) (lv' := [(6, .int x23), (0, .ref (ad 48 0)), (1, .int p1), (2, .int p2), (3, .int p3), (4, .int p4), (5, .int x11), (7, .int x18), (8, .int x19)]) hx hb d_Mo_read_187 hl (k := 6) rfl (by rw [ex23]; rfl) (by decide) rfl (fun ls hl => ?_)
                            refine lv_goto (tgt := 121) hx hb d_Mo_read_190 (by decide) ?_
                            cases h1
                            exact ih1 σ22 x23 _ _ ls hH hS (lv_sub hl [1, 2, 3, 4, 5, 6, 0] rfl) hk1
                          · have h1 := ie h1 c168
                            refine lv_iload hx hb d_Mo_read_171 (lv_at hl 8 rfl) ?_
                            cases h1
                            have hk1 := Option.some.inj hk1
                            subst hk1
                            have h := bs2_r h
                            cases h
                            rw [← hQ0]
                            exact W.iret hx hb hr (fun t ht hW => ⟨⟨_, (), rfl, rfl, by dsimp only; rw [ht]; exact hH⟩, hS.F ht⟩) hS.2.2 d_Mo_read_173
                        have loop2 : ∀ (k : Nat) (σ : St) (v7 : Int32) (v8 : Int32) (H : Heap) (locs : List Loc) (ls : Array Slot), Hold D aC A ad n σ H → va_S A s.heap H locs → lv_has ls 9 [(0, .ref (ad 48 0)), (1, .int p1), (2, .int p2), (3, .int p3), (4, .int p4), (5, .int x11), (6, .int v6), (7, .int v7), (8, .int v8)] → lp (fun q => lb_Mo_read_138 p1 p2 p3 p4 x11 v6 q.1 q.2.1 q.2.2) k (σ, v7, v8) = some q2 → W p l e (headSpec w_Mo_read rm_Mo_read).room s m args below meth c H locs 0 0 Q0 (F0 m 138 ls []) := by
                          intro k
                          induction k with
                          | zero => intro σ v7 v8 H locs ls hH hS hl hlp; exact absurd hlp (lp_zero _ _ _)
                          | succ k ih2 =>
                            intro σ v7 v8 H locs ls hH hS hl hlp
                            obtain ⟨z2, h2, hk2⟩ := lp_succ hlp
                            have h2 : lb_Mo_read_138 p1 p2 p3 p4 x11 v6 σ v7 v8 = some z2 := h2
                            unfold lb_Mo_read_138 at h2
                            refine lv_iload hx hb d_Mo_read_138 (lv_at hl 8 rfl) ?_
                            refine lv_iconst (v := 1) hx hb d_Mo_read_140 (by decide) ?_
                            refine lv_icmp_ne (tgt := 166) hx hb d_Mo_read_141 (by decide) (fun c141 => ?_) (fun c141 => ?_)
                            · have h2 := ie h2 c141
                              cases h2
                              exact K2 σ v7 v8 _ _ ls (Option.some.inj hk2).symm hH hS (lv_sub hl [0, 1, 2, 3, 4, 5, 6, 7, 8] rfl)
                            · have h2 := it h2 c141
                              obtain ⟨x14, ex14⟩ : ∃ y : Int32, y = v7 + 1 := ⟨_, rfl⟩
                              have h2 := nm_at ex14 h2
                              refine lv_iinc (v := x14) (lv' := [(7, .int x14), (0, .ref (ad 48 0)), (1, .int p1), (2, .int p2), (3, .int p3), (4, .int p4), (5, .int x11), (6, .int v6), (8, .int v8)]) hx hb d_Mo_read_144 hl (k := 7) rfl (by rw [ex14]; rfl) (by decide) rfl (fun ls hl => ?_)
                              refine lv_iload hx hb d_Mo_read_147 (lv_at hl 0 rfl) ?_
                              refine lv_iload_n hx hb d_Mo_read_149 rfl (lv_at hl 3 rfl) ?_
                              refine lv_icmp_ne (tgt := 156) hx hb d_Mo_read_150 (by decide) (fun c150 => ?_) (fun c150 => ?_)
                              · have h2 := ie h2 c150
                                refine lv_aload_n hx hb d_Mo_read_156 rfl (lv_at hl 1 rfl) ?_
                                refine lv_iconst (v := 1) hx hb d_Mo_read_157 (by decide) ?_
                                obtain ⟨qc, hc158, h2⟩ := b2_some h2
                                obtain ⟨σ15, x16⟩ := qc
                                have h2 := b2_at h2
                                refine st_Vi (As := [.int 1]) (rest := []) ⟨hx, hb, hml, hown, hg⟩ (c_Mo_takeNumber l D aC A ad n _ 1 _ hc158) (cwG hg wd_535 wd_536 wd_537 wd_538 wd_428 yd_Mo_takeNumber ⟨Nat.le_of_ble_eq_true rfl, Nat.le_of_ble_eq_true rfl⟩) hK hH hS hZ hd_48 rfl rfl rfl hl.1 rfl (Nat.le_of_ble_eq_true rfl) d_Mo_read_158 ⟨Nat.zero_le _, Nat.zero_le _⟩ (fun H locs hH hS => ?_)
                                refine lv_istore (lv' := [(8, .int x16), (7, .int x14), (0, .ref (ad 48 0)), (1, .int p1), (2, .int p2), (3, .int p3), (4, .int p4), (5, .int x11), (6, .int v6)]) hx hb d_Mo_read_161 hl (by decide) rfl (fun ls hl => ?_)
                                refine lv_goto (tgt := 138) hx hb d_Mo_read_163 (by decide) ?_
                                cases h2
                                exact ih2 σ15 x14 x16 _ _ ls hH hS (lv_sub hl [2, 3, 4, 5, 6, 7, 8, 1, 0] rfl) hk2
                              · have h2 := it h2 c150
                                refine lv_bipush (v := (-105)) hx hb d_Mo_read_153 (by decide) ?_
                                cases h2
                                have hk2 := Option.some.inj hk2
                                subst hk2
                                have h1 := bs3_r h1
                                cases h1
                                have hk1 := Option.some.inj hk1
                                subst hk1
                                have h := bs2_r h
                                cases h
                                rw [← hQ0]
                                exact W.iret hx hb hr (fun t ht hW => ⟨⟨_, (), rfl, rfl, by dsimp only; rw [ht]; exact hH⟩, hS.F ht⟩) hS.2.2 d_Mo_read_155
                        obtain ⟨k2, hq2⟩ := lpE_some hq2
                        exact loop2 k2 σ12 0 x13 _ _ ls hH hS (lv_sub hl [2, 3, 4, 5, 6, 7, 8, 1, 0] rfl) hq2
                  obtain ⟨k1, hq1⟩ := lpE_some hq1
                  exact loop1 k1 σ10 0 _ _ ls hH hS (lv_sub hl [2, 3, 4, 5, 6, 1, 0] rfl) hq1
                have loop1 : ∀ (k : Nat) (σ : St) (v5 : Int32) (H : Heap) (locs : List Loc) (ls : Array Slot), Hold D aC A ad n σ H → va_S A s.heap H locs → lv_has ls 9 [(0, .ref (ad 48 0)), (1, .int p1), (2, .int p2), (3, .int p3), (4, .int p4), (5, .int v5)] → lp (fun q => lb_Mo_read_67 p1 p2 p3 p4 q.1 q.2) k (σ, v5) = some q1 → W p l e (headSpec w_Mo_read rm_Mo_read).room s m args below meth c H locs 0 0 Q0 (F0 m 67 ls []) := by
                  intro k
                  induction k with
                  | zero => intro σ v5 H locs ls hH hS hl hlp; exact absurd hlp (lp_zero _ _ _)
                  | succ k ih1 =>
                    intro σ v5 H locs ls hH hS hl hlp
                    obtain ⟨z1, h1, hk1⟩ := lp_succ hlp
                    have h1 : lb_Mo_read_67 p1 p2 p3 p4 σ v5 = some z1 := h1
                    unfold lb_Mo_read_67 at h1
                    refine lv_iload hx hb d_Mo_read_67 (lv_at hl 5 rfl) ?_
                    refine lv_iload_n hx hb d_Mo_read_69 rfl (lv_at hl 1 rfl) ?_
                    refine lv_iload_n hx hb d_Mo_read_70 rfl (lv_at hl 2 rfl) ?_
                    refine lv_iadd hx hb d_Mo_read_71 ?_
                    refine lv_icmp_ge (tgt := 103) hx hb d_Mo_read_72 (by decide) (fun c72 => ?_) (fun c72 => ?_)
                    · have h1 := it h1 c72
                      cases h1
                      exact K1 σ v5 _ _ ls (Option.some.inj hk1).symm hH hS (lv_sub hl [0, 1, 2, 3, 4, 5] rfl)
                    · have h1 := ie h1 c72
                      refine lv_aload_n hx hb d_Mo_read_75 rfl (lv_at hl 0 rfl) ?_
                      refine lv_iload hx hb d_Mo_read_76 (lv_at hl 5 rfl) ?_
                      obtain ⟨qc, hc78, h1⟩ := b2_some h1
                      obtain ⟨σ3, x4⟩ := qc
                      have h1 := b2_at h1
                      refine st_Vi (As := [.int v5]) (rest := []) ⟨hx, hb, hml, hown, hg⟩ (c_Mo_kind l D aC A ad n _ v5 _ hc78) (cwG hg wd_457 wd_458 wd_459 wd_460 wd_428 yd_Mo_kind ⟨Nat.le_of_ble_eq_true rfl, Nat.le_of_ble_eq_true rfl⟩) hK hH hS hZ hd_48 rfl rfl rfl hl.1 rfl (Nat.le_of_ble_eq_true rfl) d_Mo_read_78 ⟨Nat.zero_le _, Nat.zero_le _⟩ (fun H locs hH hS => ?_)
                      refine lv_if_eq (tgt := 94) hx hb d_Mo_read_81 (by decide) (fun c81 => ?_) (fun c81 => ?_)
                      · have h1 := it h1 c81
                        refine lv_bipush (v := (-103)) hx hb d_Mo_read_94 (by decide) ?_
                        cases h1
                        have hk1 := Option.some.inj hk1
                        subst hk1
                        have h := bs2_r h
                        cases h
                        rw [← hQ0]
                        exact W.iret hx hb hr (fun t ht hW => ⟨⟨_, (), rfl, rfl, by dsimp only; rw [ht]; exact hH⟩, hS.F ht⟩) hS.2.2 d_Mo_read_96
                      · have h1 := ie h1 c81
                        refine lv_aload_n hx hb d_Mo_read_84 rfl (lv_at hl 0 rfl) ?_
                        refine lv_iload hx hb d_Mo_read_85 (lv_at hl 5 rfl) ?_
                        obtain ⟨qc, hc87, h1⟩ := b2_some h1
                        obtain ⟨σ5, x6⟩ := qc
                        have h1 := b2_at h1
                        refine st_Vi (As := [.int v5]) (rest := []) ⟨hx, hb, hml, hown, hg⟩ (c_Mo_kind l D aC A ad n _ v5 _ hc87) (cwG hg wd_457 wd_458 wd_459 wd_460 wd_428 yd_Mo_kind ⟨Nat.le_of_ble_eq_true rfl, Nat.le_of_ble_eq_true rfl⟩) hK hH hS hZ hd_48 rfl rfl rfl hl.1 rfl (Nat.le_of_ble_eq_true rfl) d_Mo_read_87 ⟨Nat.zero_le _, Nat.zero_le _⟩ (fun H locs hH hS => ?_)
                        refine lv_iconst (v := 4) hx hb d_Mo_read_90 (by decide) ?_
                        refine lv_icmp_ne (tgt := 97) hx hb d_Mo_read_91 (by decide) (fun c91 => ?_) (fun c91 => ?_)
                        · have h1 := ie h1 c91
                          obtain ⟨x7, ex7⟩ : ∃ y : Int32, y = v5 + 1 := ⟨_, rfl⟩
                          have h1 := nm_at ex7 h1
                          refine lv_iinc (v := x7) (lv' := [(5, .int x7), (0, .ref (ad 48 0)), (1, .int p1), (2, .int p2), (3, .int p3), (4, .int p4)]) hx hb d_Mo_read_97 hl (k := 5) rfl (by rw [ex7]; rfl) (by decide) rfl (fun ls hl => ?_)
                          refine lv_goto (tgt := 67) hx hb d_Mo_read_100 (by decide) ?_
                          cases h1
                          exact ih1 σ5 x7 _ _ ls hH hS (lv_sub hl [1, 2, 3, 4, 5, 0] rfl) hk1
                        · have h1 := it h1 c91
                          refine lv_bipush (v := (-103)) hx hb d_Mo_read_94 (by decide) ?_
                          cases h1
                          have hk1 := Option.some.inj hk1
                          subst hk1
                          have h := bs2_r h
                          cases h
                          rw [← hQ0]
                          exact W.iret hx hb hr (fun t ht hW => ⟨⟨_, (), rfl, rfl, by dsimp only; rw [ht]; exact hH⟩, hS.F ht⟩) hS.2.2 d_Mo_read_96
                obtain ⟨k1, hq1⟩ := lpE_some hq1
                exact loop1 k1 σ p1 _ _ ls hH hS (lv_sub hl [1, 2, 3, 4, 5, 0] rfl) hq1
              · have h := ie h c58
                refine lv_bipush (v := (-102)) hx hb d_Mo_read_61 (by decide) ?_
                cases h
                rw [← hQ0]
                exact W.iret hx hb hr (fun t ht hW => ⟨⟨_, (), rfl, rfl, by dsimp only; rw [ht]; exact hH⟩, hS.F ht⟩) hS.2.2 d_Mo_read_63
  refine lv_aload_n hx hb d_Mo_read_0 rfl (lv_at hl 0 rfl) ?_
  refine lv_iload_n hx hb d_Mo_read_1 rfl (lv_at hl 1 rfl) ?_
  obtain ⟨qc, hc2, h⟩ := b2_some h
  obtain ⟨σ1, x2⟩ := qc
  have h := b2_at h
  refine st_Vi (As := [.int a1]) (rest := []) ⟨hx, hb, hml, hown, hg⟩ (c_Mo_has l D aC A ad n _ a1 _ hc2) (cwG hg wd_426 wd_427 wd_429 wd_430 wd_428 yd_Mo_has ⟨Nat.le_of_ble_eq_true rfl, Nat.le_of_ble_eq_true rfl⟩) hK hH hS hZ hd_48 rfl rfl rfl hl.1 rfl (Nat.le_of_ble_eq_true rfl) d_Mo_read_2 ⟨Nat.zero_le _, Nat.zero_le _⟩ (fun H locs hH hS => ?_)
  refine lv_if_eq (tgt := 22) hx hb d_Mo_read_5 (by decide) (fun c5 => ?_) (fun c5 => ?_)
  · have h := it h c5
    refine lv_bipush (v := (-101)) hx hb d_Mo_read_22 (by decide) ?_
    cases h
    rw [← hQ0]
    exact W.iret hx hb hr (fun t ht hW => ⟨⟨_, (), rfl, rfl, by dsimp only; rw [ht]; exact hH⟩, hS.F ht⟩) hS.2.2 d_Mo_read_24
  · have h := ie h c5
    refine lv_iload_n hx hb d_Mo_read_8 rfl (lv_at hl 2 rfl) ?_
    refine lv_if_le (tgt := 25) hx hb d_Mo_read_9 (by decide) (fun c9 => ?_) (fun c9 => ?_)
    · have h := it h c9
      exact J25 σ1 a1 a2 a3 a4 _ _ ls hH hS (lv_sub hl [0, 1, 2, 3, 4] rfl) h
    · have h := ie h c9
      refine lv_iload_n hx hb d_Mo_read_12 rfl (lv_at hl 2 rfl) ?_
      refine lv_aload_n hx hb d_Mo_read_13 rfl (lv_at hl 0 rfl) ?_
      refine st_get hx hb hg hown hK hH (f := 48) (i := 0) hd_48 rfl rfl u_Mo 1 (by decide) (hg _ wd_424) (v := .int (σ1.1 48 0 1)) rfl d_Mo_read_14 ?_
      refine lv_iload_n hx hb d_Mo_read_17 rfl (lv_at hl 1 rfl) ?_
      refine lv_isub hx hb d_Mo_read_18 ?_
      refine lv_icmp_le (tgt := 25) hx hb d_Mo_read_19 (by decide) (fun c19 => ?_) (fun c19 => ?_)
      · have h := it h c19
        exact J25 σ1 a1 a2 a3 a4 _ _ ls hH hS (lv_sub hl [0, 1, 2, 3, 4] rfl) h
      · have h := ie h c19
        refine lv_bipush (v := (-101)) hx hb d_Mo_read_22 (by decide) ?_
        cases h
        rw [← hQ0]
        exact W.iret hx hb hr (fun t ht hW => ⟨⟨_, (), rfl, rfl, by dsimp only; rw [ht]; exact hH⟩, hS.F ht⟩) hS.2.2 d_Mo_read_24
set_option maxHeartbeats 4000000 in
set_option maxRecDepth 100000 in
theorem c_Mo_symbol (l : Launch) (D : va_G) (aC : Nat → ClassId) (A : Nat → Prop) (ad : Nat → Nat → Nat) (n : Nat) (σ : St) (a1 : Int32) (o : St × Int32) (h : f_Mo_symbol σ a1 = some o) : Met l y_Mo_symbol w_Mo_symbol rm_Mo_symbol (va_Pc [.ref (ad 48 0), .int a1] (Pre D aC A ad n σ)) (va_Qi (fun r (_ : Unit) => r = o.2) (fun _ t => Hold D aC A ad n o.1 t.heap) A) 0 0 A := by
  refine Met.ofW (cc := prog_13_method_62_code) (maxL := 2) (ret := (some .int)) (by decide) rfl ?_
  intro p e s m args below meth c s₁ B hml hv
  obtain ⟨hargs, hH, hK, hZ⟩ := hv
  have hx := B.exec
  have hb := B.bytes
  have hr := B.returns
  have hts := atoms_spec (ws := w_Mo_symbol) B.pre
  have hg : ∀ w ∈ gW, w.before args s = true := fun w h => hts w (List.mem_cons_of_mem _ h)
  have hown : s.vm.findClass "PrefixCodesModel" = some m.cls := findClass_of_methodNamed B.named
  have hlocks := B.notSynchronized
  have hS : va_S A s.heap s.heap [] := va_S.rf
  have hl := lv_entry ([.ref (ad 48 0), .int a1]) (n := 2) (Nat.le_of_ble_eq_true rfl)
  rw [show entryFrame m args 2 = entryFrame m (([.ref (ad 48 0), .int a1] : List Value).toArray) 2 by rw [hargs], lg_entry_eq]
  generalize (lg_sl ([.ref (ad 48 0), .int a1]) ++ List.replicate (2 - (lg_sl ([.ref (ad 48 0), .int a1])).length) Slot.unset).toArray = ls at hl ⊢
  have hl : lv_has ls 2 [(0, .ref (ad 48 0)), (1, .int a1)] := hl
  generalize hQ0 : MQ below (va_Qi (fun r (_ : Unit) => r = o.2) (fun _ t => Hold D aC A ad n o.1 t.heap) A) args s 0 0 A = Q0
  unfold f_Mo_symbol at h
  refine lv_aload_n hx hb d_Mo_symbol_0 rfl (lv_at hl 0 rfl) ?_
  refine lv_iconst (v := 0) hx hb d_Mo_symbol_1 (by decide) ?_
  refine st_put hx hb hg hown hK hH hS (f := 48) (i := 0) hd_48 rfl rfl u_Mo t_Mo t_Mo_ok n_Mo 0 (by decide) (hg _ wd_423) rfl rfl rfl d_Mo_symbol_2 (fun σ1 H locs eσ1 hH hS => ?_)
  have h := nm_at eσ1 h
  refine lv_iload_n hx hb d_Mo_symbol_5 rfl (lv_at hl 1 rfl) ?_
  refine lv_if_lt (tgt := 17) hx hb d_Mo_symbol_6 (by decide) (fun c6 => ?_) (fun c6 => ?_)
  · have h := it h c6
    refine lv_aload_n hx hb d_Mo_symbol_17 rfl (lv_at hl 0 rfl) ?_
    refine lv_iconst (v := 1) hx hb d_Mo_symbol_18 (by decide) ?_
    refine st_put hx hb hg hown hK hH hS (f := 48) (i := 0) hd_48 rfl rfl u_Mo t_Mo t_Mo_ok n_Mo 0 (by decide) (hg _ wd_423) rfl rfl rfl d_Mo_symbol_19 (fun σ2 H locs eσ2 hH hS => ?_)
    have h := nm_at eσ2 h
    refine lv_iconst (v := 0) hx hb d_Mo_symbol_22 (by decide) ?_
    cases h
    rw [← hQ0]
    exact W.iret hx hb hr (fun t ht hW => ⟨⟨_, (), rfl, rfl, by dsimp only; rw [ht]; exact hH⟩, hS.F ht⟩) hS.2.2 d_Mo_symbol_23
  · have h := ie h c6
    refine lv_iload_n hx hb d_Mo_symbol_9 rfl (lv_at hl 1 rfl) ?_
    refine lv_aload_n hx hb d_Mo_symbol_10 rfl (lv_at hl 0 rfl) ?_
    refine st_get hx hb hg hown hK hH (f := 48) (i := 0) hd_48 rfl rfl u_Mo 22 (by decide) (hg _ wd_470) (v := .int (σ1.1 48 0 22)) rfl d_Mo_symbol_11 ?_
    refine lv_icmp_lt (tgt := 24) hx hb d_Mo_symbol_14 (by decide) (fun c14 => ?_) (fun c14 => ?_)
    · have h := it h c14
      refine lv_aload_n hx hb d_Mo_symbol_24 rfl (lv_at hl 0 rfl) ?_
      refine st_get hx hb hg hown hK hH (f := 48) (i := 0) hd_48 rfl rfl u_Mo 21 (by decide) (hg _ wd_471) (v := .ref (ad 64 0)) rfl d_Mo_symbol_25 ?_
      refine lv_iload_n hx hb d_Mo_symbol_28 rfl (lv_at hl 1 rfl) ?_
      obtain ⟨g29, h⟩ := gd_some h
      refine st_iald hx hb hK hH (f := 64) (i := 0) hd_64 rfl g29 d_Mo_symbol_29 ?_
      cases h
      rw [← hQ0]
      exact W.iret hx hb hr (fun t ht hW => ⟨⟨_, (), rfl, rfl, by dsimp only; rw [ht]; exact hH⟩, hS.F ht⟩) hS.2.2 d_Mo_symbol_30
    · have h := ie h c14
      refine lv_aload_n hx hb d_Mo_symbol_17 rfl (lv_at hl 0 rfl) ?_
      refine lv_iconst (v := 1) hx hb d_Mo_symbol_18 (by decide) ?_
      refine st_put hx hb hg hown hK hH hS (f := 48) (i := 0) hd_48 rfl rfl u_Mo t_Mo t_Mo_ok n_Mo 0 (by decide) (hg _ wd_423) rfl rfl rfl d_Mo_symbol_19 (fun σ3 H locs eσ3 hH hS => ?_)
      have h := nm_at eσ3 h
      refine lv_iconst (v := 0) hx hb d_Mo_symbol_22 (by decide) ?_
      cases h
      rw [← hQ0]
      exact W.iret hx hb hr (fun t ht hW => ⟨⟨_, (), rfl, rfl, by dsimp only; rw [ht]; exact hH⟩, hS.F ht⟩) hS.2.2 d_Mo_symbol_23
