theorem d_Mo_packed_0 : decode prog_13_method_38_code 0 = .ok (.iconst 0, 1) := by decide +kernel
theorem d_Mo_packed_1 : decode prog_13_method_38_code 1 = .ok (.istore 4, 2) := by decide +kernel
theorem d_Mo_packed_3 : decode prog_13_method_38_code 3 = .ok (.aload_n 0, 1) := by decide +kernel
theorem d_Mo_packed_4 : decode prog_13_method_38_code 4 = .ok (.getfield 7, 3) := by decide +kernel
theorem d_Mo_packed_7 : decode prog_13_method_38_code 7 = .ok (.iload_n 1, 1) := by decide +kernel
theorem d_Mo_packed_8 : decode prog_13_method_38_code 8 = .ok (.iaload, 1) := by decide +kernel
theorem d_Mo_packed_9 : decode prog_13_method_38_code 9 = .ok (.istore 5, 2) := by decide +kernel
theorem d_Mo_packed_11 : decode prog_13_method_38_code 11 = .ok (.iload_n 2, 1) := by decide +kernel
theorem d_Mo_packed_12 : decode prog_13_method_38_code 12 = .ok (.ifCond .ne 40, 3) := by decide +kernel
theorem d_Mo_packed_15 : decode prog_13_method_38_code 15 = .ok (.iconst 0, 1) := by decide +kernel
theorem d_Mo_packed_16 : decode prog_13_method_38_code 16 = .ok (.istore 6, 2) := by decide +kernel
theorem d_Mo_packed_18 : decode prog_13_method_38_code 18 = .ok (.iload 6, 2) := by decide +kernel
theorem d_Mo_packed_20 : decode prog_13_method_38_code 20 = .ok (.iload 5, 2) := by decide +kernel
theorem d_Mo_packed_22 : decode prog_13_method_38_code 22 = .ok (.if_icmp .ge 25, 3) := by decide +kernel
theorem d_Mo_packed_25 : decode prog_13_method_38_code 25 = .ok (.iload_n 3, 1) := by decide +kernel
theorem d_Mo_packed_26 : decode prog_13_method_38_code 26 = .ok (.ifCond .eq 21, 3) := by decide +kernel
theorem d_Mo_packed_29 : decode prog_13_method_38_code 29 = .ok (.aload_n 0, 1) := by decide +kernel
theorem d_Mo_packed_30 : decode prog_13_method_38_code 30 = .ok (.aload_n 0, 1) := by decide +kernel
theorem d_Mo_packed_31 : decode prog_13_method_38_code 31 = .ok (.iload_n 1, 1) := by decide +kernel
theorem d_Mo_packed_32 : decode prog_13_method_38_code 32 = .ok (.iload 6, 2) := by decide +kernel
theorem d_Mo_packed_34 : decode prog_13_method_38_code 34 = .ok (.invokevirtual 99, 3) := by decide +kernel
theorem d_Mo_packed_37 : decode prog_13_method_38_code 37 = .ok (.iconst 4, 1) := by decide +kernel
theorem d_Mo_packed_38 : decode prog_13_method_38_code 38 = .ok (.invokevirtual 149, 3) := by decide +kernel
theorem d_Mo_packed_41 : decode prog_13_method_38_code 41 = .ok (.iinc 6 1, 3) := by decide +kernel
theorem d_Mo_packed_44 : decode prog_13_method_38_code 44 = .ok (.goto (-26), 3) := by decide +kernel
theorem d_Mo_packed_47 : decode prog_13_method_38_code 47 = .ok (.iconst 4, 1) := by decide +kernel
theorem d_Mo_packed_48 : decode prog_13_method_38_code 48 = .ok (.iload 5, 2) := by decide +kernel
theorem d_Mo_packed_50 : decode prog_13_method_38_code 50 = .ok (.imul, 1) := by decide +kernel
theorem d_Mo_packed_51 : decode prog_13_method_38_code 51 = .ok (.ireturn, 1) := by decide +kernel
theorem d_Mo_packed_52 : decode prog_13_method_38_code 52 = .ok (.iload_n 2, 1) := by decide +kernel
theorem d_Mo_packed_53 : decode prog_13_method_38_code 53 = .ok (.iconst 1, 1) := by decide +kernel
theorem d_Mo_packed_54 : decode prog_13_method_38_code 54 = .ok (.if_icmp .ne 117, 3) := by decide +kernel
theorem d_Mo_packed_57 : decode prog_13_method_38_code 57 = .ok (.aload_n 0, 1) := by decide +kernel
theorem d_Mo_packed_58 : decode prog_13_method_38_code 58 = .ok (.iload_n 1, 1) := by decide +kernel
theorem d_Mo_packed_59 : decode prog_13_method_38_code 59 = .ok (.iconst 0, 1) := by decide +kernel
theorem d_Mo_packed_60 : decode prog_13_method_38_code 60 = .ok (.invokevirtual 99, 3) := by decide +kernel
theorem d_Mo_packed_63 : decode prog_13_method_38_code 63 = .ok (.istore 6, 2) := by decide +kernel
theorem d_Mo_packed_65 : decode prog_13_method_38_code 65 = .ok (.iload_n 3, 1) := by decide +kernel
theorem d_Mo_packed_66 : decode prog_13_method_38_code 66 = .ok (.ifCond .eq 10, 3) := by decide +kernel
theorem d_Mo_packed_69 : decode prog_13_method_38_code 69 = .ok (.aload_n 0, 1) := by decide +kernel
theorem d_Mo_packed_70 : decode prog_13_method_38_code 70 = .ok (.iload 6, 2) := by decide +kernel
theorem d_Mo_packed_72 : decode prog_13_method_38_code 72 = .ok (.iconst 4, 1) := by decide +kernel
theorem d_Mo_packed_73 : decode prog_13_method_38_code 73 = .ok (.invokevirtual 149, 3) := by decide +kernel
theorem d_Mo_packed_76 : decode prog_13_method_38_code 76 = .ok (.iconst 4, 1) := by decide +kernel
theorem d_Mo_packed_77 : decode prog_13_method_38_code 77 = .ok (.istore 4, 2) := by decide +kernel
theorem d_Mo_packed_79 : decode prog_13_method_38_code 79 = .ok (.iconst 0, 1) := by decide +kernel
theorem d_Mo_packed_80 : decode prog_13_method_38_code 80 = .ok (.istore 7, 2) := by decide +kernel
theorem d_Mo_packed_82 : decode prog_13_method_38_code 82 = .ok (.iload 7, 2) := by decide +kernel
theorem d_Mo_packed_84 : decode prog_13_method_38_code 84 = .ok (.iload 5, 2) := by decide +kernel
theorem d_Mo_packed_86 : decode prog_13_method_38_code 86 = .ok (.if_icmp .ge 82, 3) := by decide +kernel
theorem d_Mo_packed_89 : decode prog_13_method_38_code 89 = .ok (.aload_n 0, 1) := by decide +kernel
theorem d_Mo_packed_90 : decode prog_13_method_38_code 90 = .ok (.iload_n 1, 1) := by decide +kernel
theorem d_Mo_packed_91 : decode prog_13_method_38_code 91 = .ok (.iload 7, 2) := by decide +kernel
theorem d_Mo_packed_93 : decode prog_13_method_38_code 93 = .ok (.invokevirtual 99, 3) := by decide +kernel
theorem d_Mo_packed_96 : decode prog_13_method_38_code 96 = .ok (.istore 8, 2) := by decide +kernel
theorem d_Mo_packed_98 : decode prog_13_method_38_code 98 = .ok (.iload 6, 2) := by decide +kernel
theorem d_Mo_packed_100 : decode prog_13_method_38_code 100 = .ok (.iload 8, 2) := by decide +kernel
theorem d_Mo_packed_102 : decode prog_13_method_38_code 102 = .ok (.if_icmp .eq 47, 3) := by decide +kernel
theorem d_Mo_packed_105 : decode prog_13_method_38_code 105 = .ok (.iload_n 3, 1) := by decide +kernel
theorem d_Mo_packed_106 : decode prog_13_method_38_code 106 = .ok (.ifCond .eq 20, 3) := by decide +kernel
theorem d_Mo_packed_109 : decode prog_13_method_38_code 109 = .ok (.aload_n 0, 1) := by decide +kernel
theorem d_Mo_packed_110 : decode prog_13_method_38_code 110 = .ok (.iload 6, 2) := by decide +kernel
theorem d_Mo_packed_112 : decode prog_13_method_38_code 112 = .ok (.iload 8, 2) := by decide +kernel
theorem d_Mo_packed_114 : decode prog_13_method_38_code 114 = .ok (.if_icmp .ge 7, 3) := by decide +kernel
theorem d_Mo_packed_117 : decode prog_13_method_38_code 117 = .ok (.iconst 2, 1) := by decide +kernel
theorem d_Mo_packed_118 : decode prog_13_method_38_code 118 = .ok (.goto 4, 3) := by decide +kernel
theorem d_Mo_packed_121 : decode prog_13_method_38_code 121 = .ok (.iconst 3, 1) := by decide +kernel
theorem d_Mo_packed_122 : decode prog_13_method_38_code 122 = .ok (.iconst 2, 1) := by decide +kernel
theorem d_Mo_packed_123 : decode prog_13_method_38_code 123 = .ok (.invokevirtual 149, 3) := by decide +kernel
theorem d_Mo_packed_126 : decode prog_13_method_38_code 126 = .ok (.iload 6, 2) := by decide +kernel
theorem d_Mo_packed_128 : decode prog_13_method_38_code 128 = .ok (.iload 6, 2) := by decide +kernel
theorem d_Mo_packed_130 : decode prog_13_method_38_code 130 = .ok (.iload 8, 2) := by decide +kernel
theorem d_Mo_packed_132 : decode prog_13_method_38_code 132 = .ok (.if_icmp .ge 7, 3) := by decide +kernel
theorem d_Mo_packed_135 : decode prog_13_method_38_code 135 = .ok (.iconst 1, 1) := by decide +kernel
theorem d_Mo_packed_136 : decode prog_13_method_38_code 136 = .ok (.goto 4, 3) := by decide +kernel
theorem d_Mo_packed_139 : decode prog_13_method_38_code 139 = .ok (.iconst (-1), 1) := by decide +kernel
theorem d_Mo_packed_140 : decode prog_13_method_38_code 140 = .ok (.iadd, 1) := by decide +kernel
theorem d_Mo_packed_141 : decode prog_13_method_38_code 141 = .ok (.istore 6, 2) := by decide +kernel
theorem d_Mo_packed_143 : decode prog_13_method_38_code 143 = .ok (.iinc 4 2, 3) := by decide +kernel
theorem d_Mo_packed_146 : decode prog_13_method_38_code 146 = .ok (.goto (-48), 3) := by decide +kernel
theorem d_Mo_packed_149 : decode prog_13_method_38_code 149 = .ok (.iload_n 3, 1) := by decide +kernel
theorem d_Mo_packed_150 : decode prog_13_method_38_code 150 = .ok (.ifCond .eq 9, 3) := by decide +kernel
theorem d_Mo_packed_153 : decode prog_13_method_38_code 153 = .ok (.aload_n 0, 1) := by decide +kernel
theorem d_Mo_packed_154 : decode prog_13_method_38_code 154 = .ok (.iconst 0, 1) := by decide +kernel
theorem d_Mo_packed_155 : decode prog_13_method_38_code 155 = .ok (.iconst 1, 1) := by decide +kernel
theorem d_Mo_packed_156 : decode prog_13_method_38_code 156 = .ok (.invokevirtual 149, 3) := by decide +kernel
theorem d_Mo_packed_159 : decode prog_13_method_38_code 159 = .ok (.iinc 4 1, 3) := by decide +kernel
theorem d_Mo_packed_162 : decode prog_13_method_38_code 162 = .ok (.iinc 7 1, 3) := by decide +kernel
theorem d_Mo_packed_165 : decode prog_13_method_38_code 165 = .ok (.goto (-83), 3) := by decide +kernel
theorem d_Mo_packed_168 : decode prog_13_method_38_code 168 = .ok (.iload 4, 2) := by decide +kernel
theorem d_Mo_packed_170 : decode prog_13_method_38_code 170 = .ok (.ireturn, 1) := by decide +kernel
theorem d_Mo_packed_171 : decode prog_13_method_38_code 171 = .ok (.aload_n 0, 1) := by decide +kernel
theorem d_Mo_packed_172 : decode prog_13_method_38_code 172 = .ok (.iload_n 1, 1) := by decide +kernel
theorem d_Mo_packed_173 : decode prog_13_method_38_code 173 = .ok (.iload_n 3, 1) := by decide +kernel
theorem d_Mo_packed_174 : decode prog_13_method_38_code 174 = .ok (.invokevirtual 166, 3) := by decide +kernel
theorem d_Mo_packed_177 : decode prog_13_method_38_code 177 = .ok (.ireturn, 1) := by decide +kernel
theorem d_Mo_pack_0 : decode prog_13_method_40_code 0 = .ok (.aload_n 0, 1) := by decide +kernel
theorem d_Mo_pack_1 : decode prog_13_method_40_code 1 = .ok (.iload_n 1, 1) := by decide +kernel
theorem d_Mo_pack_2 : decode prog_13_method_40_code 2 = .ok (.invokevirtual 87, 3) := by decide +kernel
theorem d_Mo_pack_5 : decode prog_13_method_40_code 5 = .ok (.ifCond .ne 6, 3) := by decide +kernel
theorem d_Mo_pack_8 : decode prog_13_method_40_code 8 = .ok (.bipush (-101), 2) := by decide +kernel
theorem d_Mo_pack_10 : decode prog_13_method_40_code 10 = .ok (.ireturn, 1) := by decide +kernel
theorem d_Mo_pack_11 : decode prog_13_method_40_code 11 = .ok (.iload_n 2, 1) := by decide +kernel
theorem d_Mo_pack_12 : decode prog_13_method_40_code 12 = .ok (.ifCond .lt 8, 3) := by decide +kernel
theorem d_Mo_pack_15 : decode prog_13_method_40_code 15 = .ok (.iload_n 2, 1) := by decide +kernel
theorem d_Mo_pack_16 : decode prog_13_method_40_code 16 = .ok (.iconst 2, 1) := by decide +kernel
theorem d_Mo_pack_17 : decode prog_13_method_40_code 17 = .ok (.if_icmp .le 6, 3) := by decide +kernel
theorem d_Mo_pack_20 : decode prog_13_method_40_code 20 = .ok (.bipush (-102), 2) := by decide +kernel
theorem d_Mo_pack_22 : decode prog_13_method_40_code 22 = .ok (.ireturn, 1) := by decide +kernel
theorem d_Mo_pack_23 : decode prog_13_method_40_code 23 = .ok (.aload_n 0, 1) := by decide +kernel
theorem d_Mo_pack_24 : decode prog_13_method_40_code 24 = .ok (.iload_n 1, 1) := by decide +kernel
theorem d_Mo_pack_25 : decode prog_13_method_40_code 25 = .ok (.iload_n 2, 1) := by decide +kernel
theorem d_Mo_pack_26 : decode prog_13_method_40_code 26 = .ok (.iconst 0, 1) := by decide +kernel
theorem d_Mo_pack_27 : decode prog_13_method_40_code 27 = .ok (.invokevirtual 179, 3) := by decide +kernel
theorem d_Mo_pack_30 : decode prog_13_method_40_code 30 = .ok (.istore_n 3, 1) := by decide +kernel
theorem d_Mo_pack_31 : decode prog_13_method_40_code 31 = .ok (.aload_n 0, 1) := by decide +kernel
theorem d_Mo_pack_32 : decode prog_13_method_40_code 32 = .ok (.iload_n 3, 1) := by decide +kernel
theorem d_Mo_pack_33 : decode prog_13_method_40_code 33 = .ok (.invokevirtual 146, 3) := by decide +kernel
theorem d_Mo_pack_36 : decode prog_13_method_40_code 36 = .ok (.ifCond .ne 6, 3) := by decide +kernel
theorem d_Mo_pack_39 : decode prog_13_method_40_code 39 = .ok (.bipush (-106), 2) := by decide +kernel
theorem d_Mo_pack_41 : decode prog_13_method_40_code 41 = .ok (.ireturn, 1) := by decide +kernel
theorem d_Mo_pack_42 : decode prog_13_method_40_code 42 = .ok (.aload_n 0, 1) := by decide +kernel
theorem d_Mo_pack_43 : decode prog_13_method_40_code 43 = .ok (.iload_n 1, 1) := by decide +kernel
theorem d_Mo_pack_44 : decode prog_13_method_40_code 44 = .ok (.iload_n 2, 1) := by decide +kernel
theorem d_Mo_pack_45 : decode prog_13_method_40_code 45 = .ok (.iconst 1, 1) := by decide +kernel
theorem d_Mo_pack_46 : decode prog_13_method_40_code 46 = .ok (.invokevirtual 179, 3) := by decide +kernel
theorem d_Mo_pack_49 : decode prog_13_method_40_code 49 = .ok (.pop, 1) := by decide +kernel
theorem d_Mo_pack_50 : decode prog_13_method_40_code 50 = .ok (.iload_n 3, 1) := by decide +kernel
theorem d_Mo_pack_51 : decode prog_13_method_40_code 51 = .ok (.ireturn, 1) := by decide +kernel
theorem d_Mo_plain_0 : decode prog_13_method_42_code 0 = .ok (.iconst 0, 1) := by decide +kernel
theorem d_Mo_plain_1 : decode prog_13_method_42_code 1 = .ok (.istore_n 2, 1) := by decide +kernel
theorem d_Mo_plain_2 : decode prog_13_method_42_code 2 = .ok (.iload_n 2, 1) := by decide +kernel
theorem d_Mo_plain_3 : decode prog_13_method_42_code 3 = .ok (.iload_n 1, 1) := by decide +kernel
theorem d_Mo_plain_4 : decode prog_13_method_42_code 4 = .ok (.if_icmp .ge 28, 3) := by decide +kernel
theorem d_Mo_plain_7 : decode prog_13_method_42_code 7 = .ok (.aload_n 0, 1) := by decide +kernel
theorem d_Mo_plain_8 : decode prog_13_method_42_code 8 = .ok (.iconst 4, 1) := by decide +kernel
theorem d_Mo_plain_9 : decode prog_13_method_42_code 9 = .ok (.invokevirtual 191, 3) := by decide +kernel
theorem d_Mo_plain_12 : decode prog_13_method_42_code 12 = .ok (.istore_n 3, 1) := by decide +kernel
theorem d_Mo_plain_13 : decode prog_13_method_42_code 13 = .ok (.iload_n 3, 1) := by decide +kernel
theorem d_Mo_plain_14 : decode prog_13_method_42_code 14 = .ok (.ifCond .ge 5, 3) := by decide +kernel
theorem d_Mo_plain_17 : decode prog_13_method_42_code 17 = .ok (.iload_n 3, 1) := by decide +kernel
theorem d_Mo_plain_18 : decode prog_13_method_42_code 18 = .ok (.ireturn, 1) := by decide +kernel
theorem d_Mo_plain_19 : decode prog_13_method_42_code 19 = .ok (.aload_n 0, 1) := by decide +kernel
theorem d_Mo_plain_20 : decode prog_13_method_42_code 20 = .ok (.getfield 46, 3) := by decide +kernel
theorem d_Mo_plain_23 : decode prog_13_method_42_code 23 = .ok (.iload_n 2, 1) := by decide +kernel
theorem d_Mo_plain_24 : decode prog_13_method_42_code 24 = .ok (.iload_n 3, 1) := by decide +kernel
theorem d_Mo_plain_25 : decode prog_13_method_42_code 25 = .ok (.iastore, 1) := by decide +kernel
theorem d_Mo_plain_26 : decode prog_13_method_42_code 26 = .ok (.iinc 2 1, 3) := by decide +kernel
theorem d_Mo_plain_29 : decode prog_13_method_42_code 29 = .ok (.goto (-27), 3) := by decide +kernel
theorem d_Mo_plain_32 : decode prog_13_method_42_code 32 = .ok (.iconst 0, 1) := by decide +kernel
theorem d_Mo_plain_33 : decode prog_13_method_42_code 33 = .ok (.ireturn, 1) := by decide +kernel
theorem d_Mo_steps_0 : decode prog_13_method_43_code 0 = .ok (.aload_n 0, 1) := by decide +kernel
theorem d_Mo_steps_1 : decode prog_13_method_43_code 1 = .ok (.iconst 4, 1) := by decide +kernel
theorem d_Mo_steps_2 : decode prog_13_method_43_code 2 = .ok (.invokevirtual 191, 3) := by decide +kernel
theorem d_Mo_steps_5 : decode prog_13_method_43_code 5 = .ok (.istore_n 2, 1) := by decide +kernel
theorem d_Mo_steps_6 : decode prog_13_method_43_code 6 = .ok (.iload_n 2, 1) := by decide +kernel
theorem d_Mo_steps_7 : decode prog_13_method_43_code 7 = .ok (.ifCond .ge 5, 3) := by decide +kernel
theorem d_Mo_steps_10 : decode prog_13_method_43_code 10 = .ok (.iload_n 2, 1) := by decide +kernel
theorem d_Mo_steps_11 : decode prog_13_method_43_code 11 = .ok (.ireturn, 1) := by decide +kernel
theorem d_Mo_steps_12 : decode prog_13_method_43_code 12 = .ok (.iconst 0, 1) := by decide +kernel
theorem d_Mo_steps_13 : decode prog_13_method_43_code 13 = .ok (.istore_n 3, 1) := by decide +kernel
theorem d_Mo_steps_14 : decode prog_13_method_43_code 14 = .ok (.iload_n 3, 1) := by decide +kernel
theorem d_Mo_steps_15 : decode prog_13_method_43_code 15 = .ok (.iload_n 1, 1) := by decide +kernel
theorem d_Mo_steps_16 : decode prog_13_method_43_code 16 = .ok (.if_icmp .ge 88, 3) := by decide +kernel
theorem d_Mo_steps_19 : decode prog_13_method_43_code 19 = .ok (.aload_n 0, 1) := by decide +kernel
theorem d_Mo_steps_20 : decode prog_13_method_43_code 20 = .ok (.iconst 1, 1) := by decide +kernel
theorem d_Mo_steps_21 : decode prog_13_method_43_code 21 = .ok (.invokevirtual 191, 3) := by decide +kernel
theorem d_Mo_steps_24 : decode prog_13_method_43_code 24 = .ok (.istore 4, 2) := by decide +kernel
theorem d_Mo_steps_26 : decode prog_13_method_43_code 26 = .ok (.iload 4, 2) := by decide +kernel
theorem d_Mo_steps_28 : decode prog_13_method_43_code 28 = .ok (.iconst 1, 1) := by decide +kernel
theorem d_Mo_steps_29 : decode prog_13_method_43_code 29 = .ok (.if_icmp .ne 54, 3) := by decide +kernel
theorem d_Mo_steps_32 : decode prog_13_method_43_code 32 = .ok (.aload_n 0, 1) := by decide +kernel
theorem d_Mo_steps_33 : decode prog_13_method_43_code 33 = .ok (.iconst 1, 1) := by decide +kernel
theorem d_Mo_steps_34 : decode prog_13_method_43_code 34 = .ok (.invokevirtual 191, 3) := by decide +kernel
theorem d_Mo_steps_37 : decode prog_13_method_43_code 37 = .ok (.istore 5, 2) := by decide +kernel
theorem d_Mo_steps_39 : decode prog_13_method_43_code 39 = .ok (.iload 5, 2) := by decide +kernel
theorem d_Mo_steps_41 : decode prog_13_method_43_code 41 = .ok (.ifCond .ge 6, 3) := by decide +kernel
theorem d_Mo_steps_44 : decode prog_13_method_43_code 44 = .ok (.iload 5, 2) := by decide +kernel
theorem d_Mo_steps_46 : decode prog_13_method_43_code 46 = .ok (.ireturn, 1) := by decide +kernel
theorem d_Mo_steps_47 : decode prog_13_method_43_code 47 = .ok (.iload_n 2, 1) := by decide +kernel
theorem d_Mo_steps_48 : decode prog_13_method_43_code 48 = .ok (.iload 5, 2) := by decide +kernel
theorem d_Mo_steps_50 : decode prog_13_method_43_code 50 = .ok (.ifCond .ne 7, 3) := by decide +kernel
theorem d_Mo_steps_53 : decode prog_13_method_43_code 53 = .ok (.iconst 1, 1) := by decide +kernel
theorem d_Mo_steps_54 : decode prog_13_method_43_code 54 = .ok (.goto 4, 3) := by decide +kernel
theorem d_Mo_steps_57 : decode prog_13_method_43_code 57 = .ok (.iconst (-1), 1) := by decide +kernel
theorem d_Mo_steps_58 : decode prog_13_method_43_code 58 = .ok (.iadd, 1) := by decide +kernel
theorem d_Mo_steps_59 : decode prog_13_method_43_code 59 = .ok (.istore_n 2, 1) := by decide +kernel
theorem d_Mo_steps_60 : decode prog_13_method_43_code 60 = .ok (.iload_n 2, 1) := by decide +kernel
theorem d_Mo_steps_61 : decode prog_13_method_43_code 61 = .ok (.ifCond .lt 9, 3) := by decide +kernel
theorem d_Mo_steps_64 : decode prog_13_method_43_code 64 = .ok (.iload_n 2, 1) := by decide +kernel
theorem d_Mo_steps_65 : decode prog_13_method_43_code 65 = .ok (.bipush 15, 2) := by decide +kernel
theorem d_Mo_steps_67 : decode prog_13_method_43_code 67 = .ok (.if_icmp .le 6, 3) := by decide +kernel
theorem d_Mo_steps_70 : decode prog_13_method_43_code 70 = .ok (.bipush (-105), 2) := by decide +kernel
theorem d_Mo_steps_72 : decode prog_13_method_43_code 72 = .ok (.ireturn, 1) := by decide +kernel
theorem d_Mo_steps_73 : decode prog_13_method_43_code 73 = .ok (.aload_n 0, 1) := by decide +kernel
theorem d_Mo_steps_74 : decode prog_13_method_43_code 74 = .ok (.iconst 1, 1) := by decide +kernel
theorem d_Mo_steps_75 : decode prog_13_method_43_code 75 = .ok (.invokevirtual 191, 3) := by decide +kernel
theorem d_Mo_steps_78 : decode prog_13_method_43_code 78 = .ok (.istore 4, 2) := by decide +kernel
theorem d_Mo_steps_80 : decode prog_13_method_43_code 80 = .ok (.goto (-54), 3) := by decide +kernel
theorem d_Mo_steps_83 : decode prog_13_method_43_code 83 = .ok (.iload 4, 2) := by decide +kernel
theorem d_Mo_steps_85 : decode prog_13_method_43_code 85 = .ok (.ifCond .ge 6, 3) := by decide +kernel
theorem d_Mo_steps_88 : decode prog_13_method_43_code 88 = .ok (.iload 4, 2) := by decide +kernel
theorem d_Mo_steps_90 : decode prog_13_method_43_code 90 = .ok (.ireturn, 1) := by decide +kernel
theorem d_Mo_steps_91 : decode prog_13_method_43_code 91 = .ok (.aload_n 0, 1) := by decide +kernel
theorem d_Mo_steps_92 : decode prog_13_method_43_code 92 = .ok (.getfield 46, 3) := by decide +kernel
theorem d_Mo_steps_95 : decode prog_13_method_43_code 95 = .ok (.iload_n 3, 1) := by decide +kernel
theorem d_Mo_steps_96 : decode prog_13_method_43_code 96 = .ok (.iload_n 2, 1) := by decide +kernel
theorem d_Mo_steps_97 : decode prog_13_method_43_code 97 = .ok (.iastore, 1) := by decide +kernel
theorem d_Mo_steps_98 : decode prog_13_method_43_code 98 = .ok (.iinc 3 1, 3) := by decide +kernel
theorem d_Mo_steps_101 : decode prog_13_method_43_code 101 = .ok (.goto (-87), 3) := by decide +kernel
theorem d_Mo_steps_104 : decode prog_13_method_43_code 104 = .ok (.iconst 0, 1) := by decide +kernel
theorem d_Mo_steps_105 : decode prog_13_method_43_code 105 = .ok (.ireturn, 1) := by decide +kernel
noncomputable def lb_Mo_packed_98 (p1 : Int32) (p3 : Int32) (p5 : Int32) (v7 : Int32) (x7 : Int32) (σ : St) (v4 : Int32) (v6 : Int32) : Option ((St × Int32 × Int32) ⊕ ((St × Int32 × Int32))) :=
  if v6 = x7 then
    some (.inr (σ, v4, v6))
  else
  if p3 = 0 then
    if x7 ≤ v6 then
      nm (v6 + (-1)) fun x8 =>
      nm (v4 + 2) fun x9 =>
      some (.inl (σ, x9, x8))
    else
    nm (v6 + 1) fun x10 =>
    nm (v4 + 2) fun x11 =>
    some (.inl (σ, x11, x10))
  else
  if x7 ≤ v6 then
    b1 (f_Mo_putBits σ 3 2) fun σ12 =>
    nm (v6 + (-1)) fun x13 =>
    nm (v4 + 2) fun x14 =>
    some (.inl (σ12, x14, x13))
  else
  b1 (f_Mo_putBits σ 2 2) fun σ15 =>
  nm (v6 + 1) fun x16 =>
  nm (v4 + 2) fun x17 =>
  some (.inl (σ15, x17, x16))
noncomputable def lb_Mo_packed_82 (p1 : Int32) (p3 : Int32) (p5 : Int32) (σ : St) (v4 : Int32) (v6 : Int32) (v7 : Int32) : Option ((St × Int32 × Int32 × Int32) ⊕ ((St × Int32 × Int32 × Int32))) :=
  if p5 ≤ v7 then
    some (.inr (σ, v4, v6, v7))
  else
  b2 (f_Mo_lengthOf σ p1 v7) fun σ6 x7 =>
  b3 (lpE (fun q => lb_Mo_packed_98 p1 p3 p5 v7 x7 q.1 q.2.1 q.2.2) (σ6, v4, v6)) fun σ18 x19 x20 =>
  if p3 = 0 then
    nm (x19 + 1) fun x21 =>
    nm (v7 + 1) fun x22 =>
    some (.inl (σ18, x21, x20, x22))
  else
  b1 (f_Mo_putBits σ18 0 1) fun σ23 =>
  nm (x19 + 1) fun x24 =>
  nm (v7 + 1) fun x25 =>
  some (.inl (σ23, x24, x20, x25))
noncomputable def jn_Mo_packed_76 (σ : St) (p1 : Int32) (p3 : Int32) (p5 : Int32) (p6 : Int32) : Option (St × Int32) :=
  b4 (lpE (fun q => lb_Mo_packed_82 p1 p3 p5 q.1 q.2.1 q.2.2.1 q.2.2.2) (σ, 4, p6, 0)) fun σ26 x27 x28 x29 =>
  some (σ26, x27)
noncomputable def lb_Mo_packed_18 (a1 : Int32) (a3 : Int32) (x1 : Int32) (σ : St) (v6 : Int32) : Option ((St × Int32) ⊕ ((St × Int32))) :=
  if x1 ≤ v6 then
    some (.inr (σ, v6))
  else
  if a3 = 0 then
    some (.inr (σ, v6))
  else
  b2 (f_Mo_lengthOf σ a1 v6) fun σ31 x32 =>
  b1 (f_Mo_putBits σ31 x32 4) fun σ33 =>
  nm (v6 + 1) fun x34 =>
  some (.inl (σ33, x34))
noncomputable def f_Mo_packed (σ : St) (a1 : Int32) (a2 : Int32) (a3 : Int32) : Option (St × Int32) :=
  gd (ib a1 13) <|
  nm (σ.1 49 0 a1.toNatClampNeg) fun x1 =>
  if a2 = 0 then
    b2 (lpE (fun q => lb_Mo_packed_18 a1 a3 x1 q.1 q.2) (σ, 0)) fun σ35 x36 =>
    some (σ35, 4 * x1)
  else
  if a2 = 1 then
    b2 (f_Mo_lengthOf σ a1 0) fun σ4 x5 =>
    if a3 = 0 then
      jn_Mo_packed_76 σ4 a1 a3 x1 x5
    else
    b1 (f_Mo_putBits σ4 x5 4) fun σ30 =>
    jn_Mo_packed_76 σ30 a1 a3 x1 x5
  else
  b2 (f_Mo_runs σ a1 a3) fun σ2 x3 =>
  some (σ2, x3)
noncomputable def f_Mo_pack (σ : St) (a1 : Int32) (a2 : Int32) : Option (St × Int32) :=
  b2 (f_Mo_has σ a1) fun σ1 x2 =>
  if x2 = 0 then
    some (σ1, (-101))
  else
  if a2 < 0 then
    some (σ1, (-102))
  else
  if a2 ≤ 2 then
    b2 (f_Mo_packed σ1 a1 a2 0) fun σ3 x4 =>
    b2 (f_Mo_hasRoom σ3 x4) fun σ5 x6 =>
    if x6 = 0 then
      some (σ5, (-106))
    else
    b2 (f_Mo_packed σ5 a1 a2 1) fun σ7 x8 =>
    some (σ7, x4)
  else
  some (σ1, (-102))
noncomputable def lb_Mo_plain_2 (a1 : Int32) (σ : St) (v2 : Int32) : Option ((St × Int32) ⊕ ((St × Int32) ⊕ (St × Int32))) :=
  if a1 ≤ v2 then
    some (.inr (.inl (σ, v2)))
  else
  b2 (f_Mo_takeNumber σ 4) fun σ1 x2 =>
  if 0 ≤ x2 then
    gd (ib v2 64) <|
    nm (sI σ1 60 0 (v2.toNatClampNeg) x2) fun σ3 =>
    nm (v2 + 1) fun x4 =>
    some (.inl (σ3, x4))
  else
  some (.inr (.inr (σ1, x2)))
noncomputable def f_Mo_plain (σ : St) (a1 : Int32) : Option (St × Int32) :=
  bs2 (lpE (fun q => lb_Mo_plain_2 a1 q.1 q.2) (σ, 0)) (fun z => some z) fun σ5 x6 =>
  some (σ5, 0)
noncomputable def lb_Mo_steps_26 (a1 : Int32) (v3 : Int32) (σ : St) (v2 : Int32) (v4 : Int32) : Option ((St × Int32 × Int32) ⊕ ((St × Int32 × Int32) ⊕ (St × Int32))) :=
  if v4 = 1 then
    b2 (f_Mo_takeNumber σ 1) fun σ5 x6 =>
    if 0 ≤ x6 then
      if x6 = 0 then
        nm (v2 + 1) fun x10 =>
        if x10 < 0 then
          some (.inr (.inr (σ5, (-105))))
        else
        if x10 ≤ 15 then
          b2 (f_Mo_takeNumber σ5 1) fun σ11 x12 =>
          some (.inl (σ11, x10, x12))
        else
        some (.inr (.inr (σ5, (-105))))
      else
      nm (v2 + (-1)) fun x7 =>
      if x7 < 0 then
        some (.inr (.inr (σ5, (-105))))
      else
      if x7 ≤ 15 then
        b2 (f_Mo_takeNumber σ5 1) fun σ8 x9 =>
        some (.inl (σ8, x7, x9))
      else
      some (.inr (.inr (σ5, (-105))))
    else
    some (.inr (.inr (σ5, x6)))
  else
  some (.inr (.inl (σ, v2, v4)))
noncomputable def lb_Mo_steps_14 (a1 : Int32) (σ : St) (v2 : Int32) (v3 : Int32) : Option ((St × Int32 × Int32) ⊕ ((St × Int32 × Int32) ⊕ (St × Int32))) :=
  if a1 ≤ v3 then
    some (.inr (.inl (σ, v2, v3)))
  else
  b2 (f_Mo_takeNumber σ 1) fun σ3 x4 =>
  bs3 (lpE (fun q => lb_Mo_steps_26 a1 v3 q.1 q.2.1 q.2.2) (σ3, v2, x4)) (fun z => some (.inr (.inr z))) fun σ13 x14 x15 =>
  if 0 ≤ x15 then
    gd (ib v3 64) <|
    nm (sI σ13 60 0 (v3.toNatClampNeg) x14) fun σ16 =>
    nm (v3 + 1) fun x17 =>
    some (.inl (σ16, x14, x17))
  else
  some (.inr (.inr (σ13, x15)))
noncomputable def f_Mo_steps (σ : St) (a1 : Int32) : Option (St × Int32) :=
  b2 (f_Mo_takeNumber σ 4) fun σ1 x2 =>
  if 0 ≤ x2 then
    bs3 (lpE (fun q => lb_Mo_steps_14 a1 q.1 q.2.1 q.2.2) (σ1, x2, 0)) (fun z => some z) fun σ18 x19 x20 =>
    some (σ18, 0)
  else
  some (σ1, x2)
set_option maxHeartbeats 4000000 in
set_option maxRecDepth 100000 in
theorem c_Mo_packed (l : Launch) (D : va_G) (aC : Nat → ClassId) (A : Nat → Prop) (ad : Nat → Nat → Nat) (n : Nat) (σ : St) (a1 : Int32) (a2 : Int32) (a3 : Int32) (o : St × Int32) (h : f_Mo_packed σ a1 a2 a3 = some o) : Met l y_Mo_packed w_Mo_packed rm_Mo_packed (va_Pc [.ref (ad 48 0), .int a1, .int a2, .int a3] (Pre D aC A ad n σ)) (va_Qi (fun r (_ : Unit) => r = o.2) (fun _ t => Hold D aC A ad n o.1 t.heap) A) 0 0 A := by
  refine Met.ofW (cc := prog_13_method_38_code) (maxL := 9) (ret := (some .int)) (by decide) rfl ?_
  intro p e s m args below meth c s₁ B hml hv
  obtain ⟨hargs, hH, hK, hZ⟩ := hv
  have hx := B.exec
  have hb := B.bytes
  have hr := B.returns
  have hts := atoms_spec (ws := w_Mo_packed) B.pre
  have hg : ∀ w ∈ gW, w.before args s = true := fun w h => hts w (List.mem_cons_of_mem _ h)
  have hown : s.vm.findClass "PrefixCodesModel" = some m.cls := findClass_of_methodNamed B.named
  have hlocks := B.notSynchronized
  have hS : va_S A s.heap s.heap [] := va_S.rf
  have hl := lv_entry ([.ref (ad 48 0), .int a1, .int a2, .int a3]) (n := 9) (Nat.le_of_ble_eq_true rfl)
  rw [show entryFrame m args 9 = entryFrame m (([.ref (ad 48 0), .int a1, .int a2, .int a3] : List Value).toArray) 9 by rw [hargs], lg_entry_eq]
  generalize (lg_sl ([.ref (ad 48 0), .int a1, .int a2, .int a3]) ++ List.replicate (9 - (lg_sl ([.ref (ad 48 0), .int a1, .int a2, .int a3])).length) Slot.unset).toArray = ls at hl ⊢
  have hl : lv_has ls 9 [(0, .ref (ad 48 0)), (1, .int a1), (2, .int a2), (3, .int a3)] := hl
  generalize hQ0 : MQ below (va_Qi (fun r (_ : Unit) => r = o.2) (fun _ t => Hold D aC A ad n o.1 t.heap) A) args s 0 0 A = Q0
  unfold f_Mo_packed at h
  have J76 : ∀ (σ : St) (p1 : Int32) (p3 : Int32) (p5 : Int32) (p6 : Int32) (H : Heap) (locs : List Loc) (ls : Array Slot), Hold D aC A ad n σ H → va_S A s.heap H locs → lv_has ls 9 [(0, .ref (ad 48 0)), (1, .int p1), (3, .int p3), (5, .int p5), (6, .int p6)] → jn_Mo_packed_76 σ p1 p3 p5 p6 = some o → W p l e (headSpec w_Mo_packed rm_Mo_packed).room s m args below meth c H locs 0 0 Q0 (F0 m 76 ls []) := by
    intro σ p1 p3 p5 p6  H locs ls hH hS hl h
    unfold jn_Mo_packed_76 at h
    refine lv_iconst (v := 4) hx hb d_Mo_packed_76 (by decide) ?_
    refine lv_istore (lv' := [(4, .int 4), (0, .ref (ad 48 0)), (1, .int p1), (3, .int p3), (5, .int p5), (6, .int p6)]) hx hb d_Mo_packed_77 hl (by decide) rfl (fun ls hl => ?_)
    refine lv_iconst (v := 0) hx hb d_Mo_packed_79 (by decide) ?_
    refine lv_istore (lv' := [(7, .int 0), (4, .int 4), (0, .ref (ad 48 0)), (1, .int p1), (3, .int p3), (5, .int p5), (6, .int p6)]) hx hb d_Mo_packed_80 hl (by decide) rfl (fun ls hl => ?_)
    obtain ⟨q1, hq1, h⟩ := b4_some h
    have K1 : ∀ (σ26 : St) (x27 : Int32) (x28 : Int32) (x29 : Int32) (H : Heap) (locs : List Loc) (ls : Array Slot), q1 = (σ26, x27, x28, x29) → Hold D aC A ad n σ26 H → va_S A s.heap H locs → lv_has ls 9 [(0, .ref (ad 48 0)), (1, .int p1), (3, .int p3), (4, .int x27), (5, .int p5), (6, .int x28), (7, .int x29)] → W p l e (headSpec w_Mo_packed rm_Mo_packed).room s m args below meth c H locs 0 0 Q0 (F0 m 168 ls []) := by
      intro σ26 x27 x28 x29 H locs ls eq1 hH hS hl
      subst eq1
      have h := b4_at h
      refine lv_iload hx hb d_Mo_packed_168 (lv_at hl 3 rfl) ?_
      cases h
      rw [← hQ0]
      exact W.iret hx hb hr (fun t ht hW => ⟨⟨_, (), rfl, rfl, by dsimp only; rw [ht]; exact hH⟩, hS.F ht⟩) hS.2.2 d_Mo_packed_170
    have loop1 : ∀ (k : Nat) (σ : St) (v4 : Int32) (v6 : Int32) (v7 : Int32) (H : Heap) (locs : List Loc) (ls : Array Slot), Hold D aC A ad n σ H → va_S A s.heap H locs → lv_has ls 9 [(0, .ref (ad 48 0)), (1, .int p1), (3, .int p3), (4, .int v4), (5, .int p5), (6, .int v6), (7, .int v7)] → lp (fun q => lb_Mo_packed_82 p1 p3 p5 q.1 q.2.1 q.2.2.1 q.2.2.2) k (σ, v4, v6, v7) = some q1 → W p l e (headSpec w_Mo_packed rm_Mo_packed).room s m args below meth c H locs 0 0 Q0 (F0 m 82 ls []) := by
      intro k
      induction k with
      | zero => intro σ v4 v6 v7 H locs ls hH hS hl hlp; exact absurd hlp (lp_zero _ _ _)
      | succ k ih1 =>
        intro σ v4 v6 v7 H locs ls hH hS hl hlp
        obtain ⟨z1, h1, hk1⟩ := lp_succ hlp
        have h1 : lb_Mo_packed_82 p1 p3 p5 σ v4 v6 v7 = some z1 := h1
        unfold lb_Mo_packed_82 at h1
        refine lv_iload hx hb d_Mo_packed_82 (lv_at hl 6 rfl) ?_
        refine lv_iload hx hb d_Mo_packed_84 (lv_at hl 4 rfl) ?_
        refine lv_icmp_ge (tgt := 168) hx hb d_Mo_packed_86 (by decide) (fun c86 => ?_) (fun c86 => ?_)
        · have h1 := it h1 c86
          cases h1
          exact K1 σ v4 v6 v7 _ _ ls (Option.some.inj hk1).symm hH hS (lv_sub hl [0, 1, 2, 3, 4, 5, 6] rfl)
        · have h1 := ie h1 c86
          refine lv_aload_n hx hb d_Mo_packed_89 rfl (lv_at hl 0 rfl) ?_
          refine lv_iload_n hx hb d_Mo_packed_90 rfl (lv_at hl 1 rfl) ?_
          refine lv_iload hx hb d_Mo_packed_91 (lv_at hl 6 rfl) ?_
          obtain ⟨qc, hc93, h1⟩ := b2_some h1
          obtain ⟨σ6, x7⟩ := qc
          have h1 := b2_at h1
          refine st_Vi (As := [.int p1, .int v7]) (rest := []) ⟨hx, hb, hml, hown, hg⟩ (c_Mo_lengthOf l D aC A ad n _ p1 v7 _ hc93) (cwG hg wd_440 wd_441 wd_442 wd_443 wd_428 yd_Mo_lengthOf ⟨Nat.le_of_ble_eq_true rfl, Nat.le_of_ble_eq_true rfl⟩) hK hH hS hZ hd_48 rfl rfl rfl hl.1 rfl (Nat.le_of_ble_eq_true rfl) d_Mo_packed_93 ⟨Nat.zero_le _, Nat.zero_le _⟩ (fun H locs hH hS => ?_)
          refine lv_istore (lv' := [(8, .int x7), (0, .ref (ad 48 0)), (1, .int p1), (3, .int p3), (4, .int v4), (5, .int p5), (6, .int v6), (7, .int v7)]) hx hb d_Mo_packed_96 hl (by decide) rfl (fun ls hl => ?_)
          obtain ⟨q2, hq2, h1⟩ := b3_some h1
          have K2 : ∀ (σ18 : St) (x19 : Int32) (x20 : Int32) (H : Heap) (locs : List Loc) (ls : Array Slot), q2 = (σ18, x19, x20) → Hold D aC A ad n σ18 H → va_S A s.heap H locs → lv_has ls 9 [(0, .ref (ad 48 0)), (1, .int p1), (3, .int p3), (4, .int x19), (5, .int p5), (6, .int x20), (7, .int v7), (8, .int x7)] → W p l e (headSpec w_Mo_packed rm_Mo_packed).room s m args below meth c H locs 0 0 Q0 (F0 m 149 ls []) := by
            intro σ18 x19 x20 H locs ls eq2 hH hS hl
            subst eq2
            have h1 := b3_at h1
            refine lv_iload_n hx hb d_Mo_packed_149 rfl (lv_at hl 2 rfl) ?_
            refine lv_if_eq (tgt := 159) hx hb d_Mo_packed_150 (by decide) (fun c150 => ?_) (fun c150 => ?_)
            · have h1 := it h1 c150
              obtain ⟨x21, ex21⟩ : ∃ y : Int32, y = x19 + 1 := ⟨_, rfl⟩
              have h1 := nm_at ex21 h1
              refine lv_iinc (v := x21) (lv' := [(4, .int x21), (0, .ref (ad 48 0)), (1, .int p1), (3, .int p3), (5, .int p5), (6, .int x20), (7, .int v7), (8, .int x7)]) hx hb d_Mo_packed_159 hl (k := 3) rfl (by rw [ex21]; rfl) (by decide) rfl (fun ls hl => ?_)
              obtain ⟨x22, ex22⟩ : ∃ y : Int32, y = v7 + 1 := ⟨_, rfl⟩
              have h1 := nm_at ex22 h1
              refine lv_iinc (v := x22) (lv' := [(7, .int x22), (4, .int x21), (0, .ref (ad 48 0)), (1, .int p1), (3, .int p3), (5, .int p5), (6, .int x20), (8, .int x7)]) hx hb d_Mo_packed_162 hl (k := 6) rfl (by rw [ex22]; rfl) (by decide) rfl (fun ls hl => ?_)
              refine lv_goto (tgt := 82) hx hb d_Mo_packed_165 (by decide) ?_
              cases h1
              exact ih1 σ18 x21 x20 x22 _ _ ls hH hS (lv_sub hl [2, 3, 4, 1, 5, 6, 0] rfl) hk1
            · have h1 := ie h1 c150
              refine lv_aload_n hx hb d_Mo_packed_153 rfl (lv_at hl 0 rfl) ?_
              refine lv_iconst (v := 0) hx hb d_Mo_packed_154 (by decide) ?_
              refine lv_iconst (v := 1) hx hb d_Mo_packed_155 (by decide) ?_
              obtain ⟨qc, hc156, h1⟩ := b1_some h1
              obtain ⟨σ23, rfl⟩ : ∃ z, z = qc := ⟨_, rfl⟩
              have h1 := b1_at h1
              refine st_Vv (As := [.int 0, .int 1]) (rest := []) ⟨hx, hb, hml, hown, hg⟩ (c_Mo_putBits l D aC A ad n _ 0 1 _ hc156) (cwG hg wd_497 wd_498 wd_499 wd_500 wd_428 yd_Mo_putBits ⟨Nat.le_of_ble_eq_true rfl, Nat.le_of_ble_eq_true rfl⟩) hK hH hS hZ hd_48 rfl rfl rfl hl.1 rfl (Nat.le_of_ble_eq_true rfl) d_Mo_packed_156 ⟨Nat.zero_le _, Nat.zero_le _⟩ (fun H locs hH hS => ?_)
              obtain ⟨x24, ex24⟩ : ∃ y : Int32, y = x19 + 1 := ⟨_, rfl⟩
              have h1 := nm_at ex24 h1
              refine lv_iinc (v := x24) (lv' := [(4, .int x24), (0, .ref (ad 48 0)), (1, .int p1), (3, .int p3), (5, .int p5), (6, .int x20), (7, .int v7), (8, .int x7)]) hx hb d_Mo_packed_159 hl (k := 3) rfl (by rw [ex24]; rfl) (by decide) rfl (fun ls hl => ?_)
              obtain ⟨x25, ex25⟩ : ∃ y : Int32, y = v7 + 1 := ⟨_, rfl⟩
              have h1 := nm_at ex25 h1
              refine lv_iinc (v := x25) (lv' := [(7, .int x25), (4, .int x24), (0, .ref (ad 48 0)), (1, .int p1), (3, .int p3), (5, .int p5), (6, .int x20), (8, .int x7)]) hx hb d_Mo_packed_162 hl (k := 6) rfl (by rw [ex25]; rfl) (by decide) rfl (fun ls hl => ?_)
              refine lv_goto (tgt := 82) hx hb d_Mo_packed_165 (by decide) ?_
              cases h1
              exact ih1 σ23 x24 x20 x25 _ _ ls hH hS (lv_sub hl [2, 3, 4, 1, 5, 6, 0] rfl) hk1
          have loop2 : ∀ (k : Nat) (σ : St) (v4 : Int32) (v6 : Int32) (H : Heap) (locs : List Loc) (ls : Array Slot), Hold D aC A ad n σ H → va_S A s.heap H locs → lv_has ls 9 [(0, .ref (ad 48 0)), (1, .int p1), (3, .int p3), (4, .int v4), (5, .int p5), (6, .int v6), (7, .int v7), (8, .int x7)] → lp (fun q => lb_Mo_packed_98 p1 p3 p5 v7 x7 q.1 q.2.1 q.2.2) k (σ, v4, v6) = some q2 → W p l e (headSpec w_Mo_packed rm_Mo_packed).room s m args below meth c H locs 0 0 Q0 (F0 m 98 ls []) := by
            intro k
            induction k with
            | zero => intro σ v4 v6 H locs ls hH hS hl hlp; exact absurd hlp (lp_zero _ _ _)
            | succ k ih2 =>
              intro σ v4 v6 H locs ls hH hS hl hlp
              obtain ⟨z2, h2, hk2⟩ := lp_succ hlp
              have h2 : lb_Mo_packed_98 p1 p3 p5 v7 x7 σ v4 v6 = some z2 := h2
              unfold lb_Mo_packed_98 at h2
              refine lv_iload hx hb d_Mo_packed_98 (lv_at hl 5 rfl) ?_
              refine lv_iload hx hb d_Mo_packed_100 (lv_at hl 7 rfl) ?_
              refine lv_icmp_eq (tgt := 149) hx hb d_Mo_packed_102 (by decide) (fun c102 => ?_) (fun c102 => ?_)
              · have h2 := it h2 c102
                cases h2
                exact K2 σ v4 v6 _ _ ls (Option.some.inj hk2).symm hH hS (lv_sub hl [0, 1, 2, 3, 4, 5, 6, 7] rfl)
              · have h2 := ie h2 c102
                refine lv_iload_n hx hb d_Mo_packed_105 rfl (lv_at hl 2 rfl) ?_
                refine lv_if_eq (tgt := 126) hx hb d_Mo_packed_106 (by decide) (fun c106 => ?_) (fun c106 => ?_)
                · have h2 := it h2 c106
                  refine lv_iload hx hb d_Mo_packed_126 (lv_at hl 5 rfl) ?_
                  refine lv_iload hx hb d_Mo_packed_128 (lv_at hl 5 rfl) ?_
                  refine lv_iload hx hb d_Mo_packed_130 (lv_at hl 7 rfl) ?_
                  refine lv_icmp_ge (tgt := 139) hx hb d_Mo_packed_132 (by decide) (fun c132 => ?_) (fun c132 => ?_)
                  · have h2 := it h2 c132
                    refine lv_iconst (v := (-1)) hx hb d_Mo_packed_139 (by decide) ?_
                    refine lv_iadd hx hb d_Mo_packed_140 ?_
                    refine lv_topi (fun x8 ex8 => ?_)
                    have h2 := nm_at ex8 h2
                    refine lv_istore (lv' := [(6, .int x8), (0, .ref (ad 48 0)), (1, .int p1), (3, .int p3), (4, .int v4), (5, .int p5), (7, .int v7), (8, .int x7)]) hx hb d_Mo_packed_141 hl (by decide) rfl (fun ls hl => ?_)
                    obtain ⟨x9, ex9⟩ : ∃ y : Int32, y = v4 + 2 := ⟨_, rfl⟩
                    have h2 := nm_at ex9 h2
                    refine lv_iinc (v := x9) (lv' := [(4, .int x9), (6, .int x8), (0, .ref (ad 48 0)), (1, .int p1), (3, .int p3), (5, .int p5), (7, .int v7), (8, .int x7)]) hx hb d_Mo_packed_143 hl (k := 4) rfl (by rw [ex9]; rfl) (by decide) rfl (fun ls hl => ?_)
                    refine lv_goto (tgt := 98) hx hb d_Mo_packed_146 (by decide) ?_
                    cases h2
                    exact ih2 σ x9 x8 _ _ ls hH hS (lv_sub hl [2, 3, 4, 0, 5, 1, 6, 7] rfl) hk2
                  · have h2 := ie h2 c132
                    refine lv_iconst (v := 1) hx hb d_Mo_packed_135 (by decide) ?_
                    refine lv_goto (tgt := 140) hx hb d_Mo_packed_136 (by decide) ?_
                    refine lv_iadd hx hb d_Mo_packed_140 ?_
                    refine lv_topi (fun x10 ex10 => ?_)
                    have h2 := nm_at ex10 h2
                    refine lv_istore (lv' := [(6, .int x10), (0, .ref (ad 48 0)), (1, .int p1), (3, .int p3), (4, .int v4), (5, .int p5), (7, .int v7), (8, .int x7)]) hx hb d_Mo_packed_141 hl (by decide) rfl (fun ls hl => ?_)
                    obtain ⟨x11, ex11⟩ : ∃ y : Int32, y = v4 + 2 := ⟨_, rfl⟩
                    have h2 := nm_at ex11 h2
                    refine lv_iinc (v := x11) (lv' := [(4, .int x11), (6, .int x10), (0, .ref (ad 48 0)), (1, .int p1), (3, .int p3), (5, .int p5), (7, .int v7), (8, .int x7)]) hx hb d_Mo_packed_143 hl (k := 4) rfl (by rw [ex11]; rfl) (by decide) rfl (fun ls hl => ?_)
                    refine lv_goto (tgt := 98) hx hb d_Mo_packed_146 (by decide) ?_
                    cases h2
                    exact ih2 σ x11 x10 _ _ ls hH hS (lv_sub hl [2, 3, 4, 0, 5, 1, 6, 7] rfl) hk2
                · have h2 := ie h2 c106
                  refine lv_aload_n hx hb d_Mo_packed_109 rfl (lv_at hl 0 rfl) ?_
                  refine lv_iload hx hb d_Mo_packed_110 (lv_at hl 5 rfl) ?_
                  refine lv_iload hx hb d_Mo_packed_112 (lv_at hl 7 rfl) ?_
                  refine lv_icmp_ge (tgt := 121) hx hb d_Mo_packed_114 (by decide) (fun c114 => ?_) (fun c114 => ?_)
                  · have h2 := it h2 c114
                    refine lv_iconst (v := 3) hx hb d_Mo_packed_121 (by decide) ?_
                    refine lv_iconst (v := 2) hx hb d_Mo_packed_122 (by decide) ?_
                    obtain ⟨qc, hc123, h2⟩ := b1_some h2
                    obtain ⟨σ12, rfl⟩ : ∃ z, z = qc := ⟨_, rfl⟩
                    have h2 := b1_at h2
                    refine st_Vv (As := [.int 3, .int 2]) (rest := []) ⟨hx, hb, hml, hown, hg⟩ (c_Mo_putBits l D aC A ad n _ 3 2 _ hc123) (cwG hg wd_497 wd_498 wd_499 wd_500 wd_428 yd_Mo_putBits ⟨Nat.le_of_ble_eq_true rfl, Nat.le_of_ble_eq_true rfl⟩) hK hH hS hZ hd_48 rfl rfl rfl hl.1 rfl (Nat.le_of_ble_eq_true rfl) d_Mo_packed_123 ⟨Nat.zero_le _, Nat.zero_le _⟩ (fun H locs hH hS => ?_)
                    refine lv_iload hx hb d_Mo_packed_126 (lv_at hl 5 rfl) ?_
                    refine lv_iload hx hb d_Mo_packed_128 (lv_at hl 5 rfl) ?_
                    refine lv_iload hx hb d_Mo_packed_130 (lv_at hl 7 rfl) ?_
                    refine lv_icmp_ge (tgt := 139) hx hb d_Mo_packed_132 (by decide) (fun c132 => ?_) (fun c132 => False.elim (by first | exact c132 c114 | exact c114 c132))
                    refine lv_iconst (v := (-1)) hx hb d_Mo_packed_139 (by decide) ?_
                    refine lv_iadd hx hb d_Mo_packed_140 ?_
                    refine lv_topi (fun x13 ex13 => ?_)
                    have h2 := nm_at ex13 h2
                    refine lv_istore (lv' := [(6, .int x13), (0, .ref (ad 48 0)), (1, .int p1), (3, .int p3), (4, .int v4), (5, .int p5), (7, .int v7), (8, .int x7)]) hx hb d_Mo_packed_141 hl (by decide) rfl (fun ls hl => ?_)
                    obtain ⟨x14, ex14⟩ : ∃ y : Int32, y = v4 + 2 := ⟨_, rfl⟩
                    have h2 := nm_at ex14 h2
                    refine lv_iinc (v := x14) (lv' := [(4, .int x14), (6, .int x13), (0, .ref (ad 48 0)), (1, .int p1), (3, .int p3), (5, .int p5), (7, .int v7), (8, .int x7)]) hx hb d_Mo_packed_143 hl (k := 4) rfl (by rw [ex14]; rfl) (by decide) rfl (fun ls hl => ?_)
                    refine lv_goto (tgt := 98) hx hb d_Mo_packed_146 (by decide) ?_
                    cases h2
                    exact ih2 σ12 x14 x13 _ _ ls hH hS (lv_sub hl [2, 3, 4, 0, 5, 1, 6, 7] rfl) hk2
                  · have h2 := ie h2 c114
                    refine lv_iconst (v := 2) hx hb d_Mo_packed_117 (by decide) ?_
                    refine lv_goto (tgt := 122) hx hb d_Mo_packed_118 (by decide) ?_
                    refine lv_iconst (v := 2) hx hb d_Mo_packed_122 (by decide) ?_
                    obtain ⟨qc, hc123, h2⟩ := b1_some h2
                    obtain ⟨σ15, rfl⟩ : ∃ z, z = qc := ⟨_, rfl⟩
                    have h2 := b1_at h2
                    refine st_Vv (As := [.int 2, .int 2]) (rest := []) ⟨hx, hb, hml, hown, hg⟩ (c_Mo_putBits l D aC A ad n _ 2 2 _ hc123) (cwG hg wd_497 wd_498 wd_499 wd_500 wd_428 yd_Mo_putBits ⟨Nat.le_of_ble_eq_true rfl, Nat.le_of_ble_eq_true rfl⟩) hK hH hS hZ hd_48 rfl rfl rfl hl.1 rfl (Nat.le_of_ble_eq_true rfl) d_Mo_packed_123 ⟨Nat.zero_le _, Nat.zero_le _⟩ (fun H locs hH hS => ?_)
                    refine lv_iload hx hb d_Mo_packed_126 (lv_at hl 5 rfl) ?_
                    refine lv_iload hx hb d_Mo_packed_128 (lv_at hl 5 rfl) ?_
                    refine lv_iload hx hb d_Mo_packed_130 (lv_at hl 7 rfl) ?_
                    refine lv_icmp_ge (tgt := 139) hx hb d_Mo_packed_132 (by decide) (fun c132 => False.elim (by first | exact c132 c114 | exact c114 c132)) (fun c132 => ?_)
                    refine lv_iconst (v := 1) hx hb d_Mo_packed_135 (by decide) ?_
                    refine lv_goto (tgt := 140) hx hb d_Mo_packed_136 (by decide) ?_
                    refine lv_iadd hx hb d_Mo_packed_140 ?_
                    refine lv_topi (fun x16 ex16 => ?_)
                    have h2 := nm_at ex16 h2
                    refine lv_istore (lv' := [(6, .int x16), (0, .ref (ad 48 0)), (1, .int p1), (3, .int p3), (4, .int v4), (5, .int p5), (7, .int v7), (8, .int x7)]) hx hb d_Mo_packed_141 hl (by decide) rfl (fun ls hl => ?_)
                    obtain ⟨x17, ex17⟩ : ∃ y : Int32, y = v4 + 2 := ⟨_, rfl⟩
                    have h2 := nm_at ex17 h2
                    refine lv_iinc (v := x17) (lv' := [(4, .int x17), (6, .int x16), (0, .ref (ad 48 0)), (1, .int p1), (3, .int p3), (5, .int p5), (7, .int v7), (8, .int x7)]) hx hb d_Mo_packed_143 hl (k := 4) rfl (by rw [ex17]; rfl) (by decide) rfl (fun ls hl => ?_)
                    refine lv_goto (tgt := 98) hx hb d_Mo_packed_146 (by decide) ?_
                    cases h2
                    exact ih2 σ15 x17 x16 _ _ ls hH hS (lv_sub hl [2, 3, 4, 0, 5, 1, 6, 7] rfl) hk2
          obtain ⟨k2, hq2⟩ := lpE_some hq2
          exact loop2 k2 σ6 v4 v6 _ _ ls hH hS (lv_sub hl [1, 2, 3, 4, 5, 6, 7, 0] rfl) hq2
    obtain ⟨k1, hq1⟩ := lpE_some hq1
    exact loop1 k1 σ 4 p6 0 _ _ ls hH hS (lv_sub hl [2, 3, 4, 1, 5, 6, 0] rfl) hq1
  refine lv_iconst (v := 0) hx hb d_Mo_packed_0 (by decide) ?_
  refine lv_istore (lv' := [(4, .int 0), (0, .ref (ad 48 0)), (1, .int a1), (2, .int a2), (3, .int a3)]) hx hb d_Mo_packed_1 hl (by decide) rfl (fun ls hl => ?_)
  refine lv_aload_n hx hb d_Mo_packed_3 rfl (lv_at hl 1 rfl) ?_
  refine st_get hx hb hg hown hK hH (f := 48) (i := 0) hd_48 rfl rfl u_Mo 2 (by decide) (hg _ wd_425) (v := .ref (ad 49 0)) rfl d_Mo_packed_4 ?_
  refine lv_iload_n hx hb d_Mo_packed_7 rfl (lv_at hl 2 rfl) ?_
  obtain ⟨g8, h⟩ := gd_some h
  refine st_iald hx hb hK hH (f := 49) (i := 0) hd_49 rfl g8 d_Mo_packed_8 ?_
  refine lv_topi (fun x1 ex1 => ?_)
  have h := nm_at ex1 h
  refine lv_istore (lv' := [(5, .int x1), (4, .int 0), (0, .ref (ad 48 0)), (1, .int a1), (2, .int a2), (3, .int a3)]) hx hb d_Mo_packed_9 hl (by decide) rfl (fun ls hl => ?_)
  refine lv_iload_n hx hb d_Mo_packed_11 rfl (lv_at hl 4 rfl) ?_
  refine lv_if_ne (tgt := 52) hx hb d_Mo_packed_12 (by decide) (fun c12 => ?_) (fun c12 => ?_)
  · have h := ie h c12
    refine lv_iload_n hx hb d_Mo_packed_52 rfl (lv_at hl 4 rfl) ?_
    refine lv_iconst (v := 1) hx hb d_Mo_packed_53 (by decide) ?_
    refine lv_icmp_ne (tgt := 171) hx hb d_Mo_packed_54 (by decide) (fun c54 => ?_) (fun c54 => ?_)
    · have h := ie h c54
      refine lv_aload_n hx hb d_Mo_packed_171 rfl (lv_at hl 2 rfl) ?_
      refine lv_iload_n hx hb d_Mo_packed_172 rfl (lv_at hl 3 rfl) ?_
      refine lv_iload_n hx hb d_Mo_packed_173 rfl (lv_at hl 5 rfl) ?_
      obtain ⟨qc, hc174, h⟩ := b2_some h
      obtain ⟨σ2, x3⟩ := qc
      have h := b2_at h
      refine st_Vi (As := [.int a1, .int a3]) (rest := []) ⟨hx, hb, hml, hown, hg⟩ (c_Mo_runs l D aC A ad n _ a1 a3 _ hc174) (cwG hg wd_526 wd_527 wd_528 wd_529 wd_428 yd_Mo_runs ⟨Nat.le_of_ble_eq_true rfl, Nat.le_of_ble_eq_true rfl⟩) hK hH hS hZ hd_48 rfl rfl rfl hl.1 rfl (Nat.le_of_ble_eq_true rfl) d_Mo_packed_174 ⟨Nat.zero_le _, Nat.zero_le _⟩ (fun H locs hH hS => ?_)
      cases h
      rw [← hQ0]
      exact W.iret hx hb hr (fun t ht hW => ⟨⟨_, (), rfl, rfl, by dsimp only; rw [ht]; exact hH⟩, hS.F ht⟩) hS.2.2 d_Mo_packed_177
    · have h := it h c54
      refine lv_aload_n hx hb d_Mo_packed_57 rfl (lv_at hl 2 rfl) ?_
      refine lv_iload_n hx hb d_Mo_packed_58 rfl (lv_at hl 3 rfl) ?_
      refine lv_iconst (v := 0) hx hb d_Mo_packed_59 (by decide) ?_
      obtain ⟨qc, hc60, h⟩ := b2_some h
      obtain ⟨σ4, x5⟩ := qc
      have h := b2_at h
      refine st_Vi (As := [.int a1, .int 0]) (rest := []) ⟨hx, hb, hml, hown, hg⟩ (c_Mo_lengthOf l D aC A ad n _ a1 0 _ hc60) (cwG hg wd_440 wd_441 wd_442 wd_443 wd_428 yd_Mo_lengthOf ⟨Nat.le_of_ble_eq_true rfl, Nat.le_of_ble_eq_true rfl⟩) hK hH hS hZ hd_48 rfl rfl rfl hl.1 rfl (Nat.le_of_ble_eq_true rfl) d_Mo_packed_60 ⟨Nat.zero_le _, Nat.zero_le _⟩ (fun H locs hH hS => ?_)
      refine lv_istore (lv' := [(6, .int x5), (5, .int x1), (4, .int 0), (0, .ref (ad 48 0)), (1, .int a1), (2, .int a2), (3, .int a3)]) hx hb d_Mo_packed_63 hl (by decide) rfl (fun ls hl => ?_)
      refine lv_iload_n hx hb d_Mo_packed_65 rfl (lv_at hl 6 rfl) ?_
      refine lv_if_eq (tgt := 76) hx hb d_Mo_packed_66 (by decide) (fun c66 => ?_) (fun c66 => ?_)
      · have h := it h c66
        exact J76 σ4 a1 a3 x1 x5 _ _ ls hH hS (lv_sub hl [3, 4, 6, 1, 0] rfl) h
      · have h := ie h c66
        refine lv_aload_n hx hb d_Mo_packed_69 rfl (lv_at hl 3 rfl) ?_
        refine lv_iload hx hb d_Mo_packed_70 (lv_at hl 0 rfl) ?_
        refine lv_iconst (v := 4) hx hb d_Mo_packed_72 (by decide) ?_
        obtain ⟨qc, hc73, h⟩ := b1_some h
        obtain ⟨σ30, rfl⟩ : ∃ z, z = qc := ⟨_, rfl⟩
        have h := b1_at h
        refine st_Vv (As := [.int x5, .int 4]) (rest := []) ⟨hx, hb, hml, hown, hg⟩ (c_Mo_putBits l D aC A ad n _ x5 4 _ hc73) (cwG hg wd_497 wd_498 wd_499 wd_500 wd_428 yd_Mo_putBits ⟨Nat.le_of_ble_eq_true rfl, Nat.le_of_ble_eq_true rfl⟩) hK hH hS hZ hd_48 rfl rfl rfl hl.1 rfl (Nat.le_of_ble_eq_true rfl) d_Mo_packed_73 ⟨Nat.zero_le _, Nat.zero_le _⟩ (fun H locs hH hS => ?_)
        exact J76 σ30 a1 a3 x1 x5 _ _ ls hH hS (lv_sub hl [3, 4, 6, 1, 0] rfl) h
  · have h := it h c12
    refine lv_iconst (v := 0) hx hb d_Mo_packed_15 (by decide) ?_
    refine lv_istore (lv' := [(6, .int 0), (5, .int x1), (4, .int 0), (0, .ref (ad 48 0)), (1, .int a1), (2, .int a2), (3, .int a3)]) hx hb d_Mo_packed_16 hl (by decide) rfl (fun ls hl => ?_)
    obtain ⟨q1, hq1, h⟩ := b2_some h
    have K1 : ∀ (σ35 : St) (x36 : Int32) (H : Heap) (locs : List Loc) (ls : Array Slot), q1 = (σ35, x36) → Hold D aC A ad n σ35 H → va_S A s.heap H locs → lv_has ls 9 [(0, .ref (ad 48 0)), (1, .int a1), (3, .int a3), (5, .int x1), (6, .int x36)] → W p l e (headSpec w_Mo_packed rm_Mo_packed).room s m args below meth c H locs 0 0 Q0 (F0 m 47 ls []) := by
      intro σ35 x36 H locs ls eq1 hH hS hl
      subst eq1
      have h := b2_at h
      refine lv_iconst (v := 4) hx hb d_Mo_packed_47 (by decide) ?_
      refine lv_iload hx hb d_Mo_packed_48 (lv_at hl 3 rfl) ?_
      refine lv_imul hx hb d_Mo_packed_50 ?_
      cases h
      rw [← hQ0]
      exact W.iret hx hb hr (fun t ht hW => ⟨⟨_, (), rfl, rfl, by dsimp only; rw [ht]; exact hH⟩, hS.F ht⟩) hS.2.2 d_Mo_packed_51
    have loop1 : ∀ (k : Nat) (σ : St) (v6 : Int32) (H : Heap) (locs : List Loc) (ls : Array Slot), Hold D aC A ad n σ H → va_S A s.heap H locs → lv_has ls 9 [(0, .ref (ad 48 0)), (1, .int a1), (3, .int a3), (5, .int x1), (6, .int v6)] → lp (fun q => lb_Mo_packed_18 a1 a3 x1 q.1 q.2) k (σ, v6) = some q1 → W p l e (headSpec w_Mo_packed rm_Mo_packed).room s m args below meth c H locs 0 0 Q0 (F0 m 18 ls []) := by
      intro k
      induction k with
      | zero => intro σ v6 H locs ls hH hS hl hlp; exact absurd hlp (lp_zero _ _ _)
      | succ k ih1 =>
        intro σ v6 H locs ls hH hS hl hlp
        obtain ⟨z1, h1, hk1⟩ := lp_succ hlp
        have h1 : lb_Mo_packed_18 a1 a3 x1 σ v6 = some z1 := h1
        unfold lb_Mo_packed_18 at h1
        refine lv_iload hx hb d_Mo_packed_18 (lv_at hl 4 rfl) ?_
        refine lv_iload hx hb d_Mo_packed_20 (lv_at hl 3 rfl) ?_
        refine lv_icmp_ge (tgt := 47) hx hb d_Mo_packed_22 (by decide) (fun c22 => ?_) (fun c22 => ?_)
        · have h1 := it h1 c22
          cases h1
          exact K1 σ v6 _ _ ls (Option.some.inj hk1).symm hH hS (lv_sub hl [0, 1, 2, 3, 4] rfl)
        · have h1 := ie h1 c22
          refine lv_iload_n hx hb d_Mo_packed_25 rfl (lv_at hl 2 rfl) ?_
          refine lv_if_eq (tgt := 47) hx hb d_Mo_packed_26 (by decide) (fun c26 => ?_) (fun c26 => ?_)
          · have h1 := it h1 c26
            cases h1
            exact K1 σ v6 _ _ ls (Option.some.inj hk1).symm hH hS (lv_sub hl [0, 1, 2, 3, 4] rfl)
          · have h1 := ie h1 c26
            refine lv_aload_n hx hb d_Mo_packed_29 rfl (lv_at hl 0 rfl) ?_
            refine lv_aload_n hx hb d_Mo_packed_30 rfl (lv_at hl 0 rfl) ?_
            refine lv_iload_n hx hb d_Mo_packed_31 rfl (lv_at hl 1 rfl) ?_
            refine lv_iload hx hb d_Mo_packed_32 (lv_at hl 4 rfl) ?_
            obtain ⟨qc, hc34, h1⟩ := b2_some h1
            obtain ⟨σ31, x32⟩ := qc
            have h1 := b2_at h1
            refine st_Vi (As := [.int a1, .int v6]) (rest := [.ref (ad 48 0)]) ⟨hx, hb, hml, hown, hg⟩ (c_Mo_lengthOf l D aC A ad n _ a1 v6 _ hc34) (cwG hg wd_440 wd_441 wd_442 wd_443 wd_428 yd_Mo_lengthOf ⟨Nat.le_of_ble_eq_true rfl, Nat.le_of_ble_eq_true rfl⟩) hK hH hS hZ hd_48 rfl rfl rfl hl.1 rfl (Nat.le_of_ble_eq_true rfl) d_Mo_packed_34 ⟨Nat.zero_le _, Nat.zero_le _⟩ (fun H locs hH hS => ?_)
            refine lv_iconst (v := 4) hx hb d_Mo_packed_37 (by decide) ?_
            obtain ⟨qc, hc38, h1⟩ := b1_some h1
            obtain ⟨σ33, rfl⟩ : ∃ z, z = qc := ⟨_, rfl⟩
            have h1 := b1_at h1
            refine st_Vv (As := [.int x32, .int 4]) (rest := []) ⟨hx, hb, hml, hown, hg⟩ (c_Mo_putBits l D aC A ad n _ x32 4 _ hc38) (cwG hg wd_497 wd_498 wd_499 wd_500 wd_428 yd_Mo_putBits ⟨Nat.le_of_ble_eq_true rfl, Nat.le_of_ble_eq_true rfl⟩) hK hH hS hZ hd_48 rfl rfl rfl hl.1 rfl (Nat.le_of_ble_eq_true rfl) d_Mo_packed_38 ⟨Nat.zero_le _, Nat.zero_le _⟩ (fun H locs hH hS => ?_)
            obtain ⟨x34, ex34⟩ : ∃ y : Int32, y = v6 + 1 := ⟨_, rfl⟩
            have h1 := nm_at ex34 h1
            refine lv_iinc (v := x34) (lv' := [(6, .int x34), (0, .ref (ad 48 0)), (1, .int a1), (3, .int a3), (5, .int x1)]) hx hb d_Mo_packed_41 hl (k := 4) rfl (by rw [ex34]; rfl) (by decide) rfl (fun ls hl => ?_)
            refine lv_goto (tgt := 18) hx hb d_Mo_packed_44 (by decide) ?_
            cases h1
            exact ih1 σ33 x34 _ _ ls hH hS (lv_sub hl [1, 2, 3, 4, 0] rfl) hk1
    obtain ⟨k1, hq1⟩ := lpE_some hq1
    exact loop1 k1 σ 0 _ _ ls hH hS (lv_sub hl [3, 4, 6, 1, 0] rfl) hq1
set_option maxHeartbeats 4000000 in
set_option maxRecDepth 100000 in
theorem c_Mo_pack (l : Launch) (D : va_G) (aC : Nat → ClassId) (A : Nat → Prop) (ad : Nat → Nat → Nat) (n : Nat) (σ : St) (a1 : Int32) (a2 : Int32) (o : St × Int32) (h : f_Mo_pack σ a1 a2 = some o) : Met l y_Mo_pack w_Mo_pack rm_Mo_pack (va_Pc [.ref (ad 48 0), .int a1, .int a2] (Pre D aC A ad n σ)) (va_Qi (fun r (_ : Unit) => r = o.2) (fun _ t => Hold D aC A ad n o.1 t.heap) A) 0 0 A := by
  refine Met.ofW (cc := prog_13_method_40_code) (maxL := 4) (ret := (some .int)) (by decide) rfl ?_
  intro p e s m args below meth c s₁ B hml hv
  obtain ⟨hargs, hH, hK, hZ⟩ := hv
  have hx := B.exec
  have hb := B.bytes
  have hr := B.returns
  have hts := atoms_spec (ws := w_Mo_pack) B.pre
  have hg : ∀ w ∈ gW, w.before args s = true := fun w h => hts w (List.mem_cons_of_mem _ h)
  have hown : s.vm.findClass "PrefixCodesModel" = some m.cls := findClass_of_methodNamed B.named
  have hlocks := B.notSynchronized
  have hS : va_S A s.heap s.heap [] := va_S.rf
  have hl := lv_entry ([.ref (ad 48 0), .int a1, .int a2]) (n := 4) (Nat.le_of_ble_eq_true rfl)
  rw [show entryFrame m args 4 = entryFrame m (([.ref (ad 48 0), .int a1, .int a2] : List Value).toArray) 4 by rw [hargs], lg_entry_eq]
  generalize (lg_sl ([.ref (ad 48 0), .int a1, .int a2]) ++ List.replicate (4 - (lg_sl ([.ref (ad 48 0), .int a1, .int a2])).length) Slot.unset).toArray = ls at hl ⊢
  have hl : lv_has ls 4 [(0, .ref (ad 48 0)), (1, .int a1), (2, .int a2)] := hl
  generalize hQ0 : MQ below (va_Qi (fun r (_ : Unit) => r = o.2) (fun _ t => Hold D aC A ad n o.1 t.heap) A) args s 0 0 A = Q0
  unfold f_Mo_pack at h
  refine lv_aload_n hx hb d_Mo_pack_0 rfl (lv_at hl 0 rfl) ?_
  refine lv_iload_n hx hb d_Mo_pack_1 rfl (lv_at hl 1 rfl) ?_
  obtain ⟨qc, hc2, h⟩ := b2_some h
  obtain ⟨σ1, x2⟩ := qc
  have h := b2_at h
  refine st_Vi (As := [.int a1]) (rest := []) ⟨hx, hb, hml, hown, hg⟩ (c_Mo_has l D aC A ad n _ a1 _ hc2) (cwG hg wd_426 wd_427 wd_429 wd_430 wd_428 yd_Mo_has ⟨Nat.le_of_ble_eq_true rfl, Nat.le_of_ble_eq_true rfl⟩) hK hH hS hZ hd_48 rfl rfl rfl hl.1 rfl (Nat.le_of_ble_eq_true rfl) d_Mo_pack_2 ⟨Nat.zero_le _, Nat.zero_le _⟩ (fun H locs hH hS => ?_)
  refine lv_if_ne (tgt := 11) hx hb d_Mo_pack_5 (by decide) (fun c5 => ?_) (fun c5 => ?_)
  · have h := ie h c5
    refine lv_iload_n hx hb d_Mo_pack_11 rfl (lv_at hl 2 rfl) ?_
    refine lv_if_lt (tgt := 20) hx hb d_Mo_pack_12 (by decide) (fun c12 => ?_) (fun c12 => ?_)
    · have h := it h c12
      refine lv_bipush (v := (-102)) hx hb d_Mo_pack_20 (by decide) ?_
      cases h
      rw [← hQ0]
      exact W.iret hx hb hr (fun t ht hW => ⟨⟨_, (), rfl, rfl, by dsimp only; rw [ht]; exact hH⟩, hS.F ht⟩) hS.2.2 d_Mo_pack_22
    · have h := ie h c12
      refine lv_iload_n hx hb d_Mo_pack_15 rfl (lv_at hl 2 rfl) ?_
      refine lv_iconst (v := 2) hx hb d_Mo_pack_16 (by decide) ?_
      refine lv_icmp_le (tgt := 23) hx hb d_Mo_pack_17 (by decide) (fun c17 => ?_) (fun c17 => ?_)
      · have h := it h c17
        refine lv_aload_n hx hb d_Mo_pack_23 rfl (lv_at hl 0 rfl) ?_
        refine lv_iload_n hx hb d_Mo_pack_24 rfl (lv_at hl 1 rfl) ?_
        refine lv_iload_n hx hb d_Mo_pack_25 rfl (lv_at hl 2 rfl) ?_
        refine lv_iconst (v := 0) hx hb d_Mo_pack_26 (by decide) ?_
        obtain ⟨qc, hc27, h⟩ := b2_some h
        obtain ⟨σ3, x4⟩ := qc
        have h := b2_at h
        refine st_Vi (As := [.int a1, .int a2, .int 0]) (rest := []) ⟨hx, hb, hml, hown, hg⟩ (c_Mo_packed l D aC A ad n _ a1 a2 0 _ hc27) (cwG hg wd_530 wd_531 wd_532 wd_533 wd_428 yd_Mo_packed ⟨Nat.le_of_ble_eq_true rfl, Nat.le_of_ble_eq_true rfl⟩) hK hH hS hZ hd_48 rfl rfl rfl hl.1 rfl (Nat.le_of_ble_eq_true rfl) d_Mo_pack_27 ⟨Nat.zero_le _, Nat.zero_le _⟩ (fun H locs hH hS => ?_)
        refine lv_istore_n (lv' := [(3, .int x4), (0, .ref (ad 48 0)), (1, .int a1), (2, .int a2)]) hx hb d_Mo_pack_30 rfl hl (by decide) rfl (fun ls hl => ?_)
        refine lv_aload_n hx hb d_Mo_pack_31 rfl (lv_at hl 1 rfl) ?_
        refine lv_iload_n hx hb d_Mo_pack_32 rfl (lv_at hl 0 rfl) ?_
        obtain ⟨qc, hc33, h⟩ := b2_some h
        obtain ⟨σ5, x6⟩ := qc
        have h := b2_at h
        refine st_Vi (As := [.int x4]) (rest := []) ⟨hx, hb, hml, hown, hg⟩ (c_Mo_hasRoom l D aC A ad n _ x4 _ hc33) (cwG hg wd_493 wd_494 wd_495 wd_496 wd_428 yd_Mo_hasRoom ⟨Nat.le_of_ble_eq_true rfl, Nat.le_of_ble_eq_true rfl⟩) hK hH hS hZ hd_48 rfl rfl rfl hl.1 rfl (Nat.le_of_ble_eq_true rfl) d_Mo_pack_33 ⟨Nat.zero_le _, Nat.zero_le _⟩ (fun H locs hH hS => ?_)
        refine lv_if_ne (tgt := 42) hx hb d_Mo_pack_36 (by decide) (fun c36 => ?_) (fun c36 => ?_)
        · have h := ie h c36
          refine lv_aload_n hx hb d_Mo_pack_42 rfl (lv_at hl 1 rfl) ?_
          refine lv_iload_n hx hb d_Mo_pack_43 rfl (lv_at hl 2 rfl) ?_
          refine lv_iload_n hx hb d_Mo_pack_44 rfl (lv_at hl 3 rfl) ?_
          refine lv_iconst (v := 1) hx hb d_Mo_pack_45 (by decide) ?_
          obtain ⟨qc, hc46, h⟩ := b2_some h
          obtain ⟨σ7, x8⟩ := qc
          have h := b2_at h
          refine st_Vi (As := [.int a1, .int a2, .int 1]) (rest := []) ⟨hx, hb, hml, hown, hg⟩ (c_Mo_packed l D aC A ad n _ a1 a2 1 _ hc46) (cwG hg wd_530 wd_531 wd_532 wd_533 wd_428 yd_Mo_packed ⟨Nat.le_of_ble_eq_true rfl, Nat.le_of_ble_eq_true rfl⟩) hK hH hS hZ hd_48 rfl rfl rfl hl.1 rfl (Nat.le_of_ble_eq_true rfl) d_Mo_pack_46 ⟨Nat.zero_le _, Nat.zero_le _⟩ (fun H locs hH hS => ?_)
          refine lv_pop hx hb d_Mo_pack_49 rfl ?_
          refine lv_iload_n hx hb d_Mo_pack_50 rfl (lv_at hl 0 rfl) ?_
          cases h
          rw [← hQ0]
          exact W.iret hx hb hr (fun t ht hW => ⟨⟨_, (), rfl, rfl, by dsimp only; rw [ht]; exact hH⟩, hS.F ht⟩) hS.2.2 d_Mo_pack_51
        · have h := it h c36
          refine lv_bipush (v := (-106)) hx hb d_Mo_pack_39 (by decide) ?_
          cases h
          rw [← hQ0]
          exact W.iret hx hb hr (fun t ht hW => ⟨⟨_, (), rfl, rfl, by dsimp only; rw [ht]; exact hH⟩, hS.F ht⟩) hS.2.2 d_Mo_pack_41
      · have h := ie h c17
        refine lv_bipush (v := (-102)) hx hb d_Mo_pack_20 (by decide) ?_
        cases h
        rw [← hQ0]
        exact W.iret hx hb hr (fun t ht hW => ⟨⟨_, (), rfl, rfl, by dsimp only; rw [ht]; exact hH⟩, hS.F ht⟩) hS.2.2 d_Mo_pack_22
  · have h := it h c5
    refine lv_bipush (v := (-101)) hx hb d_Mo_pack_8 (by decide) ?_
    cases h
    rw [← hQ0]
    exact W.iret hx hb hr (fun t ht hW => ⟨⟨_, (), rfl, rfl, by dsimp only; rw [ht]; exact hH⟩, hS.F ht⟩) hS.2.2 d_Mo_pack_10
set_option maxHeartbeats 4000000 in
set_option maxRecDepth 100000 in
theorem c_Mo_plain (l : Launch) (D : va_G) (aC : Nat → ClassId) (A : Nat → Prop) (ad : Nat → Nat → Nat) (n : Nat) (σ : St) (a1 : Int32) (o : St × Int32) (h : f_Mo_plain σ a1 = some o) : Met l y_Mo_plain w_Mo_plain rm_Mo_plain (va_Pc [.ref (ad 48 0), .int a1] (Pre D aC A ad n σ)) (va_Qi (fun r (_ : Unit) => r = o.2) (fun _ t => Hold D aC A ad n o.1 t.heap) A) 0 0 A := by
  refine Met.ofW (cc := prog_13_method_42_code) (maxL := 4) (ret := (some .int)) (by decide) rfl ?_
  intro p e s m args below meth c s₁ B hml hv
  obtain ⟨hargs, hH, hK, hZ⟩ := hv
  have hx := B.exec
  have hb := B.bytes
  have hr := B.returns
  have hts := atoms_spec (ws := w_Mo_plain) B.pre
  have hg : ∀ w ∈ gW, w.before args s = true := fun w h => hts w (List.mem_cons_of_mem _ h)
  have hown : s.vm.findClass "PrefixCodesModel" = some m.cls := findClass_of_methodNamed B.named
  have hlocks := B.notSynchronized
  have hS : va_S A s.heap s.heap [] := va_S.rf
  have hl := lv_entry ([.ref (ad 48 0), .int a1]) (n := 4) (Nat.le_of_ble_eq_true rfl)
  rw [show entryFrame m args 4 = entryFrame m (([.ref (ad 48 0), .int a1] : List Value).toArray) 4 by rw [hargs], lg_entry_eq]
  generalize (lg_sl ([.ref (ad 48 0), .int a1]) ++ List.replicate (4 - (lg_sl ([.ref (ad 48 0), .int a1])).length) Slot.unset).toArray = ls at hl ⊢
  have hl : lv_has ls 4 [(0, .ref (ad 48 0)), (1, .int a1)] := hl
  generalize hQ0 : MQ below (va_Qi (fun r (_ : Unit) => r = o.2) (fun _ t => Hold D aC A ad n o.1 t.heap) A) args s 0 0 A = Q0
  unfold f_Mo_plain at h
  refine lv_iconst (v := 0) hx hb d_Mo_plain_0 (by decide) ?_
  refine lv_istore_n (lv' := [(2, .int 0), (0, .ref (ad 48 0)), (1, .int a1)]) hx hb d_Mo_plain_1 rfl hl (by decide) rfl (fun ls hl => ?_)
  obtain ⟨q1, hq1, h⟩ := bs2_some h
  have K1 : ∀ (σ5 : St) (x6 : Int32) (H : Heap) (locs : List Loc) (ls : Array Slot), q1 = .inl (σ5, x6) → Hold D aC A ad n σ5 H → va_S A s.heap H locs → lv_has ls 4 [(0, .ref (ad 48 0)), (1, .int a1), (2, .int x6)] → W p l e (headSpec w_Mo_plain rm_Mo_plain).room s m args below meth c H locs 0 0 Q0 (F0 m 32 ls []) := by
    intro σ5 x6 H locs ls eq1 hH hS hl
    subst eq1
    have h := bs2_at h
    refine lv_iconst (v := 0) hx hb d_Mo_plain_32 (by decide) ?_
    cases h
    rw [← hQ0]
    exact W.iret hx hb hr (fun t ht hW => ⟨⟨_, (), rfl, rfl, by dsimp only; rw [ht]; exact hH⟩, hS.F ht⟩) hS.2.2 d_Mo_plain_33
  have loop1 : ∀ (k : Nat) (σ : St) (v2 : Int32) (H : Heap) (locs : List Loc) (ls : Array Slot), Hold D aC A ad n σ H → va_S A s.heap H locs → lv_has ls 4 [(0, .ref (ad 48 0)), (1, .int a1), (2, .int v2)] → lp (fun q => lb_Mo_plain_2 a1 q.1 q.2) k (σ, v2) = some q1 → W p l e (headSpec w_Mo_plain rm_Mo_plain).room s m args below meth c H locs 0 0 Q0 (F0 m 2 ls []) := by
    intro k
    induction k with
    | zero => intro σ v2 H locs ls hH hS hl hlp; exact absurd hlp (lp_zero _ _ _)
    | succ k ih1 =>
      intro σ v2 H locs ls hH hS hl hlp
      obtain ⟨z1, h1, hk1⟩ := lp_succ hlp
      have h1 : lb_Mo_plain_2 a1 σ v2 = some z1 := h1
      unfold lb_Mo_plain_2 at h1
      refine lv_iload_n hx hb d_Mo_plain_2 rfl (lv_at hl 2 rfl) ?_
      refine lv_iload_n hx hb d_Mo_plain_3 rfl (lv_at hl 1 rfl) ?_
      refine lv_icmp_ge (tgt := 32) hx hb d_Mo_plain_4 (by decide) (fun c4 => ?_) (fun c4 => ?_)
      · have h1 := it h1 c4
        cases h1
        exact K1 σ v2 _ _ ls (Option.some.inj hk1).symm hH hS (lv_sub hl [0, 1, 2] rfl)
      · have h1 := ie h1 c4
        refine lv_aload_n hx hb d_Mo_plain_7 rfl (lv_at hl 0 rfl) ?_
        refine lv_iconst (v := 4) hx hb d_Mo_plain_8 (by decide) ?_
        obtain ⟨qc, hc9, h1⟩ := b2_some h1
        obtain ⟨σ1, x2⟩ := qc
        have h1 := b2_at h1
        refine st_Vi (As := [.int 4]) (rest := []) ⟨hx, hb, hml, hown, hg⟩ (c_Mo_takeNumber l D aC A ad n _ 4 _ hc9) (cwG hg wd_535 wd_536 wd_537 wd_538 wd_428 yd_Mo_takeNumber ⟨Nat.le_of_ble_eq_true rfl, Nat.le_of_ble_eq_true rfl⟩) hK hH hS hZ hd_48 rfl rfl rfl hl.1 rfl (Nat.le_of_ble_eq_true rfl) d_Mo_plain_9 ⟨Nat.zero_le _, Nat.zero_le _⟩ (fun H locs hH hS => ?_)
        refine lv_istore_n (lv' := [(3, .int x2), (0, .ref (ad 48 0)), (1, .int a1), (2, .int v2)]) hx hb d_Mo_plain_12 rfl hl (by decide) rfl (fun ls hl => ?_)
        refine lv_iload_n hx hb d_Mo_plain_13 rfl (lv_at hl 0 rfl) ?_
        refine lv_if_ge (tgt := 19) hx hb d_Mo_plain_14 (by decide) (fun c14 => ?_) (fun c14 => ?_)
        · have h1 := it h1 c14
          refine lv_aload_n hx hb d_Mo_plain_19 rfl (lv_at hl 1 rfl) ?_
          refine st_get hx hb hg hown hK hH (f := 48) (i := 0) hd_48 rfl rfl u_Mo 16 (by decide) (hg _ wd_534) (v := .ref (ad 60 0)) rfl d_Mo_plain_20 ?_
          refine lv_iload_n hx hb d_Mo_plain_23 rfl (lv_at hl 3 rfl) ?_
          refine lv_iload_n hx hb d_Mo_plain_24 rfl (lv_at hl 0 rfl) ?_
          obtain ⟨g25, h1⟩ := gd_some h1
          refine st_iast hx hb hK hH hS (f := 60) (i := 0) hd_60 rfl g25 d_Mo_plain_25 (fun σ3 H locs eσ3 hH hS => ?_)
          have h1 := nm_at eσ3 h1
          obtain ⟨x4, ex4⟩ : ∃ y : Int32, y = v2 + 1 := ⟨_, rfl⟩
          have h1 := nm_at ex4 h1
          refine lv_iinc (v := x4) (lv' := [(2, .int x4), (3, .int x2), (0, .ref (ad 48 0)), (1, .int a1)]) hx hb d_Mo_plain_26 hl (k := 3) rfl (by rw [ex4]; rfl) (by decide) rfl (fun ls hl => ?_)
          refine lv_goto (tgt := 2) hx hb d_Mo_plain_29 (by decide) ?_
          cases h1
          exact ih1 σ3 x4 _ _ ls hH hS (lv_sub hl [2, 3, 0] rfl) hk1
        · have h1 := ie h1 c14
          refine lv_iload_n hx hb d_Mo_plain_17 rfl (lv_at hl 0 rfl) ?_
          cases h1
          have hk1 := Option.some.inj hk1
          subst hk1
          have h := bs2_r h
          cases h
          rw [← hQ0]
          exact W.iret hx hb hr (fun t ht hW => ⟨⟨_, (), rfl, rfl, by dsimp only; rw [ht]; exact hH⟩, hS.F ht⟩) hS.2.2 d_Mo_plain_18
  obtain ⟨k1, hq1⟩ := lpE_some hq1
  exact loop1 k1 σ 0 _ _ ls hH hS (lv_sub hl [1, 2, 0] rfl) hq1
set_option maxHeartbeats 4000000 in
set_option maxRecDepth 100000 in
theorem c_Mo_steps (l : Launch) (D : va_G) (aC : Nat → ClassId) (A : Nat → Prop) (ad : Nat → Nat → Nat) (n : Nat) (σ : St) (a1 : Int32) (o : St × Int32) (h : f_Mo_steps σ a1 = some o) : Met l y_Mo_steps w_Mo_steps rm_Mo_steps (va_Pc [.ref (ad 48 0), .int a1] (Pre D aC A ad n σ)) (va_Qi (fun r (_ : Unit) => r = o.2) (fun _ t => Hold D aC A ad n o.1 t.heap) A) 0 0 A := by
  refine Met.ofW (cc := prog_13_method_43_code) (maxL := 6) (ret := (some .int)) (by decide) rfl ?_
  intro p e s m args below meth c s₁ B hml hv
  obtain ⟨hargs, hH, hK, hZ⟩ := hv
  have hx := B.exec
  have hb := B.bytes
  have hr := B.returns
  have hts := atoms_spec (ws := w_Mo_steps) B.pre
  have hg : ∀ w ∈ gW, w.before args s = true := fun w h => hts w (List.mem_cons_of_mem _ h)
  have hown : s.vm.findClass "PrefixCodesModel" = some m.cls := findClass_of_methodNamed B.named
  have hlocks := B.notSynchronized
  have hS : va_S A s.heap s.heap [] := va_S.rf
  have hl := lv_entry ([.ref (ad 48 0), .int a1]) (n := 6) (Nat.le_of_ble_eq_true rfl)
  rw [show entryFrame m args 6 = entryFrame m (([.ref (ad 48 0), .int a1] : List Value).toArray) 6 by rw [hargs], lg_entry_eq]
  generalize (lg_sl ([.ref (ad 48 0), .int a1]) ++ List.replicate (6 - (lg_sl ([.ref (ad 48 0), .int a1])).length) Slot.unset).toArray = ls at hl ⊢
  have hl : lv_has ls 6 [(0, .ref (ad 48 0)), (1, .int a1)] := hl
  generalize hQ0 : MQ below (va_Qi (fun r (_ : Unit) => r = o.2) (fun _ t => Hold D aC A ad n o.1 t.heap) A) args s 0 0 A = Q0
  unfold f_Mo_steps at h
  refine lv_aload_n hx hb d_Mo_steps_0 rfl (lv_at hl 0 rfl) ?_
  refine lv_iconst (v := 4) hx hb d_Mo_steps_1 (by decide) ?_
  obtain ⟨qc, hc2, h⟩ := b2_some h
  obtain ⟨σ1, x2⟩ := qc
  have h := b2_at h
  refine st_Vi (As := [.int 4]) (rest := []) ⟨hx, hb, hml, hown, hg⟩ (c_Mo_takeNumber l D aC A ad n _ 4 _ hc2) (cwG hg wd_535 wd_536 wd_537 wd_538 wd_428 yd_Mo_takeNumber ⟨Nat.le_of_ble_eq_true rfl, Nat.le_of_ble_eq_true rfl⟩) hK hH hS hZ hd_48 rfl rfl rfl hl.1 rfl (Nat.le_of_ble_eq_true rfl) d_Mo_steps_2 ⟨Nat.zero_le _, Nat.zero_le _⟩ (fun H locs hH hS => ?_)
  refine lv_istore_n (lv' := [(2, .int x2), (0, .ref (ad 48 0)), (1, .int a1)]) hx hb d_Mo_steps_5 rfl hl (by decide) rfl (fun ls hl => ?_)
  refine lv_iload_n hx hb d_Mo_steps_6 rfl (lv_at hl 0 rfl) ?_
  refine lv_if_ge (tgt := 12) hx hb d_Mo_steps_7 (by decide) (fun c7 => ?_) (fun c7 => ?_)
  · have h := it h c7
    refine lv_iconst (v := 0) hx hb d_Mo_steps_12 (by decide) ?_
    refine lv_istore_n (lv' := [(3, .int 0), (2, .int x2), (0, .ref (ad 48 0)), (1, .int a1)]) hx hb d_Mo_steps_13 rfl hl (by decide) rfl (fun ls hl => ?_)
    obtain ⟨q1, hq1, h⟩ := bs3_some h
    have K1 : ∀ (σ18 : St) (x19 : Int32) (x20 : Int32) (H : Heap) (locs : List Loc) (ls : Array Slot), q1 = .inl (σ18, x19, x20) → Hold D aC A ad n σ18 H → va_S A s.heap H locs → lv_has ls 6 [(0, .ref (ad 48 0)), (1, .int a1), (2, .int x19), (3, .int x20)] → W p l e (headSpec w_Mo_steps rm_Mo_steps).room s m args below meth c H locs 0 0 Q0 (F0 m 104 ls []) := by
      intro σ18 x19 x20 H locs ls eq1 hH hS hl
      subst eq1
      have h := bs3_at h
      refine lv_iconst (v := 0) hx hb d_Mo_steps_104 (by decide) ?_
      cases h
      rw [← hQ0]
      exact W.iret hx hb hr (fun t ht hW => ⟨⟨_, (), rfl, rfl, by dsimp only; rw [ht]; exact hH⟩, hS.F ht⟩) hS.2.2 d_Mo_steps_105
    have loop1 : ∀ (k : Nat) (σ : St) (v2 : Int32) (v3 : Int32) (H : Heap) (locs : List Loc) (ls : Array Slot), Hold D aC A ad n σ H → va_S A s.heap H locs → lv_has ls 6 [(0, .ref (ad 48 0)), (1, .int a1), (2, .int v2), (3, .int v3)] → lp (fun q => lb_Mo_steps_14 a1 q.1 q.2.1 q.2.2) k (σ, v2, v3) = some q1 → W p l e (headSpec w_Mo_steps rm_Mo_steps).room s m args below meth c H locs 0 0 Q0 (F0 m 14 ls []) := by
      intro k
      induction k with
      | zero => intro σ v2 v3 H locs ls hH hS hl hlp; exact absurd hlp (lp_zero _ _ _)
      | succ k ih1 =>
        intro σ v2 v3 H locs ls hH hS hl hlp
        obtain ⟨z1, h1, hk1⟩ := lp_succ hlp
        have h1 : lb_Mo_steps_14 a1 σ v2 v3 = some z1 := h1
        unfold lb_Mo_steps_14 at h1
        refine lv_iload_n hx hb d_Mo_steps_14 rfl (lv_at hl 3 rfl) ?_
        refine lv_iload_n hx hb d_Mo_steps_15 rfl (lv_at hl 1 rfl) ?_
        refine lv_icmp_ge (tgt := 104) hx hb d_Mo_steps_16 (by decide) (fun c16 => ?_) (fun c16 => ?_)
        · have h1 := it h1 c16
          cases h1
          exact K1 σ v2 v3 _ _ ls (Option.some.inj hk1).symm hH hS (lv_sub hl [0, 1, 2, 3] rfl)
        · have h1 := ie h1 c16
          refine lv_aload_n hx hb d_Mo_steps_19 rfl (lv_at hl 0 rfl) ?_
          refine lv_iconst (v := 1) hx hb d_Mo_steps_20 (by decide) ?_
          obtain ⟨qc, hc21, h1⟩ := b2_some h1
          obtain ⟨σ3, x4⟩ := qc
          have h1 := b2_at h1
          refine st_Vi (As := [.int 1]) (rest := []) ⟨hx, hb, hml, hown, hg⟩ (c_Mo_takeNumber l D aC A ad n _ 1 _ hc21) (cwG hg wd_535 wd_536 wd_537 wd_538 wd_428 yd_Mo_takeNumber ⟨Nat.le_of_ble_eq_true rfl, Nat.le_of_ble_eq_true rfl⟩) hK hH hS hZ hd_48 rfl rfl rfl hl.1 rfl (Nat.le_of_ble_eq_true rfl) d_Mo_steps_21 ⟨Nat.zero_le _, Nat.zero_le _⟩ (fun H locs hH hS => ?_)
          refine lv_istore (lv' := [(4, .int x4), (0, .ref (ad 48 0)), (1, .int a1), (2, .int v2), (3, .int v3)]) hx hb d_Mo_steps_24 hl (by decide) rfl (fun ls hl => ?_)
          obtain ⟨q2, hq2, h1⟩ := bs3_some h1
          have K2 : ∀ (σ13 : St) (x14 : Int32) (x15 : Int32) (H : Heap) (locs : List Loc) (ls : Array Slot), q2 = .inl (σ13, x14, x15) → Hold D aC A ad n σ13 H → va_S A s.heap H locs → lv_has ls 6 [(0, .ref (ad 48 0)), (1, .int a1), (2, .int x14), (3, .int v3), (4, .int x15)] → W p l e (headSpec w_Mo_steps rm_Mo_steps).room s m args below meth c H locs 0 0 Q0 (F0 m 83 ls []) := by
            intro σ13 x14 x15 H locs ls eq2 hH hS hl
            subst eq2
            have h1 := bs3_at h1
            refine lv_iload hx hb d_Mo_steps_83 (lv_at hl 4 rfl) ?_
            refine lv_if_ge (tgt := 91) hx hb d_Mo_steps_85 (by decide) (fun c85 => ?_) (fun c85 => ?_)
            · have h1 := it h1 c85
              refine lv_aload_n hx hb d_Mo_steps_91 rfl (lv_at hl 0 rfl) ?_
              refine st_get hx hb hg hown hK hH (f := 48) (i := 0) hd_48 rfl rfl u_Mo 16 (by decide) (hg _ wd_534) (v := .ref (ad 60 0)) rfl d_Mo_steps_92 ?_
              refine lv_iload_n hx hb d_Mo_steps_95 rfl (lv_at hl 3 rfl) ?_
              refine lv_iload_n hx hb d_Mo_steps_96 rfl (lv_at hl 2 rfl) ?_
              obtain ⟨g97, h1⟩ := gd_some h1
              refine st_iast hx hb hK hH hS (f := 60) (i := 0) hd_60 rfl g97 d_Mo_steps_97 (fun σ16 H locs eσ16 hH hS => ?_)
              have h1 := nm_at eσ16 h1
              obtain ⟨x17, ex17⟩ : ∃ y : Int32, y = v3 + 1 := ⟨_, rfl⟩
              have h1 := nm_at ex17 h1
              refine lv_iinc (v := x17) (lv' := [(3, .int x17), (0, .ref (ad 48 0)), (1, .int a1), (2, .int x14), (4, .int x15)]) hx hb d_Mo_steps_98 hl (k := 3) rfl (by rw [ex17]; rfl) (by decide) rfl (fun ls hl => ?_)
              refine lv_goto (tgt := 14) hx hb d_Mo_steps_101 (by decide) ?_
              cases h1
              exact ih1 σ16 x14 x17 _ _ ls hH hS (lv_sub hl [1, 2, 3, 0] rfl) hk1
            · have h1 := ie h1 c85
              refine lv_iload hx hb d_Mo_steps_88 (lv_at hl 4 rfl) ?_
              cases h1
              have hk1 := Option.some.inj hk1
              subst hk1
              have h := bs3_r h
              cases h
              rw [← hQ0]
              exact W.iret hx hb hr (fun t ht hW => ⟨⟨_, (), rfl, rfl, by dsimp only; rw [ht]; exact hH⟩, hS.F ht⟩) hS.2.2 d_Mo_steps_90
          have loop2 : ∀ (k : Nat) (σ : St) (v2 : Int32) (v4 : Int32) (H : Heap) (locs : List Loc) (ls : Array Slot), Hold D aC A ad n σ H → va_S A s.heap H locs → lv_has ls 6 [(0, .ref (ad 48 0)), (1, .int a1), (2, .int v2), (3, .int v3), (4, .int v4)] → lp (fun q => lb_Mo_steps_26 a1 v3 q.1 q.2.1 q.2.2) k (σ, v2, v4) = some q2 → W p l e (headSpec w_Mo_steps rm_Mo_steps).room s m args below meth c H locs 0 0 Q0 (F0 m 26 ls []) := by
            intro k
            induction k with
            | zero => intro σ v2 v4 H locs ls hH hS hl hlp; exact absurd hlp (lp_zero _ _ _)
            | succ k ih2 =>
              intro σ v2 v4 H locs ls hH hS hl hlp
              obtain ⟨z2, h2, hk2⟩ := lp_succ hlp
              have h2 : lb_Mo_steps_26 a1 v3 σ v2 v4 = some z2 := h2
              unfold lb_Mo_steps_26 at h2
              refine lv_iload hx hb d_Mo_steps_26 (lv_at hl 4 rfl) ?_
              refine lv_iconst (v := 1) hx hb d_Mo_steps_28 (by decide) ?_
              refine lv_icmp_ne (tgt := 83) hx hb d_Mo_steps_29 (by decide) (fun c29 => ?_) (fun c29 => ?_)
              · have h2 := ie h2 c29
                cases h2
                exact K2 σ v2 v4 _ _ ls (Option.some.inj hk2).symm hH hS (lv_sub hl [0, 1, 2, 3, 4] rfl)
              · have h2 := it h2 c29
                refine lv_aload_n hx hb d_Mo_steps_32 rfl (lv_at hl 0 rfl) ?_
                refine lv_iconst (v := 1) hx hb d_Mo_steps_33 (by decide) ?_
                obtain ⟨qc, hc34, h2⟩ := b2_some h2
                obtain ⟨σ5, x6⟩ := qc
                have h2 := b2_at h2
                refine st_Vi (As := [.int 1]) (rest := []) ⟨hx, hb, hml, hown, hg⟩ (c_Mo_takeNumber l D aC A ad n _ 1 _ hc34) (cwG hg wd_535 wd_536 wd_537 wd_538 wd_428 yd_Mo_takeNumber ⟨Nat.le_of_ble_eq_true rfl, Nat.le_of_ble_eq_true rfl⟩) hK hH hS hZ hd_48 rfl rfl rfl hl.1 rfl (Nat.le_of_ble_eq_true rfl) d_Mo_steps_34 ⟨Nat.zero_le _, Nat.zero_le _⟩ (fun H locs hH hS => ?_)
                refine lv_istore (lv' := [(5, .int x6), (0, .ref (ad 48 0)), (1, .int a1), (2, .int v2), (3, .int v3), (4, .int v4)]) hx hb d_Mo_steps_37 hl (by decide) rfl (fun ls hl => ?_)
                refine lv_iload hx hb d_Mo_steps_39 (lv_at hl 0 rfl) ?_
                refine lv_if_ge (tgt := 47) hx hb d_Mo_steps_41 (by decide) (fun c41 => ?_) (fun c41 => ?_)
                · have h2 := it h2 c41
                  refine lv_iload_n hx hb d_Mo_steps_47 rfl (lv_at hl 3 rfl) ?_
                  refine lv_iload hx hb d_Mo_steps_48 (lv_at hl 0 rfl) ?_
                  refine lv_if_ne (tgt := 57) hx hb d_Mo_steps_50 (by decide) (fun c50 => ?_) (fun c50 => ?_)
                  · have h2 := ie h2 c50
                    refine lv_iconst (v := (-1)) hx hb d_Mo_steps_57 (by decide) ?_
                    refine lv_iadd hx hb d_Mo_steps_58 ?_
                    refine lv_topi (fun x7 ex7 => ?_)
                    have h2 := nm_at ex7 h2
                    refine lv_istore_n (lv' := [(2, .int x7), (5, .int x6), (0, .ref (ad 48 0)), (1, .int a1), (3, .int v3), (4, .int v4)]) hx hb d_Mo_steps_59 rfl hl (by decide) rfl (fun ls hl => ?_)
                    refine lv_iload_n hx hb d_Mo_steps_60 rfl (lv_at hl 0 rfl) ?_
                    refine lv_if_lt (tgt := 70) hx hb d_Mo_steps_61 (by decide) (fun c61 => ?_) (fun c61 => ?_)
                    · have h2 := it h2 c61
                      refine lv_bipush (v := (-105)) hx hb d_Mo_steps_70 (by decide) ?_
                      cases h2
                      have hk2 := Option.some.inj hk2
                      subst hk2
                      have h1 := bs3_r h1
                      cases h1
                      have hk1 := Option.some.inj hk1
                      subst hk1
                      have h := bs3_r h
                      cases h
                      rw [← hQ0]
                      exact W.iret hx hb hr (fun t ht hW => ⟨⟨_, (), rfl, rfl, by dsimp only; rw [ht]; exact hH⟩, hS.F ht⟩) hS.2.2 d_Mo_steps_72
                    · have h2 := ie h2 c61
                      refine lv_iload_n hx hb d_Mo_steps_64 rfl (lv_at hl 0 rfl) ?_
                      refine lv_bipush (v := 15) hx hb d_Mo_steps_65 (by decide) ?_
                      refine lv_icmp_le (tgt := 73) hx hb d_Mo_steps_67 (by decide) (fun c67 => ?_) (fun c67 => ?_)
                      · have h2 := it h2 c67
                        refine lv_aload_n hx hb d_Mo_steps_73 rfl (lv_at hl 2 rfl) ?_
                        refine lv_iconst (v := 1) hx hb d_Mo_steps_74 (by decide) ?_
                        obtain ⟨qc, hc75, h2⟩ := b2_some h2
                        obtain ⟨σ8, x9⟩ := qc
                        have h2 := b2_at h2
                        refine st_Vi (As := [.int 1]) (rest := []) ⟨hx, hb, hml, hown, hg⟩ (c_Mo_takeNumber l D aC A ad n _ 1 _ hc75) (cwG hg wd_535 wd_536 wd_537 wd_538 wd_428 yd_Mo_takeNumber ⟨Nat.le_of_ble_eq_true rfl, Nat.le_of_ble_eq_true rfl⟩) hK hH hS hZ hd_48 rfl rfl rfl hl.1 rfl (Nat.le_of_ble_eq_true rfl) d_Mo_steps_75 ⟨Nat.zero_le _, Nat.zero_le _⟩ (fun H locs hH hS => ?_)
                        refine lv_istore (lv' := [(4, .int x9), (2, .int x7), (5, .int x6), (0, .ref (ad 48 0)), (1, .int a1), (3, .int v3)]) hx hb d_Mo_steps_78 hl (by decide) rfl (fun ls hl => ?_)
                        refine lv_goto (tgt := 26) hx hb d_Mo_steps_80 (by decide) ?_
                        cases h2
                        exact ih2 σ8 x7 x9 _ _ ls hH hS (lv_sub hl [3, 4, 1, 5, 0] rfl) hk2
                      · have h2 := ie h2 c67
                        refine lv_bipush (v := (-105)) hx hb d_Mo_steps_70 (by decide) ?_
                        cases h2
                        have hk2 := Option.some.inj hk2
                        subst hk2
                        have h1 := bs3_r h1
                        cases h1
                        have hk1 := Option.some.inj hk1
                        subst hk1
                        have h := bs3_r h
                        cases h
                        rw [← hQ0]
                        exact W.iret hx hb hr (fun t ht hW => ⟨⟨_, (), rfl, rfl, by dsimp only; rw [ht]; exact hH⟩, hS.F ht⟩) hS.2.2 d_Mo_steps_72
                  · have h2 := it h2 c50
                    refine lv_iconst (v := 1) hx hb d_Mo_steps_53 (by decide) ?_
                    refine lv_goto (tgt := 58) hx hb d_Mo_steps_54 (by decide) ?_
                    refine lv_iadd hx hb d_Mo_steps_58 ?_
                    refine lv_topi (fun x10 ex10 => ?_)
                    have h2 := nm_at ex10 h2
                    refine lv_istore_n (lv' := [(2, .int x10), (5, .int x6), (0, .ref (ad 48 0)), (1, .int a1), (3, .int v3), (4, .int v4)]) hx hb d_Mo_steps_59 rfl hl (by decide) rfl (fun ls hl => ?_)
                    refine lv_iload_n hx hb d_Mo_steps_60 rfl (lv_at hl 0 rfl) ?_
                    refine lv_if_lt (tgt := 70) hx hb d_Mo_steps_61 (by decide) (fun c61 => ?_) (fun c61 => ?_)
                    · have h2 := it h2 c61
                      refine lv_bipush (v := (-105)) hx hb d_Mo_steps_70 (by decide) ?_
                      cases h2
                      have hk2 := Option.some.inj hk2
                      subst hk2
                      have h1 := bs3_r h1
                      cases h1
                      have hk1 := Option.some.inj hk1
                      subst hk1
                      have h := bs3_r h
                      cases h
                      rw [← hQ0]
                      exact W.iret hx hb hr (fun t ht hW => ⟨⟨_, (), rfl, rfl, by dsimp only; rw [ht]; exact hH⟩, hS.F ht⟩) hS.2.2 d_Mo_steps_72
                    · have h2 := ie h2 c61
                      refine lv_iload_n hx hb d_Mo_steps_64 rfl (lv_at hl 0 rfl) ?_
                      refine lv_bipush (v := 15) hx hb d_Mo_steps_65 (by decide) ?_
                      refine lv_icmp_le (tgt := 73) hx hb d_Mo_steps_67 (by decide) (fun c67 => ?_) (fun c67 => ?_)
                      · have h2 := it h2 c67
                        refine lv_aload_n hx hb d_Mo_steps_73 rfl (lv_at hl 2 rfl) ?_
                        refine lv_iconst (v := 1) hx hb d_Mo_steps_74 (by decide) ?_
                        obtain ⟨qc, hc75, h2⟩ := b2_some h2
                        obtain ⟨σ11, x12⟩ := qc
                        have h2 := b2_at h2
                        refine st_Vi (As := [.int 1]) (rest := []) ⟨hx, hb, hml, hown, hg⟩ (c_Mo_takeNumber l D aC A ad n _ 1 _ hc75) (cwG hg wd_535 wd_536 wd_537 wd_538 wd_428 yd_Mo_takeNumber ⟨Nat.le_of_ble_eq_true rfl, Nat.le_of_ble_eq_true rfl⟩) hK hH hS hZ hd_48 rfl rfl rfl hl.1 rfl (Nat.le_of_ble_eq_true rfl) d_Mo_steps_75 ⟨Nat.zero_le _, Nat.zero_le _⟩ (fun H locs hH hS => ?_)
                        refine lv_istore (lv' := [(4, .int x12), (2, .int x10), (5, .int x6), (0, .ref (ad 48 0)), (1, .int a1), (3, .int v3)]) hx hb d_Mo_steps_78 hl (by decide) rfl (fun ls hl => ?_)
                        refine lv_goto (tgt := 26) hx hb d_Mo_steps_80 (by decide) ?_
                        cases h2
                        exact ih2 σ11 x10 x12 _ _ ls hH hS (lv_sub hl [3, 4, 1, 5, 0] rfl) hk2
                      · have h2 := ie h2 c67
                        refine lv_bipush (v := (-105)) hx hb d_Mo_steps_70 (by decide) ?_
                        cases h2
                        have hk2 := Option.some.inj hk2
                        subst hk2
                        have h1 := bs3_r h1
                        cases h1
                        have hk1 := Option.some.inj hk1
                        subst hk1
                        have h := bs3_r h
                        cases h
                        rw [← hQ0]
                        exact W.iret hx hb hr (fun t ht hW => ⟨⟨_, (), rfl, rfl, by dsimp only; rw [ht]; exact hH⟩, hS.F ht⟩) hS.2.2 d_Mo_steps_72
                · have h2 := ie h2 c41
                  refine lv_iload hx hb d_Mo_steps_44 (lv_at hl 0 rfl) ?_
                  cases h2
                  have hk2 := Option.some.inj hk2
                  subst hk2
                  have h1 := bs3_r h1
                  cases h1
                  have hk1 := Option.some.inj hk1
                  subst hk1
                  have h := bs3_r h
                  cases h
                  rw [← hQ0]
                  exact W.iret hx hb hr (fun t ht hW => ⟨⟨_, (), rfl, rfl, by dsimp only; rw [ht]; exact hH⟩, hS.F ht⟩) hS.2.2 d_Mo_steps_46
          obtain ⟨k2, hq2⟩ := lpE_some hq2
          exact loop2 k2 σ3 v2 x4 _ _ ls hH hS (lv_sub hl [1, 2, 3, 4, 0] rfl) hq2
    obtain ⟨k1, hq1⟩ := lpE_some hq1
    exact loop1 k1 σ1 x2 0 _ _ ls hH hS (lv_sub hl [2, 3, 1, 0] rfl) hq1
  · have h := ie h c7
    refine lv_iload_n hx hb d_Mo_steps_10 rfl (lv_at hl 0 rfl) ?_
    cases h
    rw [← hQ0]
    exact W.iret hx hb hr (fun t ht hW => ⟨⟨_, (), rfl, rfl, by dsimp only; rw [ht]; exact hH⟩, hS.F ht⟩) hS.2.2 d_Mo_steps_11
