theorem d_Mo_make_0 : decode prog_13_method_54_code 0 = .ok (.iconst 0, 1) := by decide +kernel
theorem d_Mo_make_1 : decode prog_13_method_54_code 1 = .ok (.istore_n 2, 1) := by decide +kernel
theorem d_Mo_make_2 : decode prog_13_method_54_code 2 = .ok (.iload_n 2, 1) := by decide +kernel
theorem d_Mo_make_3 : decode prog_13_method_54_code 3 = .ok (.aload_n 0, 1) := by decide +kernel
theorem d_Mo_make_4 : decode prog_13_method_54_code 4 = .ok (.getfield 214, 3) := by decide +kernel
theorem d_Mo_make_7 : decode prog_13_method_54_code 7 = .ok (.if_icmp .ge 133, 3) := by decide +kernel
theorem d_Mo_make_10 : decode prog_13_method_54_code 10 = .ok (.iconst 0, 1) := by decide +kernel
theorem d_Mo_make_11 : decode prog_13_method_54_code 11 = .ok (.istore_n 3, 1) := by decide +kernel
theorem d_Mo_make_12 : decode prog_13_method_54_code 12 = .ok (.iload_n 3, 1) := by decide +kernel
theorem d_Mo_make_13 : decode prog_13_method_54_code 13 = .ok (.bipush 64, 2) := by decide +kernel
theorem d_Mo_make_15 : decode prog_13_method_54_code 15 = .ok (.if_icmp .ge 16, 3) := by decide +kernel
theorem d_Mo_make_18 : decode prog_13_method_54_code 18 = .ok (.aload_n 0, 1) := by decide +kernel
theorem d_Mo_make_19 : decode prog_13_method_54_code 19 = .ok (.getfield 32, 3) := by decide +kernel
theorem d_Mo_make_22 : decode prog_13_method_54_code 22 = .ok (.iload_n 3, 1) := by decide +kernel
theorem d_Mo_make_23 : decode prog_13_method_54_code 23 = .ok (.iconst 0, 1) := by decide +kernel
theorem d_Mo_make_24 : decode prog_13_method_54_code 24 = .ok (.iastore, 1) := by decide +kernel
theorem d_Mo_make_25 : decode prog_13_method_54_code 25 = .ok (.iinc 3 1, 3) := by decide +kernel
theorem d_Mo_make_28 : decode prog_13_method_54_code 28 = .ok (.goto (-16), 3) := by decide +kernel
theorem d_Mo_make_31 : decode prog_13_method_54_code 31 = .ok (.iconst 0, 1) := by decide +kernel
theorem d_Mo_make_32 : decode prog_13_method_54_code 32 = .ok (.istore_n 3, 1) := by decide +kernel
theorem d_Mo_make_33 : decode prog_13_method_54_code 33 = .ok (.iload_n 3, 1) := by decide +kernel
theorem d_Mo_make_34 : decode prog_13_method_54_code 34 = .ok (.aload_n 0, 1) := by decide +kernel
theorem d_Mo_make_35 : decode prog_13_method_54_code 35 = .ok (.getfield 217, 3) := by decide +kernel
theorem d_Mo_make_38 : decode prog_13_method_54_code 38 = .ok (.if_icmp .ge 83, 3) := by decide +kernel
theorem d_Mo_make_41 : decode prog_13_method_54_code 41 = .ok (.aload_n 0, 1) := by decide +kernel
theorem d_Mo_make_42 : decode prog_13_method_54_code 42 = .ok (.getfield 32, 3) := by decide +kernel
theorem d_Mo_make_45 : decode prog_13_method_54_code 45 = .ok (.aload_n 0, 1) := by decide +kernel
theorem d_Mo_make_46 : decode prog_13_method_54_code 46 = .ok (.getfield 69, 3) := by decide +kernel
theorem d_Mo_make_49 : decode prog_13_method_54_code 49 = .ok (.iload_n 3, 1) := by decide +kernel
theorem d_Mo_make_50 : decode prog_13_method_54_code 50 = .ok (.iaload, 1) := by decide +kernel
theorem d_Mo_make_51 : decode prog_13_method_54_code 51 = .ok (.aload_n 0, 1) := by decide +kernel
theorem d_Mo_make_52 : decode prog_13_method_54_code 52 = .ok (.getfield 32, 3) := by decide +kernel
theorem d_Mo_make_55 : decode prog_13_method_54_code 55 = .ok (.aload_n 0, 1) := by decide +kernel
theorem d_Mo_make_56 : decode prog_13_method_54_code 56 = .ok (.getfield 69, 3) := by decide +kernel
theorem d_Mo_make_59 : decode prog_13_method_54_code 59 = .ok (.iload_n 3, 1) := by decide +kernel
theorem d_Mo_make_60 : decode prog_13_method_54_code 60 = .ok (.iaload, 1) := by decide +kernel
theorem d_Mo_make_61 : decode prog_13_method_54_code 61 = .ok (.iaload, 1) := by decide +kernel
theorem d_Mo_make_62 : decode prog_13_method_54_code 62 = .ok (.ifCond .ne 7, 3) := by decide +kernel
theorem d_Mo_make_65 : decode prog_13_method_54_code 65 = .ok (.iconst 1, 1) := by decide +kernel
theorem d_Mo_make_66 : decode prog_13_method_54_code 66 = .ok (.goto 14, 3) := by decide +kernel
theorem d_Mo_make_69 : decode prog_13_method_54_code 69 = .ok (.aload_n 0, 1) := by decide +kernel
theorem d_Mo_make_70 : decode prog_13_method_54_code 70 = .ok (.getfield 32, 3) := by decide +kernel
theorem d_Mo_make_73 : decode prog_13_method_54_code 73 = .ok (.aload_n 0, 1) := by decide +kernel
theorem d_Mo_make_74 : decode prog_13_method_54_code 74 = .ok (.getfield 69, 3) := by decide +kernel
theorem d_Mo_make_77 : decode prog_13_method_54_code 77 = .ok (.iload_n 3, 1) := by decide +kernel
theorem d_Mo_make_78 : decode prog_13_method_54_code 78 = .ok (.iaload, 1) := by decide +kernel
theorem d_Mo_make_79 : decode prog_13_method_54_code 79 = .ok (.iaload, 1) := by decide +kernel
theorem d_Mo_make_80 : decode prog_13_method_54_code 80 = .ok (.iastore, 1) := by decide +kernel
theorem d_Mo_make_81 : decode prog_13_method_54_code 81 = .ok (.aload_n 0, 1) := by decide +kernel
theorem d_Mo_make_82 : decode prog_13_method_54_code 82 = .ok (.getfield 32, 3) := by decide +kernel
theorem d_Mo_make_85 : decode prog_13_method_54_code 85 = .ok (.aload_n 0, 1) := by decide +kernel
theorem d_Mo_make_86 : decode prog_13_method_54_code 86 = .ok (.getfield 69, 3) := by decide +kernel
theorem d_Mo_make_89 : decode prog_13_method_54_code 89 = .ok (.iload_n 3, 1) := by decide +kernel
theorem d_Mo_make_90 : decode prog_13_method_54_code 90 = .ok (.iaload, 1) := by decide +kernel
theorem d_Mo_make_91 : decode prog_13_method_54_code 91 = .ok (.dup2, 1) := by decide +kernel
theorem d_Mo_make_92 : decode prog_13_method_54_code 92 = .ok (.iaload, 1) := by decide +kernel
theorem d_Mo_make_93 : decode prog_13_method_54_code 93 = .ok (.aload_n 0, 1) := by decide +kernel
theorem d_Mo_make_94 : decode prog_13_method_54_code 94 = .ok (.getfield 66, 3) := by decide +kernel
theorem d_Mo_make_97 : decode prog_13_method_54_code 97 = .ok (.iload_n 3, 1) := by decide +kernel
theorem d_Mo_make_98 : decode prog_13_method_54_code 98 = .ok (.aload_n 0, 1) := by decide +kernel
theorem d_Mo_make_99 : decode prog_13_method_54_code 99 = .ok (.getfield 220, 3) := by decide +kernel
theorem d_Mo_make_102 : decode prog_13_method_54_code 102 = .ok (.idiv, 1) := by decide +kernel
theorem d_Mo_make_103 : decode prog_13_method_54_code 103 = .ok (.iaload, 1) := by decide +kernel
theorem d_Mo_make_104 : decode prog_13_method_54_code 104 = .ok (.iload_n 2, 1) := by decide +kernel
theorem d_Mo_make_105 : decode prog_13_method_54_code 105 = .ok (.if_icmp .ne 7, 3) := by decide +kernel
theorem d_Mo_make_108 : decode prog_13_method_54_code 108 = .ok (.iconst 1, 1) := by decide +kernel
theorem d_Mo_make_109 : decode prog_13_method_54_code 109 = .ok (.goto 4, 3) := by decide +kernel
theorem d_Mo_make_112 : decode prog_13_method_54_code 112 = .ok (.iconst 0, 1) := by decide +kernel
theorem d_Mo_make_113 : decode prog_13_method_54_code 113 = .ok (.iadd, 1) := by decide +kernel
theorem d_Mo_make_114 : decode prog_13_method_54_code 114 = .ok (.iastore, 1) := by decide +kernel
theorem d_Mo_make_115 : decode prog_13_method_54_code 115 = .ok (.iinc 3 1, 3) := by decide +kernel
theorem d_Mo_make_118 : decode prog_13_method_54_code 118 = .ok (.goto (-85), 3) := by decide +kernel
theorem d_Mo_make_121 : decode prog_13_method_54_code 121 = .ok (.aload_n 0, 1) := by decide +kernel
theorem d_Mo_make_122 : decode prog_13_method_54_code 122 = .ok (.aload_n 0, 1) := by decide +kernel
theorem d_Mo_make_123 : decode prog_13_method_54_code 123 = .ok (.getfield 62, 3) := by decide +kernel
theorem d_Mo_make_126 : decode prog_13_method_54_code 126 = .ok (.iload_n 2, 1) := by decide +kernel
theorem d_Mo_make_127 : decode prog_13_method_54_code 127 = .ok (.iadd, 1) := by decide +kernel
theorem d_Mo_make_128 : decode prog_13_method_54_code 128 = .ok (.bipush 64, 2) := by decide +kernel
theorem d_Mo_make_130 : decode prog_13_method_54_code 130 = .ok (.iload_n 1, 1) := by decide +kernel
theorem d_Mo_make_131 : decode prog_13_method_54_code 131 = .ok (.invokevirtual 134, 3) := by decide +kernel
theorem d_Mo_make_134 : decode prog_13_method_54_code 134 = .ok (.iinc 2 1, 3) := by decide +kernel
theorem d_Mo_make_137 : decode prog_13_method_54_code 137 = .ok (.goto (-135), 3) := by decide +kernel
theorem d_Mo_make_140 : decode prog_13_method_54_code 140 = .ok (.return_, 1) := by decide +kernel
theorem d_Mo_best_0 : decode prog_13_method_56_code 0 = .ok (.iconst 0, 1) := by decide +kernel
theorem d_Mo_best_1 : decode prog_13_method_56_code 1 = .ok (.istore_n 2, 1) := by decide +kernel
theorem d_Mo_best_2 : decode prog_13_method_56_code 2 = .ok (.iconst 0, 1) := by decide +kernel
theorem d_Mo_best_3 : decode prog_13_method_56_code 3 = .ok (.istore_n 3, 1) := by decide +kernel
theorem d_Mo_best_4 : decode prog_13_method_56_code 4 = .ok (.iconst 0, 1) := by decide +kernel
theorem d_Mo_best_5 : decode prog_13_method_56_code 5 = .ok (.istore 4, 2) := by decide +kernel
theorem d_Mo_best_7 : decode prog_13_method_56_code 7 = .ok (.iload 4, 2) := by decide +kernel
theorem d_Mo_best_9 : decode prog_13_method_56_code 9 = .ok (.aload_n 0, 1) := by decide +kernel
theorem d_Mo_best_10 : decode prog_13_method_56_code 10 = .ok (.getfield 214, 3) := by decide +kernel
theorem d_Mo_best_13 : decode prog_13_method_56_code 13 = .ok (.if_icmp .ge 88, 3) := by decide +kernel
theorem d_Mo_best_16 : decode prog_13_method_56_code 16 = .ok (.iconst 0, 1) := by decide +kernel
theorem d_Mo_best_17 : decode prog_13_method_56_code 17 = .ok (.istore 5, 2) := by decide +kernel
theorem d_Mo_best_19 : decode prog_13_method_56_code 19 = .ok (.iload_n 1, 1) := by decide +kernel
theorem d_Mo_best_20 : decode prog_13_method_56_code 20 = .ok (.aload_n 0, 1) := by decide +kernel
theorem d_Mo_best_21 : decode prog_13_method_56_code 21 = .ok (.getfield 220, 3) := by decide +kernel
theorem d_Mo_best_24 : decode prog_13_method_56_code 24 = .ok (.imul, 1) := by decide +kernel
theorem d_Mo_best_25 : decode prog_13_method_56_code 25 = .ok (.istore 6, 2) := by decide +kernel
theorem d_Mo_best_27 : decode prog_13_method_56_code 27 = .ok (.iload 6, 2) := by decide +kernel
theorem d_Mo_best_29 : decode prog_13_method_56_code 29 = .ok (.aload_n 0, 1) := by decide +kernel
theorem d_Mo_best_30 : decode prog_13_method_56_code 30 = .ok (.getfield 217, 3) := by decide +kernel
theorem d_Mo_best_33 : decode prog_13_method_56_code 33 = .ok (.if_icmp .ge 45, 3) := by decide +kernel
theorem d_Mo_best_36 : decode prog_13_method_56_code 36 = .ok (.iload 6, 2) := by decide +kernel
theorem d_Mo_best_38 : decode prog_13_method_56_code 38 = .ok (.iload_n 1, 1) := by decide +kernel
theorem d_Mo_best_39 : decode prog_13_method_56_code 39 = .ok (.iconst 1, 1) := by decide +kernel
theorem d_Mo_best_40 : decode prog_13_method_56_code 40 = .ok (.iadd, 1) := by decide +kernel
theorem d_Mo_best_41 : decode prog_13_method_56_code 41 = .ok (.aload_n 0, 1) := by decide +kernel
theorem d_Mo_best_42 : decode prog_13_method_56_code 42 = .ok (.getfield 220, 3) := by decide +kernel
theorem d_Mo_best_45 : decode prog_13_method_56_code 45 = .ok (.imul, 1) := by decide +kernel
theorem d_Mo_best_46 : decode prog_13_method_56_code 46 = .ok (.if_icmp .ge 32, 3) := by decide +kernel
theorem d_Mo_best_49 : decode prog_13_method_56_code 49 = .ok (.iload 5, 2) := by decide +kernel
theorem d_Mo_best_51 : decode prog_13_method_56_code 51 = .ok (.aload_n 0, 1) := by decide +kernel
theorem d_Mo_best_52 : decode prog_13_method_56_code 52 = .ok (.aload_n 0, 1) := by decide +kernel
theorem d_Mo_best_53 : decode prog_13_method_56_code 53 = .ok (.getfield 62, 3) := by decide +kernel
theorem d_Mo_best_56 : decode prog_13_method_56_code 56 = .ok (.iload 4, 2) := by decide +kernel
theorem d_Mo_best_58 : decode prog_13_method_56_code 58 = .ok (.iadd, 1) := by decide +kernel
theorem d_Mo_best_59 : decode prog_13_method_56_code 59 = .ok (.aload_n 0, 1) := by decide +kernel
theorem d_Mo_best_60 : decode prog_13_method_56_code 60 = .ok (.getfield 69, 3) := by decide +kernel
theorem d_Mo_best_63 : decode prog_13_method_56_code 63 = .ok (.iload 6, 2) := by decide +kernel
theorem d_Mo_best_65 : decode prog_13_method_56_code 65 = .ok (.iaload, 1) := by decide +kernel
theorem d_Mo_best_66 : decode prog_13_method_56_code 66 = .ok (.invokevirtual 99, 3) := by decide +kernel
theorem d_Mo_best_69 : decode prog_13_method_56_code 69 = .ok (.iadd, 1) := by decide +kernel
theorem d_Mo_best_70 : decode prog_13_method_56_code 70 = .ok (.istore 5, 2) := by decide +kernel
theorem d_Mo_best_72 : decode prog_13_method_56_code 72 = .ok (.iinc 6 1, 3) := by decide +kernel
theorem d_Mo_best_75 : decode prog_13_method_56_code 75 = .ok (.goto (-48), 3) := by decide +kernel
theorem d_Mo_best_78 : decode prog_13_method_56_code 78 = .ok (.iload 4, 2) := by decide +kernel
theorem d_Mo_best_80 : decode prog_13_method_56_code 80 = .ok (.ifCond .eq 9, 3) := by decide +kernel
theorem d_Mo_best_83 : decode prog_13_method_56_code 83 = .ok (.iload 5, 2) := by decide +kernel
theorem d_Mo_best_85 : decode prog_13_method_56_code 85 = .ok (.iload_n 2, 1) := by decide +kernel
theorem d_Mo_best_86 : decode prog_13_method_56_code 86 = .ok (.if_icmp .ge 9, 3) := by decide +kernel
theorem d_Mo_best_89 : decode prog_13_method_56_code 89 = .ok (.iload 5, 2) := by decide +kernel
theorem d_Mo_best_91 : decode prog_13_method_56_code 91 = .ok (.istore_n 2, 1) := by decide +kernel
theorem d_Mo_best_92 : decode prog_13_method_56_code 92 = .ok (.iload 4, 2) := by decide +kernel
theorem d_Mo_best_94 : decode prog_13_method_56_code 94 = .ok (.istore_n 3, 1) := by decide +kernel
theorem d_Mo_best_95 : decode prog_13_method_56_code 95 = .ok (.iinc 4 1, 3) := by decide +kernel
theorem d_Mo_best_98 : decode prog_13_method_56_code 98 = .ok (.goto (-91), 3) := by decide +kernel
theorem d_Mo_best_101 : decode prog_13_method_56_code 101 = .ok (.iload_n 3, 1) := by decide +kernel
theorem d_Mo_best_102 : decode prog_13_method_56_code 102 = .ok (.ireturn, 1) := by decide +kernel
theorem d_Mo_choose_0 : decode prog_13_method_55_code 0 = .ok (.iload_n 1, 1) := by decide +kernel
theorem d_Mo_choose_1 : decode prog_13_method_55_code 1 = .ok (.iconst 1, 1) := by decide +kernel
theorem d_Mo_choose_2 : decode prog_13_method_55_code 2 = .ok (.if_icmp .lt 43, 3) := by decide +kernel
theorem d_Mo_choose_5 : decode prog_13_method_55_code 5 = .ok (.iload_n 1, 1) := by decide +kernel
theorem d_Mo_choose_6 : decode prog_13_method_55_code 6 = .ok (.bipush 6, 2) := by decide +kernel
theorem d_Mo_choose_8 : decode prog_13_method_55_code 8 = .ok (.if_icmp .gt 37, 3) := by decide +kernel
theorem d_Mo_choose_11 : decode prog_13_method_55_code 11 = .ok (.iload_n 2, 1) := by decide +kernel
theorem d_Mo_choose_12 : decode prog_13_method_55_code 12 = .ok (.iconst 1, 1) := by decide +kernel
theorem d_Mo_choose_13 : decode prog_13_method_55_code 13 = .ok (.if_icmp .lt 32, 3) := by decide +kernel
theorem d_Mo_choose_16 : decode prog_13_method_55_code 16 = .ok (.iload_n 2, 1) := by decide +kernel
theorem d_Mo_choose_17 : decode prog_13_method_55_code 17 = .ok (.bipush 100, 2) := by decide +kernel
theorem d_Mo_choose_19 : decode prog_13_method_55_code 19 = .ok (.if_icmp .gt 26, 3) := by decide +kernel
theorem d_Mo_choose_22 : decode prog_13_method_55_code 22 = .ok (.iload_n 3, 1) := by decide +kernel
theorem d_Mo_choose_23 : decode prog_13_method_55_code 23 = .ok (.iconst 1, 1) := by decide +kernel
theorem d_Mo_choose_24 : decode prog_13_method_55_code 24 = .ok (.if_icmp .lt 21, 3) := by decide +kernel
theorem d_Mo_choose_27 : decode prog_13_method_55_code 27 = .ok (.iload_n 3, 1) := by decide +kernel
theorem d_Mo_choose_28 : decode prog_13_method_55_code 28 = .ok (.bipush 15, 2) := by decide +kernel
theorem d_Mo_choose_30 : decode prog_13_method_55_code 30 = .ok (.if_icmp .gt 15, 3) := by decide +kernel
theorem d_Mo_choose_33 : decode prog_13_method_55_code 33 = .ok (.iload 4, 2) := by decide +kernel
theorem d_Mo_choose_35 : decode prog_13_method_55_code 35 = .ok (.ifCond .lt 10, 3) := by decide +kernel
theorem d_Mo_choose_38 : decode prog_13_method_55_code 38 = .ok (.iload 4, 2) := by decide +kernel
theorem d_Mo_choose_40 : decode prog_13_method_55_code 40 = .ok (.bipush 8, 2) := by decide +kernel
theorem d_Mo_choose_42 : decode prog_13_method_55_code 42 = .ok (.if_icmp .le 6, 3) := by decide +kernel
theorem d_Mo_choose_45 : decode prog_13_method_55_code 45 = .ok (.bipush (-102), 2) := by decide +kernel
theorem d_Mo_choose_47 : decode prog_13_method_55_code 47 = .ok (.ireturn, 1) := by decide +kernel
theorem d_Mo_choose_48 : decode prog_13_method_55_code 48 = .ok (.iconst 0, 1) := by decide +kernel
theorem d_Mo_choose_49 : decode prog_13_method_55_code 49 = .ok (.istore 5, 2) := by decide +kernel
theorem d_Mo_choose_51 : decode prog_13_method_55_code 51 = .ok (.iload 5, 2) := by decide +kernel
theorem d_Mo_choose_53 : decode prog_13_method_55_code 53 = .ok (.bipush 64, 2) := by decide +kernel
theorem d_Mo_choose_55 : decode prog_13_method_55_code 55 = .ok (.if_icmp .ge 17, 3) := by decide +kernel
theorem d_Mo_choose_58 : decode prog_13_method_55_code 58 = .ok (.aload_n 0, 1) := by decide +kernel
theorem d_Mo_choose_59 : decode prog_13_method_55_code 59 = .ok (.getfield 32, 3) := by decide +kernel
theorem d_Mo_choose_62 : decode prog_13_method_55_code 62 = .ok (.iload 5, 2) := by decide +kernel
theorem d_Mo_choose_64 : decode prog_13_method_55_code 64 = .ok (.iconst 0, 1) := by decide +kernel
theorem d_Mo_choose_65 : decode prog_13_method_55_code 65 = .ok (.iastore, 1) := by decide +kernel
theorem d_Mo_choose_66 : decode prog_13_method_55_code 66 = .ok (.iinc 5 1, 3) := by decide +kernel
theorem d_Mo_choose_69 : decode prog_13_method_55_code 69 = .ok (.goto (-18), 3) := by decide +kernel
theorem d_Mo_choose_72 : decode prog_13_method_55_code 72 = .ok (.iconst 0, 1) := by decide +kernel
theorem d_Mo_choose_73 : decode prog_13_method_55_code 73 = .ok (.istore 5, 2) := by decide +kernel
theorem d_Mo_choose_75 : decode prog_13_method_55_code 75 = .ok (.iload 5, 2) := by decide +kernel
theorem d_Mo_choose_77 : decode prog_13_method_55_code 77 = .ok (.aload_n 0, 1) := by decide +kernel
theorem d_Mo_choose_78 : decode prog_13_method_55_code 78 = .ok (.getfield 123, 3) := by decide +kernel
theorem d_Mo_choose_81 : decode prog_13_method_55_code 81 = .ok (.if_icmp .ge 25, 3) := by decide +kernel
theorem d_Mo_choose_84 : decode prog_13_method_55_code 84 = .ok (.aload_n 0, 1) := by decide +kernel
theorem d_Mo_choose_85 : decode prog_13_method_55_code 85 = .ok (.getfield 32, 3) := by decide +kernel
theorem d_Mo_choose_88 : decode prog_13_method_55_code 88 = .ok (.aload_n 0, 1) := by decide +kernel
theorem d_Mo_choose_89 : decode prog_13_method_55_code 89 = .ok (.getfield 59, 3) := by decide +kernel
theorem d_Mo_choose_92 : decode prog_13_method_55_code 92 = .ok (.iload 5, 2) := by decide +kernel
theorem d_Mo_choose_94 : decode prog_13_method_55_code 94 = .ok (.iaload, 1) := by decide +kernel
theorem d_Mo_choose_95 : decode prog_13_method_55_code 95 = .ok (.dup2, 1) := by decide +kernel
theorem d_Mo_choose_96 : decode prog_13_method_55_code 96 = .ok (.iaload, 1) := by decide +kernel
theorem d_Mo_choose_97 : decode prog_13_method_55_code 97 = .ok (.iconst 1, 1) := by decide +kernel
theorem d_Mo_choose_98 : decode prog_13_method_55_code 98 = .ok (.iadd, 1) := by decide +kernel
theorem d_Mo_choose_99 : decode prog_13_method_55_code 99 = .ok (.iastore, 1) := by decide +kernel
theorem d_Mo_choose_100 : decode prog_13_method_55_code 100 = .ok (.iinc 5 1, 3) := by decide +kernel
theorem d_Mo_choose_103 : decode prog_13_method_55_code 103 = .ok (.goto (-28), 3) := by decide +kernel
theorem d_Mo_choose_106 : decode prog_13_method_55_code 106 = .ok (.aload_n 0, 1) := by decide +kernel
theorem d_Mo_choose_107 : decode prog_13_method_55_code 107 = .ok (.getfield 123, 3) := by decide +kernel
theorem d_Mo_choose_110 : decode prog_13_method_55_code 110 = .ok (.ifCond .eq 18, 3) := by decide +kernel
theorem d_Mo_choose_113 : decode prog_13_method_55_code 113 = .ok (.aload_n 0, 1) := by decide +kernel
theorem d_Mo_choose_114 : decode prog_13_method_55_code 114 = .ok (.getfield 32, 3) := by decide +kernel
theorem d_Mo_choose_117 : decode prog_13_method_55_code 117 = .ok (.bipush 64, 2) := by decide +kernel
theorem d_Mo_choose_119 : decode prog_13_method_55_code 119 = .ok (.invokestatic 126, 3) := by decide +kernel
theorem d_Mo_choose_122 : decode prog_13_method_55_code 122 = .ok (.iconst 1, 1) := by decide +kernel
theorem d_Mo_choose_123 : decode prog_13_method_55_code 123 = .ok (.iload_n 3, 1) := by decide +kernel
theorem d_Mo_choose_124 : decode prog_13_method_55_code 124 = .ok (.ishl, 1) := by decide +kernel
theorem d_Mo_choose_125 : decode prog_13_method_55_code 125 = .ok (.if_icmp .le 6, 3) := by decide +kernel
theorem d_Mo_choose_128 : decode prog_13_method_55_code 128 = .ok (.bipush (-103), 2) := by decide +kernel
theorem d_Mo_choose_130 : decode prog_13_method_55_code 130 = .ok (.ireturn, 1) := by decide +kernel
theorem d_Mo_choose_131 : decode prog_13_method_55_code 131 = .ok (.aload_n 0, 1) := by decide +kernel
theorem d_Mo_choose_132 : decode prog_13_method_55_code 132 = .ok (.getfield 84, 3) := by decide +kernel
theorem d_Mo_choose_135 : decode prog_13_method_55_code 135 = .ok (.iload_n 1, 1) := by decide +kernel
theorem d_Mo_choose_136 : decode prog_13_method_55_code 136 = .ok (.iadd, 1) := by decide +kernel
theorem d_Mo_choose_137 : decode prog_13_method_55_code 137 = .ok (.bipush 12, 2) := by decide +kernel
theorem d_Mo_choose_139 : decode prog_13_method_55_code 139 = .ok (.if_icmp .le 6, 3) := by decide +kernel
theorem d_Mo_choose_142 : decode prog_13_method_55_code 142 = .ok (.bipush (-106), 2) := by decide +kernel
theorem d_Mo_choose_144 : decode prog_13_method_55_code 144 = .ok (.ireturn, 1) := by decide +kernel
theorem d_Mo_choose_145 : decode prog_13_method_55_code 145 = .ok (.aload_n 0, 1) := by decide +kernel
theorem d_Mo_choose_146 : decode prog_13_method_55_code 146 = .ok (.aload_n 0, 1) := by decide +kernel
theorem d_Mo_choose_147 : decode prog_13_method_55_code 147 = .ok (.getfield 84, 3) := by decide +kernel
theorem d_Mo_choose_150 : decode prog_13_method_55_code 150 = .ok (.putfield 62, 3) := by decide +kernel
theorem d_Mo_choose_153 : decode prog_13_method_55_code 153 = .ok (.aload_n 0, 1) := by decide +kernel
theorem d_Mo_choose_154 : decode prog_13_method_55_code 154 = .ok (.iload_n 1, 1) := by decide +kernel
theorem d_Mo_choose_155 : decode prog_13_method_55_code 155 = .ok (.putfield 214, 3) := by decide +kernel
theorem d_Mo_choose_158 : decode prog_13_method_55_code 158 = .ok (.aload_n 0, 1) := by decide +kernel
theorem d_Mo_choose_159 : decode prog_13_method_55_code 159 = .ok (.iload_n 2, 1) := by decide +kernel
theorem d_Mo_choose_160 : decode prog_13_method_55_code 160 = .ok (.putfield 220, 3) := by decide +kernel
theorem d_Mo_choose_163 : decode prog_13_method_55_code 163 = .ok (.aload_n 0, 1) := by decide +kernel
theorem d_Mo_choose_164 : decode prog_13_method_55_code 164 = .ok (.aload_n 0, 1) := by decide +kernel
theorem d_Mo_choose_165 : decode prog_13_method_55_code 165 = .ok (.getfield 123, 3) := by decide +kernel
theorem d_Mo_choose_168 : decode prog_13_method_55_code 168 = .ok (.putfield 217, 3) := by decide +kernel
theorem d_Mo_choose_171 : decode prog_13_method_55_code 171 = .ok (.iconst 0, 1) := by decide +kernel
theorem d_Mo_choose_172 : decode prog_13_method_55_code 172 = .ok (.istore 5, 2) := by decide +kernel
theorem d_Mo_choose_174 : decode prog_13_method_55_code 174 = .ok (.iload 5, 2) := by decide +kernel
theorem d_Mo_choose_176 : decode prog_13_method_55_code 176 = .ok (.aload_n 0, 1) := by decide +kernel
theorem d_Mo_choose_177 : decode prog_13_method_55_code 177 = .ok (.getfield 123, 3) := by decide +kernel
theorem d_Mo_choose_180 : decode prog_13_method_55_code 180 = .ok (.if_icmp .ge 23, 3) := by decide +kernel
theorem d_Mo_choose_183 : decode prog_13_method_55_code 183 = .ok (.aload_n 0, 1) := by decide +kernel
theorem d_Mo_choose_184 : decode prog_13_method_55_code 184 = .ok (.getfield 69, 3) := by decide +kernel
theorem d_Mo_choose_187 : decode prog_13_method_55_code 187 = .ok (.iload 5, 2) := by decide +kernel
theorem d_Mo_choose_189 : decode prog_13_method_55_code 189 = .ok (.aload_n 0, 1) := by decide +kernel
theorem d_Mo_choose_190 : decode prog_13_method_55_code 190 = .ok (.getfield 59, 3) := by decide +kernel
theorem d_Mo_choose_193 : decode prog_13_method_55_code 193 = .ok (.iload 5, 2) := by decide +kernel
theorem d_Mo_choose_195 : decode prog_13_method_55_code 195 = .ok (.iaload, 1) := by decide +kernel
theorem d_Mo_choose_196 : decode prog_13_method_55_code 196 = .ok (.iastore, 1) := by decide +kernel
theorem d_Mo_choose_197 : decode prog_13_method_55_code 197 = .ok (.iinc 5 1, 3) := by decide +kernel
theorem d_Mo_choose_200 : decode prog_13_method_55_code 200 = .ok (.goto (-26), 3) := by decide +kernel
theorem d_Mo_choose_203 : decode prog_13_method_55_code 203 = .ok (.aload_n 0, 1) := by decide +kernel
theorem d_Mo_choose_204 : decode prog_13_method_55_code 204 = .ok (.aload_n 0, 1) := by decide +kernel
theorem d_Mo_choose_205 : decode prog_13_method_55_code 205 = .ok (.getfield 123, 3) := by decide +kernel
theorem d_Mo_choose_208 : decode prog_13_method_55_code 208 = .ok (.iload_n 2, 1) := by decide +kernel
theorem d_Mo_choose_209 : decode prog_13_method_55_code 209 = .ok (.iadd, 1) := by decide +kernel
theorem d_Mo_choose_210 : decode prog_13_method_55_code 210 = .ok (.iconst 1, 1) := by decide +kernel
theorem d_Mo_choose_211 : decode prog_13_method_55_code 211 = .ok (.isub, 1) := by decide +kernel
theorem d_Mo_choose_212 : decode prog_13_method_55_code 212 = .ok (.iload_n 2, 1) := by decide +kernel
theorem d_Mo_choose_213 : decode prog_13_method_55_code 213 = .ok (.idiv, 1) := by decide +kernel
theorem d_Mo_choose_214 : decode prog_13_method_55_code 214 = .ok (.putfield 211, 3) := by decide +kernel
theorem d_Mo_choose_217 : decode prog_13_method_55_code 217 = .ok (.iconst 0, 1) := by decide +kernel
theorem d_Mo_choose_218 : decode prog_13_method_55_code 218 = .ok (.istore 5, 2) := by decide +kernel
theorem d_Mo_choose_220 : decode prog_13_method_55_code 220 = .ok (.iload 5, 2) := by decide +kernel
theorem d_Mo_choose_222 : decode prog_13_method_55_code 222 = .ok (.aload_n 0, 1) := by decide +kernel
theorem d_Mo_choose_223 : decode prog_13_method_55_code 223 = .ok (.getfield 211, 3) := by decide +kernel
theorem d_Mo_choose_226 : decode prog_13_method_55_code 226 = .ok (.if_icmp .ge 23, 3) := by decide +kernel
theorem d_Mo_choose_229 : decode prog_13_method_55_code 229 = .ok (.aload_n 0, 1) := by decide +kernel
theorem d_Mo_choose_230 : decode prog_13_method_55_code 230 = .ok (.getfield 66, 3) := by decide +kernel
theorem d_Mo_choose_233 : decode prog_13_method_55_code 233 = .ok (.iload 5, 2) := by decide +kernel
theorem d_Mo_choose_235 : decode prog_13_method_55_code 235 = .ok (.aload_n 0, 1) := by decide +kernel
theorem d_Mo_choose_236 : decode prog_13_method_55_code 236 = .ok (.iload 5, 2) := by decide +kernel
theorem d_Mo_choose_238 : decode prog_13_method_55_code 238 = .ok (.iload_n 1, 1) := by decide +kernel
theorem d_Mo_choose_239 : decode prog_13_method_55_code 239 = .ok (.invokevirtual 223, 3) := by decide +kernel
theorem d_Mo_choose_242 : decode prog_13_method_55_code 242 = .ok (.iastore, 1) := by decide +kernel
theorem d_Mo_choose_243 : decode prog_13_method_55_code 243 = .ok (.iinc 5 1, 3) := by decide +kernel
theorem d_Mo_choose_246 : decode prog_13_method_55_code 246 = .ok (.goto (-26), 3) := by decide +kernel
theorem d_Mo_choose_249 : decode prog_13_method_55_code 249 = .ok (.iconst 0, 1) := by decide +kernel
theorem d_Mo_choose_250 : decode prog_13_method_55_code 250 = .ok (.istore 5, 2) := by decide +kernel
theorem d_Mo_choose_252 : decode prog_13_method_55_code 252 = .ok (.iload 5, 2) := by decide +kernel
theorem d_Mo_choose_254 : decode prog_13_method_55_code 254 = .ok (.iload_n 1, 1) := by decide +kernel
theorem d_Mo_choose_255 : decode prog_13_method_55_code 255 = .ok (.if_icmp .ge 16, 3) := by decide +kernel
theorem d_Mo_choose_258 : decode prog_13_method_55_code 258 = .ok (.aload_n 0, 1) := by decide +kernel
theorem d_Mo_choose_259 : decode prog_13_method_55_code 259 = .ok (.bipush 64, 2) := by decide +kernel
theorem d_Mo_choose_261 : decode prog_13_method_55_code 261 = .ok (.invokevirtual 91, 3) := by decide +kernel
theorem d_Mo_choose_264 : decode prog_13_method_55_code 264 = .ok (.pop, 1) := by decide +kernel
theorem d_Mo_choose_265 : decode prog_13_method_55_code 265 = .ok (.iinc 5 1, 3) := by decide +kernel
theorem d_Mo_choose_268 : decode prog_13_method_55_code 268 = .ok (.goto (-16), 3) := by decide +kernel
theorem d_Mo_choose_271 : decode prog_13_method_55_code 271 = .ok (.iconst 0, 1) := by decide +kernel
theorem d_Mo_choose_272 : decode prog_13_method_55_code 272 = .ok (.istore 5, 2) := by decide +kernel
theorem d_Mo_choose_274 : decode prog_13_method_55_code 274 = .ok (.iload 5, 2) := by decide +kernel
theorem d_Mo_choose_276 : decode prog_13_method_55_code 276 = .ok (.iload 4, 2) := by decide +kernel
theorem d_Mo_choose_278 : decode prog_13_method_55_code 278 = .ok (.if_icmp .ge 45, 3) := by decide +kernel
theorem d_Mo_choose_281 : decode prog_13_method_55_code 281 = .ok (.aload_n 0, 1) := by decide +kernel
theorem d_Mo_choose_282 : decode prog_13_method_55_code 282 = .ok (.iload_n 3, 1) := by decide +kernel
theorem d_Mo_choose_283 : decode prog_13_method_55_code 283 = .ok (.invokevirtual 226, 3) := by decide +kernel
theorem d_Mo_choose_286 : decode prog_13_method_55_code 286 = .ok (.iconst 0, 1) := by decide +kernel
theorem d_Mo_choose_287 : decode prog_13_method_55_code 287 = .ok (.istore 6, 2) := by decide +kernel
theorem d_Mo_choose_289 : decode prog_13_method_55_code 289 = .ok (.iload 6, 2) := by decide +kernel
theorem d_Mo_choose_291 : decode prog_13_method_55_code 291 = .ok (.aload_n 0, 1) := by decide +kernel
theorem d_Mo_choose_292 : decode prog_13_method_55_code 292 = .ok (.getfield 211, 3) := by decide +kernel
theorem d_Mo_choose_295 : decode prog_13_method_55_code 295 = .ok (.if_icmp .ge 22, 3) := by decide +kernel
theorem d_Mo_choose_298 : decode prog_13_method_55_code 298 = .ok (.aload_n 0, 1) := by decide +kernel
theorem d_Mo_choose_299 : decode prog_13_method_55_code 299 = .ok (.getfield 66, 3) := by decide +kernel
theorem d_Mo_choose_302 : decode prog_13_method_55_code 302 = .ok (.iload 6, 2) := by decide +kernel
theorem d_Mo_choose_304 : decode prog_13_method_55_code 304 = .ok (.aload_n 0, 1) := by decide +kernel
theorem d_Mo_choose_305 : decode prog_13_method_55_code 305 = .ok (.iload 6, 2) := by decide +kernel
theorem d_Mo_choose_307 : decode prog_13_method_55_code 307 = .ok (.invokevirtual 229, 3) := by decide +kernel
theorem d_Mo_choose_310 : decode prog_13_method_55_code 310 = .ok (.iastore, 1) := by decide +kernel
theorem d_Mo_choose_311 : decode prog_13_method_55_code 311 = .ok (.iinc 6 1, 3) := by decide +kernel
theorem d_Mo_choose_314 : decode prog_13_method_55_code 314 = .ok (.goto (-25), 3) := by decide +kernel
theorem d_Mo_choose_317 : decode prog_13_method_55_code 317 = .ok (.iinc 5 1, 3) := by decide +kernel
theorem d_Mo_choose_320 : decode prog_13_method_55_code 320 = .ok (.goto (-46), 3) := by decide +kernel
theorem d_Mo_choose_323 : decode prog_13_method_55_code 323 = .ok (.aload_n 0, 1) := by decide +kernel
theorem d_Mo_choose_324 : decode prog_13_method_55_code 324 = .ok (.iload_n 3, 1) := by decide +kernel
theorem d_Mo_choose_325 : decode prog_13_method_55_code 325 = .ok (.invokevirtual 226, 3) := by decide +kernel
theorem d_Mo_choose_328 : decode prog_13_method_55_code 328 = .ok (.aload_n 0, 1) := by decide +kernel
theorem d_Mo_choose_329 : decode prog_13_method_55_code 329 = .ok (.getfield 62, 3) := by decide +kernel
theorem d_Mo_choose_332 : decode prog_13_method_55_code 332 = .ok (.ireturn, 1) := by decide +kernel
theorem d_Mo_group_0 : decode prog_13_method_57_code 0 = .ok (.aload_n 0, 1) := by decide +kernel
theorem d_Mo_group_1 : decode prog_13_method_57_code 1 = .ok (.getfield 62, 3) := by decide +kernel
theorem d_Mo_group_4 : decode prog_13_method_57_code 4 = .ok (.iconst (-1), 1) := by decide +kernel
theorem d_Mo_group_5 : decode prog_13_method_57_code 5 = .ok (.if_icmp .ne 8, 3) := by decide +kernel
theorem d_Mo_group_8 : decode prog_13_method_57_code 8 = .ok (.bipush (-103), 2) := by decide +kernel
theorem d_Mo_group_10 : decode prog_13_method_57_code 10 = .ok (.goto 26, 3) := by decide +kernel
theorem d_Mo_group_13 : decode prog_13_method_57_code 13 = .ok (.iload_n 1, 1) := by decide +kernel
theorem d_Mo_group_14 : decode prog_13_method_57_code 14 = .ok (.ifCond .lt 11, 3) := by decide +kernel
theorem d_Mo_group_17 : decode prog_13_method_57_code 17 = .ok (.iload_n 1, 1) := by decide +kernel
theorem d_Mo_group_18 : decode prog_13_method_57_code 18 = .ok (.aload_n 0, 1) := by decide +kernel
theorem d_Mo_group_19 : decode prog_13_method_57_code 19 = .ok (.getfield 211, 3) := by decide +kernel
theorem d_Mo_group_22 : decode prog_13_method_57_code 22 = .ok (.if_icmp .lt 8, 3) := by decide +kernel
theorem d_Mo_group_25 : decode prog_13_method_57_code 25 = .ok (.bipush (-102), 2) := by decide +kernel
theorem d_Mo_group_27 : decode prog_13_method_57_code 27 = .ok (.goto 9, 3) := by decide +kernel
theorem d_Mo_group_30 : decode prog_13_method_57_code 30 = .ok (.aload_n 0, 1) := by decide +kernel
theorem d_Mo_group_31 : decode prog_13_method_57_code 31 = .ok (.getfield 66, 3) := by decide +kernel
theorem d_Mo_group_34 : decode prog_13_method_57_code 34 = .ok (.iload_n 1, 1) := by decide +kernel
theorem d_Mo_group_35 : decode prog_13_method_57_code 35 = .ok (.iaload, 1) := by decide +kernel
theorem d_Mo_group_36 : decode prog_13_method_57_code 36 = .ok (.ireturn, 1) := by decide +kernel
noncomputable def lb_Mo_make_12 (a1 : Int32) (v2 : Int32) (σ : St) (v3 : Int32) : Option ((St × Int32) ⊕ ((St × Int32))) :=
  if 64 ≤ v3 then
    some (.inr (σ, v3))
  else
  gd (ib v3 64) <|
  nm (sI σ 56 0 (v3.toNatClampNeg) 0) fun σ1 =>
  nm (v3 + 1) fun x2 =>
  some (.inl (σ1, x2))
noncomputable def jn_Mo_make_80 (a1 : Int32) (v2 : Int32) (σ : St) (p3 : Int32) (k1 : Int32) (k2 : Int32) : Option ((St × Int32) ⊕ ((St × Int32))) :=
  gd (ib k1 64) <|
  nm (sI σ 56 0 (k1.toNatClampNeg) k2) fun σ5 =>
  gd (ib p3 1000) <|
  gd (ib (σ5.1 66 0 p3.toNatClampNeg) 64) <|
  gd (¬ (σ5.1 48 0 25) = 0) <|
  gd (ib (p3 / (σ5.1 48 0 25)) 1000) <|
  if (σ5.1 65 0 (p3 / (σ5.1 48 0 25)).toNatClampNeg) = v2 then
    gd (ib (σ5.1 66 0 p3.toNatClampNeg) 64) <|
    nm (sI σ5 56 0 ((σ5.1 66 0 p3.toNatClampNeg).toNatClampNeg) ((σ5.1 56 0 (σ5.1 66 0 p3.toNatClampNeg).toNatClampNeg) + 1)) fun σ8 =>
    nm (p3 + 1) fun x9 =>
    some (.inl (σ8, x9))
  else
  gd (ib (σ5.1 66 0 p3.toNatClampNeg) 64) <|
  nm (sI σ5 56 0 ((σ5.1 66 0 p3.toNatClampNeg).toNatClampNeg) ((σ5.1 56 0 (σ5.1 66 0 p3.toNatClampNeg).toNatClampNeg) + 0)) fun σ6 =>
  nm (p3 + 1) fun x7 =>
  some (.inl (σ6, x7))
noncomputable def lb_Mo_make_33 (a1 : Int32) (v2 : Int32) (σ : St) (v3 : Int32) : Option ((St × Int32) ⊕ ((St × Int32))) :=
  if (σ.1 48 0 29) ≤ v3 then
    some (.inr (σ, v3))
  else
  gd (ib v3 1000) <|
  gd (ib v3 1000) <|
  gd (ib (σ.1 66 0 v3.toNatClampNeg) 64) <|
  if (σ.1 56 0 (σ.1 66 0 v3.toNatClampNeg).toNatClampNeg) = 0 then
    jn_Mo_make_80 a1 v2 σ v3 (σ.1 66 0 v3.toNatClampNeg) 1
  else
  gd (ib v3 1000) <|
  gd (ib (σ.1 66 0 v3.toNatClampNeg) 64) <|
  jn_Mo_make_80 a1 v2 σ v3 (σ.1 66 0 v3.toNatClampNeg) (σ.1 56 0 (σ.1 66 0 v3.toNatClampNeg).toNatClampNeg)
noncomputable def lb_Mo_make_2 (a1 : Int32) (σ : St) (v2 : Int32) : Option ((St × Int32) ⊕ ((St × Int32))) :=
  if (σ.1 48 0 24) ≤ v2 then
    some (.inr (σ, v2))
  else
  b2 (lpE (fun q => lb_Mo_make_12 a1 v2 q.1 q.2) (σ, 0)) fun σ3 x4 =>
  b2 (lpE (fun q => lb_Mo_make_33 a1 v2 q.1 q.2) (σ3, 0)) fun σ10 x11 =>
  b1 (f_Mo_packages σ10 ((σ10.1 48 0 23) + v2) 64 a1) fun σ12 =>
  nm (v2 + 1) fun x13 =>
  some (.inl (σ12, x13))
noncomputable def f_Mo_make (σ : St) (a1 : Int32) : Option (St) :=
  b2 (lpE (fun q => lb_Mo_make_2 a1 q.1 q.2) (σ, 0)) fun σ14 x15 =>
  some σ14
noncomputable def lb_Mo_best_27 (a1 : Int32) (v2 : Int32) (v3 : Int32) (v4 : Int32) (σ : St) (v5 : Int32) (v6 : Int32) : Option ((St × Int32 × Int32) ⊕ ((St × Int32 × Int32))) :=
  if (σ.1 48 0 29) ≤ v6 then
    some (.inr (σ, v5, v6))
  else
  if ((a1 + 1) * (σ.1 48 0 25)) ≤ v6 then
    some (.inr (σ, v5, v6))
  else
  gd (ib v6 1000) <|
  b2 (f_Mo_lengthOf σ ((σ.1 48 0 23) + v4) (σ.1 66 0 v6.toNatClampNeg)) fun σ2 x3 =>
  nm (v5 + x3) fun x4 =>
  nm (v6 + 1) fun x5 =>
  some (.inl (σ2, x4, x5))
noncomputable def lb_Mo_best_7 (a1 : Int32) (σ : St) (v2 : Int32) (v3 : Int32) (v4 : Int32) : Option ((St × Int32 × Int32 × Int32) ⊕ ((St × Int32 × Int32 × Int32))) :=
  if (σ.1 48 0 24) ≤ v4 then
    some (.inr (σ, v2, v3, v4))
  else
  nm (a1 * (σ.1 48 0 25)) fun x1 =>
  b3 (lpE (fun q => lb_Mo_best_27 a1 v2 v3 v4 q.1 q.2.1 q.2.2) (σ, 0, x1)) fun σ6 x7 x8 =>
  if v4 = 0 then
    nm (v4 + 1) fun x9 =>
    some (.inl (σ6, x7, v4, x9))
  else
  if v2 ≤ x7 then
    nm (v4 + 1) fun x10 =>
    some (.inl (σ6, v2, v3, x10))
  else
  nm (v4 + 1) fun x11 =>
  some (.inl (σ6, x7, v4, x11))
noncomputable def f_Mo_best (σ : St) (a1 : Int32) : Option (St × Int32) :=
  b4 (lpE (fun q => lb_Mo_best_7 a1 q.1 q.2.1 q.2.2.1 q.2.2.2) (σ, 0, 0, 0)) fun σ12 x13 x14 x15 =>
  some (σ12, x14)
noncomputable def lb_Mo_choose_51 (a1 : Int32) (a2 : Int32) (a3 : Int32) (a4 : Int32) (σ : St) (v5 : Int32) : Option ((St × Int32) ⊕ ((St × Int32))) :=
  if 64 ≤ v5 then
    some (.inr (σ, v5))
  else
  gd (ib v5 64) <|
  nm (sI σ 56 0 (v5.toNatClampNeg) 0) fun σ1 =>
  nm (v5 + 1) fun x2 =>
  some (.inl (σ1, x2))
noncomputable def lb_Mo_choose_75 (a1 : Int32) (a2 : Int32) (a3 : Int32) (a4 : Int32) (σ : St) (v5 : Int32) : Option ((St × Int32) ⊕ ((St × Int32))) :=
  if (σ.1 48 0 22) ≤ v5 then
    some (.inr (σ, v5))
  else
  gd (ib v5 1000) <|
  gd (ib (σ.1 64 0 v5.toNatClampNeg) 64) <|
  gd (ib (σ.1 64 0 v5.toNatClampNeg) 64) <|
  nm (sI σ 56 0 ((σ.1 64 0 v5.toNatClampNeg).toNatClampNeg) ((σ.1 56 0 (σ.1 64 0 v5.toNatClampNeg).toNatClampNeg) + 1)) fun σ5 =>
  nm (v5 + 1) fun x6 =>
  some (.inl (σ5, x6))
noncomputable def lb_Mo_choose_174 (a1 : Int32) (a2 : Int32) (a3 : Int32) (a4 : Int32) (σ : St) (v5 : Int32) : Option ((St × Int32) ⊕ ((St × Int32))) :=
  if (σ.1 48 0 22) ≤ v5 then
    some (.inr (σ, v5))
  else
  gd (ib v5 1000) <|
  gd (ib v5 1000) <|
  nm (sI σ 66 0 (v5.toNatClampNeg) (σ.1 64 0 v5.toNatClampNeg)) fun σ15 =>
  nm (v5 + 1) fun x16 =>
  some (.inl (σ15, x16))
noncomputable def lb_Mo_choose_220 (a1 : Int32) (a3 : Int32) (a4 : Int32) (σ : St) (v5 : Int32) : Option ((St × Int32) ⊕ ((St × Int32))) :=
  if (σ.1 48 0 26) ≤ v5 then
    some (.inr (σ, v5))
  else
  b2 (f_Mo_groupOf σ v5 a1) fun σ20 x21 =>
  gd (ib v5 1000) <|
  nm (sI σ20 65 0 (v5.toNatClampNeg) x21) fun σ22 =>
  nm (v5 + 1) fun x23 =>
  some (.inl (σ22, x23))
noncomputable def lb_Mo_choose_252 (a1 : Int32) (a3 : Int32) (a4 : Int32) (σ : St) (v5 : Int32) : Option ((St × Int32) ⊕ ((St × Int32))) :=
  if a1 ≤ v5 then
    some (.inr (σ, v5))
  else
  b2 (f_Mo_made σ 64) fun σ26 x27 =>
  nm (v5 + 1) fun x28 =>
  some (.inl (σ26, x28))
noncomputable def lb_Mo_choose_289 (a3 : Int32) (a4 : Int32) (v5 : Int32) (σ : St) (v6 : Int32) : Option ((St × Int32) ⊕ ((St × Int32))) :=
  if (σ.1 48 0 26) ≤ v6 then
    some (.inr (σ, v6))
  else
  b2 (f_Mo_best σ v6) fun σ32 x33 =>
  gd (ib v6 1000) <|
  nm (sI σ32 65 0 (v6.toNatClampNeg) x33) fun σ34 =>
  nm (v6 + 1) fun x35 =>
  some (.inl (σ34, x35))
noncomputable def lb_Mo_choose_274 (a3 : Int32) (a4 : Int32) (σ : St) (v5 : Int32) : Option ((St × Int32) ⊕ ((St × Int32))) :=
  if a4 ≤ v5 then
    some (.inr (σ, v5))
  else
  b1 (f_Mo_make σ a3) fun σ31 =>
  b2 (lpE (fun q => lb_Mo_choose_289 a3 a4 v5 q.1 q.2) (σ31, 0)) fun σ36 x37 =>
  nm (v5 + 1) fun x38 =>
  some (.inl (σ36, x38))
noncomputable def f_Mo_choose (σ : St) (a1 : Int32) (a2 : Int32) (a3 : Int32) (a4 : Int32) : Option (St × Int32) :=
  if a1 < 1 then
    some (σ, (-102))
  else
  if 6 < a1 then
    some (σ, (-102))
  else
  if a2 < 1 then
    some (σ, (-102))
  else
  if 100 < a2 then
    some (σ, (-102))
  else
  if a3 < 1 then
    some (σ, (-102))
  else
  if 15 < a3 then
    some (σ, (-102))
  else
  if a4 < 0 then
    some (σ, (-102))
  else
  if a4 ≤ 8 then
    b2 (lpE (fun q => lb_Mo_choose_51 a1 a2 a3 a4 q.1 q.2) (σ, 0)) fun σ3 x4 =>
    b2 (lpE (fun q => lb_Mo_choose_75 a1 a2 a3 a4 q.1 q.2) (σ3, 0)) fun σ7 x8 =>
    if (σ7.1 48 0 22) = 0 then
      some (σ7, (-103))
    else
    b2 (f_Mo_different σ7 56 0 64 64) fun σ9 x10 =>
    if x10 ≤ (1 <<< (a3 &&& 31)) then
      if ((σ9.1 48 0 1) + a1) ≤ 12 then
        nm (sI σ9 48 0 23 (σ9.1 48 0 1)) fun σ11 =>
        nm (sI σ11 48 0 24 a1) fun σ12 =>
        nm (sI σ12 48 0 25 a2) fun σ13 =>
        nm (sI σ13 48 0 29 (σ13.1 48 0 22)) fun σ14 =>
        b2 (lpE (fun q => lb_Mo_choose_174 a1 a2 a3 a4 q.1 q.2) (σ14, 0)) fun σ17 x18 =>
        gd (¬ a2 = 0) <|
        nm (sI σ17 48 0 26 ((((σ17.1 48 0 22) + a2) - 1) / a2)) fun σ19 =>
        b2 (lpE (fun q => lb_Mo_choose_220 a1 a3 a4 q.1 q.2) (σ19, 0)) fun σ24 x25 =>
        b2 (lpE (fun q => lb_Mo_choose_252 a1 a3 a4 q.1 q.2) (σ24, 0)) fun σ29 x30 =>
        b2 (lpE (fun q => lb_Mo_choose_274 a3 a4 q.1 q.2) (σ29, 0)) fun σ39 x40 =>
        b1 (f_Mo_make σ39 a3) fun σ41 =>
        some (σ41, σ41.1 48 0 23)
      else
      some (σ9, (-106))
    else
    some (σ9, (-103))
  else
  some (σ, (-102))
noncomputable def f_Mo_group (σ : St) (a1 : Int32) : Option (St × Int32) :=
  if (σ.1 48 0 23) = (-1) then
    some (σ, (-103))
  else
  if a1 < 0 then
    some (σ, (-102))
  else
  if a1 < (σ.1 48 0 26) then
    gd (ib a1 1000) <|
    some (σ, σ.1 65 0 a1.toNatClampNeg)
  else
  some (σ, (-102))
set_option maxHeartbeats 4000000 in
set_option maxRecDepth 100000 in
theorem c_Mo_make (l : Launch) (D : va_G) (aC : Nat → ClassId) (A : Nat → Prop) (ad : Nat → Nat → Nat) (n : Nat) (σ : St) (a1 : Int32) (o : St) (h : f_Mo_make σ a1 = some o) : Met l y_Mo_make w_Mo_make rm_Mo_make (va_Pc [.ref (ad 48 0), .int a1] (Pre D aC A ad n σ)) (va_Qv (fun (_ : Unit) => True) (fun _ t => Hold D aC A ad n o t.heap) A) 0 0 A := by
  refine Met.ofW (cc := prog_13_method_54_code) (maxL := 4) (ret := none) (by decide) rfl ?_
  intro p e s m args below meth c s₁ B hml hv
  obtain ⟨hargs, hH, hK, hZ⟩ := hv
  have hx := B.exec
  have hb := B.bytes
  have hr := B.returns
  have hts := atoms_spec (ws := w_Mo_make) B.pre
  have hg : ∀ w ∈ gW, w.before args s = true := fun w h => hts w (List.mem_cons_of_mem _ h)
  have hown : s.vm.findClass "PrefixCodesModel" = some m.cls := findClass_of_methodNamed B.named
  have hlocks := B.notSynchronized
  have hS : va_S A s.heap s.heap [] := va_S.rf
  have hl := lv_entry ([.ref (ad 48 0), .int a1]) (n := 4) (Nat.le_of_ble_eq_true rfl)
  rw [show entryFrame m args 4 = entryFrame m (([.ref (ad 48 0), .int a1] : List Value).toArray) 4 by rw [hargs], lg_entry_eq]
  generalize (lg_sl ([.ref (ad 48 0), .int a1]) ++ List.replicate (4 - (lg_sl ([.ref (ad 48 0), .int a1])).length) Slot.unset).toArray = ls at hl ⊢
  have hl : lv_has ls 4 [(0, .ref (ad 48 0)), (1, .int a1)] := hl
  generalize hQ0 : MQ below (va_Qv (fun (_ : Unit) => True) (fun _ t => Hold D aC A ad n o t.heap) A) args s 0 0 A = Q0
  unfold f_Mo_make at h
  refine lv_iconst (v := 0) hx hb d_Mo_make_0 (by decide) ?_
  refine lv_istore_n (lv' := [(2, .int 0), (0, .ref (ad 48 0)), (1, .int a1)]) hx hb d_Mo_make_1 rfl hl (by decide) rfl (fun ls hl => ?_)
  obtain ⟨q1, hq1, h⟩ := b2_some h
  have K1 : ∀ (σ14 : St) (x15 : Int32) (H : Heap) (locs : List Loc) (ls : Array Slot), q1 = (σ14, x15) → Hold D aC A ad n σ14 H → va_S A s.heap H locs → lv_has ls 4 [(0, .ref (ad 48 0)), (1, .int a1), (2, .int x15)] → W p l e (headSpec w_Mo_make rm_Mo_make).room s m args below meth c H locs 0 0 Q0 (F0 m 140 ls []) := by
    intro σ14 x15 H locs ls eq1 hH hS hl
    subst eq1
    have h := b2_at h
    cases h
    rw [← hQ0]
    exact W.vret hx hb hr (fun t ht hW => ⟨⟨(), rfl, trivial, by dsimp only; rw [ht]; exact hH⟩, hS.F ht⟩) hS.2.2 d_Mo_make_140
  have loop1 : ∀ (k : Nat) (σ : St) (v2 : Int32) (H : Heap) (locs : List Loc) (ls : Array Slot), Hold D aC A ad n σ H → va_S A s.heap H locs → lv_has ls 4 [(0, .ref (ad 48 0)), (1, .int a1), (2, .int v2)] → lp (fun q => lb_Mo_make_2 a1 q.1 q.2) k (σ, v2) = some q1 → W p l e (headSpec w_Mo_make rm_Mo_make).room s m args below meth c H locs 0 0 Q0 (F0 m 2 ls []) := by
    intro k
    induction k with
    | zero => intro σ v2 H locs ls hH hS hl hlp; exact absurd hlp (lp_zero _ _ _)
    | succ k ih1 =>
      intro σ v2 H locs ls hH hS hl hlp
      obtain ⟨z1, h1, hk1⟩ := lp_succ hlp
      have h1 : lb_Mo_make_2 a1 σ v2 = some z1 := h1
      unfold lb_Mo_make_2 at h1
      refine lv_iload_n hx hb d_Mo_make_2 rfl (lv_at hl 2 rfl) ?_
      refine lv_aload_n hx hb d_Mo_make_3 rfl (lv_at hl 0 rfl) ?_
      refine st_get hx hb hg hown hK hH (f := 48) (i := 0) hd_48 rfl rfl u_Mo 24 (by decide) (hg _ wd_571) (v := .int (σ.1 48 0 24)) rfl d_Mo_make_4 ?_
      refine lv_icmp_ge (tgt := 140) hx hb d_Mo_make_7 (by decide) (fun c7 => ?_) (fun c7 => ?_)
      · have h1 := it h1 c7
        cases h1
        exact K1 σ v2 _ _ ls (Option.some.inj hk1).symm hH hS (lv_sub hl [0, 1, 2] rfl)
      · have h1 := ie h1 c7
        refine lv_iconst (v := 0) hx hb d_Mo_make_10 (by decide) ?_
        refine lv_istore_n (lv' := [(3, .int 0), (0, .ref (ad 48 0)), (1, .int a1), (2, .int v2)]) hx hb d_Mo_make_11 rfl hl (by decide) rfl (fun ls hl => ?_)
        obtain ⟨q2, hq2, h1⟩ := b2_some h1
        have K2 : ∀ (σ3 : St) (x4 : Int32) (H : Heap) (locs : List Loc) (ls : Array Slot), q2 = (σ3, x4) → Hold D aC A ad n σ3 H → va_S A s.heap H locs → lv_has ls 4 [(0, .ref (ad 48 0)), (1, .int a1), (2, .int v2), (3, .int x4)] → W p l e (headSpec w_Mo_make rm_Mo_make).room s m args below meth c H locs 0 0 Q0 (F0 m 31 ls []) := by
          intro σ3 x4 H locs ls eq2 hH hS hl
          subst eq2
          have h1 := b2_at h1
          refine lv_iconst (v := 0) hx hb d_Mo_make_31 (by decide) ?_
          refine lv_istore_n (lv' := [(3, .int 0), (0, .ref (ad 48 0)), (1, .int a1), (2, .int v2)]) hx hb d_Mo_make_32 rfl hl (by decide) rfl (fun ls hl => ?_)
          obtain ⟨q2, hq2, h1⟩ := b2_some h1
          have K2 : ∀ (σ10 : St) (x11 : Int32) (H : Heap) (locs : List Loc) (ls : Array Slot), q2 = (σ10, x11) → Hold D aC A ad n σ10 H → va_S A s.heap H locs → lv_has ls 4 [(0, .ref (ad 48 0)), (1, .int a1), (2, .int v2), (3, .int x11)] → W p l e (headSpec w_Mo_make rm_Mo_make).room s m args below meth c H locs 0 0 Q0 (F0 m 121 ls []) := by
            intro σ10 x11 H locs ls eq2 hH hS hl
            subst eq2
            have h1 := b2_at h1
            refine lv_aload_n hx hb d_Mo_make_121 rfl (lv_at hl 0 rfl) ?_
            refine lv_aload_n hx hb d_Mo_make_122 rfl (lv_at hl 0 rfl) ?_
            refine st_get hx hb hg hown hK hH (f := 48) (i := 0) hd_48 rfl rfl u_Mo 23 (by decide) (hg _ wd_576) (v := .int (σ10.1 48 0 23)) rfl d_Mo_make_123 ?_
            refine lv_iload_n hx hb d_Mo_make_126 rfl (lv_at hl 2 rfl) ?_
            refine lv_iadd hx hb d_Mo_make_127 ?_
            refine lv_bipush (v := 64) hx hb d_Mo_make_128 (by decide) ?_
            refine lv_iload_n hx hb d_Mo_make_130 rfl (lv_at hl 1 rfl) ?_
            obtain ⟨qc, hc131, h1⟩ := b1_some h1
            obtain ⟨σ12, rfl⟩ : ∃ z, z = qc := ⟨_, rfl⟩
            have h1 := b1_at h1
            refine st_Vv (As := [.int ((σ10.1 48 0 23) + v2), .int 64, .int a1]) (rest := []) ⟨hx, hb, hml, hown, hg⟩ (c_Mo_packages l D aC A ad n _ ((σ10.1 48 0 23) + v2) 64 a1 _ hc131) (cwG hg wd_484 wd_485 wd_486 wd_487 wd_428 yd_Mo_packages ⟨Nat.le_of_ble_eq_true rfl, Nat.le_of_ble_eq_true rfl⟩) hK hH hS hZ hd_48 rfl rfl rfl hl.1 rfl (Nat.le_of_ble_eq_true rfl) d_Mo_make_131 ⟨Nat.zero_le _, Nat.zero_le _⟩ (fun H locs hH hS => ?_)
            obtain ⟨x13, ex13⟩ : ∃ y : Int32, y = v2 + 1 := ⟨_, rfl⟩
            have h1 := nm_at ex13 h1
            refine lv_iinc (v := x13) (lv' := [(2, .int x13), (0, .ref (ad 48 0)), (1, .int a1), (3, .int x11)]) hx hb d_Mo_make_134 hl (k := 2) rfl (by rw [ex13]; rfl) (by decide) rfl (fun ls hl => ?_)
            refine lv_goto (tgt := 2) hx hb d_Mo_make_137 (by decide) ?_
            cases h1
            exact ih1 σ12 x13 _ _ ls hH hS (lv_sub hl [1, 2, 0] rfl) hk1
          have loop2 : ∀ (k : Nat) (σ : St) (v3 : Int32) (H : Heap) (locs : List Loc) (ls : Array Slot), Hold D aC A ad n σ H → va_S A s.heap H locs → lv_has ls 4 [(0, .ref (ad 48 0)), (1, .int a1), (2, .int v2), (3, .int v3)] → lp (fun q => lb_Mo_make_33 a1 v2 q.1 q.2) k (σ, v3) = some q2 → W p l e (headSpec w_Mo_make rm_Mo_make).room s m args below meth c H locs 0 0 Q0 (F0 m 33 ls []) := by
            intro k
            induction k with
            | zero => intro σ v3 H locs ls hH hS hl hlp; exact absurd hlp (lp_zero _ _ _)
            | succ k ih2 =>
              intro σ v3 H locs ls hH hS hl hlp
              obtain ⟨z2, h2, hk2⟩ := lp_succ hlp
              have h2 : lb_Mo_make_33 a1 v2 σ v3 = some z2 := h2
              unfold lb_Mo_make_33 at h2
              have J80 : ∀ (σ : St) (p3 : Int32) (k1 : Int32) (k2 : Int32) (H : Heap) (locs : List Loc) (ls : Array Slot), Hold D aC A ad n σ H → va_S A s.heap H locs → lv_has ls 4 [(0, .ref (ad 48 0)), (1, .int a1), (2, .int v2), (3, .int p3)] → jn_Mo_make_80 a1 v2 σ p3 k1 k2 = some z2 → W p l e (headSpec w_Mo_make rm_Mo_make).room s m args below meth c H locs 0 0 Q0 (F0 m 80 ls [.int k2, .int k1, .ref (ad 56 0)]) := by
                intro σ p3 k1 k2  H locs ls hH hS hl h2
                unfold jn_Mo_make_80 at h2
                obtain ⟨g80, h2⟩ := gd_some h2
                refine st_iast hx hb hK hH hS (f := 56) (i := 0) hd_56 rfl g80 d_Mo_make_80 (fun σ5 H locs eσ5 hH hS => ?_)
                have h2 := nm_at eσ5 h2
                refine lv_aload_n hx hb d_Mo_make_81 rfl (lv_at hl 0 rfl) ?_
                refine st_get hx hb hg hown hK hH (f := 48) (i := 0) hd_48 rfl rfl u_Mo 9 (by decide) (hg _ wd_478) (v := .ref (ad 56 0)) rfl d_Mo_make_82 ?_
                refine lv_aload_n hx hb d_Mo_make_85 rfl (lv_at hl 0 rfl) ?_
                refine st_get hx hb hg hown hK hH (f := 48) (i := 0) hd_48 rfl rfl u_Mo 28 (by decide) (hg _ wd_573) (v := .ref (ad 66 0)) rfl d_Mo_make_86 ?_
                refine lv_iload_n hx hb d_Mo_make_89 rfl (lv_at hl 3 rfl) ?_
                obtain ⟨g90, h2⟩ := gd_some h2
                refine st_iald hx hb hK hH (f := 66) (i := 0) hd_66 rfl g90 d_Mo_make_90 ?_
                refine lv_dup2_11 hx hb d_Mo_make_91 rfl rfl ?_
                obtain ⟨g92, h2⟩ := gd_some h2
                refine st_iald hx hb hK hH (f := 56) (i := 0) hd_56 rfl g92 d_Mo_make_92 ?_
                refine lv_aload_n hx hb d_Mo_make_93 rfl (lv_at hl 0 rfl) ?_
                refine st_get hx hb hg hown hK hH (f := 48) (i := 0) hd_48 rfl rfl u_Mo 27 (by decide) (hg _ wd_574) (v := .ref (ad 65 0)) rfl d_Mo_make_94 ?_
                refine lv_iload_n hx hb d_Mo_make_97 rfl (lv_at hl 3 rfl) ?_
                refine lv_aload_n hx hb d_Mo_make_98 rfl (lv_at hl 0 rfl) ?_
                refine st_get hx hb hg hown hK hH (f := 48) (i := 0) hd_48 rfl rfl u_Mo 25 (by decide) (hg _ wd_575) (v := .int (σ5.1 48 0 25)) rfl d_Mo_make_99 ?_
                obtain ⟨g102, h2⟩ := gd_some h2
                refine lv_idiv hx hb d_Mo_make_102 g102 ?_
                obtain ⟨g103, h2⟩ := gd_some h2
                refine st_iald hx hb hK hH (f := 65) (i := 0) hd_65 rfl g103 d_Mo_make_103 ?_
                refine lv_iload_n hx hb d_Mo_make_104 rfl (lv_at hl 2 rfl) ?_
                refine lv_icmp_ne (tgt := 112) hx hb d_Mo_make_105 (by decide) (fun c105 => ?_) (fun c105 => ?_)
                · have h2 := ie h2 c105
                  refine lv_iconst (v := 0) hx hb d_Mo_make_112 (by decide) ?_
                  refine lv_iadd hx hb d_Mo_make_113 ?_
                  obtain ⟨g114, h2⟩ := gd_some h2
                  refine st_iast hx hb hK hH hS (f := 56) (i := 0) hd_56 rfl g114 d_Mo_make_114 (fun σ6 H locs eσ6 hH hS => ?_)
                  have h2 := nm_at eσ6 h2
                  obtain ⟨x7, ex7⟩ : ∃ y : Int32, y = p3 + 1 := ⟨_, rfl⟩
                  have h2 := nm_at ex7 h2
                  refine lv_iinc (v := x7) (lv' := [(3, .int x7), (0, .ref (ad 48 0)), (1, .int a1), (2, .int v2)]) hx hb d_Mo_make_115 hl (k := 3) rfl (by rw [ex7]; rfl) (by decide) rfl (fun ls hl => ?_)
                  refine lv_goto (tgt := 33) hx hb d_Mo_make_118 (by decide) ?_
                  cases h2
                  exact ih2 σ6 x7 _ _ ls hH hS (lv_sub hl [1, 2, 3, 0] rfl) hk2
                · have h2 := it h2 c105
                  refine lv_iconst (v := 1) hx hb d_Mo_make_108 (by decide) ?_
                  refine lv_goto (tgt := 113) hx hb d_Mo_make_109 (by decide) ?_
                  refine lv_iadd hx hb d_Mo_make_113 ?_
                  obtain ⟨g114, h2⟩ := gd_some h2
                  refine st_iast hx hb hK hH hS (f := 56) (i := 0) hd_56 rfl g114 d_Mo_make_114 (fun σ8 H locs eσ8 hH hS => ?_)
                  have h2 := nm_at eσ8 h2
                  obtain ⟨x9, ex9⟩ : ∃ y : Int32, y = p3 + 1 := ⟨_, rfl⟩
                  have h2 := nm_at ex9 h2
                  refine lv_iinc (v := x9) (lv' := [(3, .int x9), (0, .ref (ad 48 0)), (1, .int a1), (2, .int v2)]) hx hb d_Mo_make_115 hl (k := 3) rfl (by rw [ex9]; rfl) (by decide) rfl (fun ls hl => ?_)
                  refine lv_goto (tgt := 33) hx hb d_Mo_make_118 (by decide) ?_
                  cases h2
                  exact ih2 σ8 x9 _ _ ls hH hS (lv_sub hl [1, 2, 3, 0] rfl) hk2
              refine lv_iload_n hx hb d_Mo_make_33 rfl (lv_at hl 3 rfl) ?_
              refine lv_aload_n hx hb d_Mo_make_34 rfl (lv_at hl 0 rfl) ?_
              refine st_get hx hb hg hown hK hH (f := 48) (i := 0) hd_48 rfl rfl u_Mo 29 (by decide) (hg _ wd_572) (v := .int (σ.1 48 0 29)) rfl d_Mo_make_35 ?_
              refine lv_icmp_ge (tgt := 121) hx hb d_Mo_make_38 (by decide) (fun c38 => ?_) (fun c38 => ?_)
              · have h2 := it h2 c38
                cases h2
                exact K2 σ v3 _ _ ls (Option.some.inj hk2).symm hH hS (lv_sub hl [0, 1, 2, 3] rfl)
              · have h2 := ie h2 c38
                refine lv_aload_n hx hb d_Mo_make_41 rfl (lv_at hl 0 rfl) ?_
                refine st_get hx hb hg hown hK hH (f := 48) (i := 0) hd_48 rfl rfl u_Mo 9 (by decide) (hg _ wd_478) (v := .ref (ad 56 0)) rfl d_Mo_make_42 ?_
                refine lv_aload_n hx hb d_Mo_make_45 rfl (lv_at hl 0 rfl) ?_
                refine st_get hx hb hg hown hK hH (f := 48) (i := 0) hd_48 rfl rfl u_Mo 28 (by decide) (hg _ wd_573) (v := .ref (ad 66 0)) rfl d_Mo_make_46 ?_
                refine lv_iload_n hx hb d_Mo_make_49 rfl (lv_at hl 3 rfl) ?_
                obtain ⟨g50, h2⟩ := gd_some h2
                refine st_iald hx hb hK hH (f := 66) (i := 0) hd_66 rfl g50 d_Mo_make_50 ?_
                refine lv_aload_n hx hb d_Mo_make_51 rfl (lv_at hl 0 rfl) ?_
                refine st_get hx hb hg hown hK hH (f := 48) (i := 0) hd_48 rfl rfl u_Mo 9 (by decide) (hg _ wd_478) (v := .ref (ad 56 0)) rfl d_Mo_make_52 ?_
                refine lv_aload_n hx hb d_Mo_make_55 rfl (lv_at hl 0 rfl) ?_
                refine st_get hx hb hg hown hK hH (f := 48) (i := 0) hd_48 rfl rfl u_Mo 28 (by decide) (hg _ wd_573) (v := .ref (ad 66 0)) rfl d_Mo_make_56 ?_
                refine lv_iload_n hx hb d_Mo_make_59 rfl (lv_at hl 3 rfl) ?_
                obtain ⟨g60, h2⟩ := gd_some h2
                refine st_iald hx hb hK hH (f := 66) (i := 0) hd_66 rfl g60 d_Mo_make_60 ?_
                obtain ⟨g61, h2⟩ := gd_some h2
                refine st_iald hx hb hK hH (f := 56) (i := 0) hd_56 rfl g61 d_Mo_make_61 ?_
                refine lv_if_ne (tgt := 69) hx hb d_Mo_make_62 (by decide) (fun c62 => ?_) (fun c62 => ?_)
                · have h2 := ie h2 c62
                  refine lv_aload_n hx hb d_Mo_make_69 rfl (lv_at hl 0 rfl) ?_
                  refine st_get hx hb hg hown hK hH (f := 48) (i := 0) hd_48 rfl rfl u_Mo 9 (by decide) (hg _ wd_478) (v := .ref (ad 56 0)) rfl d_Mo_make_70 ?_
                  refine lv_aload_n hx hb d_Mo_make_73 rfl (lv_at hl 0 rfl) ?_
                  refine st_get hx hb hg hown hK hH (f := 48) (i := 0) hd_48 rfl rfl u_Mo 28 (by decide) (hg _ wd_573) (v := .ref (ad 66 0)) rfl d_Mo_make_74 ?_
                  refine lv_iload_n hx hb d_Mo_make_77 rfl (lv_at hl 3 rfl) ?_
                  obtain ⟨g78, h2⟩ := gd_some h2
                  refine st_iald hx hb hK hH (f := 66) (i := 0) hd_66 rfl g78 d_Mo_make_78 ?_
                  obtain ⟨g79, h2⟩ := gd_some h2
                  refine st_iald hx hb hK hH (f := 56) (i := 0) hd_56 rfl g79 d_Mo_make_79 ?_
                  exact J80 σ v3 (σ.1 66 0 v3.toNatClampNeg) (σ.1 56 0 (σ.1 66 0 v3.toNatClampNeg).toNatClampNeg) _ _ ls hH hS (lv_sub hl [0, 1, 2, 3] rfl) h2
                · have h2 := it h2 c62
                  refine lv_iconst (v := 1) hx hb d_Mo_make_65 (by decide) ?_
                  refine lv_goto (tgt := 80) hx hb d_Mo_make_66 (by decide) ?_
                  exact J80 σ v3 (σ.1 66 0 v3.toNatClampNeg) 1 _ _ ls hH hS (lv_sub hl [0, 1, 2, 3] rfl) h2
          obtain ⟨k2, hq2⟩ := lpE_some hq2
          exact loop2 k2 σ3 0 _ _ ls hH hS (lv_sub hl [1, 2, 3, 0] rfl) hq2
        have loop2 : ∀ (k : Nat) (σ : St) (v3 : Int32) (H : Heap) (locs : List Loc) (ls : Array Slot), Hold D aC A ad n σ H → va_S A s.heap H locs → lv_has ls 4 [(0, .ref (ad 48 0)), (1, .int a1), (2, .int v2), (3, .int v3)] → lp (fun q => lb_Mo_make_12 a1 v2 q.1 q.2) k (σ, v3) = some q2 → W p l e (headSpec w_Mo_make rm_Mo_make).room s m args below meth c H locs 0 0 Q0 (F0 m 12 ls []) := by
          intro k
          induction k with
          | zero => intro σ v3 H locs ls hH hS hl hlp; exact absurd hlp (lp_zero _ _ _)
          | succ k ih2 =>
            intro σ v3 H locs ls hH hS hl hlp
            obtain ⟨z2, h2, hk2⟩ := lp_succ hlp
            have h2 : lb_Mo_make_12 a1 v2 σ v3 = some z2 := h2
            unfold lb_Mo_make_12 at h2
            refine lv_iload_n hx hb d_Mo_make_12 rfl (lv_at hl 3 rfl) ?_
            refine lv_bipush (v := 64) hx hb d_Mo_make_13 (by decide) ?_
            refine lv_icmp_ge (tgt := 31) hx hb d_Mo_make_15 (by decide) (fun c15 => ?_) (fun c15 => ?_)
            · have h2 := it h2 c15
              cases h2
              exact K2 σ v3 _ _ ls (Option.some.inj hk2).symm hH hS (lv_sub hl [0, 1, 2, 3] rfl)
            · have h2 := ie h2 c15
              refine lv_aload_n hx hb d_Mo_make_18 rfl (lv_at hl 0 rfl) ?_
              refine st_get hx hb hg hown hK hH (f := 48) (i := 0) hd_48 rfl rfl u_Mo 9 (by decide) (hg _ wd_478) (v := .ref (ad 56 0)) rfl d_Mo_make_19 ?_
              refine lv_iload_n hx hb d_Mo_make_22 rfl (lv_at hl 3 rfl) ?_
              refine lv_iconst (v := 0) hx hb d_Mo_make_23 (by decide) ?_
              obtain ⟨g24, h2⟩ := gd_some h2
              refine st_iast hx hb hK hH hS (f := 56) (i := 0) hd_56 rfl g24 d_Mo_make_24 (fun σ1 H locs eσ1 hH hS => ?_)
              have h2 := nm_at eσ1 h2
              obtain ⟨x2, ex2⟩ : ∃ y : Int32, y = v3 + 1 := ⟨_, rfl⟩
              have h2 := nm_at ex2 h2
              refine lv_iinc (v := x2) (lv' := [(3, .int x2), (0, .ref (ad 48 0)), (1, .int a1), (2, .int v2)]) hx hb d_Mo_make_25 hl (k := 3) rfl (by rw [ex2]; rfl) (by decide) rfl (fun ls hl => ?_)
              refine lv_goto (tgt := 12) hx hb d_Mo_make_28 (by decide) ?_
              cases h2
              exact ih2 σ1 x2 _ _ ls hH hS (lv_sub hl [1, 2, 3, 0] rfl) hk2
        obtain ⟨k2, hq2⟩ := lpE_some hq2
        exact loop2 k2 σ 0 _ _ ls hH hS (lv_sub hl [1, 2, 3, 0] rfl) hq2
  obtain ⟨k1, hq1⟩ := lpE_some hq1
  exact loop1 k1 σ 0 _ _ ls hH hS (lv_sub hl [1, 2, 0] rfl) hq1
set_option maxHeartbeats 4000000 in
set_option maxRecDepth 100000 in
theorem c_Mo_best (l : Launch) (D : va_G) (aC : Nat → ClassId) (A : Nat → Prop) (ad : Nat → Nat → Nat) (n : Nat) (σ : St) (a1 : Int32) (o : St × Int32) (h : f_Mo_best σ a1 = some o) : Met l y_Mo_best w_Mo_best rm_Mo_best (va_Pc [.ref (ad 48 0), .int a1] (Pre D aC A ad n σ)) (va_Qi (fun r (_ : Unit) => r = o.2) (fun _ t => Hold D aC A ad n o.1 t.heap) A) 0 0 A := by
  refine Met.ofW (cc := prog_13_method_56_code) (maxL := 7) (ret := (some .int)) (by decide) rfl ?_
  intro p e s m args below meth c s₁ B hml hv
  obtain ⟨hargs, hH, hK, hZ⟩ := hv
  have hx := B.exec
  have hb := B.bytes
  have hr := B.returns
  have hts := atoms_spec (ws := w_Mo_best) B.pre
  have hg : ∀ w ∈ gW, w.before args s = true := fun w h => hts w (List.mem_cons_of_mem _ h)
  have hown : s.vm.findClass "PrefixCodesModel" = some m.cls := findClass_of_methodNamed B.named
  have hlocks := B.notSynchronized
  have hS : va_S A s.heap s.heap [] := va_S.rf
  have hl := lv_entry ([.ref (ad 48 0), .int a1]) (n := 7) (Nat.le_of_ble_eq_true rfl)
  rw [show entryFrame m args 7 = entryFrame m (([.ref (ad 48 0), .int a1] : List Value).toArray) 7 by rw [hargs], lg_entry_eq]
  generalize (lg_sl ([.ref (ad 48 0), .int a1]) ++ List.replicate (7 - (lg_sl ([.ref (ad 48 0), .int a1])).length) Slot.unset).toArray = ls at hl ⊢
  have hl : lv_has ls 7 [(0, .ref (ad 48 0)), (1, .int a1)] := hl
  generalize hQ0 : MQ below (va_Qi (fun r (_ : Unit) => r = o.2) (fun _ t => Hold D aC A ad n o.1 t.heap) A) args s 0 0 A = Q0
  unfold f_Mo_best at h
  refine lv_iconst (v := 0) hx hb d_Mo_best_0 (by decide) ?_
  refine lv_istore_n (lv' := [(2, .int 0), (0, .ref (ad 48 0)), (1, .int a1)]) hx hb d_Mo_best_1 rfl hl (by decide) rfl (fun ls hl => ?_)
  refine lv_iconst (v := 0) hx hb d_Mo_best_2 (by decide) ?_
  refine lv_istore_n (lv' := [(3, .int 0), (2, .int 0), (0, .ref (ad 48 0)), (1, .int a1)]) hx hb d_Mo_best_3 rfl hl (by decide) rfl (fun ls hl => ?_)
  refine lv_iconst (v := 0) hx hb d_Mo_best_4 (by decide) ?_
  refine lv_istore (lv' := [(4, .int 0), (3, .int 0), (2, .int 0), (0, .ref (ad 48 0)), (1, .int a1)]) hx hb d_Mo_best_5 hl (by decide) rfl (fun ls hl => ?_)
  obtain ⟨q1, hq1, h⟩ := b4_some h
  have K1 : ∀ (σ12 : St) (x13 : Int32) (x14 : Int32) (x15 : Int32) (H : Heap) (locs : List Loc) (ls : Array Slot), q1 = (σ12, x13, x14, x15) → Hold D aC A ad n σ12 H → va_S A s.heap H locs → lv_has ls 7 [(0, .ref (ad 48 0)), (1, .int a1), (2, .int x13), (3, .int x14), (4, .int x15)] → W p l e (headSpec w_Mo_best rm_Mo_best).room s m args below meth c H locs 0 0 Q0 (F0 m 101 ls []) := by
    intro σ12 x13 x14 x15 H locs ls eq1 hH hS hl
    subst eq1
    have h := b4_at h
    refine lv_iload_n hx hb d_Mo_best_101 rfl (lv_at hl 3 rfl) ?_
    cases h
    rw [← hQ0]
    exact W.iret hx hb hr (fun t ht hW => ⟨⟨_, (), rfl, rfl, by dsimp only; rw [ht]; exact hH⟩, hS.F ht⟩) hS.2.2 d_Mo_best_102
  have loop1 : ∀ (k : Nat) (σ : St) (v2 : Int32) (v3 : Int32) (v4 : Int32) (H : Heap) (locs : List Loc) (ls : Array Slot), Hold D aC A ad n σ H → va_S A s.heap H locs → lv_has ls 7 [(0, .ref (ad 48 0)), (1, .int a1), (2, .int v2), (3, .int v3), (4, .int v4)] → lp (fun q => lb_Mo_best_7 a1 q.1 q.2.1 q.2.2.1 q.2.2.2) k (σ, v2, v3, v4) = some q1 → W p l e (headSpec w_Mo_best rm_Mo_best).room s m args below meth c H locs 0 0 Q0 (F0 m 7 ls []) := by
    intro k
    induction k with
    | zero => intro σ v2 v3 v4 H locs ls hH hS hl hlp; exact absurd hlp (lp_zero _ _ _)
    | succ k ih1 =>
      intro σ v2 v3 v4 H locs ls hH hS hl hlp
      obtain ⟨z1, h1, hk1⟩ := lp_succ hlp
      have h1 : lb_Mo_best_7 a1 σ v2 v3 v4 = some z1 := h1
      unfold lb_Mo_best_7 at h1
      refine lv_iload hx hb d_Mo_best_7 (lv_at hl 4 rfl) ?_
      refine lv_aload_n hx hb d_Mo_best_9 rfl (lv_at hl 0 rfl) ?_
      refine st_get hx hb hg hown hK hH (f := 48) (i := 0) hd_48 rfl rfl u_Mo 24 (by decide) (hg _ wd_571) (v := .int (σ.1 48 0 24)) rfl d_Mo_best_10 ?_
      refine lv_icmp_ge (tgt := 101) hx hb d_Mo_best_13 (by decide) (fun c13 => ?_) (fun c13 => ?_)
      · have h1 := it h1 c13
        cases h1
        exact K1 σ v2 v3 v4 _ _ ls (Option.some.inj hk1).symm hH hS (lv_sub hl [0, 1, 2, 3, 4] rfl)
      · have h1 := ie h1 c13
        refine lv_iconst (v := 0) hx hb d_Mo_best_16 (by decide) ?_
        refine lv_istore (lv' := [(5, .int 0), (0, .ref (ad 48 0)), (1, .int a1), (2, .int v2), (3, .int v3), (4, .int v4)]) hx hb d_Mo_best_17 hl (by decide) rfl (fun ls hl => ?_)
        refine lv_iload_n hx hb d_Mo_best_19 rfl (lv_at hl 2 rfl) ?_
        refine lv_aload_n hx hb d_Mo_best_20 rfl (lv_at hl 1 rfl) ?_
        refine st_get hx hb hg hown hK hH (f := 48) (i := 0) hd_48 rfl rfl u_Mo 25 (by decide) (hg _ wd_575) (v := .int (σ.1 48 0 25)) rfl d_Mo_best_21 ?_
        refine lv_imul hx hb d_Mo_best_24 ?_
        refine lv_topi (fun x1 ex1 => ?_)
        have h1 := nm_at ex1 h1
        refine lv_istore (lv' := [(6, .int x1), (5, .int 0), (0, .ref (ad 48 0)), (1, .int a1), (2, .int v2), (3, .int v3), (4, .int v4)]) hx hb d_Mo_best_25 hl (by decide) rfl (fun ls hl => ?_)
        obtain ⟨q2, hq2, h1⟩ := b3_some h1
        have K2 : ∀ (σ6 : St) (x7 : Int32) (x8 : Int32) (H : Heap) (locs : List Loc) (ls : Array Slot), q2 = (σ6, x7, x8) → Hold D aC A ad n σ6 H → va_S A s.heap H locs → lv_has ls 7 [(0, .ref (ad 48 0)), (1, .int a1), (2, .int v2), (3, .int v3), (4, .int v4), (5, .int x7), (6, .int x8)] → W p l e (headSpec w_Mo_best rm_Mo_best).room s m args below meth c H locs 0 0 Q0 (F0 m 78 ls []) := by
          intro σ6 x7 x8 H locs ls eq2 hH hS hl
          subst eq2
          have h1 := b3_at h1
          refine lv_iload hx hb d_Mo_best_78 (lv_at hl 4 rfl) ?_
          refine lv_if_eq (tgt := 89) hx hb d_Mo_best_80 (by decide) (fun c80 => ?_) (fun c80 => ?_)
          · have h1 := it h1 c80
            refine lv_iload hx hb d_Mo_best_89 (lv_at hl 5 rfl) ?_
            refine lv_istore_n (lv' := [(2, .int x7), (0, .ref (ad 48 0)), (1, .int a1), (3, .int v3), (4, .int v4), (5, .int x7), (6, .int x8)]) hx hb d_Mo_best_91 rfl hl (by decide) rfl (fun ls hl => ?_)
            refine lv_iload hx hb d_Mo_best_92 (lv_at hl 4 rfl) ?_
            refine lv_istore_n (lv' := [(3, .int v4), (2, .int x7), (0, .ref (ad 48 0)), (1, .int a1), (4, .int v4), (5, .int x7), (6, .int x8)]) hx hb d_Mo_best_94 rfl hl (by decide) rfl (fun ls hl => ?_)
            obtain ⟨x9, ex9⟩ : ∃ y : Int32, y = v4 + 1 := ⟨_, rfl⟩
            have h1 := nm_at ex9 h1
            refine lv_iinc (v := x9) (lv' := [(4, .int x9), (3, .int v4), (2, .int x7), (0, .ref (ad 48 0)), (1, .int a1), (5, .int x7), (6, .int x8)]) hx hb d_Mo_best_95 hl (k := 4) rfl (by rw [ex9]; rfl) (by decide) rfl (fun ls hl => ?_)
            refine lv_goto (tgt := 7) hx hb d_Mo_best_98 (by decide) ?_
            cases h1
            exact ih1 σ6 x7 v4 x9 _ _ ls hH hS (lv_sub hl [3, 4, 2, 1, 0] rfl) hk1
          · have h1 := ie h1 c80
            refine lv_iload hx hb d_Mo_best_83 (lv_at hl 5 rfl) ?_
            refine lv_iload_n hx hb d_Mo_best_85 rfl (lv_at hl 2 rfl) ?_
            refine lv_icmp_ge (tgt := 95) hx hb d_Mo_best_86 (by decide) (fun c86 => ?_) (fun c86 => ?_)
            · have h1 := it h1 c86
              obtain ⟨x10, ex10⟩ : ∃ y : Int32, y = v4 + 1 := ⟨_, rfl⟩
              have h1 := nm_at ex10 h1
              refine lv_iinc (v := x10) (lv' := [(4, .int x10), (0, .ref (ad 48 0)), (1, .int a1), (2, .int v2), (3, .int v3), (5, .int x7), (6, .int x8)]) hx hb d_Mo_best_95 hl (k := 4) rfl (by rw [ex10]; rfl) (by decide) rfl (fun ls hl => ?_)
              refine lv_goto (tgt := 7) hx hb d_Mo_best_98 (by decide) ?_
              cases h1
              exact ih1 σ6 v2 v3 x10 _ _ ls hH hS (lv_sub hl [1, 2, 3, 4, 0] rfl) hk1
            · have h1 := ie h1 c86
              refine lv_iload hx hb d_Mo_best_89 (lv_at hl 5 rfl) ?_
              refine lv_istore_n (lv' := [(2, .int x7), (0, .ref (ad 48 0)), (1, .int a1), (3, .int v3), (4, .int v4), (5, .int x7), (6, .int x8)]) hx hb d_Mo_best_91 rfl hl (by decide) rfl (fun ls hl => ?_)
              refine lv_iload hx hb d_Mo_best_92 (lv_at hl 4 rfl) ?_
              refine lv_istore_n (lv' := [(3, .int v4), (2, .int x7), (0, .ref (ad 48 0)), (1, .int a1), (4, .int v4), (5, .int x7), (6, .int x8)]) hx hb d_Mo_best_94 rfl hl (by decide) rfl (fun ls hl => ?_)
              obtain ⟨x11, ex11⟩ : ∃ y : Int32, y = v4 + 1 := ⟨_, rfl⟩
              have h1 := nm_at ex11 h1
              refine lv_iinc (v := x11) (lv' := [(4, .int x11), (3, .int v4), (2, .int x7), (0, .ref (ad 48 0)), (1, .int a1), (5, .int x7), (6, .int x8)]) hx hb d_Mo_best_95 hl (k := 4) rfl (by rw [ex11]; rfl) (by decide) rfl (fun ls hl => ?_)
              refine lv_goto (tgt := 7) hx hb d_Mo_best_98 (by decide) ?_
              cases h1
              exact ih1 σ6 x7 v4 x11 _ _ ls hH hS (lv_sub hl [3, 4, 2, 1, 0] rfl) hk1
        have loop2 : ∀ (k : Nat) (σ : St) (v5 : Int32) (v6 : Int32) (H : Heap) (locs : List Loc) (ls : Array Slot), Hold D aC A ad n σ H → va_S A s.heap H locs → lv_has ls 7 [(0, .ref (ad 48 0)), (1, .int a1), (2, .int v2), (3, .int v3), (4, .int v4), (5, .int v5), (6, .int v6)] → lp (fun q => lb_Mo_best_27 a1 v2 v3 v4 q.1 q.2.1 q.2.2) k (σ, v5, v6) = some q2 → W p l e (headSpec w_Mo_best rm_Mo_best).room s m args below meth c H locs 0 0 Q0 (F0 m 27 ls []) := by
          intro k
          induction k with
          | zero => intro σ v5 v6 H locs ls hH hS hl hlp; exact absurd hlp (lp_zero _ _ _)
          | succ k ih2 =>
            intro σ v5 v6 H locs ls hH hS hl hlp
            obtain ⟨z2, h2, hk2⟩ := lp_succ hlp
            have h2 : lb_Mo_best_27 a1 v2 v3 v4 σ v5 v6 = some z2 := h2
            unfold lb_Mo_best_27 at h2
            refine lv_iload hx hb d_Mo_best_27 (lv_at hl 6 rfl) ?_
            refine lv_aload_n hx hb d_Mo_best_29 rfl (lv_at hl 0 rfl) ?_
            refine st_get hx hb hg hown hK hH (f := 48) (i := 0) hd_48 rfl rfl u_Mo 29 (by decide) (hg _ wd_572) (v := .int (σ.1 48 0 29)) rfl d_Mo_best_30 ?_
            refine lv_icmp_ge (tgt := 78) hx hb d_Mo_best_33 (by decide) (fun c33 => ?_) (fun c33 => ?_)
            · have h2 := it h2 c33
              cases h2
              exact K2 σ v5 v6 _ _ ls (Option.some.inj hk2).symm hH hS (lv_sub hl [0, 1, 2, 3, 4, 5, 6] rfl)
            · have h2 := ie h2 c33
              refine lv_iload hx hb d_Mo_best_36 (lv_at hl 6 rfl) ?_
              refine lv_iload_n hx hb d_Mo_best_38 rfl (lv_at hl 1 rfl) ?_
              refine lv_iconst (v := 1) hx hb d_Mo_best_39 (by decide) ?_
              refine lv_iadd hx hb d_Mo_best_40 ?_
              refine lv_aload_n hx hb d_Mo_best_41 rfl (lv_at hl 0 rfl) ?_
              refine st_get hx hb hg hown hK hH (f := 48) (i := 0) hd_48 rfl rfl u_Mo 25 (by decide) (hg _ wd_575) (v := .int (σ.1 48 0 25)) rfl d_Mo_best_42 ?_
              refine lv_imul hx hb d_Mo_best_45 ?_
              refine lv_icmp_ge (tgt := 78) hx hb d_Mo_best_46 (by decide) (fun c46 => ?_) (fun c46 => ?_)
              · have h2 := it h2 c46
                cases h2
                exact K2 σ v5 v6 _ _ ls (Option.some.inj hk2).symm hH hS (lv_sub hl [0, 1, 2, 3, 4, 5, 6] rfl)
              · have h2 := ie h2 c46
                refine lv_iload hx hb d_Mo_best_49 (lv_at hl 5 rfl) ?_
                refine lv_aload_n hx hb d_Mo_best_51 rfl (lv_at hl 0 rfl) ?_
                refine lv_aload_n hx hb d_Mo_best_52 rfl (lv_at hl 0 rfl) ?_
                refine st_get hx hb hg hown hK hH (f := 48) (i := 0) hd_48 rfl rfl u_Mo 23 (by decide) (hg _ wd_576) (v := .int (σ.1 48 0 23)) rfl d_Mo_best_53 ?_
                refine lv_iload hx hb d_Mo_best_56 (lv_at hl 4 rfl) ?_
                refine lv_iadd hx hb d_Mo_best_58 ?_
                refine lv_aload_n hx hb d_Mo_best_59 rfl (lv_at hl 0 rfl) ?_
                refine st_get hx hb hg hown hK hH (f := 48) (i := 0) hd_48 rfl rfl u_Mo 28 (by decide) (hg _ wd_573) (v := .ref (ad 66 0)) rfl d_Mo_best_60 ?_
                refine lv_iload hx hb d_Mo_best_63 (lv_at hl 6 rfl) ?_
                obtain ⟨g65, h2⟩ := gd_some h2
                refine st_iald hx hb hK hH (f := 66) (i := 0) hd_66 rfl g65 d_Mo_best_65 ?_
                obtain ⟨qc, hc66, h2⟩ := b2_some h2
                obtain ⟨σ2, x3⟩ := qc
                have h2 := b2_at h2
                refine st_Vi (As := [.int ((σ.1 48 0 23) + v4), .int (σ.1 66 0 v6.toNatClampNeg)]) (rest := [.int v5]) ⟨hx, hb, hml, hown, hg⟩ (c_Mo_lengthOf l D aC A ad n _ ((σ.1 48 0 23) + v4) (σ.1 66 0 v6.toNatClampNeg) _ hc66) (cwG hg wd_440 wd_441 wd_442 wd_443 wd_428 yd_Mo_lengthOf ⟨Nat.le_of_ble_eq_true rfl, Nat.le_of_ble_eq_true rfl⟩) hK hH hS hZ hd_48 rfl rfl rfl hl.1 rfl (Nat.le_of_ble_eq_true rfl) d_Mo_best_66 ⟨Nat.zero_le _, Nat.zero_le _⟩ (fun H locs hH hS => ?_)
                refine lv_iadd hx hb d_Mo_best_69 ?_
                refine lv_topi (fun x4 ex4 => ?_)
                have h2 := nm_at ex4 h2
                refine lv_istore (lv' := [(5, .int x4), (0, .ref (ad 48 0)), (1, .int a1), (2, .int v2), (3, .int v3), (4, .int v4), (6, .int v6)]) hx hb d_Mo_best_70 hl (by decide) rfl (fun ls hl => ?_)
                obtain ⟨x5, ex5⟩ : ∃ y : Int32, y = v6 + 1 := ⟨_, rfl⟩
                have h2 := nm_at ex5 h2
                refine lv_iinc (v := x5) (lv' := [(6, .int x5), (5, .int x4), (0, .ref (ad 48 0)), (1, .int a1), (2, .int v2), (3, .int v3), (4, .int v4)]) hx hb d_Mo_best_72 hl (k := 6) rfl (by rw [ex5]; rfl) (by decide) rfl (fun ls hl => ?_)
                refine lv_goto (tgt := 27) hx hb d_Mo_best_75 (by decide) ?_
                cases h2
                exact ih2 σ2 x4 x5 _ _ ls hH hS (lv_sub hl [2, 3, 4, 5, 6, 1, 0] rfl) hk2
        obtain ⟨k2, hq2⟩ := lpE_some hq2
        exact loop2 k2 σ 0 x1 _ _ ls hH hS (lv_sub hl [2, 3, 4, 5, 6, 1, 0] rfl) hq2
  obtain ⟨k1, hq1⟩ := lpE_some hq1
  exact loop1 k1 σ 0 0 0 _ _ ls hH hS (lv_sub hl [3, 4, 2, 1, 0] rfl) hq1
set_option maxHeartbeats 4000000 in
set_option maxRecDepth 100000 in
theorem c_Mo_choose (l : Launch) (D : va_G) (aC : Nat → ClassId) (A : Nat → Prop) (ad : Nat → Nat → Nat) (n : Nat) (σ : St) (a1 : Int32) (a2 : Int32) (a3 : Int32) (a4 : Int32) (o : St × Int32) (h : f_Mo_choose σ a1 a2 a3 a4 = some o) : Met l y_Mo_choose w_Mo_choose rm_Mo_choose (va_Pc [.ref (ad 48 0), .int a1, .int a2, .int a3, .int a4] (Pre D aC A ad n σ)) (va_Qi (fun r (_ : Unit) => r = o.2) (fun _ t => Hold D aC A ad n o.1 t.heap) A) 0 0 A := by
  refine Met.ofW (cc := prog_13_method_55_code) (maxL := 7) (ret := (some .int)) (by decide) rfl ?_
  intro p e s m args below meth c s₁ B hml hv
  obtain ⟨hargs, hH, hK, hZ⟩ := hv
  have hx := B.exec
  have hb := B.bytes
  have hr := B.returns
  have hts := atoms_spec (ws := w_Mo_choose) B.pre
  have hg : ∀ w ∈ gW, w.before args s = true := fun w h => hts w (List.mem_cons_of_mem _ h)
  have hown : s.vm.findClass "PrefixCodesModel" = some m.cls := findClass_of_methodNamed B.named
  have hlocks := B.notSynchronized
  have hS : va_S A s.heap s.heap [] := va_S.rf
  have hl := lv_entry ([.ref (ad 48 0), .int a1, .int a2, .int a3, .int a4]) (n := 7) (Nat.le_of_ble_eq_true rfl)
  rw [show entryFrame m args 7 = entryFrame m (([.ref (ad 48 0), .int a1, .int a2, .int a3, .int a4] : List Value).toArray) 7 by rw [hargs], lg_entry_eq]
  generalize (lg_sl ([.ref (ad 48 0), .int a1, .int a2, .int a3, .int a4]) ++ List.replicate (7 - (lg_sl ([.ref (ad 48 0), .int a1, .int a2, .int a3, .int a4])).length) Slot.unset).toArray = ls at hl ⊢
  have hl : lv_has ls 7 [(0, .ref (ad 48 0)), (1, .int a1), (2, .int a2), (3, .int a3), (4, .int a4)] := hl
  generalize hQ0 : MQ below (va_Qi (fun r (_ : Unit) => r = o.2) (fun _ t => Hold D aC A ad n o.1 t.heap) A) args s 0 0 A = Q0
  unfold f_Mo_choose at h
  refine lv_iload_n hx hb d_Mo_choose_0 rfl (lv_at hl 1 rfl) ?_
  refine lv_iconst (v := 1) hx hb d_Mo_choose_1 (by decide) ?_
  refine lv_icmp_lt (tgt := 45) hx hb d_Mo_choose_2 (by decide) (fun c2 => ?_) (fun c2 => ?_)
  · have h := it h c2
    refine lv_bipush (v := (-102)) hx hb d_Mo_choose_45 (by decide) ?_
    cases h
    rw [← hQ0]
    exact W.iret hx hb hr (fun t ht hW => ⟨⟨_, (), rfl, rfl, by dsimp only; rw [ht]; exact hH⟩, hS.F ht⟩) hS.2.2 d_Mo_choose_47
  · have h := ie h c2
    refine lv_iload_n hx hb d_Mo_choose_5 rfl (lv_at hl 1 rfl) ?_
    refine lv_bipush (v := 6) hx hb d_Mo_choose_6 (by decide) ?_
    refine lv_icmp_gt (tgt := 45) hx hb d_Mo_choose_8 (by decide) (fun c8 => ?_) (fun c8 => ?_)
    · have h := it h c8
      refine lv_bipush (v := (-102)) hx hb d_Mo_choose_45 (by decide) ?_
      cases h
      rw [← hQ0]
      exact W.iret hx hb hr (fun t ht hW => ⟨⟨_, (), rfl, rfl, by dsimp only; rw [ht]; exact hH⟩, hS.F ht⟩) hS.2.2 d_Mo_choose_47
    · have h := ie h c8
      refine lv_iload_n hx hb d_Mo_choose_11 rfl (lv_at hl 2 rfl) ?_
      refine lv_iconst (v := 1) hx hb d_Mo_choose_12 (by decide) ?_
      refine lv_icmp_lt (tgt := 45) hx hb d_Mo_choose_13 (by decide) (fun c13 => ?_) (fun c13 => ?_)
      · have h := it h c13
        refine lv_bipush (v := (-102)) hx hb d_Mo_choose_45 (by decide) ?_
        cases h
        rw [← hQ0]
        exact W.iret hx hb hr (fun t ht hW => ⟨⟨_, (), rfl, rfl, by dsimp only; rw [ht]; exact hH⟩, hS.F ht⟩) hS.2.2 d_Mo_choose_47
      · have h := ie h c13
        refine lv_iload_n hx hb d_Mo_choose_16 rfl (lv_at hl 2 rfl) ?_
        refine lv_bipush (v := 100) hx hb d_Mo_choose_17 (by decide) ?_
        refine lv_icmp_gt (tgt := 45) hx hb d_Mo_choose_19 (by decide) (fun c19 => ?_) (fun c19 => ?_)
        · have h := it h c19
          refine lv_bipush (v := (-102)) hx hb d_Mo_choose_45 (by decide) ?_
          cases h
          rw [← hQ0]
          exact W.iret hx hb hr (fun t ht hW => ⟨⟨_, (), rfl, rfl, by dsimp only; rw [ht]; exact hH⟩, hS.F ht⟩) hS.2.2 d_Mo_choose_47
        · have h := ie h c19
          refine lv_iload_n hx hb d_Mo_choose_22 rfl (lv_at hl 3 rfl) ?_
          refine lv_iconst (v := 1) hx hb d_Mo_choose_23 (by decide) ?_
          refine lv_icmp_lt (tgt := 45) hx hb d_Mo_choose_24 (by decide) (fun c24 => ?_) (fun c24 => ?_)
          · have h := it h c24
            refine lv_bipush (v := (-102)) hx hb d_Mo_choose_45 (by decide) ?_
            cases h
            rw [← hQ0]
            exact W.iret hx hb hr (fun t ht hW => ⟨⟨_, (), rfl, rfl, by dsimp only; rw [ht]; exact hH⟩, hS.F ht⟩) hS.2.2 d_Mo_choose_47
          · have h := ie h c24
            refine lv_iload_n hx hb d_Mo_choose_27 rfl (lv_at hl 3 rfl) ?_
            refine lv_bipush (v := 15) hx hb d_Mo_choose_28 (by decide) ?_
            refine lv_icmp_gt (tgt := 45) hx hb d_Mo_choose_30 (by decide) (fun c30 => ?_) (fun c30 => ?_)
            · have h := it h c30
              refine lv_bipush (v := (-102)) hx hb d_Mo_choose_45 (by decide) ?_
              cases h
              rw [← hQ0]
              exact W.iret hx hb hr (fun t ht hW => ⟨⟨_, (), rfl, rfl, by dsimp only; rw [ht]; exact hH⟩, hS.F ht⟩) hS.2.2 d_Mo_choose_47
            · have h := ie h c30
              refine lv_iload hx hb d_Mo_choose_33 (lv_at hl 4 rfl) ?_
              refine lv_if_lt (tgt := 45) hx hb d_Mo_choose_35 (by decide) (fun c35 => ?_) (fun c35 => ?_)
              · have h := it h c35
                refine lv_bipush (v := (-102)) hx hb d_Mo_choose_45 (by decide) ?_
                cases h
                rw [← hQ0]
                exact W.iret hx hb hr (fun t ht hW => ⟨⟨_, (), rfl, rfl, by dsimp only; rw [ht]; exact hH⟩, hS.F ht⟩) hS.2.2 d_Mo_choose_47
              · have h := ie h c35
                refine lv_iload hx hb d_Mo_choose_38 (lv_at hl 4 rfl) ?_
                refine lv_bipush (v := 8) hx hb d_Mo_choose_40 (by decide) ?_
                refine lv_icmp_le (tgt := 48) hx hb d_Mo_choose_42 (by decide) (fun c42 => ?_) (fun c42 => ?_)
                · have h := it h c42
                  refine lv_iconst (v := 0) hx hb d_Mo_choose_48 (by decide) ?_
                  refine lv_istore (lv' := [(5, .int 0), (0, .ref (ad 48 0)), (1, .int a1), (2, .int a2), (3, .int a3), (4, .int a4)]) hx hb d_Mo_choose_49 hl (by decide) rfl (fun ls hl => ?_)
                  obtain ⟨q1, hq1, h⟩ := b2_some h
                  have K1 : ∀ (σ3 : St) (x4 : Int32) (H : Heap) (locs : List Loc) (ls : Array Slot), q1 = (σ3, x4) → Hold D aC A ad n σ3 H → va_S A s.heap H locs → lv_has ls 7 [(0, .ref (ad 48 0)), (1, .int a1), (2, .int a2), (3, .int a3), (4, .int a4), (5, .int x4)] → W p l e (headSpec w_Mo_choose rm_Mo_choose).room s m args below meth c H locs 0 0 Q0 (F0 m 72 ls []) := by
                    intro σ3 x4 H locs ls eq1 hH hS hl
                    subst eq1
                    have h := b2_at h
                    refine lv_iconst (v := 0) hx hb d_Mo_choose_72 (by decide) ?_
                    refine lv_istore (lv' := [(5, .int 0), (0, .ref (ad 48 0)), (1, .int a1), (2, .int a2), (3, .int a3), (4, .int a4)]) hx hb d_Mo_choose_73 hl (by decide) rfl (fun ls hl => ?_)
                    obtain ⟨q1, hq1, h⟩ := b2_some h
                    have K1 : ∀ (σ7 : St) (x8 : Int32) (H : Heap) (locs : List Loc) (ls : Array Slot), q1 = (σ7, x8) → Hold D aC A ad n σ7 H → va_S A s.heap H locs → lv_has ls 7 [(0, .ref (ad 48 0)), (1, .int a1), (2, .int a2), (3, .int a3), (4, .int a4), (5, .int x8)] → W p l e (headSpec w_Mo_choose rm_Mo_choose).room s m args below meth c H locs 0 0 Q0 (F0 m 106 ls []) := by
                      intro σ7 x8 H locs ls eq1 hH hS hl
                      subst eq1
                      have h := b2_at h
                      refine lv_aload_n hx hb d_Mo_choose_106 rfl (lv_at hl 0 rfl) ?_
                      refine st_get hx hb hg hown hK hH (f := 48) (i := 0) hd_48 rfl rfl u_Mo 22 (by decide) (hg _ wd_470) (v := .int (σ7.1 48 0 22)) rfl d_Mo_choose_107 ?_
                      refine lv_if_eq (tgt := 128) hx hb d_Mo_choose_110 (by decide) (fun c110 => ?_) (fun c110 => ?_)
                      · have h := it h c110
                        refine lv_bipush (v := (-103)) hx hb d_Mo_choose_128 (by decide) ?_
                        cases h
                        rw [← hQ0]
                        exact W.iret hx hb hr (fun t ht hW => ⟨⟨_, (), rfl, rfl, by dsimp only; rw [ht]; exact hH⟩, hS.F ht⟩) hS.2.2 d_Mo_choose_130
                      · have h := ie h c110
                        refine lv_aload_n hx hb d_Mo_choose_113 rfl (lv_at hl 0 rfl) ?_
                        refine st_get hx hb hg hown hK hH (f := 48) (i := 0) hd_48 rfl rfl u_Mo 9 (by decide) (hg _ wd_478) (v := .ref (ad 56 0)) rfl d_Mo_choose_114 ?_
                        refine lv_bipush (v := 64) hx hb d_Mo_choose_117 (by decide) ?_
                        obtain ⟨qc, hc119, h⟩ := b2_some h
                        obtain ⟨σ9, x10⟩ := qc
                        have h := b2_at h
                        refine st_Si (As := [.ref (ad 56 0), .int 64]) (rest := []) ⟨hx, hb, hml, hown, hg⟩ (c_Mo_different l D aC A ad n _ 56 0 64 64 rfl hd_56 _ hc119) (cwGS hg wd_472 wd_473 wd_474 wd_428 yd_Mo_different ⟨Nat.le_of_ble_eq_true rfl, Nat.le_of_ble_eq_true rfl⟩) hK hH hS hZ rfl hl.1 rfl (Nat.le_of_ble_eq_true rfl) d_Mo_choose_119 ⟨Nat.zero_le _, Nat.zero_le _⟩ (fun H locs hH hS => ?_)
                        refine lv_iconst (v := 1) hx hb d_Mo_choose_122 (by decide) ?_
                        refine lv_iload_n hx hb d_Mo_choose_123 rfl (lv_at hl 3 rfl) ?_
                        refine lv_ishl hx hb d_Mo_choose_124 ?_
                        refine lv_icmp_le (tgt := 131) hx hb d_Mo_choose_125 (by decide) (fun c125 => ?_) (fun c125 => ?_)
                        · have h := it h c125
                          refine lv_aload_n hx hb d_Mo_choose_131 rfl (lv_at hl 0 rfl) ?_
                          refine st_get hx hb hg hown hK hH (f := 48) (i := 0) hd_48 rfl rfl u_Mo 1 (by decide) (hg _ wd_424) (v := .int (σ9.1 48 0 1)) rfl d_Mo_choose_132 ?_
                          refine lv_iload_n hx hb d_Mo_choose_135 rfl (lv_at hl 1 rfl) ?_
                          refine lv_iadd hx hb d_Mo_choose_136 ?_
                          refine lv_bipush (v := 12) hx hb d_Mo_choose_137 (by decide) ?_
                          refine lv_icmp_le (tgt := 145) hx hb d_Mo_choose_139 (by decide) (fun c139 => ?_) (fun c139 => ?_)
                          · have h := it h c139
                            refine lv_aload_n hx hb d_Mo_choose_145 rfl (lv_at hl 0 rfl) ?_
                            refine lv_aload_n hx hb d_Mo_choose_146 rfl (lv_at hl 0 rfl) ?_
                            refine st_get hx hb hg hown hK hH (f := 48) (i := 0) hd_48 rfl rfl u_Mo 1 (by decide) (hg _ wd_424) (v := .int (σ9.1 48 0 1)) rfl d_Mo_choose_147 ?_
                            refine st_put hx hb hg hown hK hH hS (f := 48) (i := 0) hd_48 rfl rfl u_Mo t_Mo t_Mo_ok n_Mo 23 (by decide) (hg _ wd_576) rfl rfl rfl d_Mo_choose_150 (fun σ11 H locs eσ11 hH hS => ?_)
                            have h := nm_at eσ11 h
                            refine lv_aload_n hx hb d_Mo_choose_153 rfl (lv_at hl 0 rfl) ?_
                            refine lv_iload_n hx hb d_Mo_choose_154 rfl (lv_at hl 1 rfl) ?_
                            refine st_put hx hb hg hown hK hH hS (f := 48) (i := 0) hd_48 rfl rfl u_Mo t_Mo t_Mo_ok n_Mo 24 (by decide) (hg _ wd_571) rfl rfl rfl d_Mo_choose_155 (fun σ12 H locs eσ12 hH hS => ?_)
                            have h := nm_at eσ12 h
                            refine lv_aload_n hx hb d_Mo_choose_158 rfl (lv_at hl 0 rfl) ?_
                            refine lv_iload_n hx hb d_Mo_choose_159 rfl (lv_at hl 2 rfl) ?_
                            refine st_put hx hb hg hown hK hH hS (f := 48) (i := 0) hd_48 rfl rfl u_Mo t_Mo t_Mo_ok n_Mo 25 (by decide) (hg _ wd_575) rfl rfl rfl d_Mo_choose_160 (fun σ13 H locs eσ13 hH hS => ?_)
                            have h := nm_at eσ13 h
                            refine lv_aload_n hx hb d_Mo_choose_163 rfl (lv_at hl 0 rfl) ?_
                            refine lv_aload_n hx hb d_Mo_choose_164 rfl (lv_at hl 0 rfl) ?_
                            refine st_get hx hb hg hown hK hH (f := 48) (i := 0) hd_48 rfl rfl u_Mo 22 (by decide) (hg _ wd_470) (v := .int (σ13.1 48 0 22)) rfl d_Mo_choose_165 ?_
                            refine st_put hx hb hg hown hK hH hS (f := 48) (i := 0) hd_48 rfl rfl u_Mo t_Mo t_Mo_ok n_Mo 29 (by decide) (hg _ wd_572) rfl rfl rfl d_Mo_choose_168 (fun σ14 H locs eσ14 hH hS => ?_)
                            have h := nm_at eσ14 h
                            refine lv_iconst (v := 0) hx hb d_Mo_choose_171 (by decide) ?_
                            refine lv_istore (lv' := [(5, .int 0), (0, .ref (ad 48 0)), (1, .int a1), (2, .int a2), (3, .int a3), (4, .int a4)]) hx hb d_Mo_choose_172 hl (by decide) rfl (fun ls hl => ?_)
                            obtain ⟨q1, hq1, h⟩ := b2_some h
                            have K1 : ∀ (σ17 : St) (x18 : Int32) (H : Heap) (locs : List Loc) (ls : Array Slot), q1 = (σ17, x18) → Hold D aC A ad n σ17 H → va_S A s.heap H locs → lv_has ls 7 [(0, .ref (ad 48 0)), (1, .int a1), (2, .int a2), (3, .int a3), (4, .int a4), (5, .int x18)] → W p l e (headSpec w_Mo_choose rm_Mo_choose).room s m args below meth c H locs 0 0 Q0 (F0 m 203 ls []) := by
                              intro σ17 x18 H locs ls eq1 hH hS hl
                              subst eq1
                              have h := b2_at h
                              refine lv_aload_n hx hb d_Mo_choose_203 rfl (lv_at hl 0 rfl) ?_
                              refine lv_aload_n hx hb d_Mo_choose_204 rfl (lv_at hl 0 rfl) ?_
                              refine st_get hx hb hg hown hK hH (f := 48) (i := 0) hd_48 rfl rfl u_Mo 22 (by decide) (hg _ wd_470) (v := .int (σ17.1 48 0 22)) rfl d_Mo_choose_205 ?_
                              refine lv_iload_n hx hb d_Mo_choose_208 rfl (lv_at hl 2 rfl) ?_
                              refine lv_iadd hx hb d_Mo_choose_209 ?_
                              refine lv_iconst (v := 1) hx hb d_Mo_choose_210 (by decide) ?_
                              refine lv_isub hx hb d_Mo_choose_211 ?_
                              refine lv_iload_n hx hb d_Mo_choose_212 rfl (lv_at hl 2 rfl) ?_
                              obtain ⟨g213, h⟩ := gd_some h
                              refine lv_idiv hx hb d_Mo_choose_213 g213 ?_
                              refine st_put hx hb hg hown hK hH hS (f := 48) (i := 0) hd_48 rfl rfl u_Mo t_Mo t_Mo_ok n_Mo 26 (by decide) (hg _ wd_570) rfl rfl rfl d_Mo_choose_214 (fun σ19 H locs eσ19 hH hS => ?_)
                              have h := nm_at eσ19 h
                              refine lv_iconst (v := 0) hx hb d_Mo_choose_217 (by decide) ?_
                              refine lv_istore (lv' := [(5, .int 0), (0, .ref (ad 48 0)), (1, .int a1), (2, .int a2), (3, .int a3), (4, .int a4)]) hx hb d_Mo_choose_218 hl (by decide) rfl (fun ls hl => ?_)
                              obtain ⟨q1, hq1, h⟩ := b2_some h
                              have K1 : ∀ (σ24 : St) (x25 : Int32) (H : Heap) (locs : List Loc) (ls : Array Slot), q1 = (σ24, x25) → Hold D aC A ad n σ24 H → va_S A s.heap H locs → lv_has ls 7 [(0, .ref (ad 48 0)), (1, .int a1), (3, .int a3), (4, .int a4), (5, .int x25)] → W p l e (headSpec w_Mo_choose rm_Mo_choose).room s m args below meth c H locs 0 0 Q0 (F0 m 249 ls []) := by
                                intro σ24 x25 H locs ls eq1 hH hS hl
                                subst eq1
                                have h := b2_at h
                                refine lv_iconst (v := 0) hx hb d_Mo_choose_249 (by decide) ?_
                                refine lv_istore (lv' := [(5, .int 0), (0, .ref (ad 48 0)), (1, .int a1), (3, .int a3), (4, .int a4)]) hx hb d_Mo_choose_250 hl (by decide) rfl (fun ls hl => ?_)
                                obtain ⟨q1, hq1, h⟩ := b2_some h
                                have K1 : ∀ (σ29 : St) (x30 : Int32) (H : Heap) (locs : List Loc) (ls : Array Slot), q1 = (σ29, x30) → Hold D aC A ad n σ29 H → va_S A s.heap H locs → lv_has ls 7 [(0, .ref (ad 48 0)), (1, .int a1), (3, .int a3), (4, .int a4), (5, .int x30)] → W p l e (headSpec w_Mo_choose rm_Mo_choose).room s m args below meth c H locs 0 0 Q0 (F0 m 271 ls []) := by
                                  intro σ29 x30 H locs ls eq1 hH hS hl
                                  subst eq1
                                  have h := b2_at h
                                  refine lv_iconst (v := 0) hx hb d_Mo_choose_271 (by decide) ?_
                                  refine lv_istore (lv' := [(5, .int 0), (0, .ref (ad 48 0)), (1, .int a1), (3, .int a3), (4, .int a4)]) hx hb d_Mo_choose_272 hl (by decide) rfl (fun ls hl => ?_)
                                  obtain ⟨q1, hq1, h⟩ := b2_some h
                                  have K1 : ∀ (σ39 : St) (x40 : Int32) (H : Heap) (locs : List Loc) (ls : Array Slot), q1 = (σ39, x40) → Hold D aC A ad n σ39 H → va_S A s.heap H locs → lv_has ls 7 [(0, .ref (ad 48 0)), (3, .int a3), (4, .int a4), (5, .int x40)] → W p l e (headSpec w_Mo_choose rm_Mo_choose).room s m args below meth c H locs 0 0 Q0 (F0 m 323 ls []) := by
                                    intro σ39 x40 H locs ls eq1 hH hS hl
                                    subst eq1
                                    have h := b2_at h
                                    refine lv_aload_n hx hb d_Mo_choose_323 rfl (lv_at hl 0 rfl) ?_
                                    refine lv_iload_n hx hb d_Mo_choose_324 rfl (lv_at hl 1 rfl) ?_
                                    obtain ⟨qc, hc325, h⟩ := b1_some h
                                    obtain ⟨σ41, rfl⟩ : ∃ z, z = qc := ⟨_, rfl⟩
                                    have h := b1_at h
                                    refine st_Vv (As := [.int a3]) (rest := []) ⟨hx, hb, hml, hown, hg⟩ (c_Mo_make l D aC A ad n _ a3 _ hc325) (cwG hg wd_577 wd_578 wd_579 wd_580 wd_428 yd_Mo_make ⟨Nat.le_of_ble_eq_true rfl, Nat.le_of_ble_eq_true rfl⟩) hK hH hS hZ hd_48 rfl rfl rfl hl.1 rfl (Nat.le_of_ble_eq_true rfl) d_Mo_choose_325 ⟨Nat.zero_le _, Nat.zero_le _⟩ (fun H locs hH hS => ?_)
                                    refine lv_aload_n hx hb d_Mo_choose_328 rfl (lv_at hl 0 rfl) ?_
                                    refine st_get hx hb hg hown hK hH (f := 48) (i := 0) hd_48 rfl rfl u_Mo 23 (by decide) (hg _ wd_576) (v := .int (σ41.1 48 0 23)) rfl d_Mo_choose_329 ?_
                                    cases h
                                    rw [← hQ0]
                                    exact W.iret hx hb hr (fun t ht hW => ⟨⟨_, (), rfl, rfl, by dsimp only; rw [ht]; exact hH⟩, hS.F ht⟩) hS.2.2 d_Mo_choose_332
                                  have loop1 : ∀ (k : Nat) (σ : St) (v5 : Int32) (H : Heap) (locs : List Loc) (ls : Array Slot), Hold D aC A ad n σ H → va_S A s.heap H locs → lv_has ls 7 [(0, .ref (ad 48 0)), (3, .int a3), (4, .int a4), (5, .int v5)] → lp (fun q => lb_Mo_choose_274 a3 a4 q.1 q.2) k (σ, v5) = some q1 → W p l e (headSpec w_Mo_choose rm_Mo_choose).room s m args below meth c H locs 0 0 Q0 (F0 m 274 ls []) := by
                                    intro k
                                    induction k with
                                    | zero => intro σ v5 H locs ls hH hS hl hlp; exact absurd hlp (lp_zero _ _ _)
                                    | succ k ih1 =>
                                      intro σ v5 H locs ls hH hS hl hlp
                                      obtain ⟨z1, h1, hk1⟩ := lp_succ hlp
                                      have h1 : lb_Mo_choose_274 a3 a4 σ v5 = some z1 := h1
                                      unfold lb_Mo_choose_274 at h1
                                      refine lv_iload hx hb d_Mo_choose_274 (lv_at hl 3 rfl) ?_
                                      refine lv_iload hx hb d_Mo_choose_276 (lv_at hl 2 rfl) ?_
                                      refine lv_icmp_ge (tgt := 323) hx hb d_Mo_choose_278 (by decide) (fun c278 => ?_) (fun c278 => ?_)
                                      · have h1 := it h1 c278
                                        cases h1
                                        exact K1 σ v5 _ _ ls (Option.some.inj hk1).symm hH hS (lv_sub hl [0, 1, 2, 3] rfl)
                                      · have h1 := ie h1 c278
                                        refine lv_aload_n hx hb d_Mo_choose_281 rfl (lv_at hl 0 rfl) ?_
                                        refine lv_iload_n hx hb d_Mo_choose_282 rfl (lv_at hl 1 rfl) ?_
                                        obtain ⟨qc, hc283, h1⟩ := b1_some h1
                                        obtain ⟨σ31, rfl⟩ : ∃ z, z = qc := ⟨_, rfl⟩
                                        have h1 := b1_at h1
                                        refine st_Vv (As := [.int a3]) (rest := []) ⟨hx, hb, hml, hown, hg⟩ (c_Mo_make l D aC A ad n _ a3 _ hc283) (cwG hg wd_577 wd_578 wd_579 wd_580 wd_428 yd_Mo_make ⟨Nat.le_of_ble_eq_true rfl, Nat.le_of_ble_eq_true rfl⟩) hK hH hS hZ hd_48 rfl rfl rfl hl.1 rfl (Nat.le_of_ble_eq_true rfl) d_Mo_choose_283 ⟨Nat.zero_le _, Nat.zero_le _⟩ (fun H locs hH hS => ?_)
                                        refine lv_iconst (v := 0) hx hb d_Mo_choose_286 (by decide) ?_
                                        refine lv_istore (lv' := [(6, .int 0), (0, .ref (ad 48 0)), (3, .int a3), (4, .int a4), (5, .int v5)]) hx hb d_Mo_choose_287 hl (by decide) rfl (fun ls hl => ?_)
                                        obtain ⟨q2, hq2, h1⟩ := b2_some h1
                                        have K2 : ∀ (σ36 : St) (x37 : Int32) (H : Heap) (locs : List Loc) (ls : Array Slot), q2 = (σ36, x37) → Hold D aC A ad n σ36 H → va_S A s.heap H locs → lv_has ls 7 [(0, .ref (ad 48 0)), (3, .int a3), (4, .int a4), (5, .int v5), (6, .int x37)] → W p l e (headSpec w_Mo_choose rm_Mo_choose).room s m args below meth c H locs 0 0 Q0 (F0 m 317 ls []) := by
                                          intro σ36 x37 H locs ls eq2 hH hS hl
                                          subst eq2
                                          have h1 := b2_at h1
                                          obtain ⟨x38, ex38⟩ : ∃ y : Int32, y = v5 + 1 := ⟨_, rfl⟩
                                          have h1 := nm_at ex38 h1
                                          refine lv_iinc (v := x38) (lv' := [(5, .int x38), (0, .ref (ad 48 0)), (3, .int a3), (4, .int a4), (6, .int x37)]) hx hb d_Mo_choose_317 hl (k := 3) rfl (by rw [ex38]; rfl) (by decide) rfl (fun ls hl => ?_)
                                          refine lv_goto (tgt := 274) hx hb d_Mo_choose_320 (by decide) ?_
                                          cases h1
                                          exact ih1 σ36 x38 _ _ ls hH hS (lv_sub hl [1, 2, 3, 0] rfl) hk1
                                        have loop2 : ∀ (k : Nat) (σ : St) (v6 : Int32) (H : Heap) (locs : List Loc) (ls : Array Slot), Hold D aC A ad n σ H → va_S A s.heap H locs → lv_has ls 7 [(0, .ref (ad 48 0)), (3, .int a3), (4, .int a4), (5, .int v5), (6, .int v6)] → lp (fun q => lb_Mo_choose_289 a3 a4 v5 q.1 q.2) k (σ, v6) = some q2 → W p l e (headSpec w_Mo_choose rm_Mo_choose).room s m args below meth c H locs 0 0 Q0 (F0 m 289 ls []) := by
                                          intro k
                                          induction k with
                                          | zero => intro σ v6 H locs ls hH hS hl hlp; exact absurd hlp (lp_zero _ _ _)
                                          | succ k ih2 =>
                                            intro σ v6 H locs ls hH hS hl hlp
                                            obtain ⟨z2, h2, hk2⟩ := lp_succ hlp
                                            have h2 : lb_Mo_choose_289 a3 a4 v5 σ v6 = some z2 := h2
                                            unfold lb_Mo_choose_289 at h2
                                            refine lv_iload hx hb d_Mo_choose_289 (lv_at hl 4 rfl) ?_
                                            refine lv_aload_n hx hb d_Mo_choose_291 rfl (lv_at hl 0 rfl) ?_
                                            refine st_get hx hb hg hown hK hH (f := 48) (i := 0) hd_48 rfl rfl u_Mo 26 (by decide) (hg _ wd_570) (v := .int (σ.1 48 0 26)) rfl d_Mo_choose_292 ?_
                                            refine lv_icmp_ge (tgt := 317) hx hb d_Mo_choose_295 (by decide) (fun c295 => ?_) (fun c295 => ?_)
                                            · have h2 := it h2 c295
                                              cases h2
                                              exact K2 σ v6 _ _ ls (Option.some.inj hk2).symm hH hS (lv_sub hl [0, 1, 2, 3, 4] rfl)
                                            · have h2 := ie h2 c295
                                              refine lv_aload_n hx hb d_Mo_choose_298 rfl (lv_at hl 0 rfl) ?_
                                              refine st_get hx hb hg hown hK hH (f := 48) (i := 0) hd_48 rfl rfl u_Mo 27 (by decide) (hg _ wd_574) (v := .ref (ad 65 0)) rfl d_Mo_choose_299 ?_
                                              refine lv_iload hx hb d_Mo_choose_302 (lv_at hl 4 rfl) ?_
                                              refine lv_aload_n hx hb d_Mo_choose_304 rfl (lv_at hl 0 rfl) ?_
                                              refine lv_iload hx hb d_Mo_choose_305 (lv_at hl 4 rfl) ?_
                                              obtain ⟨qc, hc307, h2⟩ := b2_some h2
                                              obtain ⟨σ32, x33⟩ := qc
                                              have h2 := b2_at h2
                                              refine st_Vi (As := [.int v6]) (rest := [.int v6, .ref (ad 65 0)]) ⟨hx, hb, hml, hown, hg⟩ (c_Mo_best l D aC A ad n _ v6 _ hc307) (cwG hg wd_581 wd_582 wd_583 wd_584 wd_428 yd_Mo_best ⟨Nat.le_of_ble_eq_true rfl, Nat.le_of_ble_eq_true rfl⟩) hK hH hS hZ hd_48 rfl rfl rfl hl.1 rfl (Nat.le_of_ble_eq_true rfl) d_Mo_choose_307 ⟨Nat.zero_le _, Nat.zero_le _⟩ (fun H locs hH hS => ?_)
                                              obtain ⟨g310, h2⟩ := gd_some h2
                                              refine st_iast hx hb hK hH hS (f := 65) (i := 0) hd_65 rfl g310 d_Mo_choose_310 (fun σ34 H locs eσ34 hH hS => ?_)
                                              have h2 := nm_at eσ34 h2
                                              obtain ⟨x35, ex35⟩ : ∃ y : Int32, y = v6 + 1 := ⟨_, rfl⟩
                                              have h2 := nm_at ex35 h2
                                              refine lv_iinc (v := x35) (lv' := [(6, .int x35), (0, .ref (ad 48 0)), (3, .int a3), (4, .int a4), (5, .int v5)]) hx hb d_Mo_choose_311 hl (k := 4) rfl (by rw [ex35]; rfl) (by decide) rfl (fun ls hl => ?_)
                                              refine lv_goto (tgt := 289) hx hb d_Mo_choose_314 (by decide) ?_
                                              cases h2
                                              exact ih2 σ34 x35 _ _ ls hH hS (lv_sub hl [1, 2, 3, 4, 0] rfl) hk2
                                        obtain ⟨k2, hq2⟩ := lpE_some hq2
                                        exact loop2 k2 σ31 0 _ _ ls hH hS (lv_sub hl [1, 2, 3, 4, 0] rfl) hq2
                                  obtain ⟨k1, hq1⟩ := lpE_some hq1
                                  exact loop1 k1 σ29 0 _ _ ls hH hS (lv_sub hl [1, 3, 4, 0] rfl) hq1
                                have loop1 : ∀ (k : Nat) (σ : St) (v5 : Int32) (H : Heap) (locs : List Loc) (ls : Array Slot), Hold D aC A ad n σ H → va_S A s.heap H locs → lv_has ls 7 [(0, .ref (ad 48 0)), (1, .int a1), (3, .int a3), (4, .int a4), (5, .int v5)] → lp (fun q => lb_Mo_choose_252 a1 a3 a4 q.1 q.2) k (σ, v5) = some q1 → W p l e (headSpec w_Mo_choose rm_Mo_choose).room s m args below meth c H locs 0 0 Q0 (F0 m 252 ls []) := by
                                  intro k
                                  induction k with
                                  | zero => intro σ v5 H locs ls hH hS hl hlp; exact absurd hlp (lp_zero _ _ _)
                                  | succ k ih1 =>
                                    intro σ v5 H locs ls hH hS hl hlp
                                    obtain ⟨z1, h1, hk1⟩ := lp_succ hlp
                                    have h1 : lb_Mo_choose_252 a1 a3 a4 σ v5 = some z1 := h1
                                    unfold lb_Mo_choose_252 at h1
                                    refine lv_iload hx hb d_Mo_choose_252 (lv_at hl 4 rfl) ?_
                                    refine lv_iload_n hx hb d_Mo_choose_254 rfl (lv_at hl 1 rfl) ?_
                                    refine lv_icmp_ge (tgt := 271) hx hb d_Mo_choose_255 (by decide) (fun c255 => ?_) (fun c255 => ?_)
                                    · have h1 := it h1 c255
                                      cases h1
                                      exact K1 σ v5 _ _ ls (Option.some.inj hk1).symm hH hS (lv_sub hl [0, 1, 2, 3, 4] rfl)
                                    · have h1 := ie h1 c255
                                      refine lv_aload_n hx hb d_Mo_choose_258 rfl (lv_at hl 0 rfl) ?_
                                      refine lv_bipush (v := 64) hx hb d_Mo_choose_259 (by decide) ?_
                                      obtain ⟨qc, hc261, h1⟩ := b2_some h1
                                      obtain ⟨σ26, x27⟩ := qc
                                      have h1 := b2_at h1
                                      refine st_Vi (As := [.int 64]) (rest := []) ⟨hx, hb, hml, hown, hg⟩ (c_Mo_made l D aC A ad n _ 64 _ hc261) (cwG hg wd_432 wd_433 wd_434 wd_435 wd_428 yd_Mo_made ⟨Nat.le_of_ble_eq_true rfl, Nat.le_of_ble_eq_true rfl⟩) hK hH hS hZ hd_48 rfl rfl rfl hl.1 rfl (Nat.le_of_ble_eq_true rfl) d_Mo_choose_261 ⟨Nat.zero_le _, Nat.zero_le _⟩ (fun H locs hH hS => ?_)
                                      refine lv_pop hx hb d_Mo_choose_264 rfl ?_
                                      obtain ⟨x28, ex28⟩ : ∃ y : Int32, y = v5 + 1 := ⟨_, rfl⟩
                                      have h1 := nm_at ex28 h1
                                      refine lv_iinc (v := x28) (lv' := [(5, .int x28), (0, .ref (ad 48 0)), (1, .int a1), (3, .int a3), (4, .int a4)]) hx hb d_Mo_choose_265 hl (k := 4) rfl (by rw [ex28]; rfl) (by decide) rfl (fun ls hl => ?_)
                                      refine lv_goto (tgt := 252) hx hb d_Mo_choose_268 (by decide) ?_
                                      cases h1
                                      exact ih1 σ26 x28 _ _ ls hH hS (lv_sub hl [1, 2, 3, 4, 0] rfl) hk1
                                obtain ⟨k1, hq1⟩ := lpE_some hq1
                                exact loop1 k1 σ24 0 _ _ ls hH hS (lv_sub hl [1, 2, 3, 4, 0] rfl) hq1
                              have loop1 : ∀ (k : Nat) (σ : St) (v5 : Int32) (H : Heap) (locs : List Loc) (ls : Array Slot), Hold D aC A ad n σ H → va_S A s.heap H locs → lv_has ls 7 [(0, .ref (ad 48 0)), (1, .int a1), (3, .int a3), (4, .int a4), (5, .int v5)] → lp (fun q => lb_Mo_choose_220 a1 a3 a4 q.1 q.2) k (σ, v5) = some q1 → W p l e (headSpec w_Mo_choose rm_Mo_choose).room s m args below meth c H locs 0 0 Q0 (F0 m 220 ls []) := by
                                intro k
                                induction k with
                                | zero => intro σ v5 H locs ls hH hS hl hlp; exact absurd hlp (lp_zero _ _ _)
                                | succ k ih1 =>
                                  intro σ v5 H locs ls hH hS hl hlp
                                  obtain ⟨z1, h1, hk1⟩ := lp_succ hlp
                                  have h1 : lb_Mo_choose_220 a1 a3 a4 σ v5 = some z1 := h1
                                  unfold lb_Mo_choose_220 at h1
                                  refine lv_iload hx hb d_Mo_choose_220 (lv_at hl 4 rfl) ?_
                                  refine lv_aload_n hx hb d_Mo_choose_222 rfl (lv_at hl 0 rfl) ?_
                                  refine st_get hx hb hg hown hK hH (f := 48) (i := 0) hd_48 rfl rfl u_Mo 26 (by decide) (hg _ wd_570) (v := .int (σ.1 48 0 26)) rfl d_Mo_choose_223 ?_
                                  refine lv_icmp_ge (tgt := 249) hx hb d_Mo_choose_226 (by decide) (fun c226 => ?_) (fun c226 => ?_)
                                  · have h1 := it h1 c226
                                    cases h1
                                    exact K1 σ v5 _ _ ls (Option.some.inj hk1).symm hH hS (lv_sub hl [0, 1, 2, 3, 4] rfl)
                                  · have h1 := ie h1 c226
                                    refine lv_aload_n hx hb d_Mo_choose_229 rfl (lv_at hl 0 rfl) ?_
                                    refine st_get hx hb hg hown hK hH (f := 48) (i := 0) hd_48 rfl rfl u_Mo 27 (by decide) (hg _ wd_574) (v := .ref (ad 65 0)) rfl d_Mo_choose_230 ?_
                                    refine lv_iload hx hb d_Mo_choose_233 (lv_at hl 4 rfl) ?_
                                    refine lv_aload_n hx hb d_Mo_choose_235 rfl (lv_at hl 0 rfl) ?_
                                    refine lv_iload hx hb d_Mo_choose_236 (lv_at hl 4 rfl) ?_
                                    refine lv_iload_n hx hb d_Mo_choose_238 rfl (lv_at hl 1 rfl) ?_
                                    obtain ⟨qc, hc239, h1⟩ := b2_some h1
                                    obtain ⟨σ20, x21⟩ := qc
                                    have h1 := b2_at h1
                                    refine st_Vi (As := [.int v5, .int a1]) (rest := [.int v5, .ref (ad 65 0)]) ⟨hx, hb, hml, hown, hg⟩ (c_Mo_groupOf l D aC A ad n _ v5 a1 _ hc239) (cwG hg wd_585 wd_586 wd_587 wd_588 wd_428 yd_Mo_groupOf ⟨Nat.le_of_ble_eq_true rfl, Nat.le_of_ble_eq_true rfl⟩) hK hH hS hZ hd_48 rfl rfl rfl hl.1 rfl (Nat.le_of_ble_eq_true rfl) d_Mo_choose_239 ⟨Nat.zero_le _, Nat.zero_le _⟩ (fun H locs hH hS => ?_)
                                    obtain ⟨g242, h1⟩ := gd_some h1
                                    refine st_iast hx hb hK hH hS (f := 65) (i := 0) hd_65 rfl g242 d_Mo_choose_242 (fun σ22 H locs eσ22 hH hS => ?_)
                                    have h1 := nm_at eσ22 h1
                                    obtain ⟨x23, ex23⟩ : ∃ y : Int32, y = v5 + 1 := ⟨_, rfl⟩
                                    have h1 := nm_at ex23 h1
                                    refine lv_iinc (v := x23) (lv' := [(5, .int x23), (0, .ref (ad 48 0)), (1, .int a1), (3, .int a3), (4, .int a4)]) hx hb d_Mo_choose_243 hl (k := 4) rfl (by rw [ex23]; rfl) (by decide) rfl (fun ls hl => ?_)
                                    refine lv_goto (tgt := 220) hx hb d_Mo_choose_246 (by decide) ?_
                                    cases h1
                                    exact ih1 σ22 x23 _ _ ls hH hS (lv_sub hl [1, 2, 3, 4, 0] rfl) hk1
                              obtain ⟨k1, hq1⟩ := lpE_some hq1
                              exact loop1 k1 σ19 0 _ _ ls hH hS (lv_sub hl [1, 2, 4, 5, 0] rfl) hq1
                            have loop1 : ∀ (k : Nat) (σ : St) (v5 : Int32) (H : Heap) (locs : List Loc) (ls : Array Slot), Hold D aC A ad n σ H → va_S A s.heap H locs → lv_has ls 7 [(0, .ref (ad 48 0)), (1, .int a1), (2, .int a2), (3, .int a3), (4, .int a4), (5, .int v5)] → lp (fun q => lb_Mo_choose_174 a1 a2 a3 a4 q.1 q.2) k (σ, v5) = some q1 → W p l e (headSpec w_Mo_choose rm_Mo_choose).room s m args below meth c H locs 0 0 Q0 (F0 m 174 ls []) := by
                              intro k
                              induction k with
                              | zero => intro σ v5 H locs ls hH hS hl hlp; exact absurd hlp (lp_zero _ _ _)
                              | succ k ih1 =>
                                intro σ v5 H locs ls hH hS hl hlp
                                obtain ⟨z1, h1, hk1⟩ := lp_succ hlp
                                have h1 : lb_Mo_choose_174 a1 a2 a3 a4 σ v5 = some z1 := h1
                                unfold lb_Mo_choose_174 at h1
                                refine lv_iload hx hb d_Mo_choose_174 (lv_at hl 5 rfl) ?_
                                refine lv_aload_n hx hb d_Mo_choose_176 rfl (lv_at hl 0 rfl) ?_
                                refine st_get hx hb hg hown hK hH (f := 48) (i := 0) hd_48 rfl rfl u_Mo 22 (by decide) (hg _ wd_470) (v := .int (σ.1 48 0 22)) rfl d_Mo_choose_177 ?_
                                refine lv_icmp_ge (tgt := 203) hx hb d_Mo_choose_180 (by decide) (fun c180 => ?_) (fun c180 => ?_)
                                · have h1 := it h1 c180
                                  cases h1
                                  exact K1 σ v5 _ _ ls (Option.some.inj hk1).symm hH hS (lv_sub hl [0, 1, 2, 3, 4, 5] rfl)
                                · have h1 := ie h1 c180
                                  refine lv_aload_n hx hb d_Mo_choose_183 rfl (lv_at hl 0 rfl) ?_
                                  refine st_get hx hb hg hown hK hH (f := 48) (i := 0) hd_48 rfl rfl u_Mo 28 (by decide) (hg _ wd_573) (v := .ref (ad 66 0)) rfl d_Mo_choose_184 ?_
                                  refine lv_iload hx hb d_Mo_choose_187 (lv_at hl 5 rfl) ?_
                                  refine lv_aload_n hx hb d_Mo_choose_189 rfl (lv_at hl 0 rfl) ?_
                                  refine st_get hx hb hg hown hK hH (f := 48) (i := 0) hd_48 rfl rfl u_Mo 21 (by decide) (hg _ wd_471) (v := .ref (ad 64 0)) rfl d_Mo_choose_190 ?_
                                  refine lv_iload hx hb d_Mo_choose_193 (lv_at hl 5 rfl) ?_
                                  obtain ⟨g195, h1⟩ := gd_some h1
                                  refine st_iald hx hb hK hH (f := 64) (i := 0) hd_64 rfl g195 d_Mo_choose_195 ?_
                                  obtain ⟨g196, h1⟩ := gd_some h1
                                  refine st_iast hx hb hK hH hS (f := 66) (i := 0) hd_66 rfl g196 d_Mo_choose_196 (fun σ15 H locs eσ15 hH hS => ?_)
                                  have h1 := nm_at eσ15 h1
                                  obtain ⟨x16, ex16⟩ : ∃ y : Int32, y = v5 + 1 := ⟨_, rfl⟩
                                  have h1 := nm_at ex16 h1
                                  refine lv_iinc (v := x16) (lv' := [(5, .int x16), (0, .ref (ad 48 0)), (1, .int a1), (2, .int a2), (3, .int a3), (4, .int a4)]) hx hb d_Mo_choose_197 hl (k := 5) rfl (by rw [ex16]; rfl) (by decide) rfl (fun ls hl => ?_)
                                  refine lv_goto (tgt := 174) hx hb d_Mo_choose_200 (by decide) ?_
                                  cases h1
                                  exact ih1 σ15 x16 _ _ ls hH hS (lv_sub hl [1, 2, 3, 4, 5, 0] rfl) hk1
                            obtain ⟨k1, hq1⟩ := lpE_some hq1
                            exact loop1 k1 σ14 0 _ _ ls hH hS (lv_sub hl [1, 2, 3, 4, 5, 0] rfl) hq1
                          · have h := ie h c139
                            refine lv_bipush (v := (-106)) hx hb d_Mo_choose_142 (by decide) ?_
                            cases h
                            rw [← hQ0]
                            exact W.iret hx hb hr (fun t ht hW => ⟨⟨_, (), rfl, rfl, by dsimp only; rw [ht]; exact hH⟩, hS.F ht⟩) hS.2.2 d_Mo_choose_144
                        · have h := ie h c125
                          refine lv_bipush (v := (-103)) hx hb d_Mo_choose_128 (by decide) ?_
                          cases h
                          rw [← hQ0]
                          exact W.iret hx hb hr (fun t ht hW => ⟨⟨_, (), rfl, rfl, by dsimp only; rw [ht]; exact hH⟩, hS.F ht⟩) hS.2.2 d_Mo_choose_130
                    have loop1 : ∀ (k : Nat) (σ : St) (v5 : Int32) (H : Heap) (locs : List Loc) (ls : Array Slot), Hold D aC A ad n σ H → va_S A s.heap H locs → lv_has ls 7 [(0, .ref (ad 48 0)), (1, .int a1), (2, .int a2), (3, .int a3), (4, .int a4), (5, .int v5)] → lp (fun q => lb_Mo_choose_75 a1 a2 a3 a4 q.1 q.2) k (σ, v5) = some q1 → W p l e (headSpec w_Mo_choose rm_Mo_choose).room s m args below meth c H locs 0 0 Q0 (F0 m 75 ls []) := by
                      intro k
                      induction k with
                      | zero => intro σ v5 H locs ls hH hS hl hlp; exact absurd hlp (lp_zero _ _ _)
                      | succ k ih1 =>
                        intro σ v5 H locs ls hH hS hl hlp
                        obtain ⟨z1, h1, hk1⟩ := lp_succ hlp
                        have h1 : lb_Mo_choose_75 a1 a2 a3 a4 σ v5 = some z1 := h1
                        unfold lb_Mo_choose_75 at h1
                        refine lv_iload hx hb d_Mo_choose_75 (lv_at hl 5 rfl) ?_
                        refine lv_aload_n hx hb d_Mo_choose_77 rfl (lv_at hl 0 rfl) ?_
                        refine st_get hx hb hg hown hK hH (f := 48) (i := 0) hd_48 rfl rfl u_Mo 22 (by decide) (hg _ wd_470) (v := .int (σ.1 48 0 22)) rfl d_Mo_choose_78 ?_
                        refine lv_icmp_ge (tgt := 106) hx hb d_Mo_choose_81 (by decide) (fun c81 => ?_) (fun c81 => ?_)
                        · have h1 := it h1 c81
                          cases h1
                          exact K1 σ v5 _ _ ls (Option.some.inj hk1).symm hH hS (lv_sub hl [0, 1, 2, 3, 4, 5] rfl)
                        · have h1 := ie h1 c81
                          refine lv_aload_n hx hb d_Mo_choose_84 rfl (lv_at hl 0 rfl) ?_
                          refine st_get hx hb hg hown hK hH (f := 48) (i := 0) hd_48 rfl rfl u_Mo 9 (by decide) (hg _ wd_478) (v := .ref (ad 56 0)) rfl d_Mo_choose_85 ?_
                          refine lv_aload_n hx hb d_Mo_choose_88 rfl (lv_at hl 0 rfl) ?_
                          refine st_get hx hb hg hown hK hH (f := 48) (i := 0) hd_48 rfl rfl u_Mo 21 (by decide) (hg _ wd_471) (v := .ref (ad 64 0)) rfl d_Mo_choose_89 ?_
                          refine lv_iload hx hb d_Mo_choose_92 (lv_at hl 5 rfl) ?_
                          obtain ⟨g94, h1⟩ := gd_some h1
                          refine st_iald hx hb hK hH (f := 64) (i := 0) hd_64 rfl g94 d_Mo_choose_94 ?_
                          refine lv_dup2_11 hx hb d_Mo_choose_95 rfl rfl ?_
                          obtain ⟨g96, h1⟩ := gd_some h1
                          refine st_iald hx hb hK hH (f := 56) (i := 0) hd_56 rfl g96 d_Mo_choose_96 ?_
                          refine lv_iconst (v := 1) hx hb d_Mo_choose_97 (by decide) ?_
                          refine lv_iadd hx hb d_Mo_choose_98 ?_
                          obtain ⟨g99, h1⟩ := gd_some h1
                          refine st_iast hx hb hK hH hS (f := 56) (i := 0) hd_56 rfl g99 d_Mo_choose_99 (fun σ5 H locs eσ5 hH hS => ?_)
                          have h1 := nm_at eσ5 h1
                          obtain ⟨x6, ex6⟩ : ∃ y : Int32, y = v5 + 1 := ⟨_, rfl⟩
                          have h1 := nm_at ex6 h1
                          refine lv_iinc (v := x6) (lv' := [(5, .int x6), (0, .ref (ad 48 0)), (1, .int a1), (2, .int a2), (3, .int a3), (4, .int a4)]) hx hb d_Mo_choose_100 hl (k := 5) rfl (by rw [ex6]; rfl) (by decide) rfl (fun ls hl => ?_)
                          refine lv_goto (tgt := 75) hx hb d_Mo_choose_103 (by decide) ?_
                          cases h1
                          exact ih1 σ5 x6 _ _ ls hH hS (lv_sub hl [1, 2, 3, 4, 5, 0] rfl) hk1
                    obtain ⟨k1, hq1⟩ := lpE_some hq1
                    exact loop1 k1 σ3 0 _ _ ls hH hS (lv_sub hl [1, 2, 3, 4, 5, 0] rfl) hq1
                  have loop1 : ∀ (k : Nat) (σ : St) (v5 : Int32) (H : Heap) (locs : List Loc) (ls : Array Slot), Hold D aC A ad n σ H → va_S A s.heap H locs → lv_has ls 7 [(0, .ref (ad 48 0)), (1, .int a1), (2, .int a2), (3, .int a3), (4, .int a4), (5, .int v5)] → lp (fun q => lb_Mo_choose_51 a1 a2 a3 a4 q.1 q.2) k (σ, v5) = some q1 → W p l e (headSpec w_Mo_choose rm_Mo_choose).room s m args below meth c H locs 0 0 Q0 (F0 m 51 ls []) := by
                    intro k
                    induction k with
                    | zero => intro σ v5 H locs ls hH hS hl hlp; exact absurd hlp (lp_zero _ _ _)
                    | succ k ih1 =>
                      intro σ v5 H locs ls hH hS hl hlp
                      obtain ⟨z1, h1, hk1⟩ := lp_succ hlp
                      have h1 : lb_Mo_choose_51 a1 a2 a3 a4 σ v5 = some z1 := h1
                      unfold lb_Mo_choose_51 at h1
                      refine lv_iload hx hb d_Mo_choose_51 (lv_at hl 5 rfl) ?_
                      refine lv_bipush (v := 64) hx hb d_Mo_choose_53 (by decide) ?_
                      refine lv_icmp_ge (tgt := 72) hx hb d_Mo_choose_55 (by decide) (fun c55 => ?_) (fun c55 => ?_)
                      · have h1 := it h1 c55
                        cases h1
                        exact K1 σ v5 _ _ ls (Option.some.inj hk1).symm hH hS (lv_sub hl [0, 1, 2, 3, 4, 5] rfl)
                      · have h1 := ie h1 c55
                        refine lv_aload_n hx hb d_Mo_choose_58 rfl (lv_at hl 0 rfl) ?_
                        refine st_get hx hb hg hown hK hH (f := 48) (i := 0) hd_48 rfl rfl u_Mo 9 (by decide) (hg _ wd_478) (v := .ref (ad 56 0)) rfl d_Mo_choose_59 ?_
                        refine lv_iload hx hb d_Mo_choose_62 (lv_at hl 5 rfl) ?_
                        refine lv_iconst (v := 0) hx hb d_Mo_choose_64 (by decide) ?_
                        obtain ⟨g65, h1⟩ := gd_some h1
                        refine st_iast hx hb hK hH hS (f := 56) (i := 0) hd_56 rfl g65 d_Mo_choose_65 (fun σ1 H locs eσ1 hH hS => ?_)
                        have h1 := nm_at eσ1 h1
                        obtain ⟨x2, ex2⟩ : ∃ y : Int32, y = v5 + 1 := ⟨_, rfl⟩
                        have h1 := nm_at ex2 h1
                        refine lv_iinc (v := x2) (lv' := [(5, .int x2), (0, .ref (ad 48 0)), (1, .int a1), (2, .int a2), (3, .int a3), (4, .int a4)]) hx hb d_Mo_choose_66 hl (k := 5) rfl (by rw [ex2]; rfl) (by decide) rfl (fun ls hl => ?_)
                        refine lv_goto (tgt := 51) hx hb d_Mo_choose_69 (by decide) ?_
                        cases h1
                        exact ih1 σ1 x2 _ _ ls hH hS (lv_sub hl [1, 2, 3, 4, 5, 0] rfl) hk1
                  obtain ⟨k1, hq1⟩ := lpE_some hq1
                  exact loop1 k1 σ 0 _ _ ls hH hS (lv_sub hl [1, 2, 3, 4, 5, 0] rfl) hq1
                · have h := ie h c42
                  refine lv_bipush (v := (-102)) hx hb d_Mo_choose_45 (by decide) ?_
                  cases h
                  rw [← hQ0]
                  exact W.iret hx hb hr (fun t ht hW => ⟨⟨_, (), rfl, rfl, by dsimp only; rw [ht]; exact hH⟩, hS.F ht⟩) hS.2.2 d_Mo_choose_47
set_option maxHeartbeats 4000000 in
set_option maxRecDepth 100000 in
theorem c_Mo_group (l : Launch) (D : va_G) (aC : Nat → ClassId) (A : Nat → Prop) (ad : Nat → Nat → Nat) (n : Nat) (σ : St) (a1 : Int32) (o : St × Int32) (h : f_Mo_group σ a1 = some o) : Met l y_Mo_group w_Mo_group rm_Mo_group (va_Pc [.ref (ad 48 0), .int a1] (Pre D aC A ad n σ)) (va_Qi (fun r (_ : Unit) => r = o.2) (fun _ t => Hold D aC A ad n o.1 t.heap) A) 0 0 A := by
  refine Met.ofW (cc := prog_13_method_57_code) (maxL := 2) (ret := (some .int)) (by decide) rfl ?_
  intro p e s m args below meth c s₁ B hml hv
  obtain ⟨hargs, hH, hK, hZ⟩ := hv
  have hx := B.exec
  have hb := B.bytes
  have hr := B.returns
  have hts := atoms_spec (ws := w_Mo_group) B.pre
  have hg : ∀ w ∈ gW, w.before args s = true := fun w h => hts w (List.mem_cons_of_mem _ h)
  have hown : s.vm.findClass "PrefixCodesModel" = some m.cls := findClass_of_methodNamed B.named
  have hlocks := B.notSynchronized
  have hS : va_S A s.heap s.heap [] := va_S.rf
  have hl := lv_entry ([.ref (ad 48 0), .int a1]) (n := 2) (Nat.le_of_ble_eq_true rfl)
  rw [show entryFrame m args 2 = entryFrame m (([.ref (ad 48 0), .int a1] : List Value).toArray) 2 by rw [hargs], lg_entry_eq]
  generalize (lg_sl ([.ref (ad 48 0), .int a1]) ++ List.replicate (2 - (lg_sl ([.ref (ad 48 0), .int a1])).length) Slot.unset).toArray = ls at hl ⊢
  have hl : lv_has ls 2 [(0, .ref (ad 48 0)), (1, .int a1)] := hl
  generalize hQ0 : MQ below (va_Qi (fun r (_ : Unit) => r = o.2) (fun _ t => Hold D aC A ad n o.1 t.heap) A) args s 0 0 A = Q0
  unfold f_Mo_group at h
  refine lv_aload_n hx hb d_Mo_group_0 rfl (lv_at hl 0 rfl) ?_
  refine st_get hx hb hg hown hK hH (f := 48) (i := 0) hd_48 rfl rfl u_Mo 23 (by decide) (hg _ wd_576) (v := .int (σ.1 48 0 23)) rfl d_Mo_group_1 ?_
  refine lv_iconst (v := (-1)) hx hb d_Mo_group_4 (by decide) ?_
  refine lv_icmp_ne (tgt := 13) hx hb d_Mo_group_5 (by decide) (fun c5 => ?_) (fun c5 => ?_)
  · have h := ie h c5
    refine lv_iload_n hx hb d_Mo_group_13 rfl (lv_at hl 1 rfl) ?_
    refine lv_if_lt (tgt := 25) hx hb d_Mo_group_14 (by decide) (fun c14 => ?_) (fun c14 => ?_)
    · have h := it h c14
      refine lv_bipush (v := (-102)) hx hb d_Mo_group_25 (by decide) ?_
      refine lv_goto (tgt := 36) hx hb d_Mo_group_27 (by decide) ?_
      cases h
      rw [← hQ0]
      exact W.iret hx hb hr (fun t ht hW => ⟨⟨_, (), rfl, rfl, by dsimp only; rw [ht]; exact hH⟩, hS.F ht⟩) hS.2.2 d_Mo_group_36
    · have h := ie h c14
      refine lv_iload_n hx hb d_Mo_group_17 rfl (lv_at hl 1 rfl) ?_
      refine lv_aload_n hx hb d_Mo_group_18 rfl (lv_at hl 0 rfl) ?_
      refine st_get hx hb hg hown hK hH (f := 48) (i := 0) hd_48 rfl rfl u_Mo 26 (by decide) (hg _ wd_570) (v := .int (σ.1 48 0 26)) rfl d_Mo_group_19 ?_
      refine lv_icmp_lt (tgt := 30) hx hb d_Mo_group_22 (by decide) (fun c22 => ?_) (fun c22 => ?_)
      · have h := it h c22
        refine lv_aload_n hx hb d_Mo_group_30 rfl (lv_at hl 0 rfl) ?_
        refine st_get hx hb hg hown hK hH (f := 48) (i := 0) hd_48 rfl rfl u_Mo 27 (by decide) (hg _ wd_574) (v := .ref (ad 65 0)) rfl d_Mo_group_31 ?_
        refine lv_iload_n hx hb d_Mo_group_34 rfl (lv_at hl 1 rfl) ?_
        obtain ⟨g35, h⟩ := gd_some h
        refine st_iald hx hb hK hH (f := 65) (i := 0) hd_65 rfl g35 d_Mo_group_35 ?_
        cases h
        rw [← hQ0]
        exact W.iret hx hb hr (fun t ht hW => ⟨⟨_, (), rfl, rfl, by dsimp only; rw [ht]; exact hH⟩, hS.F ht⟩) hS.2.2 d_Mo_group_36
      · have h := ie h c22
        refine lv_bipush (v := (-102)) hx hb d_Mo_group_25 (by decide) ?_
        refine lv_goto (tgt := 36) hx hb d_Mo_group_27 (by decide) ?_
        cases h
        rw [← hQ0]
        exact W.iret hx hb hr (fun t ht hW => ⟨⟨_, (), rfl, rfl, by dsimp only; rw [ht]; exact hH⟩, hS.F ht⟩) hS.2.2 d_Mo_group_36
  · have h := it h c5
    refine lv_bipush (v := (-103)) hx hb d_Mo_group_8 (by decide) ?_
    refine lv_goto (tgt := 36) hx hb d_Mo_group_10 (by decide) ?_
    cases h
    rw [← hQ0]
    exact W.iret hx hb hr (fun t ht hW => ⟨⟨_, (), rfl, rfl, by dsimp only; rw [ht]; exact hH⟩, hS.F ht⟩) hS.2.2 d_Mo_group_36
