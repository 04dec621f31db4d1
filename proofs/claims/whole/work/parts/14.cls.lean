theorem d_Manners_appendSteps_0 : decode prog_5_method_6_code 0 = .ok (.aload_n 1, 1) := by decide +kernel
theorem d_Manners_appendSteps_1 : decode prog_5_method_6_code 1 = .ok (.getfield 35, 3) := by decide +kernel
theorem d_Manners_appendSteps_4 : decode prog_5_method_6_code 4 = .ok (.iconst 0, 1) := by decide +kernel
theorem d_Manners_appendSteps_5 : decode prog_5_method_6_code 5 = .ok (.iaload, 1) := by decide +kernel
theorem d_Manners_appendSteps_6 : decode prog_5_method_6_code 6 = .ok (.istore_n 2, 1) := by decide +kernel
theorem d_Manners_appendSteps_7 : decode prog_5_method_6_code 7 = .ok (.aload_n 0, 1) := by decide +kernel
theorem d_Manners_appendSteps_8 : decode prog_5_method_6_code 8 = .ok (.getfield 15, 3) := by decide +kernel
theorem d_Manners_appendSteps_11 : decode prog_5_method_6_code 11 = .ok (.iload_n 2, 1) := by decide +kernel
theorem d_Manners_appendSteps_12 : decode prog_5_method_6_code 12 = .ok (.iconst 4, 1) := by decide +kernel
theorem d_Manners_appendSteps_13 : decode prog_5_method_6_code 13 = .ok (.invokevirtual 59, 3) := by decide +kernel
theorem d_Manners_appendSteps_16 : decode prog_5_method_6_code 16 = .ok (.iconst 0, 1) := by decide +kernel
theorem d_Manners_appendSteps_17 : decode prog_5_method_6_code 17 = .ok (.istore_n 3, 1) := by decide +kernel
theorem d_Manners_appendSteps_18 : decode prog_5_method_6_code 18 = .ok (.iload_n 3, 1) := by decide +kernel
theorem d_Manners_appendSteps_19 : decode prog_5_method_6_code 19 = .ok (.aload_n 1, 1) := by decide +kernel
theorem d_Manners_appendSteps_20 : decode prog_5_method_6_code 20 = .ok (.getfield 40, 3) := by decide +kernel
theorem d_Manners_appendSteps_23 : decode prog_5_method_6_code 23 = .ok (.if_icmp .ge 78, 3) := by decide +kernel
theorem d_Manners_appendSteps_26 : decode prog_5_method_6_code 26 = .ok (.aload_n 1, 1) := by decide +kernel
theorem d_Manners_appendSteps_27 : decode prog_5_method_6_code 27 = .ok (.getfield 35, 3) := by decide +kernel
theorem d_Manners_appendSteps_30 : decode prog_5_method_6_code 30 = .ok (.iload_n 3, 1) := by decide +kernel
theorem d_Manners_appendSteps_31 : decode prog_5_method_6_code 31 = .ok (.iaload, 1) := by decide +kernel
theorem d_Manners_appendSteps_32 : decode prog_5_method_6_code 32 = .ok (.istore 4, 2) := by decide +kernel
theorem d_Manners_appendSteps_34 : decode prog_5_method_6_code 34 = .ok (.iload_n 2, 1) := by decide +kernel
theorem d_Manners_appendSteps_35 : decode prog_5_method_6_code 35 = .ok (.istore 5, 2) := by decide +kernel
theorem d_Manners_appendSteps_37 : decode prog_5_method_6_code 37 = .ok (.iload 5, 2) := by decide +kernel
theorem d_Manners_appendSteps_39 : decode prog_5_method_6_code 39 = .ok (.iload 4, 2) := by decide +kernel
theorem d_Manners_appendSteps_41 : decode prog_5_method_6_code 41 = .ok (.if_icmp .ge 18, 3) := by decide +kernel
theorem d_Manners_appendSteps_44 : decode prog_5_method_6_code 44 = .ok (.aload_n 0, 1) := by decide +kernel
theorem d_Manners_appendSteps_45 : decode prog_5_method_6_code 45 = .ok (.getfield 15, 3) := by decide +kernel
theorem d_Manners_appendSteps_48 : decode prog_5_method_6_code 48 = .ok (.iconst 2, 1) := by decide +kernel
theorem d_Manners_appendSteps_49 : decode prog_5_method_6_code 49 = .ok (.iconst 2, 1) := by decide +kernel
theorem d_Manners_appendSteps_50 : decode prog_5_method_6_code 50 = .ok (.invokevirtual 59, 3) := by decide +kernel
theorem d_Manners_appendSteps_53 : decode prog_5_method_6_code 53 = .ok (.iinc 5 1, 3) := by decide +kernel
theorem d_Manners_appendSteps_56 : decode prog_5_method_6_code 56 = .ok (.goto (-19), 3) := by decide +kernel
theorem d_Manners_appendSteps_59 : decode prog_5_method_6_code 59 = .ok (.iload_n 2, 1) := by decide +kernel
theorem d_Manners_appendSteps_60 : decode prog_5_method_6_code 60 = .ok (.istore 5, 2) := by decide +kernel
theorem d_Manners_appendSteps_62 : decode prog_5_method_6_code 62 = .ok (.iload 5, 2) := by decide +kernel
theorem d_Manners_appendSteps_64 : decode prog_5_method_6_code 64 = .ok (.iload 4, 2) := by decide +kernel
theorem d_Manners_appendSteps_66 : decode prog_5_method_6_code 66 = .ok (.if_icmp .le 18, 3) := by decide +kernel
theorem d_Manners_appendSteps_69 : decode prog_5_method_6_code 69 = .ok (.aload_n 0, 1) := by decide +kernel
theorem d_Manners_appendSteps_70 : decode prog_5_method_6_code 70 = .ok (.getfield 15, 3) := by decide +kernel
theorem d_Manners_appendSteps_73 : decode prog_5_method_6_code 73 = .ok (.iconst 3, 1) := by decide +kernel
theorem d_Manners_appendSteps_74 : decode prog_5_method_6_code 74 = .ok (.iconst 2, 1) := by decide +kernel
theorem d_Manners_appendSteps_75 : decode prog_5_method_6_code 75 = .ok (.invokevirtual 59, 3) := by decide +kernel
theorem d_Manners_appendSteps_78 : decode prog_5_method_6_code 78 = .ok (.iinc 5 (-1), 3) := by decide +kernel
theorem d_Manners_appendSteps_81 : decode prog_5_method_6_code 81 = .ok (.goto (-19), 3) := by decide +kernel
theorem d_Manners_appendSteps_84 : decode prog_5_method_6_code 84 = .ok (.aload_n 0, 1) := by decide +kernel
theorem d_Manners_appendSteps_85 : decode prog_5_method_6_code 85 = .ok (.getfield 15, 3) := by decide +kernel
theorem d_Manners_appendSteps_88 : decode prog_5_method_6_code 88 = .ok (.iconst 0, 1) := by decide +kernel
theorem d_Manners_appendSteps_89 : decode prog_5_method_6_code 89 = .ok (.invokevirtual 68, 3) := by decide +kernel
theorem d_Manners_appendSteps_92 : decode prog_5_method_6_code 92 = .ok (.iload 4, 2) := by decide +kernel
theorem d_Manners_appendSteps_94 : decode prog_5_method_6_code 94 = .ok (.istore_n 2, 1) := by decide +kernel
theorem d_Manners_appendSteps_95 : decode prog_5_method_6_code 95 = .ok (.iinc 3 1, 3) := by decide +kernel
theorem d_Manners_appendSteps_98 : decode prog_5_method_6_code 98 = .ok (.goto (-80), 3) := by decide +kernel
theorem d_Manners_appendSteps_101 : decode prog_5_method_6_code 101 = .ok (.return_, 1) := by decide +kernel
theorem d_Commands_runFrom_0 : decode prog_4_method_5_code 0 = .ok (.iload_n 2, 1) := by decide +kernel
theorem d_Commands_runFrom_1 : decode prog_4_method_5_code 1 = .ok (.istore_n 3, 1) := by decide +kernel
theorem d_Commands_runFrom_2 : decode prog_4_method_5_code 2 = .ok (.iload_n 3, 1) := by decide +kernel
theorem d_Commands_runFrom_3 : decode prog_4_method_5_code 3 = .ok (.iload_n 1, 1) := by decide +kernel
theorem d_Commands_runFrom_4 : decode prog_4_method_5_code 4 = .ok (.if_icmp .ge 18, 3) := by decide +kernel
theorem d_Commands_runFrom_7 : decode prog_4_method_5_code 7 = .ok (.aload_n 0, 1) := by decide +kernel
theorem d_Commands_runFrom_8 : decode prog_4_method_5_code 8 = .ok (.iload_n 3, 1) := by decide +kernel
theorem d_Commands_runFrom_9 : decode prog_4_method_5_code 9 = .ok (.iaload, 1) := by decide +kernel
theorem d_Commands_runFrom_10 : decode prog_4_method_5_code 10 = .ok (.aload_n 0, 1) := by decide +kernel
theorem d_Commands_runFrom_11 : decode prog_4_method_5_code 11 = .ok (.iload_n 2, 1) := by decide +kernel
theorem d_Commands_runFrom_12 : decode prog_4_method_5_code 12 = .ok (.iaload, 1) := by decide +kernel
theorem d_Commands_runFrom_13 : decode prog_4_method_5_code 13 = .ok (.if_icmp .ne 9, 3) := by decide +kernel
theorem d_Commands_runFrom_16 : decode prog_4_method_5_code 16 = .ok (.iinc 3 1, 3) := by decide +kernel
theorem d_Commands_runFrom_19 : decode prog_4_method_5_code 19 = .ok (.goto (-17), 3) := by decide +kernel
theorem d_Commands_runFrom_22 : decode prog_4_method_5_code 22 = .ok (.iload_n 3, 1) := by decide +kernel
theorem d_Commands_runFrom_23 : decode prog_4_method_5_code 23 = .ok (.iload_n 2, 1) := by decide +kernel
theorem d_Commands_runFrom_24 : decode prog_4_method_5_code 24 = .ok (.isub, 1) := by decide +kernel
theorem d_Commands_runFrom_25 : decode prog_4_method_5_code 25 = .ok (.ireturn, 1) := by decide +kernel
theorem d_Commands_commandAt_0 : decode prog_4_method_4_code 0 = .ok (.aload_n 0, 1) := by decide +kernel
theorem d_Commands_commandAt_1 : decode prog_4_method_4_code 1 = .ok (.iload_n 1, 1) := by decide +kernel
theorem d_Commands_commandAt_2 : decode prog_4_method_4_code 2 = .ok (.iload_n 2, 1) := by decide +kernel
theorem d_Commands_commandAt_3 : decode prog_4_method_4_code 3 = .ok (.invokestatic 82, 3) := by decide +kernel
theorem d_Commands_commandAt_6 : decode prog_4_method_4_code 6 = .ok (.istore_n 3, 1) := by decide +kernel
theorem d_Commands_commandAt_7 : decode prog_4_method_4_code 7 = .ok (.aload_n 0, 1) := by decide +kernel
theorem d_Commands_commandAt_8 : decode prog_4_method_4_code 8 = .ok (.iload_n 2, 1) := by decide +kernel
theorem d_Commands_commandAt_9 : decode prog_4_method_4_code 9 = .ok (.iaload, 1) := by decide +kernel
theorem d_Commands_commandAt_10 : decode prog_4_method_4_code 10 = .ok (.istore 4, 2) := by decide +kernel
theorem d_Commands_commandAt_12 : decode prog_4_method_4_code 12 = .ok (.iload 4, 2) := by decide +kernel
theorem d_Commands_commandAt_14 : decode prog_4_method_4_code 14 = .ok (.ifCond .ne 15, 3) := by decide +kernel
theorem d_Commands_commandAt_17 : decode prog_4_method_4_code 17 = .ok (.iload_n 3, 1) := by decide +kernel
theorem d_Commands_commandAt_18 : decode prog_4_method_4_code 18 = .ok (.getstatic 67, 3) := by decide +kernel
theorem d_Commands_commandAt_21 : decode prog_4_method_4_code 21 = .ok (.iconst 2, 1) := by decide +kernel
theorem d_Commands_commandAt_22 : decode prog_4_method_4_code 22 = .ok (.iaload, 1) := by decide +kernel
theorem d_Commands_commandAt_23 : decode prog_4_method_4_code 23 = .ok (.if_icmp .lt 6, 3) := by decide +kernel
theorem d_Commands_commandAt_26 : decode prog_4_method_4_code 26 = .ok (.bipush 18, 2) := by decide +kernel
theorem d_Commands_commandAt_28 : decode prog_4_method_4_code 28 = .ok (.ireturn, 1) := by decide +kernel
theorem d_Commands_commandAt_29 : decode prog_4_method_4_code 29 = .ok (.iload 4, 2) := by decide +kernel
theorem d_Commands_commandAt_31 : decode prog_4_method_4_code 31 = .ok (.ifCond .ne 15, 3) := by decide +kernel
theorem d_Commands_commandAt_34 : decode prog_4_method_4_code 34 = .ok (.iload_n 3, 1) := by decide +kernel
theorem d_Commands_commandAt_35 : decode prog_4_method_4_code 35 = .ok (.getstatic 67, 3) := by decide +kernel
theorem d_Commands_commandAt_38 : decode prog_4_method_4_code 38 = .ok (.iconst 1, 1) := by decide +kernel
theorem d_Commands_commandAt_39 : decode prog_4_method_4_code 39 = .ok (.iaload, 1) := by decide +kernel
theorem d_Commands_commandAt_40 : decode prog_4_method_4_code 40 = .ok (.if_icmp .lt 6, 3) := by decide +kernel
theorem d_Commands_commandAt_43 : decode prog_4_method_4_code 43 = .ok (.bipush 17, 2) := by decide +kernel
theorem d_Commands_commandAt_45 : decode prog_4_method_4_code 45 = .ok (.ireturn, 1) := by decide +kernel
theorem d_Commands_commandAt_46 : decode prog_4_method_4_code 46 = .ok (.iload_n 2, 1) := by decide +kernel
theorem d_Commands_commandAt_47 : decode prog_4_method_4_code 47 = .ok (.ifCond .le 17, 3) := by decide +kernel
theorem d_Commands_commandAt_50 : decode prog_4_method_4_code 50 = .ok (.aload_n 0, 1) := by decide +kernel
theorem d_Commands_commandAt_51 : decode prog_4_method_4_code 51 = .ok (.iload_n 2, 1) := by decide +kernel
theorem d_Commands_commandAt_52 : decode prog_4_method_4_code 52 = .ok (.iconst 1, 1) := by decide +kernel
theorem d_Commands_commandAt_53 : decode prog_4_method_4_code 53 = .ok (.isub, 1) := by decide +kernel
theorem d_Commands_commandAt_54 : decode prog_4_method_4_code 54 = .ok (.iaload, 1) := by decide +kernel
theorem d_Commands_commandAt_55 : decode prog_4_method_4_code 55 = .ok (.iload 4, 2) := by decide +kernel
theorem d_Commands_commandAt_57 : decode prog_4_method_4_code 57 = .ok (.if_icmp .ne 7, 3) := by decide +kernel
theorem d_Commands_commandAt_60 : decode prog_4_method_4_code 60 = .ok (.iconst 1, 1) := by decide +kernel
theorem d_Commands_commandAt_61 : decode prog_4_method_4_code 61 = .ok (.goto 4, 3) := by decide +kernel
theorem d_Commands_commandAt_64 : decode prog_4_method_4_code 64 = .ok (.iconst 0, 1) := by decide +kernel
theorem d_Commands_commandAt_65 : decode prog_4_method_4_code 65 = .ok (.istore 5, 2) := by decide +kernel
theorem d_Commands_commandAt_67 : decode prog_4_method_4_code 67 = .ok (.iload 4, 2) := by decide +kernel
theorem d_Commands_commandAt_69 : decode prog_4_method_4_code 69 = .ok (.ifCond .le 20, 3) := by decide +kernel
theorem d_Commands_commandAt_72 : decode prog_4_method_4_code 72 = .ok (.iload 5, 2) := by decide +kernel
theorem d_Commands_commandAt_74 : decode prog_4_method_4_code 74 = .ok (.ifCond .eq 15, 3) := by decide +kernel
theorem d_Commands_commandAt_77 : decode prog_4_method_4_code 77 = .ok (.iload_n 3, 1) := by decide +kernel
theorem d_Commands_commandAt_78 : decode prog_4_method_4_code 78 = .ok (.getstatic 67, 3) := by decide +kernel
theorem d_Commands_commandAt_81 : decode prog_4_method_4_code 81 = .ok (.iconst 0, 1) := by decide +kernel
theorem d_Commands_commandAt_82 : decode prog_4_method_4_code 82 = .ok (.iaload, 1) := by decide +kernel
theorem d_Commands_commandAt_83 : decode prog_4_method_4_code 83 = .ok (.if_icmp .lt 6, 3) := by decide +kernel
theorem d_Commands_commandAt_86 : decode prog_4_method_4_code 86 = .ok (.bipush 16, 2) := by decide +kernel
theorem d_Commands_commandAt_88 : decode prog_4_method_4_code 88 = .ok (.ireturn, 1) := by decide +kernel
theorem d_Commands_commandAt_89 : decode prog_4_method_4_code 89 = .ok (.iload 4, 2) := by decide +kernel
theorem d_Commands_commandAt_91 : decode prog_4_method_4_code 91 = .ok (.ireturn, 1) := by decide +kernel
theorem d_Commands_gather_0 : decode prog_4_method_3_code 0 = .ok (.aload_n 0, 1) := by decide +kernel
theorem d_Commands_gather_1 : decode prog_4_method_3_code 1 = .ok (.iconst 0, 1) := by decide +kernel
theorem d_Commands_gather_2 : decode prog_4_method_3_code 2 = .ok (.putfield 30, 3) := by decide +kernel
theorem d_Commands_gather_5 : decode prog_4_method_3_code 5 = .ok (.aload_n 0, 1) := by decide +kernel
theorem d_Commands_gather_6 : decode prog_4_method_3_code 6 = .ok (.getfield 20, 3) := by decide +kernel
theorem d_Commands_gather_9 : decode prog_4_method_3_code 9 = .ok (.iconst 0, 1) := by decide +kernel
theorem d_Commands_gather_10 : decode prog_4_method_3_code 10 = .ok (.invokestatic 73, 3) := by decide +kernel
theorem d_Commands_gather_13 : decode prog_4_method_3_code 13 = .ok (.iconst 0, 1) := by decide +kernel
theorem d_Commands_gather_14 : decode prog_4_method_3_code 14 = .ok (.istore_n 3, 1) := by decide +kernel
theorem d_Commands_gather_15 : decode prog_4_method_3_code 15 = .ok (.iload_n 3, 1) := by decide +kernel
theorem d_Commands_gather_16 : decode prog_4_method_3_code 16 = .ok (.iload_n 2, 1) := by decide +kernel
theorem d_Commands_gather_17 : decode prog_4_method_3_code 17 = .ok (.if_icmp .ge 96, 3) := by decide +kernel
theorem d_Commands_gather_20 : decode prog_4_method_3_code 20 = .ok (.aload_n 1, 1) := by decide +kernel
theorem d_Commands_gather_21 : decode prog_4_method_3_code 21 = .ok (.iload_n 2, 1) := by decide +kernel
theorem d_Commands_gather_22 : decode prog_4_method_3_code 22 = .ok (.iload_n 3, 1) := by decide +kernel
theorem d_Commands_gather_23 : decode prog_4_method_3_code 23 = .ok (.invokestatic 78, 3) := by decide +kernel
theorem d_Commands_gather_26 : decode prog_4_method_3_code 26 = .ok (.istore 4, 2) := by decide +kernel
theorem d_Commands_gather_28 : decode prog_4_method_3_code 28 = .ok (.iconst 1, 1) := by decide +kernel
theorem d_Commands_gather_29 : decode prog_4_method_3_code 29 = .ok (.istore 5, 2) := by decide +kernel
theorem d_Commands_gather_31 : decode prog_4_method_3_code 31 = .ok (.iload 4, 2) := by decide +kernel
theorem d_Commands_gather_33 : decode prog_4_method_3_code 33 = .ok (.bipush 16, 2) := by decide +kernel
theorem d_Commands_gather_35 : decode prog_4_method_3_code 35 = .ok (.if_icmp .lt 23, 3) := by decide +kernel
theorem d_Commands_gather_38 : decode prog_4_method_3_code 38 = .ok (.aload_n 1, 1) := by decide +kernel
theorem d_Commands_gather_39 : decode prog_4_method_3_code 39 = .ok (.iload_n 2, 1) := by decide +kernel
theorem d_Commands_gather_40 : decode prog_4_method_3_code 40 = .ok (.iload_n 3, 1) := by decide +kernel
theorem d_Commands_gather_41 : decode prog_4_method_3_code 41 = .ok (.invokestatic 82, 3) := by decide +kernel
theorem d_Commands_gather_44 : decode prog_4_method_3_code 44 = .ok (.getstatic 85, 3) := by decide +kernel
theorem d_Commands_gather_47 : decode prog_4_method_3_code 47 = .ok (.iload 4, 2) := by decide +kernel
theorem d_Commands_gather_49 : decode prog_4_method_3_code 49 = .ok (.bipush 16, 2) := by decide +kernel
theorem d_Commands_gather_51 : decode prog_4_method_3_code 51 = .ok (.isub, 1) := by decide +kernel
theorem d_Commands_gather_52 : decode prog_4_method_3_code 52 = .ok (.iaload, 1) := by decide +kernel
theorem d_Commands_gather_53 : decode prog_4_method_3_code 53 = .ok (.invokestatic 88, 3) := by decide +kernel
theorem d_Commands_gather_56 : decode prog_4_method_3_code 56 = .ok (.istore 5, 2) := by decide +kernel
theorem d_Commands_gather_58 : decode prog_4_method_3_code 58 = .ok (.aload_n 0, 1) := by decide +kernel
theorem d_Commands_gather_59 : decode prog_4_method_3_code 59 = .ok (.getfield 24, 3) := by decide +kernel
theorem d_Commands_gather_62 : decode prog_4_method_3_code 62 = .ok (.aload_n 0, 1) := by decide +kernel
theorem d_Commands_gather_63 : decode prog_4_method_3_code 63 = .ok (.getfield 30, 3) := by decide +kernel
theorem d_Commands_gather_66 : decode prog_4_method_3_code 66 = .ok (.iload 4, 2) := by decide +kernel
theorem d_Commands_gather_68 : decode prog_4_method_3_code 68 = .ok (.iastore, 1) := by decide +kernel
theorem d_Commands_gather_69 : decode prog_4_method_3_code 69 = .ok (.aload_n 0, 1) := by decide +kernel
theorem d_Commands_gather_70 : decode prog_4_method_3_code 70 = .ok (.getfield 27, 3) := by decide +kernel
theorem d_Commands_gather_73 : decode prog_4_method_3_code 73 = .ok (.aload_n 0, 1) := by decide +kernel
theorem d_Commands_gather_74 : decode prog_4_method_3_code 74 = .ok (.getfield 30, 3) := by decide +kernel
theorem d_Commands_gather_77 : decode prog_4_method_3_code 77 = .ok (.iload 5, 2) := by decide +kernel
theorem d_Commands_gather_79 : decode prog_4_method_3_code 79 = .ok (.iastore, 1) := by decide +kernel
theorem d_Commands_gather_80 : decode prog_4_method_3_code 80 = .ok (.aload_n 0, 1) := by decide +kernel
theorem d_Commands_gather_81 : decode prog_4_method_3_code 81 = .ok (.dup, 1) := by decide +kernel
theorem d_Commands_gather_82 : decode prog_4_method_3_code 82 = .ok (.getfield 30, 3) := by decide +kernel
theorem d_Commands_gather_85 : decode prog_4_method_3_code 85 = .ok (.iconst 1, 1) := by decide +kernel
theorem d_Commands_gather_86 : decode prog_4_method_3_code 86 = .ok (.iadd, 1) := by decide +kernel
theorem d_Commands_gather_87 : decode prog_4_method_3_code 87 = .ok (.putfield 30, 3) := by decide +kernel
theorem d_Commands_gather_90 : decode prog_4_method_3_code 90 = .ok (.aload_n 0, 1) := by decide +kernel
theorem d_Commands_gather_91 : decode prog_4_method_3_code 91 = .ok (.getfield 20, 3) := by decide +kernel
theorem d_Commands_gather_94 : decode prog_4_method_3_code 94 = .ok (.iload 4, 2) := by decide +kernel
theorem d_Commands_gather_96 : decode prog_4_method_3_code 96 = .ok (.dup2, 1) := by decide +kernel
theorem d_Commands_gather_97 : decode prog_4_method_3_code 97 = .ok (.iaload, 1) := by decide +kernel
theorem d_Commands_gather_98 : decode prog_4_method_3_code 98 = .ok (.iconst 1, 1) := by decide +kernel
theorem d_Commands_gather_99 : decode prog_4_method_3_code 99 = .ok (.iadd, 1) := by decide +kernel
theorem d_Commands_gather_100 : decode prog_4_method_3_code 100 = .ok (.iastore, 1) := by decide +kernel
theorem d_Commands_gather_101 : decode prog_4_method_3_code 101 = .ok (.iload_n 3, 1) := by decide +kernel
theorem d_Commands_gather_102 : decode prog_4_method_3_code 102 = .ok (.iload 5, 2) := by decide +kernel
theorem d_Commands_gather_104 : decode prog_4_method_3_code 104 = .ok (.iconst 1, 1) := by decide +kernel
theorem d_Commands_gather_105 : decode prog_4_method_3_code 105 = .ok (.invokestatic 94, 3) := by decide +kernel
theorem d_Commands_gather_108 : decode prog_4_method_3_code 108 = .ok (.iadd, 1) := by decide +kernel
theorem d_Commands_gather_109 : decode prog_4_method_3_code 109 = .ok (.istore_n 3, 1) := by decide +kernel
theorem d_Commands_gather_110 : decode prog_4_method_3_code 110 = .ok (.goto (-95), 3) := by decide +kernel
theorem d_Commands_gather_113 : decode prog_4_method_3_code 113 = .ok (.return_, 1) := by decide +kernel
theorem d_Commands_appendCode_0 : decode prog_4_method_6_code 0 = .ok (.bipush 19, 2) := by decide +kernel
theorem d_Commands_appendCode_2 : decode prog_4_method_6_code 2 = .ok (.istore_n 1, 1) := by decide +kernel
theorem d_Commands_appendCode_3 : decode prog_4_method_6_code 3 = .ok (.iload_n 1, 1) := by decide +kernel
theorem d_Commands_appendCode_4 : decode prog_4_method_6_code 4 = .ok (.iconst 4, 1) := by decide +kernel
theorem d_Commands_appendCode_5 : decode prog_4_method_6_code 5 = .ok (.if_icmp .le 27, 3) := by decide +kernel
theorem d_Commands_appendCode_8 : decode prog_4_method_6_code 8 = .ok (.aload_n 0, 1) := by decide +kernel
theorem d_Commands_appendCode_9 : decode prog_4_method_6_code 9 = .ok (.getfield 16, 3) := by decide +kernel
theorem d_Commands_appendCode_12 : decode prog_4_method_6_code 12 = .ok (.getfield 58, 3) := by decide +kernel
theorem d_Commands_appendCode_15 : decode prog_4_method_6_code 15 = .ok (.getstatic 97, 3) := by decide +kernel
theorem d_Commands_appendCode_18 : decode prog_4_method_6_code 18 = .ok (.iload_n 1, 1) := by decide +kernel
theorem d_Commands_appendCode_19 : decode prog_4_method_6_code 19 = .ok (.iconst 1, 1) := by decide +kernel
theorem d_Commands_appendCode_20 : decode prog_4_method_6_code 20 = .ok (.isub, 1) := by decide +kernel
theorem d_Commands_appendCode_21 : decode prog_4_method_6_code 21 = .ok (.iaload, 1) := by decide +kernel
theorem d_Commands_appendCode_22 : decode prog_4_method_6_code 22 = .ok (.iaload, 1) := by decide +kernel
theorem d_Commands_appendCode_23 : decode prog_4_method_6_code 23 = .ok (.ifCond .ne 9, 3) := by decide +kernel
theorem d_Commands_appendCode_26 : decode prog_4_method_6_code 26 = .ok (.iinc 1 (-1), 3) := by decide +kernel
theorem d_Commands_appendCode_29 : decode prog_4_method_6_code 29 = .ok (.goto (-26), 3) := by decide +kernel
theorem d_Commands_appendCode_32 : decode prog_4_method_6_code 32 = .ok (.aload_n 0, 1) := by decide +kernel
theorem d_Commands_appendCode_33 : decode prog_4_method_6_code 33 = .ok (.getfield 34, 3) := by decide +kernel
theorem d_Commands_appendCode_36 : decode prog_4_method_6_code 36 = .ok (.iload_n 1, 1) := by decide +kernel
theorem d_Commands_appendCode_37 : decode prog_4_method_6_code 37 = .ok (.iconst 4, 1) := by decide +kernel
theorem d_Commands_appendCode_38 : decode prog_4_method_6_code 38 = .ok (.isub, 1) := by decide +kernel
theorem d_Commands_appendCode_39 : decode prog_4_method_6_code 39 = .ok (.iconst 4, 1) := by decide +kernel
theorem d_Commands_appendCode_40 : decode prog_4_method_6_code 40 = .ok (.invokevirtual 61, 3) := by decide +kernel
theorem d_Commands_appendCode_43 : decode prog_4_method_6_code 43 = .ok (.iconst 0, 1) := by decide +kernel
theorem d_Commands_appendCode_44 : decode prog_4_method_6_code 44 = .ok (.istore_n 2, 1) := by decide +kernel
theorem d_Commands_appendCode_45 : decode prog_4_method_6_code 45 = .ok (.iload_n 2, 1) := by decide +kernel
theorem d_Commands_appendCode_46 : decode prog_4_method_6_code 46 = .ok (.iload_n 1, 1) := by decide +kernel
theorem d_Commands_appendCode_47 : decode prog_4_method_6_code 47 = .ok (.if_icmp .ge 30, 3) := by decide +kernel
theorem d_Commands_appendCode_50 : decode prog_4_method_6_code 50 = .ok (.aload_n 0, 1) := by decide +kernel
theorem d_Commands_appendCode_51 : decode prog_4_method_6_code 51 = .ok (.getfield 34, 3) := by decide +kernel
theorem d_Commands_appendCode_54 : decode prog_4_method_6_code 54 = .ok (.aload_n 0, 1) := by decide +kernel
theorem d_Commands_appendCode_55 : decode prog_4_method_6_code 55 = .ok (.getfield 16, 3) := by decide +kernel
theorem d_Commands_appendCode_58 : decode prog_4_method_6_code 58 = .ok (.getfield 58, 3) := by decide +kernel
theorem d_Commands_appendCode_61 : decode prog_4_method_6_code 61 = .ok (.getstatic 97, 3) := by decide +kernel
theorem d_Commands_appendCode_64 : decode prog_4_method_6_code 64 = .ok (.iload_n 2, 1) := by decide +kernel
theorem d_Commands_appendCode_65 : decode prog_4_method_6_code 65 = .ok (.iaload, 1) := by decide +kernel
theorem d_Commands_appendCode_66 : decode prog_4_method_6_code 66 = .ok (.iaload, 1) := by decide +kernel
theorem d_Commands_appendCode_67 : decode prog_4_method_6_code 67 = .ok (.iconst 3, 1) := by decide +kernel
theorem d_Commands_appendCode_68 : decode prog_4_method_6_code 68 = .ok (.invokevirtual 61, 3) := by decide +kernel
theorem d_Commands_appendCode_71 : decode prog_4_method_6_code 71 = .ok (.iinc 2 1, 3) := by decide +kernel
theorem d_Commands_appendCode_74 : decode prog_4_method_6_code 74 = .ok (.goto (-29), 3) := by decide +kernel
theorem d_Commands_appendCode_77 : decode prog_4_method_6_code 77 = .ok (.return_, 1) := by decide +kernel
theorem d_Commands_append_0 : decode prog_4_method_2_code 0 = .ok (.aload_n 0, 1) := by decide +kernel
theorem d_Commands_append_1 : decode prog_4_method_2_code 1 = .ok (.aload_n 1, 1) := by decide +kernel
theorem d_Commands_append_2 : decode prog_4_method_2_code 2 = .ok (.iload_n 2, 1) := by decide +kernel
theorem d_Commands_append_3 : decode prog_4_method_2_code 3 = .ok (.invokevirtual 42, 3) := by decide +kernel
theorem d_Commands_append_6 : decode prog_4_method_2_code 6 = .ok (.aload_n 0, 1) := by decide +kernel
theorem d_Commands_append_7 : decode prog_4_method_2_code 7 = .ok (.getfield 38, 3) := by decide +kernel
theorem d_Commands_append_10 : decode prog_4_method_2_code 10 = .ok (.aload_n 0, 1) := by decide +kernel
theorem d_Commands_append_11 : decode prog_4_method_2_code 11 = .ok (.getfield 20, 3) := by decide +kernel
theorem d_Commands_append_14 : decode prog_4_method_2_code 14 = .ok (.bipush 7, 2) := by decide +kernel
theorem d_Commands_append_16 : decode prog_4_method_2_code 16 = .ok (.aload_n 0, 1) := by decide +kernel
theorem d_Commands_append_17 : decode prog_4_method_2_code 17 = .ok (.getfield 16, 3) := by decide +kernel
theorem d_Commands_append_20 : decode prog_4_method_2_code 20 = .ok (.invokevirtual 46, 3) := by decide +kernel
theorem d_Commands_append_23 : decode prog_4_method_2_code 23 = .ok (.aload_n 0, 1) := by decide +kernel
theorem d_Commands_append_24 : decode prog_4_method_2_code 24 = .ok (.invokevirtual 52, 3) := by decide +kernel
theorem d_Commands_append_27 : decode prog_4_method_2_code 27 = .ok (.iconst 0, 1) := by decide +kernel
theorem d_Commands_append_28 : decode prog_4_method_2_code 28 = .ok (.istore_n 3, 1) := by decide +kernel
theorem d_Commands_append_29 : decode prog_4_method_2_code 29 = .ok (.iload_n 3, 1) := by decide +kernel
theorem d_Commands_append_30 : decode prog_4_method_2_code 30 = .ok (.aload_n 0, 1) := by decide +kernel
theorem d_Commands_append_31 : decode prog_4_method_2_code 31 = .ok (.getfield 30, 3) := by decide +kernel
theorem d_Commands_append_34 : decode prog_4_method_2_code 34 = .ok (.if_icmp .ge 84, 3) := by decide +kernel
theorem d_Commands_append_37 : decode prog_4_method_2_code 37 = .ok (.aload_n 0, 1) := by decide +kernel
theorem d_Commands_append_38 : decode prog_4_method_2_code 38 = .ok (.getfield 24, 3) := by decide +kernel
theorem d_Commands_append_41 : decode prog_4_method_2_code 41 = .ok (.iload_n 3, 1) := by decide +kernel
theorem d_Commands_append_42 : decode prog_4_method_2_code 42 = .ok (.iaload, 1) := by decide +kernel
theorem d_Commands_append_43 : decode prog_4_method_2_code 43 = .ok (.istore 4, 2) := by decide +kernel
theorem d_Commands_append_45 : decode prog_4_method_2_code 45 = .ok (.aload_n 0, 1) := by decide +kernel
theorem d_Commands_append_46 : decode prog_4_method_2_code 46 = .ok (.getfield 34, 3) := by decide +kernel
theorem d_Commands_append_49 : decode prog_4_method_2_code 49 = .ok (.aload_n 0, 1) := by decide +kernel
theorem d_Commands_append_50 : decode prog_4_method_2_code 50 = .ok (.getfield 16, 3) := by decide +kernel
theorem d_Commands_append_53 : decode prog_4_method_2_code 53 = .ok (.getfield 55, 3) := by decide +kernel
theorem d_Commands_append_56 : decode prog_4_method_2_code 56 = .ok (.iload 4, 2) := by decide +kernel
theorem d_Commands_append_58 : decode prog_4_method_2_code 58 = .ok (.iaload, 1) := by decide +kernel
theorem d_Commands_append_59 : decode prog_4_method_2_code 59 = .ok (.aload_n 0, 1) := by decide +kernel
theorem d_Commands_append_60 : decode prog_4_method_2_code 60 = .ok (.getfield 16, 3) := by decide +kernel
theorem d_Commands_append_63 : decode prog_4_method_2_code 63 = .ok (.getfield 58, 3) := by decide +kernel
theorem d_Commands_append_66 : decode prog_4_method_2_code 66 = .ok (.iload 4, 2) := by decide +kernel
theorem d_Commands_append_68 : decode prog_4_method_2_code 68 = .ok (.iaload, 1) := by decide +kernel
theorem d_Commands_append_69 : decode prog_4_method_2_code 69 = .ok (.invokevirtual 61, 3) := by decide +kernel
theorem d_Commands_append_72 : decode prog_4_method_2_code 72 = .ok (.iload 4, 2) := by decide +kernel
theorem d_Commands_append_74 : decode prog_4_method_2_code 74 = .ok (.bipush 16, 2) := by decide +kernel
theorem d_Commands_append_76 : decode prog_4_method_2_code 76 = .ok (.if_icmp .lt 36, 3) := by decide +kernel
theorem d_Commands_append_79 : decode prog_4_method_2_code 79 = .ok (.iload 4, 2) := by decide +kernel
theorem d_Commands_append_81 : decode prog_4_method_2_code 81 = .ok (.bipush 16, 2) := by decide +kernel
theorem d_Commands_append_83 : decode prog_4_method_2_code 83 = .ok (.isub, 1) := by decide +kernel
theorem d_Commands_append_84 : decode prog_4_method_2_code 84 = .ok (.istore 5, 2) := by decide +kernel
theorem d_Commands_append_86 : decode prog_4_method_2_code 86 = .ok (.aload_n 0, 1) := by decide +kernel
theorem d_Commands_append_87 : decode prog_4_method_2_code 87 = .ok (.getfield 34, 3) := by decide +kernel
theorem d_Commands_append_90 : decode prog_4_method_2_code 90 = .ok (.aload_n 0, 1) := by decide +kernel
theorem d_Commands_append_91 : decode prog_4_method_2_code 91 = .ok (.getfield 27, 3) := by decide +kernel
theorem d_Commands_append_94 : decode prog_4_method_2_code 94 = .ok (.iload_n 3, 1) := by decide +kernel
theorem d_Commands_append_95 : decode prog_4_method_2_code 95 = .ok (.iaload, 1) := by decide +kernel
theorem d_Commands_append_96 : decode prog_4_method_2_code 96 = .ok (.getstatic 67, 3) := by decide +kernel
theorem d_Commands_append_99 : decode prog_4_method_2_code 99 = .ok (.iload 5, 2) := by decide +kernel
theorem d_Commands_append_101 : decode prog_4_method_2_code 101 = .ok (.iaload, 1) := by decide +kernel
theorem d_Commands_append_102 : decode prog_4_method_2_code 102 = .ok (.isub, 1) := by decide +kernel
theorem d_Commands_append_103 : decode prog_4_method_2_code 103 = .ok (.getstatic 70, 3) := by decide +kernel
theorem d_Commands_append_106 : decode prog_4_method_2_code 106 = .ok (.iload 5, 2) := by decide +kernel
theorem d_Commands_append_108 : decode prog_4_method_2_code 108 = .ok (.iaload, 1) := by decide +kernel
theorem d_Commands_append_109 : decode prog_4_method_2_code 109 = .ok (.invokevirtual 61, 3) := by decide +kernel
theorem d_Commands_append_112 : decode prog_4_method_2_code 112 = .ok (.iinc 3 1, 3) := by decide +kernel
theorem d_Commands_append_115 : decode prog_4_method_2_code 115 = .ok (.goto (-86), 3) := by decide +kernel
theorem d_Commands_append_118 : decode prog_4_method_2_code 118 = .ok (.return_, 1) := by decide +kernel
theorem d_Manners_append_0 : decode prog_5_method_2_code 0 = .ok (.iload_n 2, 1) := by decide +kernel
theorem d_Manners_append_1 : decode prog_5_method_2_code 1 = .ok (.lookupswitch 43 #[(0, 27), (1, 35)], 27) := by decide +kernel
theorem d_Manners_append_28 : decode prog_5_method_2_code 28 = .ok (.aload_n 0, 1) := by decide +kernel
theorem d_Manners_append_29 : decode prog_5_method_2_code 29 = .ok (.aload_n 1, 1) := by decide +kernel
theorem d_Manners_append_30 : decode prog_5_method_2_code 30 = .ok (.invokevirtual 28, 3) := by decide +kernel
theorem d_Manners_append_33 : decode prog_5_method_2_code 33 = .ok (.goto 26, 3) := by decide +kernel
theorem d_Manners_append_36 : decode prog_5_method_2_code 36 = .ok (.aload_n 0, 1) := by decide +kernel
theorem d_Manners_append_37 : decode prog_5_method_2_code 37 = .ok (.aload_n 1, 1) := by decide +kernel
theorem d_Manners_append_38 : decode prog_5_method_2_code 38 = .ok (.invokevirtual 32, 3) := by decide +kernel
theorem d_Manners_append_41 : decode prog_5_method_2_code 41 = .ok (.goto 18, 3) := by decide +kernel
theorem d_Manners_append_44 : decode prog_5_method_2_code 44 = .ok (.aload_n 0, 1) := by decide +kernel
theorem d_Manners_append_45 : decode prog_5_method_2_code 45 = .ok (.getfield 24, 3) := by decide +kernel
theorem d_Manners_append_48 : decode prog_5_method_2_code 48 = .ok (.aload_n 1, 1) := by decide +kernel
theorem d_Manners_append_49 : decode prog_5_method_2_code 49 = .ok (.getfield 35, 3) := by decide +kernel
theorem d_Manners_append_52 : decode prog_5_method_2_code 52 = .ok (.aload_n 1, 1) := by decide +kernel
theorem d_Manners_append_53 : decode prog_5_method_2_code 53 = .ok (.getfield 40, 3) := by decide +kernel
theorem d_Manners_append_56 : decode prog_5_method_2_code 56 = .ok (.invokevirtual 44, 3) := by decide +kernel
theorem d_Manners_append_59 : decode prog_5_method_2_code 59 = .ok (.return_, 1) := by decide +kernel
theorem d_Stream_settle_0 : decode prog_9_method_6_code 0 = .ok (.aload_n 0, 1) := by decide +kernel
theorem d_Stream_settle_1 : decode prog_9_method_6_code 1 = .ok (.getfield 25, 3) := by decide +kernel
theorem d_Stream_settle_4 : decode prog_9_method_6_code 4 = .ok (.ifCond .eq 14, 3) := by decide +kernel
theorem d_Stream_settle_7 : decode prog_9_method_6_code 7 = .ok (.aload_n 0, 1) := by decide +kernel
theorem d_Stream_settle_8 : decode prog_9_method_6_code 8 = .ok (.aload_n 0, 1) := by decide +kernel
theorem d_Stream_settle_9 : decode prog_9_method_6_code 9 = .ok (.getfield 22, 3) := by decide +kernel
theorem d_Stream_settle_12 : decode prog_9_method_6_code 12 = .ok (.putfield 19, 3) := by decide +kernel
theorem d_Stream_settle_15 : decode prog_9_method_6_code 15 = .ok (.bipush (-106), 2) := by decide +kernel
theorem d_Stream_settle_17 : decode prog_9_method_6_code 17 = .ok (.ireturn, 1) := by decide +kernel
theorem d_Stream_settle_18 : decode prog_9_method_6_code 18 = .ok (.aload_n 0, 1) := by decide +kernel
theorem d_Stream_settle_19 : decode prog_9_method_6_code 19 = .ok (.getfield 19, 3) := by decide +kernel
theorem d_Stream_settle_22 : decode prog_9_method_6_code 22 = .ok (.aload_n 0, 1) := by decide +kernel
theorem d_Stream_settle_23 : decode prog_9_method_6_code 23 = .ok (.getfield 22, 3) := by decide +kernel
theorem d_Stream_settle_26 : decode prog_9_method_6_code 26 = .ok (.isub, 1) := by decide +kernel
theorem d_Stream_settle_27 : decode prog_9_method_6_code 27 = .ok (.ireturn, 1) := by decide +kernel
noncomputable def lb_Manners_appendSteps_37 (ia1 : Nat) (v2 : Int32) (v3 : Int32) (x3 : Int32) (σ : St) (v5 : Int32) : Option ((St × Int32) ⊕ ((St × Int32))) :=
  if x3 ≤ v5 then
    some (.inr (σ, v5))
  else
  b1 (f_Stream_appendNumber σ 2 2) fun σ4 =>
  nm (v5 + 1) fun x5 =>
  some (.inl (σ4, x5))
noncomputable def lb_Manners_appendSteps_62 (ia1 : Nat) (v3 : Int32) (x3 : Int32) (σ : St) (v5 : Int32) : Option ((St × Int32) ⊕ ((St × Int32))) :=
  if v5 ≤ x3 then
    some (.inr (σ, v5))
  else
  b1 (f_Stream_appendNumber σ 3 2) fun σ8 =>
  nm (v5 + (-1)) fun x9 =>
  some (.inl (σ8, x9))
noncomputable def lb_Manners_appendSteps_18 (ia1 : Nat) (σ : St) (v2 : Int32) (v3 : Int32) : Option ((St × Int32 × Int32) ⊕ ((St × Int32 × Int32))) :=
  if (σ.1 41 ia1 0) ≤ v3 then
    some (.inr (σ, v2, v3))
  else
  gd (ib v3 64) <|
  nm (σ.1 42 ia1 v3.toNatClampNeg) fun x3 =>
  b2 (lpE (fun q => lb_Manners_appendSteps_37 ia1 v2 v3 x3 q.1 q.2) (σ, v2)) fun σ6 x7 =>
  b2 (lpE (fun q => lb_Manners_appendSteps_62 ia1 v3 x3 q.1 q.2) (σ6, v2)) fun σ10 x11 =>
  b1 (f_Stream_append σ10 0) fun σ12 =>
  nm (v3 + 1) fun x13 =>
  some (.inl (σ12, x3, x13))
noncomputable def f_Manners_appendSteps (σ : St) (ia1 : Nat) : Option (St) :=
  gd (ib 0 64) <|
  nm (σ.1 42 ia1 (0 : Int32).toNatClampNeg) fun x1 =>
  b1 (f_Stream_appendNumber σ x1 4) fun σ2 =>
  b3 (lpE (fun q => lb_Manners_appendSteps_18 ia1 q.1 q.2.1 q.2.2) (σ2, x1, 0)) fun σ14 x15 x16 =>
  some σ14
noncomputable def lb_Commands_runFrom_2 (fa1 ia1 na1 : Nat) (a2 : Int32) (a3 : Int32) (σ : St) (v3 : Int32) : Option ((St × Int32) ⊕ ((St × Int32))) :=
  if a2 ≤ v3 then
    some (.inr (σ, v3))
  else
  gd (ib v3 na1) <|
  gd (ib a3 na1) <|
  if (σ.1 fa1 ia1 v3.toNatClampNeg) = (σ.1 fa1 ia1 a3.toNatClampNeg) then
    nm (v3 + 1) fun x1 =>
    some (.inl (σ, x1))
  else
  some (.inr (σ, v3))
noncomputable def f_Commands_runFrom (σ : St) (fa1 ia1 na1 : Nat) (a2 : Int32) (a3 : Int32) : Option (St × Int32) :=
  b2 (lpE (fun q => lb_Commands_runFrom_2 fa1 ia1 na1 a2 a3 q.1 q.2) (σ, a3)) fun σ2 x3 =>
  some (σ2, x3 - a3)
noncomputable def jn_Commands_commandAt_64_3 (σ : St) (p3 : Int32) (p4 : Int32) : Option (St × Int32) :=
  if p4 ≤ 0 then
    some (σ, p4)
  else
  some (σ, p4)
noncomputable def jn_Commands_commandAt_46_2 (fa1 ia1 na1 : Nat) (σ : St) (p2 : Int32) (p3 : Int32) (p4 : Int32) : Option (St × Int32) :=
  if p2 ≤ 0 then
    jn_Commands_commandAt_64_3 σ p3 p4
  else
  gd (ib (p2 - 1) na1) <|
  if (σ.1 fa1 ia1 (p2 - 1).toNatClampNeg) = p4 then
    if p4 ≤ 0 then
      some (σ, p4)
    else
    gd (ib 0 3) <|
    if p3 < (tb_1 (0 : Int32).toNatClampNeg) then
      some (σ, p4)
    else
    some (σ, 16)
  else
  jn_Commands_commandAt_64_3 σ p3 p4
noncomputable def jn_Commands_commandAt_29 (fa1 ia1 na1 : Nat) (σ : St) (p2 : Int32) (p3 : Int32) (p4 : Int32) : Option (St × Int32) :=
  if p4 = 0 then
    gd (ib 1 3) <|
    if p3 < (tb_1 (1 : Int32).toNatClampNeg) then
      jn_Commands_commandAt_46_2 fa1 ia1 na1 σ p2 p3 p4
    else
    some (σ, 17)
  else
  jn_Commands_commandAt_46_2 fa1 ia1 na1 σ p2 p3 p4
noncomputable def f_Commands_commandAt (σ : St) (fa1 ia1 na1 : Nat) (a2 : Int32) (a3 : Int32) : Option (St × Int32) :=
  b2 (f_Commands_runFrom σ fa1 ia1 na1 a2 a3) fun σ1 x2 =>
  gd (ib a3 na1) <|
  nm (σ1.1 fa1 ia1 a3.toNatClampNeg) fun x3 =>
  if x3 = 0 then
    gd (ib 2 3) <|
    if x2 < (tb_1 (2 : Int32).toNatClampNeg) then
      jn_Commands_commandAt_29 fa1 ia1 na1 σ1 a3 x2 x3
    else
    some (σ1, 18)
  else
  jn_Commands_commandAt_29 fa1 ia1 na1 σ1 a3 x2 x3
noncomputable def jn_Commands_gather_58 (fa1 ia1 na1 : Nat) (a2 : Int32) (σ : St) (p3 : Int32) (p4 : Int32) (p5 : Int32) : Option ((St × Int32) ⊕ ((St × Int32))) :=
  gd (ib (σ.1 15 0 6) 64) <|
  nm (sI σ 17 0 ((σ.1 15 0 6).toNatClampNeg) p4) fun σ5 =>
  gd (ib (σ5.1 15 0 6) 64) <|
  nm (sI σ5 18 0 ((σ5.1 15 0 6).toNatClampNeg) p5) fun σ6 =>
  nm (sI σ6 15 0 6 ((σ6.1 15 0 6) + 1)) fun σ7 =>
  gd (ib p4 19) <|
  gd (ib p4 19) <|
  nm (sI σ7 16 0 (p4.toNatClampNeg) ((σ7.1 16 0 p4.toNatClampNeg) + 1)) fun σ8 =>
  nm (p3 + (jmax p5 1)) fun x9 =>
  some (.inl (σ8, x9))
noncomputable def lb_Commands_gather_15 (fa1 ia1 na1 : Nat) (a2 : Int32) (σ : St) (v3 : Int32) : Option ((St × Int32) ⊕ ((St × Int32))) :=
  if a2 ≤ v3 then
    some (.inr (σ, v3))
  else
  b2 (f_Commands_commandAt σ fa1 ia1 na1 a2 v3) fun σ3 x4 =>
  if x4 < 16 then
    jn_Commands_gather_58 fa1 ia1 na1 a2 σ3 v3 x4 1
  else
  b2 (f_Commands_runFrom σ3 fa1 ia1 na1 a2 v3) fun σ10 x11 =>
  gd (ib (x4 - 16) 3) <|
  nm (jmin x11 (tb_2 (x4 - 16).toNatClampNeg)) fun x12 =>
  jn_Commands_gather_58 fa1 ia1 na1 a2 σ10 v3 x4 x12
noncomputable def f_Commands_gather (σ : St) (fa1 ia1 na1 : Nat) (a2 : Int32) : Option (St) :=
  nm (sI σ 15 0 6 0) fun σ1 =>
  b1 (f_Arrays_fill σ1 16 0 19 0) fun σ2 =>
  b2 (lpE (fun q => lb_Commands_gather_15 fa1 ia1 na1 a2 q.1 q.2) (σ2, 0)) fun σ13 x14 =>
  some σ13
noncomputable def lb_Commands_appendCode_3 (σ : St) (v1 : Int32) : Option ((St × Int32) ⊕ ((St × Int32))) :=
  if v1 ≤ 4 then
    some (.inr (σ, v1))
  else
  gd (ib (v1 - 1) 19) <|
  gd (ib (tb_0 (v1 - 1).toNatClampNeg) 64) <|
  if (σ.1 42 12 (tb_0 (v1 - 1).toNatClampNeg).toNatClampNeg) = 0 then
    nm (v1 + (-1)) fun x1 =>
    some (.inl (σ, x1))
  else
  some (.inr (σ, v1))
noncomputable def lb_Commands_appendCode_45 (x3 : Int32) (σ : St) (v2 : Int32) : Option ((St × Int32) ⊕ ((St × Int32))) :=
  if x3 ≤ v2 then
    some (.inr (σ, v2))
  else
  gd (ib v2 19) <|
  gd (ib (tb_0 v2.toNatClampNeg) 64) <|
  b1 (f_Stream_appendNumber σ (σ.1 42 12 (tb_0 v2.toNatClampNeg).toNatClampNeg) 3) fun σ5 =>
  nm (v2 + 1) fun x6 =>
  some (.inl (σ5, x6))
noncomputable def f_Commands_appendCode (σ : St) : Option (St) :=
  b2 (lpE (fun q => lb_Commands_appendCode_3 q.1 q.2) (σ, 19)) fun σ2 x3 =>
  b1 (f_Stream_appendNumber σ2 (x3 - 4) 4) fun σ4 =>
  b2 (lpE (fun q => lb_Commands_appendCode_45 x3 q.1 q.2) (σ4, 0)) fun σ7 x8 =>
  some σ7
noncomputable def lb_Commands_append_29 (σ : St) (v3 : Int32) : Option ((St × Int32) ⊕ ((St × Int32))) :=
  if (σ.1 15 0 6) ≤ v3 then
    some (.inr (σ, v3))
  else
  gd (ib v3 64) <|
  nm (σ.1 17 0 v3.toNatClampNeg) fun x4 =>
  gd (ib x4 64) <|
  gd (ib x4 64) <|
  b1 (f_Stream_appendNumber σ (σ.1 43 12 x4.toNatClampNeg) (σ.1 42 12 x4.toNatClampNeg)) fun σ5 =>
  if x4 < 16 then
    nm (v3 + 1) fun x6 =>
    some (.inl (σ5, x6))
  else
  nm (x4 - 16) fun x7 =>
  gd (ib v3 64) <|
  gd (ib x7 3) <|
  gd (ib x7 3) <|
  b1 (f_Stream_appendNumber σ5 ((σ5.1 18 0 v3.toNatClampNeg) - (tb_1 x7.toNatClampNeg)) (tb_3 x7.toNatClampNeg)) fun σ8 =>
  nm (v3 + 1) fun x9 =>
  some (.inl (σ8, x9))
noncomputable def f_Commands_append (σ : St) (fa1 ia1 na1 : Nat) (a2 : Int32) : Option (St) :=
  b1 (f_Commands_gather σ fa1 ia1 na1 a2) fun σ1 =>
  b1 (f_Packages_fit σ1 16 0 19 7 12) fun σ2 =>
  b1 (f_Commands_appendCode σ2) fun σ3 =>
  b2 (lpE (fun q => lb_Commands_append_29 q.1 q.2) (σ3, 0)) fun σ10 x11 =>
  some σ10
noncomputable def f_Manners_append (σ : St) (ia1 : Nat) (a2 : Int32) : Option (St) :=
  if a2 = 0 then
    b1 (f_Manners_appendPlain σ ia1) fun σ1 =>
    some σ1
  else
  if a2 = 1 then
    b1 (f_Manners_appendSteps σ ia1) fun σ2 =>
    some σ2
  else
  b1 (f_Commands_append σ 42 ia1 64 (σ.1 41 ia1 0)) fun σ3 =>
  some σ3
noncomputable def f_Stream_settle (σ : St) : Option (St × Int32) :=
  if (σ.1 3 0 4) = 0 then
    some (σ, (σ.1 3 0 2) - (σ.1 3 0 3))
  else
  nm (sI σ 3 0 2 (σ.1 3 0 3)) fun σ1 =>
  some (σ1, (-106))
set_option maxHeartbeats 4000000 in
set_option maxRecDepth 100000 in
theorem c_Manners_appendSteps (l : Launch) (D : va_G) (aC : Nat → ClassId) (A : Nat → Prop) (ad : Nat → Nat → Nat) (n : Nat) (σ : St) (ia1 : Nat) (hda1 : dm n 41 ia1) (o : St) (h : f_Manners_appendSteps σ ia1 = some o) : Met l y_Manners_appendSteps w_Manners_appendSteps rm_Manners_appendSteps (va_Pc [.ref (ad 13 0), .ref (ad 41 ia1)] (Pre D aC A ad n σ)) (va_Qv (fun (_ : Unit) => True) (fun _ t => Hold D aC A ad n o t.heap) A) 0 0 A := by
  refine Met.ofW (cc := prog_5_method_6_code) (maxL := 6) (ret := none) (by decide) rfl ?_
  intro p e s m args below meth c s₁ B hml hv
  obtain ⟨hargs, hH, hK, hZ⟩ := hv
  have hx := B.exec
  have hb := B.bytes
  have hr := B.returns
  have hts := atoms_spec (ws := w_Manners_appendSteps) B.pre
  have hg : ∀ w ∈ gW, w.before args s = true := fun w h => hts w (List.mem_cons_of_mem _ h)
  have hown : s.vm.findClass "PrefixCodes$Manners" = some m.cls := findClass_of_methodNamed B.named
  have hlocks := B.notSynchronized
  have hS : va_S A s.heap s.heap [] := va_S.rf
  have hl := lv_entry ([.ref (ad 13 0), .ref (ad 41 ia1)]) (n := 6) (Nat.le_of_ble_eq_true rfl)
  rw [show entryFrame m args 6 = entryFrame m (([.ref (ad 13 0), .ref (ad 41 ia1)] : List Value).toArray) 6 by rw [hargs], lg_entry_eq]
  generalize (lg_sl ([.ref (ad 13 0), .ref (ad 41 ia1)]) ++ List.replicate (6 - (lg_sl ([.ref (ad 13 0), .ref (ad 41 ia1)])).length) Slot.unset).toArray = ls at hl ⊢
  have hl : lv_has ls 6 [(0, .ref (ad 13 0)), (1, .ref (ad 41 ia1))] := hl
  generalize hQ0 : MQ below (va_Qv (fun (_ : Unit) => True) (fun _ t => Hold D aC A ad n o t.heap) A) args s 0 0 A = Q0
  unfold f_Manners_appendSteps at h
  refine lv_aload_n hx hb d_Manners_appendSteps_0 rfl (lv_at hl 1 rfl) ?_
  refine st_get hx hb hg hown hK hH (f := 41) (i := ia1) hda1 rfl rfl u_Code 1 (by decide) (hg _ wd_168) (v := .ref (ad 42 ia1)) rfl d_Manners_appendSteps_1 ?_
  refine lv_iconst (v := 0) hx hb d_Manners_appendSteps_4 (by decide) ?_
  obtain ⟨g5, h⟩ := gd_some h
  refine st_iald hx hb hK hH (f := 42) (i := ia1) hda1 rfl g5 d_Manners_appendSteps_5 ?_
  refine lv_topi (fun x1 ex1 => ?_)
  have h := nm_at ex1 h
  refine lv_istore_n (lv' := [(2, .int x1), (0, .ref (ad 13 0)), (1, .ref (ad 41 ia1))]) hx hb d_Manners_appendSteps_6 rfl hl (by decide) rfl (fun ls hl => ?_)
  refine lv_aload_n hx hb d_Manners_appendSteps_7 rfl (lv_at hl 1 rfl) ?_
  refine st_get hx hb hg hown hK hH (f := 13) (i := 0) hd_13 rfl rfl u_Manners 0 (by decide) (hg _ wd_167) (v := .ref (ad 3 0)) rfl d_Manners_appendSteps_8 ?_
  refine lv_iload_n hx hb d_Manners_appendSteps_11 rfl (lv_at hl 0 rfl) ?_
  refine lv_iconst (v := 4) hx hb d_Manners_appendSteps_12 (by decide) ?_
  obtain ⟨qc, hc13, h⟩ := b1_some h
  obtain ⟨σ2, rfl⟩ : ∃ z, z = qc := ⟨_, rfl⟩
  have h := b1_at h
  refine st_Vv (As := [.int x1, .int 4]) (rest := []) ⟨hx, hb, hml, hown, hg⟩ (c_Stream_appendNumber l D aC A ad n _ x1 4 _ hc13) (cwG hg wd_132 wd_169 wd_134 wd_135 wd_119 yd_Stream_appendNumber ⟨Nat.le_of_ble_eq_true rfl, Nat.le_of_ble_eq_true rfl⟩) hK hH hS hZ hd_3 rfl rfl rfl hl.1 rfl (Nat.le_of_ble_eq_true rfl) d_Manners_appendSteps_13 ⟨Nat.zero_le _, Nat.zero_le _⟩ (fun H locs hH hS => ?_)
  refine lv_iconst (v := 0) hx hb d_Manners_appendSteps_16 (by decide) ?_
  refine lv_istore_n (lv' := [(3, .int 0), (2, .int x1), (0, .ref (ad 13 0)), (1, .ref (ad 41 ia1))]) hx hb d_Manners_appendSteps_17 rfl hl (by decide) rfl (fun ls hl => ?_)
  obtain ⟨q1, hq1, h⟩ := b3_some h
  have K1 : ∀ (σ14 : St) (x15 : Int32) (x16 : Int32) (H : Heap) (locs : List Loc) (ls : Array Slot), q1 = (σ14, x15, x16) → Hold D aC A ad n σ14 H → va_S A s.heap H locs → lv_has ls 6 [(0, .ref (ad 13 0)), (1, .ref (ad 41 ia1)), (2, .int x15), (3, .int x16)] → W p l e (headSpec w_Manners_appendSteps rm_Manners_appendSteps).room s m args below meth c H locs 0 0 Q0 (F0 m 101 ls []) := by
    intro σ14 x15 x16 H locs ls eq1 hH hS hl
    subst eq1
    have h := b3_at h
    cases h
    rw [← hQ0]
    exact W.vret hx hb hr (fun t ht hW => ⟨⟨(), rfl, trivial, by dsimp only; rw [ht]; exact hH⟩, hS.F ht⟩) hS.2.2 d_Manners_appendSteps_101
  have loop1 : ∀ (k : Nat) (σ : St) (v2 : Int32) (v3 : Int32) (H : Heap) (locs : List Loc) (ls : Array Slot), Hold D aC A ad n σ H → va_S A s.heap H locs → lv_has ls 6 [(0, .ref (ad 13 0)), (1, .ref (ad 41 ia1)), (2, .int v2), (3, .int v3)] → lp (fun q => lb_Manners_appendSteps_18 ia1 q.1 q.2.1 q.2.2) k (σ, v2, v3) = some q1 → W p l e (headSpec w_Manners_appendSteps rm_Manners_appendSteps).room s m args below meth c H locs 0 0 Q0 (F0 m 18 ls []) := by
    intro k
    induction k with
    | zero => intro σ v2 v3 H locs ls hH hS hl hlp; exact absurd hlp (lp_zero _ _ _)
    | succ k ih1 =>
      intro σ v2 v3 H locs ls hH hS hl hlp
      obtain ⟨z1, h1, hk1⟩ := lp_succ hlp
      have h1 : lb_Manners_appendSteps_18 ia1 σ v2 v3 = some z1 := h1
      unfold lb_Manners_appendSteps_18 at h1
      refine lv_iload_n hx hb d_Manners_appendSteps_18 rfl (lv_at hl 3 rfl) ?_
      refine lv_aload_n hx hb d_Manners_appendSteps_19 rfl (lv_at hl 1 rfl) ?_
      refine st_get hx hb hg hown hK hH (f := 41) (i := ia1) hda1 rfl rfl u_Code 0 (by decide) (hg _ wd_166) (v := .int (σ.1 41 ia1 0)) rfl d_Manners_appendSteps_20 ?_
      refine lv_icmp_ge (tgt := 101) hx hb d_Manners_appendSteps_23 (by decide) (fun c23 => ?_) (fun c23 => ?_)
      · have h1 := it h1 c23
        cases h1
        exact K1 σ v2 v3 _ _ ls (Option.some.inj hk1).symm hH hS (lv_sub hl [0, 1, 2, 3] rfl)
      · have h1 := ie h1 c23
        refine lv_aload_n hx hb d_Manners_appendSteps_26 rfl (lv_at hl 1 rfl) ?_
        refine st_get hx hb hg hown hK hH (f := 41) (i := ia1) hda1 rfl rfl u_Code 1 (by decide) (hg _ wd_168) (v := .ref (ad 42 ia1)) rfl d_Manners_appendSteps_27 ?_
        refine lv_iload_n hx hb d_Manners_appendSteps_30 rfl (lv_at hl 3 rfl) ?_
        obtain ⟨g31, h1⟩ := gd_some h1
        refine st_iald hx hb hK hH (f := 42) (i := ia1) hda1 rfl g31 d_Manners_appendSteps_31 ?_
        refine lv_topi (fun x3 ex3 => ?_)
        have h1 := nm_at ex3 h1
        refine lv_istore (lv' := [(4, .int x3), (0, .ref (ad 13 0)), (1, .ref (ad 41 ia1)), (2, .int v2), (3, .int v3)]) hx hb d_Manners_appendSteps_32 hl (by decide) rfl (fun ls hl => ?_)
        refine lv_iload_n hx hb d_Manners_appendSteps_34 rfl (lv_at hl 3 rfl) ?_
        refine lv_istore (lv' := [(5, .int v2), (4, .int x3), (0, .ref (ad 13 0)), (1, .ref (ad 41 ia1)), (2, .int v2), (3, .int v3)]) hx hb d_Manners_appendSteps_35 hl (by decide) rfl (fun ls hl => ?_)
        obtain ⟨q2, hq2, h1⟩ := b2_some h1
        have K2 : ∀ (σ6 : St) (x7 : Int32) (H : Heap) (locs : List Loc) (ls : Array Slot), q2 = (σ6, x7) → Hold D aC A ad n σ6 H → va_S A s.heap H locs → lv_has ls 6 [(0, .ref (ad 13 0)), (1, .ref (ad 41 ia1)), (2, .int v2), (3, .int v3), (4, .int x3), (5, .int x7)] → W p l e (headSpec w_Manners_appendSteps rm_Manners_appendSteps).room s m args below meth c H locs 0 0 Q0 (F0 m 59 ls []) := by
          intro σ6 x7 H locs ls eq2 hH hS hl
          subst eq2
          have h1 := b2_at h1
          refine lv_iload_n hx hb d_Manners_appendSteps_59 rfl (lv_at hl 2 rfl) ?_
          refine lv_istore (lv' := [(5, .int v2), (0, .ref (ad 13 0)), (1, .ref (ad 41 ia1)), (2, .int v2), (3, .int v3), (4, .int x3)]) hx hb d_Manners_appendSteps_60 hl (by decide) rfl (fun ls hl => ?_)
          obtain ⟨q2, hq2, h1⟩ := b2_some h1
          have K2 : ∀ (σ10 : St) (x11 : Int32) (H : Heap) (locs : List Loc) (ls : Array Slot), q2 = (σ10, x11) → Hold D aC A ad n σ10 H → va_S A s.heap H locs → lv_has ls 6 [(0, .ref (ad 13 0)), (1, .ref (ad 41 ia1)), (3, .int v3), (4, .int x3), (5, .int x11)] → W p l e (headSpec w_Manners_appendSteps rm_Manners_appendSteps).room s m args below meth c H locs 0 0 Q0 (F0 m 84 ls []) := by
            intro σ10 x11 H locs ls eq2 hH hS hl
            subst eq2
            have h1 := b2_at h1
            refine lv_aload_n hx hb d_Manners_appendSteps_84 rfl (lv_at hl 0 rfl) ?_
            refine st_get hx hb hg hown hK hH (f := 13) (i := 0) hd_13 rfl rfl u_Manners 0 (by decide) (hg _ wd_167) (v := .ref (ad 3 0)) rfl d_Manners_appendSteps_85 ?_
            refine lv_iconst (v := 0) hx hb d_Manners_appendSteps_88 (by decide) ?_
            obtain ⟨qc, hc89, h1⟩ := b1_some h1
            obtain ⟨σ12, rfl⟩ : ∃ z, z = qc := ⟨_, rfl⟩
            have h1 := b1_at h1
            refine st_Vv (As := [.int 0]) (rest := []) ⟨hx, hb, hml, hown, hg⟩ (c_Stream_append l D aC A ad n _ 0 _ hc89) (cwG hg wd_128 wd_170 wd_130 wd_131 wd_119 yd_Stream_append ⟨Nat.le_of_ble_eq_true rfl, Nat.le_of_ble_eq_true rfl⟩) hK hH hS hZ hd_3 rfl rfl rfl hl.1 rfl (Nat.le_of_ble_eq_true rfl) d_Manners_appendSteps_89 ⟨Nat.zero_le _, Nat.zero_le _⟩ (fun H locs hH hS => ?_)
            refine lv_iload hx hb d_Manners_appendSteps_92 (lv_at hl 3 rfl) ?_
            refine lv_istore_n (lv' := [(2, .int x3), (0, .ref (ad 13 0)), (1, .ref (ad 41 ia1)), (3, .int v3), (4, .int x3), (5, .int x11)]) hx hb d_Manners_appendSteps_94 rfl hl (by decide) rfl (fun ls hl => ?_)
            obtain ⟨x13, ex13⟩ : ∃ y : Int32, y = v3 + 1 := ⟨_, rfl⟩
            have h1 := nm_at ex13 h1
            refine lv_iinc (v := x13) (lv' := [(3, .int x13), (2, .int x3), (0, .ref (ad 13 0)), (1, .ref (ad 41 ia1)), (4, .int x3), (5, .int x11)]) hx hb d_Manners_appendSteps_95 hl (k := 3) rfl (by rw [ex13]; rfl) (by decide) rfl (fun ls hl => ?_)
            refine lv_goto (tgt := 18) hx hb d_Manners_appendSteps_98 (by decide) ?_
            cases h1
            exact ih1 σ12 x3 x13 _ _ ls hH hS (lv_sub hl [2, 3, 1, 0] rfl) hk1
          have loop2 : ∀ (k : Nat) (σ : St) (v5 : Int32) (H : Heap) (locs : List Loc) (ls : Array Slot), Hold D aC A ad n σ H → va_S A s.heap H locs → lv_has ls 6 [(0, .ref (ad 13 0)), (1, .ref (ad 41 ia1)), (3, .int v3), (4, .int x3), (5, .int v5)] → lp (fun q => lb_Manners_appendSteps_62 ia1 v3 x3 q.1 q.2) k (σ, v5) = some q2 → W p l e (headSpec w_Manners_appendSteps rm_Manners_appendSteps).room s m args below meth c H locs 0 0 Q0 (F0 m 62 ls []) := by
            intro k
            induction k with
            | zero => intro σ v5 H locs ls hH hS hl hlp; exact absurd hlp (lp_zero _ _ _)
            | succ k ih2 =>
              intro σ v5 H locs ls hH hS hl hlp
              obtain ⟨z2, h2, hk2⟩ := lp_succ hlp
              have h2 : lb_Manners_appendSteps_62 ia1 v3 x3 σ v5 = some z2 := h2
              unfold lb_Manners_appendSteps_62 at h2
              refine lv_iload hx hb d_Manners_appendSteps_62 (lv_at hl 4 rfl) ?_
              refine lv_iload hx hb d_Manners_appendSteps_64 (lv_at hl 3 rfl) ?_
              refine lv_icmp_le (tgt := 84) hx hb d_Manners_appendSteps_66 (by decide) (fun c66 => ?_) (fun c66 => ?_)
              · have h2 := it h2 c66
                cases h2
                exact K2 σ v5 _ _ ls (Option.some.inj hk2).symm hH hS (lv_sub hl [0, 1, 2, 3, 4] rfl)
              · have h2 := ie h2 c66
                refine lv_aload_n hx hb d_Manners_appendSteps_69 rfl (lv_at hl 0 rfl) ?_
                refine st_get hx hb hg hown hK hH (f := 13) (i := 0) hd_13 rfl rfl u_Manners 0 (by decide) (hg _ wd_167) (v := .ref (ad 3 0)) rfl d_Manners_appendSteps_70 ?_
                refine lv_iconst (v := 3) hx hb d_Manners_appendSteps_73 (by decide) ?_
                refine lv_iconst (v := 2) hx hb d_Manners_appendSteps_74 (by decide) ?_
                obtain ⟨qc, hc75, h2⟩ := b1_some h2
                obtain ⟨σ8, rfl⟩ : ∃ z, z = qc := ⟨_, rfl⟩
                have h2 := b1_at h2
                refine st_Vv (As := [.int 3, .int 2]) (rest := []) ⟨hx, hb, hml, hown, hg⟩ (c_Stream_appendNumber l D aC A ad n _ 3 2 _ hc75) (cwG hg wd_132 wd_169 wd_134 wd_135 wd_119 yd_Stream_appendNumber ⟨Nat.le_of_ble_eq_true rfl, Nat.le_of_ble_eq_true rfl⟩) hK hH hS hZ hd_3 rfl rfl rfl hl.1 rfl (Nat.le_of_ble_eq_true rfl) d_Manners_appendSteps_75 ⟨Nat.zero_le _, Nat.zero_le _⟩ (fun H locs hH hS => ?_)
                obtain ⟨x9, ex9⟩ : ∃ y : Int32, y = v5 + (-1) := ⟨_, rfl⟩
                have h2 := nm_at ex9 h2
                refine lv_iinc (v := x9) (lv' := [(5, .int x9), (0, .ref (ad 13 0)), (1, .ref (ad 41 ia1)), (3, .int v3), (4, .int x3)]) hx hb d_Manners_appendSteps_78 hl (k := 4) rfl (by rw [ex9]; rfl) (by decide) rfl (fun ls hl => ?_)
                refine lv_goto (tgt := 62) hx hb d_Manners_appendSteps_81 (by decide) ?_
                cases h2
                exact ih2 σ8 x9 _ _ ls hH hS (lv_sub hl [1, 2, 3, 4, 0] rfl) hk2
          obtain ⟨k2, hq2⟩ := lpE_some hq2
          exact loop2 k2 σ6 v2 _ _ ls hH hS (lv_sub hl [1, 2, 4, 5, 0] rfl) hq2
        have loop2 : ∀ (k : Nat) (σ : St) (v5 : Int32) (H : Heap) (locs : List Loc) (ls : Array Slot), Hold D aC A ad n σ H → va_S A s.heap H locs → lv_has ls 6 [(0, .ref (ad 13 0)), (1, .ref (ad 41 ia1)), (2, .int v2), (3, .int v3), (4, .int x3), (5, .int v5)] → lp (fun q => lb_Manners_appendSteps_37 ia1 v2 v3 x3 q.1 q.2) k (σ, v5) = some q2 → W p l e (headSpec w_Manners_appendSteps rm_Manners_appendSteps).room s m args below meth c H locs 0 0 Q0 (F0 m 37 ls []) := by
          intro k
          induction k with
          | zero => intro σ v5 H locs ls hH hS hl hlp; exact absurd hlp (lp_zero _ _ _)
          | succ k ih2 =>
            intro σ v5 H locs ls hH hS hl hlp
            obtain ⟨z2, h2, hk2⟩ := lp_succ hlp
            have h2 : lb_Manners_appendSteps_37 ia1 v2 v3 x3 σ v5 = some z2 := h2
            unfold lb_Manners_appendSteps_37 at h2
            refine lv_iload hx hb d_Manners_appendSteps_37 (lv_at hl 5 rfl) ?_
            refine lv_iload hx hb d_Manners_appendSteps_39 (lv_at hl 4 rfl) ?_
            refine lv_icmp_ge (tgt := 59) hx hb d_Manners_appendSteps_41 (by decide) (fun c41 => ?_) (fun c41 => ?_)
            · have h2 := it h2 c41
              cases h2
              exact K2 σ v5 _ _ ls (Option.some.inj hk2).symm hH hS (lv_sub hl [0, 1, 2, 3, 4, 5] rfl)
            · have h2 := ie h2 c41
              refine lv_aload_n hx hb d_Manners_appendSteps_44 rfl (lv_at hl 0 rfl) ?_
              refine st_get hx hb hg hown hK hH (f := 13) (i := 0) hd_13 rfl rfl u_Manners 0 (by decide) (hg _ wd_167) (v := .ref (ad 3 0)) rfl d_Manners_appendSteps_45 ?_
              refine lv_iconst (v := 2) hx hb d_Manners_appendSteps_48 (by decide) ?_
              refine lv_iconst (v := 2) hx hb d_Manners_appendSteps_49 (by decide) ?_
              obtain ⟨qc, hc50, h2⟩ := b1_some h2
              obtain ⟨σ4, rfl⟩ : ∃ z, z = qc := ⟨_, rfl⟩
              have h2 := b1_at h2
              refine st_Vv (As := [.int 2, .int 2]) (rest := []) ⟨hx, hb, hml, hown, hg⟩ (c_Stream_appendNumber l D aC A ad n _ 2 2 _ hc50) (cwG hg wd_132 wd_169 wd_134 wd_135 wd_119 yd_Stream_appendNumber ⟨Nat.le_of_ble_eq_true rfl, Nat.le_of_ble_eq_true rfl⟩) hK hH hS hZ hd_3 rfl rfl rfl hl.1 rfl (Nat.le_of_ble_eq_true rfl) d_Manners_appendSteps_50 ⟨Nat.zero_le _, Nat.zero_le _⟩ (fun H locs hH hS => ?_)
              obtain ⟨x5, ex5⟩ : ∃ y : Int32, y = v5 + 1 := ⟨_, rfl⟩
              have h2 := nm_at ex5 h2
              refine lv_iinc (v := x5) (lv' := [(5, .int x5), (0, .ref (ad 13 0)), (1, .ref (ad 41 ia1)), (2, .int v2), (3, .int v3), (4, .int x3)]) hx hb d_Manners_appendSteps_53 hl (k := 5) rfl (by rw [ex5]; rfl) (by decide) rfl (fun ls hl => ?_)
              refine lv_goto (tgt := 37) hx hb d_Manners_appendSteps_56 (by decide) ?_
              cases h2
              exact ih2 σ4 x5 _ _ ls hH hS (lv_sub hl [1, 2, 3, 4, 5, 0] rfl) hk2
        obtain ⟨k2, hq2⟩ := lpE_some hq2
        exact loop2 k2 σ v2 _ _ ls hH hS (lv_sub hl [2, 3, 4, 5, 1, 0] rfl) hq2
  obtain ⟨k1, hq1⟩ := lpE_some hq1
  exact loop1 k1 σ2 x1 0 _ _ ls hH hS (lv_sub hl [2, 3, 1, 0] rfl) hq1
set_option maxHeartbeats 4000000 in
set_option maxRecDepth 100000 in
theorem c_Commands_runFrom (l : Launch) (D : va_G) (aC : Nat → ClassId) (A : Nat → Prop) (ad : Nat → Nat → Nat) (n : Nat) (σ : St) (fa1 ia1 na1 : Nat) (a2 : Int32) (a3 : Int32) (hka1 : kd fa1 = .inr (0, na1)) (hda1 : dm n fa1 ia1) (o : St × Int32) (h : f_Commands_runFrom σ fa1 ia1 na1 a2 a3 = some o) : Met l y_Commands_runFrom w_Commands_runFrom rm_Commands_runFrom (va_Pc [.ref (ad fa1 ia1), .int a2, .int a3] (Pre D aC A ad n σ)) (va_Qi (fun r (_ : Unit) => r = o.2) (fun _ t => Hold D aC A ad n o.1 t.heap) A) 0 0 A := by
  refine Met.ofW (cc := prog_4_method_5_code) (maxL := 4) (ret := (some .int)) (by decide) rfl ?_
  intro p e s m args below meth c s₁ B hml hv
  obtain ⟨hargs, hH, hK, hZ⟩ := hv
  have hx := B.exec
  have hb := B.bytes
  have hr := B.returns
  have hts := atoms_spec (ws := w_Commands_runFrom) B.pre
  have hg : ∀ w ∈ gW, w.before args s = true := fun w h => hts w (List.mem_cons_of_mem _ h)
  have hown : s.vm.findClass "PrefixCodes$Commands" = some m.cls := findClass_of_methodNamed B.named
  have hlocks := B.notSynchronized
  have hS : va_S A s.heap s.heap [] := va_S.rf
  have hl := lv_entry ([.ref (ad fa1 ia1), .int a2, .int a3]) (n := 4) (Nat.le_of_ble_eq_true rfl)
  rw [show entryFrame m args 4 = entryFrame m (([.ref (ad fa1 ia1), .int a2, .int a3] : List Value).toArray) 4 by rw [hargs], lg_entry_eq]
  generalize (lg_sl ([.ref (ad fa1 ia1), .int a2, .int a3]) ++ List.replicate (4 - (lg_sl ([.ref (ad fa1 ia1), .int a2, .int a3])).length) Slot.unset).toArray = ls at hl ⊢
  have hl : lv_has ls 4 [(0, .ref (ad fa1 ia1)), (1, .int a2), (2, .int a3)] := hl
  generalize hQ0 : MQ below (va_Qi (fun r (_ : Unit) => r = o.2) (fun _ t => Hold D aC A ad n o.1 t.heap) A) args s 0 0 A = Q0
  unfold f_Commands_runFrom at h
  refine lv_iload_n hx hb d_Commands_runFrom_0 rfl (lv_at hl 2 rfl) ?_
  refine lv_istore_n (lv' := [(3, .int a3), (0, .ref (ad fa1 ia1)), (1, .int a2), (2, .int a3)]) hx hb d_Commands_runFrom_1 rfl hl (by decide) rfl (fun ls hl => ?_)
  obtain ⟨q1, hq1, h⟩ := b2_some h
  have K1 : ∀ (σ2 : St) (x3 : Int32) (H : Heap) (locs : List Loc) (ls : Array Slot), q1 = (σ2, x3) → Hold D aC A ad n σ2 H → va_S A s.heap H locs → lv_has ls 4 [(0, .ref (ad fa1 ia1)), (1, .int a2), (2, .int a3), (3, .int x3)] → W p l e (headSpec w_Commands_runFrom rm_Commands_runFrom).room s m args below meth c H locs 0 0 Q0 (F0 m 22 ls []) := by
    intro σ2 x3 H locs ls eq1 hH hS hl
    subst eq1
    have h := b2_at h
    refine lv_iload_n hx hb d_Commands_runFrom_22 rfl (lv_at hl 3 rfl) ?_
    refine lv_iload_n hx hb d_Commands_runFrom_23 rfl (lv_at hl 2 rfl) ?_
    refine lv_isub hx hb d_Commands_runFrom_24 ?_
    cases h
    rw [← hQ0]
    exact W.iret hx hb hr (fun t ht hW => ⟨⟨_, (), rfl, rfl, by dsimp only; rw [ht]; exact hH⟩, hS.F ht⟩) hS.2.2 d_Commands_runFrom_25
  have loop1 : ∀ (k : Nat) (σ : St) (v3 : Int32) (H : Heap) (locs : List Loc) (ls : Array Slot), Hold D aC A ad n σ H → va_S A s.heap H locs → lv_has ls 4 [(0, .ref (ad fa1 ia1)), (1, .int a2), (2, .int a3), (3, .int v3)] → lp (fun q => lb_Commands_runFrom_2 fa1 ia1 na1 a2 a3 q.1 q.2) k (σ, v3) = some q1 → W p l e (headSpec w_Commands_runFrom rm_Commands_runFrom).room s m args below meth c H locs 0 0 Q0 (F0 m 2 ls []) := by
    intro k
    induction k with
    | zero => intro σ v3 H locs ls hH hS hl hlp; exact absurd hlp (lp_zero _ _ _)
    | succ k ih1 =>
      intro σ v3 H locs ls hH hS hl hlp
      obtain ⟨z1, h1, hk1⟩ := lp_succ hlp
      have h1 : lb_Commands_runFrom_2 fa1 ia1 na1 a2 a3 σ v3 = some z1 := h1
      unfold lb_Commands_runFrom_2 at h1
      refine lv_iload_n hx hb d_Commands_runFrom_2 rfl (lv_at hl 3 rfl) ?_
      refine lv_iload_n hx hb d_Commands_runFrom_3 rfl (lv_at hl 1 rfl) ?_
      refine lv_icmp_ge (tgt := 22) hx hb d_Commands_runFrom_4 (by decide) (fun c4 => ?_) (fun c4 => ?_)
      · have h1 := it h1 c4
        cases h1
        exact K1 σ v3 _ _ ls (Option.some.inj hk1).symm hH hS (lv_sub hl [0, 1, 2, 3] rfl)
      · have h1 := ie h1 c4
        refine lv_aload_n hx hb d_Commands_runFrom_7 rfl (lv_at hl 0 rfl) ?_
        refine lv_iload_n hx hb d_Commands_runFrom_8 rfl (lv_at hl 3 rfl) ?_
        obtain ⟨g9, h1⟩ := gd_some h1
        refine st_iald hx hb hK hH (f := fa1) (i := ia1) hda1 hka1 g9 d_Commands_runFrom_9 ?_
        refine lv_aload_n hx hb d_Commands_runFrom_10 rfl (lv_at hl 0 rfl) ?_
        refine lv_iload_n hx hb d_Commands_runFrom_11 rfl (lv_at hl 2 rfl) ?_
        obtain ⟨g12, h1⟩ := gd_some h1
        refine st_iald hx hb hK hH (f := fa1) (i := ia1) hda1 hka1 g12 d_Commands_runFrom_12 ?_
        refine lv_icmp_ne (tgt := 22) hx hb d_Commands_runFrom_13 (by decide) (fun c13 => ?_) (fun c13 => ?_)
        · have h1 := ie h1 c13
          cases h1
          exact K1 σ v3 _ _ ls (Option.some.inj hk1).symm hH hS (lv_sub hl [0, 1, 2, 3] rfl)
        · have h1 := it h1 c13
          obtain ⟨x1, ex1⟩ : ∃ y : Int32, y = v3 + 1 := ⟨_, rfl⟩
          have h1 := nm_at ex1 h1
          refine lv_iinc (v := x1) (lv' := [(3, .int x1), (0, .ref (ad fa1 ia1)), (1, .int a2), (2, .int a3)]) hx hb d_Commands_runFrom_16 hl (k := 3) rfl (by rw [ex1]; rfl) (by decide) rfl (fun ls hl => ?_)
          refine lv_goto (tgt := 2) hx hb d_Commands_runFrom_19 (by decide) ?_
          cases h1
          exact ih1 σ x1 _ _ ls hH hS (lv_sub hl [1, 2, 3, 0] rfl) hk1
  obtain ⟨k1, hq1⟩ := lpE_some hq1
  exact loop1 k1 σ a3 _ _ ls hH hS (lv_sub hl [1, 2, 3, 0] rfl) hq1
set_option maxHeartbeats 4000000 in
set_option maxRecDepth 100000 in
theorem c_Commands_commandAt (l : Launch) (D : va_G) (aC : Nat → ClassId) (A : Nat → Prop) (ad : Nat → Nat → Nat) (n : Nat) (σ : St) (fa1 ia1 na1 : Nat) (a2 : Int32) (a3 : Int32) (hka1 : kd fa1 = .inr (0, na1)) (hda1 : dm n fa1 ia1) (o : St × Int32) (h : f_Commands_commandAt σ fa1 ia1 na1 a2 a3 = some o) : Met l y_Commands_commandAt w_Commands_commandAt rm_Commands_commandAt (va_Pc [.ref (ad fa1 ia1), .int a2, .int a3] (Pre D aC A ad n σ)) (va_Qi (fun r (_ : Unit) => r = o.2) (fun _ t => Hold D aC A ad n o.1 t.heap) A) 0 0 A := by
  refine Met.ofW (cc := prog_4_method_4_code) (maxL := 6) (ret := (some .int)) (by decide) rfl ?_
  intro p e s m args below meth c s₁ B hml hv
  obtain ⟨hargs, hH, hK, hZ⟩ := hv
  have hx := B.exec
  have hb := B.bytes
  have hr := B.returns
  have hts := atoms_spec (ws := w_Commands_commandAt) B.pre
  have hg : ∀ w ∈ gW, w.before args s = true := fun w h => hts w (List.mem_cons_of_mem _ h)
  have hown : s.vm.findClass "PrefixCodes$Commands" = some m.cls := findClass_of_methodNamed B.named
  have hlocks := B.notSynchronized
  have hS : va_S A s.heap s.heap [] := va_S.rf
  have hl := lv_entry ([.ref (ad fa1 ia1), .int a2, .int a3]) (n := 6) (Nat.le_of_ble_eq_true rfl)
  rw [show entryFrame m args 6 = entryFrame m (([.ref (ad fa1 ia1), .int a2, .int a3] : List Value).toArray) 6 by rw [hargs], lg_entry_eq]
  generalize (lg_sl ([.ref (ad fa1 ia1), .int a2, .int a3]) ++ List.replicate (6 - (lg_sl ([.ref (ad fa1 ia1), .int a2, .int a3])).length) Slot.unset).toArray = ls at hl ⊢
  have hl : lv_has ls 6 [(0, .ref (ad fa1 ia1)), (1, .int a2), (2, .int a3)] := hl
  generalize hQ0 : MQ below (va_Qi (fun r (_ : Unit) => r = o.2) (fun _ t => Hold D aC A ad n o.1 t.heap) A) args s 0 0 A = Q0
  unfold f_Commands_commandAt at h
  have J64 : ∀ (σ : St) (p3 : Int32) (p4 : Int32) (H : Heap) (locs : List Loc) (ls : Array Slot), Hold D aC A ad n σ H → va_S A s.heap H locs → lv_has ls 6 [(3, .int p3), (4, .int p4)] → jn_Commands_commandAt_64_3 σ p3 p4 = some o → W p l e (headSpec w_Commands_commandAt rm_Commands_commandAt).room s m args below meth c H locs 0 0 Q0 (F0 m 64 ls []) := by
    intro σ p3 p4  H locs ls hH hS hl h
    unfold jn_Commands_commandAt_64_3 at h
    refine lv_iconst (v := 0) hx hb d_Commands_commandAt_64 (by decide) ?_
    refine lv_istore (lv' := [(5, .int 0), (3, .int p3), (4, .int p4)]) hx hb d_Commands_commandAt_65 hl (by decide) rfl (fun ls hl => ?_)
    refine lv_iload hx hb d_Commands_commandAt_67 (lv_at hl 2 rfl) ?_
    refine lv_if_le (tgt := 89) hx hb d_Commands_commandAt_69 (by decide) (fun c69 => ?_) (fun c69 => ?_)
    · have h := it h c69
      refine lv_iload hx hb d_Commands_commandAt_89 (lv_at hl 2 rfl) ?_
      cases h
      rw [← hQ0]
      exact W.iret hx hb hr (fun t ht hW => ⟨⟨_, (), rfl, rfl, by dsimp only; rw [ht]; exact hH⟩, hS.F ht⟩) hS.2.2 d_Commands_commandAt_91
    · have h := ie h c69
      refine lv_iload hx hb d_Commands_commandAt_72 (lv_at hl 0 rfl) ?_
      refine lv_if_eq (tgt := 89) hx hb d_Commands_commandAt_74 (by decide) (fun c74 => ?_) (fun c74 => absurd c74 (by decide))
      refine lv_iload hx hb d_Commands_commandAt_89 (lv_at hl 2 rfl) ?_
      cases h
      rw [← hQ0]
      exact W.iret hx hb hr (fun t ht hW => ⟨⟨_, (), rfl, rfl, by dsimp only; rw [ht]; exact hH⟩, hS.F ht⟩) hS.2.2 d_Commands_commandAt_91
  have J46 : ∀ (σ : St) (p2 : Int32) (p3 : Int32) (p4 : Int32) (H : Heap) (locs : List Loc) (ls : Array Slot), Hold D aC A ad n σ H → va_S A s.heap H locs → lv_has ls 6 [(0, .ref (ad fa1 ia1)), (2, .int p2), (3, .int p3), (4, .int p4)] → jn_Commands_commandAt_46_2 fa1 ia1 na1 σ p2 p3 p4 = some o → W p l e (headSpec w_Commands_commandAt rm_Commands_commandAt).room s m args below meth c H locs 0 0 Q0 (F0 m 46 ls []) := by
    intro σ p2 p3 p4  H locs ls hH hS hl h
    unfold jn_Commands_commandAt_46_2 at h
    refine lv_iload_n hx hb d_Commands_commandAt_46 rfl (lv_at hl 1 rfl) ?_
    refine lv_if_le (tgt := 64) hx hb d_Commands_commandAt_47 (by decide) (fun c47 => ?_) (fun c47 => ?_)
    · have h := it h c47
      exact J64 σ p3 p4 _ _ ls hH hS (lv_sub hl [2, 3] rfl) h
    · have h := ie h c47
      refine lv_aload_n hx hb d_Commands_commandAt_50 rfl (lv_at hl 0 rfl) ?_
      refine lv_iload_n hx hb d_Commands_commandAt_51 rfl (lv_at hl 1 rfl) ?_
      refine lv_iconst (v := 1) hx hb d_Commands_commandAt_52 (by decide) ?_
      refine lv_isub hx hb d_Commands_commandAt_53 ?_
      obtain ⟨g54, h⟩ := gd_some h
      refine st_iald hx hb hK hH (f := fa1) (i := ia1) hda1 hka1 g54 d_Commands_commandAt_54 ?_
      refine lv_iload hx hb d_Commands_commandAt_55 (lv_at hl 3 rfl) ?_
      refine lv_icmp_ne (tgt := 64) hx hb d_Commands_commandAt_57 (by decide) (fun c57 => ?_) (fun c57 => ?_)
      · have h := ie h c57
        exact J64 σ p3 p4 _ _ ls hH hS (lv_sub hl [2, 3] rfl) h
      · have h := it h c57
        refine lv_iconst (v := 1) hx hb d_Commands_commandAt_60 (by decide) ?_
        refine lv_goto (tgt := 65) hx hb d_Commands_commandAt_61 (by decide) ?_
        refine lv_istore (lv' := [(5, .int 1), (0, .ref (ad fa1 ia1)), (2, .int p2), (3, .int p3), (4, .int p4)]) hx hb d_Commands_commandAt_65 hl (by decide) rfl (fun ls hl => ?_)
        refine lv_iload hx hb d_Commands_commandAt_67 (lv_at hl 4 rfl) ?_
        refine lv_if_le (tgt := 89) hx hb d_Commands_commandAt_69 (by decide) (fun c69 => ?_) (fun c69 => ?_)
        · have h := it h c69
          refine lv_iload hx hb d_Commands_commandAt_89 (lv_at hl 4 rfl) ?_
          cases h
          rw [← hQ0]
          exact W.iret hx hb hr (fun t ht hW => ⟨⟨_, (), rfl, rfl, by dsimp only; rw [ht]; exact hH⟩, hS.F ht⟩) hS.2.2 d_Commands_commandAt_91
        · have h := ie h c69
          refine lv_iload hx hb d_Commands_commandAt_72 (lv_at hl 0 rfl) ?_
          refine lv_if_eq (tgt := 89) hx hb d_Commands_commandAt_74 (by decide) (fun c74 => absurd c74 (by decide)) (fun c74 => ?_)
          refine lv_iload_n hx hb d_Commands_commandAt_77 rfl (lv_at hl 3 rfl) ?_
          refine va_gets hx hb hZ.2.1.1 hS hown (hg _ wd_171) (fun _ h => h) d_Commands_commandAt_78 ?_
          refine lv_iconst (v := 0) hx hb d_Commands_commandAt_81 (by decide) ?_
          obtain ⟨g82, h⟩ := gd_some h
          refine st_tld hx hb hZ.2.1.2 hS g82 d_Commands_commandAt_82 ?_
          refine lv_icmp_lt (tgt := 89) hx hb d_Commands_commandAt_83 (by decide) (fun c83 => ?_) (fun c83 => ?_)
          · have h := it h c83
            refine lv_iload hx hb d_Commands_commandAt_89 (lv_at hl 4 rfl) ?_
            cases h
            rw [← hQ0]
            exact W.iret hx hb hr (fun t ht hW => ⟨⟨_, (), rfl, rfl, by dsimp only; rw [ht]; exact hH⟩, hS.F ht⟩) hS.2.2 d_Commands_commandAt_91
          · have h := ie h c83
            refine lv_bipush (v := 16) hx hb d_Commands_commandAt_86 (by decide) ?_
            cases h
            rw [← hQ0]
            exact W.iret hx hb hr (fun t ht hW => ⟨⟨_, (), rfl, rfl, by dsimp only; rw [ht]; exact hH⟩, hS.F ht⟩) hS.2.2 d_Commands_commandAt_88
  have J29 : ∀ (σ : St) (p2 : Int32) (p3 : Int32) (p4 : Int32) (H : Heap) (locs : List Loc) (ls : Array Slot), Hold D aC A ad n σ H → va_S A s.heap H locs → lv_has ls 6 [(0, .ref (ad fa1 ia1)), (2, .int p2), (3, .int p3), (4, .int p4)] → jn_Commands_commandAt_29 fa1 ia1 na1 σ p2 p3 p4 = some o → W p l e (headSpec w_Commands_commandAt rm_Commands_commandAt).room s m args below meth c H locs 0 0 Q0 (F0 m 29 ls []) := by
    intro σ p2 p3 p4  H locs ls hH hS hl h
    unfold jn_Commands_commandAt_29 at h
    refine lv_iload hx hb d_Commands_commandAt_29 (lv_at hl 3 rfl) ?_
    refine lv_if_ne (tgt := 46) hx hb d_Commands_commandAt_31 (by decide) (fun c31 => ?_) (fun c31 => ?_)
    · have h := ie h c31
      exact J46 σ p2 p3 p4 _ _ ls hH hS (lv_sub hl [0, 1, 2, 3] rfl) h
    · have h := it h c31
      refine lv_iload_n hx hb d_Commands_commandAt_34 rfl (lv_at hl 2 rfl) ?_
      refine va_gets hx hb hZ.2.1.1 hS hown (hg _ wd_171) (fun _ h => h) d_Commands_commandAt_35 ?_
      refine lv_iconst (v := 1) hx hb d_Commands_commandAt_38 (by decide) ?_
      obtain ⟨g39, h⟩ := gd_some h
      refine st_tld hx hb hZ.2.1.2 hS g39 d_Commands_commandAt_39 ?_
      refine lv_icmp_lt (tgt := 46) hx hb d_Commands_commandAt_40 (by decide) (fun c40 => ?_) (fun c40 => ?_)
      · have h := it h c40
        exact J46 σ p2 p3 p4 _ _ ls hH hS (lv_sub hl [0, 1, 2, 3] rfl) h
      · have h := ie h c40
        refine lv_bipush (v := 17) hx hb d_Commands_commandAt_43 (by decide) ?_
        cases h
        rw [← hQ0]
        exact W.iret hx hb hr (fun t ht hW => ⟨⟨_, (), rfl, rfl, by dsimp only; rw [ht]; exact hH⟩, hS.F ht⟩) hS.2.2 d_Commands_commandAt_45
  refine lv_aload_n hx hb d_Commands_commandAt_0 rfl (lv_at hl 0 rfl) ?_
  refine lv_iload_n hx hb d_Commands_commandAt_1 rfl (lv_at hl 1 rfl) ?_
  refine lv_iload_n hx hb d_Commands_commandAt_2 rfl (lv_at hl 2 rfl) ?_
  obtain ⟨qc, hc3, h⟩ := b2_some h
  obtain ⟨σ1, x2⟩ := qc
  have h := b2_at h
  refine st_Si (As := [.ref (ad fa1 ia1), .int a2, .int a3]) (rest := []) ⟨hx, hb, hml, hown, hg⟩ (c_Commands_runFrom l D aC A ad n _ fa1 ia1 na1 a2 a3 hka1 hda1 _ hc3) (cwGS hg wd_172 wd_173 wd_175 wd_174 yd_Commands_runFrom ⟨Nat.le_of_ble_eq_true rfl, Nat.le_of_ble_eq_true rfl⟩) hK hH hS hZ rfl hl.1 rfl (Nat.le_of_ble_eq_true rfl) d_Commands_commandAt_3 ⟨Nat.zero_le _, Nat.zero_le _⟩ (fun H locs hH hS => ?_)
  refine lv_istore_n (lv' := [(3, .int x2), (0, .ref (ad fa1 ia1)), (1, .int a2), (2, .int a3)]) hx hb d_Commands_commandAt_6 rfl hl (by decide) rfl (fun ls hl => ?_)
  refine lv_aload_n hx hb d_Commands_commandAt_7 rfl (lv_at hl 1 rfl) ?_
  refine lv_iload_n hx hb d_Commands_commandAt_8 rfl (lv_at hl 3 rfl) ?_
  obtain ⟨g9, h⟩ := gd_some h
  refine st_iald hx hb hK hH (f := fa1) (i := ia1) hda1 hka1 g9 d_Commands_commandAt_9 ?_
  refine lv_topi (fun x3 ex3 => ?_)
  have h := nm_at ex3 h
  refine lv_istore (lv' := [(4, .int x3), (3, .int x2), (0, .ref (ad fa1 ia1)), (1, .int a2), (2, .int a3)]) hx hb d_Commands_commandAt_10 hl (by decide) rfl (fun ls hl => ?_)
  refine lv_iload hx hb d_Commands_commandAt_12 (lv_at hl 0 rfl) ?_
  refine lv_if_ne (tgt := 29) hx hb d_Commands_commandAt_14 (by decide) (fun c14 => ?_) (fun c14 => ?_)
  · have h := ie h c14
    exact J29 σ1 a3 x2 x3 _ _ ls hH hS (lv_sub hl [2, 4, 1, 0] rfl) h
  · have h := it h c14
    refine lv_iload_n hx hb d_Commands_commandAt_17 rfl (lv_at hl 1 rfl) ?_
    refine va_gets hx hb hZ.2.1.1 hS hown (hg _ wd_171) (fun _ h => h) d_Commands_commandAt_18 ?_
    refine lv_iconst (v := 2) hx hb d_Commands_commandAt_21 (by decide) ?_
    obtain ⟨g22, h⟩ := gd_some h
    refine st_tld hx hb hZ.2.1.2 hS g22 d_Commands_commandAt_22 ?_
    refine lv_icmp_lt (tgt := 29) hx hb d_Commands_commandAt_23 (by decide) (fun c23 => ?_) (fun c23 => ?_)
    · have h := it h c23
      exact J29 σ1 a3 x2 x3 _ _ ls hH hS (lv_sub hl [2, 4, 1, 0] rfl) h
    · have h := ie h c23
      refine lv_bipush (v := 18) hx hb d_Commands_commandAt_26 (by decide) ?_
      cases h
      rw [← hQ0]
      exact W.iret hx hb hr (fun t ht hW => ⟨⟨_, (), rfl, rfl, by dsimp only; rw [ht]; exact hH⟩, hS.F ht⟩) hS.2.2 d_Commands_commandAt_28
set_option maxHeartbeats 4000000 in
set_option maxRecDepth 100000 in
theorem c_Commands_gather (l : Launch) (D : va_G) (aC : Nat → ClassId) (A : Nat → Prop) (ad : Nat → Nat → Nat) (n : Nat) (σ : St) (fa1 ia1 na1 : Nat) (a2 : Int32) (hka1 : kd fa1 = .inr (0, na1)) (hda1 : dm n fa1 ia1) (o : St) (h : f_Commands_gather σ fa1 ia1 na1 a2 = some o) : Met l y_Commands_gather w_Commands_gather rm_Commands_gather (va_Pc [.ref (ad 15 0), .ref (ad fa1 ia1), .int a2] (Pre D aC A ad n σ)) (va_Qv (fun (_ : Unit) => True) (fun _ t => Hold D aC A ad n o t.heap) A) 0 0 A := by
  refine Met.ofW (cc := prog_4_method_3_code) (maxL := 6) (ret := none) (by decide) rfl ?_
  intro p e s m args below meth c s₁ B hml hv
  obtain ⟨hargs, hH, hK, hZ⟩ := hv
  have hx := B.exec
  have hb := B.bytes
  have hr := B.returns
  have hts := atoms_spec (ws := w_Commands_gather) B.pre
  have hg : ∀ w ∈ gW, w.before args s = true := fun w h => hts w (List.mem_cons_of_mem _ h)
  have hown : s.vm.findClass "PrefixCodes$Commands" = some m.cls := findClass_of_methodNamed B.named
  have hlocks := B.notSynchronized
  have hS : va_S A s.heap s.heap [] := va_S.rf
  have hl := lv_entry ([.ref (ad 15 0), .ref (ad fa1 ia1), .int a2]) (n := 6) (Nat.le_of_ble_eq_true rfl)
  rw [show entryFrame m args 6 = entryFrame m (([.ref (ad 15 0), .ref (ad fa1 ia1), .int a2] : List Value).toArray) 6 by rw [hargs], lg_entry_eq]
  generalize (lg_sl ([.ref (ad 15 0), .ref (ad fa1 ia1), .int a2]) ++ List.replicate (6 - (lg_sl ([.ref (ad 15 0), .ref (ad fa1 ia1), .int a2])).length) Slot.unset).toArray = ls at hl ⊢
  have hl : lv_has ls 6 [(0, .ref (ad 15 0)), (1, .ref (ad fa1 ia1)), (2, .int a2)] := hl
  generalize hQ0 : MQ below (va_Qv (fun (_ : Unit) => True) (fun _ t => Hold D aC A ad n o t.heap) A) args s 0 0 A = Q0
  unfold f_Commands_gather at h
  refine lv_aload_n hx hb d_Commands_gather_0 rfl (lv_at hl 0 rfl) ?_
  refine lv_iconst (v := 0) hx hb d_Commands_gather_1 (by decide) ?_
  refine st_put hx hb hg hown hK hH hS (f := 15) (i := 0) hd_15 rfl rfl u_Commands t_Commands t_Commands_ok n_Commands 6 (by decide) (hg _ wd_176) rfl rfl rfl d_Commands_gather_2 (fun σ1 H locs eσ1 hH hS => ?_)
  have h := nm_at eσ1 h
  refine lv_aload_n hx hb d_Commands_gather_5 rfl (lv_at hl 0 rfl) ?_
  refine st_get hx hb hg hown hK hH (f := 15) (i := 0) hd_15 rfl rfl u_Commands 3 (by decide) (hg _ wd_177) (v := .ref (ad 16 0)) rfl d_Commands_gather_6 ?_
  refine lv_iconst (v := 0) hx hb d_Commands_gather_9 (by decide) ?_
  obtain ⟨qc, hc10, h⟩ := b1_some h
  obtain ⟨σ2, rfl⟩ : ∃ z, z = qc := ⟨_, rfl⟩
  have h := b1_at h
  refine st_Sv (As := [.ref (ad 16 0), .int 0]) (rest := []) ⟨hx, hb, hml, hown, hg⟩ (c_Arrays_fill l D aC A ad n _ 16 0 19 0 rfl hd_16 _ hc10) (cwGS hg wd_14 wd_188 wd_17 wd_16 yd_Arrays_fill ⟨Nat.le_of_ble_eq_true rfl, Nat.le_of_ble_eq_true rfl⟩) hK hH hS hZ rfl hl.1 rfl (Nat.le_of_ble_eq_true rfl) d_Commands_gather_10 ⟨Nat.zero_le _, Nat.zero_le _⟩ (fun H locs hH hS => ?_)
  refine lv_iconst (v := 0) hx hb d_Commands_gather_13 (by decide) ?_
  refine lv_istore_n (lv' := [(3, .int 0), (0, .ref (ad 15 0)), (1, .ref (ad fa1 ia1)), (2, .int a2)]) hx hb d_Commands_gather_14 rfl hl (by decide) rfl (fun ls hl => ?_)
  obtain ⟨q1, hq1, h⟩ := b2_some h
  have K1 : ∀ (σ13 : St) (x14 : Int32) (H : Heap) (locs : List Loc) (ls : Array Slot), q1 = (σ13, x14) → Hold D aC A ad n σ13 H → va_S A s.heap H locs → lv_has ls 6 [(0, .ref (ad 15 0)), (1, .ref (ad fa1 ia1)), (2, .int a2), (3, .int x14)] → W p l e (headSpec w_Commands_gather rm_Commands_gather).room s m args below meth c H locs 0 0 Q0 (F0 m 113 ls []) := by
    intro σ13 x14 H locs ls eq1 hH hS hl
    subst eq1
    have h := b2_at h
    cases h
    rw [← hQ0]
    exact W.vret hx hb hr (fun t ht hW => ⟨⟨(), rfl, trivial, by dsimp only; rw [ht]; exact hH⟩, hS.F ht⟩) hS.2.2 d_Commands_gather_113
  have loop1 : ∀ (k : Nat) (σ : St) (v3 : Int32) (H : Heap) (locs : List Loc) (ls : Array Slot), Hold D aC A ad n σ H → va_S A s.heap H locs → lv_has ls 6 [(0, .ref (ad 15 0)), (1, .ref (ad fa1 ia1)), (2, .int a2), (3, .int v3)] → lp (fun q => lb_Commands_gather_15 fa1 ia1 na1 a2 q.1 q.2) k (σ, v3) = some q1 → W p l e (headSpec w_Commands_gather rm_Commands_gather).room s m args below meth c H locs 0 0 Q0 (F0 m 15 ls []) := by
    intro k
    induction k with
    | zero => intro σ v3 H locs ls hH hS hl hlp; exact absurd hlp (lp_zero _ _ _)
    | succ k ih1 =>
      intro σ v3 H locs ls hH hS hl hlp
      obtain ⟨z1, h1, hk1⟩ := lp_succ hlp
      have h1 : lb_Commands_gather_15 fa1 ia1 na1 a2 σ v3 = some z1 := h1
      unfold lb_Commands_gather_15 at h1
      have J58 : ∀ (σ : St) (p3 : Int32) (p4 : Int32) (p5 : Int32) (H : Heap) (locs : List Loc) (ls : Array Slot), Hold D aC A ad n σ H → va_S A s.heap H locs → lv_has ls 6 [(0, .ref (ad 15 0)), (1, .ref (ad fa1 ia1)), (2, .int a2), (3, .int p3), (4, .int p4), (5, .int p5)] → jn_Commands_gather_58 fa1 ia1 na1 a2 σ p3 p4 p5 = some z1 → W p l e (headSpec w_Commands_gather rm_Commands_gather).room s m args below meth c H locs 0 0 Q0 (F0 m 58 ls []) := by
        intro σ p3 p4 p5  H locs ls hH hS hl h1
        unfold jn_Commands_gather_58 at h1
        refine lv_aload_n hx hb d_Commands_gather_58 rfl (lv_at hl 0 rfl) ?_
        refine st_get hx hb hg hown hK hH (f := 15) (i := 0) hd_15 rfl rfl u_Commands 4 (by decide) (hg _ wd_178) (v := .ref (ad 17 0)) rfl d_Commands_gather_59 ?_
        refine lv_aload_n hx hb d_Commands_gather_62 rfl (lv_at hl 0 rfl) ?_
        refine st_get hx hb hg hown hK hH (f := 15) (i := 0) hd_15 rfl rfl u_Commands 6 (by decide) (hg _ wd_176) (v := .int (σ.1 15 0 6)) rfl d_Commands_gather_63 ?_
        refine lv_iload hx hb d_Commands_gather_66 (lv_at hl 4 rfl) ?_
        obtain ⟨g68, h1⟩ := gd_some h1
        refine st_iast hx hb hK hH hS (f := 17) (i := 0) hd_17 rfl g68 d_Commands_gather_68 (fun σ5 H locs eσ5 hH hS => ?_)
        have h1 := nm_at eσ5 h1
        refine lv_aload_n hx hb d_Commands_gather_69 rfl (lv_at hl 0 rfl) ?_
        refine st_get hx hb hg hown hK hH (f := 15) (i := 0) hd_15 rfl rfl u_Commands 5 (by decide) (hg _ wd_179) (v := .ref (ad 18 0)) rfl d_Commands_gather_70 ?_
        refine lv_aload_n hx hb d_Commands_gather_73 rfl (lv_at hl 0 rfl) ?_
        refine st_get hx hb hg hown hK hH (f := 15) (i := 0) hd_15 rfl rfl u_Commands 6 (by decide) (hg _ wd_176) (v := .int (σ5.1 15 0 6)) rfl d_Commands_gather_74 ?_
        refine lv_iload hx hb d_Commands_gather_77 (lv_at hl 5 rfl) ?_
        obtain ⟨g79, h1⟩ := gd_some h1
        refine st_iast hx hb hK hH hS (f := 18) (i := 0) hd_18 rfl g79 d_Commands_gather_79 (fun σ6 H locs eσ6 hH hS => ?_)
        have h1 := nm_at eσ6 h1
        refine lv_aload_n hx hb d_Commands_gather_80 rfl (lv_at hl 0 rfl) ?_
        refine lv_dup hx hb d_Commands_gather_81 rfl ?_
        refine st_get hx hb hg hown hK hH (f := 15) (i := 0) hd_15 rfl rfl u_Commands 6 (by decide) (hg _ wd_176) (v := .int (σ6.1 15 0 6)) rfl d_Commands_gather_82 ?_
        refine lv_iconst (v := 1) hx hb d_Commands_gather_85 (by decide) ?_
        refine lv_iadd hx hb d_Commands_gather_86 ?_
        refine st_put hx hb hg hown hK hH hS (f := 15) (i := 0) hd_15 rfl rfl u_Commands t_Commands t_Commands_ok n_Commands 6 (by decide) (hg _ wd_176) rfl rfl rfl d_Commands_gather_87 (fun σ7 H locs eσ7 hH hS => ?_)
        have h1 := nm_at eσ7 h1
        refine lv_aload_n hx hb d_Commands_gather_90 rfl (lv_at hl 0 rfl) ?_
        refine st_get hx hb hg hown hK hH (f := 15) (i := 0) hd_15 rfl rfl u_Commands 3 (by decide) (hg _ wd_177) (v := .ref (ad 16 0)) rfl d_Commands_gather_91 ?_
        refine lv_iload hx hb d_Commands_gather_94 (lv_at hl 4 rfl) ?_
        refine lv_dup2_11 hx hb d_Commands_gather_96 rfl rfl ?_
        obtain ⟨g97, h1⟩ := gd_some h1
        refine st_iald hx hb hK hH (f := 16) (i := 0) hd_16 rfl g97 d_Commands_gather_97 ?_
        refine lv_iconst (v := 1) hx hb d_Commands_gather_98 (by decide) ?_
        refine lv_iadd hx hb d_Commands_gather_99 ?_
        obtain ⟨g100, h1⟩ := gd_some h1
        refine st_iast hx hb hK hH hS (f := 16) (i := 0) hd_16 rfl g100 d_Commands_gather_100 (fun σ8 H locs eσ8 hH hS => ?_)
        have h1 := nm_at eσ8 h1
        refine lv_iload_n hx hb d_Commands_gather_101 rfl (lv_at hl 3 rfl) ?_
        refine lv_iload hx hb d_Commands_gather_102 (lv_at hl 5 rfl) ?_
        refine lv_iconst (v := 1) hx hb d_Commands_gather_104 (by decide) ?_
        refine st_max hx hb (hml.trans hl.1.symm) hown (hg _ wd_180) (hg _ wd_181) (hg _ wd_182) (hg _ wd_183) (Nat.le_of_ble_eq_true rfl) (Nat.le_of_ble_eq_true rfl) (Nat.zero_le _) (Nat.zero_le _) d_Commands_gather_105 ?_
        refine lv_iadd hx hb d_Commands_gather_108 ?_
        refine lv_topi (fun x9 ex9 => ?_)
        have h1 := nm_at ex9 h1
        refine lv_istore_n (lv' := [(3, .int x9), (0, .ref (ad 15 0)), (1, .ref (ad fa1 ia1)), (2, .int a2), (4, .int p4), (5, .int p5)]) hx hb d_Commands_gather_109 rfl hl (by decide) rfl (fun ls hl => ?_)
        refine lv_goto (tgt := 15) hx hb d_Commands_gather_110 (by decide) ?_
        cases h1
        exact ih1 σ8 x9 _ _ ls hH hS (lv_sub hl [1, 2, 3, 0] rfl) hk1
      refine lv_iload_n hx hb d_Commands_gather_15 rfl (lv_at hl 3 rfl) ?_
      refine lv_iload_n hx hb d_Commands_gather_16 rfl (lv_at hl 2 rfl) ?_
      refine lv_icmp_ge (tgt := 113) hx hb d_Commands_gather_17 (by decide) (fun c17 => ?_) (fun c17 => ?_)
      · have h1 := it h1 c17
        cases h1
        exact K1 σ v3 _ _ ls (Option.some.inj hk1).symm hH hS (lv_sub hl [0, 1, 2, 3] rfl)
      · have h1 := ie h1 c17
        refine lv_aload_n hx hb d_Commands_gather_20 rfl (lv_at hl 1 rfl) ?_
        refine lv_iload_n hx hb d_Commands_gather_21 rfl (lv_at hl 2 rfl) ?_
        refine lv_iload_n hx hb d_Commands_gather_22 rfl (lv_at hl 3 rfl) ?_
        obtain ⟨qc, hc23, h1⟩ := b2_some h1
        obtain ⟨σ3, x4⟩ := qc
        have h1 := b2_at h1
        refine st_Si (As := [.ref (ad fa1 ia1), .int a2, .int v3]) (rest := []) ⟨hx, hb, hml, hown, hg⟩ (c_Commands_commandAt l D aC A ad n _ fa1 ia1 na1 a2 v3 hka1 hda1 _ hc23) (cwGS hg wd_189 wd_190 wd_191 wd_174 yd_Commands_commandAt ⟨Nat.le_of_ble_eq_true rfl, Nat.le_of_ble_eq_true rfl⟩) hK hH hS hZ rfl hl.1 rfl (Nat.le_of_ble_eq_true rfl) d_Commands_gather_23 ⟨Nat.zero_le _, Nat.zero_le _⟩ (fun H locs hH hS => ?_)
        refine lv_istore (lv' := [(4, .int x4), (0, .ref (ad 15 0)), (1, .ref (ad fa1 ia1)), (2, .int a2), (3, .int v3)]) hx hb d_Commands_gather_26 hl (by decide) rfl (fun ls hl => ?_)
        refine lv_iconst (v := 1) hx hb d_Commands_gather_28 (by decide) ?_
        refine lv_istore (lv' := [(5, .int 1), (4, .int x4), (0, .ref (ad 15 0)), (1, .ref (ad fa1 ia1)), (2, .int a2), (3, .int v3)]) hx hb d_Commands_gather_29 hl (by decide) rfl (fun ls hl => ?_)
        refine lv_iload hx hb d_Commands_gather_31 (lv_at hl 1 rfl) ?_
        refine lv_bipush (v := 16) hx hb d_Commands_gather_33 (by decide) ?_
        refine lv_icmp_lt (tgt := 58) hx hb d_Commands_gather_35 (by decide) (fun c35 => ?_) (fun c35 => ?_)
        · have h1 := it h1 c35
          exact J58 σ3 v3 x4 1 _ _ ls hH hS (lv_sub hl [2, 3, 4, 5, 1, 0] rfl) h1
        · have h1 := ie h1 c35
          refine lv_aload_n hx hb d_Commands_gather_38 rfl (lv_at hl 3 rfl) ?_
          refine lv_iload_n hx hb d_Commands_gather_39 rfl (lv_at hl 4 rfl) ?_
          refine lv_iload_n hx hb d_Commands_gather_40 rfl (lv_at hl 5 rfl) ?_
          obtain ⟨qc, hc41, h1⟩ := b2_some h1
          obtain ⟨σ10, x11⟩ := qc
          have h1 := b2_at h1
          refine st_Si (As := [.ref (ad fa1 ia1), .int a2, .int v3]) (rest := []) ⟨hx, hb, hml, hown, hg⟩ (c_Commands_runFrom l D aC A ad n _ fa1 ia1 na1 a2 v3 hka1 hda1 _ hc41) (cwGS hg wd_172 wd_173 wd_175 wd_174 yd_Commands_runFrom ⟨Nat.le_of_ble_eq_true rfl, Nat.le_of_ble_eq_true rfl⟩) hK hH hS hZ rfl hl.1 rfl (Nat.le_of_ble_eq_true rfl) d_Commands_gather_41 ⟨Nat.zero_le _, Nat.zero_le _⟩ (fun H locs hH hS => ?_)
          refine va_gets hx hb hZ.2.2.1.1 hS hown (hg _ wd_184) (fun _ h => h) d_Commands_gather_44 ?_
          refine lv_iload hx hb d_Commands_gather_47 (lv_at hl 1 rfl) ?_
          refine lv_bipush (v := 16) hx hb d_Commands_gather_49 (by decide) ?_
          refine lv_isub hx hb d_Commands_gather_51 ?_
          obtain ⟨g52, h1⟩ := gd_some h1
          refine st_tld hx hb hZ.2.2.1.2 hS g52 d_Commands_gather_52 ?_
          refine st_min hx hb (hml.trans hl.1.symm) hown (hg _ wd_185) (hg _ wd_186) (hg _ wd_182) (hg _ wd_187) (Nat.le_of_ble_eq_true rfl) (Nat.le_of_ble_eq_true rfl) (Nat.zero_le _) (Nat.zero_le _) d_Commands_gather_53 ?_
          refine lv_topi (fun x12 ex12 => ?_)
          have h1 := nm_at ex12 h1
          refine lv_istore (lv' := [(5, .int x12), (4, .int x4), (0, .ref (ad 15 0)), (1, .ref (ad fa1 ia1)), (2, .int a2), (3, .int v3)]) hx hb d_Commands_gather_56 hl (by decide) rfl (fun ls hl => ?_)
          exact J58 σ10 v3 x4 x12 _ _ ls hH hS (lv_sub hl [2, 3, 4, 5, 1, 0] rfl) h1
  obtain ⟨k1, hq1⟩ := lpE_some hq1
  exact loop1 k1 σ2 0 _ _ ls hH hS (lv_sub hl [1, 2, 3, 0] rfl) hq1
set_option maxHeartbeats 4000000 in
set_option maxRecDepth 100000 in
theorem c_Commands_appendCode (l : Launch) (D : va_G) (aC : Nat → ClassId) (A : Nat → Prop) (ad : Nat → Nat → Nat) (n : Nat) (σ : St) (o : St) (h : f_Commands_appendCode σ  = some o) : Met l y_Commands_appendCode w_Commands_appendCode rm_Commands_appendCode (va_Pc [.ref (ad 15 0)] (Pre D aC A ad n σ)) (va_Qv (fun (_ : Unit) => True) (fun _ t => Hold D aC A ad n o t.heap) A) 0 0 A := by
  refine Met.ofW (cc := prog_4_method_6_code) (maxL := 3) (ret := none) (by decide) rfl ?_
  intro p e s m args below meth c s₁ B hml hv
  obtain ⟨hargs, hH, hK, hZ⟩ := hv
  have hx := B.exec
  have hb := B.bytes
  have hr := B.returns
  have hts := atoms_spec (ws := w_Commands_appendCode) B.pre
  have hg : ∀ w ∈ gW, w.before args s = true := fun w h => hts w (List.mem_cons_of_mem _ h)
  have hown : s.vm.findClass "PrefixCodes$Commands" = some m.cls := findClass_of_methodNamed B.named
  have hlocks := B.notSynchronized
  have hS : va_S A s.heap s.heap [] := va_S.rf
  have hl := lv_entry ([.ref (ad 15 0)]) (n := 3) (Nat.le_of_ble_eq_true rfl)
  rw [show entryFrame m args 3 = entryFrame m (([.ref (ad 15 0)] : List Value).toArray) 3 by rw [hargs], lg_entry_eq]
  generalize (lg_sl ([.ref (ad 15 0)]) ++ List.replicate (3 - (lg_sl ([.ref (ad 15 0)])).length) Slot.unset).toArray = ls at hl ⊢
  have hl : lv_has ls 3 [(0, .ref (ad 15 0))] := hl
  generalize hQ0 : MQ below (va_Qv (fun (_ : Unit) => True) (fun _ t => Hold D aC A ad n o t.heap) A) args s 0 0 A = Q0
  unfold f_Commands_appendCode at h
  refine lv_bipush (v := 19) hx hb d_Commands_appendCode_0 (by decide) ?_
  refine lv_istore_n (lv' := [(1, .int 19), (0, .ref (ad 15 0))]) hx hb d_Commands_appendCode_2 rfl hl (by decide) rfl (fun ls hl => ?_)
  obtain ⟨q1, hq1, h⟩ := b2_some h
  have K1 : ∀ (σ2 : St) (x3 : Int32) (H : Heap) (locs : List Loc) (ls : Array Slot), q1 = (σ2, x3) → Hold D aC A ad n σ2 H → va_S A s.heap H locs → lv_has ls 3 [(0, .ref (ad 15 0)), (1, .int x3)] → W p l e (headSpec w_Commands_appendCode rm_Commands_appendCode).room s m args below meth c H locs 0 0 Q0 (F0 m 32 ls []) := by
    intro σ2 x3 H locs ls eq1 hH hS hl
    subst eq1
    have h := b2_at h
    refine lv_aload_n hx hb d_Commands_appendCode_32 rfl (lv_at hl 0 rfl) ?_
    refine st_get hx hb hg hown hK hH (f := 15) (i := 0) hd_15 rfl rfl u_Commands 0 (by decide) (hg _ wd_195) (v := .ref (ad 3 0)) rfl d_Commands_appendCode_33 ?_
    refine lv_iload_n hx hb d_Commands_appendCode_36 rfl (lv_at hl 1 rfl) ?_
    refine lv_iconst (v := 4) hx hb d_Commands_appendCode_37 (by decide) ?_
    refine lv_isub hx hb d_Commands_appendCode_38 ?_
    refine lv_iconst (v := 4) hx hb d_Commands_appendCode_39 (by decide) ?_
    obtain ⟨qc, hc40, h⟩ := b1_some h
    obtain ⟨σ4, rfl⟩ : ∃ z, z = qc := ⟨_, rfl⟩
    have h := b1_at h
    refine st_Vv (As := [.int (x3 - 4), .int 4]) (rest := []) ⟨hx, hb, hml, hown, hg⟩ (c_Stream_appendNumber l D aC A ad n _ (x3 - 4) 4 _ hc40) (cwG hg wd_132 wd_196 wd_134 wd_135 wd_119 yd_Stream_appendNumber ⟨Nat.le_of_ble_eq_true rfl, Nat.le_of_ble_eq_true rfl⟩) hK hH hS hZ hd_3 rfl rfl rfl hl.1 rfl (Nat.le_of_ble_eq_true rfl) d_Commands_appendCode_40 ⟨Nat.zero_le _, Nat.zero_le _⟩ (fun H locs hH hS => ?_)
    refine lv_iconst (v := 0) hx hb d_Commands_appendCode_43 (by decide) ?_
    refine lv_istore_n (lv' := [(2, .int 0), (0, .ref (ad 15 0)), (1, .int x3)]) hx hb d_Commands_appendCode_44 rfl hl (by decide) rfl (fun ls hl => ?_)
    obtain ⟨q1, hq1, h⟩ := b2_some h
    have K1 : ∀ (σ7 : St) (x8 : Int32) (H : Heap) (locs : List Loc) (ls : Array Slot), q1 = (σ7, x8) → Hold D aC A ad n σ7 H → va_S A s.heap H locs → lv_has ls 3 [(0, .ref (ad 15 0)), (1, .int x3), (2, .int x8)] → W p l e (headSpec w_Commands_appendCode rm_Commands_appendCode).room s m args below meth c H locs 0 0 Q0 (F0 m 77 ls []) := by
      intro σ7 x8 H locs ls eq1 hH hS hl
      subst eq1
      have h := b2_at h
      cases h
      rw [← hQ0]
      exact W.vret hx hb hr (fun t ht hW => ⟨⟨(), rfl, trivial, by dsimp only; rw [ht]; exact hH⟩, hS.F ht⟩) hS.2.2 d_Commands_appendCode_77
    have loop1 : ∀ (k : Nat) (σ : St) (v2 : Int32) (H : Heap) (locs : List Loc) (ls : Array Slot), Hold D aC A ad n σ H → va_S A s.heap H locs → lv_has ls 3 [(0, .ref (ad 15 0)), (1, .int x3), (2, .int v2)] → lp (fun q => lb_Commands_appendCode_45 x3 q.1 q.2) k (σ, v2) = some q1 → W p l e (headSpec w_Commands_appendCode rm_Commands_appendCode).room s m args below meth c H locs 0 0 Q0 (F0 m 45 ls []) := by
      intro k
      induction k with
      | zero => intro σ v2 H locs ls hH hS hl hlp; exact absurd hlp (lp_zero _ _ _)
      | succ k ih1 =>
        intro σ v2 H locs ls hH hS hl hlp
        obtain ⟨z1, h1, hk1⟩ := lp_succ hlp
        have h1 : lb_Commands_appendCode_45 x3 σ v2 = some z1 := h1
        unfold lb_Commands_appendCode_45 at h1
        refine lv_iload_n hx hb d_Commands_appendCode_45 rfl (lv_at hl 2 rfl) ?_
        refine lv_iload_n hx hb d_Commands_appendCode_46 rfl (lv_at hl 1 rfl) ?_
        refine lv_icmp_ge (tgt := 77) hx hb d_Commands_appendCode_47 (by decide) (fun c47 => ?_) (fun c47 => ?_)
        · have h1 := it h1 c47
          cases h1
          exact K1 σ v2 _ _ ls (Option.some.inj hk1).symm hH hS (lv_sub hl [0, 1, 2] rfl)
        · have h1 := ie h1 c47
          refine lv_aload_n hx hb d_Commands_appendCode_50 rfl (lv_at hl 0 rfl) ?_
          refine st_get hx hb hg hown hK hH (f := 15) (i := 0) hd_15 rfl rfl u_Commands 0 (by decide) (hg _ wd_195) (v := .ref (ad 3 0)) rfl d_Commands_appendCode_51 ?_
          refine lv_aload_n hx hb d_Commands_appendCode_54 rfl (lv_at hl 0 rfl) ?_
          refine st_get hx hb hg hown hK hH (f := 15) (i := 0) hd_15 rfl rfl u_Commands 2 (by decide) (hg _ wd_192) (v := .ref (ad 41 12)) rfl d_Commands_appendCode_55 ?_
          refine st_get hx hb hg hown hK hH (f := 41) (i := 12) hd_41_12 rfl rfl u_Code 1 (by decide) (hg _ wd_193) (v := .ref (ad 42 12)) rfl d_Commands_appendCode_58 ?_
          refine va_gets hx hb hZ.1.1 hS hown (hg _ wd_194) (fun _ h => h) d_Commands_appendCode_61 ?_
          refine lv_iload_n hx hb d_Commands_appendCode_64 rfl (lv_at hl 2 rfl) ?_
          obtain ⟨g65, h1⟩ := gd_some h1
          refine st_tld hx hb hZ.1.2 hS g65 d_Commands_appendCode_65 ?_
          obtain ⟨g66, h1⟩ := gd_some h1
          refine st_iald hx hb hK hH (f := 42) (i := 12) hd_42_12 rfl g66 d_Commands_appendCode_66 ?_
          refine lv_iconst (v := 3) hx hb d_Commands_appendCode_67 (by decide) ?_
          obtain ⟨qc, hc68, h1⟩ := b1_some h1
          obtain ⟨σ5, rfl⟩ : ∃ z, z = qc := ⟨_, rfl⟩
          have h1 := b1_at h1
          refine st_Vv (As := [.int (σ.1 42 12 (tb_0 v2.toNatClampNeg).toNatClampNeg), .int 3]) (rest := []) ⟨hx, hb, hml, hown, hg⟩ (c_Stream_appendNumber l D aC A ad n _ (σ.1 42 12 (tb_0 v2.toNatClampNeg).toNatClampNeg) 3 _ hc68) (cwG hg wd_132 wd_196 wd_134 wd_135 wd_119 yd_Stream_appendNumber ⟨Nat.le_of_ble_eq_true rfl, Nat.le_of_ble_eq_true rfl⟩) hK hH hS hZ hd_3 rfl rfl rfl hl.1 rfl (Nat.le_of_ble_eq_true rfl) d_Commands_appendCode_68 ⟨Nat.zero_le _, Nat.zero_le _⟩ (fun H locs hH hS => ?_)
          obtain ⟨x6, ex6⟩ : ∃ y : Int32, y = v2 + 1 := ⟨_, rfl⟩
          have h1 := nm_at ex6 h1
          refine lv_iinc (v := x6) (lv' := [(2, .int x6), (0, .ref (ad 15 0)), (1, .int x3)]) hx hb d_Commands_appendCode_71 hl (k := 2) rfl (by rw [ex6]; rfl) (by decide) rfl (fun ls hl => ?_)
          refine lv_goto (tgt := 45) hx hb d_Commands_appendCode_74 (by decide) ?_
          cases h1
          exact ih1 σ5 x6 _ _ ls hH hS (lv_sub hl [1, 2, 0] rfl) hk1
    obtain ⟨k1, hq1⟩ := lpE_some hq1
    exact loop1 k1 σ4 0 _ _ ls hH hS (lv_sub hl [1, 2, 0] rfl) hq1
  have loop1 : ∀ (k : Nat) (σ : St) (v1 : Int32) (H : Heap) (locs : List Loc) (ls : Array Slot), Hold D aC A ad n σ H → va_S A s.heap H locs → lv_has ls 3 [(0, .ref (ad 15 0)), (1, .int v1)] → lp (fun q => lb_Commands_appendCode_3 q.1 q.2) k (σ, v1) = some q1 → W p l e (headSpec w_Commands_appendCode rm_Commands_appendCode).room s m args below meth c H locs 0 0 Q0 (F0 m 3 ls []) := by
    intro k
    induction k with
    | zero => intro σ v1 H locs ls hH hS hl hlp; exact absurd hlp (lp_zero _ _ _)
    | succ k ih1 =>
      intro σ v1 H locs ls hH hS hl hlp
      obtain ⟨z1, h1, hk1⟩ := lp_succ hlp
      have h1 : lb_Commands_appendCode_3 σ v1 = some z1 := h1
      unfold lb_Commands_appendCode_3 at h1
      refine lv_iload_n hx hb d_Commands_appendCode_3 rfl (lv_at hl 1 rfl) ?_
      refine lv_iconst (v := 4) hx hb d_Commands_appendCode_4 (by decide) ?_
      refine lv_icmp_le (tgt := 32) hx hb d_Commands_appendCode_5 (by decide) (fun c5 => ?_) (fun c5 => ?_)
      · have h1 := it h1 c5
        cases h1
        exact K1 σ v1 _ _ ls (Option.some.inj hk1).symm hH hS (lv_sub hl [0, 1] rfl)
      · have h1 := ie h1 c5
        refine lv_aload_n hx hb d_Commands_appendCode_8 rfl (lv_at hl 0 rfl) ?_
        refine st_get hx hb hg hown hK hH (f := 15) (i := 0) hd_15 rfl rfl u_Commands 2 (by decide) (hg _ wd_192) (v := .ref (ad 41 12)) rfl d_Commands_appendCode_9 ?_
        refine st_get hx hb hg hown hK hH (f := 41) (i := 12) hd_41_12 rfl rfl u_Code 1 (by decide) (hg _ wd_193) (v := .ref (ad 42 12)) rfl d_Commands_appendCode_12 ?_
        refine va_gets hx hb hZ.1.1 hS hown (hg _ wd_194) (fun _ h => h) d_Commands_appendCode_15 ?_
        refine lv_iload_n hx hb d_Commands_appendCode_18 rfl (lv_at hl 1 rfl) ?_
        refine lv_iconst (v := 1) hx hb d_Commands_appendCode_19 (by decide) ?_
        refine lv_isub hx hb d_Commands_appendCode_20 ?_
        obtain ⟨g21, h1⟩ := gd_some h1
        refine st_tld hx hb hZ.1.2 hS g21 d_Commands_appendCode_21 ?_
        obtain ⟨g22, h1⟩ := gd_some h1
        refine st_iald hx hb hK hH (f := 42) (i := 12) hd_42_12 rfl g22 d_Commands_appendCode_22 ?_
        refine lv_if_ne (tgt := 32) hx hb d_Commands_appendCode_23 (by decide) (fun c23 => ?_) (fun c23 => ?_)
        · have h1 := ie h1 c23
          cases h1
          exact K1 σ v1 _ _ ls (Option.some.inj hk1).symm hH hS (lv_sub hl [0, 1] rfl)
        · have h1 := it h1 c23
          obtain ⟨x1, ex1⟩ : ∃ y : Int32, y = v1 + (-1) := ⟨_, rfl⟩
          have h1 := nm_at ex1 h1
          refine lv_iinc (v := x1) (lv' := [(1, .int x1), (0, .ref (ad 15 0))]) hx hb d_Commands_appendCode_26 hl (k := 1) rfl (by rw [ex1]; rfl) (by decide) rfl (fun ls hl => ?_)
          refine lv_goto (tgt := 3) hx hb d_Commands_appendCode_29 (by decide) ?_
          cases h1
          exact ih1 σ x1 _ _ ls hH hS (lv_sub hl [1, 0] rfl) hk1
  obtain ⟨k1, hq1⟩ := lpE_some hq1
  exact loop1 k1 σ 19 _ _ ls hH hS (lv_sub hl [1, 0] rfl) hq1
set_option maxHeartbeats 4000000 in
set_option maxRecDepth 100000 in
theorem c_Commands_append (l : Launch) (D : va_G) (aC : Nat → ClassId) (A : Nat → Prop) (ad : Nat → Nat → Nat) (n : Nat) (σ : St) (fa1 ia1 na1 : Nat) (a2 : Int32) (hka1 : kd fa1 = .inr (0, na1)) (hda1 : dm n fa1 ia1) (o : St) (h : f_Commands_append σ fa1 ia1 na1 a2 = some o) : Met l y_Commands_append w_Commands_append rm_Commands_append (va_Pc [.ref (ad 15 0), .ref (ad fa1 ia1), .int a2] (Pre D aC A ad n σ)) (va_Qv (fun (_ : Unit) => True) (fun _ t => Hold D aC A ad n o t.heap) A) 0 0 A := by
  refine Met.ofW (cc := prog_4_method_2_code) (maxL := 6) (ret := none) (by decide) rfl ?_
  intro p e s m args below meth c s₁ B hml hv
  obtain ⟨hargs, hH, hK, hZ⟩ := hv
  have hx := B.exec
  have hb := B.bytes
  have hr := B.returns
  have hts := atoms_spec (ws := w_Commands_append) B.pre
  have hg : ∀ w ∈ gW, w.before args s = true := fun w h => hts w (List.mem_cons_of_mem _ h)
  have hown : s.vm.findClass "PrefixCodes$Commands" = some m.cls := findClass_of_methodNamed B.named
  have hlocks := B.notSynchronized
  have hS : va_S A s.heap s.heap [] := va_S.rf
  have hl := lv_entry ([.ref (ad 15 0), .ref (ad fa1 ia1), .int a2]) (n := 6) (Nat.le_of_ble_eq_true rfl)
  rw [show entryFrame m args 6 = entryFrame m (([.ref (ad 15 0), .ref (ad fa1 ia1), .int a2] : List Value).toArray) 6 by rw [hargs], lg_entry_eq]
  generalize (lg_sl ([.ref (ad 15 0), .ref (ad fa1 ia1), .int a2]) ++ List.replicate (6 - (lg_sl ([.ref (ad 15 0), .ref (ad fa1 ia1), .int a2])).length) Slot.unset).toArray = ls at hl ⊢
  have hl : lv_has ls 6 [(0, .ref (ad 15 0)), (1, .ref (ad fa1 ia1)), (2, .int a2)] := hl
  generalize hQ0 : MQ below (va_Qv (fun (_ : Unit) => True) (fun _ t => Hold D aC A ad n o t.heap) A) args s 0 0 A = Q0
  unfold f_Commands_append at h
  refine lv_aload_n hx hb d_Commands_append_0 rfl (lv_at hl 0 rfl) ?_
  refine lv_aload_n hx hb d_Commands_append_1 rfl (lv_at hl 1 rfl) ?_
  refine lv_iload_n hx hb d_Commands_append_2 rfl (lv_at hl 2 rfl) ?_
  obtain ⟨qc, hc3, h⟩ := b1_some h
  obtain ⟨σ1, rfl⟩ : ∃ z, z = qc := ⟨_, rfl⟩
  have h := b1_at h
  refine st_Vv (As := [.ref (ad fa1 ia1), .int a2]) (rest := []) ⟨hx, hb, hml, hown, hg⟩ (c_Commands_gather l D aC A ad n _ fa1 ia1 na1 a2 hka1 hda1 _ hc3) (cwG hg wd_200 wd_201 wd_202 wd_203 wd_174 yd_Commands_gather ⟨Nat.le_of_ble_eq_true rfl, Nat.le_of_ble_eq_true rfl⟩) hK hH hS hZ hd_15 rfl rfl rfl hl.1 rfl (Nat.le_of_ble_eq_true rfl) d_Commands_append_3 ⟨Nat.zero_le _, Nat.zero_le _⟩ (fun H locs hH hS => ?_)
  refine lv_aload_n hx hb d_Commands_append_6 rfl (lv_at hl 0 rfl) ?_
  refine st_get hx hb hg hown hK hH (f := 15) (i := 0) hd_15 rfl rfl u_Commands 1 (by decide) (hg _ wd_197) (v := .ref (ad 5 0)) rfl d_Commands_append_7 ?_
  refine lv_aload_n hx hb d_Commands_append_10 rfl (lv_at hl 0 rfl) ?_
  refine st_get hx hb hg hown hK hH (f := 15) (i := 0) hd_15 rfl rfl u_Commands 3 (by decide) (hg _ wd_177) (v := .ref (ad 16 0)) rfl d_Commands_append_11 ?_
  refine lv_bipush (v := 7) hx hb d_Commands_append_14 (by decide) ?_
  refine lv_aload_n hx hb d_Commands_append_16 rfl (lv_at hl 0 rfl) ?_
  refine st_get hx hb hg hown hK hH (f := 15) (i := 0) hd_15 rfl rfl u_Commands 2 (by decide) (hg _ wd_192) (v := .ref (ad 41 12)) rfl d_Commands_append_17 ?_
  obtain ⟨qc, hc20, h⟩ := b1_some h
  obtain ⟨σ2, rfl⟩ : ∃ z, z = qc := ⟨_, rfl⟩
  have h := b1_at h
  refine st_Vv (As := [.ref (ad 16 0), .int 7, .ref (ad 41 12)]) (rest := []) ⟨hx, hb, hml, hown, hg⟩ (c_Packages_fit l D aC A ad n _ 16 0 19 7 12 rfl hd_16 hd_41_12 _ hc20) (cwG hg wd_204 wd_205 wd_206 wd_207 wd_86 yd_Packages_fit ⟨Nat.le_of_ble_eq_true rfl, Nat.le_of_ble_eq_true rfl⟩) hK hH hS hZ hd_5 rfl rfl rfl hl.1 rfl (Nat.le_of_ble_eq_true rfl) d_Commands_append_20 ⟨Nat.zero_le _, Nat.zero_le _⟩ (fun H locs hH hS => ?_)
  refine lv_aload_n hx hb d_Commands_append_23 rfl (lv_at hl 0 rfl) ?_
  obtain ⟨qc, hc24, h⟩ := b1_some h
  obtain ⟨σ3, rfl⟩ : ∃ z, z = qc := ⟨_, rfl⟩
  have h := b1_at h
  refine st_Vv (As := []) (rest := []) ⟨hx, hb, hml, hown, hg⟩ (c_Commands_appendCode l D aC A ad n _  _ hc24) (cwG hg wd_208 wd_209 wd_210 wd_211 wd_174 yd_Commands_appendCode ⟨Nat.le_of_ble_eq_true rfl, Nat.le_of_ble_eq_true rfl⟩) hK hH hS hZ hd_15 rfl rfl rfl hl.1 rfl (Nat.le_of_ble_eq_true rfl) d_Commands_append_24 ⟨Nat.zero_le _, Nat.zero_le _⟩ (fun H locs hH hS => ?_)
  refine lv_iconst (v := 0) hx hb d_Commands_append_27 (by decide) ?_
  refine lv_istore_n (lv' := [(3, .int 0), (0, .ref (ad 15 0)), (1, .ref (ad fa1 ia1)), (2, .int a2)]) hx hb d_Commands_append_28 rfl hl (by decide) rfl (fun ls hl => ?_)
  obtain ⟨q1, hq1, h⟩ := b2_some h
  have K1 : ∀ (σ10 : St) (x11 : Int32) (H : Heap) (locs : List Loc) (ls : Array Slot), q1 = (σ10, x11) → Hold D aC A ad n σ10 H → va_S A s.heap H locs → lv_has ls 6 [(0, .ref (ad 15 0)), (3, .int x11)] → W p l e (headSpec w_Commands_append rm_Commands_append).room s m args below meth c H locs 0 0 Q0 (F0 m 118 ls []) := by
    intro σ10 x11 H locs ls eq1 hH hS hl
    subst eq1
    have h := b2_at h
    cases h
    rw [← hQ0]
    exact W.vret hx hb hr (fun t ht hW => ⟨⟨(), rfl, trivial, by dsimp only; rw [ht]; exact hH⟩, hS.F ht⟩) hS.2.2 d_Commands_append_118
  have loop1 : ∀ (k : Nat) (σ : St) (v3 : Int32) (H : Heap) (locs : List Loc) (ls : Array Slot), Hold D aC A ad n σ H → va_S A s.heap H locs → lv_has ls 6 [(0, .ref (ad 15 0)), (3, .int v3)] → lp (fun q => lb_Commands_append_29 q.1 q.2) k (σ, v3) = some q1 → W p l e (headSpec w_Commands_append rm_Commands_append).room s m args below meth c H locs 0 0 Q0 (F0 m 29 ls []) := by
    intro k
    induction k with
    | zero => intro σ v3 H locs ls hH hS hl hlp; exact absurd hlp (lp_zero _ _ _)
    | succ k ih1 =>
      intro σ v3 H locs ls hH hS hl hlp
      obtain ⟨z1, h1, hk1⟩ := lp_succ hlp
      have h1 : lb_Commands_append_29 σ v3 = some z1 := h1
      unfold lb_Commands_append_29 at h1
      refine lv_iload_n hx hb d_Commands_append_29 rfl (lv_at hl 1 rfl) ?_
      refine lv_aload_n hx hb d_Commands_append_30 rfl (lv_at hl 0 rfl) ?_
      refine st_get hx hb hg hown hK hH (f := 15) (i := 0) hd_15 rfl rfl u_Commands 6 (by decide) (hg _ wd_176) (v := .int (σ.1 15 0 6)) rfl d_Commands_append_31 ?_
      refine lv_icmp_ge (tgt := 118) hx hb d_Commands_append_34 (by decide) (fun c34 => ?_) (fun c34 => ?_)
      · have h1 := it h1 c34
        cases h1
        exact K1 σ v3 _ _ ls (Option.some.inj hk1).symm hH hS (lv_sub hl [0, 1] rfl)
      · have h1 := ie h1 c34
        refine lv_aload_n hx hb d_Commands_append_37 rfl (lv_at hl 0 rfl) ?_
        refine st_get hx hb hg hown hK hH (f := 15) (i := 0) hd_15 rfl rfl u_Commands 4 (by decide) (hg _ wd_178) (v := .ref (ad 17 0)) rfl d_Commands_append_38 ?_
        refine lv_iload_n hx hb d_Commands_append_41 rfl (lv_at hl 1 rfl) ?_
        obtain ⟨g42, h1⟩ := gd_some h1
        refine st_iald hx hb hK hH (f := 17) (i := 0) hd_17 rfl g42 d_Commands_append_42 ?_
        refine lv_topi (fun x4 ex4 => ?_)
        have h1 := nm_at ex4 h1
        refine lv_istore (lv' := [(4, .int x4), (0, .ref (ad 15 0)), (3, .int v3)]) hx hb d_Commands_append_43 hl (by decide) rfl (fun ls hl => ?_)
        refine lv_aload_n hx hb d_Commands_append_45 rfl (lv_at hl 1 rfl) ?_
        refine st_get hx hb hg hown hK hH (f := 15) (i := 0) hd_15 rfl rfl u_Commands 0 (by decide) (hg _ wd_195) (v := .ref (ad 3 0)) rfl d_Commands_append_46 ?_
        refine lv_aload_n hx hb d_Commands_append_49 rfl (lv_at hl 1 rfl) ?_
        refine st_get hx hb hg hown hK hH (f := 15) (i := 0) hd_15 rfl rfl u_Commands 2 (by decide) (hg _ wd_192) (v := .ref (ad 41 12)) rfl d_Commands_append_50 ?_
        refine st_get hx hb hg hown hK hH (f := 41) (i := 12) hd_41_12 rfl rfl u_Code 2 (by decide) (hg _ wd_198) (v := .ref (ad 43 12)) rfl d_Commands_append_53 ?_
        refine lv_iload hx hb d_Commands_append_56 (lv_at hl 0 rfl) ?_
        obtain ⟨g58, h1⟩ := gd_some h1
        refine st_iald hx hb hK hH (f := 43) (i := 12) hd_43_12 rfl g58 d_Commands_append_58 ?_
        refine lv_aload_n hx hb d_Commands_append_59 rfl (lv_at hl 1 rfl) ?_
        refine st_get hx hb hg hown hK hH (f := 15) (i := 0) hd_15 rfl rfl u_Commands 2 (by decide) (hg _ wd_192) (v := .ref (ad 41 12)) rfl d_Commands_append_60 ?_
        refine st_get hx hb hg hown hK hH (f := 41) (i := 12) hd_41_12 rfl rfl u_Code 1 (by decide) (hg _ wd_193) (v := .ref (ad 42 12)) rfl d_Commands_append_63 ?_
        refine lv_iload hx hb d_Commands_append_66 (lv_at hl 0 rfl) ?_
        obtain ⟨g68, h1⟩ := gd_some h1
        refine st_iald hx hb hK hH (f := 42) (i := 12) hd_42_12 rfl g68 d_Commands_append_68 ?_
        obtain ⟨qc, hc69, h1⟩ := b1_some h1
        obtain ⟨σ5, rfl⟩ : ∃ z, z = qc := ⟨_, rfl⟩
        have h1 := b1_at h1
        refine st_Vv (As := [.int (σ.1 43 12 x4.toNatClampNeg), .int (σ.1 42 12 x4.toNatClampNeg)]) (rest := []) ⟨hx, hb, hml, hown, hg⟩ (c_Stream_appendNumber l D aC A ad n _ (σ.1 43 12 x4.toNatClampNeg) (σ.1 42 12 x4.toNatClampNeg) _ hc69) (cwG hg wd_132 wd_196 wd_134 wd_135 wd_119 yd_Stream_appendNumber ⟨Nat.le_of_ble_eq_true rfl, Nat.le_of_ble_eq_true rfl⟩) hK hH hS hZ hd_3 rfl rfl rfl hl.1 rfl (Nat.le_of_ble_eq_true rfl) d_Commands_append_69 ⟨Nat.zero_le _, Nat.zero_le _⟩ (fun H locs hH hS => ?_)
        refine lv_iload hx hb d_Commands_append_72 (lv_at hl 0 rfl) ?_
        refine lv_bipush (v := 16) hx hb d_Commands_append_74 (by decide) ?_
        refine lv_icmp_lt (tgt := 112) hx hb d_Commands_append_76 (by decide) (fun c76 => ?_) (fun c76 => ?_)
        · have h1 := it h1 c76
          obtain ⟨x6, ex6⟩ : ∃ y : Int32, y = v3 + 1 := ⟨_, rfl⟩
          have h1 := nm_at ex6 h1
          refine lv_iinc (v := x6) (lv' := [(3, .int x6), (4, .int x4), (0, .ref (ad 15 0))]) hx hb d_Commands_append_112 hl (k := 2) rfl (by rw [ex6]; rfl) (by decide) rfl (fun ls hl => ?_)
          refine lv_goto (tgt := 29) hx hb d_Commands_append_115 (by decide) ?_
          cases h1
          exact ih1 σ5 x6 _ _ ls hH hS (lv_sub hl [2, 0] rfl) hk1
        · have h1 := ie h1 c76
          refine lv_iload hx hb d_Commands_append_79 (lv_at hl 0 rfl) ?_
          refine lv_bipush (v := 16) hx hb d_Commands_append_81 (by decide) ?_
          refine lv_isub hx hb d_Commands_append_83 ?_
          refine lv_topi (fun x7 ex7 => ?_)
          have h1 := nm_at ex7 h1
          refine lv_istore (lv' := [(5, .int x7), (4, .int x4), (0, .ref (ad 15 0)), (3, .int v3)]) hx hb d_Commands_append_84 hl (by decide) rfl (fun ls hl => ?_)
          refine lv_aload_n hx hb d_Commands_append_86 rfl (lv_at hl 2 rfl) ?_
          refine st_get hx hb hg hown hK hH (f := 15) (i := 0) hd_15 rfl rfl u_Commands 0 (by decide) (hg _ wd_195) (v := .ref (ad 3 0)) rfl d_Commands_append_87 ?_
          refine lv_aload_n hx hb d_Commands_append_90 rfl (lv_at hl 2 rfl) ?_
          refine st_get hx hb hg hown hK hH (f := 15) (i := 0) hd_15 rfl rfl u_Commands 5 (by decide) (hg _ wd_179) (v := .ref (ad 18 0)) rfl d_Commands_append_91 ?_
          refine lv_iload_n hx hb d_Commands_append_94 rfl (lv_at hl 3 rfl) ?_
          obtain ⟨g95, h1⟩ := gd_some h1
          refine st_iald hx hb hK hH (f := 18) (i := 0) hd_18 rfl g95 d_Commands_append_95 ?_
          refine va_gets hx hb hZ.2.1.1 hS hown (hg _ wd_171) (fun _ h => h) d_Commands_append_96 ?_
          refine lv_iload hx hb d_Commands_append_99 (lv_at hl 0 rfl) ?_
          obtain ⟨g101, h1⟩ := gd_some h1
          refine st_tld hx hb hZ.2.1.2 hS g101 d_Commands_append_101 ?_
          refine lv_isub hx hb d_Commands_append_102 ?_
          refine va_gets hx hb hZ.2.2.2.1 hS hown (hg _ wd_199) (fun _ h => h) d_Commands_append_103 ?_
          refine lv_iload hx hb d_Commands_append_106 (lv_at hl 0 rfl) ?_
          obtain ⟨g108, h1⟩ := gd_some h1
          refine st_tld hx hb hZ.2.2.2.2 hS g108 d_Commands_append_108 ?_
          obtain ⟨qc, hc109, h1⟩ := b1_some h1
          obtain ⟨σ8, rfl⟩ : ∃ z, z = qc := ⟨_, rfl⟩
          have h1 := b1_at h1
          refine st_Vv (As := [.int ((σ5.1 18 0 v3.toNatClampNeg) - (tb_1 x7.toNatClampNeg)), .int (tb_3 x7.toNatClampNeg)]) (rest := []) ⟨hx, hb, hml, hown, hg⟩ (c_Stream_appendNumber l D aC A ad n _ ((σ5.1 18 0 v3.toNatClampNeg) - (tb_1 x7.toNatClampNeg)) (tb_3 x7.toNatClampNeg) _ hc109) (cwG hg wd_132 wd_196 wd_134 wd_135 wd_119 yd_Stream_appendNumber ⟨Nat.le_of_ble_eq_true rfl, Nat.le_of_ble_eq_true rfl⟩) hK hH hS hZ hd_3 rfl rfl rfl hl.1 rfl (Nat.le_of_ble_eq_true rfl) d_Commands_append_109 ⟨Nat.zero_le _, Nat.zero_le _⟩ (fun H locs hH hS => ?_)
          obtain ⟨x9, ex9⟩ : ∃ y : Int32, y = v3 + 1 := ⟨_, rfl⟩
          have h1 := nm_at ex9 h1
          refine lv_iinc (v := x9) (lv' := [(3, .int x9), (5, .int x7), (4, .int x4), (0, .ref (ad 15 0))]) hx hb d_Commands_append_112 hl (k := 3) rfl (by rw [ex9]; rfl) (by decide) rfl (fun ls hl => ?_)
          refine lv_goto (tgt := 29) hx hb d_Commands_append_115 (by decide) ?_
          cases h1
          exact ih1 σ8 x9 _ _ ls hH hS (lv_sub hl [3, 0] rfl) hk1
  obtain ⟨k1, hq1⟩ := lpE_some hq1
  exact loop1 k1 σ3 0 _ _ ls hH hS (lv_sub hl [1, 0] rfl) hq1
set_option maxHeartbeats 4000000 in
set_option maxRecDepth 100000 in
theorem c_Manners_append (l : Launch) (D : va_G) (aC : Nat → ClassId) (A : Nat → Prop) (ad : Nat → Nat → Nat) (n : Nat) (σ : St) (ia1 : Nat) (a2 : Int32) (hda1 : dm n 41 ia1) (o : St) (h : f_Manners_append σ ia1 a2 = some o) : Met l y_Manners_append w_Manners_append rm_Manners_append (va_Pc [.ref (ad 13 0), .ref (ad 41 ia1), .int a2] (Pre D aC A ad n σ)) (va_Qv (fun (_ : Unit) => True) (fun _ t => Hold D aC A ad n o t.heap) A) 0 0 A := by
  refine Met.ofW (cc := prog_5_method_2_code) (maxL := 3) (ret := none) (by decide) rfl ?_
  intro p e s m args below meth c s₁ B hml hv
  obtain ⟨hargs, hH, hK, hZ⟩ := hv
  have hx := B.exec
  have hb := B.bytes
  have hr := B.returns
  have hts := atoms_spec (ws := w_Manners_append) B.pre
  have hg : ∀ w ∈ gW, w.before args s = true := fun w h => hts w (List.mem_cons_of_mem _ h)
  have hown : s.vm.findClass "PrefixCodes$Manners" = some m.cls := findClass_of_methodNamed B.named
  have hlocks := B.notSynchronized
  have hS : va_S A s.heap s.heap [] := va_S.rf
  have hl := lv_entry ([.ref (ad 13 0), .ref (ad 41 ia1), .int a2]) (n := 3) (Nat.le_of_ble_eq_true rfl)
  rw [show entryFrame m args 3 = entryFrame m (([.ref (ad 13 0), .ref (ad 41 ia1), .int a2] : List Value).toArray) 3 by rw [hargs], lg_entry_eq]
  generalize (lg_sl ([.ref (ad 13 0), .ref (ad 41 ia1), .int a2]) ++ List.replicate (3 - (lg_sl ([.ref (ad 13 0), .ref (ad 41 ia1), .int a2])).length) Slot.unset).toArray = ls at hl ⊢
  have hl : lv_has ls 3 [(0, .ref (ad 13 0)), (1, .ref (ad 41 ia1)), (2, .int a2)] := hl
  generalize hQ0 : MQ below (va_Qv (fun (_ : Unit) => True) (fun _ t => Hold D aC A ad n o t.heap) A) args s 0 0 A = Q0
  unfold f_Manners_append at h
  refine lv_iload_n hx hb d_Manners_append_0 rfl (lv_at hl 2 rfl) ?_
  by_cases c1_0 : a2 = 0
  · have h := it h c1_0
    refine lv_lookup (tgt := 28) (off := 27) hx hb d_Manners_append_1 (by decide +kernel) (by rw [c1_0]; decide +kernel) (by decide) ?_
    refine lv_aload_n hx hb d_Manners_append_28 rfl (lv_at hl 0 rfl) ?_
    refine lv_aload_n hx hb d_Manners_append_29 rfl (lv_at hl 1 rfl) ?_
    obtain ⟨qc, hc30, h⟩ := b1_some h
    obtain ⟨σ1, rfl⟩ : ∃ z, z = qc := ⟨_, rfl⟩
    have h := b1_at h
    refine st_Vv (As := [.ref (ad 41 ia1)]) (rest := []) ⟨hx, hb, hml, hown, hg⟩ (c_Manners_appendPlain l D aC A ad n _ ia1 hda1 _ hc30) (cwG hg wd_213 wd_214 wd_216 wd_217 wd_215 yd_Manners_appendPlain ⟨Nat.le_of_ble_eq_true rfl, Nat.le_of_ble_eq_true rfl⟩) hK hH hS hZ hd_13 rfl rfl rfl hl.1 rfl (Nat.le_of_ble_eq_true rfl) d_Manners_append_30 ⟨Nat.zero_le _, Nat.zero_le _⟩ (fun H locs hH hS => ?_)
    refine lv_goto (tgt := 59) hx hb d_Manners_append_33 (by decide) ?_
    cases h
    rw [← hQ0]
    exact W.vret hx hb hr (fun t ht hW => ⟨⟨(), rfl, trivial, by dsimp only; rw [ht]; exact hH⟩, hS.F ht⟩) hS.2.2 d_Manners_append_59
  · have h := ie h c1_0
    by_cases c1_1 : a2 = 1
    · have h := it h c1_1
      refine lv_lookup (tgt := 36) (off := 35) hx hb d_Manners_append_1 (by decide +kernel) (by rw [c1_1]; decide +kernel) (by decide) ?_
      refine lv_aload_n hx hb d_Manners_append_36 rfl (lv_at hl 0 rfl) ?_
      refine lv_aload_n hx hb d_Manners_append_37 rfl (lv_at hl 1 rfl) ?_
      obtain ⟨qc, hc38, h⟩ := b1_some h
      obtain ⟨σ2, rfl⟩ : ∃ z, z = qc := ⟨_, rfl⟩
      have h := b1_at h
      refine st_Vv (As := [.ref (ad 41 ia1)]) (rest := []) ⟨hx, hb, hml, hown, hg⟩ (c_Manners_appendSteps l D aC A ad n _ ia1 hda1 _ hc38) (cwG hg wd_218 wd_219 wd_220 wd_221 wd_215 yd_Manners_appendSteps ⟨Nat.le_of_ble_eq_true rfl, Nat.le_of_ble_eq_true rfl⟩) hK hH hS hZ hd_13 rfl rfl rfl hl.1 rfl (Nat.le_of_ble_eq_true rfl) d_Manners_append_38 ⟨Nat.zero_le _, Nat.zero_le _⟩ (fun H locs hH hS => ?_)
      refine lv_goto (tgt := 59) hx hb d_Manners_append_41 (by decide) ?_
      cases h
      rw [← hQ0]
      exact W.vret hx hb hr (fun t ht hW => ⟨⟨(), rfl, trivial, by dsimp only; rw [ht]; exact hH⟩, hS.F ht⟩) hS.2.2 d_Manners_append_59
    · have h := ie h c1_1
      refine lv_lookup (tgt := 44) (off := 43) hx hb d_Manners_append_1 (by decide +kernel) ((lv_osw c1_0 (by decide)).trans ((lv_osw c1_1 (by decide)).trans rfl)) (by decide) ?_
      refine lv_aload_n hx hb d_Manners_append_44 rfl (lv_at hl 0 rfl) ?_
      refine st_get hx hb hg hown hK hH (f := 13) (i := 0) hd_13 rfl rfl u_Manners 1 (by decide) (hg _ wd_212) (v := .ref (ad 15 0)) rfl d_Manners_append_45 ?_
      refine lv_aload_n hx hb d_Manners_append_48 rfl (lv_at hl 1 rfl) ?_
      refine st_get hx hb hg hown hK hH (f := 41) (i := ia1) hda1 rfl rfl u_Code 1 (by decide) (hg _ wd_168) (v := .ref (ad 42 ia1)) rfl d_Manners_append_49 ?_
      refine lv_aload_n hx hb d_Manners_append_52 rfl (lv_at hl 1 rfl) ?_
      refine st_get hx hb hg hown hK hH (f := 41) (i := ia1) hda1 rfl rfl u_Code 0 (by decide) (hg _ wd_166) (v := .int (σ.1 41 ia1 0)) rfl d_Manners_append_53 ?_
      obtain ⟨qc, hc56, h⟩ := b1_some h
      obtain ⟨σ3, rfl⟩ : ∃ z, z = qc := ⟨_, rfl⟩
      have h := b1_at h
      refine st_Vv (As := [.ref (ad 42 ia1), .int (σ.1 41 ia1 0)]) (rest := []) ⟨hx, hb, hml, hown, hg⟩ (c_Commands_append l D aC A ad n _ 42 ia1 64 (σ.1 41 ia1 0) rfl hda1 _ hc56) (cwG hg wd_222 wd_223 wd_224 wd_225 wd_174 yd_Commands_append ⟨Nat.le_of_ble_eq_true rfl, Nat.le_of_ble_eq_true rfl⟩) hK hH hS hZ hd_15 rfl rfl rfl hl.1 rfl (Nat.le_of_ble_eq_true rfl) d_Manners_append_56 ⟨Nat.zero_le _, Nat.zero_le _⟩ (fun H locs hH hS => ?_)
      cases h
      rw [← hQ0]
      exact W.vret hx hb hr (fun t ht hW => ⟨⟨(), rfl, trivial, by dsimp only; rw [ht]; exact hH⟩, hS.F ht⟩) hS.2.2 d_Manners_append_59
set_option maxHeartbeats 4000000 in
set_option maxRecDepth 100000 in
theorem c_Stream_settle (l : Launch) (D : va_G) (aC : Nat → ClassId) (A : Nat → Prop) (ad : Nat → Nat → Nat) (n : Nat) (σ : St) (o : St × Int32) (h : f_Stream_settle σ  = some o) : Met l y_Stream_settle w_Stream_settle rm_Stream_settle (va_Pc [.ref (ad 3 0)] (Pre D aC A ad n σ)) (va_Qi (fun r (_ : Unit) => r = o.2) (fun _ t => Hold D aC A ad n o.1 t.heap) A) 0 0 A := by
  refine Met.ofW (cc := prog_9_method_6_code) (maxL := 1) (ret := (some .int)) (by decide) rfl ?_
  intro p e s m args below meth c s₁ B hml hv
  obtain ⟨hargs, hH, hK, hZ⟩ := hv
  have hx := B.exec
  have hb := B.bytes
  have hr := B.returns
  have hts := atoms_spec (ws := w_Stream_settle) B.pre
  have hg : ∀ w ∈ gW, w.before args s = true := fun w h => hts w (List.mem_cons_of_mem _ h)
  have hown : s.vm.findClass "PrefixCodes$Stream" = some m.cls := findClass_of_methodNamed B.named
  have hlocks := B.notSynchronized
  have hS : va_S A s.heap s.heap [] := va_S.rf
  have hl := lv_entry ([.ref (ad 3 0)]) (n := 1) (Nat.le_of_ble_eq_true rfl)
  rw [show entryFrame m args 1 = entryFrame m (([.ref (ad 3 0)] : List Value).toArray) 1 by rw [hargs], lg_entry_eq]
  generalize (lg_sl ([.ref (ad 3 0)]) ++ List.replicate (1 - (lg_sl ([.ref (ad 3 0)])).length) Slot.unset).toArray = ls at hl ⊢
  have hl : lv_has ls 1 [(0, .ref (ad 3 0))] := hl
  generalize hQ0 : MQ below (va_Qi (fun r (_ : Unit) => r = o.2) (fun _ t => Hold D aC A ad n o.1 t.heap) A) args s 0 0 A = Q0
  unfold f_Stream_settle at h
  refine lv_aload_n hx hb d_Stream_settle_0 rfl (lv_at hl 0 rfl) ?_
  refine st_get hx hb hg hown hK hH (f := 3) (i := 0) hd_3 rfl rfl u_Stream 4 (by decide) (hg _ wd_127) (v := .int (σ.1 3 0 4)) rfl d_Stream_settle_1 ?_
  refine lv_if_eq (tgt := 18) hx hb d_Stream_settle_4 (by decide) (fun c4 => ?_) (fun c4 => ?_)
  · have h := it h c4
    refine lv_aload_n hx hb d_Stream_settle_18 rfl (lv_at hl 0 rfl) ?_
    refine st_get hx hb hg hown hK hH (f := 3) (i := 0) hd_3 rfl rfl u_Stream 2 (by decide) (hg _ wd_126) (v := .int (σ.1 3 0 2)) rfl d_Stream_settle_19 ?_
    refine lv_aload_n hx hb d_Stream_settle_22 rfl (lv_at hl 0 rfl) ?_
    refine st_get hx hb hg hown hK hH (f := 3) (i := 0) hd_3 rfl rfl u_Stream 3 (by decide) (hg _ wd_165) (v := .int (σ.1 3 0 3)) rfl d_Stream_settle_23 ?_
    refine lv_isub hx hb d_Stream_settle_26 ?_
    cases h
    rw [← hQ0]
    exact W.iret hx hb hr (fun t ht hW => ⟨⟨_, (), rfl, rfl, by dsimp only; rw [ht]; exact hH⟩, hS.F ht⟩) hS.2.2 d_Stream_settle_27
  · have h := ie h c4
    refine lv_aload_n hx hb d_Stream_settle_7 rfl (lv_at hl 0 rfl) ?_
    refine lv_aload_n hx hb d_Stream_settle_8 rfl (lv_at hl 0 rfl) ?_
    refine st_get hx hb hg hown hK hH (f := 3) (i := 0) hd_3 rfl rfl u_Stream 3 (by decide) (hg _ wd_165) (v := .int (σ.1 3 0 3)) rfl d_Stream_settle_9 ?_
    refine st_put hx hb hg hown hK hH hS (f := 3) (i := 0) hd_3 rfl rfl u_Stream t_Stream t_Stream_ok n_Stream 2 (by decide) (hg _ wd_126) rfl rfl rfl d_Stream_settle_12 (fun σ1 H locs eσ1 hH hS => ?_)
    have h := nm_at eσ1 h
    refine lv_bipush (v := (-106)) hx hb d_Stream_settle_15 (by decide) ?_
    cases h
    rw [← hQ0]
    exact W.iret hx hb hr (fun t ht hW => ⟨⟨_, (), rfl, rfl, by dsimp only; rw [ht]; exact hH⟩, hS.F ht⟩) hS.2.2 d_Stream_settle_17
