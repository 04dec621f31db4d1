theorem d_PC_pack_0 : decode prog_1_method_17_code 0 = .ok (.aload_n 0, 1) := by decide +kernel
theorem d_PC_pack_1 : decode prog_1_method_17_code 1 = .ok (.iload_n 1, 1) := by decide +kernel
theorem d_PC_pack_2 : decode prog_1_method_17_code 2 = .ok (.invokevirtual 97, 3) := by decide +kernel
theorem d_PC_pack_5 : decode prog_1_method_17_code 5 = .ok (.astore_n 3, 1) := by decide +kernel
theorem d_PC_pack_6 : decode prog_1_method_17_code 6 = .ok (.aload_n 3, 1) := by decide +kernel
theorem d_PC_pack_7 : decode prog_1_method_17_code 7 = .ok (.ifnonnull 6, 3) := by decide +kernel
theorem d_PC_pack_10 : decode prog_1_method_17_code 10 = .ok (.bipush (-101), 2) := by decide +kernel
theorem d_PC_pack_12 : decode prog_1_method_17_code 12 = .ok (.ireturn, 1) := by decide +kernel
theorem d_PC_pack_13 : decode prog_1_method_17_code 13 = .ok (.iload_n 2, 1) := by decide +kernel
theorem d_PC_pack_14 : decode prog_1_method_17_code 14 = .ok (.iconst 0, 1) := by decide +kernel
theorem d_PC_pack_15 : decode prog_1_method_17_code 15 = .ok (.iconst 2, 1) := by decide +kernel
theorem d_PC_pack_16 : decode prog_1_method_17_code 16 = .ok (.invokestatic 76, 3) := by decide +kernel
theorem d_PC_pack_19 : decode prog_1_method_17_code 19 = .ok (.ifCond .eq 6, 3) := by decide +kernel
theorem d_PC_pack_22 : decode prog_1_method_17_code 22 = .ok (.bipush (-102), 2) := by decide +kernel
theorem d_PC_pack_24 : decode prog_1_method_17_code 24 = .ok (.ireturn, 1) := by decide +kernel
theorem d_PC_pack_25 : decode prog_1_method_17_code 25 = .ok (.aload_n 0, 1) := by decide +kernel
theorem d_PC_pack_26 : decode prog_1_method_17_code 26 = .ok (.getfield 26, 3) := by decide +kernel
theorem d_PC_pack_29 : decode prog_1_method_17_code 29 = .ok (.invokevirtual 169, 3) := by decide +kernel
theorem d_PC_pack_32 : decode prog_1_method_17_code 32 = .ok (.aload_n 0, 1) := by decide +kernel
theorem d_PC_pack_33 : decode prog_1_method_17_code 33 = .ok (.getfield 42, 3) := by decide +kernel
theorem d_PC_pack_36 : decode prog_1_method_17_code 36 = .ok (.aload_n 3, 1) := by decide +kernel
theorem d_PC_pack_37 : decode prog_1_method_17_code 37 = .ok (.iload_n 2, 1) := by decide +kernel
theorem d_PC_pack_38 : decode prog_1_method_17_code 38 = .ok (.invokevirtual 172, 3) := by decide +kernel
theorem d_PC_pack_41 : decode prog_1_method_17_code 41 = .ok (.aload_n 0, 1) := by decide +kernel
theorem d_PC_pack_42 : decode prog_1_method_17_code 42 = .ok (.getfield 26, 3) := by decide +kernel
theorem d_PC_pack_45 : decode prog_1_method_17_code 45 = .ok (.invokevirtual 176, 3) := by decide +kernel
theorem d_PC_pack_48 : decode prog_1_method_17_code 48 = .ok (.ireturn, 1) := by decide +kernel
theorem d_Manners_removePlain_0 : decode prog_5_method_5_code 0 = .ok (.iconst 0, 1) := by decide +kernel
theorem d_Manners_removePlain_1 : decode prog_5_method_5_code 1 = .ok (.istore_n 2, 1) := by decide +kernel
theorem d_Manners_removePlain_2 : decode prog_5_method_5_code 2 = .ok (.iload_n 2, 1) := by decide +kernel
theorem d_Manners_removePlain_3 : decode prog_5_method_5_code 3 = .ok (.iload_n 1, 1) := by decide +kernel
theorem d_Manners_removePlain_4 : decode prog_5_method_5_code 4 = .ok (.if_icmp .ge 31, 3) := by decide +kernel
theorem d_Manners_removePlain_7 : decode prog_5_method_5_code 7 = .ok (.aload_n 0, 1) := by decide +kernel
theorem d_Manners_removePlain_8 : decode prog_5_method_5_code 8 = .ok (.getfield 15, 3) := by decide +kernel
theorem d_Manners_removePlain_11 : decode prog_5_method_5_code 11 = .ok (.iconst 4, 1) := by decide +kernel
theorem d_Manners_removePlain_12 : decode prog_5_method_5_code 12 = .ok (.invokevirtual 65, 3) := by decide +kernel
theorem d_Manners_removePlain_15 : decode prog_5_method_5_code 15 = .ok (.istore_n 3, 1) := by decide +kernel
theorem d_Manners_removePlain_16 : decode prog_5_method_5_code 16 = .ok (.iload_n 3, 1) := by decide +kernel
theorem d_Manners_removePlain_17 : decode prog_5_method_5_code 17 = .ok (.ifCond .ge 5, 3) := by decide +kernel
theorem d_Manners_removePlain_20 : decode prog_5_method_5_code 20 = .ok (.iload_n 3, 1) := by decide +kernel
theorem d_Manners_removePlain_21 : decode prog_5_method_5_code 21 = .ok (.ireturn, 1) := by decide +kernel
theorem d_Manners_removePlain_22 : decode prog_5_method_5_code 22 = .ok (.aload_n 0, 1) := by decide +kernel
theorem d_Manners_removePlain_23 : decode prog_5_method_5_code 23 = .ok (.getfield 9, 3) := by decide +kernel
theorem d_Manners_removePlain_26 : decode prog_5_method_5_code 26 = .ok (.iload_n 2, 1) := by decide +kernel
theorem d_Manners_removePlain_27 : decode prog_5_method_5_code 27 = .ok (.iload_n 3, 1) := by decide +kernel
theorem d_Manners_removePlain_28 : decode prog_5_method_5_code 28 = .ok (.iastore, 1) := by decide +kernel
theorem d_Manners_removePlain_29 : decode prog_5_method_5_code 29 = .ok (.iinc 2 1, 3) := by decide +kernel
theorem d_Manners_removePlain_32 : decode prog_5_method_5_code 32 = .ok (.goto (-30), 3) := by decide +kernel
theorem d_Manners_removePlain_35 : decode prog_5_method_5_code 35 = .ok (.iload_n 1, 1) := by decide +kernel
theorem d_Manners_removePlain_36 : decode prog_5_method_5_code 36 = .ok (.ireturn, 1) := by decide +kernel
theorem d_Manners_stepsFrom_0 : decode prog_5_method_8_code 0 = .ok (.iload_n 1, 1) := by decide +kernel
theorem d_Manners_stepsFrom_1 : decode prog_5_method_8_code 1 = .ok (.istore_n 2, 1) := by decide +kernel
theorem d_Manners_stepsFrom_2 : decode prog_5_method_8_code 2 = .ok (.iconst 0, 1) := by decide +kernel
theorem d_Manners_stepsFrom_3 : decode prog_5_method_8_code 3 = .ok (.istore_n 3, 1) := by decide +kernel
theorem d_Manners_stepsFrom_4 : decode prog_5_method_8_code 4 = .ok (.iload_n 3, 1) := by decide +kernel
theorem d_Manners_stepsFrom_5 : decode prog_5_method_8_code 5 = .ok (.sipush 20000, 3) := by decide +kernel
theorem d_Manners_stepsFrom_8 : decode prog_5_method_8_code 8 = .ok (.if_icmp .gt 78, 3) := by decide +kernel
theorem d_Manners_stepsFrom_11 : decode prog_5_method_8_code 11 = .ok (.aload_n 0, 1) := by decide +kernel
theorem d_Manners_stepsFrom_12 : decode prog_5_method_8_code 12 = .ok (.getfield 15, 3) := by decide +kernel
theorem d_Manners_stepsFrom_15 : decode prog_5_method_8_code 15 = .ok (.invokevirtual 74, 3) := by decide +kernel
theorem d_Manners_stepsFrom_18 : decode prog_5_method_8_code 18 = .ok (.istore 4, 2) := by decide +kernel
theorem d_Manners_stepsFrom_20 : decode prog_5_method_8_code 20 = .ok (.iload 4, 2) := by decide +kernel
theorem d_Manners_stepsFrom_22 : decode prog_5_method_8_code 22 = .ok (.ifCond .gt 15, 3) := by decide +kernel
theorem d_Manners_stepsFrom_25 : decode prog_5_method_8_code 25 = .ok (.iload 4, 2) := by decide +kernel
theorem d_Manners_stepsFrom_27 : decode prog_5_method_8_code 27 = .ok (.ifCond .ge 8, 3) := by decide +kernel
theorem d_Manners_stepsFrom_30 : decode prog_5_method_8_code 30 = .ok (.iload 4, 2) := by decide +kernel
theorem d_Manners_stepsFrom_32 : decode prog_5_method_8_code 32 = .ok (.goto 4, 3) := by decide +kernel
theorem d_Manners_stepsFrom_35 : decode prog_5_method_8_code 35 = .ok (.iload_n 2, 1) := by decide +kernel
theorem d_Manners_stepsFrom_36 : decode prog_5_method_8_code 36 = .ok (.ireturn, 1) := by decide +kernel
theorem d_Manners_stepsFrom_37 : decode prog_5_method_8_code 37 = .ok (.aload_n 0, 1) := by decide +kernel
theorem d_Manners_stepsFrom_38 : decode prog_5_method_8_code 38 = .ok (.getfield 15, 3) := by decide +kernel
theorem d_Manners_stepsFrom_41 : decode prog_5_method_8_code 41 = .ok (.invokevirtual 74, 3) := by decide +kernel
theorem d_Manners_stepsFrom_44 : decode prog_5_method_8_code 44 = .ok (.istore 5, 2) := by decide +kernel
theorem d_Manners_stepsFrom_46 : decode prog_5_method_8_code 46 = .ok (.iload 5, 2) := by decide +kernel
theorem d_Manners_stepsFrom_48 : decode prog_5_method_8_code 48 = .ok (.ifCond .ge 6, 3) := by decide +kernel
theorem d_Manners_stepsFrom_51 : decode prog_5_method_8_code 51 = .ok (.iload 5, 2) := by decide +kernel
theorem d_Manners_stepsFrom_53 : decode prog_5_method_8_code 53 = .ok (.ireturn, 1) := by decide +kernel
theorem d_Manners_stepsFrom_54 : decode prog_5_method_8_code 54 = .ok (.iload_n 2, 1) := by decide +kernel
theorem d_Manners_stepsFrom_55 : decode prog_5_method_8_code 55 = .ok (.iload 5, 2) := by decide +kernel
theorem d_Manners_stepsFrom_57 : decode prog_5_method_8_code 57 = .ok (.ifCond .ne 7, 3) := by decide +kernel
theorem d_Manners_stepsFrom_60 : decode prog_5_method_8_code 60 = .ok (.iconst 1, 1) := by decide +kernel
theorem d_Manners_stepsFrom_61 : decode prog_5_method_8_code 61 = .ok (.goto 4, 3) := by decide +kernel
theorem d_Manners_stepsFrom_64 : decode prog_5_method_8_code 64 = .ok (.iconst (-1), 1) := by decide +kernel
theorem d_Manners_stepsFrom_65 : decode prog_5_method_8_code 65 = .ok (.iadd, 1) := by decide +kernel
theorem d_Manners_stepsFrom_66 : decode prog_5_method_8_code 66 = .ok (.istore_n 2, 1) := by decide +kernel
theorem d_Manners_stepsFrom_67 : decode prog_5_method_8_code 67 = .ok (.iload_n 2, 1) := by decide +kernel
theorem d_Manners_stepsFrom_68 : decode prog_5_method_8_code 68 = .ok (.iconst 0, 1) := by decide +kernel
theorem d_Manners_stepsFrom_69 : decode prog_5_method_8_code 69 = .ok (.bipush 15, 2) := by decide +kernel
theorem d_Manners_stepsFrom_71 : decode prog_5_method_8_code 71 = .ok (.invokestatic 78, 3) := by decide +kernel
theorem d_Manners_stepsFrom_74 : decode prog_5_method_8_code 74 = .ok (.ifCond .eq 6, 3) := by decide +kernel
theorem d_Manners_stepsFrom_77 : decode prog_5_method_8_code 77 = .ok (.bipush (-105), 2) := by decide +kernel
theorem d_Manners_stepsFrom_79 : decode prog_5_method_8_code 79 = .ok (.ireturn, 1) := by decide +kernel
theorem d_Manners_stepsFrom_80 : decode prog_5_method_8_code 80 = .ok (.iinc 3 1, 3) := by decide +kernel
theorem d_Manners_stepsFrom_83 : decode prog_5_method_8_code 83 = .ok (.goto (-79), 3) := by decide +kernel
theorem d_Manners_stepsFrom_86 : decode prog_5_method_8_code 86 = .ok (.bipush (-104), 2) := by decide +kernel
theorem d_Manners_stepsFrom_88 : decode prog_5_method_8_code 88 = .ok (.ireturn, 1) := by decide +kernel
theorem d_Manners_removeSteps_0 : decode prog_5_method_7_code 0 = .ok (.aload_n 0, 1) := by decide +kernel
theorem d_Manners_removeSteps_1 : decode prog_5_method_7_code 1 = .ok (.getfield 15, 3) := by decide +kernel
theorem d_Manners_removeSteps_4 : decode prog_5_method_7_code 4 = .ok (.iconst 4, 1) := by decide +kernel
theorem d_Manners_removeSteps_5 : decode prog_5_method_7_code 5 = .ok (.invokevirtual 65, 3) := by decide +kernel
theorem d_Manners_removeSteps_8 : decode prog_5_method_7_code 8 = .ok (.istore_n 2, 1) := by decide +kernel
theorem d_Manners_removeSteps_9 : decode prog_5_method_7_code 9 = .ok (.iload_n 2, 1) := by decide +kernel
theorem d_Manners_removeSteps_10 : decode prog_5_method_7_code 10 = .ok (.ifCond .ge 5, 3) := by decide +kernel
theorem d_Manners_removeSteps_13 : decode prog_5_method_7_code 13 = .ok (.iload_n 2, 1) := by decide +kernel
theorem d_Manners_removeSteps_14 : decode prog_5_method_7_code 14 = .ok (.ireturn, 1) := by decide +kernel
theorem d_Manners_removeSteps_15 : decode prog_5_method_7_code 15 = .ok (.iconst 0, 1) := by decide +kernel
theorem d_Manners_removeSteps_16 : decode prog_5_method_7_code 16 = .ok (.istore_n 3, 1) := by decide +kernel
theorem d_Manners_removeSteps_17 : decode prog_5_method_7_code 17 = .ok (.iload_n 3, 1) := by decide +kernel
theorem d_Manners_removeSteps_18 : decode prog_5_method_7_code 18 = .ok (.iload_n 1, 1) := by decide +kernel
theorem d_Manners_removeSteps_19 : decode prog_5_method_7_code 19 = .ok (.if_icmp .ge 28, 3) := by decide +kernel
theorem d_Manners_removeSteps_22 : decode prog_5_method_7_code 22 = .ok (.aload_n 0, 1) := by decide +kernel
theorem d_Manners_removeSteps_23 : decode prog_5_method_7_code 23 = .ok (.iload_n 2, 1) := by decide +kernel
theorem d_Manners_removeSteps_24 : decode prog_5_method_7_code 24 = .ok (.invokevirtual 71, 3) := by decide +kernel
theorem d_Manners_removeSteps_27 : decode prog_5_method_7_code 27 = .ok (.istore_n 2, 1) := by decide +kernel
theorem d_Manners_removeSteps_28 : decode prog_5_method_7_code 28 = .ok (.iload_n 2, 1) := by decide +kernel
theorem d_Manners_removeSteps_29 : decode prog_5_method_7_code 29 = .ok (.ifCond .ge 5, 3) := by decide +kernel
theorem d_Manners_removeSteps_32 : decode prog_5_method_7_code 32 = .ok (.iload_n 2, 1) := by decide +kernel
theorem d_Manners_removeSteps_33 : decode prog_5_method_7_code 33 = .ok (.ireturn, 1) := by decide +kernel
theorem d_Manners_removeSteps_34 : decode prog_5_method_7_code 34 = .ok (.aload_n 0, 1) := by decide +kernel
theorem d_Manners_removeSteps_35 : decode prog_5_method_7_code 35 = .ok (.getfield 9, 3) := by decide +kernel
theorem d_Manners_removeSteps_38 : decode prog_5_method_7_code 38 = .ok (.iload_n 3, 1) := by decide +kernel
theorem d_Manners_removeSteps_39 : decode prog_5_method_7_code 39 = .ok (.iload_n 2, 1) := by decide +kernel
theorem d_Manners_removeSteps_40 : decode prog_5_method_7_code 40 = .ok (.iastore, 1) := by decide +kernel
theorem d_Manners_removeSteps_41 : decode prog_5_method_7_code 41 = .ok (.iinc 3 1, 3) := by decide +kernel
theorem d_Manners_removeSteps_44 : decode prog_5_method_7_code 44 = .ok (.goto (-27), 3) := by decide +kernel
theorem d_Manners_removeSteps_47 : decode prog_5_method_7_code 47 = .ok (.iload_n 1, 1) := by decide +kernel
theorem d_Manners_removeSteps_48 : decode prog_5_method_7_code 48 = .ok (.ireturn, 1) := by decide +kernel
theorem d_Commands_removeCode_0 : decode prog_4_method_8_code 0 = .ok (.aload_n 0, 1) := by decide +kernel
theorem d_Commands_removeCode_1 : decode prog_4_method_8_code 1 = .ok (.getfield 34, 3) := by decide +kernel
theorem d_Commands_removeCode_4 : decode prog_4_method_8_code 4 = .ok (.iconst 4, 1) := by decide +kernel
theorem d_Commands_removeCode_5 : decode prog_4_method_8_code 5 = .ok (.invokevirtual 107, 3) := by decide +kernel
theorem d_Commands_removeCode_8 : decode prog_4_method_8_code 8 = .ok (.istore_n 1, 1) := by decide +kernel
theorem d_Commands_removeCode_9 : decode prog_4_method_8_code 9 = .ok (.iload_n 1, 1) := by decide +kernel
theorem d_Commands_removeCode_10 : decode prog_4_method_8_code 10 = .ok (.ifCond .ge 5, 3) := by decide +kernel
theorem d_Commands_removeCode_13 : decode prog_4_method_8_code 13 = .ok (.iload_n 1, 1) := by decide +kernel
theorem d_Commands_removeCode_14 : decode prog_4_method_8_code 14 = .ok (.ireturn, 1) := by decide +kernel
theorem d_Commands_removeCode_15 : decode prog_4_method_8_code 15 = .ok (.aload_n 0, 1) := by decide +kernel
theorem d_Commands_removeCode_16 : decode prog_4_method_8_code 16 = .ok (.getfield 16, 3) := by decide +kernel
theorem d_Commands_removeCode_19 : decode prog_4_method_8_code 19 = .ok (.getfield 58, 3) := by decide +kernel
theorem d_Commands_removeCode_22 : decode prog_4_method_8_code 22 = .ok (.iconst 0, 1) := by decide +kernel
theorem d_Commands_removeCode_23 : decode prog_4_method_8_code 23 = .ok (.invokestatic 73, 3) := by decide +kernel
theorem d_Commands_removeCode_26 : decode prog_4_method_8_code 26 = .ok (.iconst 0, 1) := by decide +kernel
theorem d_Commands_removeCode_27 : decode prog_4_method_8_code 27 = .ok (.istore_n 2, 1) := by decide +kernel
theorem d_Commands_removeCode_28 : decode prog_4_method_8_code 28 = .ok (.iload_n 2, 1) := by decide +kernel
theorem d_Commands_removeCode_29 : decode prog_4_method_8_code 29 = .ok (.iload_n 1, 1) := by decide +kernel
theorem d_Commands_removeCode_30 : decode prog_4_method_8_code 30 = .ok (.iconst 4, 1) := by decide +kernel
theorem d_Commands_removeCode_31 : decode prog_4_method_8_code 31 = .ok (.iadd, 1) := by decide +kernel
theorem d_Commands_removeCode_32 : decode prog_4_method_8_code 32 = .ok (.if_icmp .ge 44, 3) := by decide +kernel
theorem d_Commands_removeCode_35 : decode prog_4_method_8_code 35 = .ok (.iload_n 2, 1) := by decide +kernel
theorem d_Commands_removeCode_36 : decode prog_4_method_8_code 36 = .ok (.bipush 19, 2) := by decide +kernel
theorem d_Commands_removeCode_38 : decode prog_4_method_8_code 38 = .ok (.if_icmp .ge 38, 3) := by decide +kernel
theorem d_Commands_removeCode_41 : decode prog_4_method_8_code 41 = .ok (.aload_n 0, 1) := by decide +kernel
theorem d_Commands_removeCode_42 : decode prog_4_method_8_code 42 = .ok (.getfield 34, 3) := by decide +kernel
theorem d_Commands_removeCode_45 : decode prog_4_method_8_code 45 = .ok (.iconst 3, 1) := by decide +kernel
theorem d_Commands_removeCode_46 : decode prog_4_method_8_code 46 = .ok (.invokevirtual 107, 3) := by decide +kernel
theorem d_Commands_removeCode_49 : decode prog_4_method_8_code 49 = .ok (.istore_n 3, 1) := by decide +kernel
theorem d_Commands_removeCode_50 : decode prog_4_method_8_code 50 = .ok (.iload_n 3, 1) := by decide +kernel
theorem d_Commands_removeCode_51 : decode prog_4_method_8_code 51 = .ok (.ifCond .ge 5, 3) := by decide +kernel
theorem d_Commands_removeCode_54 : decode prog_4_method_8_code 54 = .ok (.iload_n 3, 1) := by decide +kernel
theorem d_Commands_removeCode_55 : decode prog_4_method_8_code 55 = .ok (.ireturn, 1) := by decide +kernel
theorem d_Commands_removeCode_56 : decode prog_4_method_8_code 56 = .ok (.aload_n 0, 1) := by decide +kernel
theorem d_Commands_removeCode_57 : decode prog_4_method_8_code 57 = .ok (.getfield 16, 3) := by decide +kernel
theorem d_Commands_removeCode_60 : decode prog_4_method_8_code 60 = .ok (.getfield 58, 3) := by decide +kernel
theorem d_Commands_removeCode_63 : decode prog_4_method_8_code 63 = .ok (.getstatic 97, 3) := by decide +kernel
theorem d_Commands_removeCode_66 : decode prog_4_method_8_code 66 = .ok (.iload_n 2, 1) := by decide +kernel
theorem d_Commands_removeCode_67 : decode prog_4_method_8_code 67 = .ok (.iaload, 1) := by decide +kernel
theorem d_Commands_removeCode_68 : decode prog_4_method_8_code 68 = .ok (.iload_n 3, 1) := by decide +kernel
theorem d_Commands_removeCode_69 : decode prog_4_method_8_code 69 = .ok (.iastore, 1) := by decide +kernel
theorem d_Commands_removeCode_70 : decode prog_4_method_8_code 70 = .ok (.iinc 2 1, 3) := by decide +kernel
theorem d_Commands_removeCode_73 : decode prog_4_method_8_code 73 = .ok (.goto (-45), 3) := by decide +kernel
theorem d_Commands_removeCode_76 : decode prog_4_method_8_code 76 = .ok (.aload_n 0, 1) := by decide +kernel
theorem d_Commands_removeCode_77 : decode prog_4_method_8_code 77 = .ok (.getfield 16, 3) := by decide +kernel
theorem d_Commands_removeCode_80 : decode prog_4_method_8_code 80 = .ok (.invokevirtual 111, 3) := by decide +kernel
theorem d_Commands_removeCode_83 : decode prog_4_method_8_code 83 = .ok (.aload_n 0, 1) := by decide +kernel
theorem d_Commands_removeCode_84 : decode prog_4_method_8_code 84 = .ok (.getfield 16, 3) := by decide +kernel
theorem d_Commands_removeCode_87 : decode prog_4_method_8_code 87 = .ok (.getfield 114, 3) := by decide +kernel
theorem d_Commands_removeCode_90 : decode prog_4_method_8_code 90 = .ok (.iconst 2, 1) := by decide +kernel
theorem d_Commands_removeCode_91 : decode prog_4_method_8_code 91 = .ok (.if_icmp .eq 14, 3) := by decide +kernel
theorem d_Commands_removeCode_94 : decode prog_4_method_8_code 94 = .ok (.aload_n 0, 1) := by decide +kernel
theorem d_Commands_removeCode_95 : decode prog_4_method_8_code 95 = .ok (.getfield 16, 3) := by decide +kernel
theorem d_Commands_removeCode_98 : decode prog_4_method_8_code 98 = .ok (.getfield 114, 3) := by decide +kernel
theorem d_Commands_removeCode_101 : decode prog_4_method_8_code 101 = .ok (.iconst 1, 1) := by decide +kernel
theorem d_Commands_removeCode_102 : decode prog_4_method_8_code 102 = .ok (.if_icmp .ne 8, 3) := by decide +kernel
theorem d_Commands_removeCode_105 : decode prog_4_method_8_code 105 = .ok (.bipush 19, 2) := by decide +kernel
theorem d_Commands_removeCode_107 : decode prog_4_method_8_code 107 = .ok (.goto 5, 3) := by decide +kernel
theorem d_Commands_removeCode_110 : decode prog_4_method_8_code 110 = .ok (.bipush (-105), 2) := by decide +kernel
theorem d_Commands_removeCode_112 : decode prog_4_method_8_code 112 = .ok (.ireturn, 1) := by decide +kernel
theorem d_Commands_removeCommand_0 : decode prog_4_method_9_code 0 = .ok (.aload_n 0, 1) := by decide +kernel
theorem d_Commands_removeCommand_1 : decode prog_4_method_9_code 1 = .ok (.getfield 16, 3) := by decide +kernel
theorem d_Commands_removeCommand_4 : decode prog_4_method_9_code 4 = .ok (.aload_n 0, 1) := by decide +kernel
theorem d_Commands_removeCommand_5 : decode prog_4_method_9_code 5 = .ok (.getfield 34, 3) := by decide +kernel
theorem d_Commands_removeCommand_8 : decode prog_4_method_9_code 8 = .ok (.iconst 0, 1) := by decide +kernel
theorem d_Commands_removeCommand_9 : decode prog_4_method_9_code 9 = .ok (.invokevirtual 117, 3) := by decide +kernel
theorem d_Commands_removeCommand_12 : decode prog_4_method_9_code 12 = .ok (.istore 4, 2) := by decide +kernel
theorem d_Commands_removeCommand_14 : decode prog_4_method_9_code 14 = .ok (.iload 4, 2) := by decide +kernel
theorem d_Commands_removeCommand_16 : decode prog_4_method_9_code 16 = .ok (.bipush 16, 2) := by decide +kernel
theorem d_Commands_removeCommand_18 : decode prog_4_method_9_code 18 = .ok (.if_icmp .ge 25, 3) := by decide +kernel
theorem d_Commands_removeCommand_21 : decode prog_4_method_9_code 21 = .ok (.iload 4, 2) := by decide +kernel
theorem d_Commands_removeCommand_23 : decode prog_4_method_9_code 23 = .ok (.ifCond .lt 8, 3) := by decide +kernel
theorem d_Commands_removeCommand_26 : decode prog_4_method_9_code 26 = .ok (.aload_n 1, 1) := by decide +kernel
theorem d_Commands_removeCommand_27 : decode prog_4_method_9_code 27 = .ok (.iload_n 3, 1) := by decide +kernel
theorem d_Commands_removeCommand_28 : decode prog_4_method_9_code 28 = .ok (.iload 4, 2) := by decide +kernel
theorem d_Commands_removeCommand_30 : decode prog_4_method_9_code 30 = .ok (.iastore, 1) := by decide +kernel
theorem d_Commands_removeCommand_31 : decode prog_4_method_9_code 31 = .ok (.iload 4, 2) := by decide +kernel
theorem d_Commands_removeCommand_33 : decode prog_4_method_9_code 33 = .ok (.ifCond .ge 8, 3) := by decide +kernel
theorem d_Commands_removeCommand_36 : decode prog_4_method_9_code 36 = .ok (.iload 4, 2) := by decide +kernel
theorem d_Commands_removeCommand_38 : decode prog_4_method_9_code 38 = .ok (.goto 4, 3) := by decide +kernel
theorem d_Commands_removeCommand_41 : decode prog_4_method_9_code 41 = .ok (.iconst 1, 1) := by decide +kernel
theorem d_Commands_removeCommand_42 : decode prog_4_method_9_code 42 = .ok (.ireturn, 1) := by decide +kernel
theorem d_Commands_removeCommand_43 : decode prog_4_method_9_code 43 = .ok (.iload 4, 2) := by decide +kernel
theorem d_Commands_removeCommand_45 : decode prog_4_method_9_code 45 = .ok (.bipush 16, 2) := by decide +kernel
theorem d_Commands_removeCommand_47 : decode prog_4_method_9_code 47 = .ok (.if_icmp .ne 15, 3) := by decide +kernel
theorem d_Commands_removeCommand_50 : decode prog_4_method_9_code 50 = .ok (.iload_n 3, 1) := by decide +kernel
theorem d_Commands_removeCommand_51 : decode prog_4_method_9_code 51 = .ok (.ifCond .le 11, 3) := by decide +kernel
theorem d_Commands_removeCommand_54 : decode prog_4_method_9_code 54 = .ok (.aload_n 1, 1) := by decide +kernel
theorem d_Commands_removeCommand_55 : decode prog_4_method_9_code 55 = .ok (.iload_n 3, 1) := by decide +kernel
theorem d_Commands_removeCommand_56 : decode prog_4_method_9_code 56 = .ok (.iconst 1, 1) := by decide +kernel
theorem d_Commands_removeCommand_57 : decode prog_4_method_9_code 57 = .ok (.isub, 1) := by decide +kernel
theorem d_Commands_removeCommand_58 : decode prog_4_method_9_code 58 = .ok (.iaload, 1) := by decide +kernel
theorem d_Commands_removeCommand_59 : decode prog_4_method_9_code 59 = .ok (.goto 4, 3) := by decide +kernel
theorem d_Commands_removeCommand_62 : decode prog_4_method_9_code 62 = .ok (.iconst 0, 1) := by decide +kernel
theorem d_Commands_removeCommand_63 : decode prog_4_method_9_code 63 = .ok (.istore 5, 2) := by decide +kernel
theorem d_Commands_removeCommand_65 : decode prog_4_method_9_code 65 = .ok (.iload 4, 2) := by decide +kernel
theorem d_Commands_removeCommand_67 : decode prog_4_method_9_code 67 = .ok (.bipush 16, 2) := by decide +kernel
theorem d_Commands_removeCommand_69 : decode prog_4_method_9_code 69 = .ok (.if_icmp .ne 11, 3) := by decide +kernel
theorem d_Commands_removeCommand_72 : decode prog_4_method_9_code 72 = .ok (.iload 5, 2) := by decide +kernel
theorem d_Commands_removeCommand_74 : decode prog_4_method_9_code 74 = .ok (.ifCond .ne 6, 3) := by decide +kernel
theorem d_Commands_removeCommand_77 : decode prog_4_method_9_code 77 = .ok (.bipush (-105), 2) := by decide +kernel
theorem d_Commands_removeCommand_79 : decode prog_4_method_9_code 79 = .ok (.ireturn, 1) := by decide +kernel
theorem d_Commands_removeCommand_80 : decode prog_4_method_9_code 80 = .ok (.aload_n 0, 1) := by decide +kernel
theorem d_Commands_removeCommand_81 : decode prog_4_method_9_code 81 = .ok (.getfield 34, 3) := by decide +kernel
theorem d_Commands_removeCommand_84 : decode prog_4_method_9_code 84 = .ok (.getstatic 70, 3) := by decide +kernel
theorem d_Commands_removeCommand_87 : decode prog_4_method_9_code 87 = .ok (.iload 4, 2) := by decide +kernel
theorem d_Commands_removeCommand_89 : decode prog_4_method_9_code 89 = .ok (.bipush 16, 2) := by decide +kernel
theorem d_Commands_removeCommand_91 : decode prog_4_method_9_code 91 = .ok (.isub, 1) := by decide +kernel
theorem d_Commands_removeCommand_92 : decode prog_4_method_9_code 92 = .ok (.iaload, 1) := by decide +kernel
theorem d_Commands_removeCommand_93 : decode prog_4_method_9_code 93 = .ok (.invokevirtual 107, 3) := by decide +kernel
theorem d_Commands_removeCommand_96 : decode prog_4_method_9_code 96 = .ok (.istore 6, 2) := by decide +kernel
theorem d_Commands_removeCommand_98 : decode prog_4_method_9_code 98 = .ok (.iload 6, 2) := by decide +kernel
theorem d_Commands_removeCommand_100 : decode prog_4_method_9_code 100 = .ok (.ifCond .ge 6, 3) := by decide +kernel
theorem d_Commands_removeCommand_103 : decode prog_4_method_9_code 103 = .ok (.iload 6, 2) := by decide +kernel
theorem d_Commands_removeCommand_105 : decode prog_4_method_9_code 105 = .ok (.ireturn, 1) := by decide +kernel
theorem d_Commands_removeCommand_106 : decode prog_4_method_9_code 106 = .ok (.getstatic 67, 3) := by decide +kernel
theorem d_Commands_removeCommand_109 : decode prog_4_method_9_code 109 = .ok (.iload 4, 2) := by decide +kernel
theorem d_Commands_removeCommand_111 : decode prog_4_method_9_code 111 = .ok (.bipush 16, 2) := by decide +kernel
theorem d_Commands_removeCommand_113 : decode prog_4_method_9_code 113 = .ok (.isub, 1) := by decide +kernel
theorem d_Commands_removeCommand_114 : decode prog_4_method_9_code 114 = .ok (.iaload, 1) := by decide +kernel
theorem d_Commands_removeCommand_115 : decode prog_4_method_9_code 115 = .ok (.iload 6, 2) := by decide +kernel
theorem d_Commands_removeCommand_117 : decode prog_4_method_9_code 117 = .ok (.iadd, 1) := by decide +kernel
theorem d_Commands_removeCommand_118 : decode prog_4_method_9_code 118 = .ok (.istore 7, 2) := by decide +kernel
theorem d_Commands_removeCommand_120 : decode prog_4_method_9_code 120 = .ok (.iload 7, 2) := by decide +kernel
theorem d_Commands_removeCommand_122 : decode prog_4_method_9_code 122 = .ok (.iload_n 2, 1) := by decide +kernel
theorem d_Commands_removeCommand_123 : decode prog_4_method_9_code 123 = .ok (.iload_n 3, 1) := by decide +kernel
theorem d_Commands_removeCommand_124 : decode prog_4_method_9_code 124 = .ok (.isub, 1) := by decide +kernel
theorem d_Commands_removeCommand_125 : decode prog_4_method_9_code 125 = .ok (.if_icmp .le 6, 3) := by decide +kernel
theorem d_Commands_removeCommand_128 : decode prog_4_method_9_code 128 = .ok (.bipush (-105), 2) := by decide +kernel
theorem d_Commands_removeCommand_130 : decode prog_4_method_9_code 130 = .ok (.ireturn, 1) := by decide +kernel
theorem d_Commands_removeCommand_131 : decode prog_4_method_9_code 131 = .ok (.iload_n 3, 1) := by decide +kernel
theorem d_Commands_removeCommand_132 : decode prog_4_method_9_code 132 = .ok (.istore 8, 2) := by decide +kernel
theorem d_Commands_removeCommand_134 : decode prog_4_method_9_code 134 = .ok (.iload 8, 2) := by decide +kernel
theorem d_Commands_removeCommand_136 : decode prog_4_method_9_code 136 = .ok (.iload_n 3, 1) := by decide +kernel
theorem d_Commands_removeCommand_137 : decode prog_4_method_9_code 137 = .ok (.iload 7, 2) := by decide +kernel
theorem d_Commands_removeCommand_139 : decode prog_4_method_9_code 139 = .ok (.iadd, 1) := by decide +kernel
theorem d_Commands_removeCommand_140 : decode prog_4_method_9_code 140 = .ok (.if_icmp .ge 15, 3) := by decide +kernel
theorem d_Commands_removeCommand_143 : decode prog_4_method_9_code 143 = .ok (.aload_n 1, 1) := by decide +kernel
theorem d_Commands_removeCommand_144 : decode prog_4_method_9_code 144 = .ok (.iload 8, 2) := by decide +kernel
theorem d_Commands_removeCommand_146 : decode prog_4_method_9_code 146 = .ok (.iload 5, 2) := by decide +kernel
theorem d_Commands_removeCommand_148 : decode prog_4_method_9_code 148 = .ok (.iastore, 1) := by decide +kernel
theorem d_Commands_removeCommand_149 : decode prog_4_method_9_code 149 = .ok (.iinc 8 1, 3) := by decide +kernel
theorem d_Commands_removeCommand_152 : decode prog_4_method_9_code 152 = .ok (.goto (-18), 3) := by decide +kernel
theorem d_Commands_removeCommand_155 : decode prog_4_method_9_code 155 = .ok (.iload 7, 2) := by decide +kernel
theorem d_Commands_removeCommand_157 : decode prog_4_method_9_code 157 = .ok (.ireturn, 1) := by decide +kernel
theorem d_Commands_remove_0 : decode prog_4_method_7_code 0 = .ok (.aload_n 0, 1) := by decide +kernel
theorem d_Commands_remove_1 : decode prog_4_method_7_code 1 = .ok (.invokevirtual 100, 3) := by decide +kernel
theorem d_Commands_remove_4 : decode prog_4_method_7_code 4 = .ok (.istore_n 3, 1) := by decide +kernel
theorem d_Commands_remove_5 : decode prog_4_method_7_code 5 = .ok (.iload_n 3, 1) := by decide +kernel
theorem d_Commands_remove_6 : decode prog_4_method_7_code 6 = .ok (.ifCond .ge 5, 3) := by decide +kernel
theorem d_Commands_remove_9 : decode prog_4_method_7_code 9 = .ok (.iload_n 3, 1) := by decide +kernel
theorem d_Commands_remove_10 : decode prog_4_method_7_code 10 = .ok (.ireturn, 1) := by decide +kernel
theorem d_Commands_remove_11 : decode prog_4_method_7_code 11 = .ok (.iconst 0, 1) := by decide +kernel
theorem d_Commands_remove_12 : decode prog_4_method_7_code 12 = .ok (.istore 4, 2) := by decide +kernel
theorem d_Commands_remove_14 : decode prog_4_method_7_code 14 = .ok (.iload 4, 2) := by decide +kernel
theorem d_Commands_remove_16 : decode prog_4_method_7_code 16 = .ok (.iload_n 2, 1) := by decide +kernel
theorem d_Commands_remove_17 : decode prog_4_method_7_code 17 = .ok (.if_icmp .ge 35, 3) := by decide +kernel
theorem d_Commands_remove_20 : decode prog_4_method_7_code 20 = .ok (.aload_n 0, 1) := by decide +kernel
theorem d_Commands_remove_21 : decode prog_4_method_7_code 21 = .ok (.aload_n 1, 1) := by decide +kernel
theorem d_Commands_remove_22 : decode prog_4_method_7_code 22 = .ok (.iload_n 2, 1) := by decide +kernel
theorem d_Commands_remove_23 : decode prog_4_method_7_code 23 = .ok (.iload 4, 2) := by decide +kernel
theorem d_Commands_remove_25 : decode prog_4_method_7_code 25 = .ok (.invokevirtual 104, 3) := by decide +kernel
theorem d_Commands_remove_28 : decode prog_4_method_7_code 28 = .ok (.istore 5, 2) := by decide +kernel
theorem d_Commands_remove_30 : decode prog_4_method_7_code 30 = .ok (.iload 5, 2) := by decide +kernel
theorem d_Commands_remove_32 : decode prog_4_method_7_code 32 = .ok (.ifCond .ge 6, 3) := by decide +kernel
theorem d_Commands_remove_35 : decode prog_4_method_7_code 35 = .ok (.iload 5, 2) := by decide +kernel
theorem d_Commands_remove_37 : decode prog_4_method_7_code 37 = .ok (.ireturn, 1) := by decide +kernel
theorem d_Commands_remove_38 : decode prog_4_method_7_code 38 = .ok (.iload 4, 2) := by decide +kernel
theorem d_Commands_remove_40 : decode prog_4_method_7_code 40 = .ok (.iload 5, 2) := by decide +kernel
theorem d_Commands_remove_42 : decode prog_4_method_7_code 42 = .ok (.iconst 1, 1) := by decide +kernel
theorem d_Commands_remove_43 : decode prog_4_method_7_code 43 = .ok (.invokestatic 94, 3) := by decide +kernel
theorem d_Commands_remove_46 : decode prog_4_method_7_code 46 = .ok (.iadd, 1) := by decide +kernel
theorem d_Commands_remove_47 : decode prog_4_method_7_code 47 = .ok (.istore 4, 2) := by decide +kernel
theorem d_Commands_remove_49 : decode prog_4_method_7_code 49 = .ok (.goto (-35), 3) := by decide +kernel
theorem d_Commands_remove_52 : decode prog_4_method_7_code 52 = .ok (.iload_n 2, 1) := by decide +kernel
theorem d_Commands_remove_53 : decode prog_4_method_7_code 53 = .ok (.ireturn, 1) := by decide +kernel
noncomputable def f_PC_pack (σ : St) (a1 : Int32) (a2 : Int32) : Option (St × Int32) :=
  b2 (f_PC_codeAt σ a1) fun σ1 o2 =>
  on (o2) (
    some (σ1, (-101))
    ) fun j3 =>
  b2 (f_PC_isOutside σ1 a2 0 2) fun σ4 x5 =>
  if x5 = 0 then
    b1 (f_Stream_begin σ4) fun σ6 =>
    b1 (f_Manners_append σ6 j3 a2) fun σ7 =>
    b2 (f_Stream_settle σ7) fun σ8 x9 =>
    some (σ8, x9)
  else
  some (σ4, (-102))
noncomputable def lb_Manners_removePlain_2 (a1 : Int32) (σ : St) (v2 : Int32) : Option ((St × Int32) ⊕ ((St × Int32) ⊕ (St × Int32))) :=
  if a1 ≤ v2 then
    some (.inr (.inl (σ, v2)))
  else
  b2 (f_Stream_removeNumber σ 4) fun σ1 x2 =>
  if 0 ≤ x2 then
    gd (ib v2 64) <|
    nm (sI σ1 14 0 (v2.toNatClampNeg) x2) fun σ3 =>
    nm (v2 + 1) fun x4 =>
    some (.inl (σ3, x4))
  else
  some (.inr (.inr (σ1, x2)))
noncomputable def f_Manners_removePlain (σ : St) (a1 : Int32) : Option (St × Int32) :=
  bs2 (lpE (fun q => lb_Manners_removePlain_2 a1 q.1 q.2) (σ, 0)) (fun z => some z) fun σ5 x6 =>
  some (σ5, a1)
noncomputable def lb_Manners_stepsFrom_4 (σ : St) (v2 : Int32) (v3 : Int32) : Option ((St × Int32 × Int32) ⊕ ((St × Int32 × Int32) ⊕ (St × Int32))) :=
  if 20000 < v3 then
    some (.inr (.inl (σ, v2, v3)))
  else
  b2 (f_Stream_removeFirst σ) fun σ1 x2 =>
  if 0 < x2 then
    b2 (f_Stream_removeFirst σ1) fun σ3 x4 =>
    if 0 ≤ x4 then
      if x4 = 0 then
        nm (v2 + 1) fun x9 =>
        b2 (f_PC_isOutside σ3 x9 0 15) fun σ10 x11 =>
        if x11 = 0 then
          nm (v3 + 1) fun x12 =>
          some (.inl (σ10, x9, x12))
        else
        some (.inr (.inr (σ10, (-105))))
      else
      nm (v2 + (-1)) fun x5 =>
      b2 (f_PC_isOutside σ3 x5 0 15) fun σ6 x7 =>
      if x7 = 0 then
        nm (v3 + 1) fun x8 =>
        some (.inl (σ6, x5, x8))
      else
      some (.inr (.inr (σ6, (-105))))
    else
    some (.inr (.inr (σ3, x4)))
  else
  if 0 ≤ x2 then
    some (.inr (.inr (σ1, v2)))
  else
  some (.inr (.inr (σ1, x2)))
noncomputable def f_Manners_stepsFrom (σ : St) (a1 : Int32) : Option (St × Int32) :=
  bs3 (lpE (fun q => lb_Manners_stepsFrom_4 q.1 q.2.1 q.2.2) (σ, a1, 0)) (fun z => some z) fun σ13 x14 x15 =>
  some (σ13, (-104))
noncomputable def lb_Manners_removeSteps_17 (a1 : Int32) (σ : St) (v2 : Int32) (v3 : Int32) : Option ((St × Int32 × Int32) ⊕ ((St × Int32 × Int32) ⊕ (St × Int32))) :=
  if a1 ≤ v3 then
    some (.inr (.inl (σ, v2, v3)))
  else
  b2 (f_Manners_stepsFrom σ v2) fun σ3 x4 =>
  if 0 ≤ x4 then
    gd (ib v3 64) <|
    nm (sI σ3 14 0 (v3.toNatClampNeg) x4) fun σ5 =>
    nm (v3 + 1) fun x6 =>
    some (.inl (σ5, x4, x6))
  else
  some (.inr (.inr (σ3, x4)))
noncomputable def f_Manners_removeSteps (σ : St) (a1 : Int32) : Option (St × Int32) :=
  b2 (f_Stream_removeNumber σ 4) fun σ1 x2 =>
  if 0 ≤ x2 then
    bs3 (lpE (fun q => lb_Manners_removeSteps_17 a1 q.1 q.2.1 q.2.2) (σ1, x2, 0)) (fun z => some z) fun σ7 x8 x9 =>
    some (σ7, a1)
  else
  some (σ1, x2)
noncomputable def lb_Commands_removeCode_28 (x2 : Int32) (σ : St) (v2 : Int32) : Option ((St × Int32) ⊕ ((St × Int32) ⊕ (St × Int32))) :=
  if (x2 + 4) ≤ v2 then
    some (.inr (.inl (σ, v2)))
  else
  if 19 ≤ v2 then
    some (.inr (.inl (σ, v2)))
  else
  b2 (f_Stream_removeNumber σ 3) fun σ4 x5 =>
  if 0 ≤ x5 then
    gd (ib v2 19) <|
    gd (ib (tb_0 v2.toNatClampNeg) 64) <|
    nm (sI σ4 42 12 ((tb_0 v2.toNatClampNeg).toNatClampNeg) x5) fun σ6 =>
    nm (v2 + 1) fun x7 =>
    some (.inl (σ6, x7))
  else
  some (.inr (.inr (σ4, x5)))
noncomputable def f_Commands_removeCode (σ : St) : Option (St × Int32) :=
  b2 (f_Stream_removeNumber σ 4) fun σ1 x2 =>
  if 0 ≤ x2 then
    b1 (f_Arrays_fill σ1 42 12 64 0) fun σ3 =>
    bs2 (lpE (fun q => lb_Commands_removeCode_28 x2 q.1 q.2) (σ3, 0)) (fun z => some z) fun σ8 x9 =>
    b1 (f_Code_renumber σ8 12) fun σ10 =>
    if (σ10.1 41 12 10) = 2 then
      some (σ10, 19)
    else
    if (σ10.1 41 12 10) = 1 then
      some (σ10, 19)
    else
    some (σ10, (-105))
  else
  some (σ1, x2)
noncomputable def lb_Commands_removeCommand_134 (fa1 ia1 na1 : Nat) (p3 : Int32) (p5 : Int32) (x5 : Int32) (σ : St) (v8 : Int32) : Option ((St × Int32) ⊕ ((St × Int32))) :=
  if (p3 + x5) ≤ v8 then
    some (.inr (σ, v8))
  else
  gd (ib v8 na1) <|
  nm (sI σ fa1 ia1 (v8.toNatClampNeg) p5) fun σ6 =>
  nm (v8 + 1) fun x7 =>
  some (.inl (σ6, x7))
noncomputable def jn_Commands_removeCommand_80_3 (fa1 ia1 na1 : Nat) (σ : St) (p2 : Int32) (p3 : Int32) (p4 : Int32) (p5 : Int32) : Option (St × Int32) :=
  gd (ib (p4 - 16) 3) <|
  b2 (f_Stream_removeNumber σ (tb_3 (p4 - 16).toNatClampNeg)) fun σ3 x4 =>
  if 0 ≤ x4 then
    gd (ib (p4 - 16) 3) <|
    nm ((tb_1 (p4 - 16).toNatClampNeg) + x4) fun x5 =>
    if x5 ≤ (p2 - p3) then
      b2 (lpE (fun q => lb_Commands_removeCommand_134 fa1 ia1 na1 p3 p5 x5 q.1 q.2) (σ3, p3)) fun σ8 x9 =>
      some (σ8, x5)
    else
    some (σ3, (-105))
  else
  some (σ3, x4)
noncomputable def jn_Commands_removeCommand_63_2 (fa1 ia1 na1 : Nat) (σ : St) (p2 : Int32) (p3 : Int32) (p4 : Int32) (k0 : Int32) : Option (St × Int32) :=
  if p4 = 16 then
    if k0 = 0 then
      some (σ, (-105))
    else
    jn_Commands_removeCommand_80_3 fa1 ia1 na1 σ p2 p3 p4 k0
  else
  jn_Commands_removeCommand_80_3 fa1 ia1 na1 σ p2 p3 p4 k0
noncomputable def jn_Commands_removeCommand_62 (fa1 ia1 na1 : Nat) (σ : St) (p2 : Int32) (p3 : Int32) (p4 : Int32) : Option (St × Int32) :=
  jn_Commands_removeCommand_63_2 fa1 ia1 na1 σ p2 p3 p4 0
noncomputable def f_Commands_removeCommand (σ : St) (fa1 ia1 na1 : Nat) (a2 : Int32) (a3 : Int32) : Option (St × Int32) :=
  b2 (f_Code_removeSymbol σ 12 0) fun σ1 x2 =>
  if 16 ≤ x2 then
    if x2 = 16 then
      if a3 ≤ 0 then
        jn_Commands_removeCommand_62 fa1 ia1 na1 σ1 a2 a3 x2
      else
      gd (ib (a3 - 1) na1) <|
      jn_Commands_removeCommand_63_2 fa1 ia1 na1 σ1 a2 a3 x2 (σ1.1 fa1 ia1 (a3 - 1).toNatClampNeg)
    else
    jn_Commands_removeCommand_62 fa1 ia1 na1 σ1 a2 a3 x2
  else
  if x2 < 0 then
    if 0 ≤ x2 then
      some (σ1, 1)
    else
    some (σ1, x2)
  else
  gd (ib a3 na1) <|
  nm (sI σ1 fa1 ia1 (a3.toNatClampNeg) x2) fun σ10 =>
  if 0 ≤ x2 then
    some (σ10, 1)
  else
  some (σ10, x2)
noncomputable def lb_Commands_remove_14 (fa1 ia1 na1 : Nat) (a2 : Int32) (σ : St) (v4 : Int32) : Option ((St × Int32) ⊕ ((St × Int32) ⊕ (St × Int32))) :=
  if a2 ≤ v4 then
    some (.inr (.inl (σ, v4)))
  else
  b2 (f_Commands_removeCommand σ fa1 ia1 na1 a2 v4) fun σ3 x4 =>
  if 0 ≤ x4 then
    nm (v4 + (jmax x4 1)) fun x5 =>
    some (.inl (σ3, x5))
  else
  some (.inr (.inr (σ3, x4)))
noncomputable def f_Commands_remove (σ : St) (fa1 ia1 na1 : Nat) (a2 : Int32) : Option (St × Int32) :=
  b2 (f_Commands_removeCode σ) fun σ1 x2 =>
  if 0 ≤ x2 then
    bs2 (lpE (fun q => lb_Commands_remove_14 fa1 ia1 na1 a2 q.1 q.2) (σ1, 0)) (fun z => some z) fun σ6 x7 =>
    some (σ6, a2)
  else
  some (σ1, x2)
set_option maxHeartbeats 4000000 in
set_option maxRecDepth 100000 in
theorem c_PC_pack (l : Launch) (D : va_G) (aC : Nat → ClassId) (A : Nat → Prop) (ad : Nat → Nat → Nat) (n : Nat) (σ : St) (a1 : Int32) (a2 : Int32) (o : St × Int32) (h : f_PC_pack σ a1 a2 = some o) : Met l y_PC_pack w_PC_pack rm_PC_pack (va_Pc [.ref (ad 0 0), .int a1, .int a2] (Pre D aC A ad n σ)) (va_Qi (fun r (_ : Unit) => r = o.2) (fun _ t => Hold D aC A ad n o.1 t.heap) A) 0 0 A := by
  refine Met.ofW (cc := prog_1_method_17_code) (maxL := 4) (ret := (some .int)) (by decide) rfl ?_
  intro p e s m args below meth c s₁ B hml hv
  obtain ⟨hargs, hH, hK, hZ⟩ := hv
  have hx := B.exec
  have hb := B.bytes
  have hr := B.returns
  have hts := atoms_spec (ws := w_PC_pack) B.pre
  have hg : ∀ w ∈ gW, w.before args s = true := fun w h => hts w (List.mem_cons_of_mem _ h)
  have hown : s.vm.findClass "PrefixCodes" = some m.cls := findClass_of_methodNamed B.named
  have hlocks := B.notSynchronized
  have hS : va_S A s.heap s.heap [] := va_S.rf
  have hl := lv_entry ([.ref (ad 0 0), .int a1, .int a2]) (n := 4) (Nat.le_of_ble_eq_true rfl)
  rw [show entryFrame m args 4 = entryFrame m (([.ref (ad 0 0), .int a1, .int a2] : List Value).toArray) 4 by rw [hargs], lg_entry_eq]
  generalize (lg_sl ([.ref (ad 0 0), .int a1, .int a2]) ++ List.replicate (4 - (lg_sl ([.ref (ad 0 0), .int a1, .int a2])).length) Slot.unset).toArray = ls at hl ⊢
  have hl : lv_has ls 4 [(0, .ref (ad 0 0)), (1, .int a1), (2, .int a2)] := hl
  generalize hQ0 : MQ below (va_Qi (fun r (_ : Unit) => r = o.2) (fun _ t => Hold D aC A ad n o.1 t.heap) A) args s 0 0 A = Q0
  unfold f_PC_pack at h
  refine lv_aload_n hx hb d_PC_pack_0 rfl (lv_at hl 0 rfl) ?_
  refine lv_iload_n hx hb d_PC_pack_1 rfl (lv_at hl 1 rfl) ?_
  obtain ⟨qc, hc2, h⟩ := b2_some h
  obtain ⟨σ1, o2⟩ := qc
  have h := b2_at h
  refine st_Vq (As := [.int a1]) (rest := []) ⟨hx, hb, hml, hown, hg⟩ (c_PC_codeAt l D aC A ad n _ a1 _ hc2) (cwG hg wd_7 wd_8 wd_9 wd_10 wd_4 yd_PC_codeAt ⟨Nat.le_of_ble_eq_true rfl, Nat.le_of_ble_eq_true rfl⟩) hK hH hS hZ hd_0 rfl rfl rfl hl.1 rfl (Nat.le_of_ble_eq_true rfl) d_PC_pack_2 ⟨Nat.zero_le _, Nat.zero_le _⟩ (fun c2 H locs hH hS => ?_) (fun j3 c2 hdj3 H locs hH hS => ?_)
  · have h := on_n h c2
    refine lv_astore_nN (lv' := [(3, .null), (0, .ref (ad 0 0)), (1, .int a1), (2, .int a2)]) hx hb d_PC_pack_5 rfl hl (by decide) rfl (fun ls hl => ?_)
    refine lv_aload_nN hx hb d_PC_pack_6 rfl (lv_at hl 0 rfl) ?_
    refine lv_ifnonnullN hx hb d_PC_pack_7 ?_
    refine lv_bipush (v := (-101)) hx hb d_PC_pack_10 (by decide) ?_
    cases h
    rw [← hQ0]
    exact W.iret hx hb hr (fun t ht hW => ⟨⟨_, (), rfl, rfl, by dsimp only; rw [ht]; exact hH⟩, hS.F ht⟩) hS.2.2 d_PC_pack_12
  · have h := on_s h c2
    refine lv_astore_n (lv' := [(3, .ref (ad 41 j3)), (0, .ref (ad 0 0)), (1, .int a1), (2, .int a2)]) hx hb d_PC_pack_5 rfl hl (by decide) rfl (fun ls hl => ?_)
    refine lv_aload_n hx hb d_PC_pack_6 rfl (lv_at hl 0 rfl) ?_
    refine lv_ifnonnull (tgt := 13) hx hb d_PC_pack_7 (by decide) ?_
    refine lv_iload_n hx hb d_PC_pack_13 rfl (lv_at hl 3 rfl) ?_
    refine lv_iconst (v := 0) hx hb d_PC_pack_14 (by decide) ?_
    refine lv_iconst (v := 2) hx hb d_PC_pack_15 (by decide) ?_
    obtain ⟨qc, hc16, h⟩ := b2_some h
    obtain ⟨σ4, x5⟩ := qc
    have h := b2_at h
    refine st_Si (As := [.int a2, .int 0, .int 2]) (rest := []) ⟨hx, hb, hml, hown, hg⟩ (c_PC_isOutside l D aC A ad n _ a2 0 2 _ hc16) (cwGS hg wd_2 wd_3 wd_5 wd_4 yd_PC_isOutside ⟨Nat.le_of_ble_eq_true rfl, Nat.le_of_ble_eq_true rfl⟩) hK hH hS hZ rfl hl.1 rfl (Nat.le_of_ble_eq_true rfl) d_PC_pack_16 ⟨Nat.zero_le _, Nat.zero_le _⟩ (fun H locs hH hS => ?_)
    refine lv_if_eq (tgt := 25) hx hb d_PC_pack_19 (by decide) (fun c19 => ?_) (fun c19 => ?_)
    · have h := it h c19
      refine lv_aload_n hx hb d_PC_pack_25 rfl (lv_at hl 1 rfl) ?_
      refine st_get hx hb hg hown hK hH (f := 0) (i := 0) hd_0 rfl rfl u_PC 3 (by decide) (hg _ wd_113) (v := .ref (ad 3 0)) rfl d_PC_pack_26 ?_
      obtain ⟨qc, hc29, h⟩ := b1_some h
      obtain ⟨σ6, rfl⟩ : ∃ z, z = qc := ⟨_, rfl⟩
      have h := b1_at h
      refine st_Vv (As := []) (rest := []) ⟨hx, hb, hml, hown, hg⟩ (c_Stream_begin l D aC A ad n _  _ hc29) (cwG hg wd_227 wd_228 wd_229 wd_230 wd_119 yd_Stream_begin ⟨Nat.le_of_ble_eq_true rfl, Nat.le_of_ble_eq_true rfl⟩) hK hH hS hZ hd_3 rfl rfl rfl hl.1 rfl (Nat.le_of_ble_eq_true rfl) d_PC_pack_29 ⟨Nat.zero_le _, Nat.zero_le _⟩ (fun H locs hH hS => ?_)
      refine lv_aload_n hx hb d_PC_pack_32 rfl (lv_at hl 1 rfl) ?_
      refine st_get hx hb hg hown hK hH (f := 0) (i := 0) hd_0 rfl rfl u_PC 5 (by decide) (hg _ wd_226) (v := .ref (ad 13 0)) rfl d_PC_pack_33 ?_
      refine lv_aload_n hx hb d_PC_pack_36 rfl (lv_at hl 0 rfl) ?_
      refine lv_iload_n hx hb d_PC_pack_37 rfl (lv_at hl 3 rfl) ?_
      obtain ⟨qc, hc38, h⟩ := b1_some h
      obtain ⟨σ7, rfl⟩ : ∃ z, z = qc := ⟨_, rfl⟩
      have h := b1_at h
      refine st_Vv (As := [.ref (ad 41 j3), .int a2]) (rest := []) ⟨hx, hb, hml, hown, hg⟩ (c_Manners_append l D aC A ad n _ j3 a2 hdj3 _ hc38) (cwG hg wd_231 wd_232 wd_233 wd_234 wd_215 yd_Manners_append ⟨Nat.le_of_ble_eq_true rfl, Nat.le_of_ble_eq_true rfl⟩) hK hH hS hZ hd_13 rfl rfl rfl hl.1 rfl (Nat.le_of_ble_eq_true rfl) d_PC_pack_38 ⟨Nat.zero_le _, Nat.zero_le _⟩ (fun H locs hH hS => ?_)
      refine lv_aload_n hx hb d_PC_pack_41 rfl (lv_at hl 1 rfl) ?_
      refine st_get hx hb hg hown hK hH (f := 0) (i := 0) hd_0 rfl rfl u_PC 3 (by decide) (hg _ wd_113) (v := .ref (ad 3 0)) rfl d_PC_pack_42 ?_
      obtain ⟨qc, hc45, h⟩ := b2_some h
      obtain ⟨σ8, x9⟩ := qc
      have h := b2_at h
      refine st_Vi (As := []) (rest := []) ⟨hx, hb, hml, hown, hg⟩ (c_Stream_settle l D aC A ad n _  _ hc45) (cwG hg wd_235 wd_236 wd_237 wd_238 wd_119 yd_Stream_settle ⟨Nat.le_of_ble_eq_true rfl, Nat.le_of_ble_eq_true rfl⟩) hK hH hS hZ hd_3 rfl rfl rfl hl.1 rfl (Nat.le_of_ble_eq_true rfl) d_PC_pack_45 ⟨Nat.zero_le _, Nat.zero_le _⟩ (fun H locs hH hS => ?_)
      cases h
      rw [← hQ0]
      exact W.iret hx hb hr (fun t ht hW => ⟨⟨_, (), rfl, rfl, by dsimp only; rw [ht]; exact hH⟩, hS.F ht⟩) hS.2.2 d_PC_pack_48
    · have h := ie h c19
      refine lv_bipush (v := (-102)) hx hb d_PC_pack_22 (by decide) ?_
      cases h
      rw [← hQ0]
      exact W.iret hx hb hr (fun t ht hW => ⟨⟨_, (), rfl, rfl, by dsimp only; rw [ht]; exact hH⟩, hS.F ht⟩) hS.2.2 d_PC_pack_24
set_option maxHeartbeats 4000000 in
set_option maxRecDepth 100000 in
theorem c_Manners_removePlain (l : Launch) (D : va_G) (aC : Nat → ClassId) (A : Nat → Prop) (ad : Nat → Nat → Nat) (n : Nat) (σ : St) (a1 : Int32) (o : St × Int32) (h : f_Manners_removePlain σ a1 = some o) : Met l y_Manners_removePlain w_Manners_removePlain rm_Manners_removePlain (va_Pc [.ref (ad 13 0), .int a1] (Pre D aC A ad n σ)) (va_Qi (fun r (_ : Unit) => r = o.2) (fun _ t => Hold D aC A ad n o.1 t.heap) A) 0 0 A := by
  refine Met.ofW (cc := prog_5_method_5_code) (maxL := 4) (ret := (some .int)) (by decide) rfl ?_
  intro p e s m args below meth c s₁ B hml hv
  obtain ⟨hargs, hH, hK, hZ⟩ := hv
  have hx := B.exec
  have hb := B.bytes
  have hr := B.returns
  have hts := atoms_spec (ws := w_Manners_removePlain) B.pre
  have hg : ∀ w ∈ gW, w.before args s = true := fun w h => hts w (List.mem_cons_of_mem _ h)
  have hown : s.vm.findClass "PrefixCodes$Manners" = some m.cls := findClass_of_methodNamed B.named
  have hlocks := B.notSynchronized
  have hS : va_S A s.heap s.heap [] := va_S.rf
  have hl := lv_entry ([.ref (ad 13 0), .int a1]) (n := 4) (Nat.le_of_ble_eq_true rfl)
  rw [show entryFrame m args 4 = entryFrame m (([.ref (ad 13 0), .int a1] : List Value).toArray) 4 by rw [hargs], lg_entry_eq]
  generalize (lg_sl ([.ref (ad 13 0), .int a1]) ++ List.replicate (4 - (lg_sl ([.ref (ad 13 0), .int a1])).length) Slot.unset).toArray = ls at hl ⊢
  have hl : lv_has ls 4 [(0, .ref (ad 13 0)), (1, .int a1)] := hl
  generalize hQ0 : MQ below (va_Qi (fun r (_ : Unit) => r = o.2) (fun _ t => Hold D aC A ad n o.1 t.heap) A) args s 0 0 A = Q0
  unfold f_Manners_removePlain at h
  refine lv_iconst (v := 0) hx hb d_Manners_removePlain_0 (by decide) ?_
  refine lv_istore_n (lv' := [(2, .int 0), (0, .ref (ad 13 0)), (1, .int a1)]) hx hb d_Manners_removePlain_1 rfl hl (by decide) rfl (fun ls hl => ?_)
  obtain ⟨q1, hq1, h⟩ := bs2_some h
  have K1 : ∀ (σ5 : St) (x6 : Int32) (H : Heap) (locs : List Loc) (ls : Array Slot), q1 = .inl (σ5, x6) → Hold D aC A ad n σ5 H → va_S A s.heap H locs → lv_has ls 4 [(0, .ref (ad 13 0)), (1, .int a1), (2, .int x6)] → W p l e (headSpec w_Manners_removePlain rm_Manners_removePlain).room s m args below meth c H locs 0 0 Q0 (F0 m 35 ls []) := by
    intro σ5 x6 H locs ls eq1 hH hS hl
    subst eq1
    have h := bs2_at h
    refine lv_iload_n hx hb d_Manners_removePlain_35 rfl (lv_at hl 1 rfl) ?_
    cases h
    rw [← hQ0]
    exact W.iret hx hb hr (fun t ht hW => ⟨⟨_, (), rfl, rfl, by dsimp only; rw [ht]; exact hH⟩, hS.F ht⟩) hS.2.2 d_Manners_removePlain_36
  have loop1 : ∀ (k : Nat) (σ : St) (v2 : Int32) (H : Heap) (locs : List Loc) (ls : Array Slot), Hold D aC A ad n σ H → va_S A s.heap H locs → lv_has ls 4 [(0, .ref (ad 13 0)), (1, .int a1), (2, .int v2)] → lp (fun q => lb_Manners_removePlain_2 a1 q.1 q.2) k (σ, v2) = some q1 → W p l e (headSpec w_Manners_removePlain rm_Manners_removePlain).room s m args below meth c H locs 0 0 Q0 (F0 m 2 ls []) := by
    intro k
    induction k with
    | zero => intro σ v2 H locs ls hH hS hl hlp; exact absurd hlp (lp_zero _ _ _)
    | succ k ih1 =>
      intro σ v2 H locs ls hH hS hl hlp
      obtain ⟨z1, h1, hk1⟩ := lp_succ hlp
      have h1 : lb_Manners_removePlain_2 a1 σ v2 = some z1 := h1
      unfold lb_Manners_removePlain_2 at h1
      refine lv_iload_n hx hb d_Manners_removePlain_2 rfl (lv_at hl 2 rfl) ?_
      refine lv_iload_n hx hb d_Manners_removePlain_3 rfl (lv_at hl 1 rfl) ?_
      refine lv_icmp_ge (tgt := 35) hx hb d_Manners_removePlain_4 (by decide) (fun c4 => ?_) (fun c4 => ?_)
      · have h1 := it h1 c4
        cases h1
        exact K1 σ v2 _ _ ls (Option.some.inj hk1).symm hH hS (lv_sub hl [0, 1, 2] rfl)
      · have h1 := ie h1 c4
        refine lv_aload_n hx hb d_Manners_removePlain_7 rfl (lv_at hl 0 rfl) ?_
        refine st_get hx hb hg hown hK hH (f := 13) (i := 0) hd_13 rfl rfl u_Manners 0 (by decide) (hg _ wd_167) (v := .ref (ad 3 0)) rfl d_Manners_removePlain_8 ?_
        refine lv_iconst (v := 4) hx hb d_Manners_removePlain_11 (by decide) ?_
        obtain ⟨qc, hc12, h1⟩ := b2_some h1
        obtain ⟨σ1, x2⟩ := qc
        have h1 := b2_at h1
        refine st_Vi (As := [.int 4]) (rest := []) ⟨hx, hb, hml, hown, hg⟩ (c_Stream_removeNumber l D aC A ad n _ 4 _ hc12) (cwG hg wd_144 wd_240 wd_146 wd_147 wd_119 yd_Stream_removeNumber ⟨Nat.le_of_ble_eq_true rfl, Nat.le_of_ble_eq_true rfl⟩) hK hH hS hZ hd_3 rfl rfl rfl hl.1 rfl (Nat.le_of_ble_eq_true rfl) d_Manners_removePlain_12 ⟨Nat.zero_le _, Nat.zero_le _⟩ (fun H locs hH hS => ?_)
        refine lv_istore_n (lv' := [(3, .int x2), (0, .ref (ad 13 0)), (1, .int a1), (2, .int v2)]) hx hb d_Manners_removePlain_15 rfl hl (by decide) rfl (fun ls hl => ?_)
        refine lv_iload_n hx hb d_Manners_removePlain_16 rfl (lv_at hl 0 rfl) ?_
        refine lv_if_ge (tgt := 22) hx hb d_Manners_removePlain_17 (by decide) (fun c17 => ?_) (fun c17 => ?_)
        · have h1 := it h1 c17
          refine lv_aload_n hx hb d_Manners_removePlain_22 rfl (lv_at hl 1 rfl) ?_
          refine st_get hx hb hg hown hK hH (f := 13) (i := 0) hd_13 rfl rfl u_Manners 2 (by decide) (hg _ wd_239) (v := .ref (ad 14 0)) rfl d_Manners_removePlain_23 ?_
          refine lv_iload_n hx hb d_Manners_removePlain_26 rfl (lv_at hl 3 rfl) ?_
          refine lv_iload_n hx hb d_Manners_removePlain_27 rfl (lv_at hl 0 rfl) ?_
          obtain ⟨g28, h1⟩ := gd_some h1
          refine st_iast hx hb hK hH hS (f := 14) (i := 0) hd_14 rfl g28 d_Manners_removePlain_28 (fun σ3 H locs eσ3 hH hS => ?_)
          have h1 := nm_at eσ3 h1
          obtain ⟨x4, ex4⟩ : ∃ y : Int32, y = v2 + 1 := ⟨_, rfl⟩
          have h1 := nm_at ex4 h1
          refine lv_iinc (v := x4) (lv' := [(2, .int x4), (3, .int x2), (0, .ref (ad 13 0)), (1, .int a1)]) hx hb d_Manners_removePlain_29 hl (k := 3) rfl (by rw [ex4]; rfl) (by decide) rfl (fun ls hl => ?_)
          refine lv_goto (tgt := 2) hx hb d_Manners_removePlain_32 (by decide) ?_
          cases h1
          exact ih1 σ3 x4 _ _ ls hH hS (lv_sub hl [2, 3, 0] rfl) hk1
        · have h1 := ie h1 c17
          refine lv_iload_n hx hb d_Manners_removePlain_20 rfl (lv_at hl 0 rfl) ?_
          cases h1
          have hk1 := Option.some.inj hk1
          subst hk1
          have h := bs2_r h
          cases h
          rw [← hQ0]
          exact W.iret hx hb hr (fun t ht hW => ⟨⟨_, (), rfl, rfl, by dsimp only; rw [ht]; exact hH⟩, hS.F ht⟩) hS.2.2 d_Manners_removePlain_21
  obtain ⟨k1, hq1⟩ := lpE_some hq1
  exact loop1 k1 σ 0 _ _ ls hH hS (lv_sub hl [1, 2, 0] rfl) hq1
set_option maxHeartbeats 4000000 in
set_option maxRecDepth 100000 in
theorem c_Manners_stepsFrom (l : Launch) (D : va_G) (aC : Nat → ClassId) (A : Nat → Prop) (ad : Nat → Nat → Nat) (n : Nat) (σ : St) (a1 : Int32) (o : St × Int32) (h : f_Manners_stepsFrom σ a1 = some o) : Met l y_Manners_stepsFrom w_Manners_stepsFrom rm_Manners_stepsFrom (va_Pc [.ref (ad 13 0), .int a1] (Pre D aC A ad n σ)) (va_Qi (fun r (_ : Unit) => r = o.2) (fun _ t => Hold D aC A ad n o.1 t.heap) A) 0 0 A := by
  refine Met.ofW (cc := prog_5_method_8_code) (maxL := 6) (ret := (some .int)) (by decide) rfl ?_
  intro p e s m args below meth c s₁ B hml hv
  obtain ⟨hargs, hH, hK, hZ⟩ := hv
  have hx := B.exec
  have hb := B.bytes
  have hr := B.returns
  have hts := atoms_spec (ws := w_Manners_stepsFrom) B.pre
  have hg : ∀ w ∈ gW, w.before args s = true := fun w h => hts w (List.mem_cons_of_mem _ h)
  have hown : s.vm.findClass "PrefixCodes$Manners" = some m.cls := findClass_of_methodNamed B.named
  have hlocks := B.notSynchronized
  have hS : va_S A s.heap s.heap [] := va_S.rf
  have hl := lv_entry ([.ref (ad 13 0), .int a1]) (n := 6) (Nat.le_of_ble_eq_true rfl)
  rw [show entryFrame m args 6 = entryFrame m (([.ref (ad 13 0), .int a1] : List Value).toArray) 6 by rw [hargs], lg_entry_eq]
  generalize (lg_sl ([.ref (ad 13 0), .int a1]) ++ List.replicate (6 - (lg_sl ([.ref (ad 13 0), .int a1])).length) Slot.unset).toArray = ls at hl ⊢
  have hl : lv_has ls 6 [(0, .ref (ad 13 0)), (1, .int a1)] := hl
  generalize hQ0 : MQ below (va_Qi (fun r (_ : Unit) => r = o.2) (fun _ t => Hold D aC A ad n o.1 t.heap) A) args s 0 0 A = Q0
  unfold f_Manners_stepsFrom at h
  refine lv_iload_n hx hb d_Manners_stepsFrom_0 rfl (lv_at hl 1 rfl) ?_
  refine lv_istore_n (lv' := [(2, .int a1), (0, .ref (ad 13 0)), (1, .int a1)]) hx hb d_Manners_stepsFrom_1 rfl hl (by decide) rfl (fun ls hl => ?_)
  refine lv_iconst (v := 0) hx hb d_Manners_stepsFrom_2 (by decide) ?_
  refine lv_istore_n (lv' := [(3, .int 0), (2, .int a1), (0, .ref (ad 13 0)), (1, .int a1)]) hx hb d_Manners_stepsFrom_3 rfl hl (by decide) rfl (fun ls hl => ?_)
  obtain ⟨q1, hq1, h⟩ := bs3_some h
  have K1 : ∀ (σ13 : St) (x14 : Int32) (x15 : Int32) (H : Heap) (locs : List Loc) (ls : Array Slot), q1 = .inl (σ13, x14, x15) → Hold D aC A ad n σ13 H → va_S A s.heap H locs → lv_has ls 6 [(0, .ref (ad 13 0)), (2, .int x14), (3, .int x15)] → W p l e (headSpec w_Manners_stepsFrom rm_Manners_stepsFrom).room s m args below meth c H locs 0 0 Q0 (F0 m 86 ls []) := by
    intro σ13 x14 x15 H locs ls eq1 hH hS hl
    subst eq1
    have h := bs3_at h
    refine lv_bipush (v := (-104)) hx hb d_Manners_stepsFrom_86 (by decide) ?_
    cases h
    rw [← hQ0]
    exact W.iret hx hb hr (fun t ht hW => ⟨⟨_, (), rfl, rfl, by dsimp only; rw [ht]; exact hH⟩, hS.F ht⟩) hS.2.2 d_Manners_stepsFrom_88
  have loop1 : ∀ (k : Nat) (σ : St) (v2 : Int32) (v3 : Int32) (H : Heap) (locs : List Loc) (ls : Array Slot), Hold D aC A ad n σ H → va_S A s.heap H locs → lv_has ls 6 [(0, .ref (ad 13 0)), (2, .int v2), (3, .int v3)] → lp (fun q => lb_Manners_stepsFrom_4 q.1 q.2.1 q.2.2) k (σ, v2, v3) = some q1 → W p l e (headSpec w_Manners_stepsFrom rm_Manners_stepsFrom).room s m args below meth c H locs 0 0 Q0 (F0 m 4 ls []) := by
    intro k
    induction k with
    | zero => intro σ v2 v3 H locs ls hH hS hl hlp; exact absurd hlp (lp_zero _ _ _)
    | succ k ih1 =>
      intro σ v2 v3 H locs ls hH hS hl hlp
      obtain ⟨z1, h1, hk1⟩ := lp_succ hlp
      have h1 : lb_Manners_stepsFrom_4 σ v2 v3 = some z1 := h1
      unfold lb_Manners_stepsFrom_4 at h1
      refine lv_iload_n hx hb d_Manners_stepsFrom_4 rfl (lv_at hl 2 rfl) ?_
      refine lv_sipush (v := 20000) hx hb d_Manners_stepsFrom_5 (by decide) ?_
      refine lv_icmp_gt (tgt := 86) hx hb d_Manners_stepsFrom_8 (by decide) (fun c8 => ?_) (fun c8 => ?_)
      · have h1 := it h1 c8
        cases h1
        exact K1 σ v2 v3 _ _ ls (Option.some.inj hk1).symm hH hS (lv_sub hl [0, 1, 2] rfl)
      · have h1 := ie h1 c8
        refine lv_aload_n hx hb d_Manners_stepsFrom_11 rfl (lv_at hl 0 rfl) ?_
        refine st_get hx hb hg hown hK hH (f := 13) (i := 0) hd_13 rfl rfl u_Manners 0 (by decide) (hg _ wd_167) (v := .ref (ad 3 0)) rfl d_Manners_stepsFrom_12 ?_
        obtain ⟨qc, hc15, h1⟩ := b2_some h1
        obtain ⟨σ1, x2⟩ := qc
        have h1 := b2_at h1
        refine st_Vi (As := []) (rest := []) ⟨hx, hb, hml, hown, hg⟩ (c_Stream_removeFirst l D aC A ad n _  _ hc15) (cwG hg wd_140 wd_241 wd_142 wd_143 wd_119 yd_Stream_removeFirst ⟨Nat.le_of_ble_eq_true rfl, Nat.le_of_ble_eq_true rfl⟩) hK hH hS hZ hd_3 rfl rfl rfl hl.1 rfl (Nat.le_of_ble_eq_true rfl) d_Manners_stepsFrom_15 ⟨Nat.zero_le _, Nat.zero_le _⟩ (fun H locs hH hS => ?_)
        refine lv_istore (lv' := [(4, .int x2), (0, .ref (ad 13 0)), (2, .int v2), (3, .int v3)]) hx hb d_Manners_stepsFrom_18 hl (by decide) rfl (fun ls hl => ?_)
        refine lv_iload hx hb d_Manners_stepsFrom_20 (lv_at hl 0 rfl) ?_
        refine lv_if_gt (tgt := 37) hx hb d_Manners_stepsFrom_22 (by decide) (fun c22 => ?_) (fun c22 => ?_)
        · have h1 := it h1 c22
          refine lv_aload_n hx hb d_Manners_stepsFrom_37 rfl (lv_at hl 1 rfl) ?_
          refine st_get hx hb hg hown hK hH (f := 13) (i := 0) hd_13 rfl rfl u_Manners 0 (by decide) (hg _ wd_167) (v := .ref (ad 3 0)) rfl d_Manners_stepsFrom_38 ?_
          obtain ⟨qc, hc41, h1⟩ := b2_some h1
          obtain ⟨σ3, x4⟩ := qc
          have h1 := b2_at h1
          refine st_Vi (As := []) (rest := []) ⟨hx, hb, hml, hown, hg⟩ (c_Stream_removeFirst l D aC A ad n _  _ hc41) (cwG hg wd_140 wd_241 wd_142 wd_143 wd_119 yd_Stream_removeFirst ⟨Nat.le_of_ble_eq_true rfl, Nat.le_of_ble_eq_true rfl⟩) hK hH hS hZ hd_3 rfl rfl rfl hl.1 rfl (Nat.le_of_ble_eq_true rfl) d_Manners_stepsFrom_41 ⟨Nat.zero_le _, Nat.zero_le _⟩ (fun H locs hH hS => ?_)
          refine lv_istore (lv' := [(5, .int x4), (4, .int x2), (0, .ref (ad 13 0)), (2, .int v2), (3, .int v3)]) hx hb d_Manners_stepsFrom_44 hl (by decide) rfl (fun ls hl => ?_)
          refine lv_iload hx hb d_Manners_stepsFrom_46 (lv_at hl 0 rfl) ?_
          refine lv_if_ge (tgt := 54) hx hb d_Manners_stepsFrom_48 (by decide) (fun c48 => ?_) (fun c48 => ?_)
          · have h1 := it h1 c48
            refine lv_iload_n hx hb d_Manners_stepsFrom_54 rfl (lv_at hl 3 rfl) ?_
            refine lv_iload hx hb d_Manners_stepsFrom_55 (lv_at hl 0 rfl) ?_
            refine lv_if_ne (tgt := 64) hx hb d_Manners_stepsFrom_57 (by decide) (fun c57 => ?_) (fun c57 => ?_)
            · have h1 := ie h1 c57
              refine lv_iconst (v := (-1)) hx hb d_Manners_stepsFrom_64 (by decide) ?_
              refine lv_iadd hx hb d_Manners_stepsFrom_65 ?_
              refine lv_topi (fun x5 ex5 => ?_)
              have h1 := nm_at ex5 h1
              refine lv_istore_n (lv' := [(2, .int x5), (5, .int x4), (4, .int x2), (0, .ref (ad 13 0)), (3, .int v3)]) hx hb d_Manners_stepsFrom_66 rfl hl (by decide) rfl (fun ls hl => ?_)
              refine lv_iload_n hx hb d_Manners_stepsFrom_67 rfl (lv_at hl 0 rfl) ?_
              refine lv_iconst (v := 0) hx hb d_Manners_stepsFrom_68 (by decide) ?_
              refine lv_bipush (v := 15) hx hb d_Manners_stepsFrom_69 (by decide) ?_
              obtain ⟨qc, hc71, h1⟩ := b2_some h1
              obtain ⟨σ6, x7⟩ := qc
              have h1 := b2_at h1
              refine st_SNi (As := [.int x5, .int 0, .int 15]) (rest := []) ⟨hx, hb, hml, hown, hg⟩ (c_PC_isOutside l D aC A ad n _ x5 0 15 _ hc71) (cwGSN hg wd_2 (hK.2 _ (List.mem_of_getElem? (i := 7) rfl)) wd_5 wd_4 yd_PC_isOutside ⟨Nat.le_of_ble_eq_true rfl, Nat.le_of_ble_eq_true rfl⟩) hK hH hS hZ rfl hl.1 rfl (Nat.le_of_ble_eq_true rfl) d_Manners_stepsFrom_71 ⟨Nat.zero_le _, Nat.zero_le _⟩ (fun H locs hH hS => ?_)
              refine lv_if_eq (tgt := 80) hx hb d_Manners_stepsFrom_74 (by decide) (fun c74 => ?_) (fun c74 => ?_)
              · have h1 := it h1 c74
                obtain ⟨x8, ex8⟩ : ∃ y : Int32, y = v3 + 1 := ⟨_, rfl⟩
                have h1 := nm_at ex8 h1
                refine lv_iinc (v := x8) (lv' := [(3, .int x8), (2, .int x5), (5, .int x4), (4, .int x2), (0, .ref (ad 13 0))]) hx hb d_Manners_stepsFrom_80 hl (k := 4) rfl (by rw [ex8]; rfl) (by decide) rfl (fun ls hl => ?_)
                refine lv_goto (tgt := 4) hx hb d_Manners_stepsFrom_83 (by decide) ?_
                cases h1
                exact ih1 σ6 x5 x8 _ _ ls hH hS (lv_sub hl [4, 1, 0] rfl) hk1
              · have h1 := ie h1 c74
                refine lv_bipush (v := (-105)) hx hb d_Manners_stepsFrom_77 (by decide) ?_
                cases h1
                have hk1 := Option.some.inj hk1
                subst hk1
                have h := bs3_r h
                cases h
                rw [← hQ0]
                exact W.iret hx hb hr (fun t ht hW => ⟨⟨_, (), rfl, rfl, by dsimp only; rw [ht]; exact hH⟩, hS.F ht⟩) hS.2.2 d_Manners_stepsFrom_79
            · have h1 := it h1 c57
              refine lv_iconst (v := 1) hx hb d_Manners_stepsFrom_60 (by decide) ?_
              refine lv_goto (tgt := 65) hx hb d_Manners_stepsFrom_61 (by decide) ?_
              refine lv_iadd hx hb d_Manners_stepsFrom_65 ?_
              refine lv_topi (fun x9 ex9 => ?_)
              have h1 := nm_at ex9 h1
              refine lv_istore_n (lv' := [(2, .int x9), (5, .int x4), (4, .int x2), (0, .ref (ad 13 0)), (3, .int v3)]) hx hb d_Manners_stepsFrom_66 rfl hl (by decide) rfl (fun ls hl => ?_)
              refine lv_iload_n hx hb d_Manners_stepsFrom_67 rfl (lv_at hl 0 rfl) ?_
              refine lv_iconst (v := 0) hx hb d_Manners_stepsFrom_68 (by decide) ?_
              refine lv_bipush (v := 15) hx hb d_Manners_stepsFrom_69 (by decide) ?_
              obtain ⟨qc, hc71, h1⟩ := b2_some h1
              obtain ⟨σ10, x11⟩ := qc
              have h1 := b2_at h1
              refine st_SNi (As := [.int x9, .int 0, .int 15]) (rest := []) ⟨hx, hb, hml, hown, hg⟩ (c_PC_isOutside l D aC A ad n _ x9 0 15 _ hc71) (cwGSN hg wd_2 (hK.2 _ (List.mem_of_getElem? (i := 7) rfl)) wd_5 wd_4 yd_PC_isOutside ⟨Nat.le_of_ble_eq_true rfl, Nat.le_of_ble_eq_true rfl⟩) hK hH hS hZ rfl hl.1 rfl (Nat.le_of_ble_eq_true rfl) d_Manners_stepsFrom_71 ⟨Nat.zero_le _, Nat.zero_le _⟩ (fun H locs hH hS => ?_)
              refine lv_if_eq (tgt := 80) hx hb d_Manners_stepsFrom_74 (by decide) (fun c74 => ?_) (fun c74 => ?_)
              · have h1 := it h1 c74
                obtain ⟨x12, ex12⟩ : ∃ y : Int32, y = v3 + 1 := ⟨_, rfl⟩
                have h1 := nm_at ex12 h1
                refine lv_iinc (v := x12) (lv' := [(3, .int x12), (2, .int x9), (5, .int x4), (4, .int x2), (0, .ref (ad 13 0))]) hx hb d_Manners_stepsFrom_80 hl (k := 4) rfl (by rw [ex12]; rfl) (by decide) rfl (fun ls hl => ?_)
                refine lv_goto (tgt := 4) hx hb d_Manners_stepsFrom_83 (by decide) ?_
                cases h1
                exact ih1 σ10 x9 x12 _ _ ls hH hS (lv_sub hl [4, 1, 0] rfl) hk1
              · have h1 := ie h1 c74
                refine lv_bipush (v := (-105)) hx hb d_Manners_stepsFrom_77 (by decide) ?_
                cases h1
                have hk1 := Option.some.inj hk1
                subst hk1
                have h := bs3_r h
                cases h
                rw [← hQ0]
                exact W.iret hx hb hr (fun t ht hW => ⟨⟨_, (), rfl, rfl, by dsimp only; rw [ht]; exact hH⟩, hS.F ht⟩) hS.2.2 d_Manners_stepsFrom_79
          · have h1 := ie h1 c48
            refine lv_iload hx hb d_Manners_stepsFrom_51 (lv_at hl 0 rfl) ?_
            cases h1
            have hk1 := Option.some.inj hk1
            subst hk1
            have h := bs3_r h
            cases h
            rw [← hQ0]
            exact W.iret hx hb hr (fun t ht hW => ⟨⟨_, (), rfl, rfl, by dsimp only; rw [ht]; exact hH⟩, hS.F ht⟩) hS.2.2 d_Manners_stepsFrom_53
        · have h1 := ie h1 c22
          refine lv_iload hx hb d_Manners_stepsFrom_25 (lv_at hl 0 rfl) ?_
          refine lv_if_ge (tgt := 35) hx hb d_Manners_stepsFrom_27 (by decide) (fun c27 => ?_) (fun c27 => ?_)
          · have h1 := it h1 c27
            refine lv_iload_n hx hb d_Manners_stepsFrom_35 rfl (lv_at hl 2 rfl) ?_
            cases h1
            have hk1 := Option.some.inj hk1
            subst hk1
            have h := bs3_r h
            cases h
            rw [← hQ0]
            exact W.iret hx hb hr (fun t ht hW => ⟨⟨_, (), rfl, rfl, by dsimp only; rw [ht]; exact hH⟩, hS.F ht⟩) hS.2.2 d_Manners_stepsFrom_36
          · have h1 := ie h1 c27
            refine lv_iload hx hb d_Manners_stepsFrom_30 (lv_at hl 0 rfl) ?_
            refine lv_goto (tgt := 36) hx hb d_Manners_stepsFrom_32 (by decide) ?_
            cases h1
            have hk1 := Option.some.inj hk1
            subst hk1
            have h := bs3_r h
            cases h
            rw [← hQ0]
            exact W.iret hx hb hr (fun t ht hW => ⟨⟨_, (), rfl, rfl, by dsimp only; rw [ht]; exact hH⟩, hS.F ht⟩) hS.2.2 d_Manners_stepsFrom_36
  obtain ⟨k1, hq1⟩ := lpE_some hq1
  exact loop1 k1 σ a1 0 _ _ ls hH hS (lv_sub hl [2, 1, 0] rfl) hq1
set_option maxHeartbeats 4000000 in
set_option maxRecDepth 100000 in
theorem c_Manners_removeSteps (l : Launch) (D : va_G) (aC : Nat → ClassId) (A : Nat → Prop) (ad : Nat → Nat → Nat) (n : Nat) (σ : St) (a1 : Int32) (o : St × Int32) (h : f_Manners_removeSteps σ a1 = some o) : Met l y_Manners_removeSteps w_Manners_removeSteps rm_Manners_removeSteps (va_Pc [.ref (ad 13 0), .int a1] (Pre D aC A ad n σ)) (va_Qi (fun r (_ : Unit) => r = o.2) (fun _ t => Hold D aC A ad n o.1 t.heap) A) 0 0 A := by
  refine Met.ofW (cc := prog_5_method_7_code) (maxL := 4) (ret := (some .int)) (by decide) rfl ?_
  intro p e s m args below meth c s₁ B hml hv
  obtain ⟨hargs, hH, hK, hZ⟩ := hv
  have hx := B.exec
  have hb := B.bytes
  have hr := B.returns
  have hts := atoms_spec (ws := w_Manners_removeSteps) B.pre
  have hg : ∀ w ∈ gW, w.before args s = true := fun w h => hts w (List.mem_cons_of_mem _ h)
  have hown : s.vm.findClass "PrefixCodes$Manners" = some m.cls := findClass_of_methodNamed B.named
  have hlocks := B.notSynchronized
  have hS : va_S A s.heap s.heap [] := va_S.rf
  have hl := lv_entry ([.ref (ad 13 0), .int a1]) (n := 4) (Nat.le_of_ble_eq_true rfl)
  rw [show entryFrame m args 4 = entryFrame m (([.ref (ad 13 0), .int a1] : List Value).toArray) 4 by rw [hargs], lg_entry_eq]
  generalize (lg_sl ([.ref (ad 13 0), .int a1]) ++ List.replicate (4 - (lg_sl ([.ref (ad 13 0), .int a1])).length) Slot.unset).toArray = ls at hl ⊢
  have hl : lv_has ls 4 [(0, .ref (ad 13 0)), (1, .int a1)] := hl
  generalize hQ0 : MQ below (va_Qi (fun r (_ : Unit) => r = o.2) (fun _ t => Hold D aC A ad n o.1 t.heap) A) args s 0 0 A = Q0
  unfold f_Manners_removeSteps at h
  refine lv_aload_n hx hb d_Manners_removeSteps_0 rfl (lv_at hl 0 rfl) ?_
  refine st_get hx hb hg hown hK hH (f := 13) (i := 0) hd_13 rfl rfl u_Manners 0 (by decide) (hg _ wd_167) (v := .ref (ad 3 0)) rfl d_Manners_removeSteps_1 ?_
  refine lv_iconst (v := 4) hx hb d_Manners_removeSteps_4 (by decide) ?_
  obtain ⟨qc, hc5, h⟩ := b2_some h
  obtain ⟨σ1, x2⟩ := qc
  have h := b2_at h
  refine st_Vi (As := [.int 4]) (rest := []) ⟨hx, hb, hml, hown, hg⟩ (c_Stream_removeNumber l D aC A ad n _ 4 _ hc5) (cwG hg wd_144 wd_240 wd_146 wd_147 wd_119 yd_Stream_removeNumber ⟨Nat.le_of_ble_eq_true rfl, Nat.le_of_ble_eq_true rfl⟩) hK hH hS hZ hd_3 rfl rfl rfl hl.1 rfl (Nat.le_of_ble_eq_true rfl) d_Manners_removeSteps_5 ⟨Nat.zero_le _, Nat.zero_le _⟩ (fun H locs hH hS => ?_)
  refine lv_istore_n (lv' := [(2, .int x2), (0, .ref (ad 13 0)), (1, .int a1)]) hx hb d_Manners_removeSteps_8 rfl hl (by decide) rfl (fun ls hl => ?_)
  refine lv_iload_n hx hb d_Manners_removeSteps_9 rfl (lv_at hl 0 rfl) ?_
  refine lv_if_ge (tgt := 15) hx hb d_Manners_removeSteps_10 (by decide) (fun c10 => ?_) (fun c10 => ?_)
  · have h := it h c10
    refine lv_iconst (v := 0) hx hb d_Manners_removeSteps_15 (by decide) ?_
    refine lv_istore_n (lv' := [(3, .int 0), (2, .int x2), (0, .ref (ad 13 0)), (1, .int a1)]) hx hb d_Manners_removeSteps_16 rfl hl (by decide) rfl (fun ls hl => ?_)
    obtain ⟨q1, hq1, h⟩ := bs3_some h
    have K1 : ∀ (σ7 : St) (x8 : Int32) (x9 : Int32) (H : Heap) (locs : List Loc) (ls : Array Slot), q1 = .inl (σ7, x8, x9) → Hold D aC A ad n σ7 H → va_S A s.heap H locs → lv_has ls 4 [(0, .ref (ad 13 0)), (1, .int a1), (2, .int x8), (3, .int x9)] → W p l e (headSpec w_Manners_removeSteps rm_Manners_removeSteps).room s m args below meth c H locs 0 0 Q0 (F0 m 47 ls []) := by
      intro σ7 x8 x9 H locs ls eq1 hH hS hl
      subst eq1
      have h := bs3_at h
      refine lv_iload_n hx hb d_Manners_removeSteps_47 rfl (lv_at hl 1 rfl) ?_
      cases h
      rw [← hQ0]
      exact W.iret hx hb hr (fun t ht hW => ⟨⟨_, (), rfl, rfl, by dsimp only; rw [ht]; exact hH⟩, hS.F ht⟩) hS.2.2 d_Manners_removeSteps_48
    have loop1 : ∀ (k : Nat) (σ : St) (v2 : Int32) (v3 : Int32) (H : Heap) (locs : List Loc) (ls : Array Slot), Hold D aC A ad n σ H → va_S A s.heap H locs → lv_has ls 4 [(0, .ref (ad 13 0)), (1, .int a1), (2, .int v2), (3, .int v3)] → lp (fun q => lb_Manners_removeSteps_17 a1 q.1 q.2.1 q.2.2) k (σ, v2, v3) = some q1 → W p l e (headSpec w_Manners_removeSteps rm_Manners_removeSteps).room s m args below meth c H locs 0 0 Q0 (F0 m 17 ls []) := by
      intro k
      induction k with
      | zero => intro σ v2 v3 H locs ls hH hS hl hlp; exact absurd hlp (lp_zero _ _ _)
      | succ k ih1 =>
        intro σ v2 v3 H locs ls hH hS hl hlp
        obtain ⟨z1, h1, hk1⟩ := lp_succ hlp
        have h1 : lb_Manners_removeSteps_17 a1 σ v2 v3 = some z1 := h1
        unfold lb_Manners_removeSteps_17 at h1
        refine lv_iload_n hx hb d_Manners_removeSteps_17 rfl (lv_at hl 3 rfl) ?_
        refine lv_iload_n hx hb d_Manners_removeSteps_18 rfl (lv_at hl 1 rfl) ?_
        refine lv_icmp_ge (tgt := 47) hx hb d_Manners_removeSteps_19 (by decide) (fun c19 => ?_) (fun c19 => ?_)
        · have h1 := it h1 c19
          cases h1
          exact K1 σ v2 v3 _ _ ls (Option.some.inj hk1).symm hH hS (lv_sub hl [0, 1, 2, 3] rfl)
        · have h1 := ie h1 c19
          refine lv_aload_n hx hb d_Manners_removeSteps_22 rfl (lv_at hl 0 rfl) ?_
          refine lv_iload_n hx hb d_Manners_removeSteps_23 rfl (lv_at hl 2 rfl) ?_
          obtain ⟨qc, hc24, h1⟩ := b2_some h1
          obtain ⟨σ3, x4⟩ := qc
          have h1 := b2_at h1
          refine st_Vi (As := [.int v2]) (rest := []) ⟨hx, hb, hml, hown, hg⟩ (c_Manners_stepsFrom l D aC A ad n _ v2 _ hc24) (cwG hg wd_242 wd_243 wd_244 wd_245 wd_215 yd_Manners_stepsFrom ⟨Nat.le_of_ble_eq_true rfl, Nat.le_of_ble_eq_true rfl⟩) hK hH hS hZ hd_13 rfl rfl rfl hl.1 rfl (Nat.le_of_ble_eq_true rfl) d_Manners_removeSteps_24 ⟨Nat.zero_le _, Nat.zero_le _⟩ (fun H locs hH hS => ?_)
          refine lv_istore_n (lv' := [(2, .int x4), (0, .ref (ad 13 0)), (1, .int a1), (3, .int v3)]) hx hb d_Manners_removeSteps_27 rfl hl (by decide) rfl (fun ls hl => ?_)
          refine lv_iload_n hx hb d_Manners_removeSteps_28 rfl (lv_at hl 0 rfl) ?_
          refine lv_if_ge (tgt := 34) hx hb d_Manners_removeSteps_29 (by decide) (fun c29 => ?_) (fun c29 => ?_)
          · have h1 := it h1 c29
            refine lv_aload_n hx hb d_Manners_removeSteps_34 rfl (lv_at hl 1 rfl) ?_
            refine st_get hx hb hg hown hK hH (f := 13) (i := 0) hd_13 rfl rfl u_Manners 2 (by decide) (hg _ wd_239) (v := .ref (ad 14 0)) rfl d_Manners_removeSteps_35 ?_
            refine lv_iload_n hx hb d_Manners_removeSteps_38 rfl (lv_at hl 3 rfl) ?_
            refine lv_iload_n hx hb d_Manners_removeSteps_39 rfl (lv_at hl 0 rfl) ?_
            obtain ⟨g40, h1⟩ := gd_some h1
            refine st_iast hx hb hK hH hS (f := 14) (i := 0) hd_14 rfl g40 d_Manners_removeSteps_40 (fun σ5 H locs eσ5 hH hS => ?_)
            have h1 := nm_at eσ5 h1
            obtain ⟨x6, ex6⟩ : ∃ y : Int32, y = v3 + 1 := ⟨_, rfl⟩
            have h1 := nm_at ex6 h1
            refine lv_iinc (v := x6) (lv' := [(3, .int x6), (2, .int x4), (0, .ref (ad 13 0)), (1, .int a1)]) hx hb d_Manners_removeSteps_41 hl (k := 3) rfl (by rw [ex6]; rfl) (by decide) rfl (fun ls hl => ?_)
            refine lv_goto (tgt := 17) hx hb d_Manners_removeSteps_44 (by decide) ?_
            cases h1
            exact ih1 σ5 x4 x6 _ _ ls hH hS (lv_sub hl [2, 3, 1, 0] rfl) hk1
          · have h1 := ie h1 c29
            refine lv_iload_n hx hb d_Manners_removeSteps_32 rfl (lv_at hl 0 rfl) ?_
            cases h1
            have hk1 := Option.some.inj hk1
            subst hk1
            have h := bs3_r h
            cases h
            rw [← hQ0]
            exact W.iret hx hb hr (fun t ht hW => ⟨⟨_, (), rfl, rfl, by dsimp only; rw [ht]; exact hH⟩, hS.F ht⟩) hS.2.2 d_Manners_removeSteps_33
    obtain ⟨k1, hq1⟩ := lpE_some hq1
    exact loop1 k1 σ1 x2 0 _ _ ls hH hS (lv_sub hl [2, 3, 1, 0] rfl) hq1
  · have h := ie h c10
    refine lv_iload_n hx hb d_Manners_removeSteps_13 rfl (lv_at hl 0 rfl) ?_
    cases h
    rw [← hQ0]
    exact W.iret hx hb hr (fun t ht hW => ⟨⟨_, (), rfl, rfl, by dsimp only; rw [ht]; exact hH⟩, hS.F ht⟩) hS.2.2 d_Manners_removeSteps_14
set_option maxHeartbeats 4000000 in
set_option maxRecDepth 100000 in
theorem c_Commands_removeCode (l : Launch) (D : va_G) (aC : Nat → ClassId) (A : Nat → Prop) (ad : Nat → Nat → Nat) (n : Nat) (σ : St) (o : St × Int32) (h : f_Commands_removeCode σ  = some o) : Met l y_Commands_removeCode w_Commands_removeCode rm_Commands_removeCode (va_Pc [.ref (ad 15 0)] (Pre D aC A ad n σ)) (va_Qi (fun r (_ : Unit) => r = o.2) (fun _ t => Hold D aC A ad n o.1 t.heap) A) 0 0 A := by
  refine Met.ofW (cc := prog_4_method_8_code) (maxL := 4) (ret := (some .int)) (by decide) rfl ?_
  intro p e s m args below meth c s₁ B hml hv
  obtain ⟨hargs, hH, hK, hZ⟩ := hv
  have hx := B.exec
  have hb := B.bytes
  have hr := B.returns
  have hts := atoms_spec (ws := w_Commands_removeCode) B.pre
  have hg : ∀ w ∈ gW, w.before args s = true := fun w h => hts w (List.mem_cons_of_mem _ h)
  have hown : s.vm.findClass "PrefixCodes$Commands" = some m.cls := findClass_of_methodNamed B.named
  have hlocks := B.notSynchronized
  have hS : va_S A s.heap s.heap [] := va_S.rf
  have hl := lv_entry ([.ref (ad 15 0)]) (n := 4) (Nat.le_of_ble_eq_true rfl)
  rw [show entryFrame m args 4 = entryFrame m (([.ref (ad 15 0)] : List Value).toArray) 4 by rw [hargs], lg_entry_eq]
  generalize (lg_sl ([.ref (ad 15 0)]) ++ List.replicate (4 - (lg_sl ([.ref (ad 15 0)])).length) Slot.unset).toArray = ls at hl ⊢
  have hl : lv_has ls 4 [(0, .ref (ad 15 0))] := hl
  generalize hQ0 : MQ below (va_Qi (fun r (_ : Unit) => r = o.2) (fun _ t => Hold D aC A ad n o.1 t.heap) A) args s 0 0 A = Q0
  unfold f_Commands_removeCode at h
  refine lv_aload_n hx hb d_Commands_removeCode_0 rfl (lv_at hl 0 rfl) ?_
  refine st_get hx hb hg hown hK hH (f := 15) (i := 0) hd_15 rfl rfl u_Commands 0 (by decide) (hg _ wd_195) (v := .ref (ad 3 0)) rfl d_Commands_removeCode_1 ?_
  refine lv_iconst (v := 4) hx hb d_Commands_removeCode_4 (by decide) ?_
  obtain ⟨qc, hc5, h⟩ := b2_some h
  obtain ⟨σ1, x2⟩ := qc
  have h := b2_at h
  refine st_Vi (As := [.int 4]) (rest := []) ⟨hx, hb, hml, hown, hg⟩ (c_Stream_removeNumber l D aC A ad n _ 4 _ hc5) (cwG hg wd_144 wd_247 wd_146 wd_147 wd_119 yd_Stream_removeNumber ⟨Nat.le_of_ble_eq_true rfl, Nat.le_of_ble_eq_true rfl⟩) hK hH hS hZ hd_3 rfl rfl rfl hl.1 rfl (Nat.le_of_ble_eq_true rfl) d_Commands_removeCode_5 ⟨Nat.zero_le _, Nat.zero_le _⟩ (fun H locs hH hS => ?_)
  refine lv_istore_n (lv' := [(1, .int x2), (0, .ref (ad 15 0))]) hx hb d_Commands_removeCode_8 rfl hl (by decide) rfl (fun ls hl => ?_)
  refine lv_iload_n hx hb d_Commands_removeCode_9 rfl (lv_at hl 0 rfl) ?_
  refine lv_if_ge (tgt := 15) hx hb d_Commands_removeCode_10 (by decide) (fun c10 => ?_) (fun c10 => ?_)
  · have h := it h c10
    refine lv_aload_n hx hb d_Commands_removeCode_15 rfl (lv_at hl 1 rfl) ?_
    refine st_get hx hb hg hown hK hH (f := 15) (i := 0) hd_15 rfl rfl u_Commands 2 (by decide) (hg _ wd_192) (v := .ref (ad 41 12)) rfl d_Commands_removeCode_16 ?_
    refine st_get hx hb hg hown hK hH (f := 41) (i := 12) hd_41_12 rfl rfl u_Code 1 (by decide) (hg _ wd_193) (v := .ref (ad 42 12)) rfl d_Commands_removeCode_19 ?_
    refine lv_iconst (v := 0) hx hb d_Commands_removeCode_22 (by decide) ?_
    obtain ⟨qc, hc23, h⟩ := b1_some h
    obtain ⟨σ3, rfl⟩ : ∃ z, z = qc := ⟨_, rfl⟩
    have h := b1_at h
    refine st_Sv (As := [.ref (ad 42 12), .int 0]) (rest := []) ⟨hx, hb, hml, hown, hg⟩ (c_Arrays_fill l D aC A ad n _ 42 12 64 0 rfl hd_42_12 _ hc23) (cwGS hg wd_14 wd_188 wd_17 wd_16 yd_Arrays_fill ⟨Nat.le_of_ble_eq_true rfl, Nat.le_of_ble_eq_true rfl⟩) hK hH hS hZ rfl hl.1 rfl (Nat.le_of_ble_eq_true rfl) d_Commands_removeCode_23 ⟨Nat.zero_le _, Nat.zero_le _⟩ (fun H locs hH hS => ?_)
    refine lv_iconst (v := 0) hx hb d_Commands_removeCode_26 (by decide) ?_
    refine lv_istore_n (lv' := [(2, .int 0), (1, .int x2), (0, .ref (ad 15 0))]) hx hb d_Commands_removeCode_27 rfl hl (by decide) rfl (fun ls hl => ?_)
    obtain ⟨q1, hq1, h⟩ := bs2_some h
    have K1 : ∀ (σ8 : St) (x9 : Int32) (H : Heap) (locs : List Loc) (ls : Array Slot), q1 = .inl (σ8, x9) → Hold D aC A ad n σ8 H → va_S A s.heap H locs → lv_has ls 4 [(0, .ref (ad 15 0)), (1, .int x2), (2, .int x9)] → W p l e (headSpec w_Commands_removeCode rm_Commands_removeCode).room s m args below meth c H locs 0 0 Q0 (F0 m 76 ls []) := by
      intro σ8 x9 H locs ls eq1 hH hS hl
      subst eq1
      have h := bs2_at h
      refine lv_aload_n hx hb d_Commands_removeCode_76 rfl (lv_at hl 0 rfl) ?_
      refine st_get hx hb hg hown hK hH (f := 15) (i := 0) hd_15 rfl rfl u_Commands 2 (by decide) (hg _ wd_192) (v := .ref (ad 41 12)) rfl d_Commands_removeCode_77 ?_
      obtain ⟨qc, hc80, h⟩ := b1_some h
      obtain ⟨σ10, rfl⟩ : ∃ z, z = qc := ⟨_, rfl⟩
      have h := b1_at h
      refine st_Vv (As := []) (rest := []) ⟨hx, hb, hml, hown, hg⟩ (c_Code_renumber l D aC A ad n _ 12 hd_41_12 _ hc80) (cwG hg wd_49 wd_248 wd_51 wd_52 wd_29 yd_Code_renumber ⟨Nat.le_of_ble_eq_true rfl, Nat.le_of_ble_eq_true rfl⟩) hK hH hS hZ hd_41_12 rfl rfl rfl hl.1 rfl (Nat.le_of_ble_eq_true rfl) d_Commands_removeCode_80 ⟨Nat.zero_le _, Nat.zero_le _⟩ (fun H locs hH hS => ?_)
      refine lv_aload_n hx hb d_Commands_removeCode_83 rfl (lv_at hl 0 rfl) ?_
      refine st_get hx hb hg hown hK hH (f := 15) (i := 0) hd_15 rfl rfl u_Commands 2 (by decide) (hg _ wd_192) (v := .ref (ad 41 12)) rfl d_Commands_removeCode_84 ?_
      refine st_get hx hb hg hown hK hH (f := 41) (i := 12) hd_41_12 rfl rfl u_Code 10 (by decide) (hg _ wd_246) (v := .int (σ10.1 41 12 10)) rfl d_Commands_removeCode_87 ?_
      refine lv_iconst (v := 2) hx hb d_Commands_removeCode_90 (by decide) ?_
      refine lv_icmp_eq (tgt := 105) hx hb d_Commands_removeCode_91 (by decide) (fun c91 => ?_) (fun c91 => ?_)
      · have h := it h c91
        refine lv_bipush (v := 19) hx hb d_Commands_removeCode_105 (by decide) ?_
        refine lv_goto (tgt := 112) hx hb d_Commands_removeCode_107 (by decide) ?_
        cases h
        rw [← hQ0]
        exact W.iret hx hb hr (fun t ht hW => ⟨⟨_, (), rfl, rfl, by dsimp only; rw [ht]; exact hH⟩, hS.F ht⟩) hS.2.2 d_Commands_removeCode_112
      · have h := ie h c91
        refine lv_aload_n hx hb d_Commands_removeCode_94 rfl (lv_at hl 0 rfl) ?_
        refine st_get hx hb hg hown hK hH (f := 15) (i := 0) hd_15 rfl rfl u_Commands 2 (by decide) (hg _ wd_192) (v := .ref (ad 41 12)) rfl d_Commands_removeCode_95 ?_
        refine st_get hx hb hg hown hK hH (f := 41) (i := 12) hd_41_12 rfl rfl u_Code 10 (by decide) (hg _ wd_246) (v := .int (σ10.1 41 12 10)) rfl d_Commands_removeCode_98 ?_
        refine lv_iconst (v := 1) hx hb d_Commands_removeCode_101 (by decide) ?_
        refine lv_icmp_ne (tgt := 110) hx hb d_Commands_removeCode_102 (by decide) (fun c102 => ?_) (fun c102 => ?_)
        · have h := ie h c102
          refine lv_bipush (v := (-105)) hx hb d_Commands_removeCode_110 (by decide) ?_
          cases h
          rw [← hQ0]
          exact W.iret hx hb hr (fun t ht hW => ⟨⟨_, (), rfl, rfl, by dsimp only; rw [ht]; exact hH⟩, hS.F ht⟩) hS.2.2 d_Commands_removeCode_112
        · have h := it h c102
          refine lv_bipush (v := 19) hx hb d_Commands_removeCode_105 (by decide) ?_
          refine lv_goto (tgt := 112) hx hb d_Commands_removeCode_107 (by decide) ?_
          cases h
          rw [← hQ0]
          exact W.iret hx hb hr (fun t ht hW => ⟨⟨_, (), rfl, rfl, by dsimp only; rw [ht]; exact hH⟩, hS.F ht⟩) hS.2.2 d_Commands_removeCode_112
    have loop1 : ∀ (k : Nat) (σ : St) (v2 : Int32) (H : Heap) (locs : List Loc) (ls : Array Slot), Hold D aC A ad n σ H → va_S A s.heap H locs → lv_has ls 4 [(0, .ref (ad 15 0)), (1, .int x2), (2, .int v2)] → lp (fun q => lb_Commands_removeCode_28 x2 q.1 q.2) k (σ, v2) = some q1 → W p l e (headSpec w_Commands_removeCode rm_Commands_removeCode).room s m args below meth c H locs 0 0 Q0 (F0 m 28 ls []) := by
      intro k
      induction k with
      | zero => intro σ v2 H locs ls hH hS hl hlp; exact absurd hlp (lp_zero _ _ _)
      | succ k ih1 =>
        intro σ v2 H locs ls hH hS hl hlp
        obtain ⟨z1, h1, hk1⟩ := lp_succ hlp
        have h1 : lb_Commands_removeCode_28 x2 σ v2 = some z1 := h1
        unfold lb_Commands_removeCode_28 at h1
        refine lv_iload_n hx hb d_Commands_removeCode_28 rfl (lv_at hl 2 rfl) ?_
        refine lv_iload_n hx hb d_Commands_removeCode_29 rfl (lv_at hl 1 rfl) ?_
        refine lv_iconst (v := 4) hx hb d_Commands_removeCode_30 (by decide) ?_
        refine lv_iadd hx hb d_Commands_removeCode_31 ?_
        refine lv_icmp_ge (tgt := 76) hx hb d_Commands_removeCode_32 (by decide) (fun c32 => ?_) (fun c32 => ?_)
        · have h1 := it h1 c32
          cases h1
          exact K1 σ v2 _ _ ls (Option.some.inj hk1).symm hH hS (lv_sub hl [0, 1, 2] rfl)
        · have h1 := ie h1 c32
          refine lv_iload_n hx hb d_Commands_removeCode_35 rfl (lv_at hl 2 rfl) ?_
          refine lv_bipush (v := 19) hx hb d_Commands_removeCode_36 (by decide) ?_
          refine lv_icmp_ge (tgt := 76) hx hb d_Commands_removeCode_38 (by decide) (fun c38 => ?_) (fun c38 => ?_)
          · have h1 := it h1 c38
            cases h1
            exact K1 σ v2 _ _ ls (Option.some.inj hk1).symm hH hS (lv_sub hl [0, 1, 2] rfl)
          · have h1 := ie h1 c38
            refine lv_aload_n hx hb d_Commands_removeCode_41 rfl (lv_at hl 0 rfl) ?_
            refine st_get hx hb hg hown hK hH (f := 15) (i := 0) hd_15 rfl rfl u_Commands 0 (by decide) (hg _ wd_195) (v := .ref (ad 3 0)) rfl d_Commands_removeCode_42 ?_
            refine lv_iconst (v := 3) hx hb d_Commands_removeCode_45 (by decide) ?_
            obtain ⟨qc, hc46, h1⟩ := b2_some h1
            obtain ⟨σ4, x5⟩ := qc
            have h1 := b2_at h1
            refine st_Vi (As := [.int 3]) (rest := []) ⟨hx, hb, hml, hown, hg⟩ (c_Stream_removeNumber l D aC A ad n _ 3 _ hc46) (cwG hg wd_144 wd_247 wd_146 wd_147 wd_119 yd_Stream_removeNumber ⟨Nat.le_of_ble_eq_true rfl, Nat.le_of_ble_eq_true rfl⟩) hK hH hS hZ hd_3 rfl rfl rfl hl.1 rfl (Nat.le_of_ble_eq_true rfl) d_Commands_removeCode_46 ⟨Nat.zero_le _, Nat.zero_le _⟩ (fun H locs hH hS => ?_)
            refine lv_istore_n (lv' := [(3, .int x5), (0, .ref (ad 15 0)), (1, .int x2), (2, .int v2)]) hx hb d_Commands_removeCode_49 rfl hl (by decide) rfl (fun ls hl => ?_)
            refine lv_iload_n hx hb d_Commands_removeCode_50 rfl (lv_at hl 0 rfl) ?_
            refine lv_if_ge (tgt := 56) hx hb d_Commands_removeCode_51 (by decide) (fun c51 => ?_) (fun c51 => ?_)
            · have h1 := it h1 c51
              refine lv_aload_n hx hb d_Commands_removeCode_56 rfl (lv_at hl 1 rfl) ?_
              refine st_get hx hb hg hown hK hH (f := 15) (i := 0) hd_15 rfl rfl u_Commands 2 (by decide) (hg _ wd_192) (v := .ref (ad 41 12)) rfl d_Commands_removeCode_57 ?_
              refine st_get hx hb hg hown hK hH (f := 41) (i := 12) hd_41_12 rfl rfl u_Code 1 (by decide) (hg _ wd_193) (v := .ref (ad 42 12)) rfl d_Commands_removeCode_60 ?_
              refine va_gets hx hb hZ.1.1 hS hown (hg _ wd_194) (fun _ h => h) d_Commands_removeCode_63 ?_
              refine lv_iload_n hx hb d_Commands_removeCode_66 rfl (lv_at hl 3 rfl) ?_
              obtain ⟨g67, h1⟩ := gd_some h1
              refine st_tld hx hb hZ.1.2 hS g67 d_Commands_removeCode_67 ?_
              refine lv_iload_n hx hb d_Commands_removeCode_68 rfl (lv_at hl 0 rfl) ?_
              obtain ⟨g69, h1⟩ := gd_some h1
              refine st_iast hx hb hK hH hS (f := 42) (i := 12) hd_42_12 rfl g69 d_Commands_removeCode_69 (fun σ6 H locs eσ6 hH hS => ?_)
              have h1 := nm_at eσ6 h1
              obtain ⟨x7, ex7⟩ : ∃ y : Int32, y = v2 + 1 := ⟨_, rfl⟩
              have h1 := nm_at ex7 h1
              refine lv_iinc (v := x7) (lv' := [(2, .int x7), (3, .int x5), (0, .ref (ad 15 0)), (1, .int x2)]) hx hb d_Commands_removeCode_70 hl (k := 3) rfl (by rw [ex7]; rfl) (by decide) rfl (fun ls hl => ?_)
              refine lv_goto (tgt := 28) hx hb d_Commands_removeCode_73 (by decide) ?_
              cases h1
              exact ih1 σ6 x7 _ _ ls hH hS (lv_sub hl [2, 3, 0] rfl) hk1
            · have h1 := ie h1 c51
              refine lv_iload_n hx hb d_Commands_removeCode_54 rfl (lv_at hl 0 rfl) ?_
              cases h1
              have hk1 := Option.some.inj hk1
              subst hk1
              have h := bs2_r h
              cases h
              rw [← hQ0]
              exact W.iret hx hb hr (fun t ht hW => ⟨⟨_, (), rfl, rfl, by dsimp only; rw [ht]; exact hH⟩, hS.F ht⟩) hS.2.2 d_Commands_removeCode_55
    obtain ⟨k1, hq1⟩ := lpE_some hq1
    exact loop1 k1 σ3 0 _ _ ls hH hS (lv_sub hl [2, 1, 0] rfl) hq1
  · have h := ie h c10
    refine lv_iload_n hx hb d_Commands_removeCode_13 rfl (lv_at hl 0 rfl) ?_
    cases h
    rw [← hQ0]
    exact W.iret hx hb hr (fun t ht hW => ⟨⟨_, (), rfl, rfl, by dsimp only; rw [ht]; exact hH⟩, hS.F ht⟩) hS.2.2 d_Commands_removeCode_14
set_option maxHeartbeats 4000000 in
set_option maxRecDepth 100000 in
theorem c_Commands_removeCommand (l : Launch) (D : va_G) (aC : Nat → ClassId) (A : Nat → Prop) (ad : Nat → Nat → Nat) (n : Nat) (σ : St) (fa1 ia1 na1 : Nat) (a2 : Int32) (a3 : Int32) (hka1 : kd fa1 = .inr (0, na1)) (hda1 : dm n fa1 ia1) (o : St × Int32) (h : f_Commands_removeCommand σ fa1 ia1 na1 a2 a3 = some o) : Met l y_Commands_removeCommand w_Commands_removeCommand rm_Commands_removeCommand (va_Pc [.ref (ad 15 0), .ref (ad fa1 ia1), .int a2, .int a3] (Pre D aC A ad n σ)) (va_Qi (fun r (_ : Unit) => r = o.2) (fun _ t => Hold D aC A ad n o.1 t.heap) A) 0 0 A := by
  refine Met.ofW (cc := prog_4_method_9_code) (maxL := 9) (ret := (some .int)) (by decide) rfl ?_
  intro p e s m args below meth c s₁ B hml hv
  obtain ⟨hargs, hH, hK, hZ⟩ := hv
  have hx := B.exec
  have hb := B.bytes
  have hr := B.returns
  have hts := atoms_spec (ws := w_Commands_removeCommand) B.pre
  have hg : ∀ w ∈ gW, w.before args s = true := fun w h => hts w (List.mem_cons_of_mem _ h)
  have hown : s.vm.findClass "PrefixCodes$Commands" = some m.cls := findClass_of_methodNamed B.named
  have hlocks := B.notSynchronized
  have hS : va_S A s.heap s.heap [] := va_S.rf
  have hl := lv_entry ([.ref (ad 15 0), .ref (ad fa1 ia1), .int a2, .int a3]) (n := 9) (Nat.le_of_ble_eq_true rfl)
  rw [show entryFrame m args 9 = entryFrame m (([.ref (ad 15 0), .ref (ad fa1 ia1), .int a2, .int a3] : List Value).toArray) 9 by rw [hargs], lg_entry_eq]
  generalize (lg_sl ([.ref (ad 15 0), .ref (ad fa1 ia1), .int a2, .int a3]) ++ List.replicate (9 - (lg_sl ([.ref (ad 15 0), .ref (ad fa1 ia1), .int a2, .int a3])).length) Slot.unset).toArray = ls at hl ⊢
  have hl : lv_has ls 9 [(0, .ref (ad 15 0)), (1, .ref (ad fa1 ia1)), (2, .int a2), (3, .int a3)] := hl
  generalize hQ0 : MQ below (va_Qi (fun r (_ : Unit) => r = o.2) (fun _ t => Hold D aC A ad n o.1 t.heap) A) args s 0 0 A = Q0
  unfold f_Commands_removeCommand at h
  have J80 : ∀ (σ : St) (p2 : Int32) (p3 : Int32) (p4 : Int32) (p5 : Int32) (H : Heap) (locs : List Loc) (ls : Array Slot), Hold D aC A ad n σ H → va_S A s.heap H locs → lv_has ls 9 [(0, .ref (ad 15 0)), (1, .ref (ad fa1 ia1)), (2, .int p2), (3, .int p3), (4, .int p4), (5, .int p5)] → jn_Commands_removeCommand_80_3 fa1 ia1 na1 σ p2 p3 p4 p5 = some o → W p l e (headSpec w_Commands_removeCommand rm_Commands_removeCommand).room s m args below meth c H locs 0 0 Q0 (F0 m 80 ls []) := by
    intro σ p2 p3 p4 p5  H locs ls hH hS hl h
    unfold jn_Commands_removeCommand_80_3 at h
    refine lv_aload_n hx hb d_Commands_removeCommand_80 rfl (lv_at hl 0 rfl) ?_
    refine st_get hx hb hg hown hK hH (f := 15) (i := 0) hd_15 rfl rfl u_Commands 0 (by decide) (hg _ wd_195) (v := .ref (ad 3 0)) rfl d_Commands_removeCommand_81 ?_
    refine va_gets hx hb hZ.2.2.2.1 hS hown (hg _ wd_199) (fun _ h => h) d_Commands_removeCommand_84 ?_
    refine lv_iload hx hb d_Commands_removeCommand_87 (lv_at hl 4 rfl) ?_
    refine lv_bipush (v := 16) hx hb d_Commands_removeCommand_89 (by decide) ?_
    refine lv_isub hx hb d_Commands_removeCommand_91 ?_
    obtain ⟨g92, h⟩ := gd_some h
    refine st_tld hx hb hZ.2.2.2.2 hS g92 d_Commands_removeCommand_92 ?_
    obtain ⟨qc, hc93, h⟩ := b2_some h
    obtain ⟨σ3, x4⟩ := qc
    have h := b2_at h
    refine st_Vi (As := [.int (tb_3 (p4 - 16).toNatClampNeg)]) (rest := []) ⟨hx, hb, hml, hown, hg⟩ (c_Stream_removeNumber l D aC A ad n _ (tb_3 (p4 - 16).toNatClampNeg) _ hc93) (cwG hg wd_144 wd_247 wd_146 wd_147 wd_119 yd_Stream_removeNumber ⟨Nat.le_of_ble_eq_true rfl, Nat.le_of_ble_eq_true rfl⟩) hK hH hS hZ hd_3 rfl rfl rfl hl.1 rfl (Nat.le_of_ble_eq_true rfl) d_Commands_removeCommand_93 ⟨Nat.zero_le _, Nat.zero_le _⟩ (fun H locs hH hS => ?_)
    refine lv_istore (lv' := [(6, .int x4), (0, .ref (ad 15 0)), (1, .ref (ad fa1 ia1)), (2, .int p2), (3, .int p3), (4, .int p4), (5, .int p5)]) hx hb d_Commands_removeCommand_96 hl (by decide) rfl (fun ls hl => ?_)
    refine lv_iload hx hb d_Commands_removeCommand_98 (lv_at hl 0 rfl) ?_
    refine lv_if_ge (tgt := 106) hx hb d_Commands_removeCommand_100 (by decide) (fun c100 => ?_) (fun c100 => ?_)
    · have h := it h c100
      refine va_gets hx hb hZ.2.1.1 hS hown (hg _ wd_171) (fun _ h => h) d_Commands_removeCommand_106 ?_
      refine lv_iload hx hb d_Commands_removeCommand_109 (lv_at hl 5 rfl) ?_
      refine lv_bipush (v := 16) hx hb d_Commands_removeCommand_111 (by decide) ?_
      refine lv_isub hx hb d_Commands_removeCommand_113 ?_
      obtain ⟨g114, h⟩ := gd_some h
      refine st_tld hx hb hZ.2.1.2 hS g114 d_Commands_removeCommand_114 ?_
      refine lv_iload hx hb d_Commands_removeCommand_115 (lv_at hl 0 rfl) ?_
      refine lv_iadd hx hb d_Commands_removeCommand_117 ?_
      refine lv_topi (fun x5 ex5 => ?_)
      have h := nm_at ex5 h
      refine lv_istore (lv' := [(7, .int x5), (6, .int x4), (0, .ref (ad 15 0)), (1, .ref (ad fa1 ia1)), (2, .int p2), (3, .int p3), (4, .int p4), (5, .int p5)]) hx hb d_Commands_removeCommand_118 hl (by decide) rfl (fun ls hl => ?_)
      refine lv_iload hx hb d_Commands_removeCommand_120 (lv_at hl 0 rfl) ?_
      refine lv_iload_n hx hb d_Commands_removeCommand_122 rfl (lv_at hl 4 rfl) ?_
      refine lv_iload_n hx hb d_Commands_removeCommand_123 rfl (lv_at hl 5 rfl) ?_
      refine lv_isub hx hb d_Commands_removeCommand_124 ?_
      refine lv_icmp_le (tgt := 131) hx hb d_Commands_removeCommand_125 (by decide) (fun c125 => ?_) (fun c125 => ?_)
      · have h := it h c125
        refine lv_iload_n hx hb d_Commands_removeCommand_131 rfl (lv_at hl 5 rfl) ?_
        refine lv_istore (lv' := [(8, .int p3), (7, .int x5), (6, .int x4), (0, .ref (ad 15 0)), (1, .ref (ad fa1 ia1)), (2, .int p2), (3, .int p3), (4, .int p4), (5, .int p5)]) hx hb d_Commands_removeCommand_132 hl (by decide) rfl (fun ls hl => ?_)
        obtain ⟨q1, hq1, h⟩ := b2_some h
        have K1 : ∀ (σ8 : St) (x9 : Int32) (H : Heap) (locs : List Loc) (ls : Array Slot), q1 = (σ8, x9) → Hold D aC A ad n σ8 H → va_S A s.heap H locs → lv_has ls 9 [(1, .ref (ad fa1 ia1)), (3, .int p3), (5, .int p5), (7, .int x5), (8, .int x9)] → W p l e (headSpec w_Commands_removeCommand rm_Commands_removeCommand).room s m args below meth c H locs 0 0 Q0 (F0 m 155 ls []) := by
          intro σ8 x9 H locs ls eq1 hH hS hl
          subst eq1
          have h := b2_at h
          refine lv_iload hx hb d_Commands_removeCommand_155 (lv_at hl 3 rfl) ?_
          cases h
          rw [← hQ0]
          exact W.iret hx hb hr (fun t ht hW => ⟨⟨_, (), rfl, rfl, by dsimp only; rw [ht]; exact hH⟩, hS.F ht⟩) hS.2.2 d_Commands_removeCommand_157
        have loop1 : ∀ (k : Nat) (σ : St) (v8 : Int32) (H : Heap) (locs : List Loc) (ls : Array Slot), Hold D aC A ad n σ H → va_S A s.heap H locs → lv_has ls 9 [(1, .ref (ad fa1 ia1)), (3, .int p3), (5, .int p5), (7, .int x5), (8, .int v8)] → lp (fun q => lb_Commands_removeCommand_134 fa1 ia1 na1 p3 p5 x5 q.1 q.2) k (σ, v8) = some q1 → W p l e (headSpec w_Commands_removeCommand rm_Commands_removeCommand).room s m args below meth c H locs 0 0 Q0 (F0 m 134 ls []) := by
          intro k
          induction k with
          | zero => intro σ v8 H locs ls hH hS hl hlp; exact absurd hlp (lp_zero _ _ _)
          | succ k ih1 =>
            intro σ v8 H locs ls hH hS hl hlp
            obtain ⟨z1, h1, hk1⟩ := lp_succ hlp
            have h1 : lb_Commands_removeCommand_134 fa1 ia1 na1 p3 p5 x5 σ v8 = some z1 := h1
            unfold lb_Commands_removeCommand_134 at h1
            refine lv_iload hx hb d_Commands_removeCommand_134 (lv_at hl 4 rfl) ?_
            refine lv_iload_n hx hb d_Commands_removeCommand_136 rfl (lv_at hl 1 rfl) ?_
            refine lv_iload hx hb d_Commands_removeCommand_137 (lv_at hl 3 rfl) ?_
            refine lv_iadd hx hb d_Commands_removeCommand_139 ?_
            refine lv_icmp_ge (tgt := 155) hx hb d_Commands_removeCommand_140 (by decide) (fun c140 => ?_) (fun c140 => ?_)
            · have h1 := it h1 c140
              cases h1
              exact K1 σ v8 _ _ ls (Option.some.inj hk1).symm hH hS (lv_sub hl [0, 1, 2, 3, 4] rfl)
            · have h1 := ie h1 c140
              refine lv_aload_n hx hb d_Commands_removeCommand_143 rfl (lv_at hl 0 rfl) ?_
              refine lv_iload hx hb d_Commands_removeCommand_144 (lv_at hl 4 rfl) ?_
              refine lv_iload hx hb d_Commands_removeCommand_146 (lv_at hl 2 rfl) ?_
              obtain ⟨g148, h1⟩ := gd_some h1
              refine st_iast hx hb hK hH hS (f := fa1) (i := ia1) hda1 hka1 g148 d_Commands_removeCommand_148 (fun σ6 H locs eσ6 hH hS => ?_)
              have h1 := nm_at eσ6 h1
              obtain ⟨x7, ex7⟩ : ∃ y : Int32, y = v8 + 1 := ⟨_, rfl⟩
              have h1 := nm_at ex7 h1
              refine lv_iinc (v := x7) (lv' := [(8, .int x7), (1, .ref (ad fa1 ia1)), (3, .int p3), (5, .int p5), (7, .int x5)]) hx hb d_Commands_removeCommand_149 hl (k := 4) rfl (by rw [ex7]; rfl) (by decide) rfl (fun ls hl => ?_)
              refine lv_goto (tgt := 134) hx hb d_Commands_removeCommand_152 (by decide) ?_
              cases h1
              exact ih1 σ6 x7 _ _ ls hH hS (lv_sub hl [1, 2, 3, 4, 0] rfl) hk1
        obtain ⟨k1, hq1⟩ := lpE_some hq1
        exact loop1 k1 σ3 p3 _ _ ls hH hS (lv_sub hl [4, 6, 8, 1, 0] rfl) hq1
      · have h := ie h c125
        refine lv_bipush (v := (-105)) hx hb d_Commands_removeCommand_128 (by decide) ?_
        cases h
        rw [← hQ0]
        exact W.iret hx hb hr (fun t ht hW => ⟨⟨_, (), rfl, rfl, by dsimp only; rw [ht]; exact hH⟩, hS.F ht⟩) hS.2.2 d_Commands_removeCommand_130
    · have h := ie h c100
      refine lv_iload hx hb d_Commands_removeCommand_103 (lv_at hl 0 rfl) ?_
      cases h
      rw [← hQ0]
      exact W.iret hx hb hr (fun t ht hW => ⟨⟨_, (), rfl, rfl, by dsimp only; rw [ht]; exact hH⟩, hS.F ht⟩) hS.2.2 d_Commands_removeCommand_105
  have J63 : ∀ (σ : St) (p2 : Int32) (p3 : Int32) (p4 : Int32) (k0 : Int32) (H : Heap) (locs : List Loc) (ls : Array Slot), Hold D aC A ad n σ H → va_S A s.heap H locs → lv_has ls 9 [(0, .ref (ad 15 0)), (1, .ref (ad fa1 ia1)), (2, .int p2), (3, .int p3), (4, .int p4)] → jn_Commands_removeCommand_63_2 fa1 ia1 na1 σ p2 p3 p4 k0 = some o → W p l e (headSpec w_Commands_removeCommand rm_Commands_removeCommand).room s m args below meth c H locs 0 0 Q0 (F0 m 63 ls [.int k0]) := by
    intro σ p2 p3 p4 k0  H locs ls hH hS hl h
    unfold jn_Commands_removeCommand_63_2 at h
    refine lv_istore (lv' := [(5, .int k0), (0, .ref (ad 15 0)), (1, .ref (ad fa1 ia1)), (2, .int p2), (3, .int p3), (4, .int p4)]) hx hb d_Commands_removeCommand_63 hl (by decide) rfl (fun ls hl => ?_)
    refine lv_iload hx hb d_Commands_removeCommand_65 (lv_at hl 5 rfl) ?_
    refine lv_bipush (v := 16) hx hb d_Commands_removeCommand_67 (by decide) ?_
    refine lv_icmp_ne (tgt := 80) hx hb d_Commands_removeCommand_69 (by decide) (fun c69 => ?_) (fun c69 => ?_)
    · have h := ie h c69
      exact J80 σ p2 p3 p4 k0 _ _ ls hH hS (lv_sub hl [1, 2, 3, 4, 5, 0] rfl) h
    · have h := it h c69
      refine lv_iload hx hb d_Commands_removeCommand_72 (lv_at hl 0 rfl) ?_
      refine lv_if_ne (tgt := 80) hx hb d_Commands_removeCommand_74 (by decide) (fun c74 => ?_) (fun c74 => ?_)
      · have h := ie h c74
        exact J80 σ p2 p3 p4 k0 _ _ ls hH hS (lv_sub hl [1, 2, 3, 4, 5, 0] rfl) h
      · have h := it h c74
        refine lv_bipush (v := (-105)) hx hb d_Commands_removeCommand_77 (by decide) ?_
        cases h
        rw [← hQ0]
        exact W.iret hx hb hr (fun t ht hW => ⟨⟨_, (), rfl, rfl, by dsimp only; rw [ht]; exact hH⟩, hS.F ht⟩) hS.2.2 d_Commands_removeCommand_79
  have J62 : ∀ (σ : St) (p2 : Int32) (p3 : Int32) (p4 : Int32) (H : Heap) (locs : List Loc) (ls : Array Slot), Hold D aC A ad n σ H → va_S A s.heap H locs → lv_has ls 9 [(0, .ref (ad 15 0)), (1, .ref (ad fa1 ia1)), (2, .int p2), (3, .int p3), (4, .int p4)] → jn_Commands_removeCommand_62 fa1 ia1 na1 σ p2 p3 p4 = some o → W p l e (headSpec w_Commands_removeCommand rm_Commands_removeCommand).room s m args below meth c H locs 0 0 Q0 (F0 m 62 ls []) := by
    intro σ p2 p3 p4  H locs ls hH hS hl h
    unfold jn_Commands_removeCommand_62 at h
    refine lv_iconst (v := 0) hx hb d_Commands_removeCommand_62 (by decide) ?_
    exact J63 σ p2 p3 p4 0 _ _ ls hH hS (lv_sub hl [0, 1, 2, 3, 4] rfl) h
  refine lv_aload_n hx hb d_Commands_removeCommand_0 rfl (lv_at hl 0 rfl) ?_
  refine st_get hx hb hg hown hK hH (f := 15) (i := 0) hd_15 rfl rfl u_Commands 2 (by decide) (hg _ wd_192) (v := .ref (ad 41 12)) rfl d_Commands_removeCommand_1 ?_
  refine lv_aload_n hx hb d_Commands_removeCommand_4 rfl (lv_at hl 0 rfl) ?_
  refine st_get hx hb hg hown hK hH (f := 15) (i := 0) hd_15 rfl rfl u_Commands 0 (by decide) (hg _ wd_195) (v := .ref (ad 3 0)) rfl d_Commands_removeCommand_5 ?_
  refine lv_iconst (v := 0) hx hb d_Commands_removeCommand_8 (by decide) ?_
  obtain ⟨qc, hc9, h⟩ := b2_some h
  obtain ⟨σ1, x2⟩ := qc
  have h := b2_at h
  refine st_Vi (As := [.ref (ad 3 0), .int 0]) (rest := []) ⟨hx, hb, hml, hown, hg⟩ (c_Code_removeSymbol l D aC A ad n _ 12 0 hd_41_12 _ hc9) (cwG hg wd_161 wd_249 wd_163 wd_164 wd_29 yd_Code_removeSymbol ⟨Nat.le_of_ble_eq_true rfl, Nat.le_of_ble_eq_true rfl⟩) hK hH hS hZ hd_41_12 rfl rfl rfl hl.1 rfl (Nat.le_of_ble_eq_true rfl) d_Commands_removeCommand_9 ⟨Nat.zero_le _, Nat.zero_le _⟩ (fun H locs hH hS => ?_)
  refine lv_istore (lv' := [(4, .int x2), (0, .ref (ad 15 0)), (1, .ref (ad fa1 ia1)), (2, .int a2), (3, .int a3)]) hx hb d_Commands_removeCommand_12 hl (by decide) rfl (fun ls hl => ?_)
  refine lv_iload hx hb d_Commands_removeCommand_14 (lv_at hl 0 rfl) ?_
  refine lv_bipush (v := 16) hx hb d_Commands_removeCommand_16 (by decide) ?_
  refine lv_icmp_ge (tgt := 43) hx hb d_Commands_removeCommand_18 (by decide) (fun c18 => ?_) (fun c18 => ?_)
  · have h := it h c18
    refine lv_iload hx hb d_Commands_removeCommand_43 (lv_at hl 0 rfl) ?_
    refine lv_bipush (v := 16) hx hb d_Commands_removeCommand_45 (by decide) ?_
    refine lv_icmp_ne (tgt := 62) hx hb d_Commands_removeCommand_47 (by decide) (fun c47 => ?_) (fun c47 => ?_)
    · have h := ie h c47
      exact J62 σ1 a2 a3 x2 _ _ ls hH hS (lv_sub hl [1, 2, 3, 4, 0] rfl) h
    · have h := it h c47
      refine lv_iload_n hx hb d_Commands_removeCommand_50 rfl (lv_at hl 4 rfl) ?_
      refine lv_if_le (tgt := 62) hx hb d_Commands_removeCommand_51 (by decide) (fun c51 => ?_) (fun c51 => ?_)
      · have h := it h c51
        exact J62 σ1 a2 a3 x2 _ _ ls hH hS (lv_sub hl [1, 2, 3, 4, 0] rfl) h
      · have h := ie h c51
        refine lv_aload_n hx hb d_Commands_removeCommand_54 rfl (lv_at hl 2 rfl) ?_
        refine lv_iload_n hx hb d_Commands_removeCommand_55 rfl (lv_at hl 4 rfl) ?_
        refine lv_iconst (v := 1) hx hb d_Commands_removeCommand_56 (by decide) ?_
        refine lv_isub hx hb d_Commands_removeCommand_57 ?_
        obtain ⟨g58, h⟩ := gd_some h
        refine st_iald hx hb hK hH (f := fa1) (i := ia1) hda1 hka1 g58 d_Commands_removeCommand_58 ?_
        refine lv_goto (tgt := 63) hx hb d_Commands_removeCommand_59 (by decide) ?_
        exact J63 σ1 a2 a3 x2 (σ1.1 fa1 ia1 (a3 - 1).toNatClampNeg) _ _ ls hH hS (lv_sub hl [1, 2, 3, 4, 0] rfl) h
  · have h := ie h c18
    refine lv_iload hx hb d_Commands_removeCommand_21 (lv_at hl 0 rfl) ?_
    refine lv_if_lt (tgt := 31) hx hb d_Commands_removeCommand_23 (by decide) (fun c23 => ?_) (fun c23 => ?_)
    · have h := it h c23
      refine lv_iload hx hb d_Commands_removeCommand_31 (lv_at hl 0 rfl) ?_
      refine lv_if_ge (tgt := 41) hx hb d_Commands_removeCommand_33 (by decide) (fun c33 => ?_) (fun c33 => ?_)
      · have h := it h c33
        refine lv_iconst (v := 1) hx hb d_Commands_removeCommand_41 (by decide) ?_
        cases h
        rw [← hQ0]
        exact W.iret hx hb hr (fun t ht hW => ⟨⟨_, (), rfl, rfl, by dsimp only; rw [ht]; exact hH⟩, hS.F ht⟩) hS.2.2 d_Commands_removeCommand_42
      · have h := ie h c33
        refine lv_iload hx hb d_Commands_removeCommand_36 (lv_at hl 0 rfl) ?_
        refine lv_goto (tgt := 42) hx hb d_Commands_removeCommand_38 (by decide) ?_
        cases h
        rw [← hQ0]
        exact W.iret hx hb hr (fun t ht hW => ⟨⟨_, (), rfl, rfl, by dsimp only; rw [ht]; exact hH⟩, hS.F ht⟩) hS.2.2 d_Commands_removeCommand_42
    · have h := ie h c23
      refine lv_aload_n hx hb d_Commands_removeCommand_26 rfl (lv_at hl 2 rfl) ?_
      refine lv_iload_n hx hb d_Commands_removeCommand_27 rfl (lv_at hl 4 rfl) ?_
      refine lv_iload hx hb d_Commands_removeCommand_28 (lv_at hl 0 rfl) ?_
      obtain ⟨g30, h⟩ := gd_some h
      refine st_iast hx hb hK hH hS (f := fa1) (i := ia1) hda1 hka1 g30 d_Commands_removeCommand_30 (fun σ10 H locs eσ10 hH hS => ?_)
      have h := nm_at eσ10 h
      refine lv_iload hx hb d_Commands_removeCommand_31 (lv_at hl 0 rfl) ?_
      refine lv_if_ge (tgt := 41) hx hb d_Commands_removeCommand_33 (by decide) (fun c33 => ?_) (fun c33 => ?_)
      · have h := it h c33
        refine lv_iconst (v := 1) hx hb d_Commands_removeCommand_41 (by decide) ?_
        cases h
        rw [← hQ0]
        exact W.iret hx hb hr (fun t ht hW => ⟨⟨_, (), rfl, rfl, by dsimp only; rw [ht]; exact hH⟩, hS.F ht⟩) hS.2.2 d_Commands_removeCommand_42
      · have h := ie h c33
        refine lv_iload hx hb d_Commands_removeCommand_36 (lv_at hl 0 rfl) ?_
        refine lv_goto (tgt := 42) hx hb d_Commands_removeCommand_38 (by decide) ?_
        cases h
        rw [← hQ0]
        exact W.iret hx hb hr (fun t ht hW => ⟨⟨_, (), rfl, rfl, by dsimp only; rw [ht]; exact hH⟩, hS.F ht⟩) hS.2.2 d_Commands_removeCommand_42
set_option maxHeartbeats 4000000 in
set_option maxRecDepth 100000 in
theorem c_Commands_remove (l : Launch) (D : va_G) (aC : Nat → ClassId) (A : Nat → Prop) (ad : Nat → Nat → Nat) (n : Nat) (σ : St) (fa1 ia1 na1 : Nat) (a2 : Int32) (hka1 : kd fa1 = .inr (0, na1)) (hda1 : dm n fa1 ia1) (o : St × Int32) (h : f_Commands_remove σ fa1 ia1 na1 a2 = some o) : Met l y_Commands_remove w_Commands_remove rm_Commands_remove (va_Pc [.ref (ad 15 0), .ref (ad fa1 ia1), .int a2] (Pre D aC A ad n σ)) (va_Qi (fun r (_ : Unit) => r = o.2) (fun _ t => Hold D aC A ad n o.1 t.heap) A) 0 0 A := by
  refine Met.ofW (cc := prog_4_method_7_code) (maxL := 6) (ret := (some .int)) (by decide) rfl ?_
  intro p e s m args below meth c s₁ B hml hv
  obtain ⟨hargs, hH, hK, hZ⟩ := hv
  have hx := B.exec
  have hb := B.bytes
  have hr := B.returns
  have hts := atoms_spec (ws := w_Commands_remove) B.pre
  have hg : ∀ w ∈ gW, w.before args s = true := fun w h => hts w (List.mem_cons_of_mem _ h)
  have hown : s.vm.findClass "PrefixCodes$Commands" = some m.cls := findClass_of_methodNamed B.named
  have hlocks := B.notSynchronized
  have hS : va_S A s.heap s.heap [] := va_S.rf
  have hl := lv_entry ([.ref (ad 15 0), .ref (ad fa1 ia1), .int a2]) (n := 6) (Nat.le_of_ble_eq_true rfl)
  rw [show entryFrame m args 6 = entryFrame m (([.ref (ad 15 0), .ref (ad fa1 ia1), .int a2] : List Value).toArray) 6 by rw [hargs], lg_entry_eq]
  generalize (lg_sl ([.ref (ad 15 0), .ref (ad fa1 ia1), .int a2]) ++ List.replicate (6 - (lg_sl ([.ref (ad 15 0), .ref (ad fa1 ia1), .int a2])).length) Slot.unset).toArray = ls at hl ⊢
  have hl : lv_has ls 6 [(0, .ref (ad 15 0)), (1, .ref (ad fa1 ia1)), (2, .int a2)] := hl
  generalize hQ0 : MQ below (va_Qi (fun r (_ : Unit) => r = o.2) (fun _ t => Hold D aC A ad n o.1 t.heap) A) args s 0 0 A = Q0
  unfold f_Commands_remove at h
  refine lv_aload_n hx hb d_Commands_remove_0 rfl (lv_at hl 0 rfl) ?_
  obtain ⟨qc, hc1, h⟩ := b2_some h
  obtain ⟨σ1, x2⟩ := qc
  have h := b2_at h
  refine st_Vi (As := []) (rest := []) ⟨hx, hb, hml, hown, hg⟩ (c_Commands_removeCode l D aC A ad n _  _ hc1) (cwG hg wd_250 wd_251 wd_252 wd_253 wd_174 yd_Commands_removeCode ⟨Nat.le_of_ble_eq_true rfl, Nat.le_of_ble_eq_true rfl⟩) hK hH hS hZ hd_15 rfl rfl rfl hl.1 rfl (Nat.le_of_ble_eq_true rfl) d_Commands_remove_1 ⟨Nat.zero_le _, Nat.zero_le _⟩ (fun H locs hH hS => ?_)
  refine lv_istore_n (lv' := [(3, .int x2), (0, .ref (ad 15 0)), (1, .ref (ad fa1 ia1)), (2, .int a2)]) hx hb d_Commands_remove_4 rfl hl (by decide) rfl (fun ls hl => ?_)
  refine lv_iload_n hx hb d_Commands_remove_5 rfl (lv_at hl 0 rfl) ?_
  refine lv_if_ge (tgt := 11) hx hb d_Commands_remove_6 (by decide) (fun c6 => ?_) (fun c6 => ?_)
  · have h := it h c6
    refine lv_iconst (v := 0) hx hb d_Commands_remove_11 (by decide) ?_
    refine lv_istore (lv' := [(4, .int 0), (3, .int x2), (0, .ref (ad 15 0)), (1, .ref (ad fa1 ia1)), (2, .int a2)]) hx hb d_Commands_remove_12 hl (by decide) rfl (fun ls hl => ?_)
    obtain ⟨q1, hq1, h⟩ := bs2_some h
    have K1 : ∀ (σ6 : St) (x7 : Int32) (H : Heap) (locs : List Loc) (ls : Array Slot), q1 = .inl (σ6, x7) → Hold D aC A ad n σ6 H → va_S A s.heap H locs → lv_has ls 6 [(0, .ref (ad 15 0)), (1, .ref (ad fa1 ia1)), (2, .int a2), (4, .int x7)] → W p l e (headSpec w_Commands_remove rm_Commands_remove).room s m args below meth c H locs 0 0 Q0 (F0 m 52 ls []) := by
      intro σ6 x7 H locs ls eq1 hH hS hl
      subst eq1
      have h := bs2_at h
      refine lv_iload_n hx hb d_Commands_remove_52 rfl (lv_at hl 2 rfl) ?_
      cases h
      rw [← hQ0]
      exact W.iret hx hb hr (fun t ht hW => ⟨⟨_, (), rfl, rfl, by dsimp only; rw [ht]; exact hH⟩, hS.F ht⟩) hS.2.2 d_Commands_remove_53
    have loop1 : ∀ (k : Nat) (σ : St) (v4 : Int32) (H : Heap) (locs : List Loc) (ls : Array Slot), Hold D aC A ad n σ H → va_S A s.heap H locs → lv_has ls 6 [(0, .ref (ad 15 0)), (1, .ref (ad fa1 ia1)), (2, .int a2), (4, .int v4)] → lp (fun q => lb_Commands_remove_14 fa1 ia1 na1 a2 q.1 q.2) k (σ, v4) = some q1 → W p l e (headSpec w_Commands_remove rm_Commands_remove).room s m args below meth c H locs 0 0 Q0 (F0 m 14 ls []) := by
      intro k
      induction k with
      | zero => intro σ v4 H locs ls hH hS hl hlp; exact absurd hlp (lp_zero _ _ _)
      | succ k ih1 =>
        intro σ v4 H locs ls hH hS hl hlp
        obtain ⟨z1, h1, hk1⟩ := lp_succ hlp
        have h1 : lb_Commands_remove_14 fa1 ia1 na1 a2 σ v4 = some z1 := h1
        unfold lb_Commands_remove_14 at h1
        refine lv_iload hx hb d_Commands_remove_14 (lv_at hl 3 rfl) ?_
        refine lv_iload_n hx hb d_Commands_remove_16 rfl (lv_at hl 2 rfl) ?_
        refine lv_icmp_ge (tgt := 52) hx hb d_Commands_remove_17 (by decide) (fun c17 => ?_) (fun c17 => ?_)
        · have h1 := it h1 c17
          cases h1
          exact K1 σ v4 _ _ ls (Option.some.inj hk1).symm hH hS (lv_sub hl [0, 1, 2, 3] rfl)
        · have h1 := ie h1 c17
          refine lv_aload_n hx hb d_Commands_remove_20 rfl (lv_at hl 0 rfl) ?_
          refine lv_aload_n hx hb d_Commands_remove_21 rfl (lv_at hl 1 rfl) ?_
          refine lv_iload_n hx hb d_Commands_remove_22 rfl (lv_at hl 2 rfl) ?_
          refine lv_iload hx hb d_Commands_remove_23 (lv_at hl 3 rfl) ?_
          obtain ⟨qc, hc25, h1⟩ := b2_some h1
          obtain ⟨σ3, x4⟩ := qc
          have h1 := b2_at h1
          refine st_Vi (As := [.ref (ad fa1 ia1), .int a2, .int v4]) (rest := []) ⟨hx, hb, hml, hown, hg⟩ (c_Commands_removeCommand l D aC A ad n _ fa1 ia1 na1 a2 v4 hka1 hda1 _ hc25) (cwG hg wd_254 wd_255 wd_256 wd_257 wd_174 yd_Commands_removeCommand ⟨Nat.le_of_ble_eq_true rfl, Nat.le_of_ble_eq_true rfl⟩) hK hH hS hZ hd_15 rfl rfl rfl hl.1 rfl (Nat.le_of_ble_eq_true rfl) d_Commands_remove_25 ⟨Nat.zero_le _, Nat.zero_le _⟩ (fun H locs hH hS => ?_)
          refine lv_istore (lv' := [(5, .int x4), (0, .ref (ad 15 0)), (1, .ref (ad fa1 ia1)), (2, .int a2), (4, .int v4)]) hx hb d_Commands_remove_28 hl (by decide) rfl (fun ls hl => ?_)
          refine lv_iload hx hb d_Commands_remove_30 (lv_at hl 0 rfl) ?_
          refine lv_if_ge (tgt := 38) hx hb d_Commands_remove_32 (by decide) (fun c32 => ?_) (fun c32 => ?_)
          · have h1 := it h1 c32
            refine lv_iload hx hb d_Commands_remove_38 (lv_at hl 4 rfl) ?_
            refine lv_iload hx hb d_Commands_remove_40 (lv_at hl 0 rfl) ?_
            refine lv_iconst (v := 1) hx hb d_Commands_remove_42 (by decide) ?_
            refine st_max hx hb (hml.trans hl.1.symm) hown (hg _ wd_180) (hg _ wd_181) (hg _ wd_182) (hg _ wd_183) (Nat.le_of_ble_eq_true rfl) (Nat.le_of_ble_eq_true rfl) (Nat.zero_le _) (Nat.zero_le _) d_Commands_remove_43 ?_
            refine lv_iadd hx hb d_Commands_remove_46 ?_
            refine lv_topi (fun x5 ex5 => ?_)
            have h1 := nm_at ex5 h1
            refine lv_istore (lv' := [(4, .int x5), (5, .int x4), (0, .ref (ad 15 0)), (1, .ref (ad fa1 ia1)), (2, .int a2)]) hx hb d_Commands_remove_47 hl (by decide) rfl (fun ls hl => ?_)
            refine lv_goto (tgt := 14) hx hb d_Commands_remove_49 (by decide) ?_
            cases h1
            exact ih1 σ3 x5 _ _ ls hH hS (lv_sub hl [2, 3, 4, 0] rfl) hk1
          · have h1 := ie h1 c32
            refine lv_iload hx hb d_Commands_remove_35 (lv_at hl 0 rfl) ?_
            cases h1
            have hk1 := Option.some.inj hk1
            subst hk1
            have h := bs2_r h
            cases h
            rw [← hQ0]
            exact W.iret hx hb hr (fun t ht hW => ⟨⟨_, (), rfl, rfl, by dsimp only; rw [ht]; exact hH⟩, hS.F ht⟩) hS.2.2 d_Commands_remove_37
    obtain ⟨k1, hq1⟩ := lpE_some hq1
    exact loop1 k1 σ1 0 _ _ ls hH hS (lv_sub hl [2, 3, 4, 0] rfl) hq1
  · have h := ie h c6
    refine lv_iload_n hx hb d_Commands_remove_9 rfl (lv_at hl 0 rfl) ?_
    cases h
    rw [← hQ0]
    exact W.iret hx hb hr (fun t ht hW => ⟨⟨_, (), rfl, rfl, by dsimp only; rw [ht]; exact hH⟩, hS.F ht⟩) hS.2.2 d_Commands_remove_10
