theorem d_Choice_bitsBy_0 : decode prog_2_method_8_code 0 = .ok (.aload_n 0, 1) := by decide +kernel
theorem d_Choice_bitsBy_1 : decode prog_2_method_8_code 1 = .ok (.getfield 30, 3) := by decide +kernel
theorem d_Choice_bitsBy_4 : decode prog_2_method_8_code 4 = .ok (.iload_n 1, 1) := by decide +kernel
theorem d_Choice_bitsBy_5 : decode prog_2_method_8_code 5 = .ok (.aaload, 1) := by decide +kernel
theorem d_Choice_bitsBy_6 : decode prog_2_method_8_code 6 = .ok (.astore_n 3, 1) := by decide +kernel
theorem d_Choice_bitsBy_7 : decode prog_2_method_8_code 7 = .ok (.aload_n 3, 1) := by decide +kernel
theorem d_Choice_bitsBy_8 : decode prog_2_method_8_code 8 = .ok (.ifnonnull 5, 3) := by decide +kernel
theorem d_Choice_bitsBy_11 : decode prog_2_method_8_code 11 = .ok (.iconst 0, 1) := by decide +kernel
theorem d_Choice_bitsBy_12 : decode prog_2_method_8_code 12 = .ok (.ireturn, 1) := by decide +kernel
theorem d_Choice_bitsBy_13 : decode prog_2_method_8_code 13 = .ok (.iconst 0, 1) := by decide +kernel
theorem d_Choice_bitsBy_14 : decode prog_2_method_8_code 14 = .ok (.istore 4, 2) := by decide +kernel
theorem d_Choice_bitsBy_16 : decode prog_2_method_8_code 16 = .ok (.iload_n 2, 1) := by decide +kernel
theorem d_Choice_bitsBy_17 : decode prog_2_method_8_code 17 = .ok (.aload_n 0, 1) := by decide +kernel
theorem d_Choice_bitsBy_18 : decode prog_2_method_8_code 18 = .ok (.getfield 19, 3) := by decide +kernel
theorem d_Choice_bitsBy_21 : decode prog_2_method_8_code 21 = .ok (.imul, 1) := by decide +kernel
theorem d_Choice_bitsBy_22 : decode prog_2_method_8_code 22 = .ok (.istore 5, 2) := by decide +kernel
theorem d_Choice_bitsBy_24 : decode prog_2_method_8_code 24 = .ok (.iload 5, 2) := by decide +kernel
theorem d_Choice_bitsBy_26 : decode prog_2_method_8_code 26 = .ok (.aload_n 0, 1) := by decide +kernel
theorem d_Choice_bitsBy_27 : decode prog_2_method_8_code 27 = .ok (.iload_n 2, 1) := by decide +kernel
theorem d_Choice_bitsBy_28 : decode prog_2_method_8_code 28 = .ok (.invokevirtual 90, 3) := by decide +kernel
theorem d_Choice_bitsBy_31 : decode prog_2_method_8_code 31 = .ok (.if_icmp .ge 26, 3) := by decide +kernel
theorem d_Choice_bitsBy_34 : decode prog_2_method_8_code 34 = .ok (.iload 4, 2) := by decide +kernel
theorem d_Choice_bitsBy_36 : decode prog_2_method_8_code 36 = .ok (.aload_n 3, 1) := by decide +kernel
theorem d_Choice_bitsBy_37 : decode prog_2_method_8_code 37 = .ok (.getfield 97, 3) := by decide +kernel
theorem d_Choice_bitsBy_40 : decode prog_2_method_8_code 40 = .ok (.aload_n 0, 1) := by decide +kernel
theorem d_Choice_bitsBy_41 : decode prog_2_method_8_code 41 = .ok (.getfield 9, 3) := by decide +kernel
theorem d_Choice_bitsBy_44 : decode prog_2_method_8_code 44 = .ok (.iload 5, 2) := by decide +kernel
theorem d_Choice_bitsBy_46 : decode prog_2_method_8_code 46 = .ok (.iaload, 1) := by decide +kernel
theorem d_Choice_bitsBy_47 : decode prog_2_method_8_code 47 = .ok (.iaload, 1) := by decide +kernel
theorem d_Choice_bitsBy_48 : decode prog_2_method_8_code 48 = .ok (.iadd, 1) := by decide +kernel
theorem d_Choice_bitsBy_49 : decode prog_2_method_8_code 49 = .ok (.istore 4, 2) := by decide +kernel
theorem d_Choice_bitsBy_51 : decode prog_2_method_8_code 51 = .ok (.iinc 5 1, 3) := by decide +kernel
theorem d_Choice_bitsBy_54 : decode prog_2_method_8_code 54 = .ok (.goto (-30), 3) := by decide +kernel
theorem d_Choice_bitsBy_57 : decode prog_2_method_8_code 57 = .ok (.iload 4, 2) := by decide +kernel
theorem d_Choice_bitsBy_59 : decode prog_2_method_8_code 59 = .ok (.ireturn, 1) := by decide +kernel
theorem d_Choice_regroup_0 : decode prog_2_method_7_code 0 = .ok (.iconst 0, 1) := by decide +kernel
theorem d_Choice_regroup_1 : decode prog_2_method_7_code 1 = .ok (.istore_n 1, 1) := by decide +kernel
theorem d_Choice_regroup_2 : decode prog_2_method_7_code 2 = .ok (.iload_n 1, 1) := by decide +kernel
theorem d_Choice_regroup_3 : decode prog_2_method_7_code 3 = .ok (.aload_n 0, 1) := by decide +kernel
theorem d_Choice_regroup_4 : decode prog_2_method_7_code 4 = .ok (.getfield 22, 3) := by decide +kernel
theorem d_Choice_regroup_7 : decode prog_2_method_7_code 7 = .ok (.if_icmp .ge 64, 3) := by decide +kernel
theorem d_Choice_regroup_10 : decode prog_2_method_7_code 10 = .ok (.iconst 0, 1) := by decide +kernel
theorem d_Choice_regroup_11 : decode prog_2_method_7_code 11 = .ok (.istore_n 2, 1) := by decide +kernel
theorem d_Choice_regroup_12 : decode prog_2_method_7_code 12 = .ok (.aload_n 0, 1) := by decide +kernel
theorem d_Choice_regroup_13 : decode prog_2_method_7_code 13 = .ok (.iconst 0, 1) := by decide +kernel
theorem d_Choice_regroup_14 : decode prog_2_method_7_code 14 = .ok (.iload_n 1, 1) := by decide +kernel
theorem d_Choice_regroup_15 : decode prog_2_method_7_code 15 = .ok (.invokevirtual 94, 3) := by decide +kernel
theorem d_Choice_regroup_18 : decode prog_2_method_7_code 18 = .ok (.istore_n 3, 1) := by decide +kernel
theorem d_Choice_regroup_19 : decode prog_2_method_7_code 19 = .ok (.iconst 1, 1) := by decide +kernel
theorem d_Choice_regroup_20 : decode prog_2_method_7_code 20 = .ok (.istore 4, 2) := by decide +kernel
theorem d_Choice_regroup_22 : decode prog_2_method_7_code 22 = .ok (.iload 4, 2) := by decide +kernel
theorem d_Choice_regroup_24 : decode prog_2_method_7_code 24 = .ok (.aload_n 0, 1) := by decide +kernel
theorem d_Choice_regroup_25 : decode prog_2_method_7_code 25 = .ok (.getfield 34, 3) := by decide +kernel
theorem d_Choice_regroup_28 : decode prog_2_method_7_code 28 = .ok (.if_icmp .ge 30, 3) := by decide +kernel
theorem d_Choice_regroup_31 : decode prog_2_method_7_code 31 = .ok (.aload_n 0, 1) := by decide +kernel
theorem d_Choice_regroup_32 : decode prog_2_method_7_code 32 = .ok (.iload 4, 2) := by decide +kernel
theorem d_Choice_regroup_34 : decode prog_2_method_7_code 34 = .ok (.iload_n 1, 1) := by decide +kernel
theorem d_Choice_regroup_35 : decode prog_2_method_7_code 35 = .ok (.invokevirtual 94, 3) := by decide +kernel
theorem d_Choice_regroup_38 : decode prog_2_method_7_code 38 = .ok (.istore 5, 2) := by decide +kernel
theorem d_Choice_regroup_40 : decode prog_2_method_7_code 40 = .ok (.iload 5, 2) := by decide +kernel
theorem d_Choice_regroup_42 : decode prog_2_method_7_code 42 = .ok (.iload_n 3, 1) := by decide +kernel
theorem d_Choice_regroup_43 : decode prog_2_method_7_code 43 = .ok (.if_icmp .ge 9, 3) := by decide +kernel
theorem d_Choice_regroup_46 : decode prog_2_method_7_code 46 = .ok (.iload 4, 2) := by decide +kernel
theorem d_Choice_regroup_48 : decode prog_2_method_7_code 48 = .ok (.istore_n 2, 1) := by decide +kernel
theorem d_Choice_regroup_49 : decode prog_2_method_7_code 49 = .ok (.iload 5, 2) := by decide +kernel
theorem d_Choice_regroup_51 : decode prog_2_method_7_code 51 = .ok (.istore_n 3, 1) := by decide +kernel
theorem d_Choice_regroup_52 : decode prog_2_method_7_code 52 = .ok (.iinc 4 1, 3) := by decide +kernel
theorem d_Choice_regroup_55 : decode prog_2_method_7_code 55 = .ok (.goto (-33), 3) := by decide +kernel
theorem d_Choice_regroup_58 : decode prog_2_method_7_code 58 = .ok (.aload_n 0, 1) := by decide +kernel
theorem d_Choice_regroup_59 : decode prog_2_method_7_code 59 = .ok (.getfield 25, 3) := by decide +kernel
theorem d_Choice_regroup_62 : decode prog_2_method_7_code 62 = .ok (.iload_n 1, 1) := by decide +kernel
theorem d_Choice_regroup_63 : decode prog_2_method_7_code 63 = .ok (.iload_n 2, 1) := by decide +kernel
theorem d_Choice_regroup_64 : decode prog_2_method_7_code 64 = .ok (.iastore, 1) := by decide +kernel
theorem d_Choice_regroup_65 : decode prog_2_method_7_code 65 = .ok (.iinc 1 1, 3) := by decide +kernel
theorem d_Choice_regroup_68 : decode prog_2_method_7_code 68 = .ok (.goto (-66), 3) := by decide +kernel
theorem d_Choice_regroup_71 : decode prog_2_method_7_code 71 = .ok (.return_, 1) := by decide +kernel
theorem d_Choice_settle_0 : decode prog_2_method_3_code 0 = .ok (.iconst 0, 1) := by decide +kernel
theorem d_Choice_settle_1 : decode prog_2_method_3_code 1 = .ok (.istore 4, 2) := by decide +kernel
theorem d_Choice_settle_3 : decode prog_2_method_3_code 3 = .ok (.iload 4, 2) := by decide +kernel
theorem d_Choice_settle_5 : decode prog_2_method_3_code 5 = .ok (.iload_n 3, 1) := by decide +kernel
theorem d_Choice_settle_6 : decode prog_2_method_3_code 6 = .ok (.if_icmp .ge 19, 3) := by decide +kernel
theorem d_Choice_settle_9 : decode prog_2_method_3_code 9 = .ok (.aload_n 0, 1) := by decide +kernel
theorem d_Choice_settle_10 : decode prog_2_method_3_code 10 = .ok (.aload_n 1, 1) := by decide +kernel
theorem d_Choice_settle_11 : decode prog_2_method_3_code 11 = .ok (.iload_n 2, 1) := by decide +kernel
theorem d_Choice_settle_12 : decode prog_2_method_3_code 12 = .ok (.invokevirtual 61, 3) := by decide +kernel
theorem d_Choice_settle_15 : decode prog_2_method_3_code 15 = .ok (.aload_n 0, 1) := by decide +kernel
theorem d_Choice_settle_16 : decode prog_2_method_3_code 16 = .ok (.invokevirtual 65, 3) := by decide +kernel
theorem d_Choice_settle_19 : decode prog_2_method_3_code 19 = .ok (.iinc 4 1, 3) := by decide +kernel
theorem d_Choice_settle_22 : decode prog_2_method_3_code 22 = .ok (.goto (-19), 3) := by decide +kernel
theorem d_Choice_settle_25 : decode prog_2_method_3_code 25 = .ok (.aload_n 0, 1) := by decide +kernel
theorem d_Choice_settle_26 : decode prog_2_method_3_code 26 = .ok (.aload_n 1, 1) := by decide +kernel
theorem d_Choice_settle_27 : decode prog_2_method_3_code 27 = .ok (.iload_n 2, 1) := by decide +kernel
theorem d_Choice_settle_28 : decode prog_2_method_3_code 28 = .ok (.invokevirtual 61, 3) := by decide +kernel
theorem d_Choice_settle_31 : decode prog_2_method_3_code 31 = .ok (.return_, 1) := by decide +kernel
theorem d_PC_group_0 : decode prog_1_method_24_code 0 = .ok (.aload_n 0, 1) := by decide +kernel
theorem d_PC_group_1 : decode prog_1_method_24_code 1 = .ok (.getfield 63, 3) := by decide +kernel
theorem d_PC_group_4 : decode prog_1_method_24_code 4 = .ok (.getfield 223, 3) := by decide +kernel
theorem d_PC_group_7 : decode prog_1_method_24_code 7 = .ok (.ifCond .ne 6, 3) := by decide +kernel
theorem d_PC_group_10 : decode prog_1_method_24_code 10 = .ok (.bipush (-103), 2) := by decide +kernel
theorem d_PC_group_12 : decode prog_1_method_24_code 12 = .ok (.ireturn, 1) := by decide +kernel
theorem d_PC_group_13 : decode prog_1_method_24_code 13 = .ok (.iload_n 1, 1) := by decide +kernel
theorem d_PC_group_14 : decode prog_1_method_24_code 14 = .ok (.iconst 0, 1) := by decide +kernel
theorem d_PC_group_15 : decode prog_1_method_24_code 15 = .ok (.aload_n 0, 1) := by decide +kernel
theorem d_PC_group_16 : decode prog_1_method_24_code 16 = .ok (.getfield 63, 3) := by decide +kernel
theorem d_PC_group_19 : decode prog_1_method_24_code 19 = .ok (.getfield 223, 3) := by decide +kernel
theorem d_PC_group_22 : decode prog_1_method_24_code 22 = .ok (.iconst 1, 1) := by decide +kernel
theorem d_PC_group_23 : decode prog_1_method_24_code 23 = .ok (.isub, 1) := by decide +kernel
theorem d_PC_group_24 : decode prog_1_method_24_code 24 = .ok (.invokestatic 76, 3) := by decide +kernel
theorem d_PC_group_27 : decode prog_1_method_24_code 27 = .ok (.ifCond .eq 6, 3) := by decide +kernel
theorem d_PC_group_30 : decode prog_1_method_24_code 30 = .ok (.bipush (-102), 2) := by decide +kernel
theorem d_PC_group_32 : decode prog_1_method_24_code 32 = .ok (.ireturn, 1) := by decide +kernel
theorem d_PC_group_33 : decode prog_1_method_24_code 33 = .ok (.aload_n 0, 1) := by decide +kernel
theorem d_PC_group_34 : decode prog_1_method_24_code 34 = .ok (.getfield 63, 3) := by decide +kernel
theorem d_PC_group_37 : decode prog_1_method_24_code 37 = .ok (.getfield 226, 3) := by decide +kernel
theorem d_PC_group_40 : decode prog_1_method_24_code 40 = .ok (.iload_n 1, 1) := by decide +kernel
theorem d_PC_group_41 : decode prog_1_method_24_code 41 = .ok (.iaload, 1) := by decide +kernel
theorem d_PC_group_42 : decode prog_1_method_24_code 42 = .ok (.ireturn, 1) := by decide +kernel
theorem d_Choice_canBeWritten_0 : decode prog_2_method_9_code 0 = .ok (.iconst 0, 1) := by decide +kernel
theorem d_Choice_canBeWritten_1 : decode prog_2_method_9_code 1 = .ok (.istore_n 1, 1) := by decide +kernel
theorem d_Choice_canBeWritten_2 : decode prog_2_method_9_code 2 = .ok (.iload_n 1, 1) := by decide +kernel
theorem d_Choice_canBeWritten_3 : decode prog_2_method_9_code 3 = .ok (.aload_n 0, 1) := by decide +kernel
theorem d_Choice_canBeWritten_4 : decode prog_2_method_9_code 4 = .ok (.getfield 22, 3) := by decide +kernel
theorem d_Choice_canBeWritten_7 : decode prog_2_method_9_code 7 = .ok (.if_icmp .ge 62, 3) := by decide +kernel
theorem d_Choice_canBeWritten_10 : decode prog_2_method_9_code 10 = .ok (.aload_n 0, 1) := by decide +kernel
theorem d_Choice_canBeWritten_11 : decode prog_2_method_9_code 11 = .ok (.getfield 30, 3) := by decide +kernel
theorem d_Choice_canBeWritten_14 : decode prog_2_method_9_code 14 = .ok (.aload_n 0, 1) := by decide +kernel
theorem d_Choice_canBeWritten_15 : decode prog_2_method_9_code 15 = .ok (.getfield 25, 3) := by decide +kernel
theorem d_Choice_canBeWritten_18 : decode prog_2_method_9_code 18 = .ok (.iload_n 1, 1) := by decide +kernel
theorem d_Choice_canBeWritten_19 : decode prog_2_method_9_code 19 = .ok (.iaload, 1) := by decide +kernel
theorem d_Choice_canBeWritten_20 : decode prog_2_method_9_code 20 = .ok (.aaload, 1) := by decide +kernel
theorem d_Choice_canBeWritten_21 : decode prog_2_method_9_code 21 = .ok (.astore_n 2, 1) := by decide +kernel
theorem d_Choice_canBeWritten_22 : decode prog_2_method_9_code 22 = .ok (.iload_n 1, 1) := by decide +kernel
theorem d_Choice_canBeWritten_23 : decode prog_2_method_9_code 23 = .ok (.aload_n 0, 1) := by decide +kernel
theorem d_Choice_canBeWritten_24 : decode prog_2_method_9_code 24 = .ok (.getfield 19, 3) := by decide +kernel
theorem d_Choice_canBeWritten_27 : decode prog_2_method_9_code 27 = .ok (.imul, 1) := by decide +kernel
theorem d_Choice_canBeWritten_28 : decode prog_2_method_9_code 28 = .ok (.istore_n 3, 1) := by decide +kernel
theorem d_Choice_canBeWritten_29 : decode prog_2_method_9_code 29 = .ok (.iload_n 3, 1) := by decide +kernel
theorem d_Choice_canBeWritten_30 : decode prog_2_method_9_code 30 = .ok (.aload_n 0, 1) := by decide +kernel
theorem d_Choice_canBeWritten_31 : decode prog_2_method_9_code 31 = .ok (.iload_n 1, 1) := by decide +kernel
theorem d_Choice_canBeWritten_32 : decode prog_2_method_9_code 32 = .ok (.invokevirtual 90, 3) := by decide +kernel
theorem d_Choice_canBeWritten_35 : decode prog_2_method_9_code 35 = .ok (.if_icmp .ge 28, 3) := by decide +kernel
theorem d_Choice_canBeWritten_38 : decode prog_2_method_9_code 38 = .ok (.aload_n 2, 1) := by decide +kernel
theorem d_Choice_canBeWritten_39 : decode prog_2_method_9_code 39 = .ok (.ifnull 16, 3) := by decide +kernel
theorem d_Choice_canBeWritten_42 : decode prog_2_method_9_code 42 = .ok (.aload_n 2, 1) := by decide +kernel
theorem d_Choice_canBeWritten_43 : decode prog_2_method_9_code 43 = .ok (.aload_n 0, 1) := by decide +kernel
theorem d_Choice_canBeWritten_44 : decode prog_2_method_9_code 44 = .ok (.getfield 9, 3) := by decide +kernel
theorem d_Choice_canBeWritten_47 : decode prog_2_method_9_code 47 = .ok (.iload_n 3, 1) := by decide +kernel
theorem d_Choice_canBeWritten_48 : decode prog_2_method_9_code 48 = .ok (.iaload, 1) := by decide +kernel
theorem d_Choice_canBeWritten_49 : decode prog_2_method_9_code 49 = .ok (.invokevirtual 100, 3) := by decide +kernel
theorem d_Choice_canBeWritten_52 : decode prog_2_method_9_code 52 = .ok (.ifCond .ne 5, 3) := by decide +kernel
theorem d_Choice_canBeWritten_55 : decode prog_2_method_9_code 55 = .ok (.iconst 0, 1) := by decide +kernel
theorem d_Choice_canBeWritten_56 : decode prog_2_method_9_code 56 = .ok (.ireturn, 1) := by decide +kernel
theorem d_Choice_canBeWritten_57 : decode prog_2_method_9_code 57 = .ok (.iinc 3 1, 3) := by decide +kernel
theorem d_Choice_canBeWritten_60 : decode prog_2_method_9_code 60 = .ok (.goto (-31), 3) := by decide +kernel
theorem d_Choice_canBeWritten_63 : decode prog_2_method_9_code 63 = .ok (.iinc 1 1, 3) := by decide +kernel
theorem d_Choice_canBeWritten_66 : decode prog_2_method_9_code 66 = .ok (.goto (-64), 3) := by decide +kernel
theorem d_Choice_canBeWritten_69 : decode prog_2_method_9_code 69 = .ok (.iconst 1, 1) := by decide +kernel
theorem d_Choice_canBeWritten_70 : decode prog_2_method_9_code 70 = .ok (.ireturn, 1) := by decide +kernel
theorem d_Selectors_begin_0 : decode prog_8_method_2_code 0 = .ok (.aload_n 0, 1) := by decide +kernel
theorem d_Selectors_begin_1 : decode prog_8_method_2_code 1 = .ok (.iload_n 1, 1) := by decide +kernel
theorem d_Selectors_begin_2 : decode prog_8_method_2_code 2 = .ok (.putfield 15, 3) := by decide +kernel
theorem d_Selectors_begin_5 : decode prog_8_method_2_code 5 = .ok (.iconst 0, 1) := by decide +kernel
theorem d_Selectors_begin_6 : decode prog_8_method_2_code 6 = .ok (.istore_n 2, 1) := by decide +kernel
theorem d_Selectors_begin_7 : decode prog_8_method_2_code 7 = .ok (.iload_n 2, 1) := by decide +kernel
theorem d_Selectors_begin_8 : decode prog_8_method_2_code 8 = .ok (.aload_n 0, 1) := by decide +kernel
theorem d_Selectors_begin_9 : decode prog_8_method_2_code 9 = .ok (.getfield 15, 3) := by decide +kernel
theorem d_Selectors_begin_12 : decode prog_8_method_2_code 12 = .ok (.if_icmp .ge 16, 3) := by decide +kernel
theorem d_Selectors_begin_15 : decode prog_8_method_2_code 15 = .ok (.aload_n 0, 1) := by decide +kernel
theorem d_Selectors_begin_16 : decode prog_8_method_2_code 16 = .ok (.getfield 9, 3) := by decide +kernel
theorem d_Selectors_begin_19 : decode prog_8_method_2_code 19 = .ok (.iload_n 2, 1) := by decide +kernel
theorem d_Selectors_begin_20 : decode prog_8_method_2_code 20 = .ok (.iload_n 2, 1) := by decide +kernel
theorem d_Selectors_begin_21 : decode prog_8_method_2_code 21 = .ok (.iastore, 1) := by decide +kernel
theorem d_Selectors_begin_22 : decode prog_8_method_2_code 22 = .ok (.iinc 2 1, 3) := by decide +kernel
theorem d_Selectors_begin_25 : decode prog_8_method_2_code 25 = .ok (.goto (-18), 3) := by decide +kernel
theorem d_Selectors_begin_28 : decode prog_8_method_2_code 28 = .ok (.return_, 1) := by decide +kernel
theorem d_Selectors_moveAhead_0 : decode prog_8_method_5_code 0 = .ok (.aload_n 0, 1) := by decide +kernel
theorem d_Selectors_moveAhead_1 : decode prog_8_method_5_code 1 = .ok (.getfield 9, 3) := by decide +kernel
theorem d_Selectors_moveAhead_4 : decode prog_8_method_5_code 4 = .ok (.iload_n 1, 1) := by decide +kernel
theorem d_Selectors_moveAhead_5 : decode prog_8_method_5_code 5 = .ok (.iaload, 1) := by decide +kernel
theorem d_Selectors_moveAhead_6 : decode prog_8_method_5_code 6 = .ok (.istore_n 2, 1) := by decide +kernel
theorem d_Selectors_moveAhead_7 : decode prog_8_method_5_code 7 = .ok (.iload_n 1, 1) := by decide +kernel
theorem d_Selectors_moveAhead_8 : decode prog_8_method_5_code 8 = .ok (.istore_n 3, 1) := by decide +kernel
theorem d_Selectors_moveAhead_9 : decode prog_8_method_5_code 9 = .ok (.iload_n 3, 1) := by decide +kernel
theorem d_Selectors_moveAhead_10 : decode prog_8_method_5_code 10 = .ok (.ifCond .le 23, 3) := by decide +kernel
theorem d_Selectors_moveAhead_13 : decode prog_8_method_5_code 13 = .ok (.aload_n 0, 1) := by decide +kernel
theorem d_Selectors_moveAhead_14 : decode prog_8_method_5_code 14 = .ok (.getfield 9, 3) := by decide +kernel
theorem d_Selectors_moveAhead_17 : decode prog_8_method_5_code 17 = .ok (.iload_n 3, 1) := by decide +kernel
theorem d_Selectors_moveAhead_18 : decode prog_8_method_5_code 18 = .ok (.aload_n 0, 1) := by decide +kernel
theorem d_Selectors_moveAhead_19 : decode prog_8_method_5_code 19 = .ok (.getfield 9, 3) := by decide +kernel
theorem d_Selectors_moveAhead_22 : decode prog_8_method_5_code 22 = .ok (.iload_n 3, 1) := by decide +kernel
theorem d_Selectors_moveAhead_23 : decode prog_8_method_5_code 23 = .ok (.iconst 1, 1) := by decide +kernel
theorem d_Selectors_moveAhead_24 : decode prog_8_method_5_code 24 = .ok (.isub, 1) := by decide +kernel
theorem d_Selectors_moveAhead_25 : decode prog_8_method_5_code 25 = .ok (.iaload, 1) := by decide +kernel
theorem d_Selectors_moveAhead_26 : decode prog_8_method_5_code 26 = .ok (.iastore, 1) := by decide +kernel
theorem d_Selectors_moveAhead_27 : decode prog_8_method_5_code 27 = .ok (.iinc 3 (-1), 3) := by decide +kernel
theorem d_Selectors_moveAhead_30 : decode prog_8_method_5_code 30 = .ok (.goto (-21), 3) := by decide +kernel
theorem d_Selectors_moveAhead_33 : decode prog_8_method_5_code 33 = .ok (.aload_n 0, 1) := by decide +kernel
theorem d_Selectors_moveAhead_34 : decode prog_8_method_5_code 34 = .ok (.getfield 9, 3) := by decide +kernel
theorem d_Selectors_moveAhead_37 : decode prog_8_method_5_code 37 = .ok (.iconst 0, 1) := by decide +kernel
theorem d_Selectors_moveAhead_38 : decode prog_8_method_5_code 38 = .ok (.iload_n 2, 1) := by decide +kernel
theorem d_Selectors_moveAhead_39 : decode prog_8_method_5_code 39 = .ok (.iastore, 1) := by decide +kernel
theorem d_Selectors_moveAhead_40 : decode prog_8_method_5_code 40 = .ok (.return_, 1) := by decide +kernel
theorem d_Selectors_append_0 : decode prog_8_method_3_code 0 = .ok (.iconst 0, 1) := by decide +kernel
theorem d_Selectors_append_1 : decode prog_8_method_3_code 1 = .ok (.istore_n 3, 1) := by decide +kernel
theorem d_Selectors_append_2 : decode prog_8_method_3_code 2 = .ok (.iload_n 3, 1) := by decide +kernel
theorem d_Selectors_append_3 : decode prog_8_method_3_code 3 = .ok (.aload_n 0, 1) := by decide +kernel
theorem d_Selectors_append_4 : decode prog_8_method_3_code 4 = .ok (.getfield 15, 3) := by decide +kernel
theorem d_Selectors_append_7 : decode prog_8_method_3_code 7 = .ok (.iconst 1, 1) := by decide +kernel
theorem d_Selectors_append_8 : decode prog_8_method_3_code 8 = .ok (.isub, 1) := by decide +kernel
theorem d_Selectors_append_9 : decode prog_8_method_3_code 9 = .ok (.if_icmp .ge 24, 3) := by decide +kernel
theorem d_Selectors_append_12 : decode prog_8_method_3_code 12 = .ok (.aload_n 0, 1) := by decide +kernel
theorem d_Selectors_append_13 : decode prog_8_method_3_code 13 = .ok (.getfield 9, 3) := by decide +kernel
theorem d_Selectors_append_16 : decode prog_8_method_3_code 16 = .ok (.iload_n 3, 1) := by decide +kernel
theorem d_Selectors_append_17 : decode prog_8_method_3_code 17 = .ok (.iaload, 1) := by decide +kernel
theorem d_Selectors_append_18 : decode prog_8_method_3_code 18 = .ok (.iload_n 2, 1) := by decide +kernel
theorem d_Selectors_append_19 : decode prog_8_method_3_code 19 = .ok (.if_icmp .eq 14, 3) := by decide +kernel
theorem d_Selectors_append_22 : decode prog_8_method_3_code 22 = .ok (.aload_n 1, 1) := by decide +kernel
theorem d_Selectors_append_23 : decode prog_8_method_3_code 23 = .ok (.iconst 1, 1) := by decide +kernel
theorem d_Selectors_append_24 : decode prog_8_method_3_code 24 = .ok (.invokevirtual 19, 3) := by decide +kernel
theorem d_Selectors_append_27 : decode prog_8_method_3_code 27 = .ok (.iinc 3 1, 3) := by decide +kernel
theorem d_Selectors_append_30 : decode prog_8_method_3_code 30 = .ok (.goto (-28), 3) := by decide +kernel
theorem d_Selectors_append_33 : decode prog_8_method_3_code 33 = .ok (.aload_n 1, 1) := by decide +kernel
theorem d_Selectors_append_34 : decode prog_8_method_3_code 34 = .ok (.iconst 0, 1) := by decide +kernel
theorem d_Selectors_append_35 : decode prog_8_method_3_code 35 = .ok (.invokevirtual 19, 3) := by decide +kernel
theorem d_Selectors_append_38 : decode prog_8_method_3_code 38 = .ok (.aload_n 0, 1) := by decide +kernel
theorem d_Selectors_append_39 : decode prog_8_method_3_code 39 = .ok (.iload_n 3, 1) := by decide +kernel
theorem d_Selectors_append_40 : decode prog_8_method_3_code 40 = .ok (.invokevirtual 25, 3) := by decide +kernel
theorem d_Selectors_append_43 : decode prog_8_method_3_code 43 = .ok (.return_, 1) := by decide +kernel
theorem d_Choice_append_0 : decode prog_2_method_10_code 0 = .ok (.aload_n 0, 1) := by decide +kernel
theorem d_Choice_append_1 : decode prog_2_method_10_code 1 = .ok (.getfield 43, 3) := by decide +kernel
theorem d_Choice_append_4 : decode prog_2_method_10_code 4 = .ok (.aload_n 0, 1) := by decide +kernel
theorem d_Choice_append_5 : decode prog_2_method_10_code 5 = .ok (.getfield 34, 3) := by decide +kernel
theorem d_Choice_append_8 : decode prog_2_method_10_code 8 = .ok (.invokevirtual 104, 3) := by decide +kernel
theorem d_Choice_append_11 : decode prog_2_method_10_code 11 = .ok (.iconst 0, 1) := by decide +kernel
theorem d_Choice_append_12 : decode prog_2_method_10_code 12 = .ok (.istore_n 2, 1) := by decide +kernel
theorem d_Choice_append_13 : decode prog_2_method_10_code 13 = .ok (.iload_n 2, 1) := by decide +kernel
theorem d_Choice_append_14 : decode prog_2_method_10_code 14 = .ok (.aload_n 0, 1) := by decide +kernel
theorem d_Choice_append_15 : decode prog_2_method_10_code 15 = .ok (.getfield 22, 3) := by decide +kernel
theorem d_Choice_append_18 : decode prog_2_method_10_code 18 = .ok (.if_icmp .ge 23, 3) := by decide +kernel
theorem d_Choice_append_21 : decode prog_2_method_10_code 21 = .ok (.aload_n 0, 1) := by decide +kernel
theorem d_Choice_append_22 : decode prog_2_method_10_code 22 = .ok (.getfield 43, 3) := by decide +kernel
theorem d_Choice_append_25 : decode prog_2_method_10_code 25 = .ok (.aload_n 1, 1) := by decide +kernel
theorem d_Choice_append_26 : decode prog_2_method_10_code 26 = .ok (.aload_n 0, 1) := by decide +kernel
theorem d_Choice_append_27 : decode prog_2_method_10_code 27 = .ok (.getfield 25, 3) := by decide +kernel
theorem d_Choice_append_30 : decode prog_2_method_10_code 30 = .ok (.iload_n 2, 1) := by decide +kernel
theorem d_Choice_append_31 : decode prog_2_method_10_code 31 = .ok (.iaload, 1) := by decide +kernel
theorem d_Choice_append_32 : decode prog_2_method_10_code 32 = .ok (.invokevirtual 107, 3) := by decide +kernel
theorem d_Choice_append_35 : decode prog_2_method_10_code 35 = .ok (.iinc 2 1, 3) := by decide +kernel
theorem d_Choice_append_38 : decode prog_2_method_10_code 38 = .ok (.goto (-25), 3) := by decide +kernel
theorem d_Choice_append_41 : decode prog_2_method_10_code 41 = .ok (.iconst 0, 1) := by decide +kernel
theorem d_Choice_append_42 : decode prog_2_method_10_code 42 = .ok (.istore_n 2, 1) := by decide +kernel
theorem d_Choice_append_43 : decode prog_2_method_10_code 43 = .ok (.iload_n 2, 1) := by decide +kernel
theorem d_Choice_append_44 : decode prog_2_method_10_code 44 = .ok (.aload_n 0, 1) := by decide +kernel
theorem d_Choice_append_45 : decode prog_2_method_10_code 45 = .ok (.getfield 22, 3) := by decide +kernel
theorem d_Choice_append_48 : decode prog_2_method_10_code 48 = .ok (.if_icmp .ge 77, 3) := by decide +kernel
theorem d_Choice_append_51 : decode prog_2_method_10_code 51 = .ok (.aload_n 0, 1) := by decide +kernel
theorem d_Choice_append_52 : decode prog_2_method_10_code 52 = .ok (.getfield 30, 3) := by decide +kernel
theorem d_Choice_append_55 : decode prog_2_method_10_code 55 = .ok (.aload_n 0, 1) := by decide +kernel
theorem d_Choice_append_56 : decode prog_2_method_10_code 56 = .ok (.getfield 25, 3) := by decide +kernel
theorem d_Choice_append_59 : decode prog_2_method_10_code 59 = .ok (.iload_n 2, 1) := by decide +kernel
theorem d_Choice_append_60 : decode prog_2_method_10_code 60 = .ok (.iaload, 1) := by decide +kernel
theorem d_Choice_append_61 : decode prog_2_method_10_code 61 = .ok (.aaload, 1) := by decide +kernel
theorem d_Choice_append_62 : decode prog_2_method_10_code 62 = .ok (.astore_n 3, 1) := by decide +kernel
theorem d_Choice_append_63 : decode prog_2_method_10_code 63 = .ok (.iload_n 2, 1) := by decide +kernel
theorem d_Choice_append_64 : decode prog_2_method_10_code 64 = .ok (.aload_n 0, 1) := by decide +kernel
theorem d_Choice_append_65 : decode prog_2_method_10_code 65 = .ok (.getfield 19, 3) := by decide +kernel
theorem d_Choice_append_68 : decode prog_2_method_10_code 68 = .ok (.imul, 1) := by decide +kernel
theorem d_Choice_append_69 : decode prog_2_method_10_code 69 = .ok (.istore 4, 2) := by decide +kernel
theorem d_Choice_append_71 : decode prog_2_method_10_code 71 = .ok (.iload 4, 2) := by decide +kernel
theorem d_Choice_append_73 : decode prog_2_method_10_code 73 = .ok (.aload_n 0, 1) := by decide +kernel
theorem d_Choice_append_74 : decode prog_2_method_10_code 74 = .ok (.iload_n 2, 1) := by decide +kernel
theorem d_Choice_append_75 : decode prog_2_method_10_code 75 = .ok (.invokevirtual 90, 3) := by decide +kernel
theorem d_Choice_append_78 : decode prog_2_method_10_code 78 = .ok (.if_icmp .ge 41, 3) := by decide +kernel
theorem d_Choice_append_81 : decode prog_2_method_10_code 81 = .ok (.aload_n 3, 1) := by decide +kernel
theorem d_Choice_append_82 : decode prog_2_method_10_code 82 = .ok (.ifnull 37, 3) := by decide +kernel
theorem d_Choice_append_85 : decode prog_2_method_10_code 85 = .ok (.aload_n 1, 1) := by decide +kernel
theorem d_Choice_append_86 : decode prog_2_method_10_code 86 = .ok (.aload_n 3, 1) := by decide +kernel
theorem d_Choice_append_87 : decode prog_2_method_10_code 87 = .ok (.getfield 111, 3) := by decide +kernel
theorem d_Choice_append_90 : decode prog_2_method_10_code 90 = .ok (.aload_n 0, 1) := by decide +kernel
theorem d_Choice_append_91 : decode prog_2_method_10_code 91 = .ok (.getfield 9, 3) := by decide +kernel
theorem d_Choice_append_94 : decode prog_2_method_10_code 94 = .ok (.iload 4, 2) := by decide +kernel
theorem d_Choice_append_96 : decode prog_2_method_10_code 96 = .ok (.iaload, 1) := by decide +kernel
theorem d_Choice_append_97 : decode prog_2_method_10_code 97 = .ok (.iaload, 1) := by decide +kernel
theorem d_Choice_append_98 : decode prog_2_method_10_code 98 = .ok (.aload_n 3, 1) := by decide +kernel
theorem d_Choice_append_99 : decode prog_2_method_10_code 99 = .ok (.getfield 97, 3) := by decide +kernel
theorem d_Choice_append_102 : decode prog_2_method_10_code 102 = .ok (.aload_n 0, 1) := by decide +kernel
theorem d_Choice_append_103 : decode prog_2_method_10_code 103 = .ok (.getfield 9, 3) := by decide +kernel
theorem d_Choice_append_106 : decode prog_2_method_10_code 106 = .ok (.iload 4, 2) := by decide +kernel
theorem d_Choice_append_108 : decode prog_2_method_10_code 108 = .ok (.iaload, 1) := by decide +kernel
theorem d_Choice_append_109 : decode prog_2_method_10_code 109 = .ok (.iaload, 1) := by decide +kernel
theorem d_Choice_append_110 : decode prog_2_method_10_code 110 = .ok (.invokevirtual 114, 3) := by decide +kernel
theorem d_Choice_append_113 : decode prog_2_method_10_code 113 = .ok (.iinc 4 1, 3) := by decide +kernel
theorem d_Choice_append_116 : decode prog_2_method_10_code 116 = .ok (.goto (-45), 3) := by decide +kernel
theorem d_Choice_append_119 : decode prog_2_method_10_code 119 = .ok (.iinc 2 1, 3) := by decide +kernel
theorem d_Choice_append_122 : decode prog_2_method_10_code 122 = .ok (.goto (-79), 3) := by decide +kernel
theorem d_Choice_append_125 : decode prog_2_method_10_code 125 = .ok (.return_, 1) := by decide +kernel
noncomputable def lb_Choice_bitsBy_24 (a2 : Int32) (j1 : Nat) (σ : St) (v4 : Int32) (v5 : Int32) : Option ((St × Int32 × Int32) ⊕ ((St × Int32 × Int32))) :=
  b2 (f_Choice_endOf σ a2) fun σ3 x4 =>
  if x4 ≤ v5 then
    some (.inr (σ3, v4, v5))
  else
  gd (ib v5 1000) <|
  gd (ib (σ3.1 31 0 v5.toNatClampNeg) 64) <|
  nm (v4 + (σ3.1 42 j1 (σ3.1 31 0 v5.toNatClampNeg).toNatClampNeg)) fun x5 =>
  nm (v5 + 1) fun x6 =>
  some (.inl (σ3, x5, x6))
noncomputable def f_Choice_bitsBy (σ : St) (a1 : Int32) (a2 : Int32) : Option (St × Int32) :=
  gd (ib a1 6) <|
  on (σ.2.2.1 33 0 a1.toNatClampNeg) (
    none
    ) fun j1 =>
  nm (a2 * (σ.1 30 0 2)) fun x2 =>
  b3 (lpE (fun q => lb_Choice_bitsBy_24 a2 j1 q.1 q.2.1 q.2.2) (σ, 0, x2)) fun σ7 x8 x9 =>
  some (σ7, x8)
noncomputable def lb_Choice_regroup_22 (v1 : Int32) (σ : St) (v2 : Int32) (v3 : Int32) (v4 : Int32) : Option ((St × Int32 × Int32 × Int32) ⊕ ((St × Int32 × Int32 × Int32))) :=
  if (σ.1 30 0 6) ≤ v4 then
    some (.inr (σ, v2, v3, v4))
  else
  b2 (f_Choice_bitsBy σ v4 v1) fun σ3 x4 =>
  if v3 ≤ x4 then
    nm (v4 + 1) fun x5 =>
    some (.inl (σ3, v2, v3, x5))
  else
  nm (v4 + 1) fun x6 =>
  some (.inl (σ3, v4, x4, x6))
noncomputable def lb_Choice_regroup_2 (σ : St) (v1 : Int32) : Option ((St × Int32) ⊕ ((St × Int32))) :=
  if (σ.1 30 0 3) ≤ v1 then
    some (.inr (σ, v1))
  else
  b2 (f_Choice_bitsBy σ 0 v1) fun σ1 x2 =>
  b4 (lpE (fun q => lb_Choice_regroup_22 v1 q.1 q.2.1 q.2.2.1 q.2.2.2) (σ1, 0, x2, 1)) fun σ7 x8 x9 x10 =>
  gd (ib v1 1000) <|
  nm (sI σ7 32 0 (v1.toNatClampNeg) x8) fun σ11 =>
  nm (v1 + 1) fun x12 =>
  some (.inl (σ11, x12))
noncomputable def f_Choice_regroup (σ : St) : Option (St) :=
  b2 (lpE (fun q => lb_Choice_regroup_2 q.1 q.2) (σ, 0)) fun σ13 x14 =>
  some σ13
noncomputable def lb_Choice_settle_3 (a2 : Int32) (a3 : Int32) (σ : St) (v4 : Int32) : Option ((St × Int32) ⊕ ((St × Int32))) :=
  if a3 ≤ v4 then
    some (.inr (σ, v4))
  else
  b1 (f_Choice_fitCodes σ a2) fun σ1 =>
  b1 (f_Choice_regroup σ1) fun σ2 =>
  nm (v4 + 1) fun x3 =>
  some (.inl (σ2, x3))
noncomputable def f_Choice_settle (σ : St) (a2 : Int32) (a3 : Int32) : Option (St) :=
  b2 (lpE (fun q => lb_Choice_settle_3 a2 a3 q.1 q.2) (σ, 0)) fun σ4 x5 =>
  b1 (f_Choice_fitCodes σ4 a2) fun σ6 =>
  some σ6
noncomputable def f_PC_group (σ : St) (a1 : Int32) : Option (St × Int32) :=
  if (σ.1 30 0 3) = 0 then
    some (σ, (-103))
  else
  b2 (f_PC_isOutside σ a1 0 ((σ.1 30 0 3) - 1)) fun σ1 x2 =>
  if x2 = 0 then
    gd (ib a1 1000) <|
    some (σ1, σ1.1 32 0 a1.toNatClampNeg)
  else
  some (σ1, (-102))
noncomputable def lb_Choice_canBeWritten_29 (v1 : Int32) (j1 : Nat) (σ : St) (v3 : Int32) : Option ((St × Int32) ⊕ ((St × Int32) ⊕ (St × Int32))) :=
  b2 (f_Choice_endOf σ v1) fun σ3 x4 =>
  if x4 ≤ v3 then
    some (.inr (.inl (σ3, v3)))
  else
  gd (ib v3 1000) <|
  b2 (f_Code_hasWord σ3 j1 (σ3.1 31 0 v3.toNatClampNeg)) fun σ5 x6 =>
  if x6 = 0 then
    some (.inr (.inr (σ5, 0)))
  else
  nm (v3 + 1) fun x7 =>
  some (.inl (σ5, x7))
noncomputable def lb_Choice_canBeWritten_2 (σ : St) (v1 : Int32) : Option ((St × Int32) ⊕ ((St × Int32) ⊕ (St × Int32))) :=
  if (σ.1 30 0 3) ≤ v1 then
    some (.inr (.inl (σ, v1)))
  else
  gd (ib v1 1000) <|
  gd (ib (σ.1 32 0 v1.toNatClampNeg) 6) <|
  on (σ.2.2.1 33 0 (σ.1 32 0 v1.toNatClampNeg).toNatClampNeg) (
    none
    ) fun j1 =>
  nm (v1 * (σ.1 30 0 2)) fun x2 =>
  bs2 (lpE (fun q => lb_Choice_canBeWritten_29 v1 j1 q.1 q.2) (σ, x2)) (fun z => some (.inr (.inr z))) fun σ8 x9 =>
  nm (v1 + 1) fun x10 =>
  some (.inl (σ8, x10))
noncomputable def f_Choice_canBeWritten (σ : St) : Option (St × Int32) :=
  bs2 (lpE (fun q => lb_Choice_canBeWritten_2 q.1 q.2) (σ, 0)) (fun z => some z) fun σ11 x12 =>
  some (σ11, 1)
noncomputable def lb_Selectors_begin_7 (iT : Nat) (σ : St) (v2 : Int32) : Option ((St × Int32) ⊕ ((St × Int32))) :=
  if (σ.1 39 iT 1) ≤ v2 then
    some (.inr (σ, v2))
  else
  gd (ib v2 6) <|
  nm (sI σ 40 iT (v2.toNatClampNeg) v2) fun σ2 =>
  nm (v2 + 1) fun x3 =>
  some (.inl (σ2, x3))
noncomputable def f_Selectors_begin (σ : St) (iT : Nat) (a1 : Int32) : Option (St) :=
  nm (sI σ 39 iT 1 a1) fun σ1 =>
  b2 (lpE (fun q => lb_Selectors_begin_7 iT q.1 q.2) (σ1, 0)) fun σ4 x5 =>
  some σ4
noncomputable def lb_Selectors_moveAhead_9 (iT : Nat) (x1 : Int32) (σ : St) (v3 : Int32) : Option ((St × Int32) ⊕ ((St × Int32))) :=
  if v3 ≤ 0 then
    some (.inr (σ, v3))
  else
  gd (ib (v3 - 1) 6) <|
  gd (ib v3 6) <|
  nm (sI σ 40 iT (v3.toNatClampNeg) (σ.1 40 iT (v3 - 1).toNatClampNeg)) fun σ2 =>
  nm (v3 + (-1)) fun x3 =>
  some (.inl (σ2, x3))
noncomputable def f_Selectors_moveAhead (σ : St) (iT : Nat) (a1 : Int32) : Option (St) :=
  gd (ib a1 6) <|
  nm (σ.1 40 iT a1.toNatClampNeg) fun x1 =>
  b2 (lpE (fun q => lb_Selectors_moveAhead_9 iT x1 q.1 q.2) (σ, a1)) fun σ4 x5 =>
  gd (ib 0 6) <|
  nm (sI σ4 40 iT ((0 : Int32).toNatClampNeg) x1) fun σ6 =>
  some σ6
noncomputable def lb_Selectors_append_2 (iT : Nat) (a2 : Int32) (σ : St) (v3 : Int32) : Option ((St × Int32) ⊕ ((St × Int32))) :=
  if ((σ.1 39 iT 1) - 1) ≤ v3 then
    some (.inr (σ, v3))
  else
  gd (ib v3 6) <|
  if (σ.1 40 iT v3.toNatClampNeg) = a2 then
    some (.inr (σ, v3))
  else
  b1 (f_Stream_append σ 1) fun σ1 =>
  nm (v3 + 1) fun x2 =>
  some (.inl (σ1, x2))
noncomputable def f_Selectors_append (σ : St) (iT : Nat) (a2 : Int32) : Option (St) :=
  b2 (lpE (fun q => lb_Selectors_append_2 iT a2 q.1 q.2) (σ, 0)) fun σ3 x4 =>
  b1 (f_Stream_append σ3 0) fun σ5 =>
  b1 (f_Selectors_moveAhead σ5 iT x4) fun σ6 =>
  some σ6
noncomputable def lb_Choice_append_13 (σ : St) (v2 : Int32) : Option ((St × Int32) ⊕ ((St × Int32))) :=
  if (σ.1 30 0 3) ≤ v2 then
    some (.inr (σ, v2))
  else
  gd (ib v2 1000) <|
  b1 (f_Selectors_append σ 0 (σ.1 32 0 v2.toNatClampNeg)) fun σ2 =>
  nm (v2 + 1) fun x3 =>
  some (.inl (σ2, x3))
noncomputable def lb_Choice_append_71 (v2 : Int32) (j6 : Nat) (σ : St) (v4 : Int32) : Option ((St × Int32) ⊕ ((St × Int32))) :=
  b2 (f_Choice_endOf σ v2) fun σ8 x9 =>
  if x9 ≤ v4 then
    some (.inr (σ8, v4))
  else
  gd (ib v4 1000) <|
  gd (ib (σ8.1 31 0 v4.toNatClampNeg) 64) <|
  gd (ib v4 1000) <|
  gd (ib (σ8.1 31 0 v4.toNatClampNeg) 64) <|
  b1 (f_Stream_appendNumber σ8 (σ8.1 43 j6 (σ8.1 31 0 v4.toNatClampNeg).toNatClampNeg) (σ8.1 42 j6 (σ8.1 31 0 v4.toNatClampNeg).toNatClampNeg)) fun σ10 =>
  nm (v4 + 1) fun x11 =>
  some (.inl (σ10, x11))
noncomputable def lb_Choice_append_43 (σ : St) (v2 : Int32) : Option ((St × Int32) ⊕ ((St × Int32))) :=
  if (σ.1 30 0 3) ≤ v2 then
    some (.inr (σ, v2))
  else
  gd (ib v2 1000) <|
  gd (ib (σ.1 32 0 v2.toNatClampNeg) 6) <|
  on (σ.2.2.1 33 0 (σ.1 32 0 v2.toNatClampNeg).toNatClampNeg) (
    none
    ) fun j6 =>
  nm (v2 * (σ.1 30 0 2)) fun x7 =>
  b2 (lpE (fun q => lb_Choice_append_71 v2 j6 q.1 q.2) (σ, x7)) fun σ12 x13 =>
  nm (v2 + 1) fun x14 =>
  some (.inl (σ12, x14))
noncomputable def f_Choice_append (σ : St) : Option (St) :=
  b1 (f_Selectors_begin σ 0 (σ.1 30 0 6)) fun σ1 =>
  b2 (lpE (fun q => lb_Choice_append_13 q.1 q.2) (σ1, 0)) fun σ4 x5 =>
  b2 (lpE (fun q => lb_Choice_append_43 q.1 q.2) (σ4, 0)) fun σ15 x16 =>
  some σ15
set_option maxHeartbeats 4000000 in
set_option maxRecDepth 100000 in
theorem c_Choice_bitsBy (l : Launch) (D : va_G) (aC : Nat → ClassId) (A : Nat → Prop) (ad : Nat → Nat → Nat) (n : Nat) (σ : St) (a1 : Int32) (a2 : Int32) (o : St × Int32) (h : f_Choice_bitsBy σ a1 a2 = some o) : Met l y_Choice_bitsBy w_Choice_bitsBy rm_Choice_bitsBy (va_Pc [.ref (ad 30 0), .int a1, .int a2] (Pre D aC A ad n σ)) (va_Qi (fun r (_ : Unit) => r = o.2) (fun _ t => Hold D aC A ad n o.1 t.heap) A) 0 0 A := by
  refine Met.ofW (cc := prog_2_method_8_code) (maxL := 6) (ret := (some .int)) (by decide) rfl ?_
  intro p e s m args below meth c s₁ B hml hv
  obtain ⟨hargs, hH, hK, hZ⟩ := hv
  have hx := B.exec
  have hb := B.bytes
  have hr := B.returns
  have hts := atoms_spec (ws := w_Choice_bitsBy) B.pre
  have hg : ∀ w ∈ gW, w.before args s = true := fun w h => hts w (List.mem_cons_of_mem _ h)
  have hown : s.vm.findClass "PrefixCodes$Choice" = some m.cls := findClass_of_methodNamed B.named
  have hlocks := B.notSynchronized
  have hS : va_S A s.heap s.heap [] := va_S.rf
  have hl := lv_entry ([.ref (ad 30 0), .int a1, .int a2]) (n := 6) (Nat.le_of_ble_eq_true rfl)
  rw [show entryFrame m args 6 = entryFrame m (([.ref (ad 30 0), .int a1, .int a2] : List Value).toArray) 6 by rw [hargs], lg_entry_eq]
  generalize (lg_sl ([.ref (ad 30 0), .int a1, .int a2]) ++ List.replicate (6 - (lg_sl ([.ref (ad 30 0), .int a1, .int a2])).length) Slot.unset).toArray = ls at hl ⊢
  have hl : lv_has ls 6 [(0, .ref (ad 30 0)), (1, .int a1), (2, .int a2)] := hl
  generalize hQ0 : MQ below (va_Qi (fun r (_ : Unit) => r = o.2) (fun _ t => Hold D aC A ad n o.1 t.heap) A) args s 0 0 A = Q0
  unfold f_Choice_bitsBy at h
  refine lv_aload_n hx hb d_Choice_bitsBy_0 rfl (lv_at hl 0 rfl) ?_
  refine st_get hx hb hg hown hK hH (f := 30) (i := 0) hd_30 rfl rfl u_Choice 5 (by decide) (hg _ wd_344) (v := .ref (ad 33 0)) rfl d_Choice_bitsBy_1 ?_
  refine lv_iload_n hx hb d_Choice_bitsBy_4 rfl (lv_at hl 1 rfl) ?_
  obtain ⟨g5, h⟩ := gd_some h
  obtain ⟨j1, c5, h⟩ := on_some h
  refine st_aald hx hb hK hH (f := 33) (i := 0) hd_33 rfl (by decide) g5 d_Choice_bitsBy_5 c5 (fun hdj1 => ?_)
  refine lv_astore_n (lv' := [(3, .ref (ad 41 j1)), (0, .ref (ad 30 0)), (1, .int a1), (2, .int a2)]) hx hb d_Choice_bitsBy_6 rfl hl (by decide) rfl (fun ls hl => ?_)
  refine lv_aload_n hx hb d_Choice_bitsBy_7 rfl (lv_at hl 0 rfl) ?_
  refine lv_ifnonnull (tgt := 13) hx hb d_Choice_bitsBy_8 (by decide) ?_
  refine lv_iconst (v := 0) hx hb d_Choice_bitsBy_13 (by decide) ?_
  refine lv_istore (lv' := [(4, .int 0), (3, .ref (ad 41 j1)), (0, .ref (ad 30 0)), (1, .int a1), (2, .int a2)]) hx hb d_Choice_bitsBy_14 hl (by decide) rfl (fun ls hl => ?_)
  refine lv_iload_n hx hb d_Choice_bitsBy_16 rfl (lv_at hl 4 rfl) ?_
  refine lv_aload_n hx hb d_Choice_bitsBy_17 rfl (lv_at hl 2 rfl) ?_
  refine st_get hx hb hg hown hK hH (f := 30) (i := 0) hd_30 rfl rfl u_Choice 2 (by decide) (hg _ wd_333) (v := .int (σ.1 30 0 2)) rfl d_Choice_bitsBy_18 ?_
  refine lv_imul hx hb d_Choice_bitsBy_21 ?_
  refine lv_topi (fun x2 ex2 => ?_)
  have h := nm_at ex2 h
  refine lv_istore (lv' := [(5, .int x2), (4, .int 0), (3, .ref (ad 41 j1)), (0, .ref (ad 30 0)), (1, .int a1), (2, .int a2)]) hx hb d_Choice_bitsBy_22 hl (by decide) rfl (fun ls hl => ?_)
  obtain ⟨q1, hq1, h⟩ := b3_some h
  have K1 : ∀ (σ7 : St) (x8 : Int32) (x9 : Int32) (H : Heap) (locs : List Loc) (ls : Array Slot), q1 = (σ7, x8, x9) → Hold D aC A ad n σ7 H → va_S A s.heap H locs → lv_has ls 6 [(0, .ref (ad 30 0)), (2, .int a2), (3, .ref (ad 41 j1)), (4, .int x8), (5, .int x9)] → W p l e (headSpec w_Choice_bitsBy rm_Choice_bitsBy).room s m args below meth c H locs 0 0 Q0 (F0 m 57 ls []) := by
    intro σ7 x8 x9 H locs ls eq1 hH hS hl
    subst eq1
    have h := b3_at h
    refine lv_iload hx hb d_Choice_bitsBy_57 (lv_at hl 3 rfl) ?_
    cases h
    rw [← hQ0]
    exact W.iret hx hb hr (fun t ht hW => ⟨⟨_, (), rfl, rfl, by dsimp only; rw [ht]; exact hH⟩, hS.F ht⟩) hS.2.2 d_Choice_bitsBy_59
  have loop1 : ∀ (k : Nat) (σ : St) (v4 : Int32) (v5 : Int32) (H : Heap) (locs : List Loc) (ls : Array Slot), Hold D aC A ad n σ H → va_S A s.heap H locs → lv_has ls 6 [(0, .ref (ad 30 0)), (2, .int a2), (3, .ref (ad 41 j1)), (4, .int v4), (5, .int v5)] → lp (fun q => lb_Choice_bitsBy_24 a2 j1 q.1 q.2.1 q.2.2) k (σ, v4, v5) = some q1 → W p l e (headSpec w_Choice_bitsBy rm_Choice_bitsBy).room s m args below meth c H locs 0 0 Q0 (F0 m 24 ls []) := by
    intro k
    induction k with
    | zero => intro σ v4 v5 H locs ls hH hS hl hlp; exact absurd hlp (lp_zero _ _ _)
    | succ k ih1 =>
      intro σ v4 v5 H locs ls hH hS hl hlp
      obtain ⟨z1, h1, hk1⟩ := lp_succ hlp
      have h1 : lb_Choice_bitsBy_24 a2 j1 σ v4 v5 = some z1 := h1
      unfold lb_Choice_bitsBy_24 at h1
      refine lv_iload hx hb d_Choice_bitsBy_24 (lv_at hl 4 rfl) ?_
      refine lv_aload_n hx hb d_Choice_bitsBy_26 rfl (lv_at hl 0 rfl) ?_
      refine lv_iload_n hx hb d_Choice_bitsBy_27 rfl (lv_at hl 1 rfl) ?_
      obtain ⟨qc, hc28, h1⟩ := b2_some h1
      obtain ⟨σ3, x4⟩ := qc
      have h1 := b2_at h1
      refine st_Vi (As := [.int a2]) (rest := [.int v5]) ⟨hx, hb, hml, hown, hg⟩ (c_Choice_endOf l D aC A ad n _ a2 _ hc28) (cwG hg wd_339 wd_340 wd_342 wd_343 wd_341 yd_Choice_endOf ⟨Nat.le_of_ble_eq_true rfl, Nat.le_of_ble_eq_true rfl⟩) hK hH hS hZ hd_30 rfl rfl rfl hl.1 rfl (Nat.le_of_ble_eq_true rfl) d_Choice_bitsBy_28 ⟨Nat.zero_le _, Nat.zero_le _⟩ (fun H locs hH hS => ?_)
      refine lv_icmp_ge (tgt := 57) hx hb d_Choice_bitsBy_31 (by decide) (fun c31 => ?_) (fun c31 => ?_)
      · have h1 := it h1 c31
        cases h1
        exact K1 σ3 v4 v5 _ _ ls (Option.some.inj hk1).symm hH hS (lv_sub hl [0, 1, 2, 3, 4] rfl)
      · have h1 := ie h1 c31
        refine lv_iload hx hb d_Choice_bitsBy_34 (lv_at hl 3 rfl) ?_
        refine lv_aload_n hx hb d_Choice_bitsBy_36 rfl (lv_at hl 2 rfl) ?_
        refine st_get hx hb hg hown hK hH (f := 41) (i := j1) hdj1 rfl rfl u_Code 1 (by decide) (hg _ wd_350) (v := .ref (ad 42 j1)) rfl d_Choice_bitsBy_37 ?_
        refine lv_aload_n hx hb d_Choice_bitsBy_40 rfl (lv_at hl 0 rfl) ?_
        refine st_get hx hb hg hown hK hH (f := 30) (i := 0) hd_30 rfl rfl u_Choice 0 (by decide) (hg _ wd_330) (v := .ref (ad 31 0)) rfl d_Choice_bitsBy_41 ?_
        refine lv_iload hx hb d_Choice_bitsBy_44 (lv_at hl 4 rfl) ?_
        obtain ⟨g46, h1⟩ := gd_some h1
        refine st_iald hx hb hK hH (f := 31) (i := 0) hd_31 rfl g46 d_Choice_bitsBy_46 ?_
        obtain ⟨g47, h1⟩ := gd_some h1
        refine st_iald hx hb hK hH (f := 42) (i := j1) hdj1 rfl g47 d_Choice_bitsBy_47 ?_
        refine lv_iadd hx hb d_Choice_bitsBy_48 ?_
        refine lv_topi (fun x5 ex5 => ?_)
        have h1 := nm_at ex5 h1
        refine lv_istore (lv' := [(4, .int x5), (0, .ref (ad 30 0)), (2, .int a2), (3, .ref (ad 41 j1)), (5, .int v5)]) hx hb d_Choice_bitsBy_49 hl (by decide) rfl (fun ls hl => ?_)
        obtain ⟨x6, ex6⟩ : ∃ y : Int32, y = v5 + 1 := ⟨_, rfl⟩
        have h1 := nm_at ex6 h1
        refine lv_iinc (v := x6) (lv' := [(5, .int x6), (4, .int x5), (0, .ref (ad 30 0)), (2, .int a2), (3, .ref (ad 41 j1))]) hx hb d_Choice_bitsBy_51 hl (k := 4) rfl (by rw [ex6]; rfl) (by decide) rfl (fun ls hl => ?_)
        refine lv_goto (tgt := 24) hx hb d_Choice_bitsBy_54 (by decide) ?_
        cases h1
        exact ih1 σ3 x5 x6 _ _ ls hH hS (lv_sub hl [2, 3, 4, 1, 0] rfl) hk1
  obtain ⟨k1, hq1⟩ := lpE_some hq1
  exact loop1 k1 σ 0 x2 _ _ ls hH hS (lv_sub hl [3, 5, 2, 1, 0] rfl) hq1
set_option maxHeartbeats 4000000 in
set_option maxRecDepth 100000 in
theorem c_Choice_regroup (l : Launch) (D : va_G) (aC : Nat → ClassId) (A : Nat → Prop) (ad : Nat → Nat → Nat) (n : Nat) (σ : St) (o : St) (h : f_Choice_regroup σ  = some o) : Met l y_Choice_regroup w_Choice_regroup rm_Choice_regroup (va_Pc [.ref (ad 30 0)] (Pre D aC A ad n σ)) (va_Qv (fun (_ : Unit) => True) (fun _ t => Hold D aC A ad n o t.heap) A) 0 0 A := by
  refine Met.ofW (cc := prog_2_method_7_code) (maxL := 6) (ret := none) (by decide) rfl ?_
  intro p e s m args below meth c s₁ B hml hv
  obtain ⟨hargs, hH, hK, hZ⟩ := hv
  have hx := B.exec
  have hb := B.bytes
  have hr := B.returns
  have hts := atoms_spec (ws := w_Choice_regroup) B.pre
  have hg : ∀ w ∈ gW, w.before args s = true := fun w h => hts w (List.mem_cons_of_mem _ h)
  have hown : s.vm.findClass "PrefixCodes$Choice" = some m.cls := findClass_of_methodNamed B.named
  have hlocks := B.notSynchronized
  have hS : va_S A s.heap s.heap [] := va_S.rf
  have hl := lv_entry ([.ref (ad 30 0)]) (n := 6) (Nat.le_of_ble_eq_true rfl)
  rw [show entryFrame m args 6 = entryFrame m (([.ref (ad 30 0)] : List Value).toArray) 6 by rw [hargs], lg_entry_eq]
  generalize (lg_sl ([.ref (ad 30 0)]) ++ List.replicate (6 - (lg_sl ([.ref (ad 30 0)])).length) Slot.unset).toArray = ls at hl ⊢
  have hl : lv_has ls 6 [(0, .ref (ad 30 0))] := hl
  generalize hQ0 : MQ below (va_Qv (fun (_ : Unit) => True) (fun _ t => Hold D aC A ad n o t.heap) A) args s 0 0 A = Q0
  unfold f_Choice_regroup at h
  refine lv_iconst (v := 0) hx hb d_Choice_regroup_0 (by decide) ?_
  refine lv_istore_n (lv' := [(1, .int 0), (0, .ref (ad 30 0))]) hx hb d_Choice_regroup_1 rfl hl (by decide) rfl (fun ls hl => ?_)
  obtain ⟨q1, hq1, h⟩ := b2_some h
  have K1 : ∀ (σ13 : St) (x14 : Int32) (H : Heap) (locs : List Loc) (ls : Array Slot), q1 = (σ13, x14) → Hold D aC A ad n σ13 H → va_S A s.heap H locs → lv_has ls 6 [(0, .ref (ad 30 0)), (1, .int x14)] → W p l e (headSpec w_Choice_regroup rm_Choice_regroup).room s m args below meth c H locs 0 0 Q0 (F0 m 71 ls []) := by
    intro σ13 x14 H locs ls eq1 hH hS hl
    subst eq1
    have h := b2_at h
    cases h
    rw [← hQ0]
    exact W.vret hx hb hr (fun t ht hW => ⟨⟨(), rfl, trivial, by dsimp only; rw [ht]; exact hH⟩, hS.F ht⟩) hS.2.2 d_Choice_regroup_71
  have loop1 : ∀ (k : Nat) (σ : St) (v1 : Int32) (H : Heap) (locs : List Loc) (ls : Array Slot), Hold D aC A ad n σ H → va_S A s.heap H locs → lv_has ls 6 [(0, .ref (ad 30 0)), (1, .int v1)] → lp (fun q => lb_Choice_regroup_2 q.1 q.2) k (σ, v1) = some q1 → W p l e (headSpec w_Choice_regroup rm_Choice_regroup).room s m args below meth c H locs 0 0 Q0 (F0 m 2 ls []) := by
    intro k
    induction k with
    | zero => intro σ v1 H locs ls hH hS hl hlp; exact absurd hlp (lp_zero _ _ _)
    | succ k ih1 =>
      intro σ v1 H locs ls hH hS hl hlp
      obtain ⟨z1, h1, hk1⟩ := lp_succ hlp
      have h1 : lb_Choice_regroup_2 σ v1 = some z1 := h1
      unfold lb_Choice_regroup_2 at h1
      refine lv_iload_n hx hb d_Choice_regroup_2 rfl (lv_at hl 1 rfl) ?_
      refine lv_aload_n hx hb d_Choice_regroup_3 rfl (lv_at hl 0 rfl) ?_
      refine st_get hx hb hg hown hK hH (f := 30) (i := 0) hd_30 rfl rfl u_Choice 3 (by decide) (hg _ wd_334) (v := .int (σ.1 30 0 3)) rfl d_Choice_regroup_4 ?_
      refine lv_icmp_ge (tgt := 71) hx hb d_Choice_regroup_7 (by decide) (fun c7 => ?_) (fun c7 => ?_)
      · have h1 := it h1 c7
        cases h1
        exact K1 σ v1 _ _ ls (Option.some.inj hk1).symm hH hS (lv_sub hl [0, 1] rfl)
      · have h1 := ie h1 c7
        refine lv_iconst (v := 0) hx hb d_Choice_regroup_10 (by decide) ?_
        refine lv_istore_n (lv' := [(2, .int 0), (0, .ref (ad 30 0)), (1, .int v1)]) hx hb d_Choice_regroup_11 rfl hl (by decide) rfl (fun ls hl => ?_)
        refine lv_aload_n hx hb d_Choice_regroup_12 rfl (lv_at hl 1 rfl) ?_
        refine lv_iconst (v := 0) hx hb d_Choice_regroup_13 (by decide) ?_
        refine lv_iload_n hx hb d_Choice_regroup_14 rfl (lv_at hl 2 rfl) ?_
        obtain ⟨qc, hc15, h1⟩ := b2_some h1
        obtain ⟨σ1, x2⟩ := qc
        have h1 := b2_at h1
        refine st_Vi (As := [.int 0, .int v1]) (rest := []) ⟨hx, hb, hml, hown, hg⟩ (c_Choice_bitsBy l D aC A ad n _ 0 v1 _ hc15) (cwG hg wd_351 wd_352 wd_353 wd_354 wd_341 yd_Choice_bitsBy ⟨Nat.le_of_ble_eq_true rfl, Nat.le_of_ble_eq_true rfl⟩) hK hH hS hZ hd_30 rfl rfl rfl hl.1 rfl (Nat.le_of_ble_eq_true rfl) d_Choice_regroup_15 ⟨Nat.zero_le _, Nat.zero_le _⟩ (fun H locs hH hS => ?_)
        refine lv_istore_n (lv' := [(3, .int x2), (2, .int 0), (0, .ref (ad 30 0)), (1, .int v1)]) hx hb d_Choice_regroup_18 rfl hl (by decide) rfl (fun ls hl => ?_)
        refine lv_iconst (v := 1) hx hb d_Choice_regroup_19 (by decide) ?_
        refine lv_istore (lv' := [(4, .int 1), (3, .int x2), (2, .int 0), (0, .ref (ad 30 0)), (1, .int v1)]) hx hb d_Choice_regroup_20 hl (by decide) rfl (fun ls hl => ?_)
        obtain ⟨q2, hq2, h1⟩ := b4_some h1
        have K2 : ∀ (σ7 : St) (x8 : Int32) (x9 : Int32) (x10 : Int32) (H : Heap) (locs : List Loc) (ls : Array Slot), q2 = (σ7, x8, x9, x10) → Hold D aC A ad n σ7 H → va_S A s.heap H locs → lv_has ls 6 [(0, .ref (ad 30 0)), (1, .int v1), (2, .int x8), (3, .int x9), (4, .int x10)] → W p l e (headSpec w_Choice_regroup rm_Choice_regroup).room s m args below meth c H locs 0 0 Q0 (F0 m 58 ls []) := by
          intro σ7 x8 x9 x10 H locs ls eq2 hH hS hl
          subst eq2
          have h1 := b4_at h1
          refine lv_aload_n hx hb d_Choice_regroup_58 rfl (lv_at hl 0 rfl) ?_
          refine st_get hx hb hg hown hK hH (f := 30) (i := 0) hd_30 rfl rfl u_Choice 4 (by decide) (hg _ wd_335) (v := .ref (ad 32 0)) rfl d_Choice_regroup_59 ?_
          refine lv_iload_n hx hb d_Choice_regroup_62 rfl (lv_at hl 1 rfl) ?_
          refine lv_iload_n hx hb d_Choice_regroup_63 rfl (lv_at hl 2 rfl) ?_
          obtain ⟨g64, h1⟩ := gd_some h1
          refine st_iast hx hb hK hH hS (f := 32) (i := 0) hd_32 rfl g64 d_Choice_regroup_64 (fun σ11 H locs eσ11 hH hS => ?_)
          have h1 := nm_at eσ11 h1
          obtain ⟨x12, ex12⟩ : ∃ y : Int32, y = v1 + 1 := ⟨_, rfl⟩
          have h1 := nm_at ex12 h1
          refine lv_iinc (v := x12) (lv' := [(1, .int x12), (0, .ref (ad 30 0)), (2, .int x8), (3, .int x9), (4, .int x10)]) hx hb d_Choice_regroup_65 hl (k := 1) rfl (by rw [ex12]; rfl) (by decide) rfl (fun ls hl => ?_)
          refine lv_goto (tgt := 2) hx hb d_Choice_regroup_68 (by decide) ?_
          cases h1
          exact ih1 σ11 x12 _ _ ls hH hS (lv_sub hl [1, 0] rfl) hk1
        have loop2 : ∀ (k : Nat) (σ : St) (v2 : Int32) (v3 : Int32) (v4 : Int32) (H : Heap) (locs : List Loc) (ls : Array Slot), Hold D aC A ad n σ H → va_S A s.heap H locs → lv_has ls 6 [(0, .ref (ad 30 0)), (1, .int v1), (2, .int v2), (3, .int v3), (4, .int v4)] → lp (fun q => lb_Choice_regroup_22 v1 q.1 q.2.1 q.2.2.1 q.2.2.2) k (σ, v2, v3, v4) = some q2 → W p l e (headSpec w_Choice_regroup rm_Choice_regroup).room s m args below meth c H locs 0 0 Q0 (F0 m 22 ls []) := by
          intro k
          induction k with
          | zero => intro σ v2 v3 v4 H locs ls hH hS hl hlp; exact absurd hlp (lp_zero _ _ _)
          | succ k ih2 =>
            intro σ v2 v3 v4 H locs ls hH hS hl hlp
            obtain ⟨z2, h2, hk2⟩ := lp_succ hlp
            have h2 : lb_Choice_regroup_22 v1 σ v2 v3 v4 = some z2 := h2
            unfold lb_Choice_regroup_22 at h2
            refine lv_iload hx hb d_Choice_regroup_22 (lv_at hl 4 rfl) ?_
            refine lv_aload_n hx hb d_Choice_regroup_24 rfl (lv_at hl 0 rfl) ?_
            refine st_get hx hb hg hown hK hH (f := 30) (i := 0) hd_30 rfl rfl u_Choice 6 (by decide) (hg _ wd_332) (v := .int (σ.1 30 0 6)) rfl d_Choice_regroup_25 ?_
            refine lv_icmp_ge (tgt := 58) hx hb d_Choice_regroup_28 (by decide) (fun c28 => ?_) (fun c28 => ?_)
            · have h2 := it h2 c28
              cases h2
              exact K2 σ v2 v3 v4 _ _ ls (Option.some.inj hk2).symm hH hS (lv_sub hl [0, 1, 2, 3, 4] rfl)
            · have h2 := ie h2 c28
              refine lv_aload_n hx hb d_Choice_regroup_31 rfl (lv_at hl 0 rfl) ?_
              refine lv_iload hx hb d_Choice_regroup_32 (lv_at hl 4 rfl) ?_
              refine lv_iload_n hx hb d_Choice_regroup_34 rfl (lv_at hl 1 rfl) ?_
              obtain ⟨qc, hc35, h2⟩ := b2_some h2
              obtain ⟨σ3, x4⟩ := qc
              have h2 := b2_at h2
              refine st_Vi (As := [.int v4, .int v1]) (rest := []) ⟨hx, hb, hml, hown, hg⟩ (c_Choice_bitsBy l D aC A ad n _ v4 v1 _ hc35) (cwG hg wd_351 wd_352 wd_353 wd_354 wd_341 yd_Choice_bitsBy ⟨Nat.le_of_ble_eq_true rfl, Nat.le_of_ble_eq_true rfl⟩) hK hH hS hZ hd_30 rfl rfl rfl hl.1 rfl (Nat.le_of_ble_eq_true rfl) d_Choice_regroup_35 ⟨Nat.zero_le _, Nat.zero_le _⟩ (fun H locs hH hS => ?_)
              refine lv_istore (lv' := [(5, .int x4), (0, .ref (ad 30 0)), (1, .int v1), (2, .int v2), (3, .int v3), (4, .int v4)]) hx hb d_Choice_regroup_38 hl (by decide) rfl (fun ls hl => ?_)
              refine lv_iload hx hb d_Choice_regroup_40 (lv_at hl 0 rfl) ?_
              refine lv_iload_n hx hb d_Choice_regroup_42 rfl (lv_at hl 4 rfl) ?_
              refine lv_icmp_ge (tgt := 52) hx hb d_Choice_regroup_43 (by decide) (fun c43 => ?_) (fun c43 => ?_)
              · have h2 := it h2 c43
                obtain ⟨x5, ex5⟩ : ∃ y : Int32, y = v4 + 1 := ⟨_, rfl⟩
                have h2 := nm_at ex5 h2
                refine lv_iinc (v := x5) (lv' := [(4, .int x5), (5, .int x4), (0, .ref (ad 30 0)), (1, .int v1), (2, .int v2), (3, .int v3)]) hx hb d_Choice_regroup_52 hl (k := 5) rfl (by rw [ex5]; rfl) (by decide) rfl (fun ls hl => ?_)
                refine lv_goto (tgt := 22) hx hb d_Choice_regroup_55 (by decide) ?_
                cases h2
                exact ih2 σ3 v2 v3 x5 _ _ ls hH hS (lv_sub hl [2, 3, 4, 5, 0] rfl) hk2
              · have h2 := ie h2 c43
                refine lv_iload hx hb d_Choice_regroup_46 (lv_at hl 5 rfl) ?_
                refine lv_istore_n (lv' := [(2, .int v4), (5, .int x4), (0, .ref (ad 30 0)), (1, .int v1), (3, .int v3), (4, .int v4)]) hx hb d_Choice_regroup_48 rfl hl (by decide) rfl (fun ls hl => ?_)
                refine lv_iload hx hb d_Choice_regroup_49 (lv_at hl 1 rfl) ?_
                refine lv_istore_n (lv' := [(3, .int x4), (2, .int v4), (5, .int x4), (0, .ref (ad 30 0)), (1, .int v1), (4, .int v4)]) hx hb d_Choice_regroup_51 rfl hl (by decide) rfl (fun ls hl => ?_)
                obtain ⟨x6, ex6⟩ : ∃ y : Int32, y = v4 + 1 := ⟨_, rfl⟩
                have h2 := nm_at ex6 h2
                refine lv_iinc (v := x6) (lv' := [(4, .int x6), (3, .int x4), (2, .int v4), (5, .int x4), (0, .ref (ad 30 0)), (1, .int v1)]) hx hb d_Choice_regroup_52 hl (k := 5) rfl (by rw [ex6]; rfl) (by decide) rfl (fun ls hl => ?_)
                refine lv_goto (tgt := 22) hx hb d_Choice_regroup_55 (by decide) ?_
                cases h2
                exact ih2 σ3 v4 x4 x6 _ _ ls hH hS (lv_sub hl [4, 5, 2, 1, 0] rfl) hk2
        obtain ⟨k2, hq2⟩ := lpE_some hq2
        exact loop2 k2 σ1 0 x2 1 _ _ ls hH hS (lv_sub hl [3, 4, 2, 1, 0] rfl) hq2
  obtain ⟨k1, hq1⟩ := lpE_some hq1
  exact loop1 k1 σ 0 _ _ ls hH hS (lv_sub hl [1, 0] rfl) hq1
set_option maxHeartbeats 4000000 in
set_option maxRecDepth 100000 in
theorem c_Choice_settle (l : Launch) (D : va_G) (aC : Nat → ClassId) (A : Nat → Prop) (ad : Nat → Nat → Nat) (n : Nat) (σ : St) (a2 : Int32) (a3 : Int32) (o : St) (h : f_Choice_settle σ a2 a3 = some o) : Met l y_Choice_settle w_Choice_settle rm_Choice_settle (va_Pc [.ref (ad 30 0), .ref (ad 5 0), .int a2, .int a3] (Pre D aC A ad n σ)) (va_Qv (fun (_ : Unit) => True) (fun _ t => Hold D aC A ad n o t.heap) A) 0 0 A := by
  refine Met.ofW (cc := prog_2_method_3_code) (maxL := 5) (ret := none) (by decide) rfl ?_
  intro p e s m args below meth c s₁ B hml hv
  obtain ⟨hargs, hH, hK, hZ⟩ := hv
  have hx := B.exec
  have hb := B.bytes
  have hr := B.returns
  have hts := atoms_spec (ws := w_Choice_settle) B.pre
  have hg : ∀ w ∈ gW, w.before args s = true := fun w h => hts w (List.mem_cons_of_mem _ h)
  have hown : s.vm.findClass "PrefixCodes$Choice" = some m.cls := findClass_of_methodNamed B.named
  have hlocks := B.notSynchronized
  have hS : va_S A s.heap s.heap [] := va_S.rf
  have hl := lv_entry ([.ref (ad 30 0), .ref (ad 5 0), .int a2, .int a3]) (n := 5) (Nat.le_of_ble_eq_true rfl)
  rw [show entryFrame m args 5 = entryFrame m (([.ref (ad 30 0), .ref (ad 5 0), .int a2, .int a3] : List Value).toArray) 5 by rw [hargs], lg_entry_eq]
  generalize (lg_sl ([.ref (ad 30 0), .ref (ad 5 0), .int a2, .int a3]) ++ List.replicate (5 - (lg_sl ([.ref (ad 30 0), .ref (ad 5 0), .int a2, .int a3])).length) Slot.unset).toArray = ls at hl ⊢
  have hl : lv_has ls 5 [(0, .ref (ad 30 0)), (1, .ref (ad 5 0)), (2, .int a2), (3, .int a3)] := hl
  generalize hQ0 : MQ below (va_Qv (fun (_ : Unit) => True) (fun _ t => Hold D aC A ad n o t.heap) A) args s 0 0 A = Q0
  unfold f_Choice_settle at h
  refine lv_iconst (v := 0) hx hb d_Choice_settle_0 (by decide) ?_
  refine lv_istore (lv' := [(4, .int 0), (0, .ref (ad 30 0)), (1, .ref (ad 5 0)), (2, .int a2), (3, .int a3)]) hx hb d_Choice_settle_1 hl (by decide) rfl (fun ls hl => ?_)
  obtain ⟨q1, hq1, h⟩ := b2_some h
  have K1 : ∀ (σ4 : St) (x5 : Int32) (H : Heap) (locs : List Loc) (ls : Array Slot), q1 = (σ4, x5) → Hold D aC A ad n σ4 H → va_S A s.heap H locs → lv_has ls 5 [(0, .ref (ad 30 0)), (1, .ref (ad 5 0)), (2, .int a2), (3, .int a3), (4, .int x5)] → W p l e (headSpec w_Choice_settle rm_Choice_settle).room s m args below meth c H locs 0 0 Q0 (F0 m 25 ls []) := by
    intro σ4 x5 H locs ls eq1 hH hS hl
    subst eq1
    have h := b2_at h
    refine lv_aload_n hx hb d_Choice_settle_25 rfl (lv_at hl 0 rfl) ?_
    refine lv_aload_n hx hb d_Choice_settle_26 rfl (lv_at hl 1 rfl) ?_
    refine lv_iload_n hx hb d_Choice_settle_27 rfl (lv_at hl 2 rfl) ?_
    obtain ⟨qc, hc28, h⟩ := b1_some h
    obtain ⟨σ6, rfl⟩ : ∃ z, z = qc := ⟨_, rfl⟩
    have h := b1_at h
    refine st_Vv (As := [.ref (ad 5 0), .int a2]) (rest := []) ⟨hx, hb, hml, hown, hg⟩ (c_Choice_fitCodes l D aC A ad n _ a2 _ hc28) (cwG hg wd_355 wd_356 wd_357 wd_358 wd_341 yd_Choice_fitCodes ⟨Nat.le_of_ble_eq_true rfl, Nat.le_of_ble_eq_true rfl⟩) hK hH hS hZ hd_30 rfl rfl rfl hl.1 rfl (Nat.le_of_ble_eq_true rfl) d_Choice_settle_28 ⟨Nat.zero_le _, Nat.zero_le _⟩ (fun H locs hH hS => ?_)
    cases h
    rw [← hQ0]
    exact W.vret hx hb hr (fun t ht hW => ⟨⟨(), rfl, trivial, by dsimp only; rw [ht]; exact hH⟩, hS.F ht⟩) hS.2.2 d_Choice_settle_31
  have loop1 : ∀ (k : Nat) (σ : St) (v4 : Int32) (H : Heap) (locs : List Loc) (ls : Array Slot), Hold D aC A ad n σ H → va_S A s.heap H locs → lv_has ls 5 [(0, .ref (ad 30 0)), (1, .ref (ad 5 0)), (2, .int a2), (3, .int a3), (4, .int v4)] → lp (fun q => lb_Choice_settle_3 a2 a3 q.1 q.2) k (σ, v4) = some q1 → W p l e (headSpec w_Choice_settle rm_Choice_settle).room s m args below meth c H locs 0 0 Q0 (F0 m 3 ls []) := by
    intro k
    induction k with
    | zero => intro σ v4 H locs ls hH hS hl hlp; exact absurd hlp (lp_zero _ _ _)
    | succ k ih1 =>
      intro σ v4 H locs ls hH hS hl hlp
      obtain ⟨z1, h1, hk1⟩ := lp_succ hlp
      have h1 : lb_Choice_settle_3 a2 a3 σ v4 = some z1 := h1
      unfold lb_Choice_settle_3 at h1
      refine lv_iload hx hb d_Choice_settle_3 (lv_at hl 4 rfl) ?_
      refine lv_iload_n hx hb d_Choice_settle_5 rfl (lv_at hl 3 rfl) ?_
      refine lv_icmp_ge (tgt := 25) hx hb d_Choice_settle_6 (by decide) (fun c6 => ?_) (fun c6 => ?_)
      · have h1 := it h1 c6
        cases h1
        exact K1 σ v4 _ _ ls (Option.some.inj hk1).symm hH hS (lv_sub hl [0, 1, 2, 3, 4] rfl)
      · have h1 := ie h1 c6
        refine lv_aload_n hx hb d_Choice_settle_9 rfl (lv_at hl 0 rfl) ?_
        refine lv_aload_n hx hb d_Choice_settle_10 rfl (lv_at hl 1 rfl) ?_
        refine lv_iload_n hx hb d_Choice_settle_11 rfl (lv_at hl 2 rfl) ?_
        obtain ⟨qc, hc12, h1⟩ := b1_some h1
        obtain ⟨σ1, rfl⟩ : ∃ z, z = qc := ⟨_, rfl⟩
        have h1 := b1_at h1
        refine st_Vv (As := [.ref (ad 5 0), .int a2]) (rest := []) ⟨hx, hb, hml, hown, hg⟩ (c_Choice_fitCodes l D aC A ad n _ a2 _ hc12) (cwG hg wd_355 wd_356 wd_357 wd_358 wd_341 yd_Choice_fitCodes ⟨Nat.le_of_ble_eq_true rfl, Nat.le_of_ble_eq_true rfl⟩) hK hH hS hZ hd_30 rfl rfl rfl hl.1 rfl (Nat.le_of_ble_eq_true rfl) d_Choice_settle_12 ⟨Nat.zero_le _, Nat.zero_le _⟩ (fun H locs hH hS => ?_)
        refine lv_aload_n hx hb d_Choice_settle_15 rfl (lv_at hl 0 rfl) ?_
        obtain ⟨qc, hc16, h1⟩ := b1_some h1
        obtain ⟨σ2, rfl⟩ : ∃ z, z = qc := ⟨_, rfl⟩
        have h1 := b1_at h1
        refine st_Vv (As := []) (rest := []) ⟨hx, hb, hml, hown, hg⟩ (c_Choice_regroup l D aC A ad n _  _ hc16) (cwG hg wd_359 wd_360 wd_361 wd_362 wd_341 yd_Choice_regroup ⟨Nat.le_of_ble_eq_true rfl, Nat.le_of_ble_eq_true rfl⟩) hK hH hS hZ hd_30 rfl rfl rfl hl.1 rfl (Nat.le_of_ble_eq_true rfl) d_Choice_settle_16 ⟨Nat.zero_le _, Nat.zero_le _⟩ (fun H locs hH hS => ?_)
        obtain ⟨x3, ex3⟩ : ∃ y : Int32, y = v4 + 1 := ⟨_, rfl⟩
        have h1 := nm_at ex3 h1
        refine lv_iinc (v := x3) (lv' := [(4, .int x3), (0, .ref (ad 30 0)), (1, .ref (ad 5 0)), (2, .int a2), (3, .int a3)]) hx hb d_Choice_settle_19 hl (k := 4) rfl (by rw [ex3]; rfl) (by decide) rfl (fun ls hl => ?_)
        refine lv_goto (tgt := 3) hx hb d_Choice_settle_22 (by decide) ?_
        cases h1
        exact ih1 σ2 x3 _ _ ls hH hS (lv_sub hl [1, 2, 3, 4, 0] rfl) hk1
  obtain ⟨k1, hq1⟩ := lpE_some hq1
  exact loop1 k1 σ 0 _ _ ls hH hS (lv_sub hl [1, 2, 3, 4, 0] rfl) hq1
set_option maxHeartbeats 4000000 in
set_option maxRecDepth 100000 in
theorem c_PC_group (l : Launch) (D : va_G) (aC : Nat → ClassId) (A : Nat → Prop) (ad : Nat → Nat → Nat) (n : Nat) (σ : St) (a1 : Int32) (o : St × Int32) (h : f_PC_group σ a1 = some o) : Met l y_PC_group w_PC_group rm_PC_group (va_Pc [.ref (ad 0 0), .int a1] (Pre D aC A ad n σ)) (va_Qi (fun r (_ : Unit) => r = o.2) (fun _ t => Hold D aC A ad n o.1 t.heap) A) 0 0 A := by
  refine Met.ofW (cc := prog_1_method_24_code) (maxL := 2) (ret := (some .int)) (by decide) rfl ?_
  intro p e s m args below meth c s₁ B hml hv
  obtain ⟨hargs, hH, hK, hZ⟩ := hv
  have hx := B.exec
  have hb := B.bytes
  have hr := B.returns
  have hts := atoms_spec (ws := w_PC_group) B.pre
  have hg : ∀ w ∈ gW, w.before args s = true := fun w h => hts w (List.mem_cons_of_mem _ h)
  have hown : s.vm.findClass "PrefixCodes" = some m.cls := findClass_of_methodNamed B.named
  have hlocks := B.notSynchronized
  have hS : va_S A s.heap s.heap [] := va_S.rf
  have hl := lv_entry ([.ref (ad 0 0), .int a1]) (n := 2) (Nat.le_of_ble_eq_true rfl)
  rw [show entryFrame m args 2 = entryFrame m (([.ref (ad 0 0), .int a1] : List Value).toArray) 2 by rw [hargs], lg_entry_eq]
  generalize (lg_sl ([.ref (ad 0 0), .int a1]) ++ List.replicate (2 - (lg_sl ([.ref (ad 0 0), .int a1])).length) Slot.unset).toArray = ls at hl ⊢
  have hl : lv_has ls 2 [(0, .ref (ad 0 0)), (1, .int a1)] := hl
  generalize hQ0 : MQ below (va_Qi (fun r (_ : Unit) => r = o.2) (fun _ t => Hold D aC A ad n o.1 t.heap) A) args s 0 0 A = Q0
  unfold f_PC_group at h
  refine lv_aload_n hx hb d_PC_group_0 rfl (lv_at hl 0 rfl) ?_
  refine st_get hx hb hg hown hK hH (f := 0) (i := 0) hd_0 rfl rfl u_PC 8 (by decide) (hg _ wd_363) (v := .ref (ad 30 0)) rfl d_PC_group_1 ?_
  refine st_get hx hb hg hown hK hH (f := 30) (i := 0) hd_30 rfl rfl u_Choice 3 (by decide) (hg _ wd_364) (v := .int (σ.1 30 0 3)) rfl d_PC_group_4 ?_
  refine lv_if_ne (tgt := 13) hx hb d_PC_group_7 (by decide) (fun c7 => ?_) (fun c7 => ?_)
  · have h := ie h c7
    refine lv_iload_n hx hb d_PC_group_13 rfl (lv_at hl 1 rfl) ?_
    refine lv_iconst (v := 0) hx hb d_PC_group_14 (by decide) ?_
    refine lv_aload_n hx hb d_PC_group_15 rfl (lv_at hl 0 rfl) ?_
    refine st_get hx hb hg hown hK hH (f := 0) (i := 0) hd_0 rfl rfl u_PC 8 (by decide) (hg _ wd_363) (v := .ref (ad 30 0)) rfl d_PC_group_16 ?_
    refine st_get hx hb hg hown hK hH (f := 30) (i := 0) hd_30 rfl rfl u_Choice 3 (by decide) (hg _ wd_364) (v := .int (σ.1 30 0 3)) rfl d_PC_group_19 ?_
    refine lv_iconst (v := 1) hx hb d_PC_group_22 (by decide) ?_
    refine lv_isub hx hb d_PC_group_23 ?_
    obtain ⟨qc, hc24, h⟩ := b2_some h
    obtain ⟨σ1, x2⟩ := qc
    have h := b2_at h
    refine st_Si (As := [.int a1, .int 0, .int ((σ.1 30 0 3) - 1)]) (rest := []) ⟨hx, hb, hml, hown, hg⟩ (c_PC_isOutside l D aC A ad n _ a1 0 ((σ.1 30 0 3) - 1) _ hc24) (cwGS hg wd_2 wd_3 wd_5 wd_4 yd_PC_isOutside ⟨Nat.le_of_ble_eq_true rfl, Nat.le_of_ble_eq_true rfl⟩) hK hH hS hZ rfl hl.1 rfl (Nat.le_of_ble_eq_true rfl) d_PC_group_24 ⟨Nat.zero_le _, Nat.zero_le _⟩ (fun H locs hH hS => ?_)
    refine lv_if_eq (tgt := 33) hx hb d_PC_group_27 (by decide) (fun c27 => ?_) (fun c27 => ?_)
    · have h := it h c27
      refine lv_aload_n hx hb d_PC_group_33 rfl (lv_at hl 0 rfl) ?_
      refine st_get hx hb hg hown hK hH (f := 0) (i := 0) hd_0 rfl rfl u_PC 8 (by decide) (hg _ wd_363) (v := .ref (ad 30 0)) rfl d_PC_group_34 ?_
      refine st_get hx hb hg hown hK hH (f := 30) (i := 0) hd_30 rfl rfl u_Choice 4 (by decide) (hg _ wd_365) (v := .ref (ad 32 0)) rfl d_PC_group_37 ?_
      refine lv_iload_n hx hb d_PC_group_40 rfl (lv_at hl 1 rfl) ?_
      obtain ⟨g41, h⟩ := gd_some h
      refine st_iald hx hb hK hH (f := 32) (i := 0) hd_32 rfl g41 d_PC_group_41 ?_
      cases h
      rw [← hQ0]
      exact W.iret hx hb hr (fun t ht hW => ⟨⟨_, (), rfl, rfl, by dsimp only; rw [ht]; exact hH⟩, hS.F ht⟩) hS.2.2 d_PC_group_42
    · have h := ie h c27
      refine lv_bipush (v := (-102)) hx hb d_PC_group_30 (by decide) ?_
      cases h
      rw [← hQ0]
      exact W.iret hx hb hr (fun t ht hW => ⟨⟨_, (), rfl, rfl, by dsimp only; rw [ht]; exact hH⟩, hS.F ht⟩) hS.2.2 d_PC_group_32
  · have h := it h c7
    refine lv_bipush (v := (-103)) hx hb d_PC_group_10 (by decide) ?_
    cases h
    rw [← hQ0]
    exact W.iret hx hb hr (fun t ht hW => ⟨⟨_, (), rfl, rfl, by dsimp only; rw [ht]; exact hH⟩, hS.F ht⟩) hS.2.2 d_PC_group_12
set_option maxHeartbeats 4000000 in
set_option maxRecDepth 100000 in
theorem c_Choice_canBeWritten (l : Launch) (D : va_G) (aC : Nat → ClassId) (A : Nat → Prop) (ad : Nat → Nat → Nat) (n : Nat) (σ : St) (o : St × Int32) (h : f_Choice_canBeWritten σ  = some o) : Met l y_Choice_canBeWritten w_Choice_canBeWritten rm_Choice_canBeWritten (va_Pc [.ref (ad 30 0)] (Pre D aC A ad n σ)) (va_Qi (fun r (_ : Unit) => r = o.2) (fun _ t => Hold D aC A ad n o.1 t.heap) A) 0 0 A := by
  refine Met.ofW (cc := prog_2_method_9_code) (maxL := 4) (ret := (some .boolean)) (by decide) rfl ?_
  intro p e s m args below meth c s₁ B hml hv
  obtain ⟨hargs, hH, hK, hZ⟩ := hv
  have hx := B.exec
  have hb := B.bytes
  have hr := B.returns
  have hts := atoms_spec (ws := w_Choice_canBeWritten) B.pre
  have hg : ∀ w ∈ gW, w.before args s = true := fun w h => hts w (List.mem_cons_of_mem _ h)
  have hown : s.vm.findClass "PrefixCodes$Choice" = some m.cls := findClass_of_methodNamed B.named
  have hlocks := B.notSynchronized
  have hS : va_S A s.heap s.heap [] := va_S.rf
  have hl := lv_entry ([.ref (ad 30 0)]) (n := 4) (Nat.le_of_ble_eq_true rfl)
  rw [show entryFrame m args 4 = entryFrame m (([.ref (ad 30 0)] : List Value).toArray) 4 by rw [hargs], lg_entry_eq]
  generalize (lg_sl ([.ref (ad 30 0)]) ++ List.replicate (4 - (lg_sl ([.ref (ad 30 0)])).length) Slot.unset).toArray = ls at hl ⊢
  have hl : lv_has ls 4 [(0, .ref (ad 30 0))] := hl
  generalize hQ0 : MQ below (va_Qi (fun r (_ : Unit) => r = o.2) (fun _ t => Hold D aC A ad n o.1 t.heap) A) args s 0 0 A = Q0
  unfold f_Choice_canBeWritten at h
  refine lv_iconst (v := 0) hx hb d_Choice_canBeWritten_0 (by decide) ?_
  refine lv_istore_n (lv' := [(1, .int 0), (0, .ref (ad 30 0))]) hx hb d_Choice_canBeWritten_1 rfl hl (by decide) rfl (fun ls hl => ?_)
  obtain ⟨q1, hq1, h⟩ := bs2_some h
  have K1 : ∀ (σ11 : St) (x12 : Int32) (H : Heap) (locs : List Loc) (ls : Array Slot), q1 = .inl (σ11, x12) → Hold D aC A ad n σ11 H → va_S A s.heap H locs → lv_has ls 4 [(0, .ref (ad 30 0)), (1, .int x12)] → W p l e (headSpec w_Choice_canBeWritten rm_Choice_canBeWritten).room s m args below meth c H locs 0 0 Q0 (F0 m 69 ls []) := by
    intro σ11 x12 H locs ls eq1 hH hS hl
    subst eq1
    have h := bs2_at h
    refine lv_iconst (v := 1) hx hb d_Choice_canBeWritten_69 (by decide) ?_
    cases h
    rw [← hQ0]
    exact W.zret hx hb hr rfl (fun t ht hW => ⟨⟨_, (), rfl, rfl, by dsimp only; rw [ht]; exact hH⟩, hS.F ht⟩) hS.2.2 d_Choice_canBeWritten_70
  have loop1 : ∀ (k : Nat) (σ : St) (v1 : Int32) (H : Heap) (locs : List Loc) (ls : Array Slot), Hold D aC A ad n σ H → va_S A s.heap H locs → lv_has ls 4 [(0, .ref (ad 30 0)), (1, .int v1)] → lp (fun q => lb_Choice_canBeWritten_2 q.1 q.2) k (σ, v1) = some q1 → W p l e (headSpec w_Choice_canBeWritten rm_Choice_canBeWritten).room s m args below meth c H locs 0 0 Q0 (F0 m 2 ls []) := by
    intro k
    induction k with
    | zero => intro σ v1 H locs ls hH hS hl hlp; exact absurd hlp (lp_zero _ _ _)
    | succ k ih1 =>
      intro σ v1 H locs ls hH hS hl hlp
      obtain ⟨z1, h1, hk1⟩ := lp_succ hlp
      have h1 : lb_Choice_canBeWritten_2 σ v1 = some z1 := h1
      unfold lb_Choice_canBeWritten_2 at h1
      refine lv_iload_n hx hb d_Choice_canBeWritten_2 rfl (lv_at hl 1 rfl) ?_
      refine lv_aload_n hx hb d_Choice_canBeWritten_3 rfl (lv_at hl 0 rfl) ?_
      refine st_get hx hb hg hown hK hH (f := 30) (i := 0) hd_30 rfl rfl u_Choice 3 (by decide) (hg _ wd_334) (v := .int (σ.1 30 0 3)) rfl d_Choice_canBeWritten_4 ?_
      refine lv_icmp_ge (tgt := 69) hx hb d_Choice_canBeWritten_7 (by decide) (fun c7 => ?_) (fun c7 => ?_)
      · have h1 := it h1 c7
        cases h1
        exact K1 σ v1 _ _ ls (Option.some.inj hk1).symm hH hS (lv_sub hl [0, 1] rfl)
      · have h1 := ie h1 c7
        refine lv_aload_n hx hb d_Choice_canBeWritten_10 rfl (lv_at hl 0 rfl) ?_
        refine st_get hx hb hg hown hK hH (f := 30) (i := 0) hd_30 rfl rfl u_Choice 5 (by decide) (hg _ wd_344) (v := .ref (ad 33 0)) rfl d_Choice_canBeWritten_11 ?_
        refine lv_aload_n hx hb d_Choice_canBeWritten_14 rfl (lv_at hl 0 rfl) ?_
        refine st_get hx hb hg hown hK hH (f := 30) (i := 0) hd_30 rfl rfl u_Choice 4 (by decide) (hg _ wd_335) (v := .ref (ad 32 0)) rfl d_Choice_canBeWritten_15 ?_
        refine lv_iload_n hx hb d_Choice_canBeWritten_18 rfl (lv_at hl 1 rfl) ?_
        obtain ⟨g19, h1⟩ := gd_some h1
        refine st_iald hx hb hK hH (f := 32) (i := 0) hd_32 rfl g19 d_Choice_canBeWritten_19 ?_
        obtain ⟨g20, h1⟩ := gd_some h1
        obtain ⟨j1, c20, h1⟩ := on_some h1
        refine st_aald hx hb hK hH (f := 33) (i := 0) hd_33 rfl (by decide) g20 d_Choice_canBeWritten_20 c20 (fun hdj1 => ?_)
        refine lv_astore_n (lv' := [(2, .ref (ad 41 j1)), (0, .ref (ad 30 0)), (1, .int v1)]) hx hb d_Choice_canBeWritten_21 rfl hl (by decide) rfl (fun ls hl => ?_)
        refine lv_iload_n hx hb d_Choice_canBeWritten_22 rfl (lv_at hl 2 rfl) ?_
        refine lv_aload_n hx hb d_Choice_canBeWritten_23 rfl (lv_at hl 1 rfl) ?_
        refine st_get hx hb hg hown hK hH (f := 30) (i := 0) hd_30 rfl rfl u_Choice 2 (by decide) (hg _ wd_333) (v := .int (σ.1 30 0 2)) rfl d_Choice_canBeWritten_24 ?_
        refine lv_imul hx hb d_Choice_canBeWritten_27 ?_
        refine lv_topi (fun x2 ex2 => ?_)
        have h1 := nm_at ex2 h1
        refine lv_istore_n (lv' := [(3, .int x2), (2, .ref (ad 41 j1)), (0, .ref (ad 30 0)), (1, .int v1)]) hx hb d_Choice_canBeWritten_28 rfl hl (by decide) rfl (fun ls hl => ?_)
        obtain ⟨q2, hq2, h1⟩ := bs2_some h1
        have K2 : ∀ (σ8 : St) (x9 : Int32) (H : Heap) (locs : List Loc) (ls : Array Slot), q2 = .inl (σ8, x9) → Hold D aC A ad n σ8 H → va_S A s.heap H locs → lv_has ls 4 [(0, .ref (ad 30 0)), (1, .int v1), (2, .ref (ad 41 j1)), (3, .int x9)] → W p l e (headSpec w_Choice_canBeWritten rm_Choice_canBeWritten).room s m args below meth c H locs 0 0 Q0 (F0 m 63 ls []) := by
          intro σ8 x9 H locs ls eq2 hH hS hl
          subst eq2
          have h1 := bs2_at h1
          obtain ⟨x10, ex10⟩ : ∃ y : Int32, y = v1 + 1 := ⟨_, rfl⟩
          have h1 := nm_at ex10 h1
          refine lv_iinc (v := x10) (lv' := [(1, .int x10), (0, .ref (ad 30 0)), (2, .ref (ad 41 j1)), (3, .int x9)]) hx hb d_Choice_canBeWritten_63 hl (k := 1) rfl (by rw [ex10]; rfl) (by decide) rfl (fun ls hl => ?_)
          refine lv_goto (tgt := 2) hx hb d_Choice_canBeWritten_66 (by decide) ?_
          cases h1
          exact ih1 σ8 x10 _ _ ls hH hS (lv_sub hl [1, 0] rfl) hk1
        have loop2 : ∀ (k : Nat) (σ : St) (v3 : Int32) (H : Heap) (locs : List Loc) (ls : Array Slot), Hold D aC A ad n σ H → va_S A s.heap H locs → lv_has ls 4 [(0, .ref (ad 30 0)), (1, .int v1), (2, .ref (ad 41 j1)), (3, .int v3)] → lp (fun q => lb_Choice_canBeWritten_29 v1 j1 q.1 q.2) k (σ, v3) = some q2 → W p l e (headSpec w_Choice_canBeWritten rm_Choice_canBeWritten).room s m args below meth c H locs 0 0 Q0 (F0 m 29 ls []) := by
          intro k
          induction k with
          | zero => intro σ v3 H locs ls hH hS hl hlp; exact absurd hlp (lp_zero _ _ _)
          | succ k ih2 =>
            intro σ v3 H locs ls hH hS hl hlp
            obtain ⟨z2, h2, hk2⟩ := lp_succ hlp
            have h2 : lb_Choice_canBeWritten_29 v1 j1 σ v3 = some z2 := h2
            unfold lb_Choice_canBeWritten_29 at h2
            refine lv_iload_n hx hb d_Choice_canBeWritten_29 rfl (lv_at hl 3 rfl) ?_
            refine lv_aload_n hx hb d_Choice_canBeWritten_30 rfl (lv_at hl 0 rfl) ?_
            refine lv_iload_n hx hb d_Choice_canBeWritten_31 rfl (lv_at hl 1 rfl) ?_
            obtain ⟨qc, hc32, h2⟩ := b2_some h2
            obtain ⟨σ3, x4⟩ := qc
            have h2 := b2_at h2
            refine st_Vi (As := [.int v1]) (rest := [.int v3]) ⟨hx, hb, hml, hown, hg⟩ (c_Choice_endOf l D aC A ad n _ v1 _ hc32) (cwG hg wd_339 wd_340 wd_342 wd_343 wd_341 yd_Choice_endOf ⟨Nat.le_of_ble_eq_true rfl, Nat.le_of_ble_eq_true rfl⟩) hK hH hS hZ hd_30 rfl rfl rfl hl.1 rfl (Nat.le_of_ble_eq_true rfl) d_Choice_canBeWritten_32 ⟨Nat.zero_le _, Nat.zero_le _⟩ (fun H locs hH hS => ?_)
            refine lv_icmp_ge (tgt := 63) hx hb d_Choice_canBeWritten_35 (by decide) (fun c35 => ?_) (fun c35 => ?_)
            · have h2 := it h2 c35
              cases h2
              exact K2 σ3 v3 _ _ ls (Option.some.inj hk2).symm hH hS (lv_sub hl [0, 1, 2, 3] rfl)
            · have h2 := ie h2 c35
              refine lv_aload_n hx hb d_Choice_canBeWritten_38 rfl (lv_at hl 2 rfl) ?_
              refine lv_ifnull hx hb d_Choice_canBeWritten_39 ?_
              refine lv_aload_n hx hb d_Choice_canBeWritten_42 rfl (lv_at hl 2 rfl) ?_
              refine lv_aload_n hx hb d_Choice_canBeWritten_43 rfl (lv_at hl 0 rfl) ?_
              refine st_get hx hb hg hown hK hH (f := 30) (i := 0) hd_30 rfl rfl u_Choice 0 (by decide) (hg _ wd_330) (v := .ref (ad 31 0)) rfl d_Choice_canBeWritten_44 ?_
              refine lv_iload_n hx hb d_Choice_canBeWritten_47 rfl (lv_at hl 3 rfl) ?_
              obtain ⟨g48, h2⟩ := gd_some h2
              refine st_iald hx hb hK hH (f := 31) (i := 0) hd_31 rfl g48 d_Choice_canBeWritten_48 ?_
              obtain ⟨qc, hc49, h2⟩ := b2_some h2
              obtain ⟨σ5, x6⟩ := qc
              have h2 := b2_at h2
              refine st_Vi (As := [.int (σ3.1 31 0 v3.toNatClampNeg)]) (rest := []) ⟨hx, hb, hml, hown, hg⟩ (c_Code_hasWord l D aC A ad n _ j1 (σ3.1 31 0 v3.toNatClampNeg) hdj1 _ hc49) (cwG hg wd_58 wd_366 wd_60 wd_61 wd_29 yd_Code_hasWord ⟨Nat.le_of_ble_eq_true rfl, Nat.le_of_ble_eq_true rfl⟩) hK hH hS hZ hdj1 rfl rfl rfl hl.1 rfl (Nat.le_of_ble_eq_true rfl) d_Choice_canBeWritten_49 ⟨Nat.zero_le _, Nat.zero_le _⟩ (fun H locs hH hS => ?_)
              refine lv_if_ne (tgt := 57) hx hb d_Choice_canBeWritten_52 (by decide) (fun c52 => ?_) (fun c52 => ?_)
              · have h2 := ie h2 c52
                obtain ⟨x7, ex7⟩ : ∃ y : Int32, y = v3 + 1 := ⟨_, rfl⟩
                have h2 := nm_at ex7 h2
                refine lv_iinc (v := x7) (lv' := [(3, .int x7), (0, .ref (ad 30 0)), (1, .int v1), (2, .ref (ad 41 j1))]) hx hb d_Choice_canBeWritten_57 hl (k := 3) rfl (by rw [ex7]; rfl) (by decide) rfl (fun ls hl => ?_)
                refine lv_goto (tgt := 29) hx hb d_Choice_canBeWritten_60 (by decide) ?_
                cases h2
                exact ih2 σ5 x7 _ _ ls hH hS (lv_sub hl [1, 2, 3, 0] rfl) hk2
              · have h2 := it h2 c52
                refine lv_iconst (v := 0) hx hb d_Choice_canBeWritten_55 (by decide) ?_
                cases h2
                have hk2 := Option.some.inj hk2
                subst hk2
                have h1 := bs2_r h1
                cases h1
                have hk1 := Option.some.inj hk1
                subst hk1
                have h := bs2_r h
                cases h
                rw [← hQ0]
                exact W.zret hx hb hr rfl (fun t ht hW => ⟨⟨_, (), rfl, rfl, by dsimp only; rw [ht]; exact hH⟩, hS.F ht⟩) hS.2.2 d_Choice_canBeWritten_56
        obtain ⟨k2, hq2⟩ := lpE_some hq2
        exact loop2 k2 σ x2 _ _ ls hH hS (lv_sub hl [2, 3, 1, 0] rfl) hq2
  obtain ⟨k1, hq1⟩ := lpE_some hq1
  exact loop1 k1 σ 0 _ _ ls hH hS (lv_sub hl [1, 0] rfl) hq1
set_option maxHeartbeats 4000000 in
set_option maxRecDepth 100000 in
theorem c_Selectors_begin (l : Launch) (D : va_G) (aC : Nat → ClassId) (A : Nat → Prop) (ad : Nat → Nat → Nat) (n : Nat) (σ : St) (iT : Nat) (a1 : Int32) (hdT : dm n 39 iT) (o : St) (h : f_Selectors_begin σ iT a1 = some o) : Met l y_Selectors_begin w_Selectors_begin rm_Selectors_begin (va_Pc [.ref (ad 39 iT), .int a1] (Pre D aC A ad n σ)) (va_Qv (fun (_ : Unit) => True) (fun _ t => Hold D aC A ad n o t.heap) A) 0 0 A := by
  refine Met.ofW (cc := prog_8_method_2_code) (maxL := 3) (ret := none) (by decide) rfl ?_
  intro p e s m args below meth c s₁ B hml hv
  obtain ⟨hargs, hH, hK, hZ⟩ := hv
  have hx := B.exec
  have hb := B.bytes
  have hr := B.returns
  have hts := atoms_spec (ws := w_Selectors_begin) B.pre
  have hg : ∀ w ∈ gW, w.before args s = true := fun w h => hts w (List.mem_cons_of_mem _ h)
  have hown : s.vm.findClass "PrefixCodes$Selectors" = some m.cls := findClass_of_methodNamed B.named
  have hlocks := B.notSynchronized
  have hS : va_S A s.heap s.heap [] := va_S.rf
  have hl := lv_entry ([.ref (ad 39 iT), .int a1]) (n := 3) (Nat.le_of_ble_eq_true rfl)
  rw [show entryFrame m args 3 = entryFrame m (([.ref (ad 39 iT), .int a1] : List Value).toArray) 3 by rw [hargs], lg_entry_eq]
  generalize (lg_sl ([.ref (ad 39 iT), .int a1]) ++ List.replicate (3 - (lg_sl ([.ref (ad 39 iT), .int a1])).length) Slot.unset).toArray = ls at hl ⊢
  have hl : lv_has ls 3 [(0, .ref (ad 39 iT)), (1, .int a1)] := hl
  generalize hQ0 : MQ below (va_Qv (fun (_ : Unit) => True) (fun _ t => Hold D aC A ad n o t.heap) A) args s 0 0 A = Q0
  unfold f_Selectors_begin at h
  refine lv_aload_n hx hb d_Selectors_begin_0 rfl (lv_at hl 0 rfl) ?_
  refine lv_iload_n hx hb d_Selectors_begin_1 rfl (lv_at hl 1 rfl) ?_
  refine st_put hx hb hg hown hK hH hS (f := 39) (i := iT) hdT rfl rfl u_Selectors t_Selectors t_Selectors_ok n_Selectors 1 (by decide) (hg _ wd_367) rfl rfl rfl d_Selectors_begin_2 (fun σ1 H locs eσ1 hH hS => ?_)
  have h := nm_at eσ1 h
  refine lv_iconst (v := 0) hx hb d_Selectors_begin_5 (by decide) ?_
  refine lv_istore_n (lv' := [(2, .int 0), (0, .ref (ad 39 iT)), (1, .int a1)]) hx hb d_Selectors_begin_6 rfl hl (by decide) rfl (fun ls hl => ?_)
  obtain ⟨q1, hq1, h⟩ := b2_some h
  have K1 : ∀ (σ4 : St) (x5 : Int32) (H : Heap) (locs : List Loc) (ls : Array Slot), q1 = (σ4, x5) → Hold D aC A ad n σ4 H → va_S A s.heap H locs → lv_has ls 3 [(0, .ref (ad 39 iT)), (2, .int x5)] → W p l e (headSpec w_Selectors_begin rm_Selectors_begin).room s m args below meth c H locs 0 0 Q0 (F0 m 28 ls []) := by
    intro σ4 x5 H locs ls eq1 hH hS hl
    subst eq1
    have h := b2_at h
    cases h
    rw [← hQ0]
    exact W.vret hx hb hr (fun t ht hW => ⟨⟨(), rfl, trivial, by dsimp only; rw [ht]; exact hH⟩, hS.F ht⟩) hS.2.2 d_Selectors_begin_28
  have loop1 : ∀ (k : Nat) (σ : St) (v2 : Int32) (H : Heap) (locs : List Loc) (ls : Array Slot), Hold D aC A ad n σ H → va_S A s.heap H locs → lv_has ls 3 [(0, .ref (ad 39 iT)), (2, .int v2)] → lp (fun q => lb_Selectors_begin_7 iT q.1 q.2) k (σ, v2) = some q1 → W p l e (headSpec w_Selectors_begin rm_Selectors_begin).room s m args below meth c H locs 0 0 Q0 (F0 m 7 ls []) := by
    intro k
    induction k with
    | zero => intro σ v2 H locs ls hH hS hl hlp; exact absurd hlp (lp_zero _ _ _)
    | succ k ih1 =>
      intro σ v2 H locs ls hH hS hl hlp
      obtain ⟨z1, h1, hk1⟩ := lp_succ hlp
      have h1 : lb_Selectors_begin_7 iT σ v2 = some z1 := h1
      unfold lb_Selectors_begin_7 at h1
      refine lv_iload_n hx hb d_Selectors_begin_7 rfl (lv_at hl 1 rfl) ?_
      refine lv_aload_n hx hb d_Selectors_begin_8 rfl (lv_at hl 0 rfl) ?_
      refine st_get hx hb hg hown hK hH (f := 39) (i := iT) hdT rfl rfl u_Selectors 1 (by decide) (hg _ wd_367) (v := .int (σ.1 39 iT 1)) rfl d_Selectors_begin_9 ?_
      refine lv_icmp_ge (tgt := 28) hx hb d_Selectors_begin_12 (by decide) (fun c12 => ?_) (fun c12 => ?_)
      · have h1 := it h1 c12
        cases h1
        exact K1 σ v2 _ _ ls (Option.some.inj hk1).symm hH hS (lv_sub hl [0, 1] rfl)
      · have h1 := ie h1 c12
        refine lv_aload_n hx hb d_Selectors_begin_15 rfl (lv_at hl 0 rfl) ?_
        refine st_get hx hb hg hown hK hH (f := 39) (i := iT) hdT rfl rfl u_Selectors 0 (by decide) (hg _ wd_368) (v := .ref (ad 40 iT)) rfl d_Selectors_begin_16 ?_
        refine lv_iload_n hx hb d_Selectors_begin_19 rfl (lv_at hl 1 rfl) ?_
        refine lv_iload_n hx hb d_Selectors_begin_20 rfl (lv_at hl 1 rfl) ?_
        obtain ⟨g21, h1⟩ := gd_some h1
        refine st_iast hx hb hK hH hS (f := 40) (i := iT) hdT rfl g21 d_Selectors_begin_21 (fun σ2 H locs eσ2 hH hS => ?_)
        have h1 := nm_at eσ2 h1
        obtain ⟨x3, ex3⟩ : ∃ y : Int32, y = v2 + 1 := ⟨_, rfl⟩
        have h1 := nm_at ex3 h1
        refine lv_iinc (v := x3) (lv' := [(2, .int x3), (0, .ref (ad 39 iT))]) hx hb d_Selectors_begin_22 hl (k := 1) rfl (by rw [ex3]; rfl) (by decide) rfl (fun ls hl => ?_)
        refine lv_goto (tgt := 7) hx hb d_Selectors_begin_25 (by decide) ?_
        cases h1
        exact ih1 σ2 x3 _ _ ls hH hS (lv_sub hl [1, 0] rfl) hk1
  obtain ⟨k1, hq1⟩ := lpE_some hq1
  exact loop1 k1 σ1 0 _ _ ls hH hS (lv_sub hl [1, 0] rfl) hq1
set_option maxHeartbeats 4000000 in
set_option maxRecDepth 100000 in
theorem c_Selectors_moveAhead (l : Launch) (D : va_G) (aC : Nat → ClassId) (A : Nat → Prop) (ad : Nat → Nat → Nat) (n : Nat) (σ : St) (iT : Nat) (a1 : Int32) (hdT : dm n 39 iT) (o : St) (h : f_Selectors_moveAhead σ iT a1 = some o) : Met l y_Selectors_moveAhead w_Selectors_moveAhead rm_Selectors_moveAhead (va_Pc [.ref (ad 39 iT), .int a1] (Pre D aC A ad n σ)) (va_Qv (fun (_ : Unit) => True) (fun _ t => Hold D aC A ad n o t.heap) A) 0 0 A := by
  refine Met.ofW (cc := prog_8_method_5_code) (maxL := 4) (ret := none) (by decide) rfl ?_
  intro p e s m args below meth c s₁ B hml hv
  obtain ⟨hargs, hH, hK, hZ⟩ := hv
  have hx := B.exec
  have hb := B.bytes
  have hr := B.returns
  have hts := atoms_spec (ws := w_Selectors_moveAhead) B.pre
  have hg : ∀ w ∈ gW, w.before args s = true := fun w h => hts w (List.mem_cons_of_mem _ h)
  have hown : s.vm.findClass "PrefixCodes$Selectors" = some m.cls := findClass_of_methodNamed B.named
  have hlocks := B.notSynchronized
  have hS : va_S A s.heap s.heap [] := va_S.rf
  have hl := lv_entry ([.ref (ad 39 iT), .int a1]) (n := 4) (Nat.le_of_ble_eq_true rfl)
  rw [show entryFrame m args 4 = entryFrame m (([.ref (ad 39 iT), .int a1] : List Value).toArray) 4 by rw [hargs], lg_entry_eq]
  generalize (lg_sl ([.ref (ad 39 iT), .int a1]) ++ List.replicate (4 - (lg_sl ([.ref (ad 39 iT), .int a1])).length) Slot.unset).toArray = ls at hl ⊢
  have hl : lv_has ls 4 [(0, .ref (ad 39 iT)), (1, .int a1)] := hl
  generalize hQ0 : MQ below (va_Qv (fun (_ : Unit) => True) (fun _ t => Hold D aC A ad n o t.heap) A) args s 0 0 A = Q0
  unfold f_Selectors_moveAhead at h
  refine lv_aload_n hx hb d_Selectors_moveAhead_0 rfl (lv_at hl 0 rfl) ?_
  refine st_get hx hb hg hown hK hH (f := 39) (i := iT) hdT rfl rfl u_Selectors 0 (by decide) (hg _ wd_368) (v := .ref (ad 40 iT)) rfl d_Selectors_moveAhead_1 ?_
  refine lv_iload_n hx hb d_Selectors_moveAhead_4 rfl (lv_at hl 1 rfl) ?_
  obtain ⟨g5, h⟩ := gd_some h
  refine st_iald hx hb hK hH (f := 40) (i := iT) hdT rfl g5 d_Selectors_moveAhead_5 ?_
  refine lv_topi (fun x1 ex1 => ?_)
  have h := nm_at ex1 h
  refine lv_istore_n (lv' := [(2, .int x1), (0, .ref (ad 39 iT)), (1, .int a1)]) hx hb d_Selectors_moveAhead_6 rfl hl (by decide) rfl (fun ls hl => ?_)
  refine lv_iload_n hx hb d_Selectors_moveAhead_7 rfl (lv_at hl 2 rfl) ?_
  refine lv_istore_n (lv' := [(3, .int a1), (2, .int x1), (0, .ref (ad 39 iT)), (1, .int a1)]) hx hb d_Selectors_moveAhead_8 rfl hl (by decide) rfl (fun ls hl => ?_)
  obtain ⟨q1, hq1, h⟩ := b2_some h
  have K1 : ∀ (σ4 : St) (x5 : Int32) (H : Heap) (locs : List Loc) (ls : Array Slot), q1 = (σ4, x5) → Hold D aC A ad n σ4 H → va_S A s.heap H locs → lv_has ls 4 [(0, .ref (ad 39 iT)), (2, .int x1), (3, .int x5)] → W p l e (headSpec w_Selectors_moveAhead rm_Selectors_moveAhead).room s m args below meth c H locs 0 0 Q0 (F0 m 33 ls []) := by
    intro σ4 x5 H locs ls eq1 hH hS hl
    subst eq1
    have h := b2_at h
    refine lv_aload_n hx hb d_Selectors_moveAhead_33 rfl (lv_at hl 0 rfl) ?_
    refine st_get hx hb hg hown hK hH (f := 39) (i := iT) hdT rfl rfl u_Selectors 0 (by decide) (hg _ wd_368) (v := .ref (ad 40 iT)) rfl d_Selectors_moveAhead_34 ?_
    refine lv_iconst (v := 0) hx hb d_Selectors_moveAhead_37 (by decide) ?_
    refine lv_iload_n hx hb d_Selectors_moveAhead_38 rfl (lv_at hl 1 rfl) ?_
    obtain ⟨g39, h⟩ := gd_some h
    refine st_iast hx hb hK hH hS (f := 40) (i := iT) hdT rfl g39 d_Selectors_moveAhead_39 (fun σ6 H locs eσ6 hH hS => ?_)
    have h := nm_at eσ6 h
    cases h
    rw [← hQ0]
    exact W.vret hx hb hr (fun t ht hW => ⟨⟨(), rfl, trivial, by dsimp only; rw [ht]; exact hH⟩, hS.F ht⟩) hS.2.2 d_Selectors_moveAhead_40
  have loop1 : ∀ (k : Nat) (σ : St) (v3 : Int32) (H : Heap) (locs : List Loc) (ls : Array Slot), Hold D aC A ad n σ H → va_S A s.heap H locs → lv_has ls 4 [(0, .ref (ad 39 iT)), (2, .int x1), (3, .int v3)] → lp (fun q => lb_Selectors_moveAhead_9 iT x1 q.1 q.2) k (σ, v3) = some q1 → W p l e (headSpec w_Selectors_moveAhead rm_Selectors_moveAhead).room s m args below meth c H locs 0 0 Q0 (F0 m 9 ls []) := by
    intro k
    induction k with
    | zero => intro σ v3 H locs ls hH hS hl hlp; exact absurd hlp (lp_zero _ _ _)
    | succ k ih1 =>
      intro σ v3 H locs ls hH hS hl hlp
      obtain ⟨z1, h1, hk1⟩ := lp_succ hlp
      have h1 : lb_Selectors_moveAhead_9 iT x1 σ v3 = some z1 := h1
      unfold lb_Selectors_moveAhead_9 at h1
      refine lv_iload_n hx hb d_Selectors_moveAhead_9 rfl (lv_at hl 2 rfl) ?_
      refine lv_if_le (tgt := 33) hx hb d_Selectors_moveAhead_10 (by decide) (fun c10 => ?_) (fun c10 => ?_)
      · have h1 := it h1 c10
        cases h1
        exact K1 σ v3 _ _ ls (Option.some.inj hk1).symm hH hS (lv_sub hl [0, 1, 2] rfl)
      · have h1 := ie h1 c10
        refine lv_aload_n hx hb d_Selectors_moveAhead_13 rfl (lv_at hl 0 rfl) ?_
        refine st_get hx hb hg hown hK hH (f := 39) (i := iT) hdT rfl rfl u_Selectors 0 (by decide) (hg _ wd_368) (v := .ref (ad 40 iT)) rfl d_Selectors_moveAhead_14 ?_
        refine lv_iload_n hx hb d_Selectors_moveAhead_17 rfl (lv_at hl 2 rfl) ?_
        refine lv_aload_n hx hb d_Selectors_moveAhead_18 rfl (lv_at hl 0 rfl) ?_
        refine st_get hx hb hg hown hK hH (f := 39) (i := iT) hdT rfl rfl u_Selectors 0 (by decide) (hg _ wd_368) (v := .ref (ad 40 iT)) rfl d_Selectors_moveAhead_19 ?_
        refine lv_iload_n hx hb d_Selectors_moveAhead_22 rfl (lv_at hl 2 rfl) ?_
        refine lv_iconst (v := 1) hx hb d_Selectors_moveAhead_23 (by decide) ?_
        refine lv_isub hx hb d_Selectors_moveAhead_24 ?_
        obtain ⟨g25, h1⟩ := gd_some h1
        refine st_iald hx hb hK hH (f := 40) (i := iT) hdT rfl g25 d_Selectors_moveAhead_25 ?_
        obtain ⟨g26, h1⟩ := gd_some h1
        refine st_iast hx hb hK hH hS (f := 40) (i := iT) hdT rfl g26 d_Selectors_moveAhead_26 (fun σ2 H locs eσ2 hH hS => ?_)
        have h1 := nm_at eσ2 h1
        obtain ⟨x3, ex3⟩ : ∃ y : Int32, y = v3 + (-1) := ⟨_, rfl⟩
        have h1 := nm_at ex3 h1
        refine lv_iinc (v := x3) (lv' := [(3, .int x3), (0, .ref (ad 39 iT)), (2, .int x1)]) hx hb d_Selectors_moveAhead_27 hl (k := 2) rfl (by rw [ex3]; rfl) (by decide) rfl (fun ls hl => ?_)
        refine lv_goto (tgt := 9) hx hb d_Selectors_moveAhead_30 (by decide) ?_
        cases h1
        exact ih1 σ2 x3 _ _ ls hH hS (lv_sub hl [1, 2, 0] rfl) hk1
  obtain ⟨k1, hq1⟩ := lpE_some hq1
  exact loop1 k1 σ a1 _ _ ls hH hS (lv_sub hl [2, 1, 0] rfl) hq1
set_option maxHeartbeats 4000000 in
set_option maxRecDepth 100000 in
theorem c_Selectors_append (l : Launch) (D : va_G) (aC : Nat → ClassId) (A : Nat → Prop) (ad : Nat → Nat → Nat) (n : Nat) (σ : St) (iT : Nat) (a2 : Int32) (hdT : dm n 39 iT) (o : St) (h : f_Selectors_append σ iT a2 = some o) : Met l y_Selectors_append w_Selectors_append rm_Selectors_append (va_Pc [.ref (ad 39 iT), .ref (ad 3 0), .int a2] (Pre D aC A ad n σ)) (va_Qv (fun (_ : Unit) => True) (fun _ t => Hold D aC A ad n o t.heap) A) 0 0 A := by
  refine Met.ofW (cc := prog_8_method_3_code) (maxL := 4) (ret := none) (by decide) rfl ?_
  intro p e s m args below meth c s₁ B hml hv
  obtain ⟨hargs, hH, hK, hZ⟩ := hv
  have hx := B.exec
  have hb := B.bytes
  have hr := B.returns
  have hts := atoms_spec (ws := w_Selectors_append) B.pre
  have hg : ∀ w ∈ gW, w.before args s = true := fun w h => hts w (List.mem_cons_of_mem _ h)
  have hown : s.vm.findClass "PrefixCodes$Selectors" = some m.cls := findClass_of_methodNamed B.named
  have hlocks := B.notSynchronized
  have hS : va_S A s.heap s.heap [] := va_S.rf
  have hl := lv_entry ([.ref (ad 39 iT), .ref (ad 3 0), .int a2]) (n := 4) (Nat.le_of_ble_eq_true rfl)
  rw [show entryFrame m args 4 = entryFrame m (([.ref (ad 39 iT), .ref (ad 3 0), .int a2] : List Value).toArray) 4 by rw [hargs], lg_entry_eq]
  generalize (lg_sl ([.ref (ad 39 iT), .ref (ad 3 0), .int a2]) ++ List.replicate (4 - (lg_sl ([.ref (ad 39 iT), .ref (ad 3 0), .int a2])).length) Slot.unset).toArray = ls at hl ⊢
  have hl : lv_has ls 4 [(0, .ref (ad 39 iT)), (1, .ref (ad 3 0)), (2, .int a2)] := hl
  generalize hQ0 : MQ below (va_Qv (fun (_ : Unit) => True) (fun _ t => Hold D aC A ad n o t.heap) A) args s 0 0 A = Q0
  unfold f_Selectors_append at h
  refine lv_iconst (v := 0) hx hb d_Selectors_append_0 (by decide) ?_
  refine lv_istore_n (lv' := [(3, .int 0), (0, .ref (ad 39 iT)), (1, .ref (ad 3 0)), (2, .int a2)]) hx hb d_Selectors_append_1 rfl hl (by decide) rfl (fun ls hl => ?_)
  obtain ⟨q1, hq1, h⟩ := b2_some h
  have K1 : ∀ (σ3 : St) (x4 : Int32) (H : Heap) (locs : List Loc) (ls : Array Slot), q1 = (σ3, x4) → Hold D aC A ad n σ3 H → va_S A s.heap H locs → lv_has ls 4 [(0, .ref (ad 39 iT)), (1, .ref (ad 3 0)), (2, .int a2), (3, .int x4)] → W p l e (headSpec w_Selectors_append rm_Selectors_append).room s m args below meth c H locs 0 0 Q0 (F0 m 33 ls []) := by
    intro σ3 x4 H locs ls eq1 hH hS hl
    subst eq1
    have h := b2_at h
    refine lv_aload_n hx hb d_Selectors_append_33 rfl (lv_at hl 1 rfl) ?_
    refine lv_iconst (v := 0) hx hb d_Selectors_append_34 (by decide) ?_
    obtain ⟨qc, hc35, h⟩ := b1_some h
    obtain ⟨σ5, rfl⟩ : ∃ z, z = qc := ⟨_, rfl⟩
    have h := b1_at h
    refine st_Vv (As := [.int 0]) (rest := []) ⟨hx, hb, hml, hown, hg⟩ (c_Stream_append l D aC A ad n _ 0 _ hc35) (cwG hg wd_128 wd_369 wd_130 wd_131 wd_119 yd_Stream_append ⟨Nat.le_of_ble_eq_true rfl, Nat.le_of_ble_eq_true rfl⟩) hK hH hS hZ hd_3 rfl rfl rfl hl.1 rfl (Nat.le_of_ble_eq_true rfl) d_Selectors_append_35 ⟨Nat.zero_le _, Nat.zero_le _⟩ (fun H locs hH hS => ?_)
    refine lv_aload_n hx hb d_Selectors_append_38 rfl (lv_at hl 0 rfl) ?_
    refine lv_iload_n hx hb d_Selectors_append_39 rfl (lv_at hl 3 rfl) ?_
    obtain ⟨qc, hc40, h⟩ := b1_some h
    obtain ⟨σ6, rfl⟩ : ∃ z, z = qc := ⟨_, rfl⟩
    have h := b1_at h
    refine st_Vv (As := [.int x4]) (rest := []) ⟨hx, hb, hml, hown, hg⟩ (c_Selectors_moveAhead l D aC A ad n _ iT x4 hdT _ hc40) (cwG hg wd_370 wd_371 wd_373 wd_374 wd_372 yd_Selectors_moveAhead ⟨Nat.le_of_ble_eq_true rfl, Nat.le_of_ble_eq_true rfl⟩) hK hH hS hZ hdT rfl rfl rfl hl.1 rfl (Nat.le_of_ble_eq_true rfl) d_Selectors_append_40 ⟨Nat.zero_le _, Nat.zero_le _⟩ (fun H locs hH hS => ?_)
    cases h
    rw [← hQ0]
    exact W.vret hx hb hr (fun t ht hW => ⟨⟨(), rfl, trivial, by dsimp only; rw [ht]; exact hH⟩, hS.F ht⟩) hS.2.2 d_Selectors_append_43
  have loop1 : ∀ (k : Nat) (σ : St) (v3 : Int32) (H : Heap) (locs : List Loc) (ls : Array Slot), Hold D aC A ad n σ H → va_S A s.heap H locs → lv_has ls 4 [(0, .ref (ad 39 iT)), (1, .ref (ad 3 0)), (2, .int a2), (3, .int v3)] → lp (fun q => lb_Selectors_append_2 iT a2 q.1 q.2) k (σ, v3) = some q1 → W p l e (headSpec w_Selectors_append rm_Selectors_append).room s m args below meth c H locs 0 0 Q0 (F0 m 2 ls []) := by
    intro k
    induction k with
    | zero => intro σ v3 H locs ls hH hS hl hlp; exact absurd hlp (lp_zero _ _ _)
    | succ k ih1 =>
      intro σ v3 H locs ls hH hS hl hlp
      obtain ⟨z1, h1, hk1⟩ := lp_succ hlp
      have h1 : lb_Selectors_append_2 iT a2 σ v3 = some z1 := h1
      unfold lb_Selectors_append_2 at h1
      refine lv_iload_n hx hb d_Selectors_append_2 rfl (lv_at hl 3 rfl) ?_
      refine lv_aload_n hx hb d_Selectors_append_3 rfl (lv_at hl 0 rfl) ?_
      refine st_get hx hb hg hown hK hH (f := 39) (i := iT) hdT rfl rfl u_Selectors 1 (by decide) (hg _ wd_367) (v := .int (σ.1 39 iT 1)) rfl d_Selectors_append_4 ?_
      refine lv_iconst (v := 1) hx hb d_Selectors_append_7 (by decide) ?_
      refine lv_isub hx hb d_Selectors_append_8 ?_
      refine lv_icmp_ge (tgt := 33) hx hb d_Selectors_append_9 (by decide) (fun c9 => ?_) (fun c9 => ?_)
      · have h1 := it h1 c9
        cases h1
        exact K1 σ v3 _ _ ls (Option.some.inj hk1).symm hH hS (lv_sub hl [0, 1, 2, 3] rfl)
      · have h1 := ie h1 c9
        refine lv_aload_n hx hb d_Selectors_append_12 rfl (lv_at hl 0 rfl) ?_
        refine st_get hx hb hg hown hK hH (f := 39) (i := iT) hdT rfl rfl u_Selectors 0 (by decide) (hg _ wd_368) (v := .ref (ad 40 iT)) rfl d_Selectors_append_13 ?_
        refine lv_iload_n hx hb d_Selectors_append_16 rfl (lv_at hl 3 rfl) ?_
        obtain ⟨g17, h1⟩ := gd_some h1
        refine st_iald hx hb hK hH (f := 40) (i := iT) hdT rfl g17 d_Selectors_append_17 ?_
        refine lv_iload_n hx hb d_Selectors_append_18 rfl (lv_at hl 2 rfl) ?_
        refine lv_icmp_eq (tgt := 33) hx hb d_Selectors_append_19 (by decide) (fun c19 => ?_) (fun c19 => ?_)
        · have h1 := it h1 c19
          cases h1
          exact K1 σ v3 _ _ ls (Option.some.inj hk1).symm hH hS (lv_sub hl [0, 1, 2, 3] rfl)
        · have h1 := ie h1 c19
          refine lv_aload_n hx hb d_Selectors_append_22 rfl (lv_at hl 1 rfl) ?_
          refine lv_iconst (v := 1) hx hb d_Selectors_append_23 (by decide) ?_
          obtain ⟨qc, hc24, h1⟩ := b1_some h1
          obtain ⟨σ1, rfl⟩ : ∃ z, z = qc := ⟨_, rfl⟩
          have h1 := b1_at h1
          refine st_Vv (As := [.int 1]) (rest := []) ⟨hx, hb, hml, hown, hg⟩ (c_Stream_append l D aC A ad n _ 1 _ hc24) (cwG hg wd_128 wd_369 wd_130 wd_131 wd_119 yd_Stream_append ⟨Nat.le_of_ble_eq_true rfl, Nat.le_of_ble_eq_true rfl⟩) hK hH hS hZ hd_3 rfl rfl rfl hl.1 rfl (Nat.le_of_ble_eq_true rfl) d_Selectors_append_24 ⟨Nat.zero_le _, Nat.zero_le _⟩ (fun H locs hH hS => ?_)
          obtain ⟨x2, ex2⟩ : ∃ y : Int32, y = v3 + 1 := ⟨_, rfl⟩
          have h1 := nm_at ex2 h1
          refine lv_iinc (v := x2) (lv' := [(3, .int x2), (0, .ref (ad 39 iT)), (1, .ref (ad 3 0)), (2, .int a2)]) hx hb d_Selectors_append_27 hl (k := 3) rfl (by rw [ex2]; rfl) (by decide) rfl (fun ls hl => ?_)
          refine lv_goto (tgt := 2) hx hb d_Selectors_append_30 (by decide) ?_
          cases h1
          exact ih1 σ1 x2 _ _ ls hH hS (lv_sub hl [1, 2, 3, 0] rfl) hk1
  obtain ⟨k1, hq1⟩ := lpE_some hq1
  exact loop1 k1 σ 0 _ _ ls hH hS (lv_sub hl [1, 2, 3, 0] rfl) hq1
set_option maxHeartbeats 4000000 in
set_option maxRecDepth 100000 in
theorem c_Choice_append (l : Launch) (D : va_G) (aC : Nat → ClassId) (A : Nat → Prop) (ad : Nat → Nat → Nat) (n : Nat) (σ : St) (o : St) (h : f_Choice_append σ  = some o) : Met l y_Choice_append w_Choice_append rm_Choice_append (va_Pc [.ref (ad 30 0), .ref (ad 3 0)] (Pre D aC A ad n σ)) (va_Qv (fun (_ : Unit) => True) (fun _ t => Hold D aC A ad n o t.heap) A) 0 0 A := by
  refine Met.ofW (cc := prog_2_method_10_code) (maxL := 5) (ret := none) (by decide) rfl ?_
  intro p e s m args below meth c s₁ B hml hv
  obtain ⟨hargs, hH, hK, hZ⟩ := hv
  have hx := B.exec
  have hb := B.bytes
  have hr := B.returns
  have hts := atoms_spec (ws := w_Choice_append) B.pre
  have hg : ∀ w ∈ gW, w.before args s = true := fun w h => hts w (List.mem_cons_of_mem _ h)
  have hown : s.vm.findClass "PrefixCodes$Choice" = some m.cls := findClass_of_methodNamed B.named
  have hlocks := B.notSynchronized
  have hS : va_S A s.heap s.heap [] := va_S.rf
  have hl := lv_entry ([.ref (ad 30 0), .ref (ad 3 0)]) (n := 5) (Nat.le_of_ble_eq_true rfl)
  rw [show entryFrame m args 5 = entryFrame m (([.ref (ad 30 0), .ref (ad 3 0)] : List Value).toArray) 5 by rw [hargs], lg_entry_eq]
  generalize (lg_sl ([.ref (ad 30 0), .ref (ad 3 0)]) ++ List.replicate (5 - (lg_sl ([.ref (ad 30 0), .ref (ad 3 0)])).length) Slot.unset).toArray = ls at hl ⊢
  have hl : lv_has ls 5 [(0, .ref (ad 30 0)), (1, .ref (ad 3 0))] := hl
  generalize hQ0 : MQ below (va_Qv (fun (_ : Unit) => True) (fun _ t => Hold D aC A ad n o t.heap) A) args s 0 0 A = Q0
  unfold f_Choice_append at h
  refine lv_aload_n hx hb d_Choice_append_0 rfl (lv_at hl 0 rfl) ?_
  refine st_get hx hb hg hown hK hH (f := 30) (i := 0) hd_30 rfl rfl u_Choice 8 (by decide) (hg _ wd_375) (v := .ref (ad 39 0)) rfl d_Choice_append_1 ?_
  refine lv_aload_n hx hb d_Choice_append_4 rfl (lv_at hl 0 rfl) ?_
  refine st_get hx hb hg hown hK hH (f := 30) (i := 0) hd_30 rfl rfl u_Choice 6 (by decide) (hg _ wd_332) (v := .int (σ.1 30 0 6)) rfl d_Choice_append_5 ?_
  obtain ⟨qc, hc8, h⟩ := b1_some h
  obtain ⟨σ1, rfl⟩ : ∃ z, z = qc := ⟨_, rfl⟩
  have h := b1_at h
  refine st_Vv (As := [.int (σ.1 30 0 6)]) (rest := []) ⟨hx, hb, hml, hown, hg⟩ (c_Selectors_begin l D aC A ad n _ 0 (σ.1 30 0 6) hd_39_0 _ hc8) (cwG hg wd_377 wd_378 wd_379 wd_380 wd_372 yd_Selectors_begin ⟨Nat.le_of_ble_eq_true rfl, Nat.le_of_ble_eq_true rfl⟩) hK hH hS hZ hd_39_0 rfl rfl rfl hl.1 rfl (Nat.le_of_ble_eq_true rfl) d_Choice_append_8 ⟨Nat.zero_le _, Nat.zero_le _⟩ (fun H locs hH hS => ?_)
  refine lv_iconst (v := 0) hx hb d_Choice_append_11 (by decide) ?_
  refine lv_istore_n (lv' := [(2, .int 0), (0, .ref (ad 30 0)), (1, .ref (ad 3 0))]) hx hb d_Choice_append_12 rfl hl (by decide) rfl (fun ls hl => ?_)
  obtain ⟨q1, hq1, h⟩ := b2_some h
  have K1 : ∀ (σ4 : St) (x5 : Int32) (H : Heap) (locs : List Loc) (ls : Array Slot), q1 = (σ4, x5) → Hold D aC A ad n σ4 H → va_S A s.heap H locs → lv_has ls 5 [(0, .ref (ad 30 0)), (1, .ref (ad 3 0)), (2, .int x5)] → W p l e (headSpec w_Choice_append rm_Choice_append).room s m args below meth c H locs 0 0 Q0 (F0 m 41 ls []) := by
    intro σ4 x5 H locs ls eq1 hH hS hl
    subst eq1
    have h := b2_at h
    refine lv_iconst (v := 0) hx hb d_Choice_append_41 (by decide) ?_
    refine lv_istore_n (lv' := [(2, .int 0), (0, .ref (ad 30 0)), (1, .ref (ad 3 0))]) hx hb d_Choice_append_42 rfl hl (by decide) rfl (fun ls hl => ?_)
    obtain ⟨q1, hq1, h⟩ := b2_some h
    have K1 : ∀ (σ15 : St) (x16 : Int32) (H : Heap) (locs : List Loc) (ls : Array Slot), q1 = (σ15, x16) → Hold D aC A ad n σ15 H → va_S A s.heap H locs → lv_has ls 5 [(0, .ref (ad 30 0)), (1, .ref (ad 3 0)), (2, .int x16)] → W p l e (headSpec w_Choice_append rm_Choice_append).room s m args below meth c H locs 0 0 Q0 (F0 m 125 ls []) := by
      intro σ15 x16 H locs ls eq1 hH hS hl
      subst eq1
      have h := b2_at h
      cases h
      rw [← hQ0]
      exact W.vret hx hb hr (fun t ht hW => ⟨⟨(), rfl, trivial, by dsimp only; rw [ht]; exact hH⟩, hS.F ht⟩) hS.2.2 d_Choice_append_125
    have loop1 : ∀ (k : Nat) (σ : St) (v2 : Int32) (H : Heap) (locs : List Loc) (ls : Array Slot), Hold D aC A ad n σ H → va_S A s.heap H locs → lv_has ls 5 [(0, .ref (ad 30 0)), (1, .ref (ad 3 0)), (2, .int v2)] → lp (fun q => lb_Choice_append_43 q.1 q.2) k (σ, v2) = some q1 → W p l e (headSpec w_Choice_append rm_Choice_append).room s m args below meth c H locs 0 0 Q0 (F0 m 43 ls []) := by
      intro k
      induction k with
      | zero => intro σ v2 H locs ls hH hS hl hlp; exact absurd hlp (lp_zero _ _ _)
      | succ k ih1 =>
        intro σ v2 H locs ls hH hS hl hlp
        obtain ⟨z1, h1, hk1⟩ := lp_succ hlp
        have h1 : lb_Choice_append_43 σ v2 = some z1 := h1
        unfold lb_Choice_append_43 at h1
        refine lv_iload_n hx hb d_Choice_append_43 rfl (lv_at hl 2 rfl) ?_
        refine lv_aload_n hx hb d_Choice_append_44 rfl (lv_at hl 0 rfl) ?_
        refine st_get hx hb hg hown hK hH (f := 30) (i := 0) hd_30 rfl rfl u_Choice 3 (by decide) (hg _ wd_334) (v := .int (σ.1 30 0 3)) rfl d_Choice_append_45 ?_
        refine lv_icmp_ge (tgt := 125) hx hb d_Choice_append_48 (by decide) (fun c48 => ?_) (fun c48 => ?_)
        · have h1 := it h1 c48
          cases h1
          exact K1 σ v2 _ _ ls (Option.some.inj hk1).symm hH hS (lv_sub hl [0, 1, 2] rfl)
        · have h1 := ie h1 c48
          refine lv_aload_n hx hb d_Choice_append_51 rfl (lv_at hl 0 rfl) ?_
          refine st_get hx hb hg hown hK hH (f := 30) (i := 0) hd_30 rfl rfl u_Choice 5 (by decide) (hg _ wd_344) (v := .ref (ad 33 0)) rfl d_Choice_append_52 ?_
          refine lv_aload_n hx hb d_Choice_append_55 rfl (lv_at hl 0 rfl) ?_
          refine st_get hx hb hg hown hK hH (f := 30) (i := 0) hd_30 rfl rfl u_Choice 4 (by decide) (hg _ wd_335) (v := .ref (ad 32 0)) rfl d_Choice_append_56 ?_
          refine lv_iload_n hx hb d_Choice_append_59 rfl (lv_at hl 2 rfl) ?_
          obtain ⟨g60, h1⟩ := gd_some h1
          refine st_iald hx hb hK hH (f := 32) (i := 0) hd_32 rfl g60 d_Choice_append_60 ?_
          obtain ⟨g61, h1⟩ := gd_some h1
          obtain ⟨j6, c61, h1⟩ := on_some h1
          refine st_aald hx hb hK hH (f := 33) (i := 0) hd_33 rfl (by decide) g61 d_Choice_append_61 c61 (fun hdj6 => ?_)
          refine lv_astore_n (lv' := [(3, .ref (ad 41 j6)), (0, .ref (ad 30 0)), (1, .ref (ad 3 0)), (2, .int v2)]) hx hb d_Choice_append_62 rfl hl (by decide) rfl (fun ls hl => ?_)
          refine lv_iload_n hx hb d_Choice_append_63 rfl (lv_at hl 3 rfl) ?_
          refine lv_aload_n hx hb d_Choice_append_64 rfl (lv_at hl 1 rfl) ?_
          refine st_get hx hb hg hown hK hH (f := 30) (i := 0) hd_30 rfl rfl u_Choice 2 (by decide) (hg _ wd_333) (v := .int (σ.1 30 0 2)) rfl d_Choice_append_65 ?_
          refine lv_imul hx hb d_Choice_append_68 ?_
          refine lv_topi (fun x7 ex7 => ?_)
          have h1 := nm_at ex7 h1
          refine lv_istore (lv' := [(4, .int x7), (3, .ref (ad 41 j6)), (0, .ref (ad 30 0)), (1, .ref (ad 3 0)), (2, .int v2)]) hx hb d_Choice_append_69 hl (by decide) rfl (fun ls hl => ?_)
          obtain ⟨q2, hq2, h1⟩ := b2_some h1
          have K2 : ∀ (σ12 : St) (x13 : Int32) (H : Heap) (locs : List Loc) (ls : Array Slot), q2 = (σ12, x13) → Hold D aC A ad n σ12 H → va_S A s.heap H locs → lv_has ls 5 [(0, .ref (ad 30 0)), (1, .ref (ad 3 0)), (2, .int v2), (3, .ref (ad 41 j6)), (4, .int x13)] → W p l e (headSpec w_Choice_append rm_Choice_append).room s m args below meth c H locs 0 0 Q0 (F0 m 119 ls []) := by
            intro σ12 x13 H locs ls eq2 hH hS hl
            subst eq2
            have h1 := b2_at h1
            obtain ⟨x14, ex14⟩ : ∃ y : Int32, y = v2 + 1 := ⟨_, rfl⟩
            have h1 := nm_at ex14 h1
            refine lv_iinc (v := x14) (lv' := [(2, .int x14), (0, .ref (ad 30 0)), (1, .ref (ad 3 0)), (3, .ref (ad 41 j6)), (4, .int x13)]) hx hb d_Choice_append_119 hl (k := 2) rfl (by rw [ex14]; rfl) (by decide) rfl (fun ls hl => ?_)
            refine lv_goto (tgt := 43) hx hb d_Choice_append_122 (by decide) ?_
            cases h1
            exact ih1 σ12 x14 _ _ ls hH hS (lv_sub hl [1, 2, 0] rfl) hk1
          have loop2 : ∀ (k : Nat) (σ : St) (v4 : Int32) (H : Heap) (locs : List Loc) (ls : Array Slot), Hold D aC A ad n σ H → va_S A s.heap H locs → lv_has ls 5 [(0, .ref (ad 30 0)), (1, .ref (ad 3 0)), (2, .int v2), (3, .ref (ad 41 j6)), (4, .int v4)] → lp (fun q => lb_Choice_append_71 v2 j6 q.1 q.2) k (σ, v4) = some q2 → W p l e (headSpec w_Choice_append rm_Choice_append).room s m args below meth c H locs 0 0 Q0 (F0 m 71 ls []) := by
            intro k
            induction k with
            | zero => intro σ v4 H locs ls hH hS hl hlp; exact absurd hlp (lp_zero _ _ _)
            | succ k ih2 =>
              intro σ v4 H locs ls hH hS hl hlp
              obtain ⟨z2, h2, hk2⟩ := lp_succ hlp
              have h2 : lb_Choice_append_71 v2 j6 σ v4 = some z2 := h2
              unfold lb_Choice_append_71 at h2
              refine lv_iload hx hb d_Choice_append_71 (lv_at hl 4 rfl) ?_
              refine lv_aload_n hx hb d_Choice_append_73 rfl (lv_at hl 0 rfl) ?_
              refine lv_iload_n hx hb d_Choice_append_74 rfl (lv_at hl 2 rfl) ?_
              obtain ⟨qc, hc75, h2⟩ := b2_some h2
              obtain ⟨σ8, x9⟩ := qc
              have h2 := b2_at h2
              refine st_Vi (As := [.int v2]) (rest := [.int v4]) ⟨hx, hb, hml, hown, hg⟩ (c_Choice_endOf l D aC A ad n _ v2 _ hc75) (cwG hg wd_339 wd_340 wd_342 wd_343 wd_341 yd_Choice_endOf ⟨Nat.le_of_ble_eq_true rfl, Nat.le_of_ble_eq_true rfl⟩) hK hH hS hZ hd_30 rfl rfl rfl hl.1 rfl (Nat.le_of_ble_eq_true rfl) d_Choice_append_75 ⟨Nat.zero_le _, Nat.zero_le _⟩ (fun H locs hH hS => ?_)
              refine lv_icmp_ge (tgt := 119) hx hb d_Choice_append_78 (by decide) (fun c78 => ?_) (fun c78 => ?_)
              · have h2 := it h2 c78
                cases h2
                exact K2 σ8 v4 _ _ ls (Option.some.inj hk2).symm hH hS (lv_sub hl [0, 1, 2, 3, 4] rfl)
              · have h2 := ie h2 c78
                refine lv_aload_n hx hb d_Choice_append_81 rfl (lv_at hl 3 rfl) ?_
                refine lv_ifnull hx hb d_Choice_append_82 ?_
                refine lv_aload_n hx hb d_Choice_append_85 rfl (lv_at hl 1 rfl) ?_
                refine lv_aload_n hx hb d_Choice_append_86 rfl (lv_at hl 3 rfl) ?_
                refine st_get hx hb hg hown hK hH (f := 41) (i := j6) hdj6 rfl rfl u_Code 2 (by decide) (hg _ wd_376) (v := .ref (ad 43 j6)) rfl d_Choice_append_87 ?_
                refine lv_aload_n hx hb d_Choice_append_90 rfl (lv_at hl 0 rfl) ?_
                refine st_get hx hb hg hown hK hH (f := 30) (i := 0) hd_30 rfl rfl u_Choice 0 (by decide) (hg _ wd_330) (v := .ref (ad 31 0)) rfl d_Choice_append_91 ?_
                refine lv_iload hx hb d_Choice_append_94 (lv_at hl 4 rfl) ?_
                obtain ⟨g96, h2⟩ := gd_some h2
                refine st_iald hx hb hK hH (f := 31) (i := 0) hd_31 rfl g96 d_Choice_append_96 ?_
                obtain ⟨g97, h2⟩ := gd_some h2
                refine st_iald hx hb hK hH (f := 43) (i := j6) hdj6 rfl g97 d_Choice_append_97 ?_
                refine lv_aload_n hx hb d_Choice_append_98 rfl (lv_at hl 3 rfl) ?_
                refine st_get hx hb hg hown hK hH (f := 41) (i := j6) hdj6 rfl rfl u_Code 1 (by decide) (hg _ wd_350) (v := .ref (ad 42 j6)) rfl d_Choice_append_99 ?_
                refine lv_aload_n hx hb d_Choice_append_102 rfl (lv_at hl 0 rfl) ?_
                refine st_get hx hb hg hown hK hH (f := 30) (i := 0) hd_30 rfl rfl u_Choice 0 (by decide) (hg _ wd_330) (v := .ref (ad 31 0)) rfl d_Choice_append_103 ?_
                refine lv_iload hx hb d_Choice_append_106 (lv_at hl 4 rfl) ?_
                obtain ⟨g108, h2⟩ := gd_some h2
                refine st_iald hx hb hK hH (f := 31) (i := 0) hd_31 rfl g108 d_Choice_append_108 ?_
                obtain ⟨g109, h2⟩ := gd_some h2
                refine st_iald hx hb hK hH (f := 42) (i := j6) hdj6 rfl g109 d_Choice_append_109 ?_
                obtain ⟨qc, hc110, h2⟩ := b1_some h2
                obtain ⟨σ10, rfl⟩ : ∃ z, z = qc := ⟨_, rfl⟩
                have h2 := b1_at h2
                refine st_Vv (As := [.int (σ8.1 43 j6 (σ8.1 31 0 v4.toNatClampNeg).toNatClampNeg), .int (σ8.1 42 j6 (σ8.1 31 0 v4.toNatClampNeg).toNatClampNeg)]) (rest := []) ⟨hx, hb, hml, hown, hg⟩ (c_Stream_appendNumber l D aC A ad n _ (σ8.1 43 j6 (σ8.1 31 0 v4.toNatClampNeg).toNatClampNeg) (σ8.1 42 j6 (σ8.1 31 0 v4.toNatClampNeg).toNatClampNeg) _ hc110) (cwG hg wd_132 wd_381 wd_134 wd_135 wd_119 yd_Stream_appendNumber ⟨Nat.le_of_ble_eq_true rfl, Nat.le_of_ble_eq_true rfl⟩) hK hH hS hZ hd_3 rfl rfl rfl hl.1 rfl (Nat.le_of_ble_eq_true rfl) d_Choice_append_110 ⟨Nat.zero_le _, Nat.zero_le _⟩ (fun H locs hH hS => ?_)
                obtain ⟨x11, ex11⟩ : ∃ y : Int32, y = v4 + 1 := ⟨_, rfl⟩
                have h2 := nm_at ex11 h2
                refine lv_iinc (v := x11) (lv' := [(4, .int x11), (0, .ref (ad 30 0)), (1, .ref (ad 3 0)), (2, .int v2), (3, .ref (ad 41 j6))]) hx hb d_Choice_append_113 hl (k := 4) rfl (by rw [ex11]; rfl) (by decide) rfl (fun ls hl => ?_)
                refine lv_goto (tgt := 71) hx hb d_Choice_append_116 (by decide) ?_
                cases h2
                exact ih2 σ10 x11 _ _ ls hH hS (lv_sub hl [1, 2, 3, 4, 0] rfl) hk2
          obtain ⟨k2, hq2⟩ := lpE_some hq2
          exact loop2 k2 σ x7 _ _ ls hH hS (lv_sub hl [2, 3, 4, 1, 0] rfl) hq2
    obtain ⟨k1, hq1⟩ := lpE_some hq1
    exact loop1 k1 σ4 0 _ _ ls hH hS (lv_sub hl [1, 2, 0] rfl) hq1
  have loop1 : ∀ (k : Nat) (σ : St) (v2 : Int32) (H : Heap) (locs : List Loc) (ls : Array Slot), Hold D aC A ad n σ H → va_S A s.heap H locs → lv_has ls 5 [(0, .ref (ad 30 0)), (1, .ref (ad 3 0)), (2, .int v2)] → lp (fun q => lb_Choice_append_13 q.1 q.2) k (σ, v2) = some q1 → W p l e (headSpec w_Choice_append rm_Choice_append).room s m args below meth c H locs 0 0 Q0 (F0 m 13 ls []) := by
    intro k
    induction k with
    | zero => intro σ v2 H locs ls hH hS hl hlp; exact absurd hlp (lp_zero _ _ _)
    | succ k ih1 =>
      intro σ v2 H locs ls hH hS hl hlp
      obtain ⟨z1, h1, hk1⟩ := lp_succ hlp
      have h1 : lb_Choice_append_13 σ v2 = some z1 := h1
      unfold lb_Choice_append_13 at h1
      refine lv_iload_n hx hb d_Choice_append_13 rfl (lv_at hl 2 rfl) ?_
      refine lv_aload_n hx hb d_Choice_append_14 rfl (lv_at hl 0 rfl) ?_
      refine st_get hx hb hg hown hK hH (f := 30) (i := 0) hd_30 rfl rfl u_Choice 3 (by decide) (hg _ wd_334) (v := .int (σ.1 30 0 3)) rfl d_Choice_append_15 ?_
      refine lv_icmp_ge (tgt := 41) hx hb d_Choice_append_18 (by decide) (fun c18 => ?_) (fun c18 => ?_)
      · have h1 := it h1 c18
        cases h1
        exact K1 σ v2 _ _ ls (Option.some.inj hk1).symm hH hS (lv_sub hl [0, 1, 2] rfl)
      · have h1 := ie h1 c18
        refine lv_aload_n hx hb d_Choice_append_21 rfl (lv_at hl 0 rfl) ?_
        refine st_get hx hb hg hown hK hH (f := 30) (i := 0) hd_30 rfl rfl u_Choice 8 (by decide) (hg _ wd_375) (v := .ref (ad 39 0)) rfl d_Choice_append_22 ?_
        refine lv_aload_n hx hb d_Choice_append_25 rfl (lv_at hl 1 rfl) ?_
        refine lv_aload_n hx hb d_Choice_append_26 rfl (lv_at hl 0 rfl) ?_
        refine st_get hx hb hg hown hK hH (f := 30) (i := 0) hd_30 rfl rfl u_Choice 4 (by decide) (hg _ wd_335) (v := .ref (ad 32 0)) rfl d_Choice_append_27 ?_
        refine lv_iload_n hx hb d_Choice_append_30 rfl (lv_at hl 2 rfl) ?_
        obtain ⟨g31, h1⟩ := gd_some h1
        refine st_iald hx hb hK hH (f := 32) (i := 0) hd_32 rfl g31 d_Choice_append_31 ?_
        obtain ⟨qc, hc32, h1⟩ := b1_some h1
        obtain ⟨σ2, rfl⟩ : ∃ z, z = qc := ⟨_, rfl⟩
        have h1 := b1_at h1
        refine st_Vv (As := [.ref (ad 3 0), .int (σ.1 32 0 v2.toNatClampNeg)]) (rest := []) ⟨hx, hb, hml, hown, hg⟩ (c_Selectors_append l D aC A ad n _ 0 (σ.1 32 0 v2.toNatClampNeg) hd_39_0 _ hc32) (cwG hg wd_382 wd_383 wd_384 wd_385 wd_372 yd_Selectors_append ⟨Nat.le_of_ble_eq_true rfl, Nat.le_of_ble_eq_true rfl⟩) hK hH hS hZ hd_39_0 rfl rfl rfl hl.1 rfl (Nat.le_of_ble_eq_true rfl) d_Choice_append_32 ⟨Nat.zero_le _, Nat.zero_le _⟩ (fun H locs hH hS => ?_)
        obtain ⟨x3, ex3⟩ : ∃ y : Int32, y = v2 + 1 := ⟨_, rfl⟩
        have h1 := nm_at ex3 h1
        refine lv_iinc (v := x3) (lv' := [(2, .int x3), (0, .ref (ad 30 0)), (1, .ref (ad 3 0))]) hx hb d_Choice_append_35 hl (k := 2) rfl (by rw [ex3]; rfl) (by decide) rfl (fun ls hl => ?_)
        refine lv_goto (tgt := 13) hx hb d_Choice_append_38 (by decide) ?_
        cases h1
        exact ih1 σ2 x3 _ _ ls hH hS (lv_sub hl [1, 2, 0] rfl) hk1
  obtain ⟨k1, hq1⟩ := lpE_some hq1
  exact loop1 k1 σ1 0 _ _ ls hH hS (lv_sub hl [1, 2, 0] rfl) hq1
