theorem d_Mo_clear_0 : decode prog_13_method_26_code 0 = .ok (.aload_n 0, 1) := by decide +kernel
theorem d_Mo_clear_1 : decode prog_13_method_26_code 1 = .ok (.getfield 140, 3) := by decide +kernel
theorem d_Mo_clear_4 : decode prog_13_method_26_code 4 = .ok (.aload_n 0, 1) := by decide +kernel
theorem d_Mo_clear_5 : decode prog_13_method_26_code 5 = .ok (.getfield 143, 3) := by decide +kernel
theorem d_Mo_clear_8 : decode prog_13_method_26_code 8 = .ok (.isub, 1) := by decide +kernel
theorem d_Mo_clear_9 : decode prog_13_method_26_code 9 = .ok (.istore_n 1, 1) := by decide +kernel
theorem d_Mo_clear_10 : decode prog_13_method_26_code 10 = .ok (.aload_n 0, 1) := by decide +kernel
theorem d_Mo_clear_11 : decode prog_13_method_26_code 11 = .ok (.iconst 0, 1) := by decide +kernel
theorem d_Mo_clear_12 : decode prog_13_method_26_code 12 = .ok (.putfield 143, 3) := by decide +kernel
theorem d_Mo_clear_15 : decode prog_13_method_26_code 15 = .ok (.aload_n 0, 1) := by decide +kernel
theorem d_Mo_clear_16 : decode prog_13_method_26_code 16 = .ok (.iconst 0, 1) := by decide +kernel
theorem d_Mo_clear_17 : decode prog_13_method_26_code 17 = .ok (.putfield 140, 3) := by decide +kernel
theorem d_Mo_clear_20 : decode prog_13_method_26_code 20 = .ok (.iload_n 1, 1) := by decide +kernel
theorem d_Mo_clear_21 : decode prog_13_method_26_code 21 = .ok (.ireturn, 1) := by decide +kernel
theorem d_Mo_hasRoom_0 : decode prog_13_method_27_code 0 = .ok (.aload_n 0, 1) := by decide +kernel
theorem d_Mo_hasRoom_1 : decode prog_13_method_27_code 1 = .ok (.getfield 140, 3) := by decide +kernel
theorem d_Mo_hasRoom_4 : decode prog_13_method_27_code 4 = .ok (.aload_n 0, 1) := by decide +kernel
theorem d_Mo_hasRoom_5 : decode prog_13_method_27_code 5 = .ok (.getfield 143, 3) := by decide +kernel
theorem d_Mo_hasRoom_8 : decode prog_13_method_27_code 8 = .ok (.isub, 1) := by decide +kernel
theorem d_Mo_hasRoom_9 : decode prog_13_method_27_code 9 = .ok (.iload_n 1, 1) := by decide +kernel
theorem d_Mo_hasRoom_10 : decode prog_13_method_27_code 10 = .ok (.iadd, 1) := by decide +kernel
theorem d_Mo_hasRoom_11 : decode prog_13_method_27_code 11 = .ok (.sipush 20000, 3) := by decide +kernel
theorem d_Mo_hasRoom_14 : decode prog_13_method_27_code 14 = .ok (.if_icmp .gt 7, 3) := by decide +kernel
theorem d_Mo_hasRoom_17 : decode prog_13_method_27_code 17 = .ok (.iconst 1, 1) := by decide +kernel
theorem d_Mo_hasRoom_18 : decode prog_13_method_27_code 18 = .ok (.goto 4, 3) := by decide +kernel
theorem d_Mo_hasRoom_21 : decode prog_13_method_27_code 21 = .ok (.iconst 0, 1) := by decide +kernel
theorem d_Mo_hasRoom_22 : decode prog_13_method_27_code 22 = .ok (.ireturn, 1) := by decide +kernel
theorem d_Mo_putBits_0 : decode prog_13_method_28_code 0 = .ok (.aload_n 0, 1) := by decide +kernel
theorem d_Mo_putBits_1 : decode prog_13_method_28_code 1 = .ok (.getfield 140, 3) := by decide +kernel
theorem d_Mo_putBits_4 : decode prog_13_method_28_code 4 = .ok (.iload_n 2, 1) := by decide +kernel
theorem d_Mo_putBits_5 : decode prog_13_method_28_code 5 = .ok (.iadd, 1) := by decide +kernel
theorem d_Mo_putBits_6 : decode prog_13_method_28_code 6 = .ok (.ldc 35, 2) := by decide +kernel
theorem d_Mo_putBits_8 : decode prog_13_method_28_code 8 = .ok (.if_icmp .le 57, 3) := by decide +kernel
theorem d_Mo_putBits_11 : decode prog_13_method_28_code 11 = .ok (.aload_n 0, 1) := by decide +kernel
theorem d_Mo_putBits_12 : decode prog_13_method_28_code 12 = .ok (.getfield 143, 3) := by decide +kernel
theorem d_Mo_putBits_15 : decode prog_13_method_28_code 15 = .ok (.istore_n 3, 1) := by decide +kernel
theorem d_Mo_putBits_16 : decode prog_13_method_28_code 16 = .ok (.iload_n 3, 1) := by decide +kernel
theorem d_Mo_putBits_17 : decode prog_13_method_28_code 17 = .ok (.aload_n 0, 1) := by decide +kernel
theorem d_Mo_putBits_18 : decode prog_13_method_28_code 18 = .ok (.getfield 140, 3) := by decide +kernel
theorem d_Mo_putBits_21 : decode prog_13_method_28_code 21 = .ok (.if_icmp .ge 26, 3) := by decide +kernel
theorem d_Mo_putBits_24 : decode prog_13_method_28_code 24 = .ok (.aload_n 0, 1) := by decide +kernel
theorem d_Mo_putBits_25 : decode prog_13_method_28_code 25 = .ok (.getfield 36, 3) := by decide +kernel
theorem d_Mo_putBits_28 : decode prog_13_method_28_code 28 = .ok (.iload_n 3, 1) := by decide +kernel
theorem d_Mo_putBits_29 : decode prog_13_method_28_code 29 = .ok (.aload_n 0, 1) := by decide +kernel
theorem d_Mo_putBits_30 : decode prog_13_method_28_code 30 = .ok (.getfield 143, 3) := by decide +kernel
theorem d_Mo_putBits_33 : decode prog_13_method_28_code 33 = .ok (.isub, 1) := by decide +kernel
theorem d_Mo_putBits_34 : decode prog_13_method_28_code 34 = .ok (.aload_n 0, 1) := by decide +kernel
theorem d_Mo_putBits_35 : decode prog_13_method_28_code 35 = .ok (.getfield 36, 3) := by decide +kernel
theorem d_Mo_putBits_38 : decode prog_13_method_28_code 38 = .ok (.iload_n 3, 1) := by decide +kernel
theorem d_Mo_putBits_39 : decode prog_13_method_28_code 39 = .ok (.baload, 1) := by decide +kernel
theorem d_Mo_putBits_40 : decode prog_13_method_28_code 40 = .ok (.bastore, 1) := by decide +kernel
theorem d_Mo_putBits_41 : decode prog_13_method_28_code 41 = .ok (.iinc 3 1, 3) := by decide +kernel
theorem d_Mo_putBits_44 : decode prog_13_method_28_code 44 = .ok (.goto (-28), 3) := by decide +kernel
theorem d_Mo_putBits_47 : decode prog_13_method_28_code 47 = .ok (.aload_n 0, 1) := by decide +kernel
theorem d_Mo_putBits_48 : decode prog_13_method_28_code 48 = .ok (.dup, 1) := by decide +kernel
theorem d_Mo_putBits_49 : decode prog_13_method_28_code 49 = .ok (.getfield 140, 3) := by decide +kernel
theorem d_Mo_putBits_52 : decode prog_13_method_28_code 52 = .ok (.aload_n 0, 1) := by decide +kernel
theorem d_Mo_putBits_53 : decode prog_13_method_28_code 53 = .ok (.getfield 143, 3) := by decide +kernel
theorem d_Mo_putBits_56 : decode prog_13_method_28_code 56 = .ok (.isub, 1) := by decide +kernel
theorem d_Mo_putBits_57 : decode prog_13_method_28_code 57 = .ok (.putfield 140, 3) := by decide +kernel
theorem d_Mo_putBits_60 : decode prog_13_method_28_code 60 = .ok (.aload_n 0, 1) := by decide +kernel
theorem d_Mo_putBits_61 : decode prog_13_method_28_code 61 = .ok (.iconst 0, 1) := by decide +kernel
theorem d_Mo_putBits_62 : decode prog_13_method_28_code 62 = .ok (.putfield 143, 3) := by decide +kernel
theorem d_Mo_putBits_65 : decode prog_13_method_28_code 65 = .ok (.iload_n 2, 1) := by decide +kernel
theorem d_Mo_putBits_66 : decode prog_13_method_28_code 66 = .ok (.iconst 1, 1) := by decide +kernel
theorem d_Mo_putBits_67 : decode prog_13_method_28_code 67 = .ok (.isub, 1) := by decide +kernel
theorem d_Mo_putBits_68 : decode prog_13_method_28_code 68 = .ok (.istore_n 3, 1) := by decide +kernel
theorem d_Mo_putBits_69 : decode prog_13_method_28_code 69 = .ok (.iload_n 3, 1) := by decide +kernel
theorem d_Mo_putBits_70 : decode prog_13_method_28_code 70 = .ok (.ifCond .lt 34, 3) := by decide +kernel
theorem d_Mo_putBits_73 : decode prog_13_method_28_code 73 = .ok (.aload_n 0, 1) := by decide +kernel
theorem d_Mo_putBits_74 : decode prog_13_method_28_code 74 = .ok (.getfield 36, 3) := by decide +kernel
theorem d_Mo_putBits_77 : decode prog_13_method_28_code 77 = .ok (.aload_n 0, 1) := by decide +kernel
theorem d_Mo_putBits_78 : decode prog_13_method_28_code 78 = .ok (.getfield 140, 3) := by decide +kernel
theorem d_Mo_putBits_81 : decode prog_13_method_28_code 81 = .ok (.iload_n 1, 1) := by decide +kernel
theorem d_Mo_putBits_82 : decode prog_13_method_28_code 82 = .ok (.iload_n 3, 1) := by decide +kernel
theorem d_Mo_putBits_83 : decode prog_13_method_28_code 83 = .ok (.ishr, 1) := by decide +kernel
theorem d_Mo_putBits_84 : decode prog_13_method_28_code 84 = .ok (.iconst 1, 1) := by decide +kernel
theorem d_Mo_putBits_85 : decode prog_13_method_28_code 85 = .ok (.iand, 1) := by decide +kernel
theorem d_Mo_putBits_86 : decode prog_13_method_28_code 86 = .ok (.i2b, 1) := by decide +kernel
theorem d_Mo_putBits_87 : decode prog_13_method_28_code 87 = .ok (.bastore, 1) := by decide +kernel
theorem d_Mo_putBits_88 : decode prog_13_method_28_code 88 = .ok (.aload_n 0, 1) := by decide +kernel
theorem d_Mo_putBits_89 : decode prog_13_method_28_code 89 = .ok (.dup, 1) := by decide +kernel
theorem d_Mo_putBits_90 : decode prog_13_method_28_code 90 = .ok (.getfield 140, 3) := by decide +kernel
theorem d_Mo_putBits_93 : decode prog_13_method_28_code 93 = .ok (.iconst 1, 1) := by decide +kernel
theorem d_Mo_putBits_94 : decode prog_13_method_28_code 94 = .ok (.iadd, 1) := by decide +kernel
theorem d_Mo_putBits_95 : decode prog_13_method_28_code 95 = .ok (.putfield 140, 3) := by decide +kernel
theorem d_Mo_putBits_98 : decode prog_13_method_28_code 98 = .ok (.iinc 3 (-1), 3) := by decide +kernel
theorem d_Mo_putBits_101 : decode prog_13_method_28_code 101 = .ok (.goto (-32), 3) := by decide +kernel
theorem d_Mo_putBits_104 : decode prog_13_method_28_code 104 = .ok (.return_, 1) := by decide +kernel
theorem d_Mo_putNumber_0 : decode prog_13_method_29_code 0 = .ok (.iload_n 2, 1) := by decide +kernel
theorem d_Mo_putNumber_1 : decode prog_13_method_29_code 1 = .ok (.iconst 1, 1) := by decide +kernel
theorem d_Mo_putNumber_2 : decode prog_13_method_29_code 2 = .ok (.if_icmp .lt 9, 3) := by decide +kernel
theorem d_Mo_putNumber_5 : decode prog_13_method_29_code 5 = .ok (.iload_n 2, 1) := by decide +kernel
theorem d_Mo_putNumber_6 : decode prog_13_method_29_code 6 = .ok (.bipush 30, 2) := by decide +kernel
theorem d_Mo_putNumber_8 : decode prog_13_method_29_code 8 = .ok (.if_icmp .le 6, 3) := by decide +kernel
theorem d_Mo_putNumber_11 : decode prog_13_method_29_code 11 = .ok (.bipush (-102), 2) := by decide +kernel
theorem d_Mo_putNumber_13 : decode prog_13_method_29_code 13 = .ok (.ireturn, 1) := by decide +kernel
theorem d_Mo_putNumber_14 : decode prog_13_method_29_code 14 = .ok (.aload_n 0, 1) := by decide +kernel
theorem d_Mo_putNumber_15 : decode prog_13_method_29_code 15 = .ok (.iload_n 2, 1) := by decide +kernel
theorem d_Mo_putNumber_16 : decode prog_13_method_29_code 16 = .ok (.invokevirtual 146, 3) := by decide +kernel
theorem d_Mo_putNumber_19 : decode prog_13_method_29_code 19 = .ok (.ifCond .ne 6, 3) := by decide +kernel
theorem d_Mo_putNumber_22 : decode prog_13_method_29_code 22 = .ok (.bipush (-106), 2) := by decide +kernel
theorem d_Mo_putNumber_24 : decode prog_13_method_29_code 24 = .ok (.ireturn, 1) := by decide +kernel
theorem d_Mo_putNumber_25 : decode prog_13_method_29_code 25 = .ok (.aload_n 0, 1) := by decide +kernel
theorem d_Mo_putNumber_26 : decode prog_13_method_29_code 26 = .ok (.iload_n 1, 1) := by decide +kernel
theorem d_Mo_putNumber_27 : decode prog_13_method_29_code 27 = .ok (.iload_n 2, 1) := by decide +kernel
theorem d_Mo_putNumber_28 : decode prog_13_method_29_code 28 = .ok (.invokevirtual 149, 3) := by decide +kernel
theorem d_Mo_putNumber_31 : decode prog_13_method_29_code 31 = .ok (.aload_n 0, 1) := by decide +kernel
theorem d_Mo_putNumber_32 : decode prog_13_method_29_code 32 = .ok (.getfield 140, 3) := by decide +kernel
theorem d_Mo_putNumber_35 : decode prog_13_method_29_code 35 = .ok (.aload_n 0, 1) := by decide +kernel
theorem d_Mo_putNumber_36 : decode prog_13_method_29_code 36 = .ok (.getfield 143, 3) := by decide +kernel
theorem d_Mo_putNumber_39 : decode prog_13_method_29_code 39 = .ok (.isub, 1) := by decide +kernel
theorem d_Mo_putNumber_40 : decode prog_13_method_29_code 40 = .ok (.ireturn, 1) := by decide +kernel
theorem d_Mo_takeNumber_0 : decode prog_13_method_30_code 0 = .ok (.iload_n 1, 1) := by decide +kernel
theorem d_Mo_takeNumber_1 : decode prog_13_method_30_code 1 = .ok (.iconst 1, 1) := by decide +kernel
theorem d_Mo_takeNumber_2 : decode prog_13_method_30_code 2 = .ok (.if_icmp .lt 9, 3) := by decide +kernel
theorem d_Mo_takeNumber_5 : decode prog_13_method_30_code 5 = .ok (.iload_n 1, 1) := by decide +kernel
theorem d_Mo_takeNumber_6 : decode prog_13_method_30_code 6 = .ok (.bipush 30, 2) := by decide +kernel
theorem d_Mo_takeNumber_8 : decode prog_13_method_30_code 8 = .ok (.if_icmp .le 6, 3) := by decide +kernel
theorem d_Mo_takeNumber_11 : decode prog_13_method_30_code 11 = .ok (.bipush (-102), 2) := by decide +kernel
theorem d_Mo_takeNumber_13 : decode prog_13_method_30_code 13 = .ok (.ireturn, 1) := by decide +kernel
theorem d_Mo_takeNumber_14 : decode prog_13_method_30_code 14 = .ok (.aload_n 0, 1) := by decide +kernel
theorem d_Mo_takeNumber_15 : decode prog_13_method_30_code 15 = .ok (.getfield 140, 3) := by decide +kernel
theorem d_Mo_takeNumber_18 : decode prog_13_method_30_code 18 = .ok (.aload_n 0, 1) := by decide +kernel
theorem d_Mo_takeNumber_19 : decode prog_13_method_30_code 19 = .ok (.getfield 143, 3) := by decide +kernel
theorem d_Mo_takeNumber_22 : decode prog_13_method_30_code 22 = .ok (.isub, 1) := by decide +kernel
theorem d_Mo_takeNumber_23 : decode prog_13_method_30_code 23 = .ok (.iload_n 1, 1) := by decide +kernel
theorem d_Mo_takeNumber_24 : decode prog_13_method_30_code 24 = .ok (.if_icmp .ge 6, 3) := by decide +kernel
theorem d_Mo_takeNumber_27 : decode prog_13_method_30_code 27 = .ok (.bipush (-104), 2) := by decide +kernel
theorem d_Mo_takeNumber_29 : decode prog_13_method_30_code 29 = .ok (.ireturn, 1) := by decide +kernel
theorem d_Mo_takeNumber_30 : decode prog_13_method_30_code 30 = .ok (.iconst 0, 1) := by decide +kernel
theorem d_Mo_takeNumber_31 : decode prog_13_method_30_code 31 = .ok (.istore_n 2, 1) := by decide +kernel
theorem d_Mo_takeNumber_32 : decode prog_13_method_30_code 32 = .ok (.iconst 0, 1) := by decide +kernel
theorem d_Mo_takeNumber_33 : decode prog_13_method_30_code 33 = .ok (.istore_n 3, 1) := by decide +kernel
theorem d_Mo_takeNumber_34 : decode prog_13_method_30_code 34 = .ok (.iload_n 3, 1) := by decide +kernel
theorem d_Mo_takeNumber_35 : decode prog_13_method_30_code 35 = .ok (.iload_n 1, 1) := by decide +kernel
theorem d_Mo_takeNumber_36 : decode prog_13_method_30_code 36 = .ok (.if_icmp .ge 33, 3) := by decide +kernel
theorem d_Mo_takeNumber_39 : decode prog_13_method_30_code 39 = .ok (.iconst 2, 1) := by decide +kernel
theorem d_Mo_takeNumber_40 : decode prog_13_method_30_code 40 = .ok (.iload_n 2, 1) := by decide +kernel
theorem d_Mo_takeNumber_41 : decode prog_13_method_30_code 41 = .ok (.imul, 1) := by decide +kernel
theorem d_Mo_takeNumber_42 : decode prog_13_method_30_code 42 = .ok (.aload_n 0, 1) := by decide +kernel
theorem d_Mo_takeNumber_43 : decode prog_13_method_30_code 43 = .ok (.getfield 36, 3) := by decide +kernel
theorem d_Mo_takeNumber_46 : decode prog_13_method_30_code 46 = .ok (.aload_n 0, 1) := by decide +kernel
theorem d_Mo_takeNumber_47 : decode prog_13_method_30_code 47 = .ok (.getfield 143, 3) := by decide +kernel
theorem d_Mo_takeNumber_50 : decode prog_13_method_30_code 50 = .ok (.baload, 1) := by decide +kernel
theorem d_Mo_takeNumber_51 : decode prog_13_method_30_code 51 = .ok (.iadd, 1) := by decide +kernel
theorem d_Mo_takeNumber_52 : decode prog_13_method_30_code 52 = .ok (.istore_n 2, 1) := by decide +kernel
theorem d_Mo_takeNumber_53 : decode prog_13_method_30_code 53 = .ok (.aload_n 0, 1) := by decide +kernel
theorem d_Mo_takeNumber_54 : decode prog_13_method_30_code 54 = .ok (.dup, 1) := by decide +kernel
theorem d_Mo_takeNumber_55 : decode prog_13_method_30_code 55 = .ok (.getfield 143, 3) := by decide +kernel
theorem d_Mo_takeNumber_58 : decode prog_13_method_30_code 58 = .ok (.iconst 1, 1) := by decide +kernel
theorem d_Mo_takeNumber_59 : decode prog_13_method_30_code 59 = .ok (.iadd, 1) := by decide +kernel
theorem d_Mo_takeNumber_60 : decode prog_13_method_30_code 60 = .ok (.putfield 143, 3) := by decide +kernel
theorem d_Mo_takeNumber_63 : decode prog_13_method_30_code 63 = .ok (.iinc 3 1, 3) := by decide +kernel
theorem d_Mo_takeNumber_66 : decode prog_13_method_30_code 66 = .ok (.goto (-32), 3) := by decide +kernel
theorem d_Mo_takeNumber_69 : decode prog_13_method_30_code 69 = .ok (.iload_n 2, 1) := by decide +kernel
theorem d_Mo_takeNumber_70 : decode prog_13_method_30_code 70 = .ok (.ireturn, 1) := by decide +kernel
theorem d_Mo_put_0 : decode prog_13_method_31_code 0 = .ok (.aload_n 0, 1) := by decide +kernel
theorem d_Mo_put_1 : decode prog_13_method_31_code 1 = .ok (.iload_n 1, 1) := by decide +kernel
theorem d_Mo_put_2 : decode prog_13_method_31_code 2 = .ok (.iload_n 2, 1) := by decide +kernel
theorem d_Mo_put_3 : decode prog_13_method_31_code 3 = .ok (.iload_n 3, 1) := by decide +kernel
theorem d_Mo_put_4 : decode prog_13_method_31_code 4 = .ok (.invokevirtual 152, 3) := by decide +kernel
theorem d_Mo_put_7 : decode prog_13_method_31_code 7 = .ok (.istore 4, 2) := by decide +kernel
theorem d_Mo_put_9 : decode prog_13_method_31_code 9 = .ok (.iload 4, 2) := by decide +kernel
theorem d_Mo_put_11 : decode prog_13_method_31_code 11 = .ok (.ifCond .ge 6, 3) := by decide +kernel
theorem d_Mo_put_14 : decode prog_13_method_31_code 14 = .ok (.iload 4, 2) := by decide +kernel
theorem d_Mo_put_16 : decode prog_13_method_31_code 16 = .ok (.ireturn, 1) := by decide +kernel
theorem d_Mo_put_17 : decode prog_13_method_31_code 17 = .ok (.aload_n 0, 1) := by decide +kernel
theorem d_Mo_put_18 : decode prog_13_method_31_code 18 = .ok (.iload_n 1, 1) := by decide +kernel
theorem d_Mo_put_19 : decode prog_13_method_31_code 19 = .ok (.iload_n 2, 1) := by decide +kernel
theorem d_Mo_put_20 : decode prog_13_method_31_code 20 = .ok (.invokevirtual 99, 3) := by decide +kernel
theorem d_Mo_put_23 : decode prog_13_method_31_code 23 = .ok (.istore 5, 2) := by decide +kernel
theorem d_Mo_put_25 : decode prog_13_method_31_code 25 = .ok (.aload_n 0, 1) := by decide +kernel
theorem d_Mo_put_26 : decode prog_13_method_31_code 26 = .ok (.iload 5, 2) := by decide +kernel
theorem d_Mo_put_28 : decode prog_13_method_31_code 28 = .ok (.invokevirtual 146, 3) := by decide +kernel
theorem d_Mo_put_31 : decode prog_13_method_31_code 31 = .ok (.ifCond .ne 6, 3) := by decide +kernel
theorem d_Mo_put_34 : decode prog_13_method_31_code 34 = .ok (.bipush (-106), 2) := by decide +kernel
theorem d_Mo_put_36 : decode prog_13_method_31_code 36 = .ok (.ireturn, 1) := by decide +kernel
theorem d_Mo_put_37 : decode prog_13_method_31_code 37 = .ok (.aload_n 0, 1) := by decide +kernel
theorem d_Mo_put_38 : decode prog_13_method_31_code 38 = .ok (.iload 4, 2) := by decide +kernel
theorem d_Mo_put_40 : decode prog_13_method_31_code 40 = .ok (.iload 5, 2) := by decide +kernel
theorem d_Mo_put_42 : decode prog_13_method_31_code 42 = .ok (.invokevirtual 149, 3) := by decide +kernel
theorem d_Mo_put_45 : decode prog_13_method_31_code 45 = .ok (.aload_n 0, 1) := by decide +kernel
theorem d_Mo_put_46 : decode prog_13_method_31_code 46 = .ok (.getfield 140, 3) := by decide +kernel
theorem d_Mo_put_49 : decode prog_13_method_31_code 49 = .ok (.aload_n 0, 1) := by decide +kernel
theorem d_Mo_put_50 : decode prog_13_method_31_code 50 = .ok (.getfield 143, 3) := by decide +kernel
theorem d_Mo_put_53 : decode prog_13_method_31_code 53 = .ok (.isub, 1) := by decide +kernel
theorem d_Mo_put_54 : decode prog_13_method_31_code 54 = .ok (.ireturn, 1) := by decide +kernel
theorem d_Mo_taken_0 : decode prog_13_method_32_code 0 = .ok (.iconst 0, 1) := by decide +kernel
theorem d_Mo_taken_1 : decode prog_13_method_32_code 1 = .ok (.istore_n 3, 1) := by decide +kernel
theorem d_Mo_taken_2 : decode prog_13_method_32_code 2 = .ok (.iconst 1, 1) := by decide +kernel
theorem d_Mo_taken_3 : decode prog_13_method_32_code 3 = .ok (.istore 4, 2) := by decide +kernel
theorem d_Mo_taken_5 : decode prog_13_method_32_code 5 = .ok (.iload 4, 2) := by decide +kernel
theorem d_Mo_taken_7 : decode prog_13_method_32_code 7 = .ok (.bipush 15, 2) := by decide +kernel
theorem d_Mo_taken_9 : decode prog_13_method_32_code 9 = .ok (.if_icmp .gt 155, 3) := by decide +kernel
theorem d_Mo_taken_12 : decode prog_13_method_32_code 12 = .ok (.aload_n 0, 1) := by decide +kernel
theorem d_Mo_taken_13 : decode prog_13_method_32_code 13 = .ok (.getfield 140, 3) := by decide +kernel
theorem d_Mo_taken_16 : decode prog_13_method_32_code 16 = .ok (.aload_n 0, 1) := by decide +kernel
theorem d_Mo_taken_17 : decode prog_13_method_32_code 17 = .ok (.getfield 143, 3) := by decide +kernel
theorem d_Mo_taken_20 : decode prog_13_method_32_code 20 = .ok (.if_icmp .ne 6, 3) := by decide +kernel
theorem d_Mo_taken_23 : decode prog_13_method_32_code 23 = .ok (.bipush (-104), 2) := by decide +kernel
theorem d_Mo_taken_25 : decode prog_13_method_32_code 25 = .ok (.ireturn, 1) := by decide +kernel
theorem d_Mo_taken_26 : decode prog_13_method_32_code 26 = .ok (.iload_n 2, 1) := by decide +kernel
theorem d_Mo_taken_27 : decode prog_13_method_32_code 27 = .ok (.ifCond .eq 30, 3) := by decide +kernel
theorem d_Mo_taken_30 : decode prog_13_method_32_code 30 = .ok (.aload_n 0, 1) := by decide +kernel
theorem d_Mo_taken_31 : decode prog_13_method_32_code 31 = .ok (.dup, 1) := by decide +kernel
theorem d_Mo_taken_32 : decode prog_13_method_32_code 32 = .ok (.getfield 140, 3) := by decide +kernel
theorem d_Mo_taken_35 : decode prog_13_method_32_code 35 = .ok (.iconst 1, 1) := by decide +kernel
theorem d_Mo_taken_36 : decode prog_13_method_32_code 36 = .ok (.isub, 1) := by decide +kernel
theorem d_Mo_taken_37 : decode prog_13_method_32_code 37 = .ok (.putfield 140, 3) := by decide +kernel
theorem d_Mo_taken_40 : decode prog_13_method_32_code 40 = .ok (.iconst 2, 1) := by decide +kernel
theorem d_Mo_taken_41 : decode prog_13_method_32_code 41 = .ok (.iload_n 3, 1) := by decide +kernel
theorem d_Mo_taken_42 : decode prog_13_method_32_code 42 = .ok (.imul, 1) := by decide +kernel
theorem d_Mo_taken_43 : decode prog_13_method_32_code 43 = .ok (.aload_n 0, 1) := by decide +kernel
theorem d_Mo_taken_44 : decode prog_13_method_32_code 44 = .ok (.getfield 36, 3) := by decide +kernel
theorem d_Mo_taken_47 : decode prog_13_method_32_code 47 = .ok (.aload_n 0, 1) := by decide +kernel
theorem d_Mo_taken_48 : decode prog_13_method_32_code 48 = .ok (.getfield 140, 3) := by decide +kernel
theorem d_Mo_taken_51 : decode prog_13_method_32_code 51 = .ok (.baload, 1) := by decide +kernel
theorem d_Mo_taken_52 : decode prog_13_method_32_code 52 = .ok (.iadd, 1) := by decide +kernel
theorem d_Mo_taken_53 : decode prog_13_method_32_code 53 = .ok (.istore_n 3, 1) := by decide +kernel
theorem d_Mo_taken_54 : decode prog_13_method_32_code 54 = .ok (.goto 27, 3) := by decide +kernel
theorem d_Mo_taken_57 : decode prog_13_method_32_code 57 = .ok (.iconst 2, 1) := by decide +kernel
theorem d_Mo_taken_58 : decode prog_13_method_32_code 58 = .ok (.iload_n 3, 1) := by decide +kernel
theorem d_Mo_taken_59 : decode prog_13_method_32_code 59 = .ok (.imul, 1) := by decide +kernel
theorem d_Mo_taken_60 : decode prog_13_method_32_code 60 = .ok (.aload_n 0, 1) := by decide +kernel
theorem d_Mo_taken_61 : decode prog_13_method_32_code 61 = .ok (.getfield 36, 3) := by decide +kernel
theorem d_Mo_taken_64 : decode prog_13_method_32_code 64 = .ok (.aload_n 0, 1) := by decide +kernel
theorem d_Mo_taken_65 : decode prog_13_method_32_code 65 = .ok (.getfield 143, 3) := by decide +kernel
theorem d_Mo_taken_68 : decode prog_13_method_32_code 68 = .ok (.baload, 1) := by decide +kernel
theorem d_Mo_taken_69 : decode prog_13_method_32_code 69 = .ok (.iadd, 1) := by decide +kernel
theorem d_Mo_taken_70 : decode prog_13_method_32_code 70 = .ok (.istore_n 3, 1) := by decide +kernel
theorem d_Mo_taken_71 : decode prog_13_method_32_code 71 = .ok (.aload_n 0, 1) := by decide +kernel
theorem d_Mo_taken_72 : decode prog_13_method_32_code 72 = .ok (.dup, 1) := by decide +kernel
theorem d_Mo_taken_73 : decode prog_13_method_32_code 73 = .ok (.getfield 143, 3) := by decide +kernel
theorem d_Mo_taken_76 : decode prog_13_method_32_code 76 = .ok (.iconst 1, 1) := by decide +kernel
theorem d_Mo_taken_77 : decode prog_13_method_32_code 77 = .ok (.iadd, 1) := by decide +kernel
theorem d_Mo_taken_78 : decode prog_13_method_32_code 78 = .ok (.putfield 143, 3) := by decide +kernel
theorem d_Mo_taken_81 : decode prog_13_method_32_code 81 = .ok (.iconst 0, 1) := by decide +kernel
theorem d_Mo_taken_82 : decode prog_13_method_32_code 82 = .ok (.istore 5, 2) := by decide +kernel
theorem d_Mo_taken_84 : decode prog_13_method_32_code 84 = .ok (.iconst 0, 1) := by decide +kernel
theorem d_Mo_taken_85 : decode prog_13_method_32_code 85 = .ok (.istore 6, 2) := by decide +kernel
theorem d_Mo_taken_87 : decode prog_13_method_32_code 87 = .ok (.iload 6, 2) := by decide +kernel
theorem d_Mo_taken_89 : decode prog_13_method_32_code 89 = .ok (.aload_n 0, 1) := by decide +kernel
theorem d_Mo_taken_90 : decode prog_13_method_32_code 90 = .ok (.getfield 7, 3) := by decide +kernel
theorem d_Mo_taken_93 : decode prog_13_method_32_code 93 = .ok (.iload_n 1, 1) := by decide +kernel
theorem d_Mo_taken_94 : decode prog_13_method_32_code 94 = .ok (.iaload, 1) := by decide +kernel
theorem d_Mo_taken_95 : decode prog_13_method_32_code 95 = .ok (.if_icmp .ge 55, 3) := by decide +kernel
theorem d_Mo_taken_98 : decode prog_13_method_32_code 98 = .ok (.aload_n 0, 1) := by decide +kernel
theorem d_Mo_taken_99 : decode prog_13_method_32_code 99 = .ok (.iload_n 1, 1) := by decide +kernel
theorem d_Mo_taken_100 : decode prog_13_method_32_code 100 = .ok (.iload 6, 2) := by decide +kernel
theorem d_Mo_taken_102 : decode prog_13_method_32_code 102 = .ok (.invokevirtual 99, 3) := by decide +kernel
theorem d_Mo_taken_105 : decode prog_13_method_32_code 105 = .ok (.istore 7, 2) := by decide +kernel
theorem d_Mo_taken_107 : decode prog_13_method_32_code 107 = .ok (.iload 7, 2) := by decide +kernel
theorem d_Mo_taken_109 : decode prog_13_method_32_code 109 = .ok (.iload 4, 2) := by decide +kernel
theorem d_Mo_taken_111 : decode prog_13_method_32_code 111 = .ok (.if_icmp .lt 33, 3) := by decide +kernel
theorem d_Mo_taken_114 : decode prog_13_method_32_code 114 = .ok (.aload_n 0, 1) := by decide +kernel
theorem d_Mo_taken_115 : decode prog_13_method_32_code 115 = .ok (.iload_n 1, 1) := by decide +kernel
theorem d_Mo_taken_116 : decode prog_13_method_32_code 116 = .ok (.iload 6, 2) := by decide +kernel
theorem d_Mo_taken_118 : decode prog_13_method_32_code 118 = .ok (.invokevirtual 116, 3) := by decide +kernel
theorem d_Mo_taken_121 : decode prog_13_method_32_code 121 = .ok (.iload 7, 2) := by decide +kernel
theorem d_Mo_taken_123 : decode prog_13_method_32_code 123 = .ok (.iload 4, 2) := by decide +kernel
theorem d_Mo_taken_125 : decode prog_13_method_32_code 125 = .ok (.isub, 1) := by decide +kernel
theorem d_Mo_taken_126 : decode prog_13_method_32_code 126 = .ok (.ishr, 1) := by decide +kernel
theorem d_Mo_taken_127 : decode prog_13_method_32_code 127 = .ok (.iload_n 3, 1) := by decide +kernel
theorem d_Mo_taken_128 : decode prog_13_method_32_code 128 = .ok (.if_icmp .ne 16, 3) := by decide +kernel
theorem d_Mo_taken_131 : decode prog_13_method_32_code 131 = .ok (.iconst 1, 1) := by decide +kernel
theorem d_Mo_taken_132 : decode prog_13_method_32_code 132 = .ok (.istore 5, 2) := by decide +kernel
theorem d_Mo_taken_134 : decode prog_13_method_32_code 134 = .ok (.iload 7, 2) := by decide +kernel
theorem d_Mo_taken_136 : decode prog_13_method_32_code 136 = .ok (.iload 4, 2) := by decide +kernel
theorem d_Mo_taken_138 : decode prog_13_method_32_code 138 = .ok (.if_icmp .ne 6, 3) := by decide +kernel
theorem d_Mo_taken_141 : decode prog_13_method_32_code 141 = .ok (.iload 6, 2) := by decide +kernel
theorem d_Mo_taken_143 : decode prog_13_method_32_code 143 = .ok (.ireturn, 1) := by decide +kernel
theorem d_Mo_taken_144 : decode prog_13_method_32_code 144 = .ok (.iinc 6 1, 3) := by decide +kernel
theorem d_Mo_taken_147 : decode prog_13_method_32_code 147 = .ok (.goto (-60), 3) := by decide +kernel
theorem d_Mo_taken_150 : decode prog_13_method_32_code 150 = .ok (.iload 5, 2) := by decide +kernel
theorem d_Mo_taken_152 : decode prog_13_method_32_code 152 = .ok (.ifCond .ne 6, 3) := by decide +kernel
theorem d_Mo_taken_155 : decode prog_13_method_32_code 155 = .ok (.bipush (-105), 2) := by decide +kernel
theorem d_Mo_taken_157 : decode prog_13_method_32_code 157 = .ok (.ireturn, 1) := by decide +kernel
theorem d_Mo_taken_158 : decode prog_13_method_32_code 158 = .ok (.iinc 4 1, 3) := by decide +kernel
theorem d_Mo_taken_161 : decode prog_13_method_32_code 161 = .ok (.goto (-156), 3) := by decide +kernel
theorem d_Mo_taken_164 : decode prog_13_method_32_code 164 = .ok (.bipush (-105), 2) := by decide +kernel
theorem d_Mo_taken_166 : decode prog_13_method_32_code 166 = .ok (.ireturn, 1) := by decide +kernel
theorem d_Mo_take_0 : decode prog_13_method_33_code 0 = .ok (.aload_n 0, 1) := by decide +kernel
theorem d_Mo_take_1 : decode prog_13_method_33_code 1 = .ok (.iload_n 1, 1) := by decide +kernel
theorem d_Mo_take_2 : decode prog_13_method_33_code 2 = .ok (.invokevirtual 87, 3) := by decide +kernel
theorem d_Mo_take_5 : decode prog_13_method_33_code 5 = .ok (.ifCond .ne 6, 3) := by decide +kernel
theorem d_Mo_take_8 : decode prog_13_method_33_code 8 = .ok (.bipush (-101), 2) := by decide +kernel
theorem d_Mo_take_10 : decode prog_13_method_33_code 10 = .ok (.ireturn, 1) := by decide +kernel
theorem d_Mo_take_11 : decode prog_13_method_33_code 11 = .ok (.aload_n 0, 1) := by decide +kernel
theorem d_Mo_take_12 : decode prog_13_method_33_code 12 = .ok (.iload_n 1, 1) := by decide +kernel
theorem d_Mo_take_13 : decode prog_13_method_33_code 13 = .ok (.invokevirtual 113, 3) := by decide +kernel
theorem d_Mo_take_16 : decode prog_13_method_33_code 16 = .ok (.istore_n 3, 1) := by decide +kernel
theorem d_Mo_take_17 : decode prog_13_method_33_code 17 = .ok (.iload_n 3, 1) := by decide +kernel
theorem d_Mo_take_18 : decode prog_13_method_33_code 18 = .ok (.ifCond .eq 8, 3) := by decide +kernel
theorem d_Mo_take_21 : decode prog_13_method_33_code 21 = .ok (.iload_n 3, 1) := by decide +kernel
theorem d_Mo_take_22 : decode prog_13_method_33_code 22 = .ok (.iconst 4, 1) := by decide +kernel
theorem d_Mo_take_23 : decode prog_13_method_33_code 23 = .ok (.if_icmp .ne 8, 3) := by decide +kernel
theorem d_Mo_take_26 : decode prog_13_method_33_code 26 = .ok (.bipush (-103), 2) := by decide +kernel
theorem d_Mo_take_28 : decode prog_13_method_33_code 28 = .ok (.goto 9, 3) := by decide +kernel
theorem d_Mo_take_31 : decode prog_13_method_33_code 31 = .ok (.aload_n 0, 1) := by decide +kernel
theorem d_Mo_take_32 : decode prog_13_method_33_code 32 = .ok (.iload_n 1, 1) := by decide +kernel
theorem d_Mo_take_33 : decode prog_13_method_33_code 33 = .ok (.iload_n 2, 1) := by decide +kernel
theorem d_Mo_take_34 : decode prog_13_method_33_code 34 = .ok (.invokevirtual 156, 3) := by decide +kernel
theorem d_Mo_take_37 : decode prog_13_method_33_code 37 = .ok (.ireturn, 1) := by decide +kernel
theorem d_Mo_orderOf_0 : decode prog_13_method_34_code 0 = .ok (.iload_n 0, 1) := by decide +kernel
theorem d_Mo_orderOf_1 : decode prog_13_method_34_code 1 = .ok (.iconst 3, 1) := by decide +kernel
theorem d_Mo_orderOf_2 : decode prog_13_method_34_code 2 = .ok (.if_icmp .ge 10, 3) := by decide +kernel
theorem d_Mo_orderOf_5 : decode prog_13_method_34_code 5 = .ok (.bipush 16, 2) := by decide +kernel
theorem d_Mo_orderOf_7 : decode prog_13_method_34_code 7 = .ok (.iload_n 0, 1) := by decide +kernel
theorem d_Mo_orderOf_8 : decode prog_13_method_34_code 8 = .ok (.iadd, 1) := by decide +kernel
theorem d_Mo_orderOf_9 : decode prog_13_method_34_code 9 = .ok (.goto 37, 3) := by decide +kernel
theorem d_Mo_orderOf_12 : decode prog_13_method_34_code 12 = .ok (.iload_n 0, 1) := by decide +kernel
theorem d_Mo_orderOf_13 : decode prog_13_method_34_code 13 = .ok (.iconst 3, 1) := by decide +kernel
theorem d_Mo_orderOf_14 : decode prog_13_method_34_code 14 = .ok (.if_icmp .ne 7, 3) := by decide +kernel
theorem d_Mo_orderOf_17 : decode prog_13_method_34_code 17 = .ok (.iconst 0, 1) := by decide +kernel
theorem d_Mo_orderOf_18 : decode prog_13_method_34_code 18 = .ok (.goto 28, 3) := by decide +kernel
theorem d_Mo_orderOf_21 : decode prog_13_method_34_code 21 = .ok (.iload_n 0, 1) := by decide +kernel
theorem d_Mo_orderOf_22 : decode prog_13_method_34_code 22 = .ok (.iconst 1, 1) := by decide +kernel
theorem d_Mo_orderOf_23 : decode prog_13_method_34_code 23 = .ok (.iand, 1) := by decide +kernel
theorem d_Mo_orderOf_24 : decode prog_13_method_34_code 24 = .ok (.ifCond .ne 14, 3) := by decide +kernel
theorem d_Mo_orderOf_27 : decode prog_13_method_34_code 27 = .ok (.bipush 8, 2) := by decide +kernel
theorem d_Mo_orderOf_29 : decode prog_13_method_34_code 29 = .ok (.iload_n 0, 1) := by decide +kernel
theorem d_Mo_orderOf_30 : decode prog_13_method_34_code 30 = .ok (.iconst 4, 1) := by decide +kernel
theorem d_Mo_orderOf_31 : decode prog_13_method_34_code 31 = .ok (.isub, 1) := by decide +kernel
theorem d_Mo_orderOf_32 : decode prog_13_method_34_code 32 = .ok (.iconst 2, 1) := by decide +kernel
theorem d_Mo_orderOf_33 : decode prog_13_method_34_code 33 = .ok (.idiv, 1) := by decide +kernel
theorem d_Mo_orderOf_34 : decode prog_13_method_34_code 34 = .ok (.iadd, 1) := by decide +kernel
theorem d_Mo_orderOf_35 : decode prog_13_method_34_code 35 = .ok (.goto 11, 3) := by decide +kernel
theorem d_Mo_orderOf_38 : decode prog_13_method_34_code 38 = .ok (.bipush 7, 2) := by decide +kernel
theorem d_Mo_orderOf_40 : decode prog_13_method_34_code 40 = .ok (.iload_n 0, 1) := by decide +kernel
theorem d_Mo_orderOf_41 : decode prog_13_method_34_code 41 = .ok (.iconst 5, 1) := by decide +kernel
theorem d_Mo_orderOf_42 : decode prog_13_method_34_code 42 = .ok (.isub, 1) := by decide +kernel
theorem d_Mo_orderOf_43 : decode prog_13_method_34_code 43 = .ok (.iconst 2, 1) := by decide +kernel
theorem d_Mo_orderOf_44 : decode prog_13_method_34_code 44 = .ok (.idiv, 1) := by decide +kernel
theorem d_Mo_orderOf_45 : decode prog_13_method_34_code 45 = .ok (.isub, 1) := by decide +kernel
theorem d_Mo_orderOf_46 : decode prog_13_method_34_code 46 = .ok (.ireturn, 1) := by decide +kernel
theorem d_Mo_extra_0 : decode prog_13_method_35_code 0 = .ok (.iload_n 0, 1) := by decide +kernel
theorem d_Mo_extra_1 : decode prog_13_method_35_code 1 = .ok (.bipush 16, 2) := by decide +kernel
theorem d_Mo_extra_3 : decode prog_13_method_35_code 3 = .ok (.if_icmp .ne 7, 3) := by decide +kernel
theorem d_Mo_extra_6 : decode prog_13_method_35_code 6 = .ok (.iconst 2, 1) := by decide +kernel
theorem d_Mo_extra_7 : decode prog_13_method_35_code 7 = .ok (.goto 25, 3) := by decide +kernel
theorem d_Mo_extra_10 : decode prog_13_method_35_code 10 = .ok (.iload_n 0, 1) := by decide +kernel
theorem d_Mo_extra_11 : decode prog_13_method_35_code 11 = .ok (.bipush 17, 2) := by decide +kernel
theorem d_Mo_extra_13 : decode prog_13_method_35_code 13 = .ok (.if_icmp .ne 7, 3) := by decide +kernel
theorem d_Mo_extra_16 : decode prog_13_method_35_code 16 = .ok (.iconst 3, 1) := by decide +kernel
theorem d_Mo_extra_17 : decode prog_13_method_35_code 17 = .ok (.goto 15, 3) := by decide +kernel
theorem d_Mo_extra_20 : decode prog_13_method_35_code 20 = .ok (.iload_n 0, 1) := by decide +kernel
theorem d_Mo_extra_21 : decode prog_13_method_35_code 21 = .ok (.bipush 18, 2) := by decide +kernel
theorem d_Mo_extra_23 : decode prog_13_method_35_code 23 = .ok (.if_icmp .ne 8, 3) := by decide +kernel
theorem d_Mo_extra_26 : decode prog_13_method_35_code 26 = .ok (.bipush 7, 2) := by decide +kernel
theorem d_Mo_extra_28 : decode prog_13_method_35_code 28 = .ok (.goto 4, 3) := by decide +kernel
theorem d_Mo_extra_31 : decode prog_13_method_35_code 31 = .ok (.iconst 0, 1) := by decide +kernel
theorem d_Mo_extra_32 : decode prog_13_method_35_code 32 = .ok (.ireturn, 1) := by decide +kernel
noncomputable def f_Mo_clear (σ : St) : Option (St × Int32) :=
  nm ((σ.1 48 0 12) - (σ.1 48 0 11)) fun x1 =>
  nm (sI σ 48 0 11 0) fun σ2 =>
  nm (sI σ2 48 0 12 0) fun σ3 =>
  some (σ3, x1)
noncomputable def f_Mo_hasRoom (σ : St) (a1 : Int32) : Option (St × Int32) :=
  if 20000 < (((σ.1 48 0 12) - (σ.1 48 0 11)) + a1) then
    some (σ, 0)
  else
  some (σ, 1)
noncomputable def lb_Mo_putBits_69 (p1 : Int32) (σ : St) (v3 : Int32) : Option ((St × Int32) ⊕ ((St × Int32))) :=
  if v3 < 0 then
    some (.inr (σ, v3))
  else
  gd (ib (σ.1 48 0 12) 60000) <|
  nm (sI σ 57 0 ((σ.1 48 0 12).toNatClampNeg) ((((p1 >>> (v3 &&& 31)) &&& 1).toInt8.toInt32).toInt8.toInt32)) fun σ2 =>
  nm (sI σ2 48 0 12 ((σ2.1 48 0 12) + 1)) fun σ3 =>
  nm (v3 + (-1)) fun x4 =>
  some (.inl (σ3, x4))
noncomputable def jn_Mo_putBits_65 (σ : St) (p1 : Int32) (p2 : Int32) : Option (St) :=
  nm (p2 - 1) fun x1 =>
  b2 (lpE (fun q => lb_Mo_putBits_69 p1 q.1 q.2) (σ, x1)) fun σ5 x6 =>
  some σ5
noncomputable def lb_Mo_putBits_16 (a1 : Int32) (a2 : Int32) (σ : St) (v3 : Int32) : Option ((St × Int32) ⊕ ((St × Int32))) :=
  if (σ.1 48 0 12) ≤ v3 then
    some (.inr (σ, v3))
  else
  gd (ib v3 60000) <|
  gd (ib (v3 - (σ.1 48 0 11)) 60000) <|
  nm (sI σ 57 0 ((v3 - (σ.1 48 0 11)).toNatClampNeg) ((σ.1 57 0 v3.toNatClampNeg).toInt8.toInt32)) fun σ8 =>
  nm (v3 + 1) fun x9 =>
  some (.inl (σ8, x9))
noncomputable def f_Mo_putBits (σ : St) (a1 : Int32) (a2 : Int32) : Option (St) :=
  if ((σ.1 48 0 12) + a2) ≤ 60000 then
    jn_Mo_putBits_65 σ a1 a2
  else
  nm (σ.1 48 0 11) fun x7 =>
  b2 (lpE (fun q => lb_Mo_putBits_16 a1 a2 q.1 q.2) (σ, x7)) fun σ10 x11 =>
  nm (sI σ10 48 0 12 ((σ10.1 48 0 12) - (σ10.1 48 0 11))) fun σ12 =>
  nm (sI σ12 48 0 11 0) fun σ13 =>
  jn_Mo_putBits_65 σ13 a1 a2
noncomputable def f_Mo_putNumber (σ : St) (a1 : Int32) (a2 : Int32) : Option (St × Int32) :=
  if a2 < 1 then
    some (σ, (-102))
  else
  if a2 ≤ 30 then
    b2 (f_Mo_hasRoom σ a2) fun σ1 x2 =>
    if x2 = 0 then
      some (σ1, (-106))
    else
    b1 (f_Mo_putBits σ1 a1 a2) fun σ3 =>
    some (σ3, (σ3.1 48 0 12) - (σ3.1 48 0 11))
  else
  some (σ, (-102))
noncomputable def lb_Mo_takeNumber_34 (a1 : Int32) (σ : St) (v2 : Int32) (v3 : Int32) : Option ((St × Int32 × Int32) ⊕ ((St × Int32 × Int32))) :=
  if a1 ≤ v3 then
    some (.inr (σ, v2, v3))
  else
  gd (ib (σ.1 48 0 11) 60000) <|
  nm ((2 * v2) + (σ.1 57 0 (σ.1 48 0 11).toNatClampNeg)) fun x1 =>
  nm (sI σ 48 0 11 ((σ.1 48 0 11) + 1)) fun σ2 =>
  nm (v3 + 1) fun x3 =>
  some (.inl (σ2, x1, x3))
noncomputable def f_Mo_takeNumber (σ : St) (a1 : Int32) : Option (St × Int32) :=
  if a1 < 1 then
    some (σ, (-102))
  else
  if a1 ≤ 30 then
    if a1 ≤ ((σ.1 48 0 12) - (σ.1 48 0 11)) then
      b3 (lpE (fun q => lb_Mo_takeNumber_34 a1 q.1 q.2.1 q.2.2) (σ, 0, 0)) fun σ4 x5 x6 =>
      some (σ4, x5)
    else
    some (σ, (-104))
  else
  some (σ, (-102))
noncomputable def f_Mo_put (σ : St) (a1 : Int32) (a2 : Int32) (a3 : Int32) : Option (St × Int32) :=
  b2 (f_Mo_word σ a1 a2 a3) fun σ1 x2 =>
  if 0 ≤ x2 then
    b2 (f_Mo_lengthOf σ1 a1 a2) fun σ3 x4 =>
    b2 (f_Mo_hasRoom σ3 x4) fun σ5 x6 =>
    if x6 = 0 then
      some (σ5, (-106))
    else
    b1 (f_Mo_putBits σ5 x2 x4) fun σ7 =>
    some (σ7, (σ7.1 48 0 12) - (σ7.1 48 0 11))
  else
  some (σ1, x2)
noncomputable def lb_Mo_taken_87 (a1 : Int32) (a2 : Int32) (p3 : Int32) (p4 : Int32) (σ : St) (v5 : Int32) (v6 : Int32) : Option ((St × Int32 × Int32) ⊕ ((St × Int32 × Int32) ⊕ (St × Int32))) :=
  gd (ib a1 13) <|
  if (σ.1 49 0 a1.toNatClampNeg) ≤ v6 then
    some (.inr (.inl (σ, v5, v6)))
  else
  b2 (f_Mo_lengthOf σ a1 v6) fun σ3 x4 =>
  if x4 < p4 then
    nm (v6 + 1) fun x5 =>
    some (.inl (σ3, v5, x5))
  else
  b2 (f_Mo_wordOf σ3 a1 v6) fun σ6 x7 =>
  if (x7 >>> ((x4 - p4) &&& 31)) = p3 then
    if x4 = p4 then
      some (.inr (.inr (σ6, v6)))
    else
    nm (v6 + 1) fun x9 =>
    some (.inl (σ6, 1, x9))
  else
  nm (v6 + 1) fun x8 =>
  some (.inl (σ6, v5, x8))
noncomputable def jn_Mo_taken_81 (a1 : Int32) (a2 : Int32) (σ : St) (p3 : Int32) (p4 : Int32) : Option ((St × Int32 × Int32) ⊕ ((St × Int32 × Int32) ⊕ (St × Int32))) :=
  bs3 (lpE (fun q => lb_Mo_taken_87 a1 a2 p3 p4 q.1 q.2.1 q.2.2) (σ, 0, 0)) (fun z => some (.inr (.inr z))) fun σ10 x11 x12 =>
  if x11 = 0 then
    some (.inr (.inr (σ10, (-105))))
  else
  nm (p4 + 1) fun x13 =>
  some (.inl (σ10, p3, x13))
noncomputable def lb_Mo_taken_5 (a1 : Int32) (a2 : Int32) (σ : St) (v3 : Int32) (v4 : Int32) : Option ((St × Int32 × Int32) ⊕ ((St × Int32 × Int32) ⊕ (St × Int32))) :=
  if 15 < v4 then
    some (.inr (.inl (σ, v3, v4)))
  else
  if (σ.1 48 0 12) = (σ.1 48 0 11) then
    some (.inr (.inr (σ, (-104))))
  else
  if a2 = 0 then
    gd (ib (σ.1 48 0 11) 60000) <|
    nm ((2 * v3) + (σ.1 57 0 (σ.1 48 0 11).toNatClampNeg)) fun x1 =>
    nm (sI σ 48 0 11 ((σ.1 48 0 11) + 1)) fun σ2 =>
    jn_Mo_taken_81 a1 a2 σ2 x1 v4
  else
  nm (sI σ 48 0 12 ((σ.1 48 0 12) - 1)) fun σ14 =>
  gd (ib (σ14.1 48 0 12) 60000) <|
  nm ((2 * v3) + (σ14.1 57 0 (σ14.1 48 0 12).toNatClampNeg)) fun x15 =>
  jn_Mo_taken_81 a1 a2 σ14 x15 v4
noncomputable def f_Mo_taken (σ : St) (a1 : Int32) (a2 : Int32) : Option (St × Int32) :=
  bs3 (lpE (fun q => lb_Mo_taken_5 a1 a2 q.1 q.2.1 q.2.2) (σ, 0, 1)) (fun z => some z) fun σ16 x17 x18 =>
  some (σ16, (-105))
noncomputable def f_Mo_take (σ : St) (a1 : Int32) (a2 : Int32) : Option (St × Int32) :=
  b2 (f_Mo_has σ a1) fun σ1 x2 =>
  if x2 = 0 then
    some (σ1, (-101))
  else
  b2 (f_Mo_kind σ1 a1) fun σ3 x4 =>
  if x4 = 0 then
    some (σ3, (-103))
  else
  if x4 = 4 then
    some (σ3, (-103))
  else
  b2 (f_Mo_taken σ3 a1 a2) fun σ5 x6 =>
  some (σ5, x6)
noncomputable def f_Mo_orderOf (σ : St) (a1 : Int32) : Option (St × Int32) :=
  if 3 ≤ a1 then
    if a1 = 3 then
      some (σ, 0)
    else
    if (a1 &&& 1) = 0 then
      some (σ, 8 + ((a1 - 4) / 2))
    else
    some (σ, 7 - ((a1 - 5) / 2))
  else
  some (σ, 16 + a1)
noncomputable def f_Mo_extra (σ : St) (a1 : Int32) : Option (St × Int32) :=
  if a1 = 16 then
    some (σ, 2)
  else
  if a1 = 17 then
    some (σ, 3)
  else
  if a1 = 18 then
    some (σ, 7)
  else
  some (σ, 0)
set_option maxHeartbeats 4000000 in
set_option maxRecDepth 100000 in
theorem c_Mo_clear (l : Launch) (D : va_G) (aC : Nat → ClassId) (A : Nat → Prop) (ad : Nat → Nat → Nat) (n : Nat) (σ : St) (o : St × Int32) (h : f_Mo_clear σ  = some o) : Met l y_Mo_clear w_Mo_clear rm_Mo_clear (va_Pc [.ref (ad 48 0)] (Pre D aC A ad n σ)) (va_Qi (fun r (_ : Unit) => r = o.2) (fun _ t => Hold D aC A ad n o.1 t.heap) A) 0 0 A := by
  refine Met.ofW (cc := prog_13_method_26_code) (maxL := 2) (ret := (some .int)) (by decide) rfl ?_
  intro p e s m args below meth c s₁ B hml hv
  obtain ⟨hargs, hH, hK, hZ⟩ := hv
  have hx := B.exec
  have hb := B.bytes
  have hr := B.returns
  have hts := atoms_spec (ws := w_Mo_clear) B.pre
  have hg : ∀ w ∈ gW, w.before args s = true := fun w h => hts w (List.mem_cons_of_mem _ h)
  have hown : s.vm.findClass "PrefixCodesModel" = some m.cls := findClass_of_methodNamed B.named
  have hlocks := B.notSynchronized
  have hS : va_S A s.heap s.heap [] := va_S.rf
  have hl := lv_entry ([.ref (ad 48 0)]) (n := 2) (Nat.le_of_ble_eq_true rfl)
  rw [show entryFrame m args 2 = entryFrame m (([.ref (ad 48 0)] : List Value).toArray) 2 by rw [hargs], lg_entry_eq]
  generalize (lg_sl ([.ref (ad 48 0)]) ++ List.replicate (2 - (lg_sl ([.ref (ad 48 0)])).length) Slot.unset).toArray = ls at hl ⊢
  have hl : lv_has ls 2 [(0, .ref (ad 48 0))] := hl
  generalize hQ0 : MQ below (va_Qi (fun r (_ : Unit) => r = o.2) (fun _ t => Hold D aC A ad n o.1 t.heap) A) args s 0 0 A = Q0
  unfold f_Mo_clear at h
  refine lv_aload_n hx hb d_Mo_clear_0 rfl (lv_at hl 0 rfl) ?_
  refine st_get hx hb hg hown hK hH (f := 48) (i := 0) hd_48 rfl rfl u_Mo 12 (by decide) (hg _ wd_489) (v := .int (σ.1 48 0 12)) rfl d_Mo_clear_1 ?_
  refine lv_aload_n hx hb d_Mo_clear_4 rfl (lv_at hl 0 rfl) ?_
  refine st_get hx hb hg hown hK hH (f := 48) (i := 0) hd_48 rfl rfl u_Mo 11 (by decide) (hg _ wd_490) (v := .int (σ.1 48 0 11)) rfl d_Mo_clear_5 ?_
  refine lv_isub hx hb d_Mo_clear_8 ?_
  refine lv_topi (fun x1 ex1 => ?_)
  have h := nm_at ex1 h
  refine lv_istore_n (lv' := [(1, .int x1), (0, .ref (ad 48 0))]) hx hb d_Mo_clear_9 rfl hl (by decide) rfl (fun ls hl => ?_)
  refine lv_aload_n hx hb d_Mo_clear_10 rfl (lv_at hl 1 rfl) ?_
  refine lv_iconst (v := 0) hx hb d_Mo_clear_11 (by decide) ?_
  refine st_put hx hb hg hown hK hH hS (f := 48) (i := 0) hd_48 rfl rfl u_Mo t_Mo t_Mo_ok n_Mo 11 (by decide) (hg _ wd_490) rfl rfl rfl d_Mo_clear_12 (fun σ2 H locs eσ2 hH hS => ?_)
  have h := nm_at eσ2 h
  refine lv_aload_n hx hb d_Mo_clear_15 rfl (lv_at hl 1 rfl) ?_
  refine lv_iconst (v := 0) hx hb d_Mo_clear_16 (by decide) ?_
  refine st_put hx hb hg hown hK hH hS (f := 48) (i := 0) hd_48 rfl rfl u_Mo t_Mo t_Mo_ok n_Mo 12 (by decide) (hg _ wd_489) rfl rfl rfl d_Mo_clear_17 (fun σ3 H locs eσ3 hH hS => ?_)
  have h := nm_at eσ3 h
  refine lv_iload_n hx hb d_Mo_clear_20 rfl (lv_at hl 0 rfl) ?_
  cases h
  rw [← hQ0]
  exact W.iret hx hb hr (fun t ht hW => ⟨⟨_, (), rfl, rfl, by dsimp only; rw [ht]; exact hH⟩, hS.F ht⟩) hS.2.2 d_Mo_clear_21
set_option maxHeartbeats 4000000 in
set_option maxRecDepth 100000 in
theorem c_Mo_hasRoom (l : Launch) (D : va_G) (aC : Nat → ClassId) (A : Nat → Prop) (ad : Nat → Nat → Nat) (n : Nat) (σ : St) (a1 : Int32) (o : St × Int32) (h : f_Mo_hasRoom σ a1 = some o) : Met l y_Mo_hasRoom w_Mo_hasRoom rm_Mo_hasRoom (va_Pc [.ref (ad 48 0), .int a1] (Pre D aC A ad n σ)) (va_Qi (fun r (_ : Unit) => r = o.2) (fun _ t => Hold D aC A ad n o.1 t.heap) A) 0 0 A := by
  refine Met.ofW (cc := prog_13_method_27_code) (maxL := 2) (ret := (some .boolean)) (by decide) rfl ?_
  intro p e s m args below meth c s₁ B hml hv
  obtain ⟨hargs, hH, hK, hZ⟩ := hv
  have hx := B.exec
  have hb := B.bytes
  have hr := B.returns
  have hts := atoms_spec (ws := w_Mo_hasRoom) B.pre
  have hg : ∀ w ∈ gW, w.before args s = true := fun w h => hts w (List.mem_cons_of_mem _ h)
  have hown : s.vm.findClass "PrefixCodesModel" = some m.cls := findClass_of_methodNamed B.named
  have hlocks := B.notSynchronized
  have hS : va_S A s.heap s.heap [] := va_S.rf
  have hl := lv_entry ([.ref (ad 48 0), .int a1]) (n := 2) (Nat.le_of_ble_eq_true rfl)
  rw [show entryFrame m args 2 = entryFrame m (([.ref (ad 48 0), .int a1] : List Value).toArray) 2 by rw [hargs], lg_entry_eq]
  generalize (lg_sl ([.ref (ad 48 0), .int a1]) ++ List.replicate (2 - (lg_sl ([.ref (ad 48 0), .int a1])).length) Slot.unset).toArray = ls at hl ⊢
  have hl : lv_has ls 2 [(0, .ref (ad 48 0)), (1, .int a1)] := hl
  generalize hQ0 : MQ below (va_Qi (fun r (_ : Unit) => r = o.2) (fun _ t => Hold D aC A ad n o.1 t.heap) A) args s 0 0 A = Q0
  unfold f_Mo_hasRoom at h
  refine lv_aload_n hx hb d_Mo_hasRoom_0 rfl (lv_at hl 0 rfl) ?_
  refine st_get hx hb hg hown hK hH (f := 48) (i := 0) hd_48 rfl rfl u_Mo 12 (by decide) (hg _ wd_489) (v := .int (σ.1 48 0 12)) rfl d_Mo_hasRoom_1 ?_
  refine lv_aload_n hx hb d_Mo_hasRoom_4 rfl (lv_at hl 0 rfl) ?_
  refine st_get hx hb hg hown hK hH (f := 48) (i := 0) hd_48 rfl rfl u_Mo 11 (by decide) (hg _ wd_490) (v := .int (σ.1 48 0 11)) rfl d_Mo_hasRoom_5 ?_
  refine lv_isub hx hb d_Mo_hasRoom_8 ?_
  refine lv_iload_n hx hb d_Mo_hasRoom_9 rfl (lv_at hl 1 rfl) ?_
  refine lv_iadd hx hb d_Mo_hasRoom_10 ?_
  refine lv_sipush (v := 20000) hx hb d_Mo_hasRoom_11 (by decide) ?_
  refine lv_icmp_gt (tgt := 21) hx hb d_Mo_hasRoom_14 (by decide) (fun c14 => ?_) (fun c14 => ?_)
  · have h := it h c14
    refine lv_iconst (v := 0) hx hb d_Mo_hasRoom_21 (by decide) ?_
    cases h
    rw [← hQ0]
    exact W.zret hx hb hr rfl (fun t ht hW => ⟨⟨_, (), rfl, rfl, by dsimp only; rw [ht]; exact hH⟩, hS.F ht⟩) hS.2.2 d_Mo_hasRoom_22
  · have h := ie h c14
    refine lv_iconst (v := 1) hx hb d_Mo_hasRoom_17 (by decide) ?_
    refine lv_goto (tgt := 22) hx hb d_Mo_hasRoom_18 (by decide) ?_
    cases h
    rw [← hQ0]
    exact W.zret hx hb hr rfl (fun t ht hW => ⟨⟨_, (), rfl, rfl, by dsimp only; rw [ht]; exact hH⟩, hS.F ht⟩) hS.2.2 d_Mo_hasRoom_22
set_option maxHeartbeats 4000000 in
set_option maxRecDepth 100000 in
theorem c_Mo_putBits (l : Launch) (D : va_G) (aC : Nat → ClassId) (A : Nat → Prop) (ad : Nat → Nat → Nat) (n : Nat) (σ : St) (a1 : Int32) (a2 : Int32) (o : St) (h : f_Mo_putBits σ a1 a2 = some o) : Met l y_Mo_putBits w_Mo_putBits rm_Mo_putBits (va_Pc [.ref (ad 48 0), .int a1, .int a2] (Pre D aC A ad n σ)) (va_Qv (fun (_ : Unit) => True) (fun _ t => Hold D aC A ad n o t.heap) A) 0 0 A := by
  refine Met.ofW (cc := prog_13_method_28_code) (maxL := 4) (ret := none) (by decide) rfl ?_
  intro p e s m args below meth c s₁ B hml hv
  obtain ⟨hargs, hH, hK, hZ⟩ := hv
  have hx := B.exec
  have hb := B.bytes
  have hr := B.returns
  have hts := atoms_spec (ws := w_Mo_putBits) B.pre
  have hg : ∀ w ∈ gW, w.before args s = true := fun w h => hts w (List.mem_cons_of_mem _ h)
  have hown : s.vm.findClass "PrefixCodesModel" = some m.cls := findClass_of_methodNamed B.named
  have hlocks := B.notSynchronized
  have hS : va_S A s.heap s.heap [] := va_S.rf
  have hl := lv_entry ([.ref (ad 48 0), .int a1, .int a2]) (n := 4) (Nat.le_of_ble_eq_true rfl)
  rw [show entryFrame m args 4 = entryFrame m (([.ref (ad 48 0), .int a1, .int a2] : List Value).toArray) 4 by rw [hargs], lg_entry_eq]
  generalize (lg_sl ([.ref (ad 48 0), .int a1, .int a2]) ++ List.replicate (4 - (lg_sl ([.ref (ad 48 0), .int a1, .int a2])).length) Slot.unset).toArray = ls at hl ⊢
  have hl : lv_has ls 4 [(0, .ref (ad 48 0)), (1, .int a1), (2, .int a2)] := hl
  generalize hQ0 : MQ below (va_Qv (fun (_ : Unit) => True) (fun _ t => Hold D aC A ad n o t.heap) A) args s 0 0 A = Q0
  unfold f_Mo_putBits at h
  have J65 : ∀ (σ : St) (p1 : Int32) (p2 : Int32) (H : Heap) (locs : List Loc) (ls : Array Slot), Hold D aC A ad n σ H → va_S A s.heap H locs → lv_has ls 4 [(0, .ref (ad 48 0)), (1, .int p1), (2, .int p2)] → jn_Mo_putBits_65 σ p1 p2 = some o → W p l e (headSpec w_Mo_putBits rm_Mo_putBits).room s m args below meth c H locs 0 0 Q0 (F0 m 65 ls []) := by
    intro σ p1 p2  H locs ls hH hS hl h
    unfold jn_Mo_putBits_65 at h
    refine lv_iload_n hx hb d_Mo_putBits_65 rfl (lv_at hl 2 rfl) ?_
    refine lv_iconst (v := 1) hx hb d_Mo_putBits_66 (by decide) ?_
    refine lv_isub hx hb d_Mo_putBits_67 ?_
    refine lv_topi (fun x1 ex1 => ?_)
    have h := nm_at ex1 h
    refine lv_istore_n (lv' := [(3, .int x1), (0, .ref (ad 48 0)), (1, .int p1), (2, .int p2)]) hx hb d_Mo_putBits_68 rfl hl (by decide) rfl (fun ls hl => ?_)
    obtain ⟨q1, hq1, h⟩ := b2_some h
    have K1 : ∀ (σ5 : St) (x6 : Int32) (H : Heap) (locs : List Loc) (ls : Array Slot), q1 = (σ5, x6) → Hold D aC A ad n σ5 H → va_S A s.heap H locs → lv_has ls 4 [(0, .ref (ad 48 0)), (1, .int p1), (3, .int x6)] → W p l e (headSpec w_Mo_putBits rm_Mo_putBits).room s m args below meth c H locs 0 0 Q0 (F0 m 104 ls []) := by
      intro σ5 x6 H locs ls eq1 hH hS hl
      subst eq1
      have h := b2_at h
      cases h
      rw [← hQ0]
      exact W.vret hx hb hr (fun t ht hW => ⟨⟨(), rfl, trivial, by dsimp only; rw [ht]; exact hH⟩, hS.F ht⟩) hS.2.2 d_Mo_putBits_104
    have loop1 : ∀ (k : Nat) (σ : St) (v3 : Int32) (H : Heap) (locs : List Loc) (ls : Array Slot), Hold D aC A ad n σ H → va_S A s.heap H locs → lv_has ls 4 [(0, .ref (ad 48 0)), (1, .int p1), (3, .int v3)] → lp (fun q => lb_Mo_putBits_69 p1 q.1 q.2) k (σ, v3) = some q1 → W p l e (headSpec w_Mo_putBits rm_Mo_putBits).room s m args below meth c H locs 0 0 Q0 (F0 m 69 ls []) := by
      intro k
      induction k with
      | zero => intro σ v3 H locs ls hH hS hl hlp; exact absurd hlp (lp_zero _ _ _)
      | succ k ih1 =>
        intro σ v3 H locs ls hH hS hl hlp
        obtain ⟨z1, h1, hk1⟩ := lp_succ hlp
        have h1 : lb_Mo_putBits_69 p1 σ v3 = some z1 := h1
        unfold lb_Mo_putBits_69 at h1
        refine lv_iload_n hx hb d_Mo_putBits_69 rfl (lv_at hl 2 rfl) ?_
        refine lv_if_lt (tgt := 104) hx hb d_Mo_putBits_70 (by decide) (fun c70 => ?_) (fun c70 => ?_)
        · have h1 := it h1 c70
          cases h1
          exact K1 σ v3 _ _ ls (Option.some.inj hk1).symm hH hS (lv_sub hl [0, 1, 2] rfl)
        · have h1 := ie h1 c70
          refine lv_aload_n hx hb d_Mo_putBits_73 rfl (lv_at hl 0 rfl) ?_
          refine st_get hx hb hg hown hK hH (f := 48) (i := 0) hd_48 rfl rfl u_Mo 10 (by decide) (hg _ wd_491) (v := .ref (ad 57 0)) rfl d_Mo_putBits_74 ?_
          refine lv_aload_n hx hb d_Mo_putBits_77 rfl (lv_at hl 0 rfl) ?_
          refine st_get hx hb hg hown hK hH (f := 48) (i := 0) hd_48 rfl rfl u_Mo 12 (by decide) (hg _ wd_489) (v := .int (σ.1 48 0 12)) rfl d_Mo_putBits_78 ?_
          refine lv_iload_n hx hb d_Mo_putBits_81 rfl (lv_at hl 1 rfl) ?_
          refine lv_iload_n hx hb d_Mo_putBits_82 rfl (lv_at hl 2 rfl) ?_
          refine lv_ishr hx hb d_Mo_putBits_83 ?_
          refine lv_iconst (v := 1) hx hb d_Mo_putBits_84 (by decide) ?_
          refine lv_iand hx hb d_Mo_putBits_85 ?_
          refine lv_i2b hx hb d_Mo_putBits_86 rfl ?_
          obtain ⟨g87, h1⟩ := gd_some h1
          refine st_bast hx hb hK hH hS (f := 57) (i := 0) hd_57 rfl g87 d_Mo_putBits_87 (fun σ2 H locs eσ2 hH hS => ?_)
          have h1 := nm_at eσ2 h1
          refine lv_aload_n hx hb d_Mo_putBits_88 rfl (lv_at hl 0 rfl) ?_
          refine lv_dup hx hb d_Mo_putBits_89 rfl ?_
          refine st_get hx hb hg hown hK hH (f := 48) (i := 0) hd_48 rfl rfl u_Mo 12 (by decide) (hg _ wd_489) (v := .int (σ2.1 48 0 12)) rfl d_Mo_putBits_90 ?_
          refine lv_iconst (v := 1) hx hb d_Mo_putBits_93 (by decide) ?_
          refine lv_iadd hx hb d_Mo_putBits_94 ?_
          refine st_put hx hb hg hown hK hH hS (f := 48) (i := 0) hd_48 rfl rfl u_Mo t_Mo t_Mo_ok n_Mo 12 (by decide) (hg _ wd_489) rfl rfl rfl d_Mo_putBits_95 (fun σ3 H locs eσ3 hH hS => ?_)
          have h1 := nm_at eσ3 h1
          obtain ⟨x4, ex4⟩ : ∃ y : Int32, y = v3 + (-1) := ⟨_, rfl⟩
          have h1 := nm_at ex4 h1
          refine lv_iinc (v := x4) (lv' := [(3, .int x4), (0, .ref (ad 48 0)), (1, .int p1)]) hx hb d_Mo_putBits_98 hl (k := 2) rfl (by rw [ex4]; rfl) (by decide) rfl (fun ls hl => ?_)
          refine lv_goto (tgt := 69) hx hb d_Mo_putBits_101 (by decide) ?_
          cases h1
          exact ih1 σ3 x4 _ _ ls hH hS (lv_sub hl [1, 2, 0] rfl) hk1
    obtain ⟨k1, hq1⟩ := lpE_some hq1
    exact loop1 k1 σ x1 _ _ ls hH hS (lv_sub hl [1, 2, 0] rfl) hq1
  refine lv_aload_n hx hb d_Mo_putBits_0 rfl (lv_at hl 0 rfl) ?_
  refine st_get hx hb hg hown hK hH (f := 48) (i := 0) hd_48 rfl rfl u_Mo 12 (by decide) (hg _ wd_489) (v := .int (σ.1 48 0 12)) rfl d_Mo_putBits_1 ?_
  refine lv_iload_n hx hb d_Mo_putBits_4 rfl (lv_at hl 2 rfl) ?_
  refine lv_iadd hx hb d_Mo_putBits_5 ?_
  refine lv_ldc (v := 60000) hx hb hown (hg _ wd_492) d_Mo_putBits_6 ?_
  refine lv_icmp_le (tgt := 65) hx hb d_Mo_putBits_8 (by decide) (fun c8 => ?_) (fun c8 => ?_)
  · have h := it h c8
    exact J65 σ a1 a2 _ _ ls hH hS (lv_sub hl [0, 1, 2] rfl) h
  · have h := ie h c8
    refine lv_aload_n hx hb d_Mo_putBits_11 rfl (lv_at hl 0 rfl) ?_
    refine st_get hx hb hg hown hK hH (f := 48) (i := 0) hd_48 rfl rfl u_Mo 11 (by decide) (hg _ wd_490) (v := .int (σ.1 48 0 11)) rfl d_Mo_putBits_12 ?_
    refine lv_topi (fun x7 ex7 => ?_)
    have h := nm_at ex7 h
    refine lv_istore_n (lv' := [(3, .int x7), (0, .ref (ad 48 0)), (1, .int a1), (2, .int a2)]) hx hb d_Mo_putBits_15 rfl hl (by decide) rfl (fun ls hl => ?_)
    obtain ⟨q1, hq1, h⟩ := b2_some h
    have K1 : ∀ (σ10 : St) (x11 : Int32) (H : Heap) (locs : List Loc) (ls : Array Slot), q1 = (σ10, x11) → Hold D aC A ad n σ10 H → va_S A s.heap H locs → lv_has ls 4 [(0, .ref (ad 48 0)), (1, .int a1), (2, .int a2), (3, .int x11)] → W p l e (headSpec w_Mo_putBits rm_Mo_putBits).room s m args below meth c H locs 0 0 Q0 (F0 m 47 ls []) := by
      intro σ10 x11 H locs ls eq1 hH hS hl
      subst eq1
      have h := b2_at h
      refine lv_aload_n hx hb d_Mo_putBits_47 rfl (lv_at hl 0 rfl) ?_
      refine lv_dup hx hb d_Mo_putBits_48 rfl ?_
      refine st_get hx hb hg hown hK hH (f := 48) (i := 0) hd_48 rfl rfl u_Mo 12 (by decide) (hg _ wd_489) (v := .int (σ10.1 48 0 12)) rfl d_Mo_putBits_49 ?_
      refine lv_aload_n hx hb d_Mo_putBits_52 rfl (lv_at hl 0 rfl) ?_
      refine st_get hx hb hg hown hK hH (f := 48) (i := 0) hd_48 rfl rfl u_Mo 11 (by decide) (hg _ wd_490) (v := .int (σ10.1 48 0 11)) rfl d_Mo_putBits_53 ?_
      refine lv_isub hx hb d_Mo_putBits_56 ?_
      refine st_put hx hb hg hown hK hH hS (f := 48) (i := 0) hd_48 rfl rfl u_Mo t_Mo t_Mo_ok n_Mo 12 (by decide) (hg _ wd_489) rfl rfl rfl d_Mo_putBits_57 (fun σ12 H locs eσ12 hH hS => ?_)
      have h := nm_at eσ12 h
      refine lv_aload_n hx hb d_Mo_putBits_60 rfl (lv_at hl 0 rfl) ?_
      refine lv_iconst (v := 0) hx hb d_Mo_putBits_61 (by decide) ?_
      refine st_put hx hb hg hown hK hH hS (f := 48) (i := 0) hd_48 rfl rfl u_Mo t_Mo t_Mo_ok n_Mo 11 (by decide) (hg _ wd_490) rfl rfl rfl d_Mo_putBits_62 (fun σ13 H locs eσ13 hH hS => ?_)
      have h := nm_at eσ13 h
      exact J65 σ13 a1 a2 _ _ ls hH hS (lv_sub hl [0, 1, 2] rfl) h
    have loop1 : ∀ (k : Nat) (σ : St) (v3 : Int32) (H : Heap) (locs : List Loc) (ls : Array Slot), Hold D aC A ad n σ H → va_S A s.heap H locs → lv_has ls 4 [(0, .ref (ad 48 0)), (1, .int a1), (2, .int a2), (3, .int v3)] → lp (fun q => lb_Mo_putBits_16 a1 a2 q.1 q.2) k (σ, v3) = some q1 → W p l e (headSpec w_Mo_putBits rm_Mo_putBits).room s m args below meth c H locs 0 0 Q0 (F0 m 16 ls []) := by
      intro k
      induction k with
      | zero => intro σ v3 H locs ls hH hS hl hlp; exact absurd hlp (lp_zero _ _ _)
      | succ k ih1 =>
        intro σ v3 H locs ls hH hS hl hlp
        obtain ⟨z1, h1, hk1⟩ := lp_succ hlp
        have h1 : lb_Mo_putBits_16 a1 a2 σ v3 = some z1 := h1
        unfold lb_Mo_putBits_16 at h1
        refine lv_iload_n hx hb d_Mo_putBits_16 rfl (lv_at hl 3 rfl) ?_
        refine lv_aload_n hx hb d_Mo_putBits_17 rfl (lv_at hl 0 rfl) ?_
        refine st_get hx hb hg hown hK hH (f := 48) (i := 0) hd_48 rfl rfl u_Mo 12 (by decide) (hg _ wd_489) (v := .int (σ.1 48 0 12)) rfl d_Mo_putBits_18 ?_
        refine lv_icmp_ge (tgt := 47) hx hb d_Mo_putBits_21 (by decide) (fun c21 => ?_) (fun c21 => ?_)
        · have h1 := it h1 c21
          cases h1
          exact K1 σ v3 _ _ ls (Option.some.inj hk1).symm hH hS (lv_sub hl [0, 1, 2, 3] rfl)
        · have h1 := ie h1 c21
          refine lv_aload_n hx hb d_Mo_putBits_24 rfl (lv_at hl 0 rfl) ?_
          refine st_get hx hb hg hown hK hH (f := 48) (i := 0) hd_48 rfl rfl u_Mo 10 (by decide) (hg _ wd_491) (v := .ref (ad 57 0)) rfl d_Mo_putBits_25 ?_
          refine lv_iload_n hx hb d_Mo_putBits_28 rfl (lv_at hl 3 rfl) ?_
          refine lv_aload_n hx hb d_Mo_putBits_29 rfl (lv_at hl 0 rfl) ?_
          refine st_get hx hb hg hown hK hH (f := 48) (i := 0) hd_48 rfl rfl u_Mo 11 (by decide) (hg _ wd_490) (v := .int (σ.1 48 0 11)) rfl d_Mo_putBits_30 ?_
          refine lv_isub hx hb d_Mo_putBits_33 ?_
          refine lv_aload_n hx hb d_Mo_putBits_34 rfl (lv_at hl 0 rfl) ?_
          refine st_get hx hb hg hown hK hH (f := 48) (i := 0) hd_48 rfl rfl u_Mo 10 (by decide) (hg _ wd_491) (v := .ref (ad 57 0)) rfl d_Mo_putBits_35 ?_
          refine lv_iload_n hx hb d_Mo_putBits_38 rfl (lv_at hl 3 rfl) ?_
          obtain ⟨g39, h1⟩ := gd_some h1
          refine st_bald hx hb hK hH (f := 57) (i := 0) hd_57 rfl g39 d_Mo_putBits_39 ?_
          obtain ⟨g40, h1⟩ := gd_some h1
          refine st_bast hx hb hK hH hS (f := 57) (i := 0) hd_57 rfl g40 d_Mo_putBits_40 (fun σ8 H locs eσ8 hH hS => ?_)
          have h1 := nm_at eσ8 h1
          obtain ⟨x9, ex9⟩ : ∃ y : Int32, y = v3 + 1 := ⟨_, rfl⟩
          have h1 := nm_at ex9 h1
          refine lv_iinc (v := x9) (lv' := [(3, .int x9), (0, .ref (ad 48 0)), (1, .int a1), (2, .int a2)]) hx hb d_Mo_putBits_41 hl (k := 3) rfl (by rw [ex9]; rfl) (by decide) rfl (fun ls hl => ?_)
          refine lv_goto (tgt := 16) hx hb d_Mo_putBits_44 (by decide) ?_
          cases h1
          exact ih1 σ8 x9 _ _ ls hH hS (lv_sub hl [1, 2, 3, 0] rfl) hk1
    obtain ⟨k1, hq1⟩ := lpE_some hq1
    exact loop1 k1 σ x7 _ _ ls hH hS (lv_sub hl [1, 2, 3, 0] rfl) hq1
set_option maxHeartbeats 4000000 in
set_option maxRecDepth 100000 in
theorem c_Mo_putNumber (l : Launch) (D : va_G) (aC : Nat → ClassId) (A : Nat → Prop) (ad : Nat → Nat → Nat) (n : Nat) (σ : St) (a1 : Int32) (a2 : Int32) (o : St × Int32) (h : f_Mo_putNumber σ a1 a2 = some o) : Met l y_Mo_putNumber w_Mo_putNumber rm_Mo_putNumber (va_Pc [.ref (ad 48 0), .int a1, .int a2] (Pre D aC A ad n σ)) (va_Qi (fun r (_ : Unit) => r = o.2) (fun _ t => Hold D aC A ad n o.1 t.heap) A) 0 0 A := by
  refine Met.ofW (cc := prog_13_method_29_code) (maxL := 3) (ret := (some .int)) (by decide) rfl ?_
  intro p e s m args below meth c s₁ B hml hv
  obtain ⟨hargs, hH, hK, hZ⟩ := hv
  have hx := B.exec
  have hb := B.bytes
  have hr := B.returns
  have hts := atoms_spec (ws := w_Mo_putNumber) B.pre
  have hg : ∀ w ∈ gW, w.before args s = true := fun w h => hts w (List.mem_cons_of_mem _ h)
  have hown : s.vm.findClass "PrefixCodesModel" = some m.cls := findClass_of_methodNamed B.named
  have hlocks := B.notSynchronized
  have hS : va_S A s.heap s.heap [] := va_S.rf
  have hl := lv_entry ([.ref (ad 48 0), .int a1, .int a2]) (n := 3) (Nat.le_of_ble_eq_true rfl)
  rw [show entryFrame m args 3 = entryFrame m (([.ref (ad 48 0), .int a1, .int a2] : List Value).toArray) 3 by rw [hargs], lg_entry_eq]
  generalize (lg_sl ([.ref (ad 48 0), .int a1, .int a2]) ++ List.replicate (3 - (lg_sl ([.ref (ad 48 0), .int a1, .int a2])).length) Slot.unset).toArray = ls at hl ⊢
  have hl : lv_has ls 3 [(0, .ref (ad 48 0)), (1, .int a1), (2, .int a2)] := hl
  generalize hQ0 : MQ below (va_Qi (fun r (_ : Unit) => r = o.2) (fun _ t => Hold D aC A ad n o.1 t.heap) A) args s 0 0 A = Q0
  unfold f_Mo_putNumber at h
  refine lv_iload_n hx hb d_Mo_putNumber_0 rfl (lv_at hl 2 rfl) ?_
  refine lv_iconst (v := 1) hx hb d_Mo_putNumber_1 (by decide) ?_
  refine lv_icmp_lt (tgt := 11) hx hb d_Mo_putNumber_2 (by decide) (fun c2 => ?_) (fun c2 => ?_)
  · have h := it h c2
    refine lv_bipush (v := (-102)) hx hb d_Mo_putNumber_11 (by decide) ?_
    cases h
    rw [← hQ0]
    exact W.iret hx hb hr (fun t ht hW => ⟨⟨_, (), rfl, rfl, by dsimp only; rw [ht]; exact hH⟩, hS.F ht⟩) hS.2.2 d_Mo_putNumber_13
  · have h := ie h c2
    refine lv_iload_n hx hb d_Mo_putNumber_5 rfl (lv_at hl 2 rfl) ?_
    refine lv_bipush (v := 30) hx hb d_Mo_putNumber_6 (by decide) ?_
    refine lv_icmp_le (tgt := 14) hx hb d_Mo_putNumber_8 (by decide) (fun c8 => ?_) (fun c8 => ?_)
    · have h := it h c8
      refine lv_aload_n hx hb d_Mo_putNumber_14 rfl (lv_at hl 0 rfl) ?_
      refine lv_iload_n hx hb d_Mo_putNumber_15 rfl (lv_at hl 2 rfl) ?_
      obtain ⟨qc, hc16, h⟩ := b2_some h
      obtain ⟨σ1, x2⟩ := qc
      have h := b2_at h
      refine st_Vi (As := [.int a2]) (rest := []) ⟨hx, hb, hml, hown, hg⟩ (c_Mo_hasRoom l D aC A ad n _ a2 _ hc16) (cwG hg wd_493 wd_494 wd_495 wd_496 wd_428 yd_Mo_hasRoom ⟨Nat.le_of_ble_eq_true rfl, Nat.le_of_ble_eq_true rfl⟩) hK hH hS hZ hd_48 rfl rfl rfl hl.1 rfl (Nat.le_of_ble_eq_true rfl) d_Mo_putNumber_16 ⟨Nat.zero_le _, Nat.zero_le _⟩ (fun H locs hH hS => ?_)
      refine lv_if_ne (tgt := 25) hx hb d_Mo_putNumber_19 (by decide) (fun c19 => ?_) (fun c19 => ?_)
      · have h := ie h c19
        refine lv_aload_n hx hb d_Mo_putNumber_25 rfl (lv_at hl 0 rfl) ?_
        refine lv_iload_n hx hb d_Mo_putNumber_26 rfl (lv_at hl 1 rfl) ?_
        refine lv_iload_n hx hb d_Mo_putNumber_27 rfl (lv_at hl 2 rfl) ?_
        obtain ⟨qc, hc28, h⟩ := b1_some h
        obtain ⟨σ3, rfl⟩ : ∃ z, z = qc := ⟨_, rfl⟩
        have h := b1_at h
        refine st_Vv (As := [.int a1, .int a2]) (rest := []) ⟨hx, hb, hml, hown, hg⟩ (c_Mo_putBits l D aC A ad n _ a1 a2 _ hc28) (cwG hg wd_497 wd_498 wd_499 wd_500 wd_428 yd_Mo_putBits ⟨Nat.le_of_ble_eq_true rfl, Nat.le_of_ble_eq_true rfl⟩) hK hH hS hZ hd_48 rfl rfl rfl hl.1 rfl (Nat.le_of_ble_eq_true rfl) d_Mo_putNumber_28 ⟨Nat.zero_le _, Nat.zero_le _⟩ (fun H locs hH hS => ?_)
        refine lv_aload_n hx hb d_Mo_putNumber_31 rfl (lv_at hl 0 rfl) ?_
        refine st_get hx hb hg hown hK hH (f := 48) (i := 0) hd_48 rfl rfl u_Mo 12 (by decide) (hg _ wd_489) (v := .int (σ3.1 48 0 12)) rfl d_Mo_putNumber_32 ?_
        refine lv_aload_n hx hb d_Mo_putNumber_35 rfl (lv_at hl 0 rfl) ?_
        refine st_get hx hb hg hown hK hH (f := 48) (i := 0) hd_48 rfl rfl u_Mo 11 (by decide) (hg _ wd_490) (v := .int (σ3.1 48 0 11)) rfl d_Mo_putNumber_36 ?_
        refine lv_isub hx hb d_Mo_putNumber_39 ?_
        cases h
        rw [← hQ0]
        exact W.iret hx hb hr (fun t ht hW => ⟨⟨_, (), rfl, rfl, by dsimp only; rw [ht]; exact hH⟩, hS.F ht⟩) hS.2.2 d_Mo_putNumber_40
      · have h := it h c19
        refine lv_bipush (v := (-106)) hx hb d_Mo_putNumber_22 (by decide) ?_
        cases h
        rw [← hQ0]
        exact W.iret hx hb hr (fun t ht hW => ⟨⟨_, (), rfl, rfl, by dsimp only; rw [ht]; exact hH⟩, hS.F ht⟩) hS.2.2 d_Mo_putNumber_24
    · have h := ie h c8
      refine lv_bipush (v := (-102)) hx hb d_Mo_putNumber_11 (by decide) ?_
      cases h
      rw [← hQ0]
      exact W.iret hx hb hr (fun t ht hW => ⟨⟨_, (), rfl, rfl, by dsimp only; rw [ht]; exact hH⟩, hS.F ht⟩) hS.2.2 d_Mo_putNumber_13
set_option maxHeartbeats 4000000 in
set_option maxRecDepth 100000 in
theorem c_Mo_takeNumber (l : Launch) (D : va_G) (aC : Nat → ClassId) (A : Nat → Prop) (ad : Nat → Nat → Nat) (n : Nat) (σ : St) (a1 : Int32) (o : St × Int32) (h : f_Mo_takeNumber σ a1 = some o) : Met l y_Mo_takeNumber w_Mo_takeNumber rm_Mo_takeNumber (va_Pc [.ref (ad 48 0), .int a1] (Pre D aC A ad n σ)) (va_Qi (fun r (_ : Unit) => r = o.2) (fun _ t => Hold D aC A ad n o.1 t.heap) A) 0 0 A := by
  refine Met.ofW (cc := prog_13_method_30_code) (maxL := 4) (ret := (some .int)) (by decide) rfl ?_
  intro p e s m args below meth c s₁ B hml hv
  obtain ⟨hargs, hH, hK, hZ⟩ := hv
  have hx := B.exec
  have hb := B.bytes
  have hr := B.returns
  have hts := atoms_spec (ws := w_Mo_takeNumber) B.pre
  have hg : ∀ w ∈ gW, w.before args s = true := fun w h => hts w (List.mem_cons_of_mem _ h)
  have hown : s.vm.findClass "PrefixCodesModel" = some m.cls := findClass_of_methodNamed B.named
  have hlocks := B.notSynchronized
  have hS : va_S A s.heap s.heap [] := va_S.rf
  have hl := lv_entry ([.ref (ad 48 0), .int a1]) (n := 4) (Nat.le_of_ble_eq_true rfl)
  rw [show entryFrame m args 4 = entryFrame m (([.ref (ad 48 0), .int a1] : List Value).toArray) 4 by rw [hargs], lg_entry_eq]
  generalize (lg_sl ([.ref (ad 48 0), .int a1]) ++ List.replicate (4 - (lg_sl ([.ref (ad 48 0), .int a1])).length) Slot.unset).toArray = ls at hl ⊢
  have hl : lv_has ls 4 [(0, .ref (ad 48 0)), (1, .int a1)] := hl
  generalize hQ0 : MQ below (va_Qi (fun r (_ : Unit) => r = o.2) (fun _ t => Hold D aC A ad n o.1 t.heap) A) args s 0 0 A = Q0
  unfold f_Mo_takeNumber at h
  refine lv_iload_n hx hb d_Mo_takeNumber_0 rfl (lv_at hl 1 rfl) ?_
  refine lv_iconst (v := 1) hx hb d_Mo_takeNumber_1 (by decide) ?_
  refine lv_icmp_lt (tgt := 11) hx hb d_Mo_takeNumber_2 (by decide) (fun c2 => ?_) (fun c2 => ?_)
  · have h := it h c2
    refine lv_bipush (v := (-102)) hx hb d_Mo_takeNumber_11 (by decide) ?_
    cases h
    rw [← hQ0]
    exact W.iret hx hb hr (fun t ht hW => ⟨⟨_, (), rfl, rfl, by dsimp only; rw [ht]; exact hH⟩, hS.F ht⟩) hS.2.2 d_Mo_takeNumber_13
  · have h := ie h c2
    refine lv_iload_n hx hb d_Mo_takeNumber_5 rfl (lv_at hl 1 rfl) ?_
    refine lv_bipush (v := 30) hx hb d_Mo_takeNumber_6 (by decide) ?_
    refine lv_icmp_le (tgt := 14) hx hb d_Mo_takeNumber_8 (by decide) (fun c8 => ?_) (fun c8 => ?_)
    · have h := it h c8
      refine lv_aload_n hx hb d_Mo_takeNumber_14 rfl (lv_at hl 0 rfl) ?_
      refine st_get hx hb hg hown hK hH (f := 48) (i := 0) hd_48 rfl rfl u_Mo 12 (by decide) (hg _ wd_489) (v := .int (σ.1 48 0 12)) rfl d_Mo_takeNumber_15 ?_
      refine lv_aload_n hx hb d_Mo_takeNumber_18 rfl (lv_at hl 0 rfl) ?_
      refine st_get hx hb hg hown hK hH (f := 48) (i := 0) hd_48 rfl rfl u_Mo 11 (by decide) (hg _ wd_490) (v := .int (σ.1 48 0 11)) rfl d_Mo_takeNumber_19 ?_
      refine lv_isub hx hb d_Mo_takeNumber_22 ?_
      refine lv_iload_n hx hb d_Mo_takeNumber_23 rfl (lv_at hl 1 rfl) ?_
      refine lv_icmp_ge (tgt := 30) hx hb d_Mo_takeNumber_24 (by decide) (fun c24 => ?_) (fun c24 => ?_)
      · have h := it h c24
        refine lv_iconst (v := 0) hx hb d_Mo_takeNumber_30 (by decide) ?_
        refine lv_istore_n (lv' := [(2, .int 0), (0, .ref (ad 48 0)), (1, .int a1)]) hx hb d_Mo_takeNumber_31 rfl hl (by decide) rfl (fun ls hl => ?_)
        refine lv_iconst (v := 0) hx hb d_Mo_takeNumber_32 (by decide) ?_
        refine lv_istore_n (lv' := [(3, .int 0), (2, .int 0), (0, .ref (ad 48 0)), (1, .int a1)]) hx hb d_Mo_takeNumber_33 rfl hl (by decide) rfl (fun ls hl => ?_)
        obtain ⟨q1, hq1, h⟩ := b3_some h
        have K1 : ∀ (σ4 : St) (x5 : Int32) (x6 : Int32) (H : Heap) (locs : List Loc) (ls : Array Slot), q1 = (σ4, x5, x6) → Hold D aC A ad n σ4 H → va_S A s.heap H locs → lv_has ls 4 [(0, .ref (ad 48 0)), (1, .int a1), (2, .int x5), (3, .int x6)] → W p l e (headSpec w_Mo_takeNumber rm_Mo_takeNumber).room s m args below meth c H locs 0 0 Q0 (F0 m 69 ls []) := by
          intro σ4 x5 x6 H locs ls eq1 hH hS hl
          subst eq1
          have h := b3_at h
          refine lv_iload_n hx hb d_Mo_takeNumber_69 rfl (lv_at hl 2 rfl) ?_
          cases h
          rw [← hQ0]
          exact W.iret hx hb hr (fun t ht hW => ⟨⟨_, (), rfl, rfl, by dsimp only; rw [ht]; exact hH⟩, hS.F ht⟩) hS.2.2 d_Mo_takeNumber_70
        have loop1 : ∀ (k : Nat) (σ : St) (v2 : Int32) (v3 : Int32) (H : Heap) (locs : List Loc) (ls : Array Slot), Hold D aC A ad n σ H → va_S A s.heap H locs → lv_has ls 4 [(0, .ref (ad 48 0)), (1, .int a1), (2, .int v2), (3, .int v3)] → lp (fun q => lb_Mo_takeNumber_34 a1 q.1 q.2.1 q.2.2) k (σ, v2, v3) = some q1 → W p l e (headSpec w_Mo_takeNumber rm_Mo_takeNumber).room s m args below meth c H locs 0 0 Q0 (F0 m 34 ls []) := by
          intro k
          induction k with
          | zero => intro σ v2 v3 H locs ls hH hS hl hlp; exact absurd hlp (lp_zero _ _ _)
          | succ k ih1 =>
            intro σ v2 v3 H locs ls hH hS hl hlp
            obtain ⟨z1, h1, hk1⟩ := lp_succ hlp
            have h1 : lb_Mo_takeNumber_34 a1 σ v2 v3 = some z1 := h1
            unfold lb_Mo_takeNumber_34 at h1
            refine lv_iload_n hx hb d_Mo_takeNumber_34 rfl (lv_at hl 3 rfl) ?_
            refine lv_iload_n hx hb d_Mo_takeNumber_35 rfl (lv_at hl 1 rfl) ?_
            refine lv_icmp_ge (tgt := 69) hx hb d_Mo_takeNumber_36 (by decide) (fun c36 => ?_) (fun c36 => ?_)
            · have h1 := it h1 c36
              cases h1
              exact K1 σ v2 v3 _ _ ls (Option.some.inj hk1).symm hH hS (lv_sub hl [0, 1, 2, 3] rfl)
            · have h1 := ie h1 c36
              refine lv_iconst (v := 2) hx hb d_Mo_takeNumber_39 (by decide) ?_
              refine lv_iload_n hx hb d_Mo_takeNumber_40 rfl (lv_at hl 2 rfl) ?_
              refine lv_imul hx hb d_Mo_takeNumber_41 ?_
              refine lv_aload_n hx hb d_Mo_takeNumber_42 rfl (lv_at hl 0 rfl) ?_
              refine st_get hx hb hg hown hK hH (f := 48) (i := 0) hd_48 rfl rfl u_Mo 10 (by decide) (hg _ wd_491) (v := .ref (ad 57 0)) rfl d_Mo_takeNumber_43 ?_
              refine lv_aload_n hx hb d_Mo_takeNumber_46 rfl (lv_at hl 0 rfl) ?_
              refine st_get hx hb hg hown hK hH (f := 48) (i := 0) hd_48 rfl rfl u_Mo 11 (by decide) (hg _ wd_490) (v := .int (σ.1 48 0 11)) rfl d_Mo_takeNumber_47 ?_
              obtain ⟨g50, h1⟩ := gd_some h1
              refine st_bald hx hb hK hH (f := 57) (i := 0) hd_57 rfl g50 d_Mo_takeNumber_50 ?_
              refine lv_iadd hx hb d_Mo_takeNumber_51 ?_
              refine lv_topi (fun x1 ex1 => ?_)
              have h1 := nm_at ex1 h1
              refine lv_istore_n (lv' := [(2, .int x1), (0, .ref (ad 48 0)), (1, .int a1), (3, .int v3)]) hx hb d_Mo_takeNumber_52 rfl hl (by decide) rfl (fun ls hl => ?_)
              refine lv_aload_n hx hb d_Mo_takeNumber_53 rfl (lv_at hl 1 rfl) ?_
              refine lv_dup hx hb d_Mo_takeNumber_54 rfl ?_
              refine st_get hx hb hg hown hK hH (f := 48) (i := 0) hd_48 rfl rfl u_Mo 11 (by decide) (hg _ wd_490) (v := .int (σ.1 48 0 11)) rfl d_Mo_takeNumber_55 ?_
              refine lv_iconst (v := 1) hx hb d_Mo_takeNumber_58 (by decide) ?_
              refine lv_iadd hx hb d_Mo_takeNumber_59 ?_
              refine st_put hx hb hg hown hK hH hS (f := 48) (i := 0) hd_48 rfl rfl u_Mo t_Mo t_Mo_ok n_Mo 11 (by decide) (hg _ wd_490) rfl rfl rfl d_Mo_takeNumber_60 (fun σ2 H locs eσ2 hH hS => ?_)
              have h1 := nm_at eσ2 h1
              obtain ⟨x3, ex3⟩ : ∃ y : Int32, y = v3 + 1 := ⟨_, rfl⟩
              have h1 := nm_at ex3 h1
              refine lv_iinc (v := x3) (lv' := [(3, .int x3), (2, .int x1), (0, .ref (ad 48 0)), (1, .int a1)]) hx hb d_Mo_takeNumber_63 hl (k := 3) rfl (by rw [ex3]; rfl) (by decide) rfl (fun ls hl => ?_)
              refine lv_goto (tgt := 34) hx hb d_Mo_takeNumber_66 (by decide) ?_
              cases h1
              exact ih1 σ2 x1 x3 _ _ ls hH hS (lv_sub hl [2, 3, 1, 0] rfl) hk1
        obtain ⟨k1, hq1⟩ := lpE_some hq1
        exact loop1 k1 σ 0 0 _ _ ls hH hS (lv_sub hl [2, 3, 1, 0] rfl) hq1
      · have h := ie h c24
        refine lv_bipush (v := (-104)) hx hb d_Mo_takeNumber_27 (by decide) ?_
        cases h
        rw [← hQ0]
        exact W.iret hx hb hr (fun t ht hW => ⟨⟨_, (), rfl, rfl, by dsimp only; rw [ht]; exact hH⟩, hS.F ht⟩) hS.2.2 d_Mo_takeNumber_29
    · have h := ie h c8
      refine lv_bipush (v := (-102)) hx hb d_Mo_takeNumber_11 (by decide) ?_
      cases h
      rw [← hQ0]
      exact W.iret hx hb hr (fun t ht hW => ⟨⟨_, (), rfl, rfl, by dsimp only; rw [ht]; exact hH⟩, hS.F ht⟩) hS.2.2 d_Mo_takeNumber_13
set_option maxHeartbeats 4000000 in
set_option maxRecDepth 100000 in
theorem c_Mo_put (l : Launch) (D : va_G) (aC : Nat → ClassId) (A : Nat → Prop) (ad : Nat → Nat → Nat) (n : Nat) (σ : St) (a1 : Int32) (a2 : Int32) (a3 : Int32) (o : St × Int32) (h : f_Mo_put σ a1 a2 a3 = some o) : Met l y_Mo_put w_Mo_put rm_Mo_put (va_Pc [.ref (ad 48 0), .int a1, .int a2, .int a3] (Pre D aC A ad n σ)) (va_Qi (fun r (_ : Unit) => r = o.2) (fun _ t => Hold D aC A ad n o.1 t.heap) A) 0 0 A := by
  refine Met.ofW (cc := prog_13_method_31_code) (maxL := 6) (ret := (some .int)) (by decide) rfl ?_
  intro p e s m args below meth c s₁ B hml hv
  obtain ⟨hargs, hH, hK, hZ⟩ := hv
  have hx := B.exec
  have hb := B.bytes
  have hr := B.returns
  have hts := atoms_spec (ws := w_Mo_put) B.pre
  have hg : ∀ w ∈ gW, w.before args s = true := fun w h => hts w (List.mem_cons_of_mem _ h)
  have hown : s.vm.findClass "PrefixCodesModel" = some m.cls := findClass_of_methodNamed B.named
  have hlocks := B.notSynchronized
  have hS : va_S A s.heap s.heap [] := va_S.rf
  have hl := lv_entry ([.ref (ad 48 0), .int a1, .int a2, .int a3]) (n := 6) (Nat.le_of_ble_eq_true rfl)
  rw [show entryFrame m args 6 = entryFrame m (([.ref (ad 48 0), .int a1, .int a2, .int a3] : List Value).toArray) 6 by rw [hargs], lg_entry_eq]
  generalize (lg_sl ([.ref (ad 48 0), .int a1, .int a2, .int a3]) ++ List.replicate (6 - (lg_sl ([.ref (ad 48 0), .int a1, .int a2, .int a3])).length) Slot.unset).toArray = ls at hl ⊢
  have hl : lv_has ls 6 [(0, .ref (ad 48 0)), (1, .int a1), (2, .int a2), (3, .int a3)] := hl
  generalize hQ0 : MQ below (va_Qi (fun r (_ : Unit) => r = o.2) (fun _ t => Hold D aC A ad n o.1 t.heap) A) args s 0 0 A = Q0
  unfold f_Mo_put at h
  refine lv_aload_n hx hb d_Mo_put_0 rfl (lv_at hl 0 rfl) ?_
  refine lv_iload_n hx hb d_Mo_put_1 rfl (lv_at hl 1 rfl) ?_
  refine lv_iload_n hx hb d_Mo_put_2 rfl (lv_at hl 2 rfl) ?_
  refine lv_iload_n hx hb d_Mo_put_3 rfl (lv_at hl 3 rfl) ?_
  obtain ⟨qc, hc4, h⟩ := b2_some h
  obtain ⟨σ1, x2⟩ := qc
  have h := b2_at h
  refine st_Vi (As := [.int a1, .int a2, .int a3]) (rest := []) ⟨hx, hb, hml, hown, hg⟩ (c_Mo_word l D aC A ad n _ a1 a2 a3 _ hc4) (cwG hg wd_501 wd_502 wd_503 wd_504 wd_428 yd_Mo_word ⟨Nat.le_of_ble_eq_true rfl, Nat.le_of_ble_eq_true rfl⟩) hK hH hS hZ hd_48 rfl rfl rfl hl.1 rfl (Nat.le_of_ble_eq_true rfl) d_Mo_put_4 ⟨Nat.zero_le _, Nat.zero_le _⟩ (fun H locs hH hS => ?_)
  refine lv_istore (lv' := [(4, .int x2), (0, .ref (ad 48 0)), (1, .int a1), (2, .int a2), (3, .int a3)]) hx hb d_Mo_put_7 hl (by decide) rfl (fun ls hl => ?_)
  refine lv_iload hx hb d_Mo_put_9 (lv_at hl 0 rfl) ?_
  refine lv_if_ge (tgt := 17) hx hb d_Mo_put_11 (by decide) (fun c11 => ?_) (fun c11 => ?_)
  · have h := it h c11
    refine lv_aload_n hx hb d_Mo_put_17 rfl (lv_at hl 1 rfl) ?_
    refine lv_iload_n hx hb d_Mo_put_18 rfl (lv_at hl 2 rfl) ?_
    refine lv_iload_n hx hb d_Mo_put_19 rfl (lv_at hl 3 rfl) ?_
    obtain ⟨qc, hc20, h⟩ := b2_some h
    obtain ⟨σ3, x4⟩ := qc
    have h := b2_at h
    refine st_Vi (As := [.int a1, .int a2]) (rest := []) ⟨hx, hb, hml, hown, hg⟩ (c_Mo_lengthOf l D aC A ad n _ a1 a2 _ hc20) (cwG hg wd_440 wd_441 wd_442 wd_443 wd_428 yd_Mo_lengthOf ⟨Nat.le_of_ble_eq_true rfl, Nat.le_of_ble_eq_true rfl⟩) hK hH hS hZ hd_48 rfl rfl rfl hl.1 rfl (Nat.le_of_ble_eq_true rfl) d_Mo_put_20 ⟨Nat.zero_le _, Nat.zero_le _⟩ (fun H locs hH hS => ?_)
    refine lv_istore (lv' := [(5, .int x4), (4, .int x2), (0, .ref (ad 48 0)), (1, .int a1), (2, .int a2), (3, .int a3)]) hx hb d_Mo_put_23 hl (by decide) rfl (fun ls hl => ?_)
    refine lv_aload_n hx hb d_Mo_put_25 rfl (lv_at hl 2 rfl) ?_
    refine lv_iload hx hb d_Mo_put_26 (lv_at hl 0 rfl) ?_
    obtain ⟨qc, hc28, h⟩ := b2_some h
    obtain ⟨σ5, x6⟩ := qc
    have h := b2_at h
    refine st_Vi (As := [.int x4]) (rest := []) ⟨hx, hb, hml, hown, hg⟩ (c_Mo_hasRoom l D aC A ad n _ x4 _ hc28) (cwG hg wd_493 wd_494 wd_495 wd_496 wd_428 yd_Mo_hasRoom ⟨Nat.le_of_ble_eq_true rfl, Nat.le_of_ble_eq_true rfl⟩) hK hH hS hZ hd_48 rfl rfl rfl hl.1 rfl (Nat.le_of_ble_eq_true rfl) d_Mo_put_28 ⟨Nat.zero_le _, Nat.zero_le _⟩ (fun H locs hH hS => ?_)
    refine lv_if_ne (tgt := 37) hx hb d_Mo_put_31 (by decide) (fun c31 => ?_) (fun c31 => ?_)
    · have h := ie h c31
      refine lv_aload_n hx hb d_Mo_put_37 rfl (lv_at hl 2 rfl) ?_
      refine lv_iload hx hb d_Mo_put_38 (lv_at hl 1 rfl) ?_
      refine lv_iload hx hb d_Mo_put_40 (lv_at hl 0 rfl) ?_
      obtain ⟨qc, hc42, h⟩ := b1_some h
      obtain ⟨σ7, rfl⟩ : ∃ z, z = qc := ⟨_, rfl⟩
      have h := b1_at h
      refine st_Vv (As := [.int x2, .int x4]) (rest := []) ⟨hx, hb, hml, hown, hg⟩ (c_Mo_putBits l D aC A ad n _ x2 x4 _ hc42) (cwG hg wd_497 wd_498 wd_499 wd_500 wd_428 yd_Mo_putBits ⟨Nat.le_of_ble_eq_true rfl, Nat.le_of_ble_eq_true rfl⟩) hK hH hS hZ hd_48 rfl rfl rfl hl.1 rfl (Nat.le_of_ble_eq_true rfl) d_Mo_put_42 ⟨Nat.zero_le _, Nat.zero_le _⟩ (fun H locs hH hS => ?_)
      refine lv_aload_n hx hb d_Mo_put_45 rfl (lv_at hl 2 rfl) ?_
      refine st_get hx hb hg hown hK hH (f := 48) (i := 0) hd_48 rfl rfl u_Mo 12 (by decide) (hg _ wd_489) (v := .int (σ7.1 48 0 12)) rfl d_Mo_put_46 ?_
      refine lv_aload_n hx hb d_Mo_put_49 rfl (lv_at hl 2 rfl) ?_
      refine st_get hx hb hg hown hK hH (f := 48) (i := 0) hd_48 rfl rfl u_Mo 11 (by decide) (hg _ wd_490) (v := .int (σ7.1 48 0 11)) rfl d_Mo_put_50 ?_
      refine lv_isub hx hb d_Mo_put_53 ?_
      cases h
      rw [← hQ0]
      exact W.iret hx hb hr (fun t ht hW => ⟨⟨_, (), rfl, rfl, by dsimp only; rw [ht]; exact hH⟩, hS.F ht⟩) hS.2.2 d_Mo_put_54
    · have h := it h c31
      refine lv_bipush (v := (-106)) hx hb d_Mo_put_34 (by decide) ?_
      cases h
      rw [← hQ0]
      exact W.iret hx hb hr (fun t ht hW => ⟨⟨_, (), rfl, rfl, by dsimp only; rw [ht]; exact hH⟩, hS.F ht⟩) hS.2.2 d_Mo_put_36
  · have h := ie h c11
    refine lv_iload hx hb d_Mo_put_14 (lv_at hl 0 rfl) ?_
    cases h
    rw [← hQ0]
    exact W.iret hx hb hr (fun t ht hW => ⟨⟨_, (), rfl, rfl, by dsimp only; rw [ht]; exact hH⟩, hS.F ht⟩) hS.2.2 d_Mo_put_16
set_option maxHeartbeats 4000000 in
set_option maxRecDepth 100000 in
theorem c_Mo_taken (l : Launch) (D : va_G) (aC : Nat → ClassId) (A : Nat → Prop) (ad : Nat → Nat → Nat) (n : Nat) (σ : St) (a1 : Int32) (a2 : Int32) (o : St × Int32) (h : f_Mo_taken σ a1 a2 = some o) : Met l y_Mo_taken w_Mo_taken rm_Mo_taken (va_Pc [.ref (ad 48 0), .int a1, .int a2] (Pre D aC A ad n σ)) (va_Qi (fun r (_ : Unit) => r = o.2) (fun _ t => Hold D aC A ad n o.1 t.heap) A) 0 0 A := by
  refine Met.ofW (cc := prog_13_method_32_code) (maxL := 8) (ret := (some .int)) (by decide) rfl ?_
  intro p e s m args below meth c s₁ B hml hv
  obtain ⟨hargs, hH, hK, hZ⟩ := hv
  have hx := B.exec
  have hb := B.bytes
  have hr := B.returns
  have hts := atoms_spec (ws := w_Mo_taken) B.pre
  have hg : ∀ w ∈ gW, w.before args s = true := fun w h => hts w (List.mem_cons_of_mem _ h)
  have hown : s.vm.findClass "PrefixCodesModel" = some m.cls := findClass_of_methodNamed B.named
  have hlocks := B.notSynchronized
  have hS : va_S A s.heap s.heap [] := va_S.rf
  have hl := lv_entry ([.ref (ad 48 0), .int a1, .int a2]) (n := 8) (Nat.le_of_ble_eq_true rfl)
  rw [show entryFrame m args 8 = entryFrame m (([.ref (ad 48 0), .int a1, .int a2] : List Value).toArray) 8 by rw [hargs], lg_entry_eq]
  generalize (lg_sl ([.ref (ad 48 0), .int a1, .int a2]) ++ List.replicate (8 - (lg_sl ([.ref (ad 48 0), .int a1, .int a2])).length) Slot.unset).toArray = ls at hl ⊢
  have hl : lv_has ls 8 [(0, .ref (ad 48 0)), (1, .int a1), (2, .int a2)] := hl
  generalize hQ0 : MQ below (va_Qi (fun r (_ : Unit) => r = o.2) (fun _ t => Hold D aC A ad n o.1 t.heap) A) args s 0 0 A = Q0
  unfold f_Mo_taken at h
  refine lv_iconst (v := 0) hx hb d_Mo_taken_0 (by decide) ?_
  refine lv_istore_n (lv' := [(3, .int 0), (0, .ref (ad 48 0)), (1, .int a1), (2, .int a2)]) hx hb d_Mo_taken_1 rfl hl (by decide) rfl (fun ls hl => ?_)
  refine lv_iconst (v := 1) hx hb d_Mo_taken_2 (by decide) ?_
  refine lv_istore (lv' := [(4, .int 1), (3, .int 0), (0, .ref (ad 48 0)), (1, .int a1), (2, .int a2)]) hx hb d_Mo_taken_3 hl (by decide) rfl (fun ls hl => ?_)
  obtain ⟨q1, hq1, h⟩ := bs3_some h
  have K1 : ∀ (σ16 : St) (x17 : Int32) (x18 : Int32) (H : Heap) (locs : List Loc) (ls : Array Slot), q1 = .inl (σ16, x17, x18) → Hold D aC A ad n σ16 H → va_S A s.heap H locs → lv_has ls 8 [(0, .ref (ad 48 0)), (1, .int a1), (2, .int a2), (3, .int x17), (4, .int x18)] → W p l e (headSpec w_Mo_taken rm_Mo_taken).room s m args below meth c H locs 0 0 Q0 (F0 m 164 ls []) := by
    intro σ16 x17 x18 H locs ls eq1 hH hS hl
    subst eq1
    have h := bs3_at h
    refine lv_bipush (v := (-105)) hx hb d_Mo_taken_164 (by decide) ?_
    cases h
    rw [← hQ0]
    exact W.iret hx hb hr (fun t ht hW => ⟨⟨_, (), rfl, rfl, by dsimp only; rw [ht]; exact hH⟩, hS.F ht⟩) hS.2.2 d_Mo_taken_166
  have loop1 : ∀ (k : Nat) (σ : St) (v3 : Int32) (v4 : Int32) (H : Heap) (locs : List Loc) (ls : Array Slot), Hold D aC A ad n σ H → va_S A s.heap H locs → lv_has ls 8 [(0, .ref (ad 48 0)), (1, .int a1), (2, .int a2), (3, .int v3), (4, .int v4)] → lp (fun q => lb_Mo_taken_5 a1 a2 q.1 q.2.1 q.2.2) k (σ, v3, v4) = some q1 → W p l e (headSpec w_Mo_taken rm_Mo_taken).room s m args below meth c H locs 0 0 Q0 (F0 m 5 ls []) := by
    intro k
    induction k with
    | zero => intro σ v3 v4 H locs ls hH hS hl hlp; exact absurd hlp (lp_zero _ _ _)
    | succ k ih1 =>
      intro σ v3 v4 H locs ls hH hS hl hlp
      obtain ⟨z1, h1, hk1⟩ := lp_succ hlp
      have h1 : lb_Mo_taken_5 a1 a2 σ v3 v4 = some z1 := h1
      unfold lb_Mo_taken_5 at h1
      have J81 : ∀ (σ : St) (p3 : Int32) (p4 : Int32) (H : Heap) (locs : List Loc) (ls : Array Slot), Hold D aC A ad n σ H → va_S A s.heap H locs → lv_has ls 8 [(0, .ref (ad 48 0)), (1, .int a1), (2, .int a2), (3, .int p3), (4, .int p4)] → jn_Mo_taken_81 a1 a2 σ p3 p4 = some z1 → W p l e (headSpec w_Mo_taken rm_Mo_taken).room s m args below meth c H locs 0 0 Q0 (F0 m 81 ls []) := by
        intro σ p3 p4  H locs ls hH hS hl h1
        unfold jn_Mo_taken_81 at h1
        refine lv_iconst (v := 0) hx hb d_Mo_taken_81 (by decide) ?_
        refine lv_istore (lv' := [(5, .int 0), (0, .ref (ad 48 0)), (1, .int a1), (2, .int a2), (3, .int p3), (4, .int p4)]) hx hb d_Mo_taken_82 hl (by decide) rfl (fun ls hl => ?_)
        refine lv_iconst (v := 0) hx hb d_Mo_taken_84 (by decide) ?_
        refine lv_istore (lv' := [(6, .int 0), (5, .int 0), (0, .ref (ad 48 0)), (1, .int a1), (2, .int a2), (3, .int p3), (4, .int p4)]) hx hb d_Mo_taken_85 hl (by decide) rfl (fun ls hl => ?_)
        obtain ⟨q2, hq2, h1⟩ := bs3_some h1
        have K2 : ∀ (σ10 : St) (x11 : Int32) (x12 : Int32) (H : Heap) (locs : List Loc) (ls : Array Slot), q2 = .inl (σ10, x11, x12) → Hold D aC A ad n σ10 H → va_S A s.heap H locs → lv_has ls 8 [(0, .ref (ad 48 0)), (1, .int a1), (2, .int a2), (3, .int p3), (4, .int p4), (5, .int x11), (6, .int x12)] → W p l e (headSpec w_Mo_taken rm_Mo_taken).room s m args below meth c H locs 0 0 Q0 (F0 m 150 ls []) := by
          intro σ10 x11 x12 H locs ls eq2 hH hS hl
          subst eq2
          have h1 := bs3_at h1
          refine lv_iload hx hb d_Mo_taken_150 (lv_at hl 5 rfl) ?_
          refine lv_if_ne (tgt := 158) hx hb d_Mo_taken_152 (by decide) (fun c152 => ?_) (fun c152 => ?_)
          · have h1 := ie h1 c152
            obtain ⟨x13, ex13⟩ : ∃ y : Int32, y = p4 + 1 := ⟨_, rfl⟩
            have h1 := nm_at ex13 h1
            refine lv_iinc (v := x13) (lv' := [(4, .int x13), (0, .ref (ad 48 0)), (1, .int a1), (2, .int a2), (3, .int p3), (5, .int x11), (6, .int x12)]) hx hb d_Mo_taken_158 hl (k := 4) rfl (by rw [ex13]; rfl) (by decide) rfl (fun ls hl => ?_)
            refine lv_goto (tgt := 5) hx hb d_Mo_taken_161 (by decide) ?_
            cases h1
            exact ih1 σ10 p3 x13 _ _ ls hH hS (lv_sub hl [1, 2, 3, 4, 0] rfl) hk1
          · have h1 := it h1 c152
            refine lv_bipush (v := (-105)) hx hb d_Mo_taken_155 (by decide) ?_
            cases h1
            have hk1 := Option.some.inj hk1
            subst hk1
            have h := bs3_r h
            cases h
            rw [← hQ0]
            exact W.iret hx hb hr (fun t ht hW => ⟨⟨_, (), rfl, rfl, by dsimp only; rw [ht]; exact hH⟩, hS.F ht⟩) hS.2.2 d_Mo_taken_157
        have loop2 : ∀ (k : Nat) (σ : St) (v5 : Int32) (v6 : Int32) (H : Heap) (locs : List Loc) (ls : Array Slot), Hold D aC A ad n σ H → va_S A s.heap H locs → lv_has ls 8 [(0, .ref (ad 48 0)), (1, .int a1), (2, .int a2), (3, .int p3), (4, .int p4), (5, .int v5), (6, .int v6)] → lp (fun q => lb_Mo_taken_87 a1 a2 p3 p4 q.1 q.2.1 q.2.2) k (σ, v5, v6) = some q2 → W p l e (headSpec w_Mo_taken rm_Mo_taken).room s m args below meth c H locs 0 0 Q0 (F0 m 87 ls []) := by
          intro k
          induction k with
          | zero => intro σ v5 v6 H locs ls hH hS hl hlp; exact absurd hlp (lp_zero _ _ _)
          | succ k ih2 =>
            intro σ v5 v6 H locs ls hH hS hl hlp
            obtain ⟨z2, h2, hk2⟩ := lp_succ hlp
            have h2 : lb_Mo_taken_87 a1 a2 p3 p4 σ v5 v6 = some z2 := h2
            unfold lb_Mo_taken_87 at h2
            refine lv_iload hx hb d_Mo_taken_87 (lv_at hl 6 rfl) ?_
            refine lv_aload_n hx hb d_Mo_taken_89 rfl (lv_at hl 0 rfl) ?_
            refine st_get hx hb hg hown hK hH (f := 48) (i := 0) hd_48 rfl rfl u_Mo 2 (by decide) (hg _ wd_425) (v := .ref (ad 49 0)) rfl d_Mo_taken_90 ?_
            refine lv_iload_n hx hb d_Mo_taken_93 rfl (lv_at hl 1 rfl) ?_
            obtain ⟨g94, h2⟩ := gd_some h2
            refine st_iald hx hb hK hH (f := 49) (i := 0) hd_49 rfl g94 d_Mo_taken_94 ?_
            refine lv_icmp_ge (tgt := 150) hx hb d_Mo_taken_95 (by decide) (fun c95 => ?_) (fun c95 => ?_)
            · have h2 := it h2 c95
              cases h2
              exact K2 σ v5 v6 _ _ ls (Option.some.inj hk2).symm hH hS (lv_sub hl [0, 1, 2, 3, 4, 5, 6] rfl)
            · have h2 := ie h2 c95
              refine lv_aload_n hx hb d_Mo_taken_98 rfl (lv_at hl 0 rfl) ?_
              refine lv_iload_n hx hb d_Mo_taken_99 rfl (lv_at hl 1 rfl) ?_
              refine lv_iload hx hb d_Mo_taken_100 (lv_at hl 6 rfl) ?_
              obtain ⟨qc, hc102, h2⟩ := b2_some h2
              obtain ⟨σ3, x4⟩ := qc
              have h2 := b2_at h2
              refine st_Vi (As := [.int a1, .int v6]) (rest := []) ⟨hx, hb, hml, hown, hg⟩ (c_Mo_lengthOf l D aC A ad n _ a1 v6 _ hc102) (cwG hg wd_440 wd_441 wd_442 wd_443 wd_428 yd_Mo_lengthOf ⟨Nat.le_of_ble_eq_true rfl, Nat.le_of_ble_eq_true rfl⟩) hK hH hS hZ hd_48 rfl rfl rfl hl.1 rfl (Nat.le_of_ble_eq_true rfl) d_Mo_taken_102 ⟨Nat.zero_le _, Nat.zero_le _⟩ (fun H locs hH hS => ?_)
              refine lv_istore (lv' := [(7, .int x4), (0, .ref (ad 48 0)), (1, .int a1), (2, .int a2), (3, .int p3), (4, .int p4), (5, .int v5), (6, .int v6)]) hx hb d_Mo_taken_105 hl (by decide) rfl (fun ls hl => ?_)
              refine lv_iload hx hb d_Mo_taken_107 (lv_at hl 0 rfl) ?_
              refine lv_iload hx hb d_Mo_taken_109 (lv_at hl 5 rfl) ?_
              refine lv_icmp_lt (tgt := 144) hx hb d_Mo_taken_111 (by decide) (fun c111 => ?_) (fun c111 => ?_)
              · have h2 := it h2 c111
                obtain ⟨x5, ex5⟩ : ∃ y : Int32, y = v6 + 1 := ⟨_, rfl⟩
                have h2 := nm_at ex5 h2
                refine lv_iinc (v := x5) (lv' := [(6, .int x5), (7, .int x4), (0, .ref (ad 48 0)), (1, .int a1), (2, .int a2), (3, .int p3), (4, .int p4), (5, .int v5)]) hx hb d_Mo_taken_144 hl (k := 7) rfl (by rw [ex5]; rfl) (by decide) rfl (fun ls hl => ?_)
                refine lv_goto (tgt := 87) hx hb d_Mo_taken_147 (by decide) ?_
                cases h2
                exact ih2 σ3 v5 x5 _ _ ls hH hS (lv_sub hl [2, 3, 4, 5, 6, 7, 0] rfl) hk2
              · have h2 := ie h2 c111
                refine lv_aload_n hx hb d_Mo_taken_114 rfl (lv_at hl 1 rfl) ?_
                refine lv_iload_n hx hb d_Mo_taken_115 rfl (lv_at hl 2 rfl) ?_
                refine lv_iload hx hb d_Mo_taken_116 (lv_at hl 7 rfl) ?_
                obtain ⟨qc, hc118, h2⟩ := b2_some h2
                obtain ⟨σ6, x7⟩ := qc
                have h2 := b2_at h2
                refine st_Vi (As := [.int a1, .int v6]) (rest := []) ⟨hx, hb, hml, hown, hg⟩ (c_Mo_wordOf l D aC A ad n _ a1 v6 _ hc118) (cwG hg wd_461 wd_462 wd_463 wd_464 wd_428 yd_Mo_wordOf ⟨Nat.le_of_ble_eq_true rfl, Nat.le_of_ble_eq_true rfl⟩) hK hH hS hZ hd_48 rfl rfl rfl hl.1 rfl (Nat.le_of_ble_eq_true rfl) d_Mo_taken_118 ⟨Nat.zero_le _, Nat.zero_le _⟩ (fun H locs hH hS => ?_)
                refine lv_iload hx hb d_Mo_taken_121 (lv_at hl 0 rfl) ?_
                refine lv_iload hx hb d_Mo_taken_123 (lv_at hl 5 rfl) ?_
                refine lv_isub hx hb d_Mo_taken_125 ?_
                refine lv_ishr hx hb d_Mo_taken_126 ?_
                refine lv_iload_n hx hb d_Mo_taken_127 rfl (lv_at hl 4 rfl) ?_
                refine lv_icmp_ne (tgt := 144) hx hb d_Mo_taken_128 (by decide) (fun c128 => ?_) (fun c128 => ?_)
                · have h2 := ie h2 c128
                  obtain ⟨x8, ex8⟩ : ∃ y : Int32, y = v6 + 1 := ⟨_, rfl⟩
                  have h2 := nm_at ex8 h2
                  refine lv_iinc (v := x8) (lv' := [(6, .int x8), (7, .int x4), (0, .ref (ad 48 0)), (1, .int a1), (2, .int a2), (3, .int p3), (4, .int p4), (5, .int v5)]) hx hb d_Mo_taken_144 hl (k := 7) rfl (by rw [ex8]; rfl) (by decide) rfl (fun ls hl => ?_)
                  refine lv_goto (tgt := 87) hx hb d_Mo_taken_147 (by decide) ?_
                  cases h2
                  exact ih2 σ6 v5 x8 _ _ ls hH hS (lv_sub hl [2, 3, 4, 5, 6, 7, 0] rfl) hk2
                · have h2 := it h2 c128
                  refine lv_iconst (v := 1) hx hb d_Mo_taken_131 (by decide) ?_
                  refine lv_istore (lv' := [(5, .int 1), (7, .int x4), (0, .ref (ad 48 0)), (1, .int a1), (2, .int a2), (3, .int p3), (4, .int p4), (6, .int v6)]) hx hb d_Mo_taken_132 hl (by decide) rfl (fun ls hl => ?_)
                  refine lv_iload hx hb d_Mo_taken_134 (lv_at hl 1 rfl) ?_
                  refine lv_iload hx hb d_Mo_taken_136 (lv_at hl 6 rfl) ?_
                  refine lv_icmp_ne (tgt := 144) hx hb d_Mo_taken_138 (by decide) (fun c138 => ?_) (fun c138 => ?_)
                  · have h2 := ie h2 c138
                    obtain ⟨x9, ex9⟩ : ∃ y : Int32, y = v6 + 1 := ⟨_, rfl⟩
                    have h2 := nm_at ex9 h2
                    refine lv_iinc (v := x9) (lv' := [(6, .int x9), (5, .int 1), (7, .int x4), (0, .ref (ad 48 0)), (1, .int a1), (2, .int a2), (3, .int p3), (4, .int p4)]) hx hb d_Mo_taken_144 hl (k := 7) rfl (by rw [ex9]; rfl) (by decide) rfl (fun ls hl => ?_)
                    refine lv_goto (tgt := 87) hx hb d_Mo_taken_147 (by decide) ?_
                    cases h2
                    exact ih2 σ6 1 x9 _ _ ls hH hS (lv_sub hl [3, 4, 5, 6, 7, 1, 0] rfl) hk2
                  · have h2 := it h2 c138
                    refine lv_iload hx hb d_Mo_taken_141 (lv_at hl 7 rfl) ?_
                    cases h2
                    have hk2 := Option.some.inj hk2
                    subst hk2
                    have h1 := bs3_r h1
                    cases h1
                    have hk1 := Option.some.inj hk1
                    subst hk1
                    have h := bs3_r h
                    cases h
                    rw [← hQ0]
                    exact W.iret hx hb hr (fun t ht hW => ⟨⟨_, (), rfl, rfl, by dsimp only; rw [ht]; exact hH⟩, hS.F ht⟩) hS.2.2 d_Mo_taken_143
        obtain ⟨k2, hq2⟩ := lpE_some hq2
        exact loop2 k2 σ 0 0 _ _ ls hH hS (lv_sub hl [2, 3, 4, 5, 6, 1, 0] rfl) hq2
      refine lv_iload hx hb d_Mo_taken_5 (lv_at hl 4 rfl) ?_
      refine lv_bipush (v := 15) hx hb d_Mo_taken_7 (by decide) ?_
      refine lv_icmp_gt (tgt := 164) hx hb d_Mo_taken_9 (by decide) (fun c9 => ?_) (fun c9 => ?_)
      · have h1 := it h1 c9
        cases h1
        exact K1 σ v3 v4 _ _ ls (Option.some.inj hk1).symm hH hS (lv_sub hl [0, 1, 2, 3, 4] rfl)
      · have h1 := ie h1 c9
        refine lv_aload_n hx hb d_Mo_taken_12 rfl (lv_at hl 0 rfl) ?_
        refine st_get hx hb hg hown hK hH (f := 48) (i := 0) hd_48 rfl rfl u_Mo 12 (by decide) (hg _ wd_489) (v := .int (σ.1 48 0 12)) rfl d_Mo_taken_13 ?_
        refine lv_aload_n hx hb d_Mo_taken_16 rfl (lv_at hl 0 rfl) ?_
        refine st_get hx hb hg hown hK hH (f := 48) (i := 0) hd_48 rfl rfl u_Mo 11 (by decide) (hg _ wd_490) (v := .int (σ.1 48 0 11)) rfl d_Mo_taken_17 ?_
        refine lv_icmp_ne (tgt := 26) hx hb d_Mo_taken_20 (by decide) (fun c20 => ?_) (fun c20 => ?_)
        · have h1 := ie h1 c20
          refine lv_iload_n hx hb d_Mo_taken_26 rfl (lv_at hl 2 rfl) ?_
          refine lv_if_eq (tgt := 57) hx hb d_Mo_taken_27 (by decide) (fun c27 => ?_) (fun c27 => ?_)
          · have h1 := it h1 c27
            refine lv_iconst (v := 2) hx hb d_Mo_taken_57 (by decide) ?_
            refine lv_iload_n hx hb d_Mo_taken_58 rfl (lv_at hl 3 rfl) ?_
            refine lv_imul hx hb d_Mo_taken_59 ?_
            refine lv_aload_n hx hb d_Mo_taken_60 rfl (lv_at hl 0 rfl) ?_
            refine st_get hx hb hg hown hK hH (f := 48) (i := 0) hd_48 rfl rfl u_Mo 10 (by decide) (hg _ wd_491) (v := .ref (ad 57 0)) rfl d_Mo_taken_61 ?_
            refine lv_aload_n hx hb d_Mo_taken_64 rfl (lv_at hl 0 rfl) ?_
            refine st_get hx hb hg hown hK hH (f := 48) (i := 0) hd_48 rfl rfl u_Mo 11 (by decide) (hg _ wd_490) (v := .int (σ.1 48 0 11)) rfl d_Mo_taken_65 ?_
            obtain ⟨g68, h1⟩ := gd_some h1
            refine st_bald hx hb hK hH (f := 57) (i := 0) hd_57 rfl g68 d_Mo_taken_68 ?_
            refine lv_iadd hx hb d_Mo_taken_69 ?_
            refine lv_topi (fun x1 ex1 => ?_)
            have h1 := nm_at ex1 h1
            refine lv_istore_n (lv' := [(3, .int x1), (0, .ref (ad 48 0)), (1, .int a1), (2, .int a2), (4, .int v4)]) hx hb d_Mo_taken_70 rfl hl (by decide) rfl (fun ls hl => ?_)
            refine lv_aload_n hx hb d_Mo_taken_71 rfl (lv_at hl 1 rfl) ?_
            refine lv_dup hx hb d_Mo_taken_72 rfl ?_
            refine st_get hx hb hg hown hK hH (f := 48) (i := 0) hd_48 rfl rfl u_Mo 11 (by decide) (hg _ wd_490) (v := .int (σ.1 48 0 11)) rfl d_Mo_taken_73 ?_
            refine lv_iconst (v := 1) hx hb d_Mo_taken_76 (by decide) ?_
            refine lv_iadd hx hb d_Mo_taken_77 ?_
            refine st_put hx hb hg hown hK hH hS (f := 48) (i := 0) hd_48 rfl rfl u_Mo t_Mo t_Mo_ok n_Mo 11 (by decide) (hg _ wd_490) rfl rfl rfl d_Mo_taken_78 (fun σ2 H locs eσ2 hH hS => ?_)
            have h1 := nm_at eσ2 h1
            exact J81 σ2 x1 v4 _ _ ls hH hS (lv_sub hl [1, 2, 3, 0, 4] rfl) h1
          · have h1 := ie h1 c27
            refine lv_aload_n hx hb d_Mo_taken_30 rfl (lv_at hl 0 rfl) ?_
            refine lv_dup hx hb d_Mo_taken_31 rfl ?_
            refine st_get hx hb hg hown hK hH (f := 48) (i := 0) hd_48 rfl rfl u_Mo 12 (by decide) (hg _ wd_489) (v := .int (σ.1 48 0 12)) rfl d_Mo_taken_32 ?_
            refine lv_iconst (v := 1) hx hb d_Mo_taken_35 (by decide) ?_
            refine lv_isub hx hb d_Mo_taken_36 ?_
            refine st_put hx hb hg hown hK hH hS (f := 48) (i := 0) hd_48 rfl rfl u_Mo t_Mo t_Mo_ok n_Mo 12 (by decide) (hg _ wd_489) rfl rfl rfl d_Mo_taken_37 (fun σ14 H locs eσ14 hH hS => ?_)
            have h1 := nm_at eσ14 h1
            refine lv_iconst (v := 2) hx hb d_Mo_taken_40 (by decide) ?_
            refine lv_iload_n hx hb d_Mo_taken_41 rfl (lv_at hl 3 rfl) ?_
            refine lv_imul hx hb d_Mo_taken_42 ?_
            refine lv_aload_n hx hb d_Mo_taken_43 rfl (lv_at hl 0 rfl) ?_
            refine st_get hx hb hg hown hK hH (f := 48) (i := 0) hd_48 rfl rfl u_Mo 10 (by decide) (hg _ wd_491) (v := .ref (ad 57 0)) rfl d_Mo_taken_44 ?_
            refine lv_aload_n hx hb d_Mo_taken_47 rfl (lv_at hl 0 rfl) ?_
            refine st_get hx hb hg hown hK hH (f := 48) (i := 0) hd_48 rfl rfl u_Mo 12 (by decide) (hg _ wd_489) (v := .int (σ14.1 48 0 12)) rfl d_Mo_taken_48 ?_
            obtain ⟨g51, h1⟩ := gd_some h1
            refine st_bald hx hb hK hH (f := 57) (i := 0) hd_57 rfl g51 d_Mo_taken_51 ?_
            refine lv_iadd hx hb d_Mo_taken_52 ?_
            refine lv_topi (fun x15 ex15 => ?_)
            have h1 := nm_at ex15 h1
            refine lv_istore_n (lv' := [(3, .int x15), (0, .ref (ad 48 0)), (1, .int a1), (2, .int a2), (4, .int v4)]) hx hb d_Mo_taken_53 rfl hl (by decide) rfl (fun ls hl => ?_)
            refine lv_goto (tgt := 81) hx hb d_Mo_taken_54 (by decide) ?_
            exact J81 σ14 x15 v4 _ _ ls hH hS (lv_sub hl [1, 2, 3, 0, 4] rfl) h1
        · have h1 := it h1 c20
          refine lv_bipush (v := (-104)) hx hb d_Mo_taken_23 (by decide) ?_
          cases h1
          have hk1 := Option.some.inj hk1
          subst hk1
          have h := bs3_r h
          cases h
          rw [← hQ0]
          exact W.iret hx hb hr (fun t ht hW => ⟨⟨_, (), rfl, rfl, by dsimp only; rw [ht]; exact hH⟩, hS.F ht⟩) hS.2.2 d_Mo_taken_25
  obtain ⟨k1, hq1⟩ := lpE_some hq1
  exact loop1 k1 σ 0 1 _ _ ls hH hS (lv_sub hl [2, 3, 4, 1, 0] rfl) hq1
set_option maxHeartbeats 4000000 in
set_option maxRecDepth 100000 in
theorem c_Mo_take (l : Launch) (D : va_G) (aC : Nat → ClassId) (A : Nat → Prop) (ad : Nat → Nat → Nat) (n : Nat) (σ : St) (a1 : Int32) (a2 : Int32) (o : St × Int32) (h : f_Mo_take σ a1 a2 = some o) : Met l y_Mo_take w_Mo_take rm_Mo_take (va_Pc [.ref (ad 48 0), .int a1, .int a2] (Pre D aC A ad n σ)) (va_Qi (fun r (_ : Unit) => r = o.2) (fun _ t => Hold D aC A ad n o.1 t.heap) A) 0 0 A := by
  refine Met.ofW (cc := prog_13_method_33_code) (maxL := 4) (ret := (some .int)) (by decide) rfl ?_
  intro p e s m args below meth c s₁ B hml hv
  obtain ⟨hargs, hH, hK, hZ⟩ := hv
  have hx := B.exec
  have hb := B.bytes
  have hr := B.returns
  have hts := atoms_spec (ws := w_Mo_take) B.pre
  have hg : ∀ w ∈ gW, w.before args s = true := fun w h => hts w (List.mem_cons_of_mem _ h)
  have hown : s.vm.findClass "PrefixCodesModel" = some m.cls := findClass_of_methodNamed B.named
  have hlocks := B.notSynchronized
  have hS : va_S A s.heap s.heap [] := va_S.rf
  have hl := lv_entry ([.ref (ad 48 0), .int a1, .int a2]) (n := 4) (Nat.le_of_ble_eq_true rfl)
  rw [show entryFrame m args 4 = entryFrame m (([.ref (ad 48 0), .int a1, .int a2] : List Value).toArray) 4 by rw [hargs], lg_entry_eq]
  generalize (lg_sl ([.ref (ad 48 0), .int a1, .int a2]) ++ List.replicate (4 - (lg_sl ([.ref (ad 48 0), .int a1, .int a2])).length) Slot.unset).toArray = ls at hl ⊢
  have hl : lv_has ls 4 [(0, .ref (ad 48 0)), (1, .int a1), (2, .int a2)] := hl
  generalize hQ0 : MQ below (va_Qi (fun r (_ : Unit) => r = o.2) (fun _ t => Hold D aC A ad n o.1 t.heap) A) args s 0 0 A = Q0
  unfold f_Mo_take at h
  refine lv_aload_n hx hb d_Mo_take_0 rfl (lv_at hl 0 rfl) ?_
  refine lv_iload_n hx hb d_Mo_take_1 rfl (lv_at hl 1 rfl) ?_
  obtain ⟨qc, hc2, h⟩ := b2_some h
  obtain ⟨σ1, x2⟩ := qc
  have h := b2_at h
  refine st_Vi (As := [.int a1]) (rest := []) ⟨hx, hb, hml, hown, hg⟩ (c_Mo_has l D aC A ad n _ a1 _ hc2) (cwG hg wd_426 wd_427 wd_429 wd_430 wd_428 yd_Mo_has ⟨Nat.le_of_ble_eq_true rfl, Nat.le_of_ble_eq_true rfl⟩) hK hH hS hZ hd_48 rfl rfl rfl hl.1 rfl (Nat.le_of_ble_eq_true rfl) d_Mo_take_2 ⟨Nat.zero_le _, Nat.zero_le _⟩ (fun H locs hH hS => ?_)
  refine lv_if_ne (tgt := 11) hx hb d_Mo_take_5 (by decide) (fun c5 => ?_) (fun c5 => ?_)
  · have h := ie h c5
    refine lv_aload_n hx hb d_Mo_take_11 rfl (lv_at hl 0 rfl) ?_
    refine lv_iload_n hx hb d_Mo_take_12 rfl (lv_at hl 1 rfl) ?_
    obtain ⟨qc, hc13, h⟩ := b2_some h
    obtain ⟨σ3, x4⟩ := qc
    have h := b2_at h
    refine st_Vi (As := [.int a1]) (rest := []) ⟨hx, hb, hml, hown, hg⟩ (c_Mo_kind l D aC A ad n _ a1 _ hc13) (cwG hg wd_457 wd_458 wd_459 wd_460 wd_428 yd_Mo_kind ⟨Nat.le_of_ble_eq_true rfl, Nat.le_of_ble_eq_true rfl⟩) hK hH hS hZ hd_48 rfl rfl rfl hl.1 rfl (Nat.le_of_ble_eq_true rfl) d_Mo_take_13 ⟨Nat.zero_le _, Nat.zero_le _⟩ (fun H locs hH hS => ?_)
    refine lv_istore_n (lv' := [(3, .int x4), (0, .ref (ad 48 0)), (1, .int a1), (2, .int a2)]) hx hb d_Mo_take_16 rfl hl (by decide) rfl (fun ls hl => ?_)
    refine lv_iload_n hx hb d_Mo_take_17 rfl (lv_at hl 0 rfl) ?_
    refine lv_if_eq (tgt := 26) hx hb d_Mo_take_18 (by decide) (fun c18 => ?_) (fun c18 => ?_)
    · have h := it h c18
      refine lv_bipush (v := (-103)) hx hb d_Mo_take_26 (by decide) ?_
      refine lv_goto (tgt := 37) hx hb d_Mo_take_28 (by decide) ?_
      cases h
      rw [← hQ0]
      exact W.iret hx hb hr (fun t ht hW => ⟨⟨_, (), rfl, rfl, by dsimp only; rw [ht]; exact hH⟩, hS.F ht⟩) hS.2.2 d_Mo_take_37
    · have h := ie h c18
      refine lv_iload_n hx hb d_Mo_take_21 rfl (lv_at hl 0 rfl) ?_
      refine lv_iconst (v := 4) hx hb d_Mo_take_22 (by decide) ?_
      refine lv_icmp_ne (tgt := 31) hx hb d_Mo_take_23 (by decide) (fun c23 => ?_) (fun c23 => ?_)
      · have h := ie h c23
        refine lv_aload_n hx hb d_Mo_take_31 rfl (lv_at hl 1 rfl) ?_
        refine lv_iload_n hx hb d_Mo_take_32 rfl (lv_at hl 2 rfl) ?_
        refine lv_iload_n hx hb d_Mo_take_33 rfl (lv_at hl 3 rfl) ?_
        obtain ⟨qc, hc34, h⟩ := b2_some h
        obtain ⟨σ5, x6⟩ := qc
        have h := b2_at h
        refine st_Vi (As := [.int a1, .int a2]) (rest := []) ⟨hx, hb, hml, hown, hg⟩ (c_Mo_taken l D aC A ad n _ a1 a2 _ hc34) (cwG hg wd_505 wd_506 wd_507 wd_508 wd_428 yd_Mo_taken ⟨Nat.le_of_ble_eq_true rfl, Nat.le_of_ble_eq_true rfl⟩) hK hH hS hZ hd_48 rfl rfl rfl hl.1 rfl (Nat.le_of_ble_eq_true rfl) d_Mo_take_34 ⟨Nat.zero_le _, Nat.zero_le _⟩ (fun H locs hH hS => ?_)
        cases h
        rw [← hQ0]
        exact W.iret hx hb hr (fun t ht hW => ⟨⟨_, (), rfl, rfl, by dsimp only; rw [ht]; exact hH⟩, hS.F ht⟩) hS.2.2 d_Mo_take_37
      · have h := it h c23
        refine lv_bipush (v := (-103)) hx hb d_Mo_take_26 (by decide) ?_
        refine lv_goto (tgt := 37) hx hb d_Mo_take_28 (by decide) ?_
        cases h
        rw [← hQ0]
        exact W.iret hx hb hr (fun t ht hW => ⟨⟨_, (), rfl, rfl, by dsimp only; rw [ht]; exact hH⟩, hS.F ht⟩) hS.2.2 d_Mo_take_37
  · have h := it h c5
    refine lv_bipush (v := (-101)) hx hb d_Mo_take_8 (by decide) ?_
    cases h
    rw [← hQ0]
    exact W.iret hx hb hr (fun t ht hW => ⟨⟨_, (), rfl, rfl, by dsimp only; rw [ht]; exact hH⟩, hS.F ht⟩) hS.2.2 d_Mo_take_10
set_option maxHeartbeats 4000000 in
set_option maxRecDepth 100000 in
theorem c_Mo_orderOf (l : Launch) (D : va_G) (aC : Nat → ClassId) (A : Nat → Prop) (ad : Nat → Nat → Nat) (n : Nat) (σ : St) (a1 : Int32) (o : St × Int32) (h : f_Mo_orderOf σ a1 = some o) : Met l y_Mo_orderOf w_Mo_orderOf rm_Mo_orderOf (va_Pc [.int a1] (Pre D aC A ad n σ)) (va_Qi (fun r (_ : Unit) => r = o.2) (fun _ t => Hold D aC A ad n o.1 t.heap) A) 0 0 A := by
  refine Met.ofW (cc := prog_13_method_34_code) (maxL := 1) (ret := (some .int)) (by decide) rfl ?_
  intro p e s m args below meth c s₁ B hml hv
  obtain ⟨hargs, hH, hK, hZ⟩ := hv
  have hx := B.exec
  have hb := B.bytes
  have hr := B.returns
  have hts := atoms_spec (ws := w_Mo_orderOf) B.pre
  have hg : ∀ w ∈ gW, w.before args s = true := fun w h => hts w (List.mem_cons_of_mem _ h)
  have hown : s.vm.findClass "PrefixCodesModel" = some m.cls := findClass_of_methodNamed B.named
  have hlocks := B.notSynchronized
  have hS : va_S A s.heap s.heap [] := va_S.rf
  have hl := lv_entry ([.int a1]) (n := 1) (Nat.le_of_ble_eq_true rfl)
  rw [show entryFrame m args 1 = entryFrame m (([.int a1] : List Value).toArray) 1 by rw [hargs], lg_entry_eq]
  generalize (lg_sl ([.int a1]) ++ List.replicate (1 - (lg_sl ([.int a1])).length) Slot.unset).toArray = ls at hl ⊢
  have hl : lv_has ls 1 [(0, .int a1)] := hl
  generalize hQ0 : MQ below (va_Qi (fun r (_ : Unit) => r = o.2) (fun _ t => Hold D aC A ad n o.1 t.heap) A) args s 0 0 A = Q0
  unfold f_Mo_orderOf at h
  refine lv_iload_n hx hb d_Mo_orderOf_0 rfl (lv_at hl 0 rfl) ?_
  refine lv_iconst (v := 3) hx hb d_Mo_orderOf_1 (by decide) ?_
  refine lv_icmp_ge (tgt := 12) hx hb d_Mo_orderOf_2 (by decide) (fun c2 => ?_) (fun c2 => ?_)
  · have h := it h c2
    refine lv_iload_n hx hb d_Mo_orderOf_12 rfl (lv_at hl 0 rfl) ?_
    refine lv_iconst (v := 3) hx hb d_Mo_orderOf_13 (by decide) ?_
    refine lv_icmp_ne (tgt := 21) hx hb d_Mo_orderOf_14 (by decide) (fun c14 => ?_) (fun c14 => ?_)
    · have h := ie h c14
      refine lv_iload_n hx hb d_Mo_orderOf_21 rfl (lv_at hl 0 rfl) ?_
      refine lv_iconst (v := 1) hx hb d_Mo_orderOf_22 (by decide) ?_
      refine lv_iand hx hb d_Mo_orderOf_23 ?_
      refine lv_if_ne (tgt := 38) hx hb d_Mo_orderOf_24 (by decide) (fun c24 => ?_) (fun c24 => ?_)
      · have h := ie h c24
        refine lv_bipush (v := 7) hx hb d_Mo_orderOf_38 (by decide) ?_
        refine lv_iload_n hx hb d_Mo_orderOf_40 rfl (lv_at hl 0 rfl) ?_
        refine lv_iconst (v := 5) hx hb d_Mo_orderOf_41 (by decide) ?_
        refine lv_isub hx hb d_Mo_orderOf_42 ?_
        refine lv_iconst (v := 2) hx hb d_Mo_orderOf_43 (by decide) ?_
        refine lv_idiv hx hb d_Mo_orderOf_44 (by decide) ?_
        refine lv_isub hx hb d_Mo_orderOf_45 ?_
        cases h
        rw [← hQ0]
        exact W.iret hx hb hr (fun t ht hW => ⟨⟨_, (), rfl, rfl, by dsimp only; rw [ht]; exact hH⟩, hS.F ht⟩) hS.2.2 d_Mo_orderOf_46
      · have h := it h c24
        refine lv_bipush (v := 8) hx hb d_Mo_orderOf_27 (by decide) ?_
        refine lv_iload_n hx hb d_Mo_orderOf_29 rfl (lv_at hl 0 rfl) ?_
        refine lv_iconst (v := 4) hx hb d_Mo_orderOf_30 (by decide) ?_
        refine lv_isub hx hb d_Mo_orderOf_31 ?_
        refine lv_iconst (v := 2) hx hb d_Mo_orderOf_32 (by decide) ?_
        refine lv_idiv hx hb d_Mo_orderOf_33 (by decide) ?_
        refine lv_iadd hx hb d_Mo_orderOf_34 ?_
        refine lv_goto (tgt := 46) hx hb d_Mo_orderOf_35 (by decide) ?_
        cases h
        rw [← hQ0]
        exact W.iret hx hb hr (fun t ht hW => ⟨⟨_, (), rfl, rfl, by dsimp only; rw [ht]; exact hH⟩, hS.F ht⟩) hS.2.2 d_Mo_orderOf_46
    · have h := it h c14
      refine lv_iconst (v := 0) hx hb d_Mo_orderOf_17 (by decide) ?_
      refine lv_goto (tgt := 46) hx hb d_Mo_orderOf_18 (by decide) ?_
      cases h
      rw [← hQ0]
      exact W.iret hx hb hr (fun t ht hW => ⟨⟨_, (), rfl, rfl, by dsimp only; rw [ht]; exact hH⟩, hS.F ht⟩) hS.2.2 d_Mo_orderOf_46
  · have h := ie h c2
    refine lv_bipush (v := 16) hx hb d_Mo_orderOf_5 (by decide) ?_
    refine lv_iload_n hx hb d_Mo_orderOf_7 rfl (lv_at hl 0 rfl) ?_
    refine lv_iadd hx hb d_Mo_orderOf_8 ?_
    refine lv_goto (tgt := 46) hx hb d_Mo_orderOf_9 (by decide) ?_
    cases h
    rw [← hQ0]
    exact W.iret hx hb hr (fun t ht hW => ⟨⟨_, (), rfl, rfl, by dsimp only; rw [ht]; exact hH⟩, hS.F ht⟩) hS.2.2 d_Mo_orderOf_46
set_option maxHeartbeats 4000000 in
set_option maxRecDepth 100000 in
theorem c_Mo_extra (l : Launch) (D : va_G) (aC : Nat → ClassId) (A : Nat → Prop) (ad : Nat → Nat → Nat) (n : Nat) (σ : St) (a1 : Int32) (o : St × Int32) (h : f_Mo_extra σ a1 = some o) : Met l y_Mo_extra w_Mo_extra rm_Mo_extra (va_Pc [.int a1] (Pre D aC A ad n σ)) (va_Qi (fun r (_ : Unit) => r = o.2) (fun _ t => Hold D aC A ad n o.1 t.heap) A) 0 0 A := by
  refine Met.ofW (cc := prog_13_method_35_code) (maxL := 1) (ret := (some .int)) (by decide) rfl ?_
  intro p e s m args below meth c s₁ B hml hv
  obtain ⟨hargs, hH, hK, hZ⟩ := hv
  have hx := B.exec
  have hb := B.bytes
  have hr := B.returns
  have hts := atoms_spec (ws := w_Mo_extra) B.pre
  have hg : ∀ w ∈ gW, w.before args s = true := fun w h => hts w (List.mem_cons_of_mem _ h)
  have hown : s.vm.findClass "PrefixCodesModel" = some m.cls := findClass_of_methodNamed B.named
  have hlocks := B.notSynchronized
  have hS : va_S A s.heap s.heap [] := va_S.rf
  have hl := lv_entry ([.int a1]) (n := 1) (Nat.le_of_ble_eq_true rfl)
  rw [show entryFrame m args 1 = entryFrame m (([.int a1] : List Value).toArray) 1 by rw [hargs], lg_entry_eq]
  generalize (lg_sl ([.int a1]) ++ List.replicate (1 - (lg_sl ([.int a1])).length) Slot.unset).toArray = ls at hl ⊢
  have hl : lv_has ls 1 [(0, .int a1)] := hl
  generalize hQ0 : MQ below (va_Qi (fun r (_ : Unit) => r = o.2) (fun _ t => Hold D aC A ad n o.1 t.heap) A) args s 0 0 A = Q0
  unfold f_Mo_extra at h
  refine lv_iload_n hx hb d_Mo_extra_0 rfl (lv_at hl 0 rfl) ?_
  refine lv_bipush (v := 16) hx hb d_Mo_extra_1 (by decide) ?_
  refine lv_icmp_ne (tgt := 10) hx hb d_Mo_extra_3 (by decide) (fun c3 => ?_) (fun c3 => ?_)
  · have h := ie h c3
    refine lv_iload_n hx hb d_Mo_extra_10 rfl (lv_at hl 0 rfl) ?_
    refine lv_bipush (v := 17) hx hb d_Mo_extra_11 (by decide) ?_
    refine lv_icmp_ne (tgt := 20) hx hb d_Mo_extra_13 (by decide) (fun c13 => ?_) (fun c13 => ?_)
    · have h := ie h c13
      refine lv_iload_n hx hb d_Mo_extra_20 rfl (lv_at hl 0 rfl) ?_
      refine lv_bipush (v := 18) hx hb d_Mo_extra_21 (by decide) ?_
      refine lv_icmp_ne (tgt := 31) hx hb d_Mo_extra_23 (by decide) (fun c23 => ?_) (fun c23 => ?_)
      · have h := ie h c23
        refine lv_iconst (v := 0) hx hb d_Mo_extra_31 (by decide) ?_
        cases h
        rw [← hQ0]
        exact W.iret hx hb hr (fun t ht hW => ⟨⟨_, (), rfl, rfl, by dsimp only; rw [ht]; exact hH⟩, hS.F ht⟩) hS.2.2 d_Mo_extra_32
      · have h := it h c23
        refine lv_bipush (v := 7) hx hb d_Mo_extra_26 (by decide) ?_
        refine lv_goto (tgt := 32) hx hb d_Mo_extra_28 (by decide) ?_
        cases h
        rw [← hQ0]
        exact W.iret hx hb hr (fun t ht hW => ⟨⟨_, (), rfl, rfl, by dsimp only; rw [ht]; exact hH⟩, hS.F ht⟩) hS.2.2 d_Mo_extra_32
    · have h := it h c13
      refine lv_iconst (v := 3) hx hb d_Mo_extra_16 (by decide) ?_
      refine lv_goto (tgt := 32) hx hb d_Mo_extra_17 (by decide) ?_
      cases h
      rw [← hQ0]
      exact W.iret hx hb hr (fun t ht hW => ⟨⟨_, (), rfl, rfl, by dsimp only; rw [ht]; exact hH⟩, hS.F ht⟩) hS.2.2 d_Mo_extra_32
  · have h := it h c3
    refine lv_iconst (v := 2) hx hb d_Mo_extra_6 (by decide) ?_
    refine lv_goto (tgt := 32) hx hb d_Mo_extra_7 (by decide) ?_
    cases h
    rw [← hQ0]
    exact W.iret hx hb hr (fun t ht hW => ⟨⟨_, (), rfl, rfl, by dsimp only; rw [ht]; exact hH⟩, hS.F ht⟩) hS.2.2 d_Mo_extra_32
