theorem d_Stream_appendNumber_0 : decode prog_9_method_8_code 0 = .ok (.iload_n 2, 1) := by decide +kernel
theorem d_Stream_appendNumber_1 : decode prog_9_method_8_code 1 = .ok (.iconst 1, 1) := by decide +kernel
theorem d_Stream_appendNumber_2 : decode prog_9_method_8_code 2 = .ok (.isub, 1) := by decide +kernel
theorem d_Stream_appendNumber_3 : decode prog_9_method_8_code 3 = .ok (.istore_n 3, 1) := by decide +kernel
theorem d_Stream_appendNumber_4 : decode prog_9_method_8_code 4 = .ok (.iload_n 3, 1) := by decide +kernel
theorem d_Stream_appendNumber_5 : decode prog_9_method_8_code 5 = .ok (.ifCond .lt 18, 3) := by decide +kernel
theorem d_Stream_appendNumber_8 : decode prog_9_method_8_code 8 = .ok (.aload_n 0, 1) := by decide +kernel
theorem d_Stream_appendNumber_9 : decode prog_9_method_8_code 9 = .ok (.iload_n 1, 1) := by decide +kernel
theorem d_Stream_appendNumber_10 : decode prog_9_method_8_code 10 = .ok (.iload_n 3, 1) := by decide +kernel
theorem d_Stream_appendNumber_11 : decode prog_9_method_8_code 11 = .ok (.iushr, 1) := by decide +kernel
theorem d_Stream_appendNumber_12 : decode prog_9_method_8_code 12 = .ok (.iconst 1, 1) := by decide +kernel
theorem d_Stream_appendNumber_13 : decode prog_9_method_8_code 13 = .ok (.iand, 1) := by decide +kernel
theorem d_Stream_appendNumber_14 : decode prog_9_method_8_code 14 = .ok (.invokevirtual 36, 3) := by decide +kernel
theorem d_Stream_appendNumber_17 : decode prog_9_method_8_code 17 = .ok (.iinc 3 (-1), 3) := by decide +kernel
theorem d_Stream_appendNumber_20 : decode prog_9_method_8_code 20 = .ok (.goto (-16), 3) := by decide +kernel
theorem d_Stream_appendNumber_23 : decode prog_9_method_8_code 23 = .ok (.return_, 1) := by decide +kernel
theorem d_PC_putBits_0 : decode prog_1_method_33_code 0 = .ok (.iload_n 2, 1) := by decide +kernel
theorem d_PC_putBits_1 : decode prog_1_method_33_code 1 = .ok (.sipush 20000, 3) := by decide +kernel
theorem d_PC_putBits_4 : decode prog_1_method_33_code 4 = .ok (.aload_n 0, 1) := by decide +kernel
theorem d_PC_putBits_5 : decode prog_1_method_33_code 5 = .ok (.getfield 26, 3) := by decide +kernel
theorem d_PC_putBits_8 : decode prog_1_method_33_code 8 = .ok (.getfield 141, 3) := by decide +kernel
theorem d_PC_putBits_11 : decode prog_1_method_33_code 11 = .ok (.isub, 1) := by decide +kernel
theorem d_PC_putBits_12 : decode prog_1_method_33_code 12 = .ok (.if_icmp .le 6, 3) := by decide +kernel
theorem d_PC_putBits_15 : decode prog_1_method_33_code 15 = .ok (.bipush (-106), 2) := by decide +kernel
theorem d_PC_putBits_17 : decode prog_1_method_33_code 17 = .ok (.ireturn, 1) := by decide +kernel
theorem d_PC_putBits_18 : decode prog_1_method_33_code 18 = .ok (.aload_n 0, 1) := by decide +kernel
theorem d_PC_putBits_19 : decode prog_1_method_33_code 19 = .ok (.getfield 26, 3) := by decide +kernel
theorem d_PC_putBits_22 : decode prog_1_method_33_code 22 = .ok (.iload_n 1, 1) := by decide +kernel
theorem d_PC_putBits_23 : decode prog_1_method_33_code 23 = .ok (.iload_n 2, 1) := by decide +kernel
theorem d_PC_putBits_24 : decode prog_1_method_33_code 24 = .ok (.invokevirtual 248, 3) := by decide +kernel
theorem d_PC_putBits_27 : decode prog_1_method_33_code 27 = .ok (.aload_n 0, 1) := by decide +kernel
theorem d_PC_putBits_28 : decode prog_1_method_33_code 28 = .ok (.getfield 26, 3) := by decide +kernel
theorem d_PC_putBits_31 : decode prog_1_method_33_code 31 = .ok (.getfield 141, 3) := by decide +kernel
theorem d_PC_putBits_34 : decode prog_1_method_33_code 34 = .ok (.ireturn, 1) := by decide +kernel
theorem d_PC_putNumber_0 : decode prog_1_method_13_code 0 = .ok (.iload_n 2, 1) := by decide +kernel
theorem d_PC_putNumber_1 : decode prog_1_method_13_code 1 = .ok (.iconst 1, 1) := by decide +kernel
theorem d_PC_putNumber_2 : decode prog_1_method_13_code 2 = .ok (.bipush 30, 2) := by decide +kernel
theorem d_PC_putNumber_4 : decode prog_1_method_13_code 4 = .ok (.invokestatic 76, 3) := by decide +kernel
theorem d_PC_putNumber_7 : decode prog_1_method_13_code 7 = .ok (.ifCond .eq 6, 3) := by decide +kernel
theorem d_PC_putNumber_10 : decode prog_1_method_13_code 10 = .ok (.bipush (-102), 2) := by decide +kernel
theorem d_PC_putNumber_12 : decode prog_1_method_13_code 12 = .ok (.ireturn, 1) := by decide +kernel
theorem d_PC_putNumber_13 : decode prog_1_method_13_code 13 = .ok (.aload_n 0, 1) := by decide +kernel
theorem d_PC_putNumber_14 : decode prog_1_method_13_code 14 = .ok (.iload_n 1, 1) := by decide +kernel
theorem d_PC_putNumber_15 : decode prog_1_method_13_code 15 = .ok (.iload_n 2, 1) := by decide +kernel
theorem d_PC_putNumber_16 : decode prog_1_method_13_code 16 = .ok (.invokevirtual 154, 3) := by decide +kernel
theorem d_PC_putNumber_19 : decode prog_1_method_13_code 19 = .ok (.ireturn, 1) := by decide +kernel
theorem d_Stream_removeFirst_0 : decode prog_9_method_9_code 0 = .ok (.aload_n 0, 1) := by decide +kernel
theorem d_Stream_removeFirst_1 : decode prog_9_method_9_code 1 = .ok (.getfield 19, 3) := by decide +kernel
theorem d_Stream_removeFirst_4 : decode prog_9_method_9_code 4 = .ok (.ifCond .ne 6, 3) := by decide +kernel
theorem d_Stream_removeFirst_7 : decode prog_9_method_9_code 7 = .ok (.bipush (-104), 2) := by decide +kernel
theorem d_Stream_removeFirst_9 : decode prog_9_method_9_code 9 = .ok (.ireturn, 1) := by decide +kernel
theorem d_Stream_removeFirst_10 : decode prog_9_method_9_code 10 = .ok (.aload_n 0, 1) := by decide +kernel
theorem d_Stream_removeFirst_11 : decode prog_9_method_9_code 11 = .ok (.aload_n 0, 1) := by decide +kernel
theorem d_Stream_removeFirst_12 : decode prog_9_method_9_code 12 = .ok (.getfield 15, 3) := by decide +kernel
theorem d_Stream_removeFirst_15 : decode prog_9_method_9_code 15 = .ok (.invokevirtual 33, 3) := by decide +kernel
theorem d_Stream_removeFirst_18 : decode prog_9_method_9_code 18 = .ok (.istore_n 1, 1) := by decide +kernel
theorem d_Stream_removeFirst_19 : decode prog_9_method_9_code 19 = .ok (.aload_n 0, 1) := by decide +kernel
theorem d_Stream_removeFirst_20 : decode prog_9_method_9_code 20 = .ok (.aload_n 0, 1) := by decide +kernel
theorem d_Stream_removeFirst_21 : decode prog_9_method_9_code 21 = .ok (.iconst 1, 1) := by decide +kernel
theorem d_Stream_removeFirst_22 : decode prog_9_method_9_code 22 = .ok (.invokevirtual 29, 3) := by decide +kernel
theorem d_Stream_removeFirst_25 : decode prog_9_method_9_code 25 = .ok (.putfield 15, 3) := by decide +kernel
theorem d_Stream_removeFirst_28 : decode prog_9_method_9_code 28 = .ok (.aload_n 0, 1) := by decide +kernel
theorem d_Stream_removeFirst_29 : decode prog_9_method_9_code 29 = .ok (.dup, 1) := by decide +kernel
theorem d_Stream_removeFirst_30 : decode prog_9_method_9_code 30 = .ok (.getfield 19, 3) := by decide +kernel
theorem d_Stream_removeFirst_33 : decode prog_9_method_9_code 33 = .ok (.iconst 1, 1) := by decide +kernel
theorem d_Stream_removeFirst_34 : decode prog_9_method_9_code 34 = .ok (.isub, 1) := by decide +kernel
theorem d_Stream_removeFirst_35 : decode prog_9_method_9_code 35 = .ok (.putfield 19, 3) := by decide +kernel
theorem d_Stream_removeFirst_38 : decode prog_9_method_9_code 38 = .ok (.iload_n 1, 1) := by decide +kernel
theorem d_Stream_removeFirst_39 : decode prog_9_method_9_code 39 = .ok (.ireturn, 1) := by decide +kernel
theorem d_Stream_removeNumber_0 : decode prog_9_method_11_code 0 = .ok (.iload_n 1, 1) := by decide +kernel
theorem d_Stream_removeNumber_1 : decode prog_9_method_11_code 1 = .ok (.aload_n 0, 1) := by decide +kernel
theorem d_Stream_removeNumber_2 : decode prog_9_method_11_code 2 = .ok (.getfield 19, 3) := by decide +kernel
theorem d_Stream_removeNumber_5 : decode prog_9_method_11_code 5 = .ok (.if_icmp .le 6, 3) := by decide +kernel
theorem d_Stream_removeNumber_8 : decode prog_9_method_11_code 8 = .ok (.bipush (-104), 2) := by decide +kernel
theorem d_Stream_removeNumber_10 : decode prog_9_method_11_code 10 = .ok (.ireturn, 1) := by decide +kernel
theorem d_Stream_removeNumber_11 : decode prog_9_method_11_code 11 = .ok (.iconst 0, 1) := by decide +kernel
theorem d_Stream_removeNumber_12 : decode prog_9_method_11_code 12 = .ok (.istore_n 2, 1) := by decide +kernel
theorem d_Stream_removeNumber_13 : decode prog_9_method_11_code 13 = .ok (.iconst 0, 1) := by decide +kernel
theorem d_Stream_removeNumber_14 : decode prog_9_method_11_code 14 = .ok (.istore_n 3, 1) := by decide +kernel
theorem d_Stream_removeNumber_15 : decode prog_9_method_11_code 15 = .ok (.iload_n 3, 1) := by decide +kernel
theorem d_Stream_removeNumber_16 : decode prog_9_method_11_code 16 = .ok (.iload_n 1, 1) := by decide +kernel
theorem d_Stream_removeNumber_17 : decode prog_9_method_11_code 17 = .ok (.if_icmp .ge 18, 3) := by decide +kernel
theorem d_Stream_removeNumber_20 : decode prog_9_method_11_code 20 = .ok (.iload_n 2, 1) := by decide +kernel
theorem d_Stream_removeNumber_21 : decode prog_9_method_11_code 21 = .ok (.iconst 1, 1) := by decide +kernel
theorem d_Stream_removeNumber_22 : decode prog_9_method_11_code 22 = .ok (.ishl, 1) := by decide +kernel
theorem d_Stream_removeNumber_23 : decode prog_9_method_11_code 23 = .ok (.aload_n 0, 1) := by decide +kernel
theorem d_Stream_removeNumber_24 : decode prog_9_method_11_code 24 = .ok (.invokevirtual 43, 3) := by decide +kernel
theorem d_Stream_removeNumber_27 : decode prog_9_method_11_code 27 = .ok (.ior, 1) := by decide +kernel
theorem d_Stream_removeNumber_28 : decode prog_9_method_11_code 28 = .ok (.istore_n 2, 1) := by decide +kernel
theorem d_Stream_removeNumber_29 : decode prog_9_method_11_code 29 = .ok (.iinc 3 1, 3) := by decide +kernel
theorem d_Stream_removeNumber_32 : decode prog_9_method_11_code 32 = .ok (.goto (-17), 3) := by decide +kernel
theorem d_Stream_removeNumber_35 : decode prog_9_method_11_code 35 = .ok (.iload_n 2, 1) := by decide +kernel
theorem d_Stream_removeNumber_36 : decode prog_9_method_11_code 36 = .ok (.ireturn, 1) := by decide +kernel
theorem d_PC_takeNumber_0 : decode prog_1_method_14_code 0 = .ok (.iload_n 1, 1) := by decide +kernel
theorem d_PC_takeNumber_1 : decode prog_1_method_14_code 1 = .ok (.iconst 1, 1) := by decide +kernel
theorem d_PC_takeNumber_2 : decode prog_1_method_14_code 2 = .ok (.bipush 30, 2) := by decide +kernel
theorem d_PC_takeNumber_4 : decode prog_1_method_14_code 4 = .ok (.invokestatic 76, 3) := by decide +kernel
theorem d_PC_takeNumber_7 : decode prog_1_method_14_code 7 = .ok (.ifCond .eq 6, 3) := by decide +kernel
theorem d_PC_takeNumber_10 : decode prog_1_method_14_code 10 = .ok (.bipush (-102), 2) := by decide +kernel
theorem d_PC_takeNumber_12 : decode prog_1_method_14_code 12 = .ok (.ireturn, 1) := by decide +kernel
theorem d_PC_takeNumber_13 : decode prog_1_method_14_code 13 = .ok (.aload_n 0, 1) := by decide +kernel
theorem d_PC_takeNumber_14 : decode prog_1_method_14_code 14 = .ok (.getfield 26, 3) := by decide +kernel
theorem d_PC_takeNumber_17 : decode prog_1_method_14_code 17 = .ok (.iload_n 1, 1) := by decide +kernel
theorem d_PC_takeNumber_18 : decode prog_1_method_14_code 18 = .ok (.invokevirtual 158, 3) := by decide +kernel
theorem d_PC_takeNumber_21 : decode prog_1_method_14_code 21 = .ok (.ireturn, 1) := by decide +kernel
theorem d_PC_put_0 : decode prog_1_method_15_code 0 = .ok (.aload_n 0, 1) := by decide +kernel
theorem d_PC_put_1 : decode prog_1_method_15_code 1 = .ok (.iload_n 1, 1) := by decide +kernel
theorem d_PC_put_2 : decode prog_1_method_15_code 2 = .ok (.iload_n 2, 1) := by decide +kernel
theorem d_PC_put_3 : decode prog_1_method_15_code 3 = .ok (.invokevirtual 87, 3) := by decide +kernel
theorem d_PC_put_6 : decode prog_1_method_15_code 6 = .ok (.astore 4, 2) := by decide +kernel
theorem d_PC_put_8 : decode prog_1_method_15_code 8 = .ok (.aload 4, 2) := by decide +kernel
theorem d_PC_put_10 : decode prog_1_method_15_code 10 = .ok (.ifnonnull 6, 3) := by decide +kernel
theorem d_PC_put_13 : decode prog_1_method_15_code 13 = .ok (.bipush (-101), 2) := by decide +kernel
theorem d_PC_put_15 : decode prog_1_method_15_code 15 = .ok (.ireturn, 1) := by decide +kernel
theorem d_PC_put_16 : decode prog_1_method_15_code 16 = .ok (.aload 4, 2) := by decide +kernel
theorem d_PC_put_18 : decode prog_1_method_15_code 18 = .ok (.iload_n 2, 1) := by decide +kernel
theorem d_PC_put_19 : decode prog_1_method_15_code 19 = .ok (.invokevirtual 116, 3) := by decide +kernel
theorem d_PC_put_22 : decode prog_1_method_15_code 22 = .ok (.ifCond .ne 6, 3) := by decide +kernel
theorem d_PC_put_25 : decode prog_1_method_15_code 25 = .ok (.bipush (-103), 2) := by decide +kernel
theorem d_PC_put_27 : decode prog_1_method_15_code 27 = .ok (.ireturn, 1) := by decide +kernel
theorem d_PC_put_28 : decode prog_1_method_15_code 28 = .ok (.aload_n 0, 1) := by decide +kernel
theorem d_PC_put_29 : decode prog_1_method_15_code 29 = .ok (.iload_n 3, 1) := by decide +kernel
theorem d_PC_put_30 : decode prog_1_method_15_code 30 = .ok (.ifCond .eq 12, 3) := by decide +kernel
theorem d_PC_put_33 : decode prog_1_method_15_code 33 = .ok (.aload 4, 2) := by decide +kernel
theorem d_PC_put_35 : decode prog_1_method_15_code 35 = .ok (.iload_n 2, 1) := by decide +kernel
theorem d_PC_put_36 : decode prog_1_method_15_code 36 = .ok (.invokevirtual 120, 3) := by decide +kernel
theorem d_PC_put_39 : decode prog_1_method_15_code 39 = .ok (.goto 10, 3) := by decide +kernel
theorem d_PC_put_42 : decode prog_1_method_15_code 42 = .ok (.aload 4, 2) := by decide +kernel
theorem d_PC_put_44 : decode prog_1_method_15_code 44 = .ok (.getfield 124, 3) := by decide +kernel
theorem d_PC_put_47 : decode prog_1_method_15_code 47 = .ok (.iload_n 2, 1) := by decide +kernel
theorem d_PC_put_48 : decode prog_1_method_15_code 48 = .ok (.iaload, 1) := by decide +kernel
theorem d_PC_put_49 : decode prog_1_method_15_code 49 = .ok (.aload 4, 2) := by decide +kernel
theorem d_PC_put_51 : decode prog_1_method_15_code 51 = .ok (.getfield 91, 3) := by decide +kernel
theorem d_PC_put_54 : decode prog_1_method_15_code 54 = .ok (.iload_n 2, 1) := by decide +kernel
theorem d_PC_put_55 : decode prog_1_method_15_code 55 = .ok (.iaload, 1) := by decide +kernel
theorem d_PC_put_56 : decode prog_1_method_15_code 56 = .ok (.invokevirtual 154, 3) := by decide +kernel
theorem d_PC_put_59 : decode prog_1_method_15_code 59 = .ok (.ireturn, 1) := by decide +kernel
theorem d_Code_canBeRead_0 : decode prog_3_method_8_code 0 = .ok (.aload_n 0, 1) := by decide +kernel
theorem d_Code_canBeRead_1 : decode prog_3_method_8_code 1 = .ok (.getfield 40, 3) := by decide +kernel
theorem d_Code_canBeRead_4 : decode prog_3_method_8_code 4 = .ok (.iconst 4, 1) := by decide +kernel
theorem d_Code_canBeRead_5 : decode prog_3_method_8_code 5 = .ok (.if_icmp .eq 14, 3) := by decide +kernel
theorem d_Code_canBeRead_8 : decode prog_3_method_8_code 8 = .ok (.aload_n 0, 1) := by decide +kernel
theorem d_Code_canBeRead_9 : decode prog_3_method_8_code 9 = .ok (.getfield 40, 3) := by decide +kernel
theorem d_Code_canBeRead_12 : decode prog_3_method_8_code 12 = .ok (.ifCond .eq 7, 3) := by decide +kernel
theorem d_Code_canBeRead_15 : decode prog_3_method_8_code 15 = .ok (.iconst 1, 1) := by decide +kernel
theorem d_Code_canBeRead_16 : decode prog_3_method_8_code 16 = .ok (.goto 4, 3) := by decide +kernel
theorem d_Code_canBeRead_19 : decode prog_3_method_8_code 19 = .ok (.iconst 0, 1) := by decide +kernel
theorem d_Code_canBeRead_20 : decode prog_3_method_8_code 20 = .ok (.ireturn, 1) := by decide +kernel
theorem d_Stream_removeLast_0 : decode prog_9_method_10_code 0 = .ok (.aload_n 0, 1) := by decide +kernel
theorem d_Stream_removeLast_1 : decode prog_9_method_10_code 1 = .ok (.getfield 19, 3) := by decide +kernel
theorem d_Stream_removeLast_4 : decode prog_9_method_10_code 4 = .ok (.ifCond .ne 6, 3) := by decide +kernel
theorem d_Stream_removeLast_7 : decode prog_9_method_10_code 7 = .ok (.bipush (-104), 2) := by decide +kernel
theorem d_Stream_removeLast_9 : decode prog_9_method_10_code 9 = .ok (.ireturn, 1) := by decide +kernel
theorem d_Stream_removeLast_10 : decode prog_9_method_10_code 10 = .ok (.aload_n 0, 1) := by decide +kernel
theorem d_Stream_removeLast_11 : decode prog_9_method_10_code 11 = .ok (.aload_n 0, 1) := by decide +kernel
theorem d_Stream_removeLast_12 : decode prog_9_method_10_code 12 = .ok (.getfield 19, 3) := by decide +kernel
theorem d_Stream_removeLast_15 : decode prog_9_method_10_code 15 = .ok (.iconst 1, 1) := by decide +kernel
theorem d_Stream_removeLast_16 : decode prog_9_method_10_code 16 = .ok (.isub, 1) := by decide +kernel
theorem d_Stream_removeLast_17 : decode prog_9_method_10_code 17 = .ok (.invokevirtual 40, 3) := by decide +kernel
theorem d_Stream_removeLast_20 : decode prog_9_method_10_code 20 = .ok (.istore_n 1, 1) := by decide +kernel
theorem d_Stream_removeLast_21 : decode prog_9_method_10_code 21 = .ok (.aload_n 0, 1) := by decide +kernel
theorem d_Stream_removeLast_22 : decode prog_9_method_10_code 22 = .ok (.dup, 1) := by decide +kernel
theorem d_Stream_removeLast_23 : decode prog_9_method_10_code 23 = .ok (.getfield 19, 3) := by decide +kernel
theorem d_Stream_removeLast_26 : decode prog_9_method_10_code 26 = .ok (.iconst 1, 1) := by decide +kernel
theorem d_Stream_removeLast_27 : decode prog_9_method_10_code 27 = .ok (.isub, 1) := by decide +kernel
theorem d_Stream_removeLast_28 : decode prog_9_method_10_code 28 = .ok (.putfield 19, 3) := by decide +kernel
theorem d_Stream_removeLast_31 : decode prog_9_method_10_code 31 = .ok (.iload_n 1, 1) := by decide +kernel
theorem d_Stream_removeLast_32 : decode prog_9_method_10_code 32 = .ok (.ireturn, 1) := by decide +kernel
theorem d_Code_removeSymbol_0 : decode prog_3_method_10_code 0 = .ok (.iconst 0, 1) := by decide +kernel
theorem d_Code_removeSymbol_1 : decode prog_3_method_10_code 1 = .ok (.istore_n 3, 1) := by decide +kernel
theorem d_Code_removeSymbol_2 : decode prog_3_method_10_code 2 = .ok (.iconst 1, 1) := by decide +kernel
theorem d_Code_removeSymbol_3 : decode prog_3_method_10_code 3 = .ok (.istore 4, 2) := by decide +kernel
theorem d_Code_removeSymbol_5 : decode prog_3_method_10_code 5 = .ok (.iload 4, 2) := by decide +kernel
theorem d_Code_removeSymbol_7 : decode prog_3_method_10_code 7 = .ok (.bipush 15, 2) := by decide +kernel
theorem d_Code_removeSymbol_9 : decode prog_3_method_10_code 9 = .ok (.if_icmp .gt 102, 3) := by decide +kernel
theorem d_Code_removeSymbol_12 : decode prog_3_method_10_code 12 = .ok (.iload_n 2, 1) := by decide +kernel
theorem d_Code_removeSymbol_13 : decode prog_3_method_10_code 13 = .ok (.ifCond .eq 10, 3) := by decide +kernel
theorem d_Code_removeSymbol_16 : decode prog_3_method_10_code 16 = .ok (.aload_n 1, 1) := by decide +kernel
theorem d_Code_removeSymbol_17 : decode prog_3_method_10_code 17 = .ok (.invokevirtual 66, 3) := by decide +kernel
theorem d_Code_removeSymbol_20 : decode prog_3_method_10_code 20 = .ok (.goto 7, 3) := by decide +kernel
theorem d_Code_removeSymbol_23 : decode prog_3_method_10_code 23 = .ok (.aload_n 1, 1) := by decide +kernel
theorem d_Code_removeSymbol_24 : decode prog_3_method_10_code 24 = .ok (.invokevirtual 71, 3) := by decide +kernel
theorem d_Code_removeSymbol_27 : decode prog_3_method_10_code 27 = .ok (.istore 5, 2) := by decide +kernel
theorem d_Code_removeSymbol_29 : decode prog_3_method_10_code 29 = .ok (.iload 5, 2) := by decide +kernel
theorem d_Code_removeSymbol_31 : decode prog_3_method_10_code 31 = .ok (.ifCond .ge 6, 3) := by decide +kernel
theorem d_Code_removeSymbol_34 : decode prog_3_method_10_code 34 = .ok (.bipush (-104), 2) := by decide +kernel
theorem d_Code_removeSymbol_36 : decode prog_3_method_10_code 36 = .ok (.ireturn, 1) := by decide +kernel
theorem d_Code_removeSymbol_37 : decode prog_3_method_10_code 37 = .ok (.iload_n 3, 1) := by decide +kernel
theorem d_Code_removeSymbol_38 : decode prog_3_method_10_code 38 = .ok (.iconst 1, 1) := by decide +kernel
theorem d_Code_removeSymbol_39 : decode prog_3_method_10_code 39 = .ok (.ishl, 1) := by decide +kernel
theorem d_Code_removeSymbol_40 : decode prog_3_method_10_code 40 = .ok (.iload 5, 2) := by decide +kernel
theorem d_Code_removeSymbol_42 : decode prog_3_method_10_code 42 = .ok (.ior, 1) := by decide +kernel
theorem d_Code_removeSymbol_43 : decode prog_3_method_10_code 43 = .ok (.istore_n 3, 1) := by decide +kernel
theorem d_Code_removeSymbol_44 : decode prog_3_method_10_code 44 = .ok (.iload_n 3, 1) := by decide +kernel
theorem d_Code_removeSymbol_45 : decode prog_3_method_10_code 45 = .ok (.aload_n 0, 1) := by decide +kernel
theorem d_Code_removeSymbol_46 : decode prog_3_method_10_code 46 = .ok (.getfield 24, 3) := by decide +kernel
theorem d_Code_removeSymbol_49 : decode prog_3_method_10_code 49 = .ok (.iload 4, 2) := by decide +kernel
theorem d_Code_removeSymbol_51 : decode prog_3_method_10_code 51 = .ok (.iaload, 1) := by decide +kernel
theorem d_Code_removeSymbol_52 : decode prog_3_method_10_code 52 = .ok (.isub, 1) := by decide +kernel
theorem d_Code_removeSymbol_53 : decode prog_3_method_10_code 53 = .ok (.istore 6, 2) := by decide +kernel
theorem d_Code_removeSymbol_55 : decode prog_3_method_10_code 55 = .ok (.iload 6, 2) := by decide +kernel
theorem d_Code_removeSymbol_57 : decode prog_3_method_10_code 57 = .ok (.ifCond .lt 31, 3) := by decide +kernel
theorem d_Code_removeSymbol_60 : decode prog_3_method_10_code 60 = .ok (.iload 6, 2) := by decide +kernel
theorem d_Code_removeSymbol_62 : decode prog_3_method_10_code 62 = .ok (.aload_n 0, 1) := by decide +kernel
theorem d_Code_removeSymbol_63 : decode prog_3_method_10_code 63 = .ok (.getfield 21, 3) := by decide +kernel
theorem d_Code_removeSymbol_66 : decode prog_3_method_10_code 66 = .ok (.iload 4, 2) := by decide +kernel
theorem d_Code_removeSymbol_68 : decode prog_3_method_10_code 68 = .ok (.iaload, 1) := by decide +kernel
theorem d_Code_removeSymbol_69 : decode prog_3_method_10_code 69 = .ok (.if_icmp .ge 19, 3) := by decide +kernel
theorem d_Code_removeSymbol_72 : decode prog_3_method_10_code 72 = .ok (.aload_n 0, 1) := by decide +kernel
theorem d_Code_removeSymbol_73 : decode prog_3_method_10_code 73 = .ok (.getfield 18, 3) := by decide +kernel
theorem d_Code_removeSymbol_76 : decode prog_3_method_10_code 76 = .ok (.aload_n 0, 1) := by decide +kernel
theorem d_Code_removeSymbol_77 : decode prog_3_method_10_code 77 = .ok (.getfield 27, 3) := by decide +kernel
theorem d_Code_removeSymbol_80 : decode prog_3_method_10_code 80 = .ok (.iload 4, 2) := by decide +kernel
theorem d_Code_removeSymbol_82 : decode prog_3_method_10_code 82 = .ok (.iaload, 1) := by decide +kernel
theorem d_Code_removeSymbol_83 : decode prog_3_method_10_code 83 = .ok (.iload 6, 2) := by decide +kernel
theorem d_Code_removeSymbol_85 : decode prog_3_method_10_code 85 = .ok (.iadd, 1) := by decide +kernel
theorem d_Code_removeSymbol_86 : decode prog_3_method_10_code 86 = .ok (.iaload, 1) := by decide +kernel
theorem d_Code_removeSymbol_87 : decode prog_3_method_10_code 87 = .ok (.ireturn, 1) := by decide +kernel
theorem d_Code_removeSymbol_88 : decode prog_3_method_10_code 88 = .ok (.iload_n 3, 1) := by decide +kernel
theorem d_Code_removeSymbol_89 : decode prog_3_method_10_code 89 = .ok (.bipush 15, 2) := by decide +kernel
theorem d_Code_removeSymbol_91 : decode prog_3_method_10_code 91 = .ok (.iload 4, 2) := by decide +kernel
theorem d_Code_removeSymbol_93 : decode prog_3_method_10_code 93 = .ok (.isub, 1) := by decide +kernel
theorem d_Code_removeSymbol_94 : decode prog_3_method_10_code 94 = .ok (.ishl, 1) := by decide +kernel
theorem d_Code_removeSymbol_95 : decode prog_3_method_10_code 95 = .ok (.aload_n 0, 1) := by decide +kernel
theorem d_Code_removeSymbol_96 : decode prog_3_method_10_code 96 = .ok (.getfield 30, 3) := by decide +kernel
theorem d_Code_removeSymbol_99 : decode prog_3_method_10_code 99 = .ok (.if_icmp .lt 6, 3) := by decide +kernel
theorem d_Code_removeSymbol_102 : decode prog_3_method_10_code 102 = .ok (.bipush (-105), 2) := by decide +kernel
theorem d_Code_removeSymbol_104 : decode prog_3_method_10_code 104 = .ok (.ireturn, 1) := by decide +kernel
theorem d_Code_removeSymbol_105 : decode prog_3_method_10_code 105 = .ok (.iinc 4 1, 3) := by decide +kernel
theorem d_Code_removeSymbol_108 : decode prog_3_method_10_code 108 = .ok (.goto (-103), 3) := by decide +kernel
theorem d_Code_removeSymbol_111 : decode prog_3_method_10_code 111 = .ok (.bipush (-105), 2) := by decide +kernel
theorem d_Code_removeSymbol_113 : decode prog_3_method_10_code 113 = .ok (.ireturn, 1) := by decide +kernel
theorem d_PC_take_0 : decode prog_1_method_16_code 0 = .ok (.aload_n 0, 1) := by decide +kernel
theorem d_PC_take_1 : decode prog_1_method_16_code 1 = .ok (.iload_n 1, 1) := by decide +kernel
theorem d_PC_take_2 : decode prog_1_method_16_code 2 = .ok (.invokevirtual 97, 3) := by decide +kernel
theorem d_PC_take_5 : decode prog_1_method_16_code 5 = .ok (.astore_n 3, 1) := by decide +kernel
theorem d_PC_take_6 : decode prog_1_method_16_code 6 = .ok (.aload_n 3, 1) := by decide +kernel
theorem d_PC_take_7 : decode prog_1_method_16_code 7 = .ok (.ifnonnull 6, 3) := by decide +kernel
theorem d_PC_take_10 : decode prog_1_method_16_code 10 = .ok (.bipush (-101), 2) := by decide +kernel
theorem d_PC_take_12 : decode prog_1_method_16_code 12 = .ok (.ireturn, 1) := by decide +kernel
theorem d_PC_take_13 : decode prog_1_method_16_code 13 = .ok (.aload_n 3, 1) := by decide +kernel
theorem d_PC_take_14 : decode prog_1_method_16_code 14 = .ok (.invokevirtual 161, 3) := by decide +kernel
theorem d_PC_take_17 : decode prog_1_method_16_code 17 = .ok (.ifCond .ne 6, 3) := by decide +kernel
theorem d_PC_take_20 : decode prog_1_method_16_code 20 = .ok (.bipush (-103), 2) := by decide +kernel
theorem d_PC_take_22 : decode prog_1_method_16_code 22 = .ok (.ireturn, 1) := by decide +kernel
theorem d_PC_take_23 : decode prog_1_method_16_code 23 = .ok (.aload_n 3, 1) := by decide +kernel
theorem d_PC_take_24 : decode prog_1_method_16_code 24 = .ok (.aload_n 0, 1) := by decide +kernel
theorem d_PC_take_25 : decode prog_1_method_16_code 25 = .ok (.getfield 26, 3) := by decide +kernel
theorem d_PC_take_28 : decode prog_1_method_16_code 28 = .ok (.iload_n 2, 1) := by decide +kernel
theorem d_PC_take_29 : decode prog_1_method_16_code 29 = .ok (.invokevirtual 165, 3) := by decide +kernel
theorem d_PC_take_32 : decode prog_1_method_16_code 32 = .ok (.ireturn, 1) := by decide +kernel
theorem d_Stream_begin_0 : decode prog_9_method_5_code 0 = .ok (.aload_n 0, 1) := by decide +kernel
theorem d_Stream_begin_1 : decode prog_9_method_5_code 1 = .ok (.aload_n 0, 1) := by decide +kernel
theorem d_Stream_begin_2 : decode prog_9_method_5_code 2 = .ok (.getfield 19, 3) := by decide +kernel
theorem d_Stream_begin_5 : decode prog_9_method_5_code 5 = .ok (.putfield 22, 3) := by decide +kernel
theorem d_Stream_begin_8 : decode prog_9_method_5_code 8 = .ok (.aload_n 0, 1) := by decide +kernel
theorem d_Stream_begin_9 : decode prog_9_method_5_code 9 = .ok (.iconst 0, 1) := by decide +kernel
theorem d_Stream_begin_10 : decode prog_9_method_5_code 10 = .ok (.putfield 25, 3) := by decide +kernel
theorem d_Stream_begin_13 : decode prog_9_method_5_code 13 = .ok (.return_, 1) := by decide +kernel
theorem d_Manners_appendPlain_0 : decode prog_5_method_4_code 0 = .ok (.iconst 0, 1) := by decide +kernel
theorem d_Manners_appendPlain_1 : decode prog_5_method_4_code 1 = .ok (.istore_n 2, 1) := by decide +kernel
theorem d_Manners_appendPlain_2 : decode prog_5_method_4_code 2 = .ok (.iload_n 2, 1) := by decide +kernel
theorem d_Manners_appendPlain_3 : decode prog_5_method_4_code 3 = .ok (.aload_n 1, 1) := by decide +kernel
theorem d_Manners_appendPlain_4 : decode prog_5_method_4_code 4 = .ok (.getfield 40, 3) := by decide +kernel
theorem d_Manners_appendPlain_7 : decode prog_5_method_4_code 7 = .ok (.if_icmp .ge 23, 3) := by decide +kernel
theorem d_Manners_appendPlain_10 : decode prog_5_method_4_code 10 = .ok (.aload_n 0, 1) := by decide +kernel
theorem d_Manners_appendPlain_11 : decode prog_5_method_4_code 11 = .ok (.getfield 15, 3) := by decide +kernel
theorem d_Manners_appendPlain_14 : decode prog_5_method_4_code 14 = .ok (.aload_n 1, 1) := by decide +kernel
theorem d_Manners_appendPlain_15 : decode prog_5_method_4_code 15 = .ok (.getfield 35, 3) := by decide +kernel
theorem d_Manners_appendPlain_18 : decode prog_5_method_4_code 18 = .ok (.iload_n 2, 1) := by decide +kernel
theorem d_Manners_appendPlain_19 : decode prog_5_method_4_code 19 = .ok (.iaload, 1) := by decide +kernel
theorem d_Manners_appendPlain_20 : decode prog_5_method_4_code 20 = .ok (.iconst 4, 1) := by decide +kernel
theorem d_Manners_appendPlain_21 : decode prog_5_method_4_code 21 = .ok (.invokevirtual 59, 3) := by decide +kernel
theorem d_Manners_appendPlain_24 : decode prog_5_method_4_code 24 = .ok (.iinc 2 1, 3) := by decide +kernel
theorem d_Manners_appendPlain_27 : decode prog_5_method_4_code 27 = .ok (.goto (-25), 3) := by decide +kernel
theorem d_Manners_appendPlain_30 : decode prog_5_method_4_code 30 = .ok (.return_, 1) := by decide +kernel
noncomputable def lb_Stream_appendNumber_4 (a1 : Int32) (σ : St) (v3 : Int32) : Option ((St × Int32) ⊕ ((St × Int32))) :=
  if v3 < 0 then
    some (.inr (σ, v3))
  else
  b1 (f_Stream_append σ (((a1.toUInt32 >>> (v3.toUInt32 &&& Int32.toUInt32 31)).toInt32) &&& 1)) fun σ2 =>
  nm (v3 + (-1)) fun x3 =>
  some (.inl (σ2, x3))
noncomputable def f_Stream_appendNumber (σ : St) (a1 : Int32) (a2 : Int32) : Option (St) :=
  nm (a2 - 1) fun x1 =>
  b2 (lpE (fun q => lb_Stream_appendNumber_4 a1 q.1 q.2) (σ, x1)) fun σ4 x5 =>
  some σ4
noncomputable def f_PC_putBits (σ : St) (a1 : Int32) (a2 : Int32) : Option (St × Int32) :=
  if a2 ≤ (20000 - (σ.1 3 0 2)) then
    b1 (f_Stream_appendNumber σ a1 a2) fun σ1 =>
    some (σ1, σ1.1 3 0 2)
  else
  some (σ, (-106))
noncomputable def f_PC_putNumber (σ : St) (a1 : Int32) (a2 : Int32) : Option (St × Int32) :=
  b2 (f_PC_isOutside σ a2 1 30) fun σ1 x2 =>
  if x2 = 0 then
    b2 (f_PC_putBits σ1 a1 a2) fun σ3 x4 =>
    some (σ3, x4)
  else
  some (σ1, (-102))
noncomputable def f_Stream_removeFirst (σ : St) : Option (St × Int32) :=
  if (σ.1 3 0 2) = 0 then
    some (σ, (-104))
  else
  b2 (f_Stream_bitOf σ (σ.1 3 0 1)) fun σ1 x2 =>
  b2 (f_Stream_placeOf σ1 1) fun σ3 x4 =>
  nm (sI σ3 3 0 1 x4) fun σ5 =>
  nm (sI σ5 3 0 2 ((σ5.1 3 0 2) - 1)) fun σ6 =>
  some (σ6, x2)
noncomputable def lb_Stream_removeNumber_15 (a1 : Int32) (σ : St) (v2 : Int32) (v3 : Int32) : Option ((St × Int32 × Int32) ⊕ ((St × Int32 × Int32))) :=
  if a1 ≤ v3 then
    some (.inr (σ, v2, v3))
  else
  b2 (f_Stream_removeFirst σ) fun σ1 x2 =>
  nm ((v2 <<< (1 &&& 31)) ||| x2) fun x3 =>
  nm (v3 + 1) fun x4 =>
  some (.inl (σ1, x3, x4))
noncomputable def f_Stream_removeNumber (σ : St) (a1 : Int32) : Option (St × Int32) :=
  if a1 ≤ (σ.1 3 0 2) then
    b3 (lpE (fun q => lb_Stream_removeNumber_15 a1 q.1 q.2.1 q.2.2) (σ, 0, 0)) fun σ5 x6 x7 =>
    some (σ5, x6)
  else
  some (σ, (-104))
noncomputable def f_PC_takeNumber (σ : St) (a1 : Int32) : Option (St × Int32) :=
  b2 (f_PC_isOutside σ a1 1 30) fun σ1 x2 =>
  if x2 = 0 then
    b2 (f_Stream_removeNumber σ1 a1) fun σ3 x4 =>
    some (σ3, x4)
  else
  some (σ1, (-102))
noncomputable def f_PC_put (σ : St) (a1 : Int32) (a2 : Int32) (a3 : Int32) : Option (St × Int32) :=
  b2 (f_PC_codeWith σ a1 a2) fun σ1 o2 =>
  on (o2) (
    some (σ1, (-101))
    ) fun j3 =>
  b2 (f_Code_hasWord σ1 j3 a2) fun σ4 x5 =>
  if x5 = 0 then
    some (σ4, (-103))
  else
  if a3 = 0 then
    gd (ib a2 64) <|
    gd (ib a2 64) <|
    b2 (f_PC_putBits σ4 (σ4.1 43 j3 a2.toNatClampNeg) (σ4.1 42 j3 a2.toNatClampNeg)) fun σ6 x7 =>
    some (σ6, x7)
  else
  b2 (f_Code_turnedWord σ4 j3 a2) fun σ8 x9 =>
  gd (ib a2 64) <|
  b2 (f_PC_putBits σ8 x9 (σ8.1 42 j3 a2.toNatClampNeg)) fun σ10 x11 =>
  some (σ10, x11)
noncomputable def f_Code_canBeRead (σ : St) (iT : Nat) : Option (St × Int32) :=
  if (σ.1 41 iT 10) = 4 then
    some (σ, 0)
  else
  if (σ.1 41 iT 10) = 0 then
    some (σ, 0)
  else
  some (σ, 1)
noncomputable def f_Stream_removeLast (σ : St) : Option (St × Int32) :=
  if (σ.1 3 0 2) = 0 then
    some (σ, (-104))
  else
  b2 (f_Stream_at σ ((σ.1 3 0 2) - 1)) fun σ1 x2 =>
  nm (sI σ1 3 0 2 ((σ1.1 3 0 2) - 1)) fun σ3 =>
  some (σ3, x2)
noncomputable def jn_Code_removeSymbol_27 (iT : Nat) (a2 : Int32) (σ : St) (p3 : Int32) (p4 : Int32) (k0 : Int32) : Option ((St × Int32 × Int32) ⊕ ((St × Int32 × Int32) ⊕ (St × Int32))) :=
  if 0 ≤ k0 then
    nm ((p3 <<< (1 &&& 31)) ||| k0) fun x3 =>
    gd (ib p4 16) <|
    nm (x3 - (σ.1 46 iT p4.toNatClampNeg)) fun x4 =>
    if x4 < 0 then
      if (x3 <<< ((15 - p4) &&& 31)) < (σ.1 41 iT 7) then
        nm (p4 + 1) fun x5 =>
        some (.inl (σ, x3, x5))
      else
      some (.inr (.inr (σ, (-105))))
    else
    gd (ib p4 16) <|
    if (σ.1 45 iT p4.toNatClampNeg) ≤ x4 then
      if (x3 <<< ((15 - p4) &&& 31)) < (σ.1 41 iT 7) then
        nm (p4 + 1) fun x6 =>
        some (.inl (σ, x3, x6))
      else
      some (.inr (.inr (σ, (-105))))
    else
    gd (ib p4 16) <|
    gd (ib ((σ.1 47 iT p4.toNatClampNeg) + x4) 64) <|
    some (.inr (.inr (σ, σ.1 44 iT ((σ.1 47 iT p4.toNatClampNeg) + x4).toNatClampNeg)))
  else
  some (.inr (.inr (σ, (-104))))
noncomputable def lb_Code_removeSymbol_5 (iT : Nat) (a2 : Int32) (σ : St) (v3 : Int32) (v4 : Int32) : Option ((St × Int32 × Int32) ⊕ ((St × Int32 × Int32) ⊕ (St × Int32))) :=
  if 15 < v4 then
    some (.inr (.inl (σ, v3, v4)))
  else
  if a2 = 0 then
    b2 (f_Stream_removeFirst σ) fun σ1 x2 =>
    jn_Code_removeSymbol_27 iT a2 σ1 v3 v4 x2
  else
  b2 (f_Stream_removeLast σ) fun σ7 x8 =>
  jn_Code_removeSymbol_27 iT a2 σ7 v3 v4 x8
noncomputable def f_Code_removeSymbol (σ : St) (iT : Nat) (a2 : Int32) : Option (St × Int32) :=
  bs3 (lpE (fun q => lb_Code_removeSymbol_5 iT a2 q.1 q.2.1 q.2.2) (σ, 0, 1)) (fun z => some z) fun σ9 x10 x11 =>
  some (σ9, (-105))
noncomputable def f_PC_take (σ : St) (a1 : Int32) (a2 : Int32) : Option (St × Int32) :=
  b2 (f_PC_codeAt σ a1) fun σ1 o2 =>
  on (o2) (
    some (σ1, (-101))
    ) fun j3 =>
  b2 (f_Code_canBeRead σ1 j3) fun σ4 x5 =>
  if x5 = 0 then
    some (σ4, (-103))
  else
  b2 (f_Code_removeSymbol σ4 j3 a2) fun σ6 x7 =>
  some (σ6, x7)
noncomputable def f_Stream_begin (σ : St) : Option (St) :=
  nm (sI σ 3 0 3 (σ.1 3 0 2)) fun σ1 =>
  nm (sI σ1 3 0 4 0) fun σ2 =>
  some σ2
noncomputable def lb_Manners_appendPlain_2 (ia1 : Nat) (σ : St) (v2 : Int32) : Option ((St × Int32) ⊕ ((St × Int32))) :=
  if (σ.1 41 ia1 0) ≤ v2 then
    some (.inr (σ, v2))
  else
  gd (ib v2 64) <|
  b1 (f_Stream_appendNumber σ (σ.1 42 ia1 v2.toNatClampNeg) 4) fun σ1 =>
  nm (v2 + 1) fun x2 =>
  some (.inl (σ1, x2))
noncomputable def f_Manners_appendPlain (σ : St) (ia1 : Nat) : Option (St) :=
  b2 (lpE (fun q => lb_Manners_appendPlain_2 ia1 q.1 q.2) (σ, 0)) fun σ3 x4 =>
  some σ3
set_option maxHeartbeats 4000000 in
set_option maxRecDepth 100000 in
theorem c_Stream_appendNumber (l : Launch) (D : va_G) (aC : Nat → ClassId) (A : Nat → Prop) (ad : Nat → Nat → Nat) (n : Nat) (σ : St) (a1 : Int32) (a2 : Int32) (o : St) (h : f_Stream_appendNumber σ a1 a2 = some o) : Met l y_Stream_appendNumber w_Stream_appendNumber rm_Stream_appendNumber (va_Pc [.ref (ad 3 0), .int a1, .int a2] (Pre D aC A ad n σ)) (va_Qv (fun (_ : Unit) => True) (fun _ t => Hold D aC A ad n o t.heap) A) 0 0 A := by
  refine Met.ofW (cc := prog_9_method_8_code) (maxL := 4) (ret := none) (by decide) rfl ?_
  intro p e s m args below meth c s₁ B hml hv
  obtain ⟨hargs, hH, hK, hZ⟩ := hv
  have hx := B.exec
  have hb := B.bytes
  have hr := B.returns
  have hts := atoms_spec (ws := w_Stream_appendNumber) B.pre
  have hg : ∀ w ∈ gW, w.before args s = true := fun w h => hts w (List.mem_cons_of_mem _ h)
  have hown : s.vm.findClass "PrefixCodes$Stream" = some m.cls := findClass_of_methodNamed B.named
  have hlocks := B.notSynchronized
  have hS : va_S A s.heap s.heap [] := va_S.rf
  have hl := lv_entry ([.ref (ad 3 0), .int a1, .int a2]) (n := 4) (Nat.le_of_ble_eq_true rfl)
  rw [show entryFrame m args 4 = entryFrame m (([.ref (ad 3 0), .int a1, .int a2] : List Value).toArray) 4 by rw [hargs], lg_entry_eq]
  generalize (lg_sl ([.ref (ad 3 0), .int a1, .int a2]) ++ List.replicate (4 - (lg_sl ([.ref (ad 3 0), .int a1, .int a2])).length) Slot.unset).toArray = ls at hl ⊢
  have hl : lv_has ls 4 [(0, .ref (ad 3 0)), (1, .int a1), (2, .int a2)] := hl
  generalize hQ0 : MQ below (va_Qv (fun (_ : Unit) => True) (fun _ t => Hold D aC A ad n o t.heap) A) args s 0 0 A = Q0
  unfold f_Stream_appendNumber at h
  refine lv_iload_n hx hb d_Stream_appendNumber_0 rfl (lv_at hl 2 rfl) ?_
  refine lv_iconst (v := 1) hx hb d_Stream_appendNumber_1 (by decide) ?_
  refine lv_isub hx hb d_Stream_appendNumber_2 ?_
  refine lv_topi (fun x1 ex1 => ?_)
  have h := nm_at ex1 h
  refine lv_istore_n (lv' := [(3, .int x1), (0, .ref (ad 3 0)), (1, .int a1), (2, .int a2)]) hx hb d_Stream_appendNumber_3 rfl hl (by decide) rfl (fun ls hl => ?_)
  obtain ⟨q1, hq1, h⟩ := b2_some h
  have K1 : ∀ (σ4 : St) (x5 : Int32) (H : Heap) (locs : List Loc) (ls : Array Slot), q1 = (σ4, x5) → Hold D aC A ad n σ4 H → va_S A s.heap H locs → lv_has ls 4 [(0, .ref (ad 3 0)), (1, .int a1), (3, .int x5)] → W p l e (headSpec w_Stream_appendNumber rm_Stream_appendNumber).room s m args below meth c H locs 0 0 Q0 (F0 m 23 ls []) := by
    intro σ4 x5 H locs ls eq1 hH hS hl
    subst eq1
    have h := b2_at h
    cases h
    rw [← hQ0]
    exact W.vret hx hb hr (fun t ht hW => ⟨⟨(), rfl, trivial, by dsimp only; rw [ht]; exact hH⟩, hS.F ht⟩) hS.2.2 d_Stream_appendNumber_23
  have loop1 : ∀ (k : Nat) (σ : St) (v3 : Int32) (H : Heap) (locs : List Loc) (ls : Array Slot), Hold D aC A ad n σ H → va_S A s.heap H locs → lv_has ls 4 [(0, .ref (ad 3 0)), (1, .int a1), (3, .int v3)] → lp (fun q => lb_Stream_appendNumber_4 a1 q.1 q.2) k (σ, v3) = some q1 → W p l e (headSpec w_Stream_appendNumber rm_Stream_appendNumber).room s m args below meth c H locs 0 0 Q0 (F0 m 4 ls []) := by
    intro k
    induction k with
    | zero => intro σ v3 H locs ls hH hS hl hlp; exact absurd hlp (lp_zero _ _ _)
    | succ k ih1 =>
      intro σ v3 H locs ls hH hS hl hlp
      obtain ⟨z1, h1, hk1⟩ := lp_succ hlp
      have h1 : lb_Stream_appendNumber_4 a1 σ v3 = some z1 := h1
      unfold lb_Stream_appendNumber_4 at h1
      refine lv_iload_n hx hb d_Stream_appendNumber_4 rfl (lv_at hl 2 rfl) ?_
      refine lv_if_lt (tgt := 23) hx hb d_Stream_appendNumber_5 (by decide) (fun c5 => ?_) (fun c5 => ?_)
      · have h1 := it h1 c5
        cases h1
        exact K1 σ v3 _ _ ls (Option.some.inj hk1).symm hH hS (lv_sub hl [0, 1, 2] rfl)
      · have h1 := ie h1 c5
        refine lv_aload_n hx hb d_Stream_appendNumber_8 rfl (lv_at hl 0 rfl) ?_
        refine lv_iload_n hx hb d_Stream_appendNumber_9 rfl (lv_at hl 1 rfl) ?_
        refine lv_iload_n hx hb d_Stream_appendNumber_10 rfl (lv_at hl 2 rfl) ?_
        refine lv_iushr hx hb d_Stream_appendNumber_11 rfl ?_
        refine lv_iconst (v := 1) hx hb d_Stream_appendNumber_12 (by decide) ?_
        refine lv_iand hx hb d_Stream_appendNumber_13 ?_
        obtain ⟨qc, hc14, h1⟩ := b1_some h1
        obtain ⟨σ2, rfl⟩ : ∃ z, z = qc := ⟨_, rfl⟩
        have h1 := b1_at h1
        refine st_Vv (As := [.int (((a1.toUInt32 >>> (v3.toUInt32 &&& Int32.toUInt32 31)).toInt32) &&& 1)]) (rest := []) ⟨hx, hb, hml, hown, hg⟩ (c_Stream_append l D aC A ad n _ (((a1.toUInt32 >>> (v3.toUInt32 &&& Int32.toUInt32 31)).toInt32) &&& 1) _ hc14) (cwG hg wd_128 wd_129 wd_130 wd_131 wd_119 yd_Stream_append ⟨Nat.le_of_ble_eq_true rfl, Nat.le_of_ble_eq_true rfl⟩) hK hH hS hZ hd_3 rfl rfl rfl hl.1 rfl (Nat.le_of_ble_eq_true rfl) d_Stream_appendNumber_14 ⟨Nat.zero_le _, Nat.zero_le _⟩ (fun H locs hH hS => ?_)
        obtain ⟨x3, ex3⟩ : ∃ y : Int32, y = v3 + (-1) := ⟨_, rfl⟩
        have h1 := nm_at ex3 h1
        refine lv_iinc (v := x3) (lv' := [(3, .int x3), (0, .ref (ad 3 0)), (1, .int a1)]) hx hb d_Stream_appendNumber_17 hl (k := 2) rfl (by rw [ex3]; rfl) (by decide) rfl (fun ls hl => ?_)
        refine lv_goto (tgt := 4) hx hb d_Stream_appendNumber_20 (by decide) ?_
        cases h1
        exact ih1 σ2 x3 _ _ ls hH hS (lv_sub hl [1, 2, 0] rfl) hk1
  obtain ⟨k1, hq1⟩ := lpE_some hq1
  exact loop1 k1 σ x1 _ _ ls hH hS (lv_sub hl [1, 2, 0] rfl) hq1
set_option maxHeartbeats 4000000 in
set_option maxRecDepth 100000 in
theorem c_PC_putBits (l : Launch) (D : va_G) (aC : Nat → ClassId) (A : Nat → Prop) (ad : Nat → Nat → Nat) (n : Nat) (σ : St) (a1 : Int32) (a2 : Int32) (o : St × Int32) (h : f_PC_putBits σ a1 a2 = some o) : Met l y_PC_putBits w_PC_putBits rm_PC_putBits (va_Pc [.ref (ad 0 0), .int a1, .int a2] (Pre D aC A ad n σ)) (va_Qi (fun r (_ : Unit) => r = o.2) (fun _ t => Hold D aC A ad n o.1 t.heap) A) 0 0 A := by
  refine Met.ofW (cc := prog_1_method_33_code) (maxL := 3) (ret := (some .int)) (by decide) rfl ?_
  intro p e s m args below meth c s₁ B hml hv
  obtain ⟨hargs, hH, hK, hZ⟩ := hv
  have hx := B.exec
  have hb := B.bytes
  have hr := B.returns
  have hts := atoms_spec (ws := w_PC_putBits) B.pre
  have hg : ∀ w ∈ gW, w.before args s = true := fun w h => hts w (List.mem_cons_of_mem _ h)
  have hown : s.vm.findClass "PrefixCodes" = some m.cls := findClass_of_methodNamed B.named
  have hlocks := B.notSynchronized
  have hS : va_S A s.heap s.heap [] := va_S.rf
  have hl := lv_entry ([.ref (ad 0 0), .int a1, .int a2]) (n := 3) (Nat.le_of_ble_eq_true rfl)
  rw [show entryFrame m args 3 = entryFrame m (([.ref (ad 0 0), .int a1, .int a2] : List Value).toArray) 3 by rw [hargs], lg_entry_eq]
  generalize (lg_sl ([.ref (ad 0 0), .int a1, .int a2]) ++ List.replicate (3 - (lg_sl ([.ref (ad 0 0), .int a1, .int a2])).length) Slot.unset).toArray = ls at hl ⊢
  have hl : lv_has ls 3 [(0, .ref (ad 0 0)), (1, .int a1), (2, .int a2)] := hl
  generalize hQ0 : MQ below (va_Qi (fun r (_ : Unit) => r = o.2) (fun _ t => Hold D aC A ad n o.1 t.heap) A) args s 0 0 A = Q0
  unfold f_PC_putBits at h
  refine lv_iload_n hx hb d_PC_putBits_0 rfl (lv_at hl 2 rfl) ?_
  refine lv_sipush (v := 20000) hx hb d_PC_putBits_1 (by decide) ?_
  refine lv_aload_n hx hb d_PC_putBits_4 rfl (lv_at hl 0 rfl) ?_
  refine st_get hx hb hg hown hK hH (f := 0) (i := 0) hd_0 rfl rfl u_PC 3 (by decide) (hg _ wd_113) (v := .ref (ad 3 0)) rfl d_PC_putBits_5 ?_
  refine st_get hx hb hg hown hK hH (f := 3) (i := 0) hd_3 rfl rfl u_Stream 2 (by decide) (hg _ wd_114) (v := .int (σ.1 3 0 2)) rfl d_PC_putBits_8 ?_
  refine lv_isub hx hb d_PC_putBits_11 ?_
  refine lv_icmp_le (tgt := 18) hx hb d_PC_putBits_12 (by decide) (fun c12 => ?_) (fun c12 => ?_)
  · have h := it h c12
    refine lv_aload_n hx hb d_PC_putBits_18 rfl (lv_at hl 0 rfl) ?_
    refine st_get hx hb hg hown hK hH (f := 0) (i := 0) hd_0 rfl rfl u_PC 3 (by decide) (hg _ wd_113) (v := .ref (ad 3 0)) rfl d_PC_putBits_19 ?_
    refine lv_iload_n hx hb d_PC_putBits_22 rfl (lv_at hl 1 rfl) ?_
    refine lv_iload_n hx hb d_PC_putBits_23 rfl (lv_at hl 2 rfl) ?_
    obtain ⟨qc, hc24, h⟩ := b1_some h
    obtain ⟨σ1, rfl⟩ : ∃ z, z = qc := ⟨_, rfl⟩
    have h := b1_at h
    refine st_Vv (As := [.int a1, .int a2]) (rest := []) ⟨hx, hb, hml, hown, hg⟩ (c_Stream_appendNumber l D aC A ad n _ a1 a2 _ hc24) (cwG hg wd_132 wd_133 wd_134 wd_135 wd_119 yd_Stream_appendNumber ⟨Nat.le_of_ble_eq_true rfl, Nat.le_of_ble_eq_true rfl⟩) hK hH hS hZ hd_3 rfl rfl rfl hl.1 rfl (Nat.le_of_ble_eq_true rfl) d_PC_putBits_24 ⟨Nat.zero_le _, Nat.zero_le _⟩ (fun H locs hH hS => ?_)
    refine lv_aload_n hx hb d_PC_putBits_27 rfl (lv_at hl 0 rfl) ?_
    refine st_get hx hb hg hown hK hH (f := 0) (i := 0) hd_0 rfl rfl u_PC 3 (by decide) (hg _ wd_113) (v := .ref (ad 3 0)) rfl d_PC_putBits_28 ?_
    refine st_get hx hb hg hown hK hH (f := 3) (i := 0) hd_3 rfl rfl u_Stream 2 (by decide) (hg _ wd_114) (v := .int (σ1.1 3 0 2)) rfl d_PC_putBits_31 ?_
    cases h
    rw [← hQ0]
    exact W.iret hx hb hr (fun t ht hW => ⟨⟨_, (), rfl, rfl, by dsimp only; rw [ht]; exact hH⟩, hS.F ht⟩) hS.2.2 d_PC_putBits_34
  · have h := ie h c12
    refine lv_bipush (v := (-106)) hx hb d_PC_putBits_15 (by decide) ?_
    cases h
    rw [← hQ0]
    exact W.iret hx hb hr (fun t ht hW => ⟨⟨_, (), rfl, rfl, by dsimp only; rw [ht]; exact hH⟩, hS.F ht⟩) hS.2.2 d_PC_putBits_17
set_option maxHeartbeats 4000000 in
set_option maxRecDepth 100000 in
theorem c_PC_putNumber (l : Launch) (D : va_G) (aC : Nat → ClassId) (A : Nat → Prop) (ad : Nat → Nat → Nat) (n : Nat) (σ : St) (a1 : Int32) (a2 : Int32) (o : St × Int32) (h : f_PC_putNumber σ a1 a2 = some o) : Met l y_PC_putNumber w_PC_putNumber rm_PC_putNumber (va_Pc [.ref (ad 0 0), .int a1, .int a2] (Pre D aC A ad n σ)) (va_Qi (fun r (_ : Unit) => r = o.2) (fun _ t => Hold D aC A ad n o.1 t.heap) A) 0 0 A := by
  refine Met.ofW (cc := prog_1_method_13_code) (maxL := 3) (ret := (some .int)) (by decide) rfl ?_
  intro p e s m args below meth c s₁ B hml hv
  obtain ⟨hargs, hH, hK, hZ⟩ := hv
  have hx := B.exec
  have hb := B.bytes
  have hr := B.returns
  have hts := atoms_spec (ws := w_PC_putNumber) B.pre
  have hg : ∀ w ∈ gW, w.before args s = true := fun w h => hts w (List.mem_cons_of_mem _ h)
  have hown : s.vm.findClass "PrefixCodes" = some m.cls := findClass_of_methodNamed B.named
  have hlocks := B.notSynchronized
  have hS : va_S A s.heap s.heap [] := va_S.rf
  have hl := lv_entry ([.ref (ad 0 0), .int a1, .int a2]) (n := 3) (Nat.le_of_ble_eq_true rfl)
  rw [show entryFrame m args 3 = entryFrame m (([.ref (ad 0 0), .int a1, .int a2] : List Value).toArray) 3 by rw [hargs], lg_entry_eq]
  generalize (lg_sl ([.ref (ad 0 0), .int a1, .int a2]) ++ List.replicate (3 - (lg_sl ([.ref (ad 0 0), .int a1, .int a2])).length) Slot.unset).toArray = ls at hl ⊢
  have hl : lv_has ls 3 [(0, .ref (ad 0 0)), (1, .int a1), (2, .int a2)] := hl
  generalize hQ0 : MQ below (va_Qi (fun r (_ : Unit) => r = o.2) (fun _ t => Hold D aC A ad n o.1 t.heap) A) args s 0 0 A = Q0
  unfold f_PC_putNumber at h
  refine lv_iload_n hx hb d_PC_putNumber_0 rfl (lv_at hl 2 rfl) ?_
  refine lv_iconst (v := 1) hx hb d_PC_putNumber_1 (by decide) ?_
  refine lv_bipush (v := 30) hx hb d_PC_putNumber_2 (by decide) ?_
  obtain ⟨qc, hc4, h⟩ := b2_some h
  obtain ⟨σ1, x2⟩ := qc
  have h := b2_at h
  refine st_Si (As := [.int a2, .int 1, .int 30]) (rest := []) ⟨hx, hb, hml, hown, hg⟩ (c_PC_isOutside l D aC A ad n _ a2 1 30 _ hc4) (cwGS hg wd_2 wd_3 wd_5 wd_4 yd_PC_isOutside ⟨Nat.le_of_ble_eq_true rfl, Nat.le_of_ble_eq_true rfl⟩) hK hH hS hZ rfl hl.1 rfl (Nat.le_of_ble_eq_true rfl) d_PC_putNumber_4 ⟨Nat.zero_le _, Nat.zero_le _⟩ (fun H locs hH hS => ?_)
  refine lv_if_eq (tgt := 13) hx hb d_PC_putNumber_7 (by decide) (fun c7 => ?_) (fun c7 => ?_)
  · have h := it h c7
    refine lv_aload_n hx hb d_PC_putNumber_13 rfl (lv_at hl 0 rfl) ?_
    refine lv_iload_n hx hb d_PC_putNumber_14 rfl (lv_at hl 1 rfl) ?_
    refine lv_iload_n hx hb d_PC_putNumber_15 rfl (lv_at hl 2 rfl) ?_
    obtain ⟨qc, hc16, h⟩ := b2_some h
    obtain ⟨σ3, x4⟩ := qc
    have h := b2_at h
    refine st_Vi (As := [.int a1, .int a2]) (rest := []) ⟨hx, hb, hml, hown, hg⟩ (c_PC_putBits l D aC A ad n _ a1 a2 _ hc16) (cwG hg wd_136 wd_137 wd_138 wd_139 wd_4 yd_PC_putBits ⟨Nat.le_of_ble_eq_true rfl, Nat.le_of_ble_eq_true rfl⟩) hK hH hS hZ hd_0 rfl rfl rfl hl.1 rfl (Nat.le_of_ble_eq_true rfl) d_PC_putNumber_16 ⟨Nat.zero_le _, Nat.zero_le _⟩ (fun H locs hH hS => ?_)
    cases h
    rw [← hQ0]
    exact W.iret hx hb hr (fun t ht hW => ⟨⟨_, (), rfl, rfl, by dsimp only; rw [ht]; exact hH⟩, hS.F ht⟩) hS.2.2 d_PC_putNumber_19
  · have h := ie h c7
    refine lv_bipush (v := (-102)) hx hb d_PC_putNumber_10 (by decide) ?_
    cases h
    rw [← hQ0]
    exact W.iret hx hb hr (fun t ht hW => ⟨⟨_, (), rfl, rfl, by dsimp only; rw [ht]; exact hH⟩, hS.F ht⟩) hS.2.2 d_PC_putNumber_12
set_option maxHeartbeats 4000000 in
set_option maxRecDepth 100000 in
theorem c_Stream_removeFirst (l : Launch) (D : va_G) (aC : Nat → ClassId) (A : Nat → Prop) (ad : Nat → Nat → Nat) (n : Nat) (σ : St) (o : St × Int32) (h : f_Stream_removeFirst σ  = some o) : Met l y_Stream_removeFirst w_Stream_removeFirst rm_Stream_removeFirst (va_Pc [.ref (ad 3 0)] (Pre D aC A ad n σ)) (va_Qi (fun r (_ : Unit) => r = o.2) (fun _ t => Hold D aC A ad n o.1 t.heap) A) 0 0 A := by
  refine Met.ofW (cc := prog_9_method_9_code) (maxL := 2) (ret := (some .int)) (by decide) rfl ?_
  intro p e s m args below meth c s₁ B hml hv
  obtain ⟨hargs, hH, hK, hZ⟩ := hv
  have hx := B.exec
  have hb := B.bytes
  have hr := B.returns
  have hts := atoms_spec (ws := w_Stream_removeFirst) B.pre
  have hg : ∀ w ∈ gW, w.before args s = true := fun w h => hts w (List.mem_cons_of_mem _ h)
  have hown : s.vm.findClass "PrefixCodes$Stream" = some m.cls := findClass_of_methodNamed B.named
  have hlocks := B.notSynchronized
  have hS : va_S A s.heap s.heap [] := va_S.rf
  have hl := lv_entry ([.ref (ad 3 0)]) (n := 2) (Nat.le_of_ble_eq_true rfl)
  rw [show entryFrame m args 2 = entryFrame m (([.ref (ad 3 0)] : List Value).toArray) 2 by rw [hargs], lg_entry_eq]
  generalize (lg_sl ([.ref (ad 3 0)]) ++ List.replicate (2 - (lg_sl ([.ref (ad 3 0)])).length) Slot.unset).toArray = ls at hl ⊢
  have hl : lv_has ls 2 [(0, .ref (ad 3 0))] := hl
  generalize hQ0 : MQ below (va_Qi (fun r (_ : Unit) => r = o.2) (fun _ t => Hold D aC A ad n o.1 t.heap) A) args s 0 0 A = Q0
  unfold f_Stream_removeFirst at h
  refine lv_aload_n hx hb d_Stream_removeFirst_0 rfl (lv_at hl 0 rfl) ?_
  refine st_get hx hb hg hown hK hH (f := 3) (i := 0) hd_3 rfl rfl u_Stream 2 (by decide) (hg _ wd_126) (v := .int (σ.1 3 0 2)) rfl d_Stream_removeFirst_1 ?_
  refine lv_if_ne (tgt := 10) hx hb d_Stream_removeFirst_4 (by decide) (fun c4 => ?_) (fun c4 => ?_)
  · have h := ie h c4
    refine lv_aload_n hx hb d_Stream_removeFirst_10 rfl (lv_at hl 0 rfl) ?_
    refine lv_aload_n hx hb d_Stream_removeFirst_11 rfl (lv_at hl 0 rfl) ?_
    refine st_get hx hb hg hown hK hH (f := 3) (i := 0) hd_3 rfl rfl u_Stream 1 (by decide) (hg _ wd_115) (v := .int (σ.1 3 0 1)) rfl d_Stream_removeFirst_12 ?_
    obtain ⟨qc, hc15, h⟩ := b2_some h
    obtain ⟨σ1, x2⟩ := qc
    have h := b2_at h
    refine st_Vi (As := [.int (σ.1 3 0 1)]) (rest := []) ⟨hx, hb, hml, hown, hg⟩ (c_Stream_bitOf l D aC A ad n _ (σ.1 3 0 1) _ hc15) (cwG hg wd_122 wd_123 wd_124 wd_125 wd_119 yd_Stream_bitOf ⟨Nat.le_of_ble_eq_true rfl, Nat.le_of_ble_eq_true rfl⟩) hK hH hS hZ hd_3 rfl rfl rfl hl.1 rfl (Nat.le_of_ble_eq_true rfl) d_Stream_removeFirst_15 ⟨Nat.zero_le _, Nat.zero_le _⟩ (fun H locs hH hS => ?_)
    refine lv_istore_n (lv' := [(1, .int x2), (0, .ref (ad 3 0))]) hx hb d_Stream_removeFirst_18 rfl hl (by decide) rfl (fun ls hl => ?_)
    refine lv_aload_n hx hb d_Stream_removeFirst_19 rfl (lv_at hl 1 rfl) ?_
    refine lv_aload_n hx hb d_Stream_removeFirst_20 rfl (lv_at hl 1 rfl) ?_
    refine lv_iconst (v := 1) hx hb d_Stream_removeFirst_21 (by decide) ?_
    obtain ⟨qc, hc22, h⟩ := b2_some h
    obtain ⟨σ3, x4⟩ := qc
    have h := b2_at h
    refine st_Vi (As := [.int 1]) (rest := [.ref (ad 3 0)]) ⟨hx, hb, hml, hown, hg⟩ (c_Stream_placeOf l D aC A ad n _ 1 _ hc22) (cwG hg wd_117 wd_118 wd_120 wd_121 wd_119 yd_Stream_placeOf ⟨Nat.le_of_ble_eq_true rfl, Nat.le_of_ble_eq_true rfl⟩) hK hH hS hZ hd_3 rfl rfl rfl hl.1 rfl (Nat.le_of_ble_eq_true rfl) d_Stream_removeFirst_22 ⟨Nat.zero_le _, Nat.zero_le _⟩ (fun H locs hH hS => ?_)
    refine st_put hx hb hg hown hK hH hS (f := 3) (i := 0) hd_3 rfl rfl u_Stream t_Stream t_Stream_ok n_Stream 1 (by decide) (hg _ wd_115) rfl rfl rfl d_Stream_removeFirst_25 (fun σ5 H locs eσ5 hH hS => ?_)
    have h := nm_at eσ5 h
    refine lv_aload_n hx hb d_Stream_removeFirst_28 rfl (lv_at hl 1 rfl) ?_
    refine lv_dup hx hb d_Stream_removeFirst_29 rfl ?_
    refine st_get hx hb hg hown hK hH (f := 3) (i := 0) hd_3 rfl rfl u_Stream 2 (by decide) (hg _ wd_126) (v := .int (σ5.1 3 0 2)) rfl d_Stream_removeFirst_30 ?_
    refine lv_iconst (v := 1) hx hb d_Stream_removeFirst_33 (by decide) ?_
    refine lv_isub hx hb d_Stream_removeFirst_34 ?_
    refine st_put hx hb hg hown hK hH hS (f := 3) (i := 0) hd_3 rfl rfl u_Stream t_Stream t_Stream_ok n_Stream 2 (by decide) (hg _ wd_126) rfl rfl rfl d_Stream_removeFirst_35 (fun σ6 H locs eσ6 hH hS => ?_)
    have h := nm_at eσ6 h
    refine lv_iload_n hx hb d_Stream_removeFirst_38 rfl (lv_at hl 0 rfl) ?_
    cases h
    rw [← hQ0]
    exact W.iret hx hb hr (fun t ht hW => ⟨⟨_, (), rfl, rfl, by dsimp only; rw [ht]; exact hH⟩, hS.F ht⟩) hS.2.2 d_Stream_removeFirst_39
  · have h := it h c4
    refine lv_bipush (v := (-104)) hx hb d_Stream_removeFirst_7 (by decide) ?_
    cases h
    rw [← hQ0]
    exact W.iret hx hb hr (fun t ht hW => ⟨⟨_, (), rfl, rfl, by dsimp only; rw [ht]; exact hH⟩, hS.F ht⟩) hS.2.2 d_Stream_removeFirst_9
set_option maxHeartbeats 4000000 in
set_option maxRecDepth 100000 in
theorem c_Stream_removeNumber (l : Launch) (D : va_G) (aC : Nat → ClassId) (A : Nat → Prop) (ad : Nat → Nat → Nat) (n : Nat) (σ : St) (a1 : Int32) (o : St × Int32) (h : f_Stream_removeNumber σ a1 = some o) : Met l y_Stream_removeNumber w_Stream_removeNumber rm_Stream_removeNumber (va_Pc [.ref (ad 3 0), .int a1] (Pre D aC A ad n σ)) (va_Qi (fun r (_ : Unit) => r = o.2) (fun _ t => Hold D aC A ad n o.1 t.heap) A) 0 0 A := by
  refine Met.ofW (cc := prog_9_method_11_code) (maxL := 4) (ret := (some .int)) (by decide) rfl ?_
  intro p e s m args below meth c s₁ B hml hv
  obtain ⟨hargs, hH, hK, hZ⟩ := hv
  have hx := B.exec
  have hb := B.bytes
  have hr := B.returns
  have hts := atoms_spec (ws := w_Stream_removeNumber) B.pre
  have hg : ∀ w ∈ gW, w.before args s = true := fun w h => hts w (List.mem_cons_of_mem _ h)
  have hown : s.vm.findClass "PrefixCodes$Stream" = some m.cls := findClass_of_methodNamed B.named
  have hlocks := B.notSynchronized
  have hS : va_S A s.heap s.heap [] := va_S.rf
  have hl := lv_entry ([.ref (ad 3 0), .int a1]) (n := 4) (Nat.le_of_ble_eq_true rfl)
  rw [show entryFrame m args 4 = entryFrame m (([.ref (ad 3 0), .int a1] : List Value).toArray) 4 by rw [hargs], lg_entry_eq]
  generalize (lg_sl ([.ref (ad 3 0), .int a1]) ++ List.replicate (4 - (lg_sl ([.ref (ad 3 0), .int a1])).length) Slot.unset).toArray = ls at hl ⊢
  have hl : lv_has ls 4 [(0, .ref (ad 3 0)), (1, .int a1)] := hl
  generalize hQ0 : MQ below (va_Qi (fun r (_ : Unit) => r = o.2) (fun _ t => Hold D aC A ad n o.1 t.heap) A) args s 0 0 A = Q0
  unfold f_Stream_removeNumber at h
  refine lv_iload_n hx hb d_Stream_removeNumber_0 rfl (lv_at hl 1 rfl) ?_
  refine lv_aload_n hx hb d_Stream_removeNumber_1 rfl (lv_at hl 0 rfl) ?_
  refine st_get hx hb hg hown hK hH (f := 3) (i := 0) hd_3 rfl rfl u_Stream 2 (by decide) (hg _ wd_126) (v := .int (σ.1 3 0 2)) rfl d_Stream_removeNumber_2 ?_
  refine lv_icmp_le (tgt := 11) hx hb d_Stream_removeNumber_5 (by decide) (fun c5 => ?_) (fun c5 => ?_)
  · have h := it h c5
    refine lv_iconst (v := 0) hx hb d_Stream_removeNumber_11 (by decide) ?_
    refine lv_istore_n (lv' := [(2, .int 0), (0, .ref (ad 3 0)), (1, .int a1)]) hx hb d_Stream_removeNumber_12 rfl hl (by decide) rfl (fun ls hl => ?_)
    refine lv_iconst (v := 0) hx hb d_Stream_removeNumber_13 (by decide) ?_
    refine lv_istore_n (lv' := [(3, .int 0), (2, .int 0), (0, .ref (ad 3 0)), (1, .int a1)]) hx hb d_Stream_removeNumber_14 rfl hl (by decide) rfl (fun ls hl => ?_)
    obtain ⟨q1, hq1, h⟩ := b3_some h
    have K1 : ∀ (σ5 : St) (x6 : Int32) (x7 : Int32) (H : Heap) (locs : List Loc) (ls : Array Slot), q1 = (σ5, x6, x7) → Hold D aC A ad n σ5 H → va_S A s.heap H locs → lv_has ls 4 [(0, .ref (ad 3 0)), (1, .int a1), (2, .int x6), (3, .int x7)] → W p l e (headSpec w_Stream_removeNumber rm_Stream_removeNumber).room s m args below meth c H locs 0 0 Q0 (F0 m 35 ls []) := by
      intro σ5 x6 x7 H locs ls eq1 hH hS hl
      subst eq1
      have h := b3_at h
      refine lv_iload_n hx hb d_Stream_removeNumber_35 rfl (lv_at hl 2 rfl) ?_
      cases h
      rw [← hQ0]
      exact W.iret hx hb hr (fun t ht hW => ⟨⟨_, (), rfl, rfl, by dsimp only; rw [ht]; exact hH⟩, hS.F ht⟩) hS.2.2 d_Stream_removeNumber_36
    have loop1 : ∀ (k : Nat) (σ : St) (v2 : Int32) (v3 : Int32) (H : Heap) (locs : List Loc) (ls : Array Slot), Hold D aC A ad n σ H → va_S A s.heap H locs → lv_has ls 4 [(0, .ref (ad 3 0)), (1, .int a1), (2, .int v2), (3, .int v3)] → lp (fun q => lb_Stream_removeNumber_15 a1 q.1 q.2.1 q.2.2) k (σ, v2, v3) = some q1 → W p l e (headSpec w_Stream_removeNumber rm_Stream_removeNumber).room s m args below meth c H locs 0 0 Q0 (F0 m 15 ls []) := by
      intro k
      induction k with
      | zero => intro σ v2 v3 H locs ls hH hS hl hlp; exact absurd hlp (lp_zero _ _ _)
      | succ k ih1 =>
        intro σ v2 v3 H locs ls hH hS hl hlp
        obtain ⟨z1, h1, hk1⟩ := lp_succ hlp
        have h1 : lb_Stream_removeNumber_15 a1 σ v2 v3 = some z1 := h1
        unfold lb_Stream_removeNumber_15 at h1
        refine lv_iload_n hx hb d_Stream_removeNumber_15 rfl (lv_at hl 3 rfl) ?_
        refine lv_iload_n hx hb d_Stream_removeNumber_16 rfl (lv_at hl 1 rfl) ?_
        refine lv_icmp_ge (tgt := 35) hx hb d_Stream_removeNumber_17 (by decide) (fun c17 => ?_) (fun c17 => ?_)
        · have h1 := it h1 c17
          cases h1
          exact K1 σ v2 v3 _ _ ls (Option.some.inj hk1).symm hH hS (lv_sub hl [0, 1, 2, 3] rfl)
        · have h1 := ie h1 c17
          refine lv_iload_n hx hb d_Stream_removeNumber_20 rfl (lv_at hl 2 rfl) ?_
          refine lv_iconst (v := 1) hx hb d_Stream_removeNumber_21 (by decide) ?_
          refine lv_ishl hx hb d_Stream_removeNumber_22 ?_
          refine lv_aload_n hx hb d_Stream_removeNumber_23 rfl (lv_at hl 0 rfl) ?_
          obtain ⟨qc, hc24, h1⟩ := b2_some h1
          obtain ⟨σ1, x2⟩ := qc
          have h1 := b2_at h1
          refine st_Vi (As := []) (rest := [.int (v2 <<< (1 &&& 31))]) ⟨hx, hb, hml, hown, hg⟩ (c_Stream_removeFirst l D aC A ad n _  _ hc24) (cwG hg wd_140 wd_141 wd_142 wd_143 wd_119 yd_Stream_removeFirst ⟨Nat.le_of_ble_eq_true rfl, Nat.le_of_ble_eq_true rfl⟩) hK hH hS hZ hd_3 rfl rfl rfl hl.1 rfl (Nat.le_of_ble_eq_true rfl) d_Stream_removeNumber_24 ⟨Nat.zero_le _, Nat.zero_le _⟩ (fun H locs hH hS => ?_)
          refine lv_ior hx hb d_Stream_removeNumber_27 ?_
          refine lv_topi (fun x3 ex3 => ?_)
          have h1 := nm_at ex3 h1
          refine lv_istore_n (lv' := [(2, .int x3), (0, .ref (ad 3 0)), (1, .int a1), (3, .int v3)]) hx hb d_Stream_removeNumber_28 rfl hl (by decide) rfl (fun ls hl => ?_)
          obtain ⟨x4, ex4⟩ : ∃ y : Int32, y = v3 + 1 := ⟨_, rfl⟩
          have h1 := nm_at ex4 h1
          refine lv_iinc (v := x4) (lv' := [(3, .int x4), (2, .int x3), (0, .ref (ad 3 0)), (1, .int a1)]) hx hb d_Stream_removeNumber_29 hl (k := 3) rfl (by rw [ex4]; rfl) (by decide) rfl (fun ls hl => ?_)
          refine lv_goto (tgt := 15) hx hb d_Stream_removeNumber_32 (by decide) ?_
          cases h1
          exact ih1 σ1 x3 x4 _ _ ls hH hS (lv_sub hl [2, 3, 1, 0] rfl) hk1
    obtain ⟨k1, hq1⟩ := lpE_some hq1
    exact loop1 k1 σ 0 0 _ _ ls hH hS (lv_sub hl [2, 3, 1, 0] rfl) hq1
  · have h := ie h c5
    refine lv_bipush (v := (-104)) hx hb d_Stream_removeNumber_8 (by decide) ?_
    cases h
    rw [← hQ0]
    exact W.iret hx hb hr (fun t ht hW => ⟨⟨_, (), rfl, rfl, by dsimp only; rw [ht]; exact hH⟩, hS.F ht⟩) hS.2.2 d_Stream_removeNumber_10
set_option maxHeartbeats 4000000 in
set_option maxRecDepth 100000 in
theorem c_PC_takeNumber (l : Launch) (D : va_G) (aC : Nat → ClassId) (A : Nat → Prop) (ad : Nat → Nat → Nat) (n : Nat) (σ : St) (a1 : Int32) (o : St × Int32) (h : f_PC_takeNumber σ a1 = some o) : Met l y_PC_takeNumber w_PC_takeNumber rm_PC_takeNumber (va_Pc [.ref (ad 0 0), .int a1] (Pre D aC A ad n σ)) (va_Qi (fun r (_ : Unit) => r = o.2) (fun _ t => Hold D aC A ad n o.1 t.heap) A) 0 0 A := by
  refine Met.ofW (cc := prog_1_method_14_code) (maxL := 2) (ret := (some .int)) (by decide) rfl ?_
  intro p e s m args below meth c s₁ B hml hv
  obtain ⟨hargs, hH, hK, hZ⟩ := hv
  have hx := B.exec
  have hb := B.bytes
  have hr := B.returns
  have hts := atoms_spec (ws := w_PC_takeNumber) B.pre
  have hg : ∀ w ∈ gW, w.before args s = true := fun w h => hts w (List.mem_cons_of_mem _ h)
  have hown : s.vm.findClass "PrefixCodes" = some m.cls := findClass_of_methodNamed B.named
  have hlocks := B.notSynchronized
  have hS : va_S A s.heap s.heap [] := va_S.rf
  have hl := lv_entry ([.ref (ad 0 0), .int a1]) (n := 2) (Nat.le_of_ble_eq_true rfl)
  rw [show entryFrame m args 2 = entryFrame m (([.ref (ad 0 0), .int a1] : List Value).toArray) 2 by rw [hargs], lg_entry_eq]
  generalize (lg_sl ([.ref (ad 0 0), .int a1]) ++ List.replicate (2 - (lg_sl ([.ref (ad 0 0), .int a1])).length) Slot.unset).toArray = ls at hl ⊢
  have hl : lv_has ls 2 [(0, .ref (ad 0 0)), (1, .int a1)] := hl
  generalize hQ0 : MQ below (va_Qi (fun r (_ : Unit) => r = o.2) (fun _ t => Hold D aC A ad n o.1 t.heap) A) args s 0 0 A = Q0
  unfold f_PC_takeNumber at h
  refine lv_iload_n hx hb d_PC_takeNumber_0 rfl (lv_at hl 1 rfl) ?_
  refine lv_iconst (v := 1) hx hb d_PC_takeNumber_1 (by decide) ?_
  refine lv_bipush (v := 30) hx hb d_PC_takeNumber_2 (by decide) ?_
  obtain ⟨qc, hc4, h⟩ := b2_some h
  obtain ⟨σ1, x2⟩ := qc
  have h := b2_at h
  refine st_Si (As := [.int a1, .int 1, .int 30]) (rest := []) ⟨hx, hb, hml, hown, hg⟩ (c_PC_isOutside l D aC A ad n _ a1 1 30 _ hc4) (cwGS hg wd_2 wd_3 wd_5 wd_4 yd_PC_isOutside ⟨Nat.le_of_ble_eq_true rfl, Nat.le_of_ble_eq_true rfl⟩) hK hH hS hZ rfl hl.1 rfl (Nat.le_of_ble_eq_true rfl) d_PC_takeNumber_4 ⟨Nat.zero_le _, Nat.zero_le _⟩ (fun H locs hH hS => ?_)
  refine lv_if_eq (tgt := 13) hx hb d_PC_takeNumber_7 (by decide) (fun c7 => ?_) (fun c7 => ?_)
  · have h := it h c7
    refine lv_aload_n hx hb d_PC_takeNumber_13 rfl (lv_at hl 0 rfl) ?_
    refine st_get hx hb hg hown hK hH (f := 0) (i := 0) hd_0 rfl rfl u_PC 3 (by decide) (hg _ wd_113) (v := .ref (ad 3 0)) rfl d_PC_takeNumber_14 ?_
    refine lv_iload_n hx hb d_PC_takeNumber_17 rfl (lv_at hl 1 rfl) ?_
    obtain ⟨qc, hc18, h⟩ := b2_some h
    obtain ⟨σ3, x4⟩ := qc
    have h := b2_at h
    refine st_Vi (As := [.int a1]) (rest := []) ⟨hx, hb, hml, hown, hg⟩ (c_Stream_removeNumber l D aC A ad n _ a1 _ hc18) (cwG hg wd_144 wd_145 wd_146 wd_147 wd_119 yd_Stream_removeNumber ⟨Nat.le_of_ble_eq_true rfl, Nat.le_of_ble_eq_true rfl⟩) hK hH hS hZ hd_3 rfl rfl rfl hl.1 rfl (Nat.le_of_ble_eq_true rfl) d_PC_takeNumber_18 ⟨Nat.zero_le _, Nat.zero_le _⟩ (fun H locs hH hS => ?_)
    cases h
    rw [← hQ0]
    exact W.iret hx hb hr (fun t ht hW => ⟨⟨_, (), rfl, rfl, by dsimp only; rw [ht]; exact hH⟩, hS.F ht⟩) hS.2.2 d_PC_takeNumber_21
  · have h := ie h c7
    refine lv_bipush (v := (-102)) hx hb d_PC_takeNumber_10 (by decide) ?_
    cases h
    rw [← hQ0]
    exact W.iret hx hb hr (fun t ht hW => ⟨⟨_, (), rfl, rfl, by dsimp only; rw [ht]; exact hH⟩, hS.F ht⟩) hS.2.2 d_PC_takeNumber_12
set_option maxHeartbeats 4000000 in
set_option maxRecDepth 100000 in
theorem c_PC_put (l : Launch) (D : va_G) (aC : Nat → ClassId) (A : Nat → Prop) (ad : Nat → Nat → Nat) (n : Nat) (σ : St) (a1 : Int32) (a2 : Int32) (a3 : Int32) (o : St × Int32) (h : f_PC_put σ a1 a2 a3 = some o) : Met l y_PC_put w_PC_put rm_PC_put (va_Pc [.ref (ad 0 0), .int a1, .int a2, .int a3] (Pre D aC A ad n σ)) (va_Qi (fun r (_ : Unit) => r = o.2) (fun _ t => Hold D aC A ad n o.1 t.heap) A) 0 0 A := by
  refine Met.ofW (cc := prog_1_method_15_code) (maxL := 5) (ret := (some .int)) (by decide) rfl ?_
  intro p e s m args below meth c s₁ B hml hv
  obtain ⟨hargs, hH, hK, hZ⟩ := hv
  have hx := B.exec
  have hb := B.bytes
  have hr := B.returns
  have hts := atoms_spec (ws := w_PC_put) B.pre
  have hg : ∀ w ∈ gW, w.before args s = true := fun w h => hts w (List.mem_cons_of_mem _ h)
  have hown : s.vm.findClass "PrefixCodes" = some m.cls := findClass_of_methodNamed B.named
  have hlocks := B.notSynchronized
  have hS : va_S A s.heap s.heap [] := va_S.rf
  have hl := lv_entry ([.ref (ad 0 0), .int a1, .int a2, .int a3]) (n := 5) (Nat.le_of_ble_eq_true rfl)
  rw [show entryFrame m args 5 = entryFrame m (([.ref (ad 0 0), .int a1, .int a2, .int a3] : List Value).toArray) 5 by rw [hargs], lg_entry_eq]
  generalize (lg_sl ([.ref (ad 0 0), .int a1, .int a2, .int a3]) ++ List.replicate (5 - (lg_sl ([.ref (ad 0 0), .int a1, .int a2, .int a3])).length) Slot.unset).toArray = ls at hl ⊢
  have hl : lv_has ls 5 [(0, .ref (ad 0 0)), (1, .int a1), (2, .int a2), (3, .int a3)] := hl
  generalize hQ0 : MQ below (va_Qi (fun r (_ : Unit) => r = o.2) (fun _ t => Hold D aC A ad n o.1 t.heap) A) args s 0 0 A = Q0
  unfold f_PC_put at h
  refine lv_aload_n hx hb d_PC_put_0 rfl (lv_at hl 0 rfl) ?_
  refine lv_iload_n hx hb d_PC_put_1 rfl (lv_at hl 1 rfl) ?_
  refine lv_iload_n hx hb d_PC_put_2 rfl (lv_at hl 2 rfl) ?_
  obtain ⟨qc, hc3, h⟩ := b2_some h
  obtain ⟨σ1, o2⟩ := qc
  have h := b2_at h
  refine st_Vq (As := [.int a1, .int a2]) (rest := []) ⟨hx, hb, hml, hown, hg⟩ (c_PC_codeWith l D aC A ad n _ a1 a2 _ hc3) (cwG hg wd_45 wd_46 wd_47 wd_48 wd_4 yd_PC_codeWith ⟨Nat.le_of_ble_eq_true rfl, Nat.le_of_ble_eq_true rfl⟩) hK hH hS hZ hd_0 rfl rfl rfl hl.1 rfl (Nat.le_of_ble_eq_true rfl) d_PC_put_3 ⟨Nat.zero_le _, Nat.zero_le _⟩ (fun c3 H locs hH hS => ?_) (fun j3 c3 hdj3 H locs hH hS => ?_)
  · have h := on_n h c3
    refine lv_astoreN (lv' := [(4, .null), (0, .ref (ad 0 0)), (1, .int a1), (2, .int a2), (3, .int a3)]) hx hb d_PC_put_6 hl (by decide) rfl (fun ls hl => ?_)
    refine lv_aloadN hx hb d_PC_put_8 (lv_at hl 0 rfl) ?_
    refine lv_ifnonnullN hx hb d_PC_put_10 ?_
    refine lv_bipush (v := (-101)) hx hb d_PC_put_13 (by decide) ?_
    cases h
    rw [← hQ0]
    exact W.iret hx hb hr (fun t ht hW => ⟨⟨_, (), rfl, rfl, by dsimp only; rw [ht]; exact hH⟩, hS.F ht⟩) hS.2.2 d_PC_put_15
  · have h := on_s h c3
    refine lv_astore (lv' := [(4, .ref (ad 41 j3)), (0, .ref (ad 0 0)), (1, .int a1), (2, .int a2), (3, .int a3)]) hx hb d_PC_put_6 hl (by decide) rfl (fun ls hl => ?_)
    refine lv_aload hx hb d_PC_put_8 (lv_at hl 0 rfl) ?_
    refine lv_ifnonnull (tgt := 16) hx hb d_PC_put_10 (by decide) ?_
    refine lv_aload hx hb d_PC_put_16 (lv_at hl 0 rfl) ?_
    refine lv_iload_n hx hb d_PC_put_18 rfl (lv_at hl 3 rfl) ?_
    obtain ⟨qc, hc19, h⟩ := b2_some h
    obtain ⟨σ4, x5⟩ := qc
    have h := b2_at h
    refine st_Vi (As := [.int a2]) (rest := []) ⟨hx, hb, hml, hown, hg⟩ (c_Code_hasWord l D aC A ad n _ j3 a2 hdj3 _ hc19) (cwG hg wd_58 wd_59 wd_60 wd_61 wd_29 yd_Code_hasWord ⟨Nat.le_of_ble_eq_true rfl, Nat.le_of_ble_eq_true rfl⟩) hK hH hS hZ hdj3 rfl rfl rfl hl.1 rfl (Nat.le_of_ble_eq_true rfl) d_PC_put_19 ⟨Nat.zero_le _, Nat.zero_le _⟩ (fun H locs hH hS => ?_)
    refine lv_if_ne (tgt := 28) hx hb d_PC_put_22 (by decide) (fun c22 => ?_) (fun c22 => ?_)
    · have h := ie h c22
      refine lv_aload_n hx hb d_PC_put_28 rfl (lv_at hl 1 rfl) ?_
      refine lv_iload_n hx hb d_PC_put_29 rfl (lv_at hl 4 rfl) ?_
      refine lv_if_eq (tgt := 42) hx hb d_PC_put_30 (by decide) (fun c30 => ?_) (fun c30 => ?_)
      · have h := it h c30
        refine lv_aload hx hb d_PC_put_42 (lv_at hl 0 rfl) ?_
        refine st_get hx hb hg hown hK hH (f := 41) (i := j3) hdj3 rfl rfl u_Code 2 (by decide) (hg _ wd_57) (v := .ref (ad 43 j3)) rfl d_PC_put_44 ?_
        refine lv_iload_n hx hb d_PC_put_47 rfl (lv_at hl 3 rfl) ?_
        obtain ⟨g48, h⟩ := gd_some h
        refine st_iald hx hb hK hH (f := 43) (i := j3) hdj3 rfl g48 d_PC_put_48 ?_
        refine lv_aload hx hb d_PC_put_49 (lv_at hl 0 rfl) ?_
        refine st_get hx hb hg hown hK hH (f := 41) (i := j3) hdj3 rfl rfl u_Code 1 (by decide) (hg _ wd_44) (v := .ref (ad 42 j3)) rfl d_PC_put_51 ?_
        refine lv_iload_n hx hb d_PC_put_54 rfl (lv_at hl 3 rfl) ?_
        obtain ⟨g55, h⟩ := gd_some h
        refine st_iald hx hb hK hH (f := 42) (i := j3) hdj3 rfl g55 d_PC_put_55 ?_
        obtain ⟨qc, hc56, h⟩ := b2_some h
        obtain ⟨σ6, x7⟩ := qc
        have h := b2_at h
        refine st_Vi (As := [.int (σ4.1 43 j3 a2.toNatClampNeg), .int (σ4.1 42 j3 a2.toNatClampNeg)]) (rest := []) ⟨hx, hb, hml, hown, hg⟩ (c_PC_putBits l D aC A ad n _ (σ4.1 43 j3 a2.toNatClampNeg) (σ4.1 42 j3 a2.toNatClampNeg) _ hc56) (cwG hg wd_136 wd_137 wd_138 wd_139 wd_4 yd_PC_putBits ⟨Nat.le_of_ble_eq_true rfl, Nat.le_of_ble_eq_true rfl⟩) hK hH hS hZ hd_0 rfl rfl rfl hl.1 rfl (Nat.le_of_ble_eq_true rfl) d_PC_put_56 ⟨Nat.zero_le _, Nat.zero_le _⟩ (fun H locs hH hS => ?_)
        cases h
        rw [← hQ0]
        exact W.iret hx hb hr (fun t ht hW => ⟨⟨_, (), rfl, rfl, by dsimp only; rw [ht]; exact hH⟩, hS.F ht⟩) hS.2.2 d_PC_put_59
      · have h := ie h c30
        refine lv_aload hx hb d_PC_put_33 (lv_at hl 0 rfl) ?_
        refine lv_iload_n hx hb d_PC_put_35 rfl (lv_at hl 3 rfl) ?_
        obtain ⟨qc, hc36, h⟩ := b2_some h
        obtain ⟨σ8, x9⟩ := qc
        have h := b2_at h
        refine st_Vi (As := [.int a2]) (rest := [.ref (ad 0 0)]) ⟨hx, hb, hml, hown, hg⟩ (c_Code_turnedWord l D aC A ad n _ j3 a2 hdj3 _ hc36) (cwG hg wd_62 wd_63 wd_64 wd_65 wd_29 yd_Code_turnedWord ⟨Nat.le_of_ble_eq_true rfl, Nat.le_of_ble_eq_true rfl⟩) hK hH hS hZ hdj3 rfl rfl rfl hl.1 rfl (Nat.le_of_ble_eq_true rfl) d_PC_put_36 ⟨Nat.zero_le _, Nat.zero_le _⟩ (fun H locs hH hS => ?_)
        refine lv_goto (tgt := 49) hx hb d_PC_put_39 (by decide) ?_
        refine lv_aload hx hb d_PC_put_49 (lv_at hl 0 rfl) ?_
        refine st_get hx hb hg hown hK hH (f := 41) (i := j3) hdj3 rfl rfl u_Code 1 (by decide) (hg _ wd_44) (v := .ref (ad 42 j3)) rfl d_PC_put_51 ?_
        refine lv_iload_n hx hb d_PC_put_54 rfl (lv_at hl 3 rfl) ?_
        obtain ⟨g55, h⟩ := gd_some h
        refine st_iald hx hb hK hH (f := 42) (i := j3) hdj3 rfl g55 d_PC_put_55 ?_
        obtain ⟨qc, hc56, h⟩ := b2_some h
        obtain ⟨σ10, x11⟩ := qc
        have h := b2_at h
        refine st_Vi (As := [.int x9, .int (σ8.1 42 j3 a2.toNatClampNeg)]) (rest := []) ⟨hx, hb, hml, hown, hg⟩ (c_PC_putBits l D aC A ad n _ x9 (σ8.1 42 j3 a2.toNatClampNeg) _ hc56) (cwG hg wd_136 wd_137 wd_138 wd_139 wd_4 yd_PC_putBits ⟨Nat.le_of_ble_eq_true rfl, Nat.le_of_ble_eq_true rfl⟩) hK hH hS hZ hd_0 rfl rfl rfl hl.1 rfl (Nat.le_of_ble_eq_true rfl) d_PC_put_56 ⟨Nat.zero_le _, Nat.zero_le _⟩ (fun H locs hH hS => ?_)
        cases h
        rw [← hQ0]
        exact W.iret hx hb hr (fun t ht hW => ⟨⟨_, (), rfl, rfl, by dsimp only; rw [ht]; exact hH⟩, hS.F ht⟩) hS.2.2 d_PC_put_59
    · have h := it h c22
      refine lv_bipush (v := (-103)) hx hb d_PC_put_25 (by decide) ?_
      cases h
      rw [← hQ0]
      exact W.iret hx hb hr (fun t ht hW => ⟨⟨_, (), rfl, rfl, by dsimp only; rw [ht]; exact hH⟩, hS.F ht⟩) hS.2.2 d_PC_put_27
set_option maxHeartbeats 4000000 in
set_option maxRecDepth 100000 in
theorem c_Code_canBeRead (l : Launch) (D : va_G) (aC : Nat → ClassId) (A : Nat → Prop) (ad : Nat → Nat → Nat) (n : Nat) (σ : St) (iT : Nat) (hdT : dm n 41 iT) (o : St × Int32) (h : f_Code_canBeRead σ iT = some o) : Met l y_Code_canBeRead w_Code_canBeRead rm_Code_canBeRead (va_Pc [.ref (ad 41 iT)] (Pre D aC A ad n σ)) (va_Qi (fun r (_ : Unit) => r = o.2) (fun _ t => Hold D aC A ad n o.1 t.heap) A) 0 0 A := by
  refine Met.ofW (cc := prog_3_method_8_code) (maxL := 1) (ret := (some .boolean)) (by decide) rfl ?_
  intro p e s m args below meth c s₁ B hml hv
  obtain ⟨hargs, hH, hK, hZ⟩ := hv
  have hx := B.exec
  have hb := B.bytes
  have hr := B.returns
  have hts := atoms_spec (ws := w_Code_canBeRead) B.pre
  have hg : ∀ w ∈ gW, w.before args s = true := fun w h => hts w (List.mem_cons_of_mem _ h)
  have hown : s.vm.findClass "PrefixCodes$Code" = some m.cls := findClass_of_methodNamed B.named
  have hlocks := B.notSynchronized
  have hS : va_S A s.heap s.heap [] := va_S.rf
  have hl := lv_entry ([.ref (ad 41 iT)]) (n := 1) (Nat.le_of_ble_eq_true rfl)
  rw [show entryFrame m args 1 = entryFrame m (([.ref (ad 41 iT)] : List Value).toArray) 1 by rw [hargs], lg_entry_eq]
  generalize (lg_sl ([.ref (ad 41 iT)]) ++ List.replicate (1 - (lg_sl ([.ref (ad 41 iT)])).length) Slot.unset).toArray = ls at hl ⊢
  have hl : lv_has ls 1 [(0, .ref (ad 41 iT))] := hl
  generalize hQ0 : MQ below (va_Qi (fun r (_ : Unit) => r = o.2) (fun _ t => Hold D aC A ad n o.1 t.heap) A) args s 0 0 A = Q0
  unfold f_Code_canBeRead at h
  refine lv_aload_n hx hb d_Code_canBeRead_0 rfl (lv_at hl 0 rfl) ?_
  refine st_get hx hb hg hown hK hH (f := 41) (i := iT) hdT rfl rfl u_Code 10 (by decide) (hg _ wd_26) (v := .int (σ.1 41 iT 10)) rfl d_Code_canBeRead_1 ?_
  refine lv_iconst (v := 4) hx hb d_Code_canBeRead_4 (by decide) ?_
  refine lv_icmp_eq (tgt := 19) hx hb d_Code_canBeRead_5 (by decide) (fun c5 => ?_) (fun c5 => ?_)
  · have h := it h c5
    refine lv_iconst (v := 0) hx hb d_Code_canBeRead_19 (by decide) ?_
    cases h
    rw [← hQ0]
    exact W.zret hx hb hr rfl (fun t ht hW => ⟨⟨_, (), rfl, rfl, by dsimp only; rw [ht]; exact hH⟩, hS.F ht⟩) hS.2.2 d_Code_canBeRead_20
  · have h := ie h c5
    refine lv_aload_n hx hb d_Code_canBeRead_8 rfl (lv_at hl 0 rfl) ?_
    refine st_get hx hb hg hown hK hH (f := 41) (i := iT) hdT rfl rfl u_Code 10 (by decide) (hg _ wd_26) (v := .int (σ.1 41 iT 10)) rfl d_Code_canBeRead_9 ?_
    refine lv_if_eq (tgt := 19) hx hb d_Code_canBeRead_12 (by decide) (fun c12 => ?_) (fun c12 => ?_)
    · have h := it h c12
      refine lv_iconst (v := 0) hx hb d_Code_canBeRead_19 (by decide) ?_
      cases h
      rw [← hQ0]
      exact W.zret hx hb hr rfl (fun t ht hW => ⟨⟨_, (), rfl, rfl, by dsimp only; rw [ht]; exact hH⟩, hS.F ht⟩) hS.2.2 d_Code_canBeRead_20
    · have h := ie h c12
      refine lv_iconst (v := 1) hx hb d_Code_canBeRead_15 (by decide) ?_
      refine lv_goto (tgt := 20) hx hb d_Code_canBeRead_16 (by decide) ?_
      cases h
      rw [← hQ0]
      exact W.zret hx hb hr rfl (fun t ht hW => ⟨⟨_, (), rfl, rfl, by dsimp only; rw [ht]; exact hH⟩, hS.F ht⟩) hS.2.2 d_Code_canBeRead_20
set_option maxHeartbeats 4000000 in
set_option maxRecDepth 100000 in
theorem c_Stream_removeLast (l : Launch) (D : va_G) (aC : Nat → ClassId) (A : Nat → Prop) (ad : Nat → Nat → Nat) (n : Nat) (σ : St) (o : St × Int32) (h : f_Stream_removeLast σ  = some o) : Met l y_Stream_removeLast w_Stream_removeLast rm_Stream_removeLast (va_Pc [.ref (ad 3 0)] (Pre D aC A ad n σ)) (va_Qi (fun r (_ : Unit) => r = o.2) (fun _ t => Hold D aC A ad n o.1 t.heap) A) 0 0 A := by
  refine Met.ofW (cc := prog_9_method_10_code) (maxL := 2) (ret := (some .int)) (by decide) rfl ?_
  intro p e s m args below meth c s₁ B hml hv
  obtain ⟨hargs, hH, hK, hZ⟩ := hv
  have hx := B.exec
  have hb := B.bytes
  have hr := B.returns
  have hts := atoms_spec (ws := w_Stream_removeLast) B.pre
  have hg : ∀ w ∈ gW, w.before args s = true := fun w h => hts w (List.mem_cons_of_mem _ h)
  have hown : s.vm.findClass "PrefixCodes$Stream" = some m.cls := findClass_of_methodNamed B.named
  have hlocks := B.notSynchronized
  have hS : va_S A s.heap s.heap [] := va_S.rf
  have hl := lv_entry ([.ref (ad 3 0)]) (n := 2) (Nat.le_of_ble_eq_true rfl)
  rw [show entryFrame m args 2 = entryFrame m (([.ref (ad 3 0)] : List Value).toArray) 2 by rw [hargs], lg_entry_eq]
  generalize (lg_sl ([.ref (ad 3 0)]) ++ List.replicate (2 - (lg_sl ([.ref (ad 3 0)])).length) Slot.unset).toArray = ls at hl ⊢
  have hl : lv_has ls 2 [(0, .ref (ad 3 0))] := hl
  generalize hQ0 : MQ below (va_Qi (fun r (_ : Unit) => r = o.2) (fun _ t => Hold D aC A ad n o.1 t.heap) A) args s 0 0 A = Q0
  unfold f_Stream_removeLast at h
  refine lv_aload_n hx hb d_Stream_removeLast_0 rfl (lv_at hl 0 rfl) ?_
  refine st_get hx hb hg hown hK hH (f := 3) (i := 0) hd_3 rfl rfl u_Stream 2 (by decide) (hg _ wd_126) (v := .int (σ.1 3 0 2)) rfl d_Stream_removeLast_1 ?_
  refine lv_if_ne (tgt := 10) hx hb d_Stream_removeLast_4 (by decide) (fun c4 => ?_) (fun c4 => ?_)
  · have h := ie h c4
    refine lv_aload_n hx hb d_Stream_removeLast_10 rfl (lv_at hl 0 rfl) ?_
    refine lv_aload_n hx hb d_Stream_removeLast_11 rfl (lv_at hl 0 rfl) ?_
    refine st_get hx hb hg hown hK hH (f := 3) (i := 0) hd_3 rfl rfl u_Stream 2 (by decide) (hg _ wd_126) (v := .int (σ.1 3 0 2)) rfl d_Stream_removeLast_12 ?_
    refine lv_iconst (v := 1) hx hb d_Stream_removeLast_15 (by decide) ?_
    refine lv_isub hx hb d_Stream_removeLast_16 ?_
    obtain ⟨qc, hc17, h⟩ := b2_some h
    obtain ⟨σ1, x2⟩ := qc
    have h := b2_at h
    refine st_Vi (As := [.int ((σ.1 3 0 2) - 1)]) (rest := []) ⟨hx, hb, hml, hown, hg⟩ (c_Stream_at l D aC A ad n _ ((σ.1 3 0 2) - 1) _ hc17) (cwG hg wd_148 wd_149 wd_150 wd_151 wd_119 yd_Stream_at ⟨Nat.le_of_ble_eq_true rfl, Nat.le_of_ble_eq_true rfl⟩) hK hH hS hZ hd_3 rfl rfl rfl hl.1 rfl (Nat.le_of_ble_eq_true rfl) d_Stream_removeLast_17 ⟨Nat.zero_le _, Nat.zero_le _⟩ (fun H locs hH hS => ?_)
    refine lv_istore_n (lv' := [(1, .int x2), (0, .ref (ad 3 0))]) hx hb d_Stream_removeLast_20 rfl hl (by decide) rfl (fun ls hl => ?_)
    refine lv_aload_n hx hb d_Stream_removeLast_21 rfl (lv_at hl 1 rfl) ?_
    refine lv_dup hx hb d_Stream_removeLast_22 rfl ?_
    refine st_get hx hb hg hown hK hH (f := 3) (i := 0) hd_3 rfl rfl u_Stream 2 (by decide) (hg _ wd_126) (v := .int (σ1.1 3 0 2)) rfl d_Stream_removeLast_23 ?_
    refine lv_iconst (v := 1) hx hb d_Stream_removeLast_26 (by decide) ?_
    refine lv_isub hx hb d_Stream_removeLast_27 ?_
    refine st_put hx hb hg hown hK hH hS (f := 3) (i := 0) hd_3 rfl rfl u_Stream t_Stream t_Stream_ok n_Stream 2 (by decide) (hg _ wd_126) rfl rfl rfl d_Stream_removeLast_28 (fun σ3 H locs eσ3 hH hS => ?_)
    have h := nm_at eσ3 h
    refine lv_iload_n hx hb d_Stream_removeLast_31 rfl (lv_at hl 0 rfl) ?_
    cases h
    rw [← hQ0]
    exact W.iret hx hb hr (fun t ht hW => ⟨⟨_, (), rfl, rfl, by dsimp only; rw [ht]; exact hH⟩, hS.F ht⟩) hS.2.2 d_Stream_removeLast_32
  · have h := it h c4
    refine lv_bipush (v := (-104)) hx hb d_Stream_removeLast_7 (by decide) ?_
    cases h
    rw [← hQ0]
    exact W.iret hx hb hr (fun t ht hW => ⟨⟨_, (), rfl, rfl, by dsimp only; rw [ht]; exact hH⟩, hS.F ht⟩) hS.2.2 d_Stream_removeLast_9
set_option maxHeartbeats 4000000 in
set_option maxRecDepth 100000 in
theorem c_Code_removeSymbol (l : Launch) (D : va_G) (aC : Nat → ClassId) (A : Nat → Prop) (ad : Nat → Nat → Nat) (n : Nat) (σ : St) (iT : Nat) (a2 : Int32) (hdT : dm n 41 iT) (o : St × Int32) (h : f_Code_removeSymbol σ iT a2 = some o) : Met l y_Code_removeSymbol w_Code_removeSymbol rm_Code_removeSymbol (va_Pc [.ref (ad 41 iT), .ref (ad 3 0), .int a2] (Pre D aC A ad n σ)) (va_Qi (fun r (_ : Unit) => r = o.2) (fun _ t => Hold D aC A ad n o.1 t.heap) A) 0 0 A := by
  refine Met.ofW (cc := prog_3_method_10_code) (maxL := 7) (ret := (some .int)) (by decide) rfl ?_
  intro p e s m args below meth c s₁ B hml hv
  obtain ⟨hargs, hH, hK, hZ⟩ := hv
  have hx := B.exec
  have hb := B.bytes
  have hr := B.returns
  have hts := atoms_spec (ws := w_Code_removeSymbol) B.pre
  have hg : ∀ w ∈ gW, w.before args s = true := fun w h => hts w (List.mem_cons_of_mem _ h)
  have hown : s.vm.findClass "PrefixCodes$Code" = some m.cls := findClass_of_methodNamed B.named
  have hlocks := B.notSynchronized
  have hS : va_S A s.heap s.heap [] := va_S.rf
  have hl := lv_entry ([.ref (ad 41 iT), .ref (ad 3 0), .int a2]) (n := 7) (Nat.le_of_ble_eq_true rfl)
  rw [show entryFrame m args 7 = entryFrame m (([.ref (ad 41 iT), .ref (ad 3 0), .int a2] : List Value).toArray) 7 by rw [hargs], lg_entry_eq]
  generalize (lg_sl ([.ref (ad 41 iT), .ref (ad 3 0), .int a2]) ++ List.replicate (7 - (lg_sl ([.ref (ad 41 iT), .ref (ad 3 0), .int a2])).length) Slot.unset).toArray = ls at hl ⊢
  have hl : lv_has ls 7 [(0, .ref (ad 41 iT)), (1, .ref (ad 3 0)), (2, .int a2)] := hl
  generalize hQ0 : MQ below (va_Qi (fun r (_ : Unit) => r = o.2) (fun _ t => Hold D aC A ad n o.1 t.heap) A) args s 0 0 A = Q0
  unfold f_Code_removeSymbol at h
  refine lv_iconst (v := 0) hx hb d_Code_removeSymbol_0 (by decide) ?_
  refine lv_istore_n (lv' := [(3, .int 0), (0, .ref (ad 41 iT)), (1, .ref (ad 3 0)), (2, .int a2)]) hx hb d_Code_removeSymbol_1 rfl hl (by decide) rfl (fun ls hl => ?_)
  refine lv_iconst (v := 1) hx hb d_Code_removeSymbol_2 (by decide) ?_
  refine lv_istore (lv' := [(4, .int 1), (3, .int 0), (0, .ref (ad 41 iT)), (1, .ref (ad 3 0)), (2, .int a2)]) hx hb d_Code_removeSymbol_3 hl (by decide) rfl (fun ls hl => ?_)
  obtain ⟨q1, hq1, h⟩ := bs3_some h
  have K1 : ∀ (σ9 : St) (x10 : Int32) (x11 : Int32) (H : Heap) (locs : List Loc) (ls : Array Slot), q1 = .inl (σ9, x10, x11) → Hold D aC A ad n σ9 H → va_S A s.heap H locs → lv_has ls 7 [(0, .ref (ad 41 iT)), (1, .ref (ad 3 0)), (2, .int a2), (3, .int x10), (4, .int x11)] → W p l e (headSpec w_Code_removeSymbol rm_Code_removeSymbol).room s m args below meth c H locs 0 0 Q0 (F0 m 111 ls []) := by
    intro σ9 x10 x11 H locs ls eq1 hH hS hl
    subst eq1
    have h := bs3_at h
    refine lv_bipush (v := (-105)) hx hb d_Code_removeSymbol_111 (by decide) ?_
    cases h
    rw [← hQ0]
    exact W.iret hx hb hr (fun t ht hW => ⟨⟨_, (), rfl, rfl, by dsimp only; rw [ht]; exact hH⟩, hS.F ht⟩) hS.2.2 d_Code_removeSymbol_113
  have loop1 : ∀ (k : Nat) (σ : St) (v3 : Int32) (v4 : Int32) (H : Heap) (locs : List Loc) (ls : Array Slot), Hold D aC A ad n σ H → va_S A s.heap H locs → lv_has ls 7 [(0, .ref (ad 41 iT)), (1, .ref (ad 3 0)), (2, .int a2), (3, .int v3), (4, .int v4)] → lp (fun q => lb_Code_removeSymbol_5 iT a2 q.1 q.2.1 q.2.2) k (σ, v3, v4) = some q1 → W p l e (headSpec w_Code_removeSymbol rm_Code_removeSymbol).room s m args below meth c H locs 0 0 Q0 (F0 m 5 ls []) := by
    intro k
    induction k with
    | zero => intro σ v3 v4 H locs ls hH hS hl hlp; exact absurd hlp (lp_zero _ _ _)
    | succ k ih1 =>
      intro σ v3 v4 H locs ls hH hS hl hlp
      obtain ⟨z1, h1, hk1⟩ := lp_succ hlp
      have h1 : lb_Code_removeSymbol_5 iT a2 σ v3 v4 = some z1 := h1
      unfold lb_Code_removeSymbol_5 at h1
      have J27 : ∀ (σ : St) (p3 : Int32) (p4 : Int32) (k0 : Int32) (H : Heap) (locs : List Loc) (ls : Array Slot), Hold D aC A ad n σ H → va_S A s.heap H locs → lv_has ls 7 [(0, .ref (ad 41 iT)), (1, .ref (ad 3 0)), (2, .int a2), (3, .int p3), (4, .int p4)] → jn_Code_removeSymbol_27 iT a2 σ p3 p4 k0 = some z1 → W p l e (headSpec w_Code_removeSymbol rm_Code_removeSymbol).room s m args below meth c H locs 0 0 Q0 (F0 m 27 ls [.int k0]) := by
        intro σ p3 p4 k0  H locs ls hH hS hl h1
        unfold jn_Code_removeSymbol_27 at h1
        refine lv_istore (lv' := [(5, .int k0), (0, .ref (ad 41 iT)), (1, .ref (ad 3 0)), (2, .int a2), (3, .int p3), (4, .int p4)]) hx hb d_Code_removeSymbol_27 hl (by decide) rfl (fun ls hl => ?_)
        refine lv_iload hx hb d_Code_removeSymbol_29 (lv_at hl 0 rfl) ?_
        refine lv_if_ge (tgt := 37) hx hb d_Code_removeSymbol_31 (by decide) (fun c31 => ?_) (fun c31 => ?_)
        · have h1 := it h1 c31
          refine lv_iload_n hx hb d_Code_removeSymbol_37 rfl (lv_at hl 4 rfl) ?_
          refine lv_iconst (v := 1) hx hb d_Code_removeSymbol_38 (by decide) ?_
          refine lv_ishl hx hb d_Code_removeSymbol_39 ?_
          refine lv_iload hx hb d_Code_removeSymbol_40 (lv_at hl 0 rfl) ?_
          refine lv_ior hx hb d_Code_removeSymbol_42 ?_
          refine lv_topi (fun x3 ex3 => ?_)
          have h1 := nm_at ex3 h1
          refine lv_istore_n (lv' := [(3, .int x3), (5, .int k0), (0, .ref (ad 41 iT)), (1, .ref (ad 3 0)), (2, .int a2), (4, .int p4)]) hx hb d_Code_removeSymbol_43 rfl hl (by decide) rfl (fun ls hl => ?_)
          refine lv_iload_n hx hb d_Code_removeSymbol_44 rfl (lv_at hl 0 rfl) ?_
          refine lv_aload_n hx hb d_Code_removeSymbol_45 rfl (lv_at hl 2 rfl) ?_
          refine st_get hx hb hg hown hK hH (f := 41) (i := iT) hdT rfl rfl u_Code 5 (by decide) (hg _ wd_21) (v := .ref (ad 46 iT)) rfl d_Code_removeSymbol_46 ?_
          refine lv_iload hx hb d_Code_removeSymbol_49 (lv_at hl 5 rfl) ?_
          obtain ⟨g51, h1⟩ := gd_some h1
          refine st_iald hx hb hK hH (f := 46) (i := iT) hdT rfl g51 d_Code_removeSymbol_51 ?_
          refine lv_isub hx hb d_Code_removeSymbol_52 ?_
          refine lv_topi (fun x4 ex4 => ?_)
          have h1 := nm_at ex4 h1
          refine lv_istore (lv' := [(6, .int x4), (3, .int x3), (5, .int k0), (0, .ref (ad 41 iT)), (1, .ref (ad 3 0)), (2, .int a2), (4, .int p4)]) hx hb d_Code_removeSymbol_53 hl (by decide) rfl (fun ls hl => ?_)
          refine lv_iload hx hb d_Code_removeSymbol_55 (lv_at hl 0 rfl) ?_
          refine lv_if_lt (tgt := 88) hx hb d_Code_removeSymbol_57 (by decide) (fun c57 => ?_) (fun c57 => ?_)
          · have h1 := it h1 c57
            refine lv_iload_n hx hb d_Code_removeSymbol_88 rfl (lv_at hl 1 rfl) ?_
            refine lv_bipush (v := 15) hx hb d_Code_removeSymbol_89 (by decide) ?_
            refine lv_iload hx hb d_Code_removeSymbol_91 (lv_at hl 6 rfl) ?_
            refine lv_isub hx hb d_Code_removeSymbol_93 ?_
            refine lv_ishl hx hb d_Code_removeSymbol_94 ?_
            refine lv_aload_n hx hb d_Code_removeSymbol_95 rfl (lv_at hl 3 rfl) ?_
            refine st_get hx hb hg hown hK hH (f := 41) (i := iT) hdT rfl rfl u_Code 7 (by decide) (hg _ wd_18) (v := .int (σ.1 41 iT 7)) rfl d_Code_removeSymbol_96 ?_
            refine lv_icmp_lt (tgt := 105) hx hb d_Code_removeSymbol_99 (by decide) (fun c99 => ?_) (fun c99 => ?_)
            · have h1 := it h1 c99
              obtain ⟨x5, ex5⟩ : ∃ y : Int32, y = p4 + 1 := ⟨_, rfl⟩
              have h1 := nm_at ex5 h1
              refine lv_iinc (v := x5) (lv' := [(4, .int x5), (6, .int x4), (3, .int x3), (5, .int k0), (0, .ref (ad 41 iT)), (1, .ref (ad 3 0)), (2, .int a2)]) hx hb d_Code_removeSymbol_105 hl (k := 6) rfl (by rw [ex5]; rfl) (by decide) rfl (fun ls hl => ?_)
              refine lv_goto (tgt := 5) hx hb d_Code_removeSymbol_108 (by decide) ?_
              cases h1
              exact ih1 σ x3 x5 _ _ ls hH hS (lv_sub hl [4, 5, 6, 2, 0] rfl) hk1
            · have h1 := ie h1 c99
              refine lv_bipush (v := (-105)) hx hb d_Code_removeSymbol_102 (by decide) ?_
              cases h1
              have hk1 := Option.some.inj hk1
              subst hk1
              have h := bs3_r h
              cases h
              rw [← hQ0]
              exact W.iret hx hb hr (fun t ht hW => ⟨⟨_, (), rfl, rfl, by dsimp only; rw [ht]; exact hH⟩, hS.F ht⟩) hS.2.2 d_Code_removeSymbol_104
          · have h1 := ie h1 c57
            refine lv_iload hx hb d_Code_removeSymbol_60 (lv_at hl 0 rfl) ?_
            refine lv_aload_n hx hb d_Code_removeSymbol_62 rfl (lv_at hl 3 rfl) ?_
            refine st_get hx hb hg hown hK hH (f := 41) (i := iT) hdT rfl rfl u_Code 4 (by decide) (hg _ wd_11) (v := .ref (ad 45 iT)) rfl d_Code_removeSymbol_63 ?_
            refine lv_iload hx hb d_Code_removeSymbol_66 (lv_at hl 6 rfl) ?_
            obtain ⟨g68, h1⟩ := gd_some h1
            refine st_iald hx hb hK hH (f := 45) (i := iT) hdT rfl g68 d_Code_removeSymbol_68 ?_
            refine lv_icmp_ge (tgt := 88) hx hb d_Code_removeSymbol_69 (by decide) (fun c69 => ?_) (fun c69 => ?_)
            · have h1 := it h1 c69
              refine lv_iload_n hx hb d_Code_removeSymbol_88 rfl (lv_at hl 1 rfl) ?_
              refine lv_bipush (v := 15) hx hb d_Code_removeSymbol_89 (by decide) ?_
              refine lv_iload hx hb d_Code_removeSymbol_91 (lv_at hl 6 rfl) ?_
              refine lv_isub hx hb d_Code_removeSymbol_93 ?_
              refine lv_ishl hx hb d_Code_removeSymbol_94 ?_
              refine lv_aload_n hx hb d_Code_removeSymbol_95 rfl (lv_at hl 3 rfl) ?_
              refine st_get hx hb hg hown hK hH (f := 41) (i := iT) hdT rfl rfl u_Code 7 (by decide) (hg _ wd_18) (v := .int (σ.1 41 iT 7)) rfl d_Code_removeSymbol_96 ?_
              refine lv_icmp_lt (tgt := 105) hx hb d_Code_removeSymbol_99 (by decide) (fun c99 => ?_) (fun c99 => ?_)
              · have h1 := it h1 c99
                obtain ⟨x6, ex6⟩ : ∃ y : Int32, y = p4 + 1 := ⟨_, rfl⟩
                have h1 := nm_at ex6 h1
                refine lv_iinc (v := x6) (lv' := [(4, .int x6), (6, .int x4), (3, .int x3), (5, .int k0), (0, .ref (ad 41 iT)), (1, .ref (ad 3 0)), (2, .int a2)]) hx hb d_Code_removeSymbol_105 hl (k := 6) rfl (by rw [ex6]; rfl) (by decide) rfl (fun ls hl => ?_)
                refine lv_goto (tgt := 5) hx hb d_Code_removeSymbol_108 (by decide) ?_
                cases h1
                exact ih1 σ x3 x6 _ _ ls hH hS (lv_sub hl [4, 5, 6, 2, 0] rfl) hk1
              · have h1 := ie h1 c99
                refine lv_bipush (v := (-105)) hx hb d_Code_removeSymbol_102 (by decide) ?_
                cases h1
                have hk1 := Option.some.inj hk1
                subst hk1
                have h := bs3_r h
                cases h
                rw [← hQ0]
                exact W.iret hx hb hr (fun t ht hW => ⟨⟨_, (), rfl, rfl, by dsimp only; rw [ht]; exact hH⟩, hS.F ht⟩) hS.2.2 d_Code_removeSymbol_104
            · have h1 := ie h1 c69
              refine lv_aload_n hx hb d_Code_removeSymbol_72 rfl (lv_at hl 3 rfl) ?_
              refine st_get hx hb hg hown hK hH (f := 41) (i := iT) hdT rfl rfl u_Code 3 (by decide) (hg _ wd_24) (v := .ref (ad 44 iT)) rfl d_Code_removeSymbol_73 ?_
              refine lv_aload_n hx hb d_Code_removeSymbol_76 rfl (lv_at hl 3 rfl) ?_
              refine st_get hx hb hg hown hK hH (f := 41) (i := iT) hdT rfl rfl u_Code 6 (by decide) (hg _ wd_22) (v := .ref (ad 47 iT)) rfl d_Code_removeSymbol_77 ?_
              refine lv_iload hx hb d_Code_removeSymbol_80 (lv_at hl 6 rfl) ?_
              obtain ⟨g82, h1⟩ := gd_some h1
              refine st_iald hx hb hK hH (f := 47) (i := iT) hdT rfl g82 d_Code_removeSymbol_82 ?_
              refine lv_iload hx hb d_Code_removeSymbol_83 (lv_at hl 0 rfl) ?_
              refine lv_iadd hx hb d_Code_removeSymbol_85 ?_
              obtain ⟨g86, h1⟩ := gd_some h1
              refine st_iald hx hb hK hH (f := 44) (i := iT) hdT rfl g86 d_Code_removeSymbol_86 ?_
              cases h1
              have hk1 := Option.some.inj hk1
              subst hk1
              have h := bs3_r h
              cases h
              rw [← hQ0]
              exact W.iret hx hb hr (fun t ht hW => ⟨⟨_, (), rfl, rfl, by dsimp only; rw [ht]; exact hH⟩, hS.F ht⟩) hS.2.2 d_Code_removeSymbol_87
        · have h1 := ie h1 c31
          refine lv_bipush (v := (-104)) hx hb d_Code_removeSymbol_34 (by decide) ?_
          cases h1
          have hk1 := Option.some.inj hk1
          subst hk1
          have h := bs3_r h
          cases h
          rw [← hQ0]
          exact W.iret hx hb hr (fun t ht hW => ⟨⟨_, (), rfl, rfl, by dsimp only; rw [ht]; exact hH⟩, hS.F ht⟩) hS.2.2 d_Code_removeSymbol_36
      refine lv_iload hx hb d_Code_removeSymbol_5 (lv_at hl 4 rfl) ?_
      refine lv_bipush (v := 15) hx hb d_Code_removeSymbol_7 (by decide) ?_
      refine lv_icmp_gt (tgt := 111) hx hb d_Code_removeSymbol_9 (by decide) (fun c9 => ?_) (fun c9 => ?_)
      · have h1 := it h1 c9
        cases h1
        exact K1 σ v3 v4 _ _ ls (Option.some.inj hk1).symm hH hS (lv_sub hl [0, 1, 2, 3, 4] rfl)
      · have h1 := ie h1 c9
        refine lv_iload_n hx hb d_Code_removeSymbol_12 rfl (lv_at hl 2 rfl) ?_
        refine lv_if_eq (tgt := 23) hx hb d_Code_removeSymbol_13 (by decide) (fun c13 => ?_) (fun c13 => ?_)
        · have h1 := it h1 c13
          refine lv_aload_n hx hb d_Code_removeSymbol_23 rfl (lv_at hl 1 rfl) ?_
          obtain ⟨qc, hc24, h1⟩ := b2_some h1
          obtain ⟨σ1, x2⟩ := qc
          have h1 := b2_at h1
          refine st_Vi (As := []) (rest := []) ⟨hx, hb, hml, hown, hg⟩ (c_Stream_removeFirst l D aC A ad n _  _ hc24) (cwG hg wd_140 wd_152 wd_142 wd_143 wd_119 yd_Stream_removeFirst ⟨Nat.le_of_ble_eq_true rfl, Nat.le_of_ble_eq_true rfl⟩) hK hH hS hZ hd_3 rfl rfl rfl hl.1 rfl (Nat.le_of_ble_eq_true rfl) d_Code_removeSymbol_24 ⟨Nat.zero_le _, Nat.zero_le _⟩ (fun H locs hH hS => ?_)
          exact J27 σ1 v3 v4 x2 _ _ ls hH hS (lv_sub hl [0, 1, 2, 3, 4] rfl) h1
        · have h1 := ie h1 c13
          refine lv_aload_n hx hb d_Code_removeSymbol_16 rfl (lv_at hl 1 rfl) ?_
          obtain ⟨qc, hc17, h1⟩ := b2_some h1
          obtain ⟨σ7, x8⟩ := qc
          have h1 := b2_at h1
          refine st_Vi (As := []) (rest := []) ⟨hx, hb, hml, hown, hg⟩ (c_Stream_removeLast l D aC A ad n _  _ hc17) (cwG hg wd_153 wd_154 wd_155 wd_156 wd_119 yd_Stream_removeLast ⟨Nat.le_of_ble_eq_true rfl, Nat.le_of_ble_eq_true rfl⟩) hK hH hS hZ hd_3 rfl rfl rfl hl.1 rfl (Nat.le_of_ble_eq_true rfl) d_Code_removeSymbol_17 ⟨Nat.zero_le _, Nat.zero_le _⟩ (fun H locs hH hS => ?_)
          refine lv_goto (tgt := 27) hx hb d_Code_removeSymbol_20 (by decide) ?_
          exact J27 σ7 v3 v4 x8 _ _ ls hH hS (lv_sub hl [0, 1, 2, 3, 4] rfl) h1
  obtain ⟨k1, hq1⟩ := lpE_some hq1
  exact loop1 k1 σ 0 1 _ _ ls hH hS (lv_sub hl [2, 3, 4, 1, 0] rfl) hq1
set_option maxHeartbeats 4000000 in
set_option maxRecDepth 100000 in
theorem c_PC_take (l : Launch) (D : va_G) (aC : Nat → ClassId) (A : Nat → Prop) (ad : Nat → Nat → Nat) (n : Nat) (σ : St) (a1 : Int32) (a2 : Int32) (o : St × Int32) (h : f_PC_take σ a1 a2 = some o) : Met l y_PC_take w_PC_take rm_PC_take (va_Pc [.ref (ad 0 0), .int a1, .int a2] (Pre D aC A ad n σ)) (va_Qi (fun r (_ : Unit) => r = o.2) (fun _ t => Hold D aC A ad n o.1 t.heap) A) 0 0 A := by
  refine Met.ofW (cc := prog_1_method_16_code) (maxL := 4) (ret := (some .int)) (by decide) rfl ?_
  intro p e s m args below meth c s₁ B hml hv
  obtain ⟨hargs, hH, hK, hZ⟩ := hv
  have hx := B.exec
  have hb := B.bytes
  have hr := B.returns
  have hts := atoms_spec (ws := w_PC_take) B.pre
  have hg : ∀ w ∈ gW, w.before args s = true := fun w h => hts w (List.mem_cons_of_mem _ h)
  have hown : s.vm.findClass "PrefixCodes" = some m.cls := findClass_of_methodNamed B.named
  have hlocks := B.notSynchronized
  have hS : va_S A s.heap s.heap [] := va_S.rf
  have hl := lv_entry ([.ref (ad 0 0), .int a1, .int a2]) (n := 4) (Nat.le_of_ble_eq_true rfl)
  rw [show entryFrame m args 4 = entryFrame m (([.ref (ad 0 0), .int a1, .int a2] : List Value).toArray) 4 by rw [hargs], lg_entry_eq]
  generalize (lg_sl ([.ref (ad 0 0), .int a1, .int a2]) ++ List.replicate (4 - (lg_sl ([.ref (ad 0 0), .int a1, .int a2])).length) Slot.unset).toArray = ls at hl ⊢
  have hl : lv_has ls 4 [(0, .ref (ad 0 0)), (1, .int a1), (2, .int a2)] := hl
  generalize hQ0 : MQ below (va_Qi (fun r (_ : Unit) => r = o.2) (fun _ t => Hold D aC A ad n o.1 t.heap) A) args s 0 0 A = Q0
  unfold f_PC_take at h
  refine lv_aload_n hx hb d_PC_take_0 rfl (lv_at hl 0 rfl) ?_
  refine lv_iload_n hx hb d_PC_take_1 rfl (lv_at hl 1 rfl) ?_
  obtain ⟨qc, hc2, h⟩ := b2_some h
  obtain ⟨σ1, o2⟩ := qc
  have h := b2_at h
  refine st_Vq (As := [.int a1]) (rest := []) ⟨hx, hb, hml, hown, hg⟩ (c_PC_codeAt l D aC A ad n _ a1 _ hc2) (cwG hg wd_7 wd_8 wd_9 wd_10 wd_4 yd_PC_codeAt ⟨Nat.le_of_ble_eq_true rfl, Nat.le_of_ble_eq_true rfl⟩) hK hH hS hZ hd_0 rfl rfl rfl hl.1 rfl (Nat.le_of_ble_eq_true rfl) d_PC_take_2 ⟨Nat.zero_le _, Nat.zero_le _⟩ (fun c2 H locs hH hS => ?_) (fun j3 c2 hdj3 H locs hH hS => ?_)
  · have h := on_n h c2
    refine lv_astore_nN (lv' := [(3, .null), (0, .ref (ad 0 0)), (1, .int a1), (2, .int a2)]) hx hb d_PC_take_5 rfl hl (by decide) rfl (fun ls hl => ?_)
    refine lv_aload_nN hx hb d_PC_take_6 rfl (lv_at hl 0 rfl) ?_
    refine lv_ifnonnullN hx hb d_PC_take_7 ?_
    refine lv_bipush (v := (-101)) hx hb d_PC_take_10 (by decide) ?_
    cases h
    rw [← hQ0]
    exact W.iret hx hb hr (fun t ht hW => ⟨⟨_, (), rfl, rfl, by dsimp only; rw [ht]; exact hH⟩, hS.F ht⟩) hS.2.2 d_PC_take_12
  · have h := on_s h c2
    refine lv_astore_n (lv' := [(3, .ref (ad 41 j3)), (0, .ref (ad 0 0)), (1, .int a1), (2, .int a2)]) hx hb d_PC_take_5 rfl hl (by decide) rfl (fun ls hl => ?_)
    refine lv_aload_n hx hb d_PC_take_6 rfl (lv_at hl 0 rfl) ?_
    refine lv_ifnonnull (tgt := 13) hx hb d_PC_take_7 (by decide) ?_
    refine lv_aload_n hx hb d_PC_take_13 rfl (lv_at hl 0 rfl) ?_
    obtain ⟨qc, hc14, h⟩ := b2_some h
    obtain ⟨σ4, x5⟩ := qc
    have h := b2_at h
    refine st_Vi (As := []) (rest := []) ⟨hx, hb, hml, hown, hg⟩ (c_Code_canBeRead l D aC A ad n _ j3 hdj3 _ hc14) (cwG hg wd_157 wd_158 wd_159 wd_160 wd_29 yd_Code_canBeRead ⟨Nat.le_of_ble_eq_true rfl, Nat.le_of_ble_eq_true rfl⟩) hK hH hS hZ hdj3 rfl rfl rfl hl.1 rfl (Nat.le_of_ble_eq_true rfl) d_PC_take_14 ⟨Nat.zero_le _, Nat.zero_le _⟩ (fun H locs hH hS => ?_)
    refine lv_if_ne (tgt := 23) hx hb d_PC_take_17 (by decide) (fun c17 => ?_) (fun c17 => ?_)
    · have h := ie h c17
      refine lv_aload_n hx hb d_PC_take_23 rfl (lv_at hl 0 rfl) ?_
      refine lv_aload_n hx hb d_PC_take_24 rfl (lv_at hl 1 rfl) ?_
      refine st_get hx hb hg hown hK hH (f := 0) (i := 0) hd_0 rfl rfl u_PC 3 (by decide) (hg _ wd_113) (v := .ref (ad 3 0)) rfl d_PC_take_25 ?_
      refine lv_iload_n hx hb d_PC_take_28 rfl (lv_at hl 3 rfl) ?_
      obtain ⟨qc, hc29, h⟩ := b2_some h
      obtain ⟨σ6, x7⟩ := qc
      have h := b2_at h
      refine st_Vi (As := [.ref (ad 3 0), .int a2]) (rest := []) ⟨hx, hb, hml, hown, hg⟩ (c_Code_removeSymbol l D aC A ad n _ j3 a2 hdj3 _ hc29) (cwG hg wd_161 wd_162 wd_163 wd_164 wd_29 yd_Code_removeSymbol ⟨Nat.le_of_ble_eq_true rfl, Nat.le_of_ble_eq_true rfl⟩) hK hH hS hZ hdj3 rfl rfl rfl hl.1 rfl (Nat.le_of_ble_eq_true rfl) d_PC_take_29 ⟨Nat.zero_le _, Nat.zero_le _⟩ (fun H locs hH hS => ?_)
      cases h
      rw [← hQ0]
      exact W.iret hx hb hr (fun t ht hW => ⟨⟨_, (), rfl, rfl, by dsimp only; rw [ht]; exact hH⟩, hS.F ht⟩) hS.2.2 d_PC_take_32
    · have h := it h c17
      refine lv_bipush (v := (-103)) hx hb d_PC_take_20 (by decide) ?_
      cases h
      rw [← hQ0]
      exact W.iret hx hb hr (fun t ht hW => ⟨⟨_, (), rfl, rfl, by dsimp only; rw [ht]; exact hH⟩, hS.F ht⟩) hS.2.2 d_PC_take_22
set_option maxHeartbeats 4000000 in
set_option maxRecDepth 100000 in
theorem c_Stream_begin (l : Launch) (D : va_G) (aC : Nat → ClassId) (A : Nat → Prop) (ad : Nat → Nat → Nat) (n : Nat) (σ : St) (o : St) (h : f_Stream_begin σ  = some o) : Met l y_Stream_begin w_Stream_begin rm_Stream_begin (va_Pc [.ref (ad 3 0)] (Pre D aC A ad n σ)) (va_Qv (fun (_ : Unit) => True) (fun _ t => Hold D aC A ad n o t.heap) A) 0 0 A := by
  refine Met.ofW (cc := prog_9_method_5_code) (maxL := 1) (ret := none) (by decide) rfl ?_
  intro p e s m args below meth c s₁ B hml hv
  obtain ⟨hargs, hH, hK, hZ⟩ := hv
  have hx := B.exec
  have hb := B.bytes
  have hr := B.returns
  have hts := atoms_spec (ws := w_Stream_begin) B.pre
  have hg : ∀ w ∈ gW, w.before args s = true := fun w h => hts w (List.mem_cons_of_mem _ h)
  have hown : s.vm.findClass "PrefixCodes$Stream" = some m.cls := findClass_of_methodNamed B.named
  have hlocks := B.notSynchronized
  have hS : va_S A s.heap s.heap [] := va_S.rf
  have hl := lv_entry ([.ref (ad 3 0)]) (n := 1) (Nat.le_of_ble_eq_true rfl)
  rw [show entryFrame m args 1 = entryFrame m (([.ref (ad 3 0)] : List Value).toArray) 1 by rw [hargs], lg_entry_eq]
  generalize (lg_sl ([.ref (ad 3 0)]) ++ List.replicate (1 - (lg_sl ([.ref (ad 3 0)])).length) Slot.unset).toArray = ls at hl ⊢
  have hl : lv_has ls 1 [(0, .ref (ad 3 0))] := hl
  generalize hQ0 : MQ below (va_Qv (fun (_ : Unit) => True) (fun _ t => Hold D aC A ad n o t.heap) A) args s 0 0 A = Q0
  unfold f_Stream_begin at h
  refine lv_aload_n hx hb d_Stream_begin_0 rfl (lv_at hl 0 rfl) ?_
  refine lv_aload_n hx hb d_Stream_begin_1 rfl (lv_at hl 0 rfl) ?_
  refine st_get hx hb hg hown hK hH (f := 3) (i := 0) hd_3 rfl rfl u_Stream 2 (by decide) (hg _ wd_126) (v := .int (σ.1 3 0 2)) rfl d_Stream_begin_2 ?_
  refine st_put hx hb hg hown hK hH hS (f := 3) (i := 0) hd_3 rfl rfl u_Stream t_Stream t_Stream_ok n_Stream 3 (by decide) (hg _ wd_165) rfl rfl rfl d_Stream_begin_5 (fun σ1 H locs eσ1 hH hS => ?_)
  have h := nm_at eσ1 h
  refine lv_aload_n hx hb d_Stream_begin_8 rfl (lv_at hl 0 rfl) ?_
  refine lv_iconst (v := 0) hx hb d_Stream_begin_9 (by decide) ?_
  refine st_putV (ty := .boolean) hx hb hg hown hK hH hS (f := 3) (i := 0) hd_3 rfl rfl u_Stream t_Stream t_Stream_ok n_Stream 4 (by decide) (hg _ wd_127) rfl rfl (t_Stream_ok 4 (by decide)) rfl rfl d_Stream_begin_10 (fun σ2 H locs eσ2 hH hS => ?_)
  have h := nm_at eσ2 h
  cases h
  rw [← hQ0]
  exact W.vret hx hb hr (fun t ht hW => ⟨⟨(), rfl, trivial, by dsimp only; rw [ht]; exact hH⟩, hS.F ht⟩) hS.2.2 d_Stream_begin_13
set_option maxHeartbeats 4000000 in
set_option maxRecDepth 100000 in
theorem c_Manners_appendPlain (l : Launch) (D : va_G) (aC : Nat → ClassId) (A : Nat → Prop) (ad : Nat → Nat → Nat) (n : Nat) (σ : St) (ia1 : Nat) (hda1 : dm n 41 ia1) (o : St) (h : f_Manners_appendPlain σ ia1 = some o) : Met l y_Manners_appendPlain w_Manners_appendPlain rm_Manners_appendPlain (va_Pc [.ref (ad 13 0), .ref (ad 41 ia1)] (Pre D aC A ad n σ)) (va_Qv (fun (_ : Unit) => True) (fun _ t => Hold D aC A ad n o t.heap) A) 0 0 A := by
  refine Met.ofW (cc := prog_5_method_4_code) (maxL := 3) (ret := none) (by decide) rfl ?_
  intro p e s m args below meth c s₁ B hml hv
  obtain ⟨hargs, hH, hK, hZ⟩ := hv
  have hx := B.exec
  have hb := B.bytes
  have hr := B.returns
  have hts := atoms_spec (ws := w_Manners_appendPlain) B.pre
  have hg : ∀ w ∈ gW, w.before args s = true := fun w h => hts w (List.mem_cons_of_mem _ h)
  have hown : s.vm.findClass "PrefixCodes$Manners" = some m.cls := findClass_of_methodNamed B.named
  have hlocks := B.notSynchronized
  have hS : va_S A s.heap s.heap [] := va_S.rf
  have hl := lv_entry ([.ref (ad 13 0), .ref (ad 41 ia1)]) (n := 3) (Nat.le_of_ble_eq_true rfl)
  rw [show entryFrame m args 3 = entryFrame m (([.ref (ad 13 0), .ref (ad 41 ia1)] : List Value).toArray) 3 by rw [hargs], lg_entry_eq]
  generalize (lg_sl ([.ref (ad 13 0), .ref (ad 41 ia1)]) ++ List.replicate (3 - (lg_sl ([.ref (ad 13 0), .ref (ad 41 ia1)])).length) Slot.unset).toArray = ls at hl ⊢
  have hl : lv_has ls 3 [(0, .ref (ad 13 0)), (1, .ref (ad 41 ia1))] := hl
  generalize hQ0 : MQ below (va_Qv (fun (_ : Unit) => True) (fun _ t => Hold D aC A ad n o t.heap) A) args s 0 0 A = Q0
  unfold f_Manners_appendPlain at h
  refine lv_iconst (v := 0) hx hb d_Manners_appendPlain_0 (by decide) ?_
  refine lv_istore_n (lv' := [(2, .int 0), (0, .ref (ad 13 0)), (1, .ref (ad 41 ia1))]) hx hb d_Manners_appendPlain_1 rfl hl (by decide) rfl (fun ls hl => ?_)
  obtain ⟨q1, hq1, h⟩ := b2_some h
  have K1 : ∀ (σ3 : St) (x4 : Int32) (H : Heap) (locs : List Loc) (ls : Array Slot), q1 = (σ3, x4) → Hold D aC A ad n σ3 H → va_S A s.heap H locs → lv_has ls 3 [(0, .ref (ad 13 0)), (1, .ref (ad 41 ia1)), (2, .int x4)] → W p l e (headSpec w_Manners_appendPlain rm_Manners_appendPlain).room s m args below meth c H locs 0 0 Q0 (F0 m 30 ls []) := by
    intro σ3 x4 H locs ls eq1 hH hS hl
    subst eq1
    have h := b2_at h
    cases h
    rw [← hQ0]
    exact W.vret hx hb hr (fun t ht hW => ⟨⟨(), rfl, trivial, by dsimp only; rw [ht]; exact hH⟩, hS.F ht⟩) hS.2.2 d_Manners_appendPlain_30
  have loop1 : ∀ (k : Nat) (σ : St) (v2 : Int32) (H : Heap) (locs : List Loc) (ls : Array Slot), Hold D aC A ad n σ H → va_S A s.heap H locs → lv_has ls 3 [(0, .ref (ad 13 0)), (1, .ref (ad 41 ia1)), (2, .int v2)] → lp (fun q => lb_Manners_appendPlain_2 ia1 q.1 q.2) k (σ, v2) = some q1 → W p l e (headSpec w_Manners_appendPlain rm_Manners_appendPlain).room s m args below meth c H locs 0 0 Q0 (F0 m 2 ls []) := by
    intro k
    induction k with
    | zero => intro σ v2 H locs ls hH hS hl hlp; exact absurd hlp (lp_zero _ _ _)
    | succ k ih1 =>
      intro σ v2 H locs ls hH hS hl hlp
      obtain ⟨z1, h1, hk1⟩ := lp_succ hlp
      have h1 : lb_Manners_appendPlain_2 ia1 σ v2 = some z1 := h1
      unfold lb_Manners_appendPlain_2 at h1
      refine lv_iload_n hx hb d_Manners_appendPlain_2 rfl (lv_at hl 2 rfl) ?_
      refine lv_aload_n hx hb d_Manners_appendPlain_3 rfl (lv_at hl 1 rfl) ?_
      refine st_get hx hb hg hown hK hH (f := 41) (i := ia1) hda1 rfl rfl u_Code 0 (by decide) (hg _ wd_166) (v := .int (σ.1 41 ia1 0)) rfl d_Manners_appendPlain_4 ?_
      refine lv_icmp_ge (tgt := 30) hx hb d_Manners_appendPlain_7 (by decide) (fun c7 => ?_) (fun c7 => ?_)
      · have h1 := it h1 c7
        cases h1
        exact K1 σ v2 _ _ ls (Option.some.inj hk1).symm hH hS (lv_sub hl [0, 1, 2] rfl)
      · have h1 := ie h1 c7
        refine lv_aload_n hx hb d_Manners_appendPlain_10 rfl (lv_at hl 0 rfl) ?_
        refine st_get hx hb hg hown hK hH (f := 13) (i := 0) hd_13 rfl rfl u_Manners 0 (by decide) (hg _ wd_167) (v := .ref (ad 3 0)) rfl d_Manners_appendPlain_11 ?_
        refine lv_aload_n hx hb d_Manners_appendPlain_14 rfl (lv_at hl 1 rfl) ?_
        refine st_get hx hb hg hown hK hH (f := 41) (i := ia1) hda1 rfl rfl u_Code 1 (by decide) (hg _ wd_168) (v := .ref (ad 42 ia1)) rfl d_Manners_appendPlain_15 ?_
        refine lv_iload_n hx hb d_Manners_appendPlain_18 rfl (lv_at hl 2 rfl) ?_
        obtain ⟨g19, h1⟩ := gd_some h1
        refine st_iald hx hb hK hH (f := 42) (i := ia1) hda1 rfl g19 d_Manners_appendPlain_19 ?_
        refine lv_iconst (v := 4) hx hb d_Manners_appendPlain_20 (by decide) ?_
        obtain ⟨qc, hc21, h1⟩ := b1_some h1
        obtain ⟨σ1, rfl⟩ : ∃ z, z = qc := ⟨_, rfl⟩
        have h1 := b1_at h1
        refine st_Vv (As := [.int (σ.1 42 ia1 v2.toNatClampNeg), .int 4]) (rest := []) ⟨hx, hb, hml, hown, hg⟩ (c_Stream_appendNumber l D aC A ad n _ (σ.1 42 ia1 v2.toNatClampNeg) 4 _ hc21) (cwG hg wd_132 wd_169 wd_134 wd_135 wd_119 yd_Stream_appendNumber ⟨Nat.le_of_ble_eq_true rfl, Nat.le_of_ble_eq_true rfl⟩) hK hH hS hZ hd_3 rfl rfl rfl hl.1 rfl (Nat.le_of_ble_eq_true rfl) d_Manners_appendPlain_21 ⟨Nat.zero_le _, Nat.zero_le _⟩ (fun H locs hH hS => ?_)
        obtain ⟨x2, ex2⟩ : ∃ y : Int32, y = v2 + 1 := ⟨_, rfl⟩
        have h1 := nm_at ex2 h1
        refine lv_iinc (v := x2) (lv' := [(2, .int x2), (0, .ref (ad 13 0)), (1, .ref (ad 41 ia1))]) hx hb d_Manners_appendPlain_24 hl (k := 2) rfl (by rw [ex2]; rfl) (by decide) rfl (fun ls hl => ?_)
        refine lv_goto (tgt := 2) hx hb d_Manners_appendPlain_27 (by decide) ?_
        cases h1
        exact ih1 σ1 x2 _ _ ls hH hS (lv_sub hl [1, 2, 0] rfl) hk1
  obtain ⟨k1, hq1⟩ := lpE_some hq1
  exact loop1 k1 σ 0 _ _ ls hH hS (lv_sub hl [1, 2, 0] rfl) hq1
