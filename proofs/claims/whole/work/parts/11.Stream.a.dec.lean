theorem d_Stream_placeOf_0 : decode prog_9_method_2_code 0 = .ok (.aload_n 0, 1) := by decide +kernel
theorem d_Stream_placeOf_1 : decode prog_9_method_2_code 1 = .ok (.getfield 15, 3) := by decide +kernel
theorem d_Stream_placeOf_4 : decode prog_9_method_2_code 4 = .ok (.iload_n 1, 1) := by decide +kernel
theorem d_Stream_placeOf_5 : decode prog_9_method_2_code 5 = .ok (.iadd, 1) := by decide +kernel
theorem d_Stream_placeOf_6 : decode prog_9_method_2_code 6 = .ok (.sipush 20000, 3) := by decide +kernel
theorem d_Stream_placeOf_9 : decode prog_9_method_2_code 9 = .ok (.irem, 1) := by decide +kernel
theorem d_Stream_placeOf_10 : decode prog_9_method_2_code 10 = .ok (.ireturn, 1) := by decide +kernel
theorem d_Stream_bitOf_0 : decode prog_9_method_3_code 0 = .ok (.aload_n 0, 1) := by decide +kernel
theorem d_Stream_bitOf_1 : decode prog_9_method_3_code 1 = .ok (.getfield 11, 3) := by decide +kernel
theorem d_Stream_bitOf_4 : decode prog_9_method_3_code 4 = .ok (.iload_n 1, 1) := by decide +kernel
theorem d_Stream_bitOf_5 : decode prog_9_method_3_code 5 = .ok (.bipush 32, 2) := by decide +kernel
theorem d_Stream_bitOf_7 : decode prog_9_method_3_code 7 = .ok (.idiv, 1) := by decide +kernel
theorem d_Stream_bitOf_8 : decode prog_9_method_3_code 8 = .ok (.iaload, 1) := by decide +kernel
theorem d_Stream_bitOf_9 : decode prog_9_method_3_code 9 = .ok (.iload_n 1, 1) := by decide +kernel
theorem d_Stream_bitOf_10 : decode prog_9_method_3_code 10 = .ok (.bipush 32, 2) := by decide +kernel
theorem d_Stream_bitOf_12 : decode prog_9_method_3_code 12 = .ok (.irem, 1) := by decide +kernel
theorem d_Stream_bitOf_13 : decode prog_9_method_3_code 13 = .ok (.iushr, 1) := by decide +kernel
theorem d_Stream_bitOf_14 : decode prog_9_method_3_code 14 = .ok (.iconst 1, 1) := by decide +kernel
theorem d_Stream_bitOf_15 : decode prog_9_method_3_code 15 = .ok (.iand, 1) := by decide +kernel
theorem d_Stream_bitOf_16 : decode prog_9_method_3_code 16 = .ok (.ireturn, 1) := by decide +kernel
theorem d_Stream_at_0 : decode prog_9_method_4_code 0 = .ok (.aload_n 0, 1) := by decide +kernel
theorem d_Stream_at_1 : decode prog_9_method_4_code 1 = .ok (.aload_n 0, 1) := by decide +kernel
theorem d_Stream_at_2 : decode prog_9_method_4_code 2 = .ok (.iload_n 1, 1) := by decide +kernel
theorem d_Stream_at_3 : decode prog_9_method_4_code 3 = .ok (.invokevirtual 29, 3) := by decide +kernel
theorem d_Stream_at_6 : decode prog_9_method_4_code 6 = .ok (.invokevirtual 33, 3) := by decide +kernel
theorem d_Stream_at_9 : decode prog_9_method_4_code 9 = .ok (.ireturn, 1) := by decide +kernel
theorem d_Stream_append_0 : decode prog_9_method_7_code 0 = .ok (.aload_n 0, 1) := by decide +kernel
theorem d_Stream_append_1 : decode prog_9_method_7_code 1 = .ok (.getfield 19, 3) := by decide +kernel
theorem d_Stream_append_4 : decode prog_9_method_7_code 4 = .ok (.sipush 20000, 3) := by decide +kernel
theorem d_Stream_append_7 : decode prog_9_method_7_code 7 = .ok (.if_icmp .lt 9, 3) := by decide +kernel
theorem d_Stream_append_10 : decode prog_9_method_7_code 10 = .ok (.aload_n 0, 1) := by decide +kernel
theorem d_Stream_append_11 : decode prog_9_method_7_code 11 = .ok (.iconst 1, 1) := by decide +kernel
theorem d_Stream_append_12 : decode prog_9_method_7_code 12 = .ok (.putfield 25, 3) := by decide +kernel
theorem d_Stream_append_15 : decode prog_9_method_7_code 15 = .ok (.return_, 1) := by decide +kernel
theorem d_Stream_append_16 : decode prog_9_method_7_code 16 = .ok (.aload_n 0, 1) := by decide +kernel
theorem d_Stream_append_17 : decode prog_9_method_7_code 17 = .ok (.aload_n 0, 1) := by decide +kernel
theorem d_Stream_append_18 : decode prog_9_method_7_code 18 = .ok (.getfield 19, 3) := by decide +kernel
theorem d_Stream_append_21 : decode prog_9_method_7_code 21 = .ok (.invokevirtual 29, 3) := by decide +kernel
theorem d_Stream_append_24 : decode prog_9_method_7_code 24 = .ok (.istore_n 2, 1) := by decide +kernel
theorem d_Stream_append_25 : decode prog_9_method_7_code 25 = .ok (.iconst 1, 1) := by decide +kernel
theorem d_Stream_append_26 : decode prog_9_method_7_code 26 = .ok (.iload_n 2, 1) := by decide +kernel
theorem d_Stream_append_27 : decode prog_9_method_7_code 27 = .ok (.bipush 32, 2) := by decide +kernel
theorem d_Stream_append_29 : decode prog_9_method_7_code 29 = .ok (.irem, 1) := by decide +kernel
theorem d_Stream_append_30 : decode prog_9_method_7_code 30 = .ok (.ishl, 1) := by decide +kernel
theorem d_Stream_append_31 : decode prog_9_method_7_code 31 = .ok (.istore_n 3, 1) := by decide +kernel
theorem d_Stream_append_32 : decode prog_9_method_7_code 32 = .ok (.aload_n 0, 1) := by decide +kernel
theorem d_Stream_append_33 : decode prog_9_method_7_code 33 = .ok (.getfield 11, 3) := by decide +kernel
theorem d_Stream_append_36 : decode prog_9_method_7_code 36 = .ok (.iload_n 2, 1) := by decide +kernel
theorem d_Stream_append_37 : decode prog_9_method_7_code 37 = .ok (.bipush 32, 2) := by decide +kernel
theorem d_Stream_append_39 : decode prog_9_method_7_code 39 = .ok (.idiv, 1) := by decide +kernel
theorem d_Stream_append_40 : decode prog_9_method_7_code 40 = .ok (.iaload, 1) := by decide +kernel
theorem d_Stream_append_41 : decode prog_9_method_7_code 41 = .ok (.iload_n 3, 1) := by decide +kernel
theorem d_Stream_append_42 : decode prog_9_method_7_code 42 = .ok (.iconst (-1), 1) := by decide +kernel
theorem d_Stream_append_43 : decode prog_9_method_7_code 43 = .ok (.ixor, 1) := by decide +kernel
theorem d_Stream_append_44 : decode prog_9_method_7_code 44 = .ok (.iand, 1) := by decide +kernel
theorem d_Stream_append_45 : decode prog_9_method_7_code 45 = .ok (.istore 4, 2) := by decide +kernel
theorem d_Stream_append_47 : decode prog_9_method_7_code 47 = .ok (.aload_n 0, 1) := by decide +kernel
theorem d_Stream_append_48 : decode prog_9_method_7_code 48 = .ok (.getfield 11, 3) := by decide +kernel
theorem d_Stream_append_51 : decode prog_9_method_7_code 51 = .ok (.iload_n 2, 1) := by decide +kernel
theorem d_Stream_append_52 : decode prog_9_method_7_code 52 = .ok (.bipush 32, 2) := by decide +kernel
theorem d_Stream_append_54 : decode prog_9_method_7_code 54 = .ok (.idiv, 1) := by decide +kernel
theorem d_Stream_append_55 : decode prog_9_method_7_code 55 = .ok (.iload_n 1, 1) := by decide +kernel
theorem d_Stream_append_56 : decode prog_9_method_7_code 56 = .ok (.ifCond .ne 8, 3) := by decide +kernel
theorem d_Stream_append_59 : decode prog_9_method_7_code 59 = .ok (.iload 4, 2) := by decide +kernel
theorem d_Stream_append_61 : decode prog_9_method_7_code 61 = .ok (.goto 7, 3) := by decide +kernel
theorem d_Stream_append_64 : decode prog_9_method_7_code 64 = .ok (.iload 4, 2) := by decide +kernel
theorem d_Stream_append_66 : decode prog_9_method_7_code 66 = .ok (.iload_n 3, 1) := by decide +kernel
theorem d_Stream_append_67 : decode prog_9_method_7_code 67 = .ok (.ior, 1) := by decide +kernel
theorem d_Stream_append_68 : decode prog_9_method_7_code 68 = .ok (.iastore, 1) := by decide +kernel
theorem d_Stream_append_69 : decode prog_9_method_7_code 69 = .ok (.aload_n 0, 1) := by decide +kernel
theorem d_Stream_append_70 : decode prog_9_method_7_code 70 = .ok (.dup, 1) := by decide +kernel
theorem d_Stream_append_71 : decode prog_9_method_7_code 71 = .ok (.getfield 19, 3) := by decide +kernel
theorem d_Stream_append_74 : decode prog_9_method_7_code 74 = .ok (.iconst 1, 1) := by decide +kernel
theorem d_Stream_append_75 : decode prog_9_method_7_code 75 = .ok (.iadd, 1) := by decide +kernel
theorem d_Stream_append_76 : decode prog_9_method_7_code 76 = .ok (.putfield 19, 3) := by decide +kernel
theorem d_Stream_append_79 : decode prog_9_method_7_code 79 = .ok (.return_, 1) := by decide +kernel
theorem d_Stream_appendNumber_0 : decode prog_9_method_8_code 0 = .ok (.iload_n 2, 1) := by decide +kernel
theorem d_Stream_appendNumber_1 : decode prog_9_method_8_code 1 = .ok (.iconst 1, 1) := by decide +kernel
theorem d_Stream_appendNumber_2 : decode prog_9_method_8_code 2 = .ok (.isub, 1) := by decide +kernel
theorem d_Stream_appendNumber_3 : decode prog_9_method_8_code 3 = .ok (.istore_n 3, 1) := by decide +kernel
theorem d_Stream_appendNumber_4 : decode prog_9_method_8_code 4 = .ok (.iload_n 3, 1) := by decide +kernel
theorem d_Stream_appendNumber_5 : decode prog_9_method_8_code 5 = .ok (.ifCond .lt 18, 3) := by decide +kernel
theorem d_Stream_appendNumber_8 : decode prog_9_method_8_code 8 = .ok (.aload_n 0, 1) := by decide +kernel
theorem d_Stream_appendNumber_9 : decode prog_9_method_8_code 9 = .ok (.iload_n 1, 1) := by decide +kernel
theorem d_Stream_appendNumber_10 : decode prog_9_method_8_code 10 = .ok (.iload_n 3, 1) := by decide +kernel
theorem d_Stream_appendNumber_11 : decode prog_9_method_8_code 11 = .ok (.iushr, 1) := by decide +kernel
theorem d_Stream_appendNumber_12 : decode prog_9_method_8_code 12 = .ok (.iconst 1, 1) := by decide +kernel
theorem d_Stream_appendNumber_13 : decode prog_9_method_8_code 13 = .ok (.iand, 1) := by decide +kernel
theorem d_Stream_appendNumber_14 : decode prog_9_method_8_code 14 = .ok (.invokevirtual 36, 3) := by decide +kernel
theorem d_Stream_appendNumber_17 : decode prog_9_method_8_code 17 = .ok (.iinc 3 (-1), 3) := by decide +kernel
theorem d_Stream_appendNumber_20 : decode prog_9_method_8_code 20 = .ok (.goto (-16), 3) := by decide +kernel
theorem d_Stream_appendNumber_23 : decode prog_9_method_8_code 23 = .ok (.return_, 1) := by decide +kernel
theorem d_Stream_removeFirst_0 : decode prog_9_method_9_code 0 = .ok (.aload_n 0, 1) := by decide +kernel
theorem d_Stream_removeFirst_1 : decode prog_9_method_9_code 1 = .ok (.getfield 19, 3) := by decide +kernel
theorem d_Stream_removeFirst_4 : decode prog_9_method_9_code 4 = .ok (.ifCond .ne 6, 3) := by decide +kernel
theorem d_Stream_removeFirst_7 : decode prog_9_method_9_code 7 = .ok (.bipush (-104), 2) := by decide +kernel
theorem d_Stream_removeFirst_9 : decode prog_9_method_9_code 9 = .ok (.ireturn, 1) := by decide +kernel
theorem d_Stream_removeFirst_10 : decode prog_9_method_9_code 10 = .ok (.aload_n 0, 1) := by decide +kernel
theorem d_Stream_removeFirst_11 : decode prog_9_method_9_code 11 = .ok (.aload_n 0, 1) := by decide +kernel
theorem d_Stream_removeFirst_12 : decode prog_9_method_9_code 12 = .ok (.getfield 15, 3) := by decide +kernel
theorem d_Stream_removeFirst_15 : decode prog_9_method_9_code 15 = .ok (.invokevirtual 33, 3) := by decide +kernel
theorem d_Stream_removeFirst_18 : decode prog_9_method_9_code 18 = .ok (.istore_n 1, 1) := by decide +kernel
theorem d_Stream_removeFirst_19 : decode prog_9_method_9_code 19 = .ok (.aload_n 0, 1) := by decide +kernel
theorem d_Stream_removeFirst_20 : decode prog_9_method_9_code 20 = .ok (.aload_n 0, 1) := by decide +kernel
theorem d_Stream_removeFirst_21 : decode prog_9_method_9_code 21 = .ok (.iconst 1, 1) := by decide +kernel
theorem d_Stream_removeFirst_22 : decode prog_9_method_9_code 22 = .ok (.invokevirtual 29, 3) := by decide +kernel
theorem d_Stream_removeFirst_25 : decode prog_9_method_9_code 25 = .ok (.putfield 15, 3) := by decide +kernel
theorem d_Stream_removeFirst_28 : decode prog_9_method_9_code 28 = .ok (.aload_n 0, 1) := by decide +kernel
theorem d_Stream_removeFirst_29 : decode prog_9_method_9_code 29 = .ok (.dup, 1) := by decide +kernel
theorem d_Stream_removeFirst_30 : decode prog_9_method_9_code 30 = .ok (.getfield 19, 3) := by decide +kernel
theorem d_Stream_removeFirst_33 : decode prog_9_method_9_code 33 = .ok (.iconst 1, 1) := by decide +kernel
theorem d_Stream_removeFirst_34 : decode prog_9_method_9_code 34 = .ok (.isub, 1) := by decide +kernel
theorem d_Stream_removeFirst_35 : decode prog_9_method_9_code 35 = .ok (.putfield 19, 3) := by decide +kernel
theorem d_Stream_removeFirst_38 : decode prog_9_method_9_code 38 = .ok (.iload_n 1, 1) := by decide +kernel
theorem d_Stream_removeFirst_39 : decode prog_9_method_9_code 39 = .ok (.ireturn, 1) := by decide +kernel
theorem d_Stream_removeNumber_0 : decode prog_9_method_11_code 0 = .ok (.iload_n 1, 1) := by decide +kernel
theorem d_Stream_removeNumber_1 : decode prog_9_method_11_code 1 = .ok (.aload_n 0, 1) := by decide +kernel
theorem d_Stream_removeNumber_2 : decode prog_9_method_11_code 2 = .ok (.getfield 19, 3) := by decide +kernel
theorem d_Stream_removeNumber_5 : decode prog_9_method_11_code 5 = .ok (.if_icmp .le 6, 3) := by decide +kernel
theorem d_Stream_removeNumber_8 : decode prog_9_method_11_code 8 = .ok (.bipush (-104), 2) := by decide +kernel
theorem d_Stream_removeNumber_10 : decode prog_9_method_11_code 10 = .ok (.ireturn, 1) := by decide +kernel
theorem d_Stream_removeNumber_11 : decode prog_9_method_11_code 11 = .ok (.iconst 0, 1) := by decide +kernel
theorem d_Stream_removeNumber_12 : decode prog_9_method_11_code 12 = .ok (.istore_n 2, 1) := by decide +kernel
theorem d_Stream_removeNumber_13 : decode prog_9_method_11_code 13 = .ok (.iconst 0, 1) := by decide +kernel
theorem d_Stream_removeNumber_14 : decode prog_9_method_11_code 14 = .ok (.istore_n 3, 1) := by decide +kernel
theorem d_Stream_removeNumber_15 : decode prog_9_method_11_code 15 = .ok (.iload_n 3, 1) := by decide +kernel
theorem d_Stream_removeNumber_16 : decode prog_9_method_11_code 16 = .ok (.iload_n 1, 1) := by decide +kernel
theorem d_Stream_removeNumber_17 : decode prog_9_method_11_code 17 = .ok (.if_icmp .ge 18, 3) := by decide +kernel
theorem d_Stream_removeNumber_20 : decode prog_9_method_11_code 20 = .ok (.iload_n 2, 1) := by decide +kernel
theorem d_Stream_removeNumber_21 : decode prog_9_method_11_code 21 = .ok (.iconst 1, 1) := by decide +kernel
theorem d_Stream_removeNumber_22 : decode prog_9_method_11_code 22 = .ok (.ishl, 1) := by decide +kernel
theorem d_Stream_removeNumber_23 : decode prog_9_method_11_code 23 = .ok (.aload_n 0, 1) := by decide +kernel
theorem d_Stream_removeNumber_24 : decode prog_9_method_11_code 24 = .ok (.invokevirtual 43, 3) := by decide +kernel
theorem d_Stream_removeNumber_27 : decode prog_9_method_11_code 27 = .ok (.ior, 1) := by decide +kernel
theorem d_Stream_removeNumber_28 : decode prog_9_method_11_code 28 = .ok (.istore_n 2, 1) := by decide +kernel
theorem d_Stream_removeNumber_29 : decode prog_9_method_11_code 29 = .ok (.iinc 3 1, 3) := by decide +kernel
theorem d_Stream_removeNumber_32 : decode prog_9_method_11_code 32 = .ok (.goto (-17), 3) := by decide +kernel
theorem d_Stream_removeNumber_35 : decode prog_9_method_11_code 35 = .ok (.iload_n 2, 1) := by decide +kernel
theorem d_Stream_removeNumber_36 : decode prog_9_method_11_code 36 = .ok (.ireturn, 1) := by decide +kernel
theorem d_Stream_removeLast_0 : decode prog_9_method_10_code 0 = .ok (.aload_n 0, 1) := by decide +kernel
theorem d_Stream_removeLast_1 : decode prog_9_method_10_code 1 = .ok (.getfield 19, 3) := by decide +kernel
theorem d_Stream_removeLast_4 : decode prog_9_method_10_code 4 = .ok (.ifCond .ne 6, 3) := by decide +kernel
theorem d_Stream_removeLast_7 : decode prog_9_method_10_code 7 = .ok (.bipush (-104), 2) := by decide +kernel
theorem d_Stream_removeLast_9 : decode prog_9_method_10_code 9 = .ok (.ireturn, 1) := by decide +kernel
theorem d_Stream_removeLast_10 : decode prog_9_method_10_code 10 = .ok (.aload_n 0, 1) := by decide +kernel
theorem d_Stream_removeLast_11 : decode prog_9_method_10_code 11 = .ok (.aload_n 0, 1) := by decide +kernel
theorem d_Stream_removeLast_12 : decode prog_9_method_10_code 12 = .ok (.getfield 19, 3) := by decide +kernel
theorem d_Stream_removeLast_15 : decode prog_9_method_10_code 15 = .ok (.iconst 1, 1) := by decide +kernel
theorem d_Stream_removeLast_16 : decode prog_9_method_10_code 16 = .ok (.isub, 1) := by decide +kernel
theorem d_Stream_removeLast_17 : decode prog_9_method_10_code 17 = .ok (.invokevirtual 40, 3) := by decide +kernel
theorem d_Stream_removeLast_20 : decode prog_9_method_10_code 20 = .ok (.istore_n 1, 1) := by decide +kernel
theorem d_Stream_removeLast_21 : decode prog_9_method_10_code 21 = .ok (.aload_n 0, 1) := by decide +kernel
theorem d_Stream_removeLast_22 : decode prog_9_method_10_code 22 = .ok (.dup, 1) := by decide +kernel
theorem d_Stream_removeLast_23 : decode prog_9_method_10_code 23 = .ok (.getfield 19, 3) := by decide +kernel
theorem d_Stream_removeLast_26 : decode prog_9_method_10_code 26 = .ok (.iconst 1, 1) := by decide +kernel
theorem d_Stream_removeLast_27 : decode prog_9_method_10_code 27 = .ok (.isub, 1) := by decide +kernel
theorem d_Stream_removeLast_28 : decode prog_9_method_10_code 28 = .ok (.putfield 19, 3) := by decide +kernel
theorem d_Stream_removeLast_31 : decode prog_9_method_10_code 31 = .ok (.iload_n 1, 1) := by decide +kernel
theorem d_Stream_removeLast_32 : decode prog_9_method_10_code 32 = .ok (.ireturn, 1) := by decide +kernel
theorem d_Stream_begin_0 : decode prog_9_method_5_code 0 = .ok (.aload_n 0, 1) := by decide +kernel
theorem d_Stream_begin_1 : decode prog_9_method_5_code 1 = .ok (.aload_n 0, 1) := by decide +kernel
theorem d_Stream_begin_2 : decode prog_9_method_5_code 2 = .ok (.getfield 19, 3) := by decide +kernel
theorem d_Stream_begin_5 : decode prog_9_method_5_code 5 = .ok (.putfield 22, 3) := by decide +kernel
theorem d_Stream_begin_8 : decode prog_9_method_5_code 8 = .ok (.aload_n 0, 1) := by decide +kernel
theorem d_Stream_begin_9 : decode prog_9_method_5_code 9 = .ok (.iconst 0, 1) := by decide +kernel
theorem d_Stream_begin_10 : decode prog_9_method_5_code 10 = .ok (.putfield 25, 3) := by decide +kernel
theorem d_Stream_begin_13 : decode prog_9_method_5_code 13 = .ok (.return_, 1) := by decide +kernel
theorem d_Stream_settle_0 : decode prog_9_method_6_code 0 = .ok (.aload_n 0, 1) := by decide +kernel
theorem d_Stream_settle_1 : decode prog_9_method_6_code 1 = .ok (.getfield 25, 3) := by decide +kernel
theorem d_Stream_settle_4 : decode prog_9_method_6_code 4 = .ok (.ifCond .eq 14, 3) := by decide +kernel
theorem d_Stream_settle_7 : decode prog_9_method_6_code 7 = .ok (.aload_n 0, 1) := by decide +kernel
theorem d_Stream_settle_8 : decode prog_9_method_6_code 8 = .ok (.aload_n 0, 1) := by decide +kernel
theorem d_Stream_settle_9 : decode prog_9_method_6_code 9 = .ok (.getfield 22, 3) := by decide +kernel
theorem d_Stream_settle_12 : decode prog_9_method_6_code 12 = .ok (.putfield 19, 3) := by decide +kernel
theorem d_Stream_settle_15 : decode prog_9_method_6_code 15 = .ok (.bipush (-106), 2) := by decide +kernel
theorem d_Stream_settle_17 : decode prog_9_method_6_code 17 = .ok (.ireturn, 1) := by decide +kernel
theorem d_Stream_settle_18 : decode prog_9_method_6_code 18 = .ok (.aload_n 0, 1) := by decide +kernel
theorem d_Stream_settle_19 : decode prog_9_method_6_code 19 = .ok (.getfield 19, 3) := by decide +kernel
theorem d_Stream_settle_22 : decode prog_9_method_6_code 22 = .ok (.aload_n 0, 1) := by decide +kernel
theorem d_Stream_settle_23 : decode prog_9_method_6_code 23 = .ok (.getfield 22, 3) := by decide +kernel
theorem d_Stream_settle_26 : decode prog_9_method_6_code 26 = .ok (.isub, 1) := by decide +kernel
theorem d_Stream_settle_27 : decode prog_9_method_6_code 27 = .ok (.ireturn, 1) := by decide +kernel
theorem d_Stream_giveBack_0 : decode prog_9_method_12_code 0 = .ok (.aload_n 0, 1) := by decide +kernel
theorem d_Stream_giveBack_1 : decode prog_9_method_12_code 1 = .ok (.aload_n 0, 1) := by decide +kernel
theorem d_Stream_giveBack_2 : decode prog_9_method_12_code 2 = .ok (.sipush 20000, 3) := by decide +kernel
theorem d_Stream_giveBack_5 : decode prog_9_method_12_code 5 = .ok (.iload_n 1, 1) := by decide +kernel
theorem d_Stream_giveBack_6 : decode prog_9_method_12_code 6 = .ok (.isub, 1) := by decide +kernel
theorem d_Stream_giveBack_7 : decode prog_9_method_12_code 7 = .ok (.invokevirtual 29, 3) := by decide +kernel
theorem d_Stream_giveBack_10 : decode prog_9_method_12_code 10 = .ok (.putfield 15, 3) := by decide +kernel
theorem d_Stream_giveBack_13 : decode prog_9_method_12_code 13 = .ok (.aload_n 0, 1) := by decide +kernel
theorem d_Stream_giveBack_14 : decode prog_9_method_12_code 14 = .ok (.dup, 1) := by decide +kernel
theorem d_Stream_giveBack_15 : decode prog_9_method_12_code 15 = .ok (.getfield 19, 3) := by decide +kernel
theorem d_Stream_giveBack_18 : decode prog_9_method_12_code 18 = .ok (.iload_n 1, 1) := by decide +kernel
theorem d_Stream_giveBack_19 : decode prog_9_method_12_code 19 = .ok (.iadd, 1) := by decide +kernel
theorem d_Stream_giveBack_20 : decode prog_9_method_12_code 20 = .ok (.putfield 19, 3) := by decide +kernel
theorem d_Stream_giveBack_23 : decode prog_9_method_12_code 23 = .ok (.return_, 1) := by decide +kernel
