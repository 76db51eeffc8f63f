theorem dX3_start_0 : decode cX3_start 0 = .ok (.aload_n 0, 1) := by decide +kernel
theorem dX3_start_1 : decode cX3_start 1 = .ok (.iload_n 1, 1) := by decide +kernel
theorem dX3_start_2 : decode cX3_start 2 = .ok (.putfield 15, 3) := by decide +kernel
theorem dX3_start_5 : decode cX3_start 5 = .ok (.iconst 0, 1) := by decide +kernel
theorem dX3_start_6 : decode cX3_start 6 = .ok (.istore_n 2, 1) := by decide +kernel
theorem dX3_start_7 : decode cX3_start 7 = .ok (.iload_n 2, 1) := by decide +kernel
theorem dX3_start_8 : decode cX3_start 8 = .ok (.bipush 10, 2) := by decide +kernel
theorem dX3_start_10 : decode cX3_start 10 = .ok (.if_icmp .ge 16, 3) := by decide +kernel
theorem dX3_start_13 : decode cX3_start 13 = .ok (.aload_n 0, 1) := by decide +kernel
theorem dX3_start_14 : decode cX3_start 14 = .ok (.getfield 9, 3) := by decide +kernel
theorem dX3_start_17 : decode cX3_start 17 = .ok (.iload_n 2, 1) := by decide +kernel
theorem dX3_start_18 : decode cX3_start 18 = .ok (.iconst 0, 1) := by decide +kernel
theorem dX3_start_19 : decode cX3_start 19 = .ok (.iastore, 1) := by decide +kernel
theorem dX3_start_20 : decode cX3_start 20 = .ok (.iinc 2 1, 3) := by decide +kernel
theorem dX3_start_23 : decode cX3_start 23 = .ok (.goto (-16), 3) := by decide +kernel
theorem dX3_start_26 : decode cX3_start 26 = .ok (.return_, 1) := by decide +kernel
theorem dX3_startNamed_0 : decode cX3_startNamed 0 = .ok (.aload_n 0, 1) := by decide +kernel
theorem dX3_startNamed_1 : decode cX3_startNamed 1 = .ok (.iload_n 1, 1) := by decide +kernel
theorem dX3_startNamed_2 : decode cX3_startNamed 2 = .ok (.invokevirtual 19, 3) := by decide +kernel
theorem dX3_startNamed_5 : decode cX3_startNamed 5 = .ok (.iconst 2, 1) := by decide +kernel
theorem dX3_startNamed_6 : decode cX3_startNamed 6 = .ok (.istore_n 3, 1) := by decide +kernel
theorem dX3_startNamed_7 : decode cX3_startNamed 7 = .ok (.iload_n 3, 1) := by decide +kernel
theorem dX3_startNamed_8 : decode cX3_startNamed 8 = .ok (.iload_n 1, 1) := by decide +kernel
theorem dX3_startNamed_9 : decode cX3_startNamed 9 = .ok (.if_icmp .ge 49, 3) := by decide +kernel
theorem dX3_startNamed_12 : decode cX3_startNamed 12 = .ok (.iconst 1, 1) := by decide +kernel
theorem dX3_startNamed_13 : decode cX3_startNamed 13 = .ok (.istore 4, 2) := by decide +kernel
theorem dX3_startNamed_15 : decode cX3_startNamed 15 = .ok (.iload 4, 2) := by decide +kernel
theorem dX3_startNamed_17 : decode cX3_startNamed 17 = .ok (.iload_n 3, 1) := by decide +kernel
theorem dX3_startNamed_18 : decode cX3_startNamed 18 = .ok (.if_icmp .ge 34, 3) := by decide +kernel
theorem dX3_startNamed_21 : decode cX3_startNamed 21 = .ok (.aload_n 0, 1) := by decide +kernel
theorem dX3_startNamed_22 : decode cX3_startNamed 22 = .ok (.iload 4, 2) := by decide +kernel
theorem dX3_startNamed_24 : decode cX3_startNamed 24 = .ok (.iload_n 3, 1) := by decide +kernel
theorem dX3_startNamed_25 : decode cX3_startNamed 25 = .ok (.iload_n 2, 1) := by decide +kernel
theorem dX3_startNamed_26 : decode cX3_startNamed 26 = .ok (.iload 4, 2) := by decide +kernel
theorem dX3_startNamed_28 : decode cX3_startNamed 28 = .ok (.iload_n 3, 1) := by decide +kernel
theorem dX3_startNamed_29 : decode cX3_startNamed 29 = .ok (.invokestatic 23, 3) := by decide +kernel
theorem dX3_startNamed_32 : decode cX3_startNamed 32 = .ok (.iushr, 1) := by decide +kernel
theorem dX3_startNamed_33 : decode cX3_startNamed 33 = .ok (.iconst 1, 1) := by decide +kernel
theorem dX3_startNamed_34 : decode cX3_startNamed 34 = .ok (.iand, 1) := by decide +kernel
theorem dX3_startNamed_35 : decode cX3_startNamed 35 = .ok (.ifCond .eq 7, 3) := by decide +kernel
theorem dX3_startNamed_38 : decode cX3_startNamed 38 = .ok (.iconst 1, 1) := by decide +kernel
theorem dX3_startNamed_39 : decode cX3_startNamed 39 = .ok (.goto 4, 3) := by decide +kernel
theorem dX3_startNamed_42 : decode cX3_startNamed 42 = .ok (.iconst 0, 1) := by decide +kernel
theorem dX3_startNamed_43 : decode cX3_startNamed 43 = .ok (.invokevirtual 27, 3) := by decide +kernel
theorem dX3_startNamed_46 : decode cX3_startNamed 46 = .ok (.iinc 4 1, 3) := by decide +kernel
theorem dX3_startNamed_49 : decode cX3_startNamed 49 = .ok (.goto (-34), 3) := by decide +kernel
theorem dX3_startNamed_52 : decode cX3_startNamed 52 = .ok (.iinc 3 1, 3) := by decide +kernel
theorem dX3_startNamed_55 : decode cX3_startNamed 55 = .ok (.goto (-48), 3) := by decide +kernel
theorem dX3_startNamed_58 : decode cX3_startNamed 58 = .ok (.return_, 1) := by decide +kernel
theorem dX3_bitOfPair_0 : decode cX3_bitOfPair 0 = .ok (.iload_n 1, 1) := by decide +kernel
theorem dX3_bitOfPair_1 : decode cX3_bitOfPair 1 = .ok (.iconst 1, 1) := by decide +kernel
theorem dX3_bitOfPair_2 : decode cX3_bitOfPair 2 = .ok (.isub, 1) := by decide +kernel
theorem dX3_bitOfPair_3 : decode cX3_bitOfPair 3 = .ok (.iload_n 1, 1) := by decide +kernel
theorem dX3_bitOfPair_4 : decode cX3_bitOfPair 4 = .ok (.iconst 2, 1) := by decide +kernel
theorem dX3_bitOfPair_5 : decode cX3_bitOfPair 5 = .ok (.isub, 1) := by decide +kernel
theorem dX3_bitOfPair_6 : decode cX3_bitOfPair 6 = .ok (.imul, 1) := by decide +kernel
theorem dX3_bitOfPair_7 : decode cX3_bitOfPair 7 = .ok (.iconst 2, 1) := by decide +kernel
theorem dX3_bitOfPair_8 : decode cX3_bitOfPair 8 = .ok (.idiv, 1) := by decide +kernel
theorem dX3_bitOfPair_9 : decode cX3_bitOfPair 9 = .ok (.iload_n 0, 1) := by decide +kernel
theorem dX3_bitOfPair_10 : decode cX3_bitOfPair 10 = .ok (.iadd, 1) := by decide +kernel
theorem dX3_bitOfPair_11 : decode cX3_bitOfPair 11 = .ok (.iconst 1, 1) := by decide +kernel
theorem dX3_bitOfPair_12 : decode cX3_bitOfPair 12 = .ok (.isub, 1) := by decide +kernel
theorem dX3_bitOfPair_13 : decode cX3_bitOfPair 13 = .ok (.ireturn, 1) := by decide +kernel
theorem dX3_hasLine_0 : decode cX3_hasLine 0 = .ok (.iload_n 1, 1) := by decide +kernel
theorem dX3_hasLine_1 : decode cX3_hasLine 1 = .ok (.ifCond .lt 15, 3) := by decide +kernel
theorem dX3_hasLine_4 : decode cX3_hasLine 4 = .ok (.iload_n 1, 1) := by decide +kernel
theorem dX3_hasLine_5 : decode cX3_hasLine 5 = .ok (.aload_n 0, 1) := by decide +kernel
theorem dX3_hasLine_6 : decode cX3_hasLine 6 = .ok (.getfield 15, 3) := by decide +kernel
theorem dX3_hasLine_9 : decode cX3_hasLine 9 = .ok (.if_icmp .ge 7, 3) := by decide +kernel
theorem dX3_hasLine_12 : decode cX3_hasLine 12 = .ok (.iconst 1, 1) := by decide +kernel
theorem dX3_hasLine_13 : decode cX3_hasLine 13 = .ok (.goto 4, 3) := by decide +kernel
theorem dX3_hasLine_16 : decode cX3_hasLine 16 = .ok (.iconst 0, 1) := by decide +kernel
theorem dX3_hasLine_17 : decode cX3_hasLine 17 = .ok (.ireturn, 1) := by decide +kernel
theorem dX3_isRow_0 : decode cX3_isRow 0 = .ok (.iload_n 1, 1) := by decide +kernel
theorem dX3_isRow_1 : decode cX3_isRow 1 = .ok (.iconst 1, 1) := by decide +kernel
theorem dX3_isRow_2 : decode cX3_isRow 2 = .ok (.iand, 1) := by decide +kernel
theorem dX3_isRow_3 : decode cX3_isRow 3 = .ok (.ifCond .ne 16, 3) := by decide +kernel
theorem dX3_isRow_6 : decode cX3_isRow 6 = .ok (.iload_n 1, 1) := by decide +kernel
theorem dX3_isRow_7 : decode cX3_isRow 7 = .ok (.aload_n 0, 1) := by decide +kernel
theorem dX3_isRow_8 : decode cX3_isRow 8 = .ok (.getfield 15, 3) := by decide +kernel
theorem dX3_isRow_11 : decode cX3_isRow 11 = .ok (.iushr, 1) := by decide +kernel
theorem dX3_isRow_12 : decode cX3_isRow 12 = .ok (.ifCond .ne 7, 3) := by decide +kernel
theorem dX3_isRow_15 : decode cX3_isRow 15 = .ok (.iconst 1, 1) := by decide +kernel
theorem dX3_isRow_16 : decode cX3_isRow 16 = .ok (.goto 4, 3) := by decide +kernel
theorem dX3_isRow_19 : decode cX3_isRow 19 = .ok (.iconst 0, 1) := by decide +kernel
theorem dX3_isRow_20 : decode cX3_isRow 20 = .ok (.ireturn, 1) := by decide +kernel
theorem dX3_isMinus_0 : decode cX3_isMinus 0 = .ok (.aload_n 0, 1) := by decide +kernel
theorem dX3_isMinus_1 : decode cX3_isMinus 1 = .ok (.getfield 9, 3) := by decide +kernel
theorem dX3_isMinus_4 : decode cX3_isMinus 4 = .ok (.iload_n 1, 1) := by decide +kernel
theorem dX3_isMinus_5 : decode cX3_isMinus 5 = .ok (.iaload, 1) := by decide +kernel
theorem dX3_isMinus_6 : decode cX3_isMinus 6 = .ok (.iload_n 2, 1) := by decide +kernel
theorem dX3_isMinus_7 : decode cX3_isMinus 7 = .ok (.iushr, 1) := by decide +kernel
theorem dX3_isMinus_8 : decode cX3_isMinus 8 = .ok (.iconst 1, 1) := by decide +kernel
theorem dX3_isMinus_9 : decode cX3_isMinus 9 = .ok (.iand, 1) := by decide +kernel
theorem dX3_isMinus_10 : decode cX3_isMinus 10 = .ok (.ifCond .eq 7, 3) := by decide +kernel
theorem dX3_isMinus_13 : decode cX3_isMinus 13 = .ok (.iconst 1, 1) := by decide +kernel
theorem dX3_isMinus_14 : decode cX3_isMinus 14 = .ok (.goto 4, 3) := by decide +kernel
theorem dX3_isMinus_17 : decode cX3_isMinus 17 = .ok (.iconst 0, 1) := by decide +kernel
theorem dX3_isMinus_18 : decode cX3_isMinus 18 = .ok (.ireturn, 1) := by decide +kernel
theorem dX3_entry_0 : decode cX3_entry 0 = .ok (.iload_n 1, 1) := by decide +kernel
theorem dX3_entry_1 : decode cX3_entry 1 = .ok (.iload_n 2, 1) := by decide +kernel
theorem dX3_entry_2 : decode cX3_entry 2 = .ok (.if_icmp .ne 5, 3) := by decide +kernel
theorem dX3_entry_5 : decode cX3_entry 5 = .ok (.iconst 0, 1) := by decide +kernel
theorem dX3_entry_6 : decode cX3_entry 6 = .ok (.ireturn, 1) := by decide +kernel
theorem dX3_entry_7 : decode cX3_entry 7 = .ok (.aload_n 0, 1) := by decide +kernel
theorem dX3_entry_8 : decode cX3_entry 8 = .ok (.iload_n 1, 1) := by decide +kernel
theorem dX3_entry_9 : decode cX3_entry 9 = .ok (.iload_n 2, 1) := by decide +kernel
theorem dX3_entry_10 : decode cX3_entry 10 = .ok (.invokevirtual 31, 3) := by decide +kernel
theorem dX3_entry_13 : decode cX3_entry 13 = .ok (.ifCond .eq 7, 3) := by decide +kernel
theorem dX3_entry_16 : decode cX3_entry 16 = .ok (.iconst (-1), 1) := by decide +kernel
theorem dX3_entry_17 : decode cX3_entry 17 = .ok (.goto 4, 3) := by decide +kernel
theorem dX3_entry_20 : decode cX3_entry 20 = .ok (.iconst 1, 1) := by decide +kernel
theorem dX3_entry_21 : decode cX3_entry 21 = .ok (.ireturn, 1) := by decide +kernel
theorem dX3_setMinus_0 : decode cX3_setMinus 0 = .ok (.aload_n 0, 1) := by decide +kernel
theorem dX3_setMinus_1 : decode cX3_setMinus 1 = .ok (.iload_n 1, 1) := by decide +kernel
theorem dX3_setMinus_2 : decode cX3_setMinus 2 = .ok (.iload_n 2, 1) := by decide +kernel
theorem dX3_setMinus_3 : decode cX3_setMinus 3 = .ok (.invokevirtual 31, 3) := by decide +kernel
theorem dX3_setMinus_6 : decode cX3_setMinus 6 = .ok (.iload_n 3, 1) := by decide +kernel
theorem dX3_setMinus_7 : decode cX3_setMinus 7 = .ok (.if_icmp .eq 27, 3) := by decide +kernel
theorem dX3_setMinus_10 : decode cX3_setMinus 10 = .ok (.aload_n 0, 1) := by decide +kernel
theorem dX3_setMinus_11 : decode cX3_setMinus 11 = .ok (.getfield 9, 3) := by decide +kernel
theorem dX3_setMinus_14 : decode cX3_setMinus 14 = .ok (.iload_n 1, 1) := by decide +kernel
theorem dX3_setMinus_15 : decode cX3_setMinus 15 = .ok (.dup2, 1) := by decide +kernel
theorem dX3_setMinus_16 : decode cX3_setMinus 16 = .ok (.iaload, 1) := by decide +kernel
theorem dX3_setMinus_17 : decode cX3_setMinus 17 = .ok (.iconst 1, 1) := by decide +kernel
theorem dX3_setMinus_18 : decode cX3_setMinus 18 = .ok (.iload_n 2, 1) := by decide +kernel
theorem dX3_setMinus_19 : decode cX3_setMinus 19 = .ok (.ishl, 1) := by decide +kernel
theorem dX3_setMinus_20 : decode cX3_setMinus 20 = .ok (.ixor, 1) := by decide +kernel
theorem dX3_setMinus_21 : decode cX3_setMinus 21 = .ok (.iastore, 1) := by decide +kernel
theorem dX3_setMinus_22 : decode cX3_setMinus 22 = .ok (.aload_n 0, 1) := by decide +kernel
theorem dX3_setMinus_23 : decode cX3_setMinus 23 = .ok (.getfield 9, 3) := by decide +kernel
theorem dX3_setMinus_26 : decode cX3_setMinus 26 = .ok (.iload_n 2, 1) := by decide +kernel
theorem dX3_setMinus_27 : decode cX3_setMinus 27 = .ok (.dup2, 1) := by decide +kernel
theorem dX3_setMinus_28 : decode cX3_setMinus 28 = .ok (.iaload, 1) := by decide +kernel
theorem dX3_setMinus_29 : decode cX3_setMinus 29 = .ok (.iconst 1, 1) := by decide +kernel
theorem dX3_setMinus_30 : decode cX3_setMinus 30 = .ok (.iload_n 1, 1) := by decide +kernel
theorem dX3_setMinus_31 : decode cX3_setMinus 31 = .ok (.ishl, 1) := by decide +kernel
theorem dX3_setMinus_32 : decode cX3_setMinus 32 = .ok (.ixor, 1) := by decide +kernel
theorem dX3_setMinus_33 : decode cX3_setMinus 33 = .ok (.iastore, 1) := by decide +kernel
theorem dX3_setMinus_34 : decode cX3_setMinus 34 = .ok (.return_, 1) := by decide +kernel
theorem dX3_turnLine_0 : decode cX3_turnLine 0 = .ok (.iconst 0, 1) := by decide +kernel
theorem dX3_turnLine_1 : decode cX3_turnLine 1 = .ok (.istore_n 2, 1) := by decide +kernel
theorem dX3_turnLine_2 : decode cX3_turnLine 2 = .ok (.iload_n 2, 1) := by decide +kernel
theorem dX3_turnLine_3 : decode cX3_turnLine 3 = .ok (.aload_n 0, 1) := by decide +kernel
theorem dX3_turnLine_4 : decode cX3_turnLine 4 = .ok (.getfield 15, 3) := by decide +kernel
theorem dX3_turnLine_7 : decode cX3_turnLine 7 = .ok (.if_icmp .ge 34, 3) := by decide +kernel
theorem dX3_turnLine_10 : decode cX3_turnLine 10 = .ok (.iload_n 2, 1) := by decide +kernel
theorem dX3_turnLine_11 : decode cX3_turnLine 11 = .ok (.iload_n 1, 1) := by decide +kernel
theorem dX3_turnLine_12 : decode cX3_turnLine 12 = .ok (.if_icmp .eq 23, 3) := by decide +kernel
theorem dX3_turnLine_15 : decode cX3_turnLine 15 = .ok (.aload_n 0, 1) := by decide +kernel
theorem dX3_turnLine_16 : decode cX3_turnLine 16 = .ok (.iload_n 1, 1) := by decide +kernel
theorem dX3_turnLine_17 : decode cX3_turnLine 17 = .ok (.iload_n 2, 1) := by decide +kernel
theorem dX3_turnLine_18 : decode cX3_turnLine 18 = .ok (.aload_n 0, 1) := by decide +kernel
theorem dX3_turnLine_19 : decode cX3_turnLine 19 = .ok (.iload_n 1, 1) := by decide +kernel
theorem dX3_turnLine_20 : decode cX3_turnLine 20 = .ok (.iload_n 2, 1) := by decide +kernel
theorem dX3_turnLine_21 : decode cX3_turnLine 21 = .ok (.invokevirtual 31, 3) := by decide +kernel
theorem dX3_turnLine_24 : decode cX3_turnLine 24 = .ok (.ifCond .ne 7, 3) := by decide +kernel
theorem dX3_turnLine_27 : decode cX3_turnLine 27 = .ok (.iconst 1, 1) := by decide +kernel
theorem dX3_turnLine_28 : decode cX3_turnLine 28 = .ok (.goto 4, 3) := by decide +kernel
theorem dX3_turnLine_31 : decode cX3_turnLine 31 = .ok (.iconst 0, 1) := by decide +kernel
theorem dX3_turnLine_32 : decode cX3_turnLine 32 = .ok (.invokevirtual 27, 3) := by decide +kernel
theorem dX3_turnLine_35 : decode cX3_turnLine 35 = .ok (.iinc 2 1, 3) := by decide +kernel
theorem dX3_turnLine_38 : decode cX3_turnLine 38 = .ok (.goto (-36), 3) := by decide +kernel
theorem dX3_turnLine_41 : decode cX3_turnLine 41 = .ok (.return_, 1) := by decide +kernel
theorem dX3_swapLines_0 : decode cX3_swapLines 0 = .ok (.aload_n 0, 1) := by decide +kernel
theorem dX3_swapLines_1 : decode cX3_swapLines 1 = .ok (.getfield 9, 3) := by decide +kernel
theorem dX3_swapLines_4 : decode cX3_swapLines 4 = .ok (.iload_n 1, 1) := by decide +kernel
theorem dX3_swapLines_5 : decode cX3_swapLines 5 = .ok (.iaload, 1) := by decide +kernel
theorem dX3_swapLines_6 : decode cX3_swapLines 6 = .ok (.istore_n 3, 1) := by decide +kernel
theorem dX3_swapLines_7 : decode cX3_swapLines 7 = .ok (.aload_n 0, 1) := by decide +kernel
theorem dX3_swapLines_8 : decode cX3_swapLines 8 = .ok (.getfield 9, 3) := by decide +kernel
theorem dX3_swapLines_11 : decode cX3_swapLines 11 = .ok (.iload_n 1, 1) := by decide +kernel
theorem dX3_swapLines_12 : decode cX3_swapLines 12 = .ok (.aload_n 0, 1) := by decide +kernel
theorem dX3_swapLines_13 : decode cX3_swapLines 13 = .ok (.getfield 9, 3) := by decide +kernel
theorem dX3_swapLines_16 : decode cX3_swapLines 16 = .ok (.iload_n 2, 1) := by decide +kernel
theorem dX3_swapLines_17 : decode cX3_swapLines 17 = .ok (.iaload, 1) := by decide +kernel
theorem dX3_swapLines_18 : decode cX3_swapLines 18 = .ok (.iastore, 1) := by decide +kernel
theorem dX3_swapLines_19 : decode cX3_swapLines 19 = .ok (.aload_n 0, 1) := by decide +kernel
theorem dX3_swapLines_20 : decode cX3_swapLines 20 = .ok (.getfield 9, 3) := by decide +kernel
theorem dX3_swapLines_23 : decode cX3_swapLines 23 = .ok (.iload_n 2, 1) := by decide +kernel
theorem dX3_swapLines_24 : decode cX3_swapLines 24 = .ok (.iload_n 3, 1) := by decide +kernel
theorem dX3_swapLines_25 : decode cX3_swapLines 25 = .ok (.iastore, 1) := by decide +kernel
theorem dX3_swapLines_26 : decode cX3_swapLines 26 = .ok (.iconst 0, 1) := by decide +kernel
theorem dX3_swapLines_27 : decode cX3_swapLines 27 = .ok (.istore 4, 2) := by decide +kernel
theorem dX3_swapLines_29 : decode cX3_swapLines 29 = .ok (.iload 4, 2) := by decide +kernel
theorem dX3_swapLines_31 : decode cX3_swapLines 31 = .ok (.aload_n 0, 1) := by decide +kernel
theorem dX3_swapLines_32 : decode cX3_swapLines 32 = .ok (.getfield 15, 3) := by decide +kernel
theorem dX3_swapLines_35 : decode cX3_swapLines 35 = .ok (.if_icmp .ge 43, 3) := by decide +kernel
theorem dX3_swapLines_38 : decode cX3_swapLines 38 = .ok (.aload_n 0, 1) := by decide +kernel
theorem dX3_swapLines_39 : decode cX3_swapLines 39 = .ok (.iload 4, 2) := by decide +kernel
theorem dX3_swapLines_41 : decode cX3_swapLines 41 = .ok (.iload_n 1, 1) := by decide +kernel
theorem dX3_swapLines_42 : decode cX3_swapLines 42 = .ok (.invokevirtual 31, 3) := by decide +kernel
theorem dX3_swapLines_45 : decode cX3_swapLines 45 = .ok (.aload_n 0, 1) := by decide +kernel
theorem dX3_swapLines_46 : decode cX3_swapLines 46 = .ok (.iload 4, 2) := by decide +kernel
theorem dX3_swapLines_48 : decode cX3_swapLines 48 = .ok (.iload_n 2, 1) := by decide +kernel
theorem dX3_swapLines_49 : decode cX3_swapLines 49 = .ok (.invokevirtual 31, 3) := by decide +kernel
theorem dX3_swapLines_52 : decode cX3_swapLines 52 = .ok (.if_icmp .eq 20, 3) := by decide +kernel
theorem dX3_swapLines_55 : decode cX3_swapLines 55 = .ok (.aload_n 0, 1) := by decide +kernel
theorem dX3_swapLines_56 : decode cX3_swapLines 56 = .ok (.getfield 9, 3) := by decide +kernel
theorem dX3_swapLines_59 : decode cX3_swapLines 59 = .ok (.iload 4, 2) := by decide +kernel
theorem dX3_swapLines_61 : decode cX3_swapLines 61 = .ok (.dup2, 1) := by decide +kernel
theorem dX3_swapLines_62 : decode cX3_swapLines 62 = .ok (.iaload, 1) := by decide +kernel
theorem dX3_swapLines_63 : decode cX3_swapLines 63 = .ok (.iconst 1, 1) := by decide +kernel
theorem dX3_swapLines_64 : decode cX3_swapLines 64 = .ok (.iload_n 1, 1) := by decide +kernel
theorem dX3_swapLines_65 : decode cX3_swapLines 65 = .ok (.ishl, 1) := by decide +kernel
theorem dX3_swapLines_66 : decode cX3_swapLines 66 = .ok (.iconst 1, 1) := by decide +kernel
theorem dX3_swapLines_67 : decode cX3_swapLines 67 = .ok (.iload_n 2, 1) := by decide +kernel
theorem dX3_swapLines_68 : decode cX3_swapLines 68 = .ok (.ishl, 1) := by decide +kernel
theorem dX3_swapLines_69 : decode cX3_swapLines 69 = .ok (.ior, 1) := by decide +kernel
theorem dX3_swapLines_70 : decode cX3_swapLines 70 = .ok (.ixor, 1) := by decide +kernel
theorem dX3_swapLines_71 : decode cX3_swapLines 71 = .ok (.iastore, 1) := by decide +kernel
theorem dX3_swapLines_72 : decode cX3_swapLines 72 = .ok (.iinc 4 1, 3) := by decide +kernel
theorem dX3_swapLines_75 : decode cX3_swapLines 75 = .ok (.goto (-46), 3) := by decide +kernel
theorem dX3_swapLines_78 : decode cX3_swapLines 78 = .ok (.return_, 1) := by decide +kernel
theorem dX3_addLine_0 : decode cX3_addLine 0 = .ok (.aload_n 0, 1) := by decide +kernel
theorem dX3_addLine_1 : decode cX3_addLine 1 = .ok (.getfield 15, 3) := by decide +kernel
theorem dX3_addLine_4 : decode cX3_addLine 4 = .ok (.istore_n 2, 1) := by decide +kernel
theorem dX3_addLine_5 : decode cX3_addLine 5 = .ok (.aload_n 0, 1) := by decide +kernel
theorem dX3_addLine_6 : decode cX3_addLine 6 = .ok (.dup, 1) := by decide +kernel
theorem dX3_addLine_7 : decode cX3_addLine 7 = .ok (.getfield 15, 3) := by decide +kernel
theorem dX3_addLine_10 : decode cX3_addLine 10 = .ok (.iconst 1, 1) := by decide +kernel
theorem dX3_addLine_11 : decode cX3_addLine 11 = .ok (.iadd, 1) := by decide +kernel
theorem dX3_addLine_12 : decode cX3_addLine 12 = .ok (.putfield 15, 3) := by decide +kernel
theorem dX3_addLine_15 : decode cX3_addLine 15 = .ok (.iconst 0, 1) := by decide +kernel
theorem dX3_addLine_16 : decode cX3_addLine 16 = .ok (.istore_n 3, 1) := by decide +kernel
theorem dX3_addLine_17 : decode cX3_addLine 17 = .ok (.iload_n 3, 1) := by decide +kernel
theorem dX3_addLine_18 : decode cX3_addLine 18 = .ok (.iload_n 2, 1) := by decide +kernel
theorem dX3_addLine_19 : decode cX3_addLine 19 = .ok (.if_icmp .ge 28, 3) := by decide +kernel
theorem dX3_addLine_22 : decode cX3_addLine 22 = .ok (.aload_n 0, 1) := by decide +kernel
theorem dX3_addLine_23 : decode cX3_addLine 23 = .ok (.iload_n 3, 1) := by decide +kernel
theorem dX3_addLine_24 : decode cX3_addLine 24 = .ok (.iload_n 2, 1) := by decide +kernel
theorem dX3_addLine_25 : decode cX3_addLine 25 = .ok (.iload_n 1, 1) := by decide +kernel
theorem dX3_addLine_26 : decode cX3_addLine 26 = .ok (.iload_n 3, 1) := by decide +kernel
theorem dX3_addLine_27 : decode cX3_addLine 27 = .ok (.iushr, 1) := by decide +kernel
theorem dX3_addLine_28 : decode cX3_addLine 28 = .ok (.iconst 1, 1) := by decide +kernel
theorem dX3_addLine_29 : decode cX3_addLine 29 = .ok (.iand, 1) := by decide +kernel
theorem dX3_addLine_30 : decode cX3_addLine 30 = .ok (.ifCond .eq 7, 3) := by decide +kernel
theorem dX3_addLine_33 : decode cX3_addLine 33 = .ok (.iconst 1, 1) := by decide +kernel
theorem dX3_addLine_34 : decode cX3_addLine 34 = .ok (.goto 4, 3) := by decide +kernel
theorem dX3_addLine_37 : decode cX3_addLine 37 = .ok (.iconst 0, 1) := by decide +kernel
theorem dX3_addLine_38 : decode cX3_addLine 38 = .ok (.invokevirtual 27, 3) := by decide +kernel
theorem dX3_addLine_41 : decode cX3_addLine 41 = .ok (.iinc 3 1, 3) := by decide +kernel
theorem dX3_addLine_44 : decode cX3_addLine 44 = .ok (.goto (-27), 3) := by decide +kernel
theorem dX3_addLine_47 : decode cX3_addLine 47 = .ok (.return_, 1) := by decide +kernel
theorem dX3_minusSigns_0 : decode cX3_minusSigns 0 = .ok (.iconst 0, 1) := by decide +kernel
theorem dX3_minusSigns_1 : decode cX3_minusSigns 1 = .ok (.istore_n 1, 1) := by decide +kernel
theorem dX3_minusSigns_2 : decode cX3_minusSigns 2 = .ok (.iconst 0, 1) := by decide +kernel
theorem dX3_minusSigns_3 : decode cX3_minusSigns 3 = .ok (.istore_n 2, 1) := by decide +kernel
theorem dX3_minusSigns_4 : decode cX3_minusSigns 4 = .ok (.iload_n 2, 1) := by decide +kernel
theorem dX3_minusSigns_5 : decode cX3_minusSigns 5 = .ok (.aload_n 0, 1) := by decide +kernel
theorem dX3_minusSigns_6 : decode cX3_minusSigns 6 = .ok (.getfield 15, 3) := by decide +kernel
theorem dX3_minusSigns_9 : decode cX3_minusSigns 9 = .ok (.if_icmp .ge 21, 3) := by decide +kernel
theorem dX3_minusSigns_12 : decode cX3_minusSigns 12 = .ok (.iload_n 1, 1) := by decide +kernel
theorem dX3_minusSigns_13 : decode cX3_minusSigns 13 = .ok (.aload_n 0, 1) := by decide +kernel
theorem dX3_minusSigns_14 : decode cX3_minusSigns 14 = .ok (.getfield 9, 3) := by decide +kernel
theorem dX3_minusSigns_17 : decode cX3_minusSigns 17 = .ok (.iload_n 2, 1) := by decide +kernel
theorem dX3_minusSigns_18 : decode cX3_minusSigns 18 = .ok (.iaload, 1) := by decide +kernel
theorem dX3_minusSigns_19 : decode cX3_minusSigns 19 = .ok (.invokestatic 35, 3) := by decide +kernel
theorem dX3_minusSigns_22 : decode cX3_minusSigns 22 = .ok (.iadd, 1) := by decide +kernel
theorem dX3_minusSigns_23 : decode cX3_minusSigns 23 = .ok (.istore_n 1, 1) := by decide +kernel
theorem dX3_minusSigns_24 : decode cX3_minusSigns 24 = .ok (.iinc 2 1, 3) := by decide +kernel
theorem dX3_minusSigns_27 : decode cX3_minusSigns 27 = .ok (.goto (-23), 3) := by decide +kernel
theorem dX3_minusSigns_30 : decode cX3_minusSigns 30 = .ok (.iload_n 1, 1) := by decide +kernel
theorem dX3_minusSigns_31 : decode cX3_minusSigns 31 = .ok (.iconst 2, 1) := by decide +kernel
theorem dX3_minusSigns_32 : decode cX3_minusSigns 32 = .ok (.idiv, 1) := by decide +kernel
theorem dX3_minusSigns_33 : decode cX3_minusSigns 33 = .ok (.ireturn, 1) := by decide +kernel
theorem dX3_oddTriplesWith_0 : decode cX3_oddTriplesWith 0 = .ok (.aload_n 0, 1) := by decide +kernel
theorem dX3_oddTriplesWith_1 : decode cX3_oddTriplesWith 1 = .ok (.getfield 9, 3) := by decide +kernel
theorem dX3_oddTriplesWith_4 : decode cX3_oddTriplesWith 4 = .ok (.iload_n 1, 1) := by decide +kernel
theorem dX3_oddTriplesWith_5 : decode cX3_oddTriplesWith 5 = .ok (.iaload, 1) := by decide +kernel
theorem dX3_oddTriplesWith_6 : decode cX3_oddTriplesWith 6 = .ok (.aload_n 0, 1) := by decide +kernel
theorem dX3_oddTriplesWith_7 : decode cX3_oddTriplesWith 7 = .ok (.getfield 9, 3) := by decide +kernel
theorem dX3_oddTriplesWith_10 : decode cX3_oddTriplesWith 10 = .ok (.iload_n 2, 1) := by decide +kernel
theorem dX3_oddTriplesWith_11 : decode cX3_oddTriplesWith 11 = .ok (.iaload, 1) := by decide +kernel
theorem dX3_oddTriplesWith_12 : decode cX3_oddTriplesWith 12 = .ok (.ixor, 1) := by decide +kernel
theorem dX3_oddTriplesWith_13 : decode cX3_oddTriplesWith 13 = .ok (.istore_n 3, 1) := by decide +kernel
theorem dX3_oddTriplesWith_14 : decode cX3_oddTriplesWith 14 = .ok (.aload_n 0, 1) := by decide +kernel
theorem dX3_oddTriplesWith_15 : decode cX3_oddTriplesWith 15 = .ok (.iload_n 1, 1) := by decide +kernel
theorem dX3_oddTriplesWith_16 : decode cX3_oddTriplesWith 16 = .ok (.iload_n 2, 1) := by decide +kernel
theorem dX3_oddTriplesWith_17 : decode cX3_oddTriplesWith 17 = .ok (.invokevirtual 31, 3) := by decide +kernel
theorem dX3_oddTriplesWith_20 : decode cX3_oddTriplesWith 20 = .ok (.ifCond .eq 9, 3) := by decide +kernel
theorem dX3_oddTriplesWith_23 : decode cX3_oddTriplesWith 23 = .ok (.iload_n 3, 1) := by decide +kernel
theorem dX3_oddTriplesWith_24 : decode cX3_oddTriplesWith 24 = .ok (.iconst (-1), 1) := by decide +kernel
theorem dX3_oddTriplesWith_25 : decode cX3_oddTriplesWith 25 = .ok (.ixor, 1) := by decide +kernel
theorem dX3_oddTriplesWith_26 : decode cX3_oddTriplesWith 26 = .ok (.goto 4, 3) := by decide +kernel
theorem dX3_oddTriplesWith_29 : decode cX3_oddTriplesWith 29 = .ok (.iload_n 3, 1) := by decide +kernel
theorem dX3_oddTriplesWith_30 : decode cX3_oddTriplesWith 30 = .ok (.istore 4, 2) := by decide +kernel
theorem dX3_oddTriplesWith_32 : decode cX3_oddTriplesWith 32 = .ok (.iconst 1, 1) := by decide +kernel
theorem dX3_oddTriplesWith_33 : decode cX3_oddTriplesWith 33 = .ok (.aload_n 0, 1) := by decide +kernel
theorem dX3_oddTriplesWith_34 : decode cX3_oddTriplesWith 34 = .ok (.getfield 15, 3) := by decide +kernel
theorem dX3_oddTriplesWith_37 : decode cX3_oddTriplesWith 37 = .ok (.ishl, 1) := by decide +kernel
theorem dX3_oddTriplesWith_38 : decode cX3_oddTriplesWith 38 = .ok (.iconst 1, 1) := by decide +kernel
theorem dX3_oddTriplesWith_39 : decode cX3_oddTriplesWith 39 = .ok (.isub, 1) := by decide +kernel
theorem dX3_oddTriplesWith_40 : decode cX3_oddTriplesWith 40 = .ok (.iconst 1, 1) := by decide +kernel
theorem dX3_oddTriplesWith_41 : decode cX3_oddTriplesWith 41 = .ok (.iload_n 1, 1) := by decide +kernel
theorem dX3_oddTriplesWith_42 : decode cX3_oddTriplesWith 42 = .ok (.ishl, 1) := by decide +kernel
theorem dX3_oddTriplesWith_43 : decode cX3_oddTriplesWith 43 = .ok (.iconst (-1), 1) := by decide +kernel
theorem dX3_oddTriplesWith_44 : decode cX3_oddTriplesWith 44 = .ok (.ixor, 1) := by decide +kernel
theorem dX3_oddTriplesWith_45 : decode cX3_oddTriplesWith 45 = .ok (.iand, 1) := by decide +kernel
theorem dX3_oddTriplesWith_46 : decode cX3_oddTriplesWith 46 = .ok (.iconst 1, 1) := by decide +kernel
theorem dX3_oddTriplesWith_47 : decode cX3_oddTriplesWith 47 = .ok (.iload_n 2, 1) := by decide +kernel
theorem dX3_oddTriplesWith_48 : decode cX3_oddTriplesWith 48 = .ok (.ishl, 1) := by decide +kernel
theorem dX3_oddTriplesWith_49 : decode cX3_oddTriplesWith 49 = .ok (.iconst (-1), 1) := by decide +kernel
theorem dX3_oddTriplesWith_50 : decode cX3_oddTriplesWith 50 = .ok (.ixor, 1) := by decide +kernel
theorem dX3_oddTriplesWith_51 : decode cX3_oddTriplesWith 51 = .ok (.iand, 1) := by decide +kernel
theorem dX3_oddTriplesWith_52 : decode cX3_oddTriplesWith 52 = .ok (.istore 5, 2) := by decide +kernel
theorem dX3_oddTriplesWith_54 : decode cX3_oddTriplesWith 54 = .ok (.iload 4, 2) := by decide +kernel
theorem dX3_oddTriplesWith_56 : decode cX3_oddTriplesWith 56 = .ok (.iload 5, 2) := by decide +kernel
theorem dX3_oddTriplesWith_58 : decode cX3_oddTriplesWith 58 = .ok (.iand, 1) := by decide +kernel
theorem dX3_oddTriplesWith_59 : decode cX3_oddTriplesWith 59 = .ok (.invokestatic 35, 3) := by decide +kernel
theorem dX3_oddTriplesWith_62 : decode cX3_oddTriplesWith 62 = .ok (.ireturn, 1) := by decide +kernel
theorem dX3_oddTriples_0 : decode cX3_oddTriples 0 = .ok (.iconst 0, 1) := by decide +kernel
theorem dX3_oddTriples_1 : decode cX3_oddTriples 1 = .ok (.istore_n 1, 1) := by decide +kernel
theorem dX3_oddTriples_2 : decode cX3_oddTriples 2 = .ok (.iconst 1, 1) := by decide +kernel
theorem dX3_oddTriples_3 : decode cX3_oddTriples 3 = .ok (.istore_n 2, 1) := by decide +kernel
theorem dX3_oddTriples_4 : decode cX3_oddTriples 4 = .ok (.iload_n 2, 1) := by decide +kernel
theorem dX3_oddTriples_5 : decode cX3_oddTriples 5 = .ok (.aload_n 0, 1) := by decide +kernel
theorem dX3_oddTriples_6 : decode cX3_oddTriples 6 = .ok (.getfield 15, 3) := by decide +kernel
theorem dX3_oddTriples_9 : decode cX3_oddTriples 9 = .ok (.if_icmp .ge 31, 3) := by decide +kernel
theorem dX3_oddTriples_12 : decode cX3_oddTriples 12 = .ok (.iconst 0, 1) := by decide +kernel
theorem dX3_oddTriples_13 : decode cX3_oddTriples 13 = .ok (.istore_n 3, 1) := by decide +kernel
theorem dX3_oddTriples_14 : decode cX3_oddTriples 14 = .ok (.iload_n 3, 1) := by decide +kernel
theorem dX3_oddTriples_15 : decode cX3_oddTriples 15 = .ok (.iload_n 2, 1) := by decide +kernel
theorem dX3_oddTriples_16 : decode cX3_oddTriples 16 = .ok (.if_icmp .ge 18, 3) := by decide +kernel
theorem dX3_oddTriples_19 : decode cX3_oddTriples 19 = .ok (.iload_n 1, 1) := by decide +kernel
theorem dX3_oddTriples_20 : decode cX3_oddTriples 20 = .ok (.aload_n 0, 1) := by decide +kernel
theorem dX3_oddTriples_21 : decode cX3_oddTriples 21 = .ok (.iload_n 3, 1) := by decide +kernel
theorem dX3_oddTriples_22 : decode cX3_oddTriples 22 = .ok (.iload_n 2, 1) := by decide +kernel
theorem dX3_oddTriples_23 : decode cX3_oddTriples 23 = .ok (.invokevirtual 41, 3) := by decide +kernel
theorem dX3_oddTriples_26 : decode cX3_oddTriples 26 = .ok (.iadd, 1) := by decide +kernel
theorem dX3_oddTriples_27 : decode cX3_oddTriples 27 = .ok (.istore_n 1, 1) := by decide +kernel
theorem dX3_oddTriples_28 : decode cX3_oddTriples 28 = .ok (.iinc 3 1, 3) := by decide +kernel
theorem dX3_oddTriples_31 : decode cX3_oddTriples 31 = .ok (.goto (-17), 3) := by decide +kernel
theorem dX3_oddTriples_34 : decode cX3_oddTriples 34 = .ok (.iinc 2 1, 3) := by decide +kernel
theorem dX3_oddTriples_37 : decode cX3_oddTriples 37 = .ok (.goto (-33), 3) := by decide +kernel
theorem dX3_oddTriples_40 : decode cX3_oddTriples 40 = .ok (.iload_n 1, 1) := by decide +kernel
theorem dX3_oddTriples_41 : decode cX3_oddTriples 41 = .ok (.iconst 3, 1) := by decide +kernel
theorem dX3_oddTriples_42 : decode cX3_oddTriples 42 = .ok (.idiv, 1) := by decide +kernel
theorem dX3_oddTriples_43 : decode cX3_oddTriples 43 = .ok (.ireturn, 1) := by decide +kernel
