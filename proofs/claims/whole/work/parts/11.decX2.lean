theorem dX2_take_0 : decode cX2_take 0 = .ok (.aload_n 0, 1) := by decide +kernel
theorem dX2_take_1 : decode cX2_take 1 = .ok (.aload_n 1, 1) := by decide +kernel
theorem dX2_take_2 : decode cX2_take 2 = .ok (.getfield 30, 3) := by decide +kernel
theorem dX2_take_5 : decode cX2_take 5 = .ok (.putfield 23, 3) := by decide +kernel
theorem dX2_take_8 : decode cX2_take 8 = .ok (.aload_n 0, 1) := by decide +kernel
theorem dX2_take_9 : decode cX2_take 9 = .ok (.iload_n 2, 1) := by decide +kernel
theorem dX2_take_10 : decode cX2_take 10 = .ok (.putfield 27, 3) := by decide +kernel
theorem dX2_take_13 : decode cX2_take 13 = .ok (.aload_n 0, 1) := by decide +kernel
theorem dX2_take_14 : decode cX2_take 14 = .ok (.getfield 9, 3) := by decide +kernel
theorem dX2_take_17 : decode cX2_take 17 = .ok (.iconst 0, 1) := by decide +kernel
theorem dX2_take_18 : decode cX2_take 18 = .ok (.lconst 1, 1) := by decide +kernel
theorem dX2_take_19 : decode cX2_take 19 = .ok (.lastore, 1) := by decide +kernel
theorem dX2_take_20 : decode cX2_take 20 = .ok (.aload_n 0, 1) := by decide +kernel
theorem dX2_take_21 : decode cX2_take 21 = .ok (.aload_n 0, 1) := by decide +kernel
theorem dX2_take_22 : decode cX2_take 22 = .ok (.getfield 17, 3) := by decide +kernel
theorem dX2_take_25 : decode cX2_take 25 = .ok (.iconst 0, 1) := by decide +kernel
theorem dX2_take_26 : decode cX2_take 26 = .ok (.aaload, 1) := by decide +kernel
theorem dX2_take_27 : decode cX2_take 27 = .ok (.invokevirtual 33, 3) := by decide +kernel
theorem dX2_take_30 : decode cX2_take 30 = .ok (.iconst 1, 1) := by decide +kernel
theorem dX2_take_31 : decode cX2_take 31 = .ok (.istore_n 3, 1) := by decide +kernel
theorem dX2_take_32 : decode cX2_take 32 = .ok (.iload_n 3, 1) := by decide +kernel
theorem dX2_take_33 : decode cX2_take 33 = .ok (.aload_n 0, 1) := by decide +kernel
theorem dX2_take_34 : decode cX2_take 34 = .ok (.getfield 23, 3) := by decide +kernel
theorem dX2_take_37 : decode cX2_take 37 = .ok (.if_icmp .gt 63, 3) := by decide +kernel
theorem dX2_take_40 : decode cX2_take 40 = .ok (.aload_n 0, 1) := by decide +kernel
theorem dX2_take_41 : decode cX2_take 41 = .ok (.aload_n 1, 1) := by decide +kernel
theorem dX2_take_42 : decode cX2_take 42 = .ok (.aload_n 0, 1) := by decide +kernel
theorem dX2_take_43 : decode cX2_take 43 = .ok (.getfield 17, 3) := by decide +kernel
theorem dX2_take_46 : decode cX2_take 46 = .ok (.iload_n 3, 1) := by decide +kernel
theorem dX2_take_47 : decode cX2_take 47 = .ok (.iconst 1, 1) := by decide +kernel
theorem dX2_take_48 : decode cX2_take 48 = .ok (.isub, 1) := by decide +kernel
theorem dX2_take_49 : decode cX2_take 49 = .ok (.aaload, 1) := by decide +kernel
theorem dX2_take_50 : decode cX2_take 50 = .ok (.aload_n 0, 1) := by decide +kernel
theorem dX2_take_51 : decode cX2_take 51 = .ok (.getfield 17, 3) := by decide +kernel
theorem dX2_take_54 : decode cX2_take 54 = .ok (.iload_n 3, 1) := by decide +kernel
theorem dX2_take_55 : decode cX2_take 55 = .ok (.aaload, 1) := by decide +kernel
theorem dX2_take_56 : decode cX2_take 56 = .ok (.invokevirtual 37, 3) := by decide +kernel
theorem dX2_take_59 : decode cX2_take 59 = .ok (.aload_n 0, 1) := by decide +kernel
theorem dX2_take_60 : decode cX2_take 60 = .ok (.getfield 9, 3) := by decide +kernel
theorem dX2_take_63 : decode cX2_take 63 = .ok (.iload_n 3, 1) := by decide +kernel
theorem dX2_take_64 : decode cX2_take 64 = .ok (.aload_n 0, 1) := by decide +kernel
theorem dX2_take_65 : decode cX2_take 65 = .ok (.aload_n 0, 1) := by decide +kernel
theorem dX2_take_66 : decode cX2_take 66 = .ok (.getfield 17, 3) := by decide +kernel
theorem dX2_take_69 : decode cX2_take 69 = .ok (.iload_n 3, 1) := by decide +kernel
theorem dX2_take_70 : decode cX2_take 70 = .ok (.aaload, 1) := by decide +kernel
theorem dX2_take_71 : decode cX2_take 71 = .ok (.invokevirtual 41, 3) := by decide +kernel
theorem dX2_take_74 : decode cX2_take 74 = .ok (.iload_n 3, 1) := by decide +kernel
theorem dX2_take_75 : decode cX2_take 75 = .ok (.i2l, 1) := by decide +kernel
theorem dX2_take_76 : decode cX2_take 76 = .ok (.ldiv, 1) := by decide +kernel
theorem dX2_take_77 : decode cX2_take 77 = .ok (.lastore, 1) := by decide +kernel
theorem dX2_take_78 : decode cX2_take 78 = .ok (.aload_n 0, 1) := by decide +kernel
theorem dX2_take_79 : decode cX2_take 79 = .ok (.aload_n 0, 1) := by decide +kernel
theorem dX2_take_80 : decode cX2_take 80 = .ok (.getfield 9, 3) := by decide +kernel
theorem dX2_take_83 : decode cX2_take 83 = .ok (.iload_n 3, 1) := by decide +kernel
theorem dX2_take_84 : decode cX2_take 84 = .ok (.laload, 1) := by decide +kernel
theorem dX2_take_85 : decode cX2_take 85 = .ok (.aload_n 0, 1) := by decide +kernel
theorem dX2_take_86 : decode cX2_take 86 = .ok (.getfield 17, 3) := by decide +kernel
theorem dX2_take_89 : decode cX2_take 89 = .ok (.iload_n 3, 1) := by decide +kernel
theorem dX2_take_90 : decode cX2_take 90 = .ok (.aaload, 1) := by decide +kernel
theorem dX2_take_91 : decode cX2_take 91 = .ok (.invokevirtual 45, 3) := by decide +kernel
theorem dX2_take_94 : decode cX2_take 94 = .ok (.iinc 3 1, 3) := by decide +kernel
theorem dX2_take_97 : decode cX2_take 97 = .ok (.goto (-65), 3) := by decide +kernel
theorem dX2_take_100 : decode cX2_take 100 = .ok (.aload_n 0, 1) := by decide +kernel
theorem dX2_take_101 : decode cX2_take 101 = .ok (.getfield 9, 3) := by decide +kernel
theorem dX2_take_104 : decode cX2_take 104 = .ok (.aload_n 0, 1) := by decide +kernel
theorem dX2_take_105 : decode cX2_take 105 = .ok (.getfield 23, 3) := by decide +kernel
theorem dX2_take_108 : decode cX2_take 108 = .ok (.iconst 1, 1) := by decide +kernel
theorem dX2_take_109 : decode cX2_take 109 = .ok (.iadd, 1) := by decide +kernel
theorem dX2_take_110 : decode cX2_take 110 = .ok (.lconst 0, 1) := by decide +kernel
theorem dX2_take_111 : decode cX2_take 111 = .ok (.lastore, 1) := by decide +kernel
theorem dX2_take_112 : decode cX2_take 112 = .ok (.return_, 1) := by decide +kernel
theorem dX2_setUnit_0 : decode cX2_setUnit 0 = .ok (.iconst 0, 1) := by decide +kernel
theorem dX2_setUnit_1 : decode cX2_setUnit 1 = .ok (.istore_n 2, 1) := by decide +kernel
theorem dX2_setUnit_2 : decode cX2_setUnit 2 = .ok (.iload_n 2, 1) := by decide +kernel
theorem dX2_setUnit_3 : decode cX2_setUnit 3 = .ok (.aload_n 0, 1) := by decide +kernel
theorem dX2_setUnit_4 : decode cX2_setUnit 4 = .ok (.getfield 23, 3) := by decide +kernel
theorem dX2_setUnit_7 : decode cX2_setUnit 7 = .ok (.if_icmp .ge 45, 3) := by decide +kernel
theorem dX2_setUnit_10 : decode cX2_setUnit 10 = .ok (.iconst 0, 1) := by decide +kernel
theorem dX2_setUnit_11 : decode cX2_setUnit 11 = .ok (.istore_n 3, 1) := by decide +kernel
theorem dX2_setUnit_12 : decode cX2_setUnit 12 = .ok (.iload_n 3, 1) := by decide +kernel
theorem dX2_setUnit_13 : decode cX2_setUnit 13 = .ok (.aload_n 0, 1) := by decide +kernel
theorem dX2_setUnit_14 : decode cX2_setUnit 14 = .ok (.getfield 23, 3) := by decide +kernel
theorem dX2_setUnit_17 : decode cX2_setUnit 17 = .ok (.if_icmp .ge 29, 3) := by decide +kernel
theorem dX2_setUnit_20 : decode cX2_setUnit 20 = .ok (.aload_n 1, 1) := by decide +kernel
theorem dX2_setUnit_21 : decode cX2_setUnit 21 = .ok (.aload_n 0, 1) := by decide +kernel
theorem dX2_setUnit_22 : decode cX2_setUnit 22 = .ok (.getfield 23, 3) := by decide +kernel
theorem dX2_setUnit_25 : decode cX2_setUnit 25 = .ok (.iload_n 2, 1) := by decide +kernel
theorem dX2_setUnit_26 : decode cX2_setUnit 26 = .ok (.imul, 1) := by decide +kernel
theorem dX2_setUnit_27 : decode cX2_setUnit 27 = .ok (.iload_n 3, 1) := by decide +kernel
theorem dX2_setUnit_28 : decode cX2_setUnit 28 = .ok (.iadd, 1) := by decide +kernel
theorem dX2_setUnit_29 : decode cX2_setUnit 29 = .ok (.iload_n 2, 1) := by decide +kernel
theorem dX2_setUnit_30 : decode cX2_setUnit 30 = .ok (.iload_n 3, 1) := by decide +kernel
theorem dX2_setUnit_31 : decode cX2_setUnit 31 = .ok (.if_icmp .ne 7, 3) := by decide +kernel
theorem dX2_setUnit_34 : decode cX2_setUnit 34 = .ok (.lconst 1, 1) := by decide +kernel
theorem dX2_setUnit_35 : decode cX2_setUnit 35 = .ok (.goto 4, 3) := by decide +kernel
theorem dX2_setUnit_38 : decode cX2_setUnit 38 = .ok (.lconst 0, 1) := by decide +kernel
theorem dX2_setUnit_39 : decode cX2_setUnit 39 = .ok (.lastore, 1) := by decide +kernel
theorem dX2_setUnit_40 : decode cX2_setUnit 40 = .ok (.iinc 3 1, 3) := by decide +kernel
theorem dX2_setUnit_43 : decode cX2_setUnit 43 = .ok (.goto (-31), 3) := by decide +kernel
theorem dX2_setUnit_46 : decode cX2_setUnit 46 = .ok (.iinc 2 1, 3) := by decide +kernel
theorem dX2_setUnit_49 : decode cX2_setUnit 49 = .ok (.goto (-47), 3) := by decide +kernel
theorem dX2_setUnit_52 : decode cX2_setUnit 52 = .ok (.return_, 1) := by decide +kernel
theorem dX2_multiply_0 : decode cX2_multiply 0 = .ok (.iconst 0, 1) := by decide +kernel
theorem dX2_multiply_1 : decode cX2_multiply 1 = .ok (.istore 4, 2) := by decide +kernel
theorem dX2_multiply_3 : decode cX2_multiply 3 = .ok (.iload 4, 2) := by decide +kernel
theorem dX2_multiply_5 : decode cX2_multiply 5 = .ok (.aload_n 0, 1) := by decide +kernel
theorem dX2_multiply_6 : decode cX2_multiply 6 = .ok (.getfield 23, 3) := by decide +kernel
theorem dX2_multiply_9 : decode cX2_multiply 9 = .ok (.if_icmp .ge 49, 3) := by decide +kernel
theorem dX2_multiply_12 : decode cX2_multiply 12 = .ok (.iconst 0, 1) := by decide +kernel
theorem dX2_multiply_13 : decode cX2_multiply 13 = .ok (.istore 5, 2) := by decide +kernel
theorem dX2_multiply_15 : decode cX2_multiply 15 = .ok (.iload 5, 2) := by decide +kernel
theorem dX2_multiply_17 : decode cX2_multiply 17 = .ok (.aload_n 0, 1) := by decide +kernel
theorem dX2_multiply_18 : decode cX2_multiply 18 = .ok (.getfield 23, 3) := by decide +kernel
theorem dX2_multiply_21 : decode cX2_multiply 21 = .ok (.if_icmp .ge 31, 3) := by decide +kernel
theorem dX2_multiply_24 : decode cX2_multiply 24 = .ok (.aload_n 3, 1) := by decide +kernel
theorem dX2_multiply_25 : decode cX2_multiply 25 = .ok (.aload_n 0, 1) := by decide +kernel
theorem dX2_multiply_26 : decode cX2_multiply 26 = .ok (.getfield 23, 3) := by decide +kernel
theorem dX2_multiply_29 : decode cX2_multiply 29 = .ok (.iload 4, 2) := by decide +kernel
theorem dX2_multiply_31 : decode cX2_multiply 31 = .ok (.imul, 1) := by decide +kernel
theorem dX2_multiply_32 : decode cX2_multiply 32 = .ok (.iload 5, 2) := by decide +kernel
theorem dX2_multiply_34 : decode cX2_multiply 34 = .ok (.iadd, 1) := by decide +kernel
theorem dX2_multiply_35 : decode cX2_multiply 35 = .ok (.aload_n 0, 1) := by decide +kernel
theorem dX2_multiply_36 : decode cX2_multiply 36 = .ok (.aload_n 1, 1) := by decide +kernel
theorem dX2_multiply_37 : decode cX2_multiply 37 = .ok (.aload_n 2, 1) := by decide +kernel
theorem dX2_multiply_38 : decode cX2_multiply 38 = .ok (.iload 4, 2) := by decide +kernel
theorem dX2_multiply_40 : decode cX2_multiply 40 = .ok (.iload 5, 2) := by decide +kernel
theorem dX2_multiply_42 : decode cX2_multiply 42 = .ok (.invokevirtual 49, 3) := by decide +kernel
theorem dX2_multiply_45 : decode cX2_multiply 45 = .ok (.lastore, 1) := by decide +kernel
theorem dX2_multiply_46 : decode cX2_multiply 46 = .ok (.iinc 5 1, 3) := by decide +kernel
theorem dX2_multiply_49 : decode cX2_multiply 49 = .ok (.goto (-34), 3) := by decide +kernel
theorem dX2_multiply_52 : decode cX2_multiply 52 = .ok (.iinc 4 1, 3) := by decide +kernel
theorem dX2_multiply_55 : decode cX2_multiply 55 = .ok (.goto (-52), 3) := by decide +kernel
theorem dX2_multiply_58 : decode cX2_multiply 58 = .ok (.return_, 1) := by decide +kernel
theorem dX2_rowTimesColumn_0 : decode cX2_rowTimesColumn 0 = .ok (.aload_n 0, 1) := by decide +kernel
theorem dX2_rowTimesColumn_1 : decode cX2_rowTimesColumn 1 = .ok (.getfield 27, 3) := by decide +kernel
theorem dX2_rowTimesColumn_4 : decode cX2_rowTimesColumn 4 = .ok (.i2l, 1) := by decide +kernel
theorem dX2_rowTimesColumn_5 : decode cX2_rowTimesColumn 5 = .ok (.aload_n 2, 1) := by decide +kernel
theorem dX2_rowTimesColumn_6 : decode cX2_rowTimesColumn 6 = .ok (.aload_n 0, 1) := by decide +kernel
theorem dX2_rowTimesColumn_7 : decode cX2_rowTimesColumn 7 = .ok (.getfield 23, 3) := by decide +kernel
theorem dX2_rowTimesColumn_10 : decode cX2_rowTimesColumn 10 = .ok (.iload_n 3, 1) := by decide +kernel
theorem dX2_rowTimesColumn_11 : decode cX2_rowTimesColumn 11 = .ok (.imul, 1) := by decide +kernel
theorem dX2_rowTimesColumn_12 : decode cX2_rowTimesColumn 12 = .ok (.iload 4, 2) := by decide +kernel
theorem dX2_rowTimesColumn_14 : decode cX2_rowTimesColumn 14 = .ok (.iadd, 1) := by decide +kernel
theorem dX2_rowTimesColumn_15 : decode cX2_rowTimesColumn 15 = .ok (.laload, 1) := by decide +kernel
theorem dX2_rowTimesColumn_16 : decode cX2_rowTimesColumn 16 = .ok (.lmul, 1) := by decide +kernel
theorem dX2_rowTimesColumn_17 : decode cX2_rowTimesColumn 17 = .ok (.lstore 5, 2) := by decide +kernel
theorem dX2_rowTimesColumn_19 : decode cX2_rowTimesColumn 19 = .ok (.aload_n 1, 1) := by decide +kernel
theorem dX2_rowTimesColumn_20 : decode cX2_rowTimesColumn 20 = .ok (.getfield 53, 3) := by decide +kernel
theorem dX2_rowTimesColumn_23 : decode cX2_rowTimesColumn 23 = .ok (.iload_n 3, 1) := by decide +kernel
theorem dX2_rowTimesColumn_24 : decode cX2_rowTimesColumn 24 = .ok (.iaload, 1) := by decide +kernel
theorem dX2_rowTimesColumn_25 : decode cX2_rowTimesColumn 25 = .ok (.istore 7, 2) := by decide +kernel
theorem dX2_rowTimesColumn_27 : decode cX2_rowTimesColumn 27 = .ok (.iconst 0, 1) := by decide +kernel
theorem dX2_rowTimesColumn_28 : decode cX2_rowTimesColumn 28 = .ok (.istore 8, 2) := by decide +kernel
theorem dX2_rowTimesColumn_30 : decode cX2_rowTimesColumn 30 = .ok (.iload 8, 2) := by decide +kernel
theorem dX2_rowTimesColumn_32 : decode cX2_rowTimesColumn 32 = .ok (.aload_n 0, 1) := by decide +kernel
theorem dX2_rowTimesColumn_33 : decode cX2_rowTimesColumn 33 = .ok (.getfield 23, 3) := by decide +kernel
theorem dX2_rowTimesColumn_36 : decode cX2_rowTimesColumn 36 = .ok (.if_icmp .ge 52, 3) := by decide +kernel
theorem dX2_rowTimesColumn_39 : decode cX2_rowTimesColumn 39 = .ok (.iload 8, 2) := by decide +kernel
theorem dX2_rowTimesColumn_41 : decode cX2_rowTimesColumn 41 = .ok (.iload_n 3, 1) := by decide +kernel
theorem dX2_rowTimesColumn_42 : decode cX2_rowTimesColumn 42 = .ok (.if_icmp .eq 40, 3) := by decide +kernel
theorem dX2_rowTimesColumn_45 : decode cX2_rowTimesColumn 45 = .ok (.aload_n 2, 1) := by decide +kernel
theorem dX2_rowTimesColumn_46 : decode cX2_rowTimesColumn 46 = .ok (.aload_n 0, 1) := by decide +kernel
theorem dX2_rowTimesColumn_47 : decode cX2_rowTimesColumn 47 = .ok (.getfield 23, 3) := by decide +kernel
theorem dX2_rowTimesColumn_50 : decode cX2_rowTimesColumn 50 = .ok (.iload 8, 2) := by decide +kernel
theorem dX2_rowTimesColumn_52 : decode cX2_rowTimesColumn 52 = .ok (.imul, 1) := by decide +kernel
theorem dX2_rowTimesColumn_53 : decode cX2_rowTimesColumn 53 = .ok (.iload 4, 2) := by decide +kernel
theorem dX2_rowTimesColumn_55 : decode cX2_rowTimesColumn 55 = .ok (.iadd, 1) := by decide +kernel
theorem dX2_rowTimesColumn_56 : decode cX2_rowTimesColumn 56 = .ok (.laload, 1) := by decide +kernel
theorem dX2_rowTimesColumn_57 : decode cX2_rowTimesColumn 57 = .ok (.lstore 9, 2) := by decide +kernel
theorem dX2_rowTimesColumn_59 : decode cX2_rowTimesColumn 59 = .ok (.lload 5, 2) := by decide +kernel
theorem dX2_rowTimesColumn_61 : decode cX2_rowTimesColumn 61 = .ok (.iload 7, 2) := by decide +kernel
theorem dX2_rowTimesColumn_63 : decode cX2_rowTimesColumn 63 = .ok (.iload 8, 2) := by decide +kernel
theorem dX2_rowTimesColumn_65 : decode cX2_rowTimesColumn 65 = .ok (.iushr, 1) := by decide +kernel
theorem dX2_rowTimesColumn_66 : decode cX2_rowTimesColumn 66 = .ok (.iconst 1, 1) := by decide +kernel
theorem dX2_rowTimesColumn_67 : decode cX2_rowTimesColumn 67 = .ok (.iand, 1) := by decide +kernel
theorem dX2_rowTimesColumn_68 : decode cX2_rowTimesColumn 68 = .ok (.ifCond .eq 9, 3) := by decide +kernel
theorem dX2_rowTimesColumn_71 : decode cX2_rowTimesColumn 71 = .ok (.lload 9, 2) := by decide +kernel
theorem dX2_rowTimesColumn_73 : decode cX2_rowTimesColumn 73 = .ok (.lneg, 1) := by decide +kernel
theorem dX2_rowTimesColumn_74 : decode cX2_rowTimesColumn 74 = .ok (.goto 5, 3) := by decide +kernel
theorem dX2_rowTimesColumn_77 : decode cX2_rowTimesColumn 77 = .ok (.lload 9, 2) := by decide +kernel
theorem dX2_rowTimesColumn_79 : decode cX2_rowTimesColumn 79 = .ok (.ladd, 1) := by decide +kernel
theorem dX2_rowTimesColumn_80 : decode cX2_rowTimesColumn 80 = .ok (.lstore 5, 2) := by decide +kernel
theorem dX2_rowTimesColumn_82 : decode cX2_rowTimesColumn 82 = .ok (.iinc 8 1, 3) := by decide +kernel
theorem dX2_rowTimesColumn_85 : decode cX2_rowTimesColumn 85 = .ok (.goto (-55), 3) := by decide +kernel
theorem dX2_rowTimesColumn_88 : decode cX2_rowTimesColumn 88 = .ok (.lload 5, 2) := by decide +kernel
theorem dX2_rowTimesColumn_90 : decode cX2_rowTimesColumn 90 = .ok (.lreturn, 1) := by decide +kernel
theorem dX2_trace_0 : decode cX2_trace 0 = .ok (.lconst 0, 1) := by decide +kernel
theorem dX2_trace_1 : decode cX2_trace 1 = .ok (.lstore_n 2, 1) := by decide +kernel
theorem dX2_trace_2 : decode cX2_trace 2 = .ok (.iconst 0, 1) := by decide +kernel
theorem dX2_trace_3 : decode cX2_trace 3 = .ok (.istore 4, 2) := by decide +kernel
theorem dX2_trace_5 : decode cX2_trace 5 = .ok (.iload 4, 2) := by decide +kernel
theorem dX2_trace_7 : decode cX2_trace 7 = .ok (.aload_n 0, 1) := by decide +kernel
theorem dX2_trace_8 : decode cX2_trace 8 = .ok (.getfield 23, 3) := by decide +kernel
theorem dX2_trace_11 : decode cX2_trace 11 = .ok (.if_icmp .ge 24, 3) := by decide +kernel
theorem dX2_trace_14 : decode cX2_trace 14 = .ok (.lload_n 2, 1) := by decide +kernel
theorem dX2_trace_15 : decode cX2_trace 15 = .ok (.aload_n 1, 1) := by decide +kernel
theorem dX2_trace_16 : decode cX2_trace 16 = .ok (.aload_n 0, 1) := by decide +kernel
theorem dX2_trace_17 : decode cX2_trace 17 = .ok (.getfield 23, 3) := by decide +kernel
theorem dX2_trace_20 : decode cX2_trace 20 = .ok (.iload 4, 2) := by decide +kernel
theorem dX2_trace_22 : decode cX2_trace 22 = .ok (.imul, 1) := by decide +kernel
theorem dX2_trace_23 : decode cX2_trace 23 = .ok (.iload 4, 2) := by decide +kernel
theorem dX2_trace_25 : decode cX2_trace 25 = .ok (.iadd, 1) := by decide +kernel
theorem dX2_trace_26 : decode cX2_trace 26 = .ok (.laload, 1) := by decide +kernel
theorem dX2_trace_27 : decode cX2_trace 27 = .ok (.ladd, 1) := by decide +kernel
theorem dX2_trace_28 : decode cX2_trace 28 = .ok (.lstore_n 2, 1) := by decide +kernel
theorem dX2_trace_29 : decode cX2_trace 29 = .ok (.iinc 4 1, 3) := by decide +kernel
theorem dX2_trace_32 : decode cX2_trace 32 = .ok (.goto (-27), 3) := by decide +kernel
theorem dX2_trace_35 : decode cX2_trace 35 = .ok (.lload_n 2, 1) := by decide +kernel
theorem dX2_trace_36 : decode cX2_trace 36 = .ok (.lreturn, 1) := by decide +kernel
theorem dX2_takeFromUnits_0 : decode cX2_takeFromUnits 0 = .ok (.iconst 0, 1) := by decide +kernel
theorem dX2_takeFromUnits_1 : decode cX2_takeFromUnits 1 = .ok (.istore 4, 2) := by decide +kernel
theorem dX2_takeFromUnits_3 : decode cX2_takeFromUnits 3 = .ok (.iload 4, 2) := by decide +kernel
theorem dX2_takeFromUnits_5 : decode cX2_takeFromUnits 5 = .ok (.aload_n 0, 1) := by decide +kernel
theorem dX2_takeFromUnits_6 : decode cX2_takeFromUnits 6 = .ok (.getfield 23, 3) := by decide +kernel
theorem dX2_takeFromUnits_9 : decode cX2_takeFromUnits 9 = .ok (.if_icmp .ge 64, 3) := by decide +kernel
theorem dX2_takeFromUnits_12 : decode cX2_takeFromUnits 12 = .ok (.iconst 0, 1) := by decide +kernel
theorem dX2_takeFromUnits_13 : decode cX2_takeFromUnits 13 = .ok (.istore 5, 2) := by decide +kernel
theorem dX2_takeFromUnits_15 : decode cX2_takeFromUnits 15 = .ok (.iload 5, 2) := by decide +kernel
theorem dX2_takeFromUnits_17 : decode cX2_takeFromUnits 17 = .ok (.aload_n 0, 1) := by decide +kernel
theorem dX2_takeFromUnits_18 : decode cX2_takeFromUnits 18 = .ok (.getfield 23, 3) := by decide +kernel
theorem dX2_takeFromUnits_21 : decode cX2_takeFromUnits 21 = .ok (.if_icmp .ge 46, 3) := by decide +kernel
theorem dX2_takeFromUnits_24 : decode cX2_takeFromUnits 24 = .ok (.aload_n 0, 1) := by decide +kernel
theorem dX2_takeFromUnits_25 : decode cX2_takeFromUnits 25 = .ok (.getfield 23, 3) := by decide +kernel
theorem dX2_takeFromUnits_28 : decode cX2_takeFromUnits 28 = .ok (.iload 4, 2) := by decide +kernel
theorem dX2_takeFromUnits_30 : decode cX2_takeFromUnits 30 = .ok (.imul, 1) := by decide +kernel
theorem dX2_takeFromUnits_31 : decode cX2_takeFromUnits 31 = .ok (.iload 5, 2) := by decide +kernel
theorem dX2_takeFromUnits_33 : decode cX2_takeFromUnits 33 = .ok (.iadd, 1) := by decide +kernel
theorem dX2_takeFromUnits_34 : decode cX2_takeFromUnits 34 = .ok (.istore 6, 2) := by decide +kernel
theorem dX2_takeFromUnits_36 : decode cX2_takeFromUnits 36 = .ok (.aload_n 3, 1) := by decide +kernel
theorem dX2_takeFromUnits_37 : decode cX2_takeFromUnits 37 = .ok (.iload 6, 2) := by decide +kernel
theorem dX2_takeFromUnits_39 : decode cX2_takeFromUnits 39 = .ok (.iload 4, 2) := by decide +kernel
theorem dX2_takeFromUnits_41 : decode cX2_takeFromUnits 41 = .ok (.iload 5, 2) := by decide +kernel
theorem dX2_takeFromUnits_43 : decode cX2_takeFromUnits 43 = .ok (.if_icmp .ne 12, 3) := by decide +kernel
theorem dX2_takeFromUnits_46 : decode cX2_takeFromUnits 46 = .ok (.lload_n 1, 1) := by decide +kernel
theorem dX2_takeFromUnits_47 : decode cX2_takeFromUnits 47 = .ok (.aload_n 3, 1) := by decide +kernel
theorem dX2_takeFromUnits_48 : decode cX2_takeFromUnits 48 = .ok (.iload 6, 2) := by decide +kernel
theorem dX2_takeFromUnits_50 : decode cX2_takeFromUnits 50 = .ok (.laload, 1) := by decide +kernel
theorem dX2_takeFromUnits_51 : decode cX2_takeFromUnits 51 = .ok (.lsub, 1) := by decide +kernel
theorem dX2_takeFromUnits_52 : decode cX2_takeFromUnits 52 = .ok (.goto 8, 3) := by decide +kernel
theorem dX2_takeFromUnits_55 : decode cX2_takeFromUnits 55 = .ok (.aload_n 3, 1) := by decide +kernel
theorem dX2_takeFromUnits_56 : decode cX2_takeFromUnits 56 = .ok (.iload 6, 2) := by decide +kernel
theorem dX2_takeFromUnits_58 : decode cX2_takeFromUnits 58 = .ok (.laload, 1) := by decide +kernel
theorem dX2_takeFromUnits_59 : decode cX2_takeFromUnits 59 = .ok (.lneg, 1) := by decide +kernel
theorem dX2_takeFromUnits_60 : decode cX2_takeFromUnits 60 = .ok (.lastore, 1) := by decide +kernel
theorem dX2_takeFromUnits_61 : decode cX2_takeFromUnits 61 = .ok (.iinc 5 1, 3) := by decide +kernel
theorem dX2_takeFromUnits_64 : decode cX2_takeFromUnits 64 = .ok (.goto (-49), 3) := by decide +kernel
theorem dX2_takeFromUnits_67 : decode cX2_takeFromUnits 67 = .ok (.iinc 4 1, 3) := by decide +kernel
theorem dX2_takeFromUnits_70 : decode cX2_takeFromUnits 70 = .ok (.goto (-67), 3) := by decide +kernel
theorem dX2_takeFromUnits_73 : decode cX2_takeFromUnits 73 = .ok (.return_, 1) := by decide +kernel
theorem dX2_noneBelowZero_0 : decode cX2_noneBelowZero 0 = .ok (.iconst 1, 1) := by decide +kernel
theorem dX2_noneBelowZero_1 : decode cX2_noneBelowZero 1 = .ok (.istore_n 1, 1) := by decide +kernel
theorem dX2_noneBelowZero_2 : decode cX2_noneBelowZero 2 = .ok (.iload_n 1, 1) := by decide +kernel
theorem dX2_noneBelowZero_3 : decode cX2_noneBelowZero 3 = .ok (.aload_n 0, 1) := by decide +kernel
theorem dX2_noneBelowZero_4 : decode cX2_noneBelowZero 4 = .ok (.getfield 23, 3) := by decide +kernel
theorem dX2_noneBelowZero_7 : decode cX2_noneBelowZero 7 = .ok (.if_icmp .gt 22, 3) := by decide +kernel
theorem dX2_noneBelowZero_10 : decode cX2_noneBelowZero 10 = .ok (.aload_n 0, 1) := by decide +kernel
theorem dX2_noneBelowZero_11 : decode cX2_noneBelowZero 11 = .ok (.getfield 9, 3) := by decide +kernel
theorem dX2_noneBelowZero_14 : decode cX2_noneBelowZero 14 = .ok (.iload_n 1, 1) := by decide +kernel
theorem dX2_noneBelowZero_15 : decode cX2_noneBelowZero 15 = .ok (.laload, 1) := by decide +kernel
theorem dX2_noneBelowZero_16 : decode cX2_noneBelowZero 16 = .ok (.lconst 0, 1) := by decide +kernel
theorem dX2_noneBelowZero_17 : decode cX2_noneBelowZero 17 = .ok (.lcmp, 1) := by decide +kernel
theorem dX2_noneBelowZero_18 : decode cX2_noneBelowZero 18 = .ok (.ifCond .ge 5, 3) := by decide +kernel
theorem dX2_noneBelowZero_21 : decode cX2_noneBelowZero 21 = .ok (.iconst 0, 1) := by decide +kernel
theorem dX2_noneBelowZero_22 : decode cX2_noneBelowZero 22 = .ok (.ireturn, 1) := by decide +kernel
theorem dX2_noneBelowZero_23 : decode cX2_noneBelowZero 23 = .ok (.iinc 1 1, 3) := by decide +kernel
theorem dX2_noneBelowZero_26 : decode cX2_noneBelowZero 26 = .ok (.goto (-24), 3) := by decide +kernel
theorem dX2_noneBelowZero_29 : decode cX2_noneBelowZero 29 = .ok (.iconst 1, 1) := by decide +kernel
theorem dX2_noneBelowZero_30 : decode cX2_noneBelowZero 30 = .ok (.ireturn, 1) := by decide +kernel
theorem dX2_dimensions_0 : decode cX2_dimensions 0 = .ok (.aload_n 0, 1) := by decide +kernel
theorem dX2_dimensions_1 : decode cX2_dimensions 1 = .ok (.getfield 23, 3) := by decide +kernel
theorem dX2_dimensions_4 : decode cX2_dimensions 4 = .ok (.istore_n 1, 1) := by decide +kernel
theorem dX2_dimensions_5 : decode cX2_dimensions 5 = .ok (.iload_n 1, 1) := by decide +kernel
theorem dX2_dimensions_6 : decode cX2_dimensions 6 = .ok (.ifCond .le 22, 3) := by decide +kernel
theorem dX2_dimensions_9 : decode cX2_dimensions 9 = .ok (.aload_n 0, 1) := by decide +kernel
theorem dX2_dimensions_10 : decode cX2_dimensions 10 = .ok (.getfield 9, 3) := by decide +kernel
theorem dX2_dimensions_13 : decode cX2_dimensions 13 = .ok (.iload_n 1, 1) := by decide +kernel
theorem dX2_dimensions_14 : decode cX2_dimensions 14 = .ok (.laload, 1) := by decide +kernel
theorem dX2_dimensions_15 : decode cX2_dimensions 15 = .ok (.lconst 0, 1) := by decide +kernel
theorem dX2_dimensions_16 : decode cX2_dimensions 16 = .ok (.lcmp, 1) := by decide +kernel
theorem dX2_dimensions_17 : decode cX2_dimensions 17 = .ok (.ifCond .eq 5, 3) := by decide +kernel
theorem dX2_dimensions_20 : decode cX2_dimensions 20 = .ok (.iload_n 1, 1) := by decide +kernel
theorem dX2_dimensions_21 : decode cX2_dimensions 21 = .ok (.ireturn, 1) := by decide +kernel
theorem dX2_dimensions_22 : decode cX2_dimensions 22 = .ok (.iinc 1 (-1), 3) := by decide +kernel
theorem dX2_dimensions_25 : decode cX2_dimensions 25 = .ok (.goto (-20), 3) := by decide +kernel
theorem dX2_dimensions_28 : decode cX2_dimensions 28 = .ok (.iconst 0, 1) := by decide +kernel
theorem dX2_dimensions_29 : decode cX2_dimensions 29 = .ok (.ireturn, 1) := by decide +kernel
theorem dX2_timesOwn_0 : decode cX2_timesOwn 0 = .ok (.iconst 0, 1) := by decide +kernel
theorem dX2_timesOwn_1 : decode cX2_timesOwn 1 = .ok (.istore_n 2, 1) := by decide +kernel
theorem dX2_timesOwn_2 : decode cX2_timesOwn 2 = .ok (.iload_n 2, 1) := by decide +kernel
theorem dX2_timesOwn_3 : decode cX2_timesOwn 3 = .ok (.aload_n 0, 1) := by decide +kernel
theorem dX2_timesOwn_4 : decode cX2_timesOwn 4 = .ok (.getfield 23, 3) := by decide +kernel
theorem dX2_timesOwn_7 : decode cX2_timesOwn 7 = .ok (.if_icmp .gt 37, 3) := by decide +kernel
theorem dX2_timesOwn_10 : decode cX2_timesOwn 10 = .ok (.aload_n 0, 1) := by decide +kernel
theorem dX2_timesOwn_11 : decode cX2_timesOwn 11 = .ok (.getfield 20, 3) := by decide +kernel
theorem dX2_timesOwn_14 : decode cX2_timesOwn 14 = .ok (.iload_n 2, 1) := by decide +kernel
theorem dX2_timesOwn_15 : decode cX2_timesOwn 15 = .ok (.iload_n 2, 1) := by decide +kernel
theorem dX2_timesOwn_16 : decode cX2_timesOwn 16 = .ok (.iconst 2, 1) := by decide +kernel
theorem dX2_timesOwn_17 : decode cX2_timesOwn 17 = .ok (.irem, 1) := by decide +kernel
theorem dX2_timesOwn_18 : decode cX2_timesOwn 18 = .ok (.ifCond .ne 12, 3) := by decide +kernel
theorem dX2_timesOwn_21 : decode cX2_timesOwn 21 = .ok (.aload_n 0, 1) := by decide +kernel
theorem dX2_timesOwn_22 : decode cX2_timesOwn 22 = .ok (.getfield 9, 3) := by decide +kernel
theorem dX2_timesOwn_25 : decode cX2_timesOwn 25 = .ok (.iload_n 2, 1) := by decide +kernel
theorem dX2_timesOwn_26 : decode cX2_timesOwn 26 = .ok (.laload, 1) := by decide +kernel
theorem dX2_timesOwn_27 : decode cX2_timesOwn 27 = .ok (.goto 10, 3) := by decide +kernel
theorem dX2_timesOwn_30 : decode cX2_timesOwn 30 = .ok (.aload_n 0, 1) := by decide +kernel
theorem dX2_timesOwn_31 : decode cX2_timesOwn 31 = .ok (.getfield 9, 3) := by decide +kernel
theorem dX2_timesOwn_34 : decode cX2_timesOwn 34 = .ok (.iload_n 2, 1) := by decide +kernel
theorem dX2_timesOwn_35 : decode cX2_timesOwn 35 = .ok (.laload, 1) := by decide +kernel
theorem dX2_timesOwn_36 : decode cX2_timesOwn 36 = .ok (.lneg, 1) := by decide +kernel
theorem dX2_timesOwn_37 : decode cX2_timesOwn 37 = .ok (.lastore, 1) := by decide +kernel
theorem dX2_timesOwn_38 : decode cX2_timesOwn 38 = .ok (.iinc 2 1, 3) := by decide +kernel
theorem dX2_timesOwn_41 : decode cX2_timesOwn 41 = .ok (.goto (-39), 3) := by decide +kernel
theorem dX2_timesOwn_44 : decode cX2_timesOwn 44 = .ok (.iconst 0, 1) := by decide +kernel
theorem dX2_timesOwn_45 : decode cX2_timesOwn 45 = .ok (.istore_n 2, 1) := by decide +kernel
theorem dX2_timesOwn_46 : decode cX2_timesOwn 46 = .ok (.iload_n 2, 1) := by decide +kernel
theorem dX2_timesOwn_47 : decode cX2_timesOwn 47 = .ok (.aload_n 0, 1) := by decide +kernel
theorem dX2_timesOwn_48 : decode cX2_timesOwn 48 = .ok (.getfield 23, 3) := by decide +kernel
theorem dX2_timesOwn_51 : decode cX2_timesOwn 51 = .ok (.if_icmp .ge 66, 3) := by decide +kernel
theorem dX2_timesOwn_54 : decode cX2_timesOwn 54 = .ok (.aload_n 0, 1) := by decide +kernel
theorem dX2_timesOwn_55 : decode cX2_timesOwn 55 = .ok (.getfield 23, 3) := by decide +kernel
theorem dX2_timesOwn_58 : decode cX2_timesOwn 58 = .ok (.iload_n 2, 1) := by decide +kernel
theorem dX2_timesOwn_59 : decode cX2_timesOwn 59 = .ok (.isub, 1) := by decide +kernel
theorem dX2_timesOwn_60 : decode cX2_timesOwn 60 = .ok (.istore_n 3, 1) := by decide +kernel
theorem dX2_timesOwn_61 : decode cX2_timesOwn 61 = .ok (.iconst 1, 1) := by decide +kernel
theorem dX2_timesOwn_62 : decode cX2_timesOwn 62 = .ok (.istore 4, 2) := by decide +kernel
theorem dX2_timesOwn_64 : decode cX2_timesOwn 64 = .ok (.iload 4, 2) := by decide +kernel
theorem dX2_timesOwn_66 : decode cX2_timesOwn 66 = .ok (.iload_n 3, 1) := by decide +kernel
theorem dX2_timesOwn_67 : decode cX2_timesOwn 67 = .ok (.if_icmp .gt 31, 3) := by decide +kernel
theorem dX2_timesOwn_70 : decode cX2_timesOwn 70 = .ok (.aload_n 0, 1) := by decide +kernel
theorem dX2_timesOwn_71 : decode cX2_timesOwn 71 = .ok (.getfield 20, 3) := by decide +kernel
theorem dX2_timesOwn_74 : decode cX2_timesOwn 74 = .ok (.iload 4, 2) := by decide +kernel
theorem dX2_timesOwn_76 : decode cX2_timesOwn 76 = .ok (.dup2, 1) := by decide +kernel
theorem dX2_timesOwn_77 : decode cX2_timesOwn 77 = .ok (.laload, 1) := by decide +kernel
theorem dX2_timesOwn_78 : decode cX2_timesOwn 78 = .ok (.iload_n 1, 1) := by decide +kernel
theorem dX2_timesOwn_79 : decode cX2_timesOwn 79 = .ok (.i2l, 1) := by decide +kernel
theorem dX2_timesOwn_80 : decode cX2_timesOwn 80 = .ok (.aload_n 0, 1) := by decide +kernel
theorem dX2_timesOwn_81 : decode cX2_timesOwn 81 = .ok (.getfield 20, 3) := by decide +kernel
theorem dX2_timesOwn_84 : decode cX2_timesOwn 84 = .ok (.iload 4, 2) := by decide +kernel
theorem dX2_timesOwn_86 : decode cX2_timesOwn 86 = .ok (.iconst 1, 1) := by decide +kernel
theorem dX2_timesOwn_87 : decode cX2_timesOwn 87 = .ok (.isub, 1) := by decide +kernel
theorem dX2_timesOwn_88 : decode cX2_timesOwn 88 = .ok (.laload, 1) := by decide +kernel
theorem dX2_timesOwn_89 : decode cX2_timesOwn 89 = .ok (.lmul, 1) := by decide +kernel
theorem dX2_timesOwn_90 : decode cX2_timesOwn 90 = .ok (.ladd, 1) := by decide +kernel
theorem dX2_timesOwn_91 : decode cX2_timesOwn 91 = .ok (.lastore, 1) := by decide +kernel
theorem dX2_timesOwn_92 : decode cX2_timesOwn 92 = .ok (.iinc 4 1, 3) := by decide +kernel
theorem dX2_timesOwn_95 : decode cX2_timesOwn 95 = .ok (.goto (-31), 3) := by decide +kernel
theorem dX2_timesOwn_98 : decode cX2_timesOwn 98 = .ok (.aload_n 0, 1) := by decide +kernel
theorem dX2_timesOwn_99 : decode cX2_timesOwn 99 = .ok (.getfield 20, 3) := by decide +kernel
theorem dX2_timesOwn_102 : decode cX2_timesOwn 102 = .ok (.iload_n 3, 1) := by decide +kernel
theorem dX2_timesOwn_103 : decode cX2_timesOwn 103 = .ok (.laload, 1) := by decide +kernel
theorem dX2_timesOwn_104 : decode cX2_timesOwn 104 = .ok (.lconst 0, 1) := by decide +kernel
theorem dX2_timesOwn_105 : decode cX2_timesOwn 105 = .ok (.lcmp, 1) := by decide +kernel
theorem dX2_timesOwn_106 : decode cX2_timesOwn 106 = .ok (.ifCond .eq 5, 3) := by decide +kernel
theorem dX2_timesOwn_109 : decode cX2_timesOwn 109 = .ok (.iload_n 2, 1) := by decide +kernel
theorem dX2_timesOwn_110 : decode cX2_timesOwn 110 = .ok (.ireturn, 1) := by decide +kernel
theorem dX2_timesOwn_111 : decode cX2_timesOwn 111 = .ok (.iinc 2 1, 3) := by decide +kernel
theorem dX2_timesOwn_114 : decode cX2_timesOwn 114 = .ok (.goto (-68), 3) := by decide +kernel
theorem dX2_timesOwn_117 : decode cX2_timesOwn 117 = .ok (.aload_n 0, 1) := by decide +kernel
theorem dX2_timesOwn_118 : decode cX2_timesOwn 118 = .ok (.getfield 23, 3) := by decide +kernel
theorem dX2_timesOwn_121 : decode cX2_timesOwn 121 = .ok (.ireturn, 1) := by decide +kernel
theorem dX2_letsIn_0 : decode cX2_letsIn 0 = .ok (.aload_n 0, 1) := by decide +kernel
theorem dX2_letsIn_1 : decode cX2_letsIn 1 = .ok (.getfield 23, 3) := by decide +kernel
theorem dX2_letsIn_4 : decode cX2_letsIn 4 = .ok (.iconst 1, 1) := by decide +kernel
theorem dX2_letsIn_5 : decode cX2_letsIn 5 = .ok (.iadd, 1) := by decide +kernel
theorem dX2_letsIn_6 : decode cX2_letsIn 6 = .ok (.istore_n 3, 1) := by decide +kernel
theorem dX2_letsIn_7 : decode cX2_letsIn 7 = .ok (.iload_n 3, 1) := by decide +kernel
theorem dX2_letsIn_8 : decode cX2_letsIn 8 = .ok (.iconst 2, 1) := by decide +kernel
theorem dX2_letsIn_9 : decode cX2_letsIn 9 = .ok (.if_icmp .lt 38, 3) := by decide +kernel
theorem dX2_letsIn_12 : decode cX2_letsIn 12 = .ok (.aload_n 0, 1) := by decide +kernel
theorem dX2_letsIn_13 : decode cX2_letsIn 13 = .ok (.iload_n 1, 1) := by decide +kernel
theorem dX2_letsIn_14 : decode cX2_letsIn 14 = .ok (.iload_n 3, 1) := by decide +kernel
theorem dX2_letsIn_15 : decode cX2_letsIn 15 = .ok (.invokevirtual 57, 3) := by decide +kernel
theorem dX2_letsIn_18 : decode cX2_letsIn 18 = .ok (.lstore 4, 2) := by decide +kernel
theorem dX2_letsIn_20 : decode cX2_letsIn 20 = .ok (.lload 4, 2) := by decide +kernel
theorem dX2_letsIn_22 : decode cX2_letsIn 22 = .ok (.lconst 0, 1) := by decide +kernel
theorem dX2_letsIn_23 : decode cX2_letsIn 23 = .ok (.lcmp, 1) := by decide +kernel
theorem dX2_letsIn_24 : decode cX2_letsIn 24 = .ok (.ifCond .lt 15, 3) := by decide +kernel
theorem dX2_letsIn_27 : decode cX2_letsIn 27 = .ok (.iload_n 3, 1) := by decide +kernel
theorem dX2_letsIn_28 : decode cX2_letsIn 28 = .ok (.iload_n 2, 1) := by decide +kernel
theorem dX2_letsIn_29 : decode cX2_letsIn 29 = .ok (.if_icmp .le 12, 3) := by decide +kernel
theorem dX2_letsIn_32 : decode cX2_letsIn 32 = .ok (.lload 4, 2) := by decide +kernel
theorem dX2_letsIn_34 : decode cX2_letsIn 34 = .ok (.lconst 0, 1) := by decide +kernel
theorem dX2_letsIn_35 : decode cX2_letsIn 35 = .ok (.lcmp, 1) := by decide +kernel
theorem dX2_letsIn_36 : decode cX2_letsIn 36 = .ok (.ifCond .eq 5, 3) := by decide +kernel
theorem dX2_letsIn_39 : decode cX2_letsIn 39 = .ok (.iconst 0, 1) := by decide +kernel
theorem dX2_letsIn_40 : decode cX2_letsIn 40 = .ok (.ireturn, 1) := by decide +kernel
theorem dX2_letsIn_41 : decode cX2_letsIn 41 = .ok (.iinc 3 (-1), 3) := by decide +kernel
theorem dX2_letsIn_44 : decode cX2_letsIn 44 = .ok (.goto (-37), 3) := by decide +kernel
theorem dX2_letsIn_47 : decode cX2_letsIn 47 = .ok (.iconst 1, 1) := by decide +kernel
theorem dX2_letsIn_48 : decode cX2_letsIn 48 = .ok (.ireturn, 1) := by decide +kernel
theorem dX2_sumWith_0 : decode cX2_sumWith 0 = .ok (.aload_n 0, 1) := by decide +kernel
theorem dX2_sumWith_1 : decode cX2_sumWith 1 = .ok (.getfield 9, 3) := by decide +kernel
theorem dX2_sumWith_4 : decode cX2_sumWith 4 = .ok (.iload_n 2, 1) := by decide +kernel
theorem dX2_sumWith_5 : decode cX2_sumWith 5 = .ok (.laload, 1) := by decide +kernel
theorem dX2_sumWith_6 : decode cX2_sumWith 6 = .ok (.aload_n 0, 1) := by decide +kernel
theorem dX2_sumWith_7 : decode cX2_sumWith 7 = .ok (.getfield 27, 3) := by decide +kernel
theorem dX2_sumWith_10 : decode cX2_sumWith 10 = .ok (.i2l, 1) := by decide +kernel
theorem dX2_sumWith_11 : decode cX2_sumWith 11 = .ok (.aload_n 0, 1) := by decide +kernel
theorem dX2_sumWith_12 : decode cX2_sumWith 12 = .ok (.getfield 9, 3) := by decide +kernel
theorem dX2_sumWith_15 : decode cX2_sumWith 15 = .ok (.iload_n 2, 1) := by decide +kernel
theorem dX2_sumWith_16 : decode cX2_sumWith 16 = .ok (.iconst 1, 1) := by decide +kernel
theorem dX2_sumWith_17 : decode cX2_sumWith 17 = .ok (.isub, 1) := by decide +kernel
theorem dX2_sumWith_18 : decode cX2_sumWith 18 = .ok (.laload, 1) := by decide +kernel
theorem dX2_sumWith_19 : decode cX2_sumWith 19 = .ok (.lmul, 1) := by decide +kernel
theorem dX2_sumWith_20 : decode cX2_sumWith 20 = .ok (.ladd, 1) := by decide +kernel
theorem dX2_sumWith_21 : decode cX2_sumWith 21 = .ok (.aload_n 0, 1) := by decide +kernel
theorem dX2_sumWith_22 : decode cX2_sumWith 22 = .ok (.aload_n 0, 1) := by decide +kernel
theorem dX2_sumWith_23 : decode cX2_sumWith 23 = .ok (.getfield 17, 3) := by decide +kernel
theorem dX2_sumWith_26 : decode cX2_sumWith 26 = .ok (.iload_n 2, 1) := by decide +kernel
theorem dX2_sumWith_27 : decode cX2_sumWith 27 = .ok (.iconst 2, 1) := by decide +kernel
theorem dX2_sumWith_28 : decode cX2_sumWith 28 = .ok (.isub, 1) := by decide +kernel
theorem dX2_sumWith_29 : decode cX2_sumWith 29 = .ok (.aaload, 1) := by decide +kernel
theorem dX2_sumWith_30 : decode cX2_sumWith 30 = .ok (.iload_n 1, 1) := by decide +kernel
theorem dX2_sumWith_31 : decode cX2_sumWith 31 = .ok (.invokevirtual 61, 3) := by decide +kernel
theorem dX2_sumWith_34 : decode cX2_sumWith 34 = .ok (.lsub, 1) := by decide +kernel
theorem dX2_sumWith_35 : decode cX2_sumWith 35 = .ok (.lreturn, 1) := by decide +kernel
theorem dX2_bothSides_0 : decode cX2_bothSides 0 = .ok (.lconst 0, 1) := by decide +kernel
theorem dX2_bothSides_1 : decode cX2_bothSides 1 = .ok (.lstore_n 3, 1) := by decide +kernel
theorem dX2_bothSides_2 : decode cX2_bothSides 2 = .ok (.iconst 1, 1) := by decide +kernel
theorem dX2_bothSides_3 : decode cX2_bothSides 3 = .ok (.istore 5, 2) := by decide +kernel
theorem dX2_bothSides_5 : decode cX2_bothSides 5 = .ok (.iload 5, 2) := by decide +kernel
theorem dX2_bothSides_7 : decode cX2_bothSides 7 = .ok (.aload_n 0, 1) := by decide +kernel
theorem dX2_bothSides_8 : decode cX2_bothSides 8 = .ok (.getfield 23, 3) := by decide +kernel
theorem dX2_bothSides_11 : decode cX2_bothSides 11 = .ok (.if_icmp .ge 78, 3) := by decide +kernel
theorem dX2_bothSides_14 : decode cX2_bothSides 14 = .ok (.iload_n 2, 1) := by decide +kernel
theorem dX2_bothSides_15 : decode cX2_bothSides 15 = .ok (.iload 5, 2) := by decide +kernel
theorem dX2_bothSides_17 : decode cX2_bothSides 17 = .ok (.iushr, 1) := by decide +kernel
theorem dX2_bothSides_18 : decode cX2_bothSides 18 = .ok (.iconst 1, 1) := by decide +kernel
theorem dX2_bothSides_19 : decode cX2_bothSides 19 = .ok (.iand, 1) := by decide +kernel
theorem dX2_bothSides_20 : decode cX2_bothSides 20 = .ok (.ifCond .eq 9, 3) := by decide +kernel
theorem dX2_bothSides_23 : decode cX2_bothSides 23 = .ok (.iload_n 2, 1) := by decide +kernel
theorem dX2_bothSides_24 : decode cX2_bothSides 24 = .ok (.iconst (-1), 1) := by decide +kernel
theorem dX2_bothSides_25 : decode cX2_bothSides 25 = .ok (.ixor, 1) := by decide +kernel
theorem dX2_bothSides_26 : decode cX2_bothSides 26 = .ok (.goto 4, 3) := by decide +kernel
theorem dX2_bothSides_29 : decode cX2_bothSides 29 = .ok (.iload_n 2, 1) := by decide +kernel
theorem dX2_bothSides_30 : decode cX2_bothSides 30 = .ok (.istore 6, 2) := by decide +kernel
theorem dX2_bothSides_32 : decode cX2_bothSides 32 = .ok (.iconst 0, 1) := by decide +kernel
theorem dX2_bothSides_33 : decode cX2_bothSides 33 = .ok (.istore 7, 2) := by decide +kernel
theorem dX2_bothSides_35 : decode cX2_bothSides 35 = .ok (.iload 7, 2) := by decide +kernel
theorem dX2_bothSides_37 : decode cX2_bothSides 37 = .ok (.iload 5, 2) := by decide +kernel
theorem dX2_bothSides_39 : decode cX2_bothSides 39 = .ok (.if_icmp .ge 44, 3) := by decide +kernel
theorem dX2_bothSides_42 : decode cX2_bothSides 42 = .ok (.aload_n 1, 1) := by decide +kernel
theorem dX2_bothSides_43 : decode cX2_bothSides 43 = .ok (.aload_n 0, 1) := by decide +kernel
theorem dX2_bothSides_44 : decode cX2_bothSides 44 = .ok (.getfield 23, 3) := by decide +kernel
theorem dX2_bothSides_47 : decode cX2_bothSides 47 = .ok (.iload 5, 2) := by decide +kernel
theorem dX2_bothSides_49 : decode cX2_bothSides 49 = .ok (.imul, 1) := by decide +kernel
theorem dX2_bothSides_50 : decode cX2_bothSides 50 = .ok (.iload 7, 2) := by decide +kernel
theorem dX2_bothSides_52 : decode cX2_bothSides 52 = .ok (.iadd, 1) := by decide +kernel
theorem dX2_bothSides_53 : decode cX2_bothSides 53 = .ok (.laload, 1) := by decide +kernel
theorem dX2_bothSides_54 : decode cX2_bothSides 54 = .ok (.lstore 8, 2) := by decide +kernel
theorem dX2_bothSides_56 : decode cX2_bothSides 56 = .ok (.lload_n 3, 1) := by decide +kernel
theorem dX2_bothSides_57 : decode cX2_bothSides 57 = .ok (.iload 6, 2) := by decide +kernel
theorem dX2_bothSides_59 : decode cX2_bothSides 59 = .ok (.iload 7, 2) := by decide +kernel
theorem dX2_bothSides_61 : decode cX2_bothSides 61 = .ok (.iushr, 1) := by decide +kernel
theorem dX2_bothSides_62 : decode cX2_bothSides 62 = .ok (.iconst 1, 1) := by decide +kernel
theorem dX2_bothSides_63 : decode cX2_bothSides 63 = .ok (.iand, 1) := by decide +kernel
theorem dX2_bothSides_64 : decode cX2_bothSides 64 = .ok (.ifCond .eq 9, 3) := by decide +kernel
theorem dX2_bothSides_67 : decode cX2_bothSides 67 = .ok (.lload 8, 2) := by decide +kernel
theorem dX2_bothSides_69 : decode cX2_bothSides 69 = .ok (.lneg, 1) := by decide +kernel
theorem dX2_bothSides_70 : decode cX2_bothSides 70 = .ok (.goto 5, 3) := by decide +kernel
theorem dX2_bothSides_73 : decode cX2_bothSides 73 = .ok (.lload 8, 2) := by decide +kernel
theorem dX2_bothSides_75 : decode cX2_bothSides 75 = .ok (.ladd, 1) := by decide +kernel
theorem dX2_bothSides_76 : decode cX2_bothSides 76 = .ok (.lstore_n 3, 1) := by decide +kernel
theorem dX2_bothSides_77 : decode cX2_bothSides 77 = .ok (.iinc 7 1, 3) := by decide +kernel
theorem dX2_bothSides_80 : decode cX2_bothSides 80 = .ok (.goto (-45), 3) := by decide +kernel
theorem dX2_bothSides_83 : decode cX2_bothSides 83 = .ok (.iinc 5 1, 3) := by decide +kernel
theorem dX2_bothSides_86 : decode cX2_bothSides 86 = .ok (.goto (-81), 3) := by decide +kernel
theorem dX2_bothSides_89 : decode cX2_bothSides 89 = .ok (.aload_n 0, 1) := by decide +kernel
theorem dX2_bothSides_90 : decode cX2_bothSides 90 = .ok (.aload_n 1, 1) := by decide +kernel
theorem dX2_bothSides_91 : decode cX2_bothSides 91 = .ok (.invokevirtual 41, 3) := by decide +kernel
theorem dX2_bothSides_94 : decode cX2_bothSides 94 = .ok (.ldc2_w 65, 3) := by decide +kernel
theorem dX2_bothSides_97 : decode cX2_bothSides 97 = .ok (.lload_n 3, 1) := by decide +kernel
theorem dX2_bothSides_98 : decode cX2_bothSides 98 = .ok (.lmul, 1) := by decide +kernel
theorem dX2_bothSides_99 : decode cX2_bothSides 99 = .ok (.ladd, 1) := by decide +kernel
theorem dX2_bothSides_100 : decode cX2_bothSides 100 = .ok (.lreturn, 1) := by decide +kernel
