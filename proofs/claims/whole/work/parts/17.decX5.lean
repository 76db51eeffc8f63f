theorem dX5_in_0 : decode cX5_in 0 = .ok (.iload_n 0, 1) := by decide +kernel
theorem dX5_in_1 : decode cX5_in 1 = .ok (.iload_n 1, 1) := by decide +kernel
theorem dX5_in_2 : decode cX5_in 2 = .ok (.if_icmp .lt 12, 3) := by decide +kernel
theorem dX5_in_5 : decode cX5_in 5 = .ok (.iload_n 0, 1) := by decide +kernel
theorem dX5_in_6 : decode cX5_in 6 = .ok (.iload_n 2, 1) := by decide +kernel
theorem dX5_in_7 : decode cX5_in 7 = .ok (.if_icmp .gt 7, 3) := by decide +kernel
theorem dX5_in_10 : decode cX5_in 10 = .ok (.iconst 1, 1) := by decide +kernel
theorem dX5_in_11 : decode cX5_in 11 = .ok (.goto 4, 3) := by decide +kernel
theorem dX5_in_14 : decode cX5_in 14 = .ok (.iconst 0, 1) := by decide +kernel
theorem dX5_in_15 : decode cX5_in 15 = .ok (.ireturn, 1) := by decide +kernel
theorem dX5_isLine_0 : decode cX5_isLine 0 = .ok (.iload_n 1, 1) := by decide +kernel
theorem dX5_isLine_1 : decode cX5_isLine 1 = .ok (.iconst 0, 1) := by decide +kernel
theorem dX5_isLine_2 : decode cX5_isLine 2 = .ok (.aload_n 0, 1) := by decide +kernel
theorem dX5_isLine_3 : decode cX5_isLine 3 = .ok (.getfield 58, 3) := by decide +kernel
theorem dX5_isLine_6 : decode cX5_isLine 6 = .ok (.iconst 1, 1) := by decide +kernel
theorem dX5_isLine_7 : decode cX5_isLine 7 = .ok (.isub, 1) := by decide +kernel
theorem dX5_isLine_8 : decode cX5_isLine 8 = .ok (.invokestatic 61, 3) := by decide +kernel
theorem dX5_isLine_11 : decode cX5_isLine 11 = .ok (.ireturn, 1) := by decide +kernel
theorem dX5_set_0 : decode cX5_set 0 = .ok (.aload_n 0, 1) := by decide +kernel
theorem dX5_set_1 : decode cX5_set 1 = .ok (.getfield 7, 3) := by decide +kernel
theorem dX5_set_4 : decode cX5_set 4 = .ok (.bipush 10, 2) := by decide +kernel
theorem dX5_set_6 : decode cX5_set 6 = .ok (.iload_n 1, 1) := by decide +kernel
theorem dX5_set_7 : decode cX5_set 7 = .ok (.imul, 1) := by decide +kernel
theorem dX5_set_8 : decode cX5_set 8 = .ok (.iload_n 2, 1) := by decide +kernel
theorem dX5_set_9 : decode cX5_set 9 = .ok (.iadd, 1) := by decide +kernel
theorem dX5_set_10 : decode cX5_set 10 = .ok (.iload_n 3, 1) := by decide +kernel
theorem dX5_set_11 : decode cX5_set 11 = .ok (.iastore, 1) := by decide +kernel
theorem dX5_set_12 : decode cX5_set 12 = .ok (.aload_n 0, 1) := by decide +kernel
theorem dX5_set_13 : decode cX5_set 13 = .ok (.getfield 7, 3) := by decide +kernel
theorem dX5_set_16 : decode cX5_set 16 = .ok (.bipush 10, 2) := by decide +kernel
theorem dX5_set_18 : decode cX5_set 18 = .ok (.iload_n 2, 1) := by decide +kernel
theorem dX5_set_19 : decode cX5_set 19 = .ok (.imul, 1) := by decide +kernel
theorem dX5_set_20 : decode cX5_set 20 = .ok (.iload_n 1, 1) := by decide +kernel
theorem dX5_set_21 : decode cX5_set 21 = .ok (.iadd, 1) := by decide +kernel
theorem dX5_set_22 : decode cX5_set 22 = .ok (.iload_n 3, 1) := by decide +kernel
theorem dX5_set_23 : decode cX5_set 23 = .ok (.iastore, 1) := by decide +kernel
theorem dX5_set_24 : decode cX5_set 24 = .ok (.return_, 1) := by decide +kernel
theorem dX5_lines_0 : decode cX5_lines 0 = .ok (.iload_n 1, 1) := by decide +kernel
theorem dX5_lines_1 : decode cX5_lines 1 = .ok (.iconst 0, 1) := by decide +kernel
theorem dX5_lines_2 : decode cX5_lines 2 = .ok (.bipush 10, 2) := by decide +kernel
theorem dX5_lines_4 : decode cX5_lines 4 = .ok (.invokestatic 61, 3) := by decide +kernel
theorem dX5_lines_7 : decode cX5_lines 7 = .ok (.ifCond .ne 6, 3) := by decide +kernel
theorem dX5_lines_10 : decode cX5_lines 10 = .ok (.bipush (-2), 2) := by decide +kernel
theorem dX5_lines_12 : decode cX5_lines 12 = .ok (.ireturn, 1) := by decide +kernel
theorem dX5_lines_13 : decode cX5_lines 13 = .ok (.aload_n 0, 1) := by decide +kernel
theorem dX5_lines_14 : decode cX5_lines 14 = .ok (.getfield 58, 3) := by decide +kernel
theorem dX5_lines_17 : decode cX5_lines 17 = .ok (.istore_n 2, 1) := by decide +kernel
theorem dX5_lines_18 : decode cX5_lines 18 = .ok (.aload_n 0, 1) := by decide +kernel
theorem dX5_lines_19 : decode cX5_lines 19 = .ok (.iload_n 1, 1) := by decide +kernel
theorem dX5_lines_20 : decode cX5_lines 20 = .ok (.putfield 58, 3) := by decide +kernel
theorem dX5_lines_23 : decode cX5_lines 23 = .ok (.iconst 0, 1) := by decide +kernel
theorem dX5_lines_24 : decode cX5_lines 24 = .ok (.istore_n 3, 1) := by decide +kernel
theorem dX5_lines_25 : decode cX5_lines 25 = .ok (.iload_n 3, 1) := by decide +kernel
theorem dX5_lines_26 : decode cX5_lines 26 = .ok (.bipush 10, 2) := by decide +kernel
theorem dX5_lines_28 : decode cX5_lines 28 = .ok (.if_icmp .ge 32, 3) := by decide +kernel
theorem dX5_lines_31 : decode cX5_lines 31 = .ok (.iconst 0, 1) := by decide +kernel
theorem dX5_lines_32 : decode cX5_lines 32 = .ok (.istore 4, 2) := by decide +kernel
theorem dX5_lines_34 : decode cX5_lines 34 = .ok (.iload 4, 2) := by decide +kernel
theorem dX5_lines_36 : decode cX5_lines 36 = .ok (.iload_n 3, 1) := by decide +kernel
theorem dX5_lines_37 : decode cX5_lines 37 = .ok (.if_icmp .ge 17, 3) := by decide +kernel
theorem dX5_lines_40 : decode cX5_lines 40 = .ok (.aload_n 0, 1) := by decide +kernel
theorem dX5_lines_41 : decode cX5_lines 41 = .ok (.iload_n 3, 1) := by decide +kernel
theorem dX5_lines_42 : decode cX5_lines 42 = .ok (.iload 4, 2) := by decide +kernel
theorem dX5_lines_44 : decode cX5_lines 44 = .ok (.iconst 1, 1) := by decide +kernel
theorem dX5_lines_45 : decode cX5_lines 45 = .ok (.invokevirtual 65, 3) := by decide +kernel
theorem dX5_lines_48 : decode cX5_lines 48 = .ok (.iinc 4 1, 3) := by decide +kernel
theorem dX5_lines_51 : decode cX5_lines 51 = .ok (.goto (-17), 3) := by decide +kernel
theorem dX5_lines_54 : decode cX5_lines 54 = .ok (.iinc 3 1, 3) := by decide +kernel
theorem dX5_lines_57 : decode cX5_lines 57 = .ok (.goto (-32), 3) := by decide +kernel
theorem dX5_lines_60 : decode cX5_lines 60 = .ok (.iload_n 2, 1) := by decide +kernel
theorem dX5_lines_61 : decode cX5_lines 61 = .ok (.ireturn, 1) := by decide +kernel
theorem dX5_sign_0 : decode cX5_sign 0 = .ok (.aload_n 0, 1) := by decide +kernel
theorem dX5_sign_1 : decode cX5_sign 1 = .ok (.iload_n 1, 1) := by decide +kernel
theorem dX5_sign_2 : decode cX5_sign 2 = .ok (.invokevirtual 69, 3) := by decide +kernel
theorem dX5_sign_5 : decode cX5_sign 5 = .ok (.ifCond .eq 26, 3) := by decide +kernel
theorem dX5_sign_8 : decode cX5_sign 8 = .ok (.aload_n 0, 1) := by decide +kernel
theorem dX5_sign_9 : decode cX5_sign 9 = .ok (.iload_n 2, 1) := by decide +kernel
theorem dX5_sign_10 : decode cX5_sign 10 = .ok (.invokevirtual 69, 3) := by decide +kernel
theorem dX5_sign_13 : decode cX5_sign 13 = .ok (.ifCond .eq 18, 3) := by decide +kernel
theorem dX5_sign_16 : decode cX5_sign 16 = .ok (.iload_n 1, 1) := by decide +kernel
theorem dX5_sign_17 : decode cX5_sign 17 = .ok (.iload_n 2, 1) := by decide +kernel
theorem dX5_sign_18 : decode cX5_sign 18 = .ok (.if_icmp .eq 13, 3) := by decide +kernel
theorem dX5_sign_21 : decode cX5_sign 21 = .ok (.iload_n 3, 1) := by decide +kernel
theorem dX5_sign_22 : decode cX5_sign 22 = .ok (.iconst 1, 1) := by decide +kernel
theorem dX5_sign_23 : decode cX5_sign 23 = .ok (.if_icmp .eq 11, 3) := by decide +kernel
theorem dX5_sign_26 : decode cX5_sign 26 = .ok (.iload_n 3, 1) := by decide +kernel
theorem dX5_sign_27 : decode cX5_sign 27 = .ok (.iconst (-1), 1) := by decide +kernel
theorem dX5_sign_28 : decode cX5_sign 28 = .ok (.if_icmp .eq 6, 3) := by decide +kernel
theorem dX5_sign_31 : decode cX5_sign 31 = .ok (.bipush (-2), 2) := by decide +kernel
theorem dX5_sign_33 : decode cX5_sign 33 = .ok (.ireturn, 1) := by decide +kernel
theorem dX5_sign_34 : decode cX5_sign 34 = .ok (.aload_n 0, 1) := by decide +kernel
theorem dX5_sign_35 : decode cX5_sign 35 = .ok (.getfield 7, 3) := by decide +kernel
theorem dX5_sign_38 : decode cX5_sign 38 = .ok (.bipush 10, 2) := by decide +kernel
theorem dX5_sign_40 : decode cX5_sign 40 = .ok (.iload_n 1, 1) := by decide +kernel
theorem dX5_sign_41 : decode cX5_sign 41 = .ok (.imul, 1) := by decide +kernel
theorem dX5_sign_42 : decode cX5_sign 42 = .ok (.iload_n 2, 1) := by decide +kernel
theorem dX5_sign_43 : decode cX5_sign 43 = .ok (.iadd, 1) := by decide +kernel
theorem dX5_sign_44 : decode cX5_sign 44 = .ok (.iaload, 1) := by decide +kernel
theorem dX5_sign_45 : decode cX5_sign 45 = .ok (.istore 4, 2) := by decide +kernel
theorem dX5_sign_47 : decode cX5_sign 47 = .ok (.aload_n 0, 1) := by decide +kernel
theorem dX5_sign_48 : decode cX5_sign 48 = .ok (.iload_n 1, 1) := by decide +kernel
theorem dX5_sign_49 : decode cX5_sign 49 = .ok (.iload_n 2, 1) := by decide +kernel
theorem dX5_sign_50 : decode cX5_sign 50 = .ok (.iload_n 3, 1) := by decide +kernel
theorem dX5_sign_51 : decode cX5_sign 51 = .ok (.invokevirtual 65, 3) := by decide +kernel
theorem dX5_sign_54 : decode cX5_sign 54 = .ok (.iload 4, 2) := by decide +kernel
theorem dX5_sign_56 : decode cX5_sign 56 = .ok (.ireturn, 1) := by decide +kernel
theorem dX5_at_0 : decode cX5_at 0 = .ok (.aload_n 0, 1) := by decide +kernel
theorem dX5_at_1 : decode cX5_at 1 = .ok (.iload_n 1, 1) := by decide +kernel
theorem dX5_at_2 : decode cX5_at 2 = .ok (.invokevirtual 69, 3) := by decide +kernel
theorem dX5_at_5 : decode cX5_at 5 = .ok (.ifCond .eq 25, 3) := by decide +kernel
theorem dX5_at_8 : decode cX5_at 8 = .ok (.aload_n 0, 1) := by decide +kernel
theorem dX5_at_9 : decode cX5_at 9 = .ok (.iload_n 2, 1) := by decide +kernel
theorem dX5_at_10 : decode cX5_at 10 = .ok (.invokevirtual 69, 3) := by decide +kernel
theorem dX5_at_13 : decode cX5_at 13 = .ok (.ifCond .eq 17, 3) := by decide +kernel
theorem dX5_at_16 : decode cX5_at 16 = .ok (.aload_n 0, 1) := by decide +kernel
theorem dX5_at_17 : decode cX5_at 17 = .ok (.getfield 7, 3) := by decide +kernel
theorem dX5_at_20 : decode cX5_at 20 = .ok (.bipush 10, 2) := by decide +kernel
theorem dX5_at_22 : decode cX5_at 22 = .ok (.iload_n 1, 1) := by decide +kernel
theorem dX5_at_23 : decode cX5_at 23 = .ok (.imul, 1) := by decide +kernel
theorem dX5_at_24 : decode cX5_at 24 = .ok (.iload_n 2, 1) := by decide +kernel
theorem dX5_at_25 : decode cX5_at 25 = .ok (.iadd, 1) := by decide +kernel
theorem dX5_at_26 : decode cX5_at 26 = .ok (.iaload, 1) := by decide +kernel
theorem dX5_at_27 : decode cX5_at 27 = .ok (.goto 5, 3) := by decide +kernel
theorem dX5_at_30 : decode cX5_at 30 = .ok (.bipush (-2), 2) := by decide +kernel
theorem dX5_at_32 : decode cX5_at 32 = .ok (.ireturn, 1) := by decide +kernel
theorem dX5_turn_0 : decode cX5_turn 0 = .ok (.aload_n 0, 1) := by decide +kernel
theorem dX5_turn_1 : decode cX5_turn 1 = .ok (.iload_n 1, 1) := by decide +kernel
theorem dX5_turn_2 : decode cX5_turn 2 = .ok (.invokevirtual 69, 3) := by decide +kernel
theorem dX5_turn_5 : decode cX5_turn 5 = .ok (.ifCond .ne 6, 3) := by decide +kernel
theorem dX5_turn_8 : decode cX5_turn 8 = .ok (.bipush (-2), 2) := by decide +kernel
theorem dX5_turn_10 : decode cX5_turn 10 = .ok (.ireturn, 1) := by decide +kernel
theorem dX5_turn_11 : decode cX5_turn 11 = .ok (.iconst 0, 1) := by decide +kernel
theorem dX5_turn_12 : decode cX5_turn 12 = .ok (.istore_n 2, 1) := by decide +kernel
theorem dX5_turn_13 : decode cX5_turn 13 = .ok (.iconst 0, 1) := by decide +kernel
theorem dX5_turn_14 : decode cX5_turn 14 = .ok (.istore_n 3, 1) := by decide +kernel
theorem dX5_turn_15 : decode cX5_turn 15 = .ok (.iload_n 3, 1) := by decide +kernel
theorem dX5_turn_16 : decode cX5_turn 16 = .ok (.aload_n 0, 1) := by decide +kernel
theorem dX5_turn_17 : decode cX5_turn 17 = .ok (.getfield 58, 3) := by decide +kernel
theorem dX5_turn_20 : decode cX5_turn 20 = .ok (.if_icmp .ge 54, 3) := by decide +kernel
theorem dX5_turn_23 : decode cX5_turn 23 = .ok (.iload_n 3, 1) := by decide +kernel
theorem dX5_turn_24 : decode cX5_turn 24 = .ok (.iload_n 1, 1) := by decide +kernel
theorem dX5_turn_25 : decode cX5_turn 25 = .ok (.if_icmp .eq 43, 3) := by decide +kernel
theorem dX5_turn_28 : decode cX5_turn 28 = .ok (.aload_n 0, 1) := by decide +kernel
theorem dX5_turn_29 : decode cX5_turn 29 = .ok (.iload_n 1, 1) := by decide +kernel
theorem dX5_turn_30 : decode cX5_turn 30 = .ok (.iload_n 3, 1) := by decide +kernel
theorem dX5_turn_31 : decode cX5_turn 31 = .ok (.aload_n 0, 1) := by decide +kernel
theorem dX5_turn_32 : decode cX5_turn 32 = .ok (.getfield 7, 3) := by decide +kernel
theorem dX5_turn_35 : decode cX5_turn 35 = .ok (.bipush 10, 2) := by decide +kernel
theorem dX5_turn_37 : decode cX5_turn 37 = .ok (.iload_n 1, 1) := by decide +kernel
theorem dX5_turn_38 : decode cX5_turn 38 = .ok (.imul, 1) := by decide +kernel
theorem dX5_turn_39 : decode cX5_turn 39 = .ok (.iload_n 3, 1) := by decide +kernel
theorem dX5_turn_40 : decode cX5_turn 40 = .ok (.iadd, 1) := by decide +kernel
theorem dX5_turn_41 : decode cX5_turn 41 = .ok (.iaload, 1) := by decide +kernel
theorem dX5_turn_42 : decode cX5_turn 42 = .ok (.ineg, 1) := by decide +kernel
theorem dX5_turn_43 : decode cX5_turn 43 = .ok (.invokevirtual 65, 3) := by decide +kernel
theorem dX5_turn_46 : decode cX5_turn 46 = .ok (.iload_n 2, 1) := by decide +kernel
theorem dX5_turn_47 : decode cX5_turn 47 = .ok (.aload_n 0, 1) := by decide +kernel
theorem dX5_turn_48 : decode cX5_turn 48 = .ok (.getfield 7, 3) := by decide +kernel
theorem dX5_turn_51 : decode cX5_turn 51 = .ok (.bipush 10, 2) := by decide +kernel
theorem dX5_turn_53 : decode cX5_turn 53 = .ok (.iload_n 1, 1) := by decide +kernel
theorem dX5_turn_54 : decode cX5_turn 54 = .ok (.imul, 1) := by decide +kernel
theorem dX5_turn_55 : decode cX5_turn 55 = .ok (.iload_n 3, 1) := by decide +kernel
theorem dX5_turn_56 : decode cX5_turn 56 = .ok (.iadd, 1) := by decide +kernel
theorem dX5_turn_57 : decode cX5_turn 57 = .ok (.iaload, 1) := by decide +kernel
theorem dX5_turn_58 : decode cX5_turn 58 = .ok (.ifCond .ge 7, 3) := by decide +kernel
theorem dX5_turn_61 : decode cX5_turn 61 = .ok (.iconst 1, 1) := by decide +kernel
theorem dX5_turn_62 : decode cX5_turn 62 = .ok (.goto 4, 3) := by decide +kernel
theorem dX5_turn_65 : decode cX5_turn 65 = .ok (.iconst 0, 1) := by decide +kernel
theorem dX5_turn_66 : decode cX5_turn 66 = .ok (.iadd, 1) := by decide +kernel
theorem dX5_turn_67 : decode cX5_turn 67 = .ok (.istore_n 2, 1) := by decide +kernel
theorem dX5_turn_68 : decode cX5_turn 68 = .ok (.iinc 3 1, 3) := by decide +kernel
theorem dX5_turn_71 : decode cX5_turn 71 = .ok (.goto (-56), 3) := by decide +kernel
theorem dX5_turn_74 : decode cX5_turn 74 = .ok (.iload_n 2, 1) := by decide +kernel
theorem dX5_turn_75 : decode cX5_turn 75 = .ok (.ireturn, 1) := by decide +kernel
theorem dX5_change_0 : decode cX5_change 0 = .ok (.aload_n 0, 1) := by decide +kernel
theorem dX5_change_1 : decode cX5_change 1 = .ok (.iload_n 1, 1) := by decide +kernel
theorem dX5_change_2 : decode cX5_change 2 = .ok (.invokevirtual 69, 3) := by decide +kernel
theorem dX5_change_5 : decode cX5_change 5 = .ok (.ifCond .eq 11, 3) := by decide +kernel
theorem dX5_change_8 : decode cX5_change 8 = .ok (.aload_n 0, 1) := by decide +kernel
theorem dX5_change_9 : decode cX5_change 9 = .ok (.iload_n 2, 1) := by decide +kernel
theorem dX5_change_10 : decode cX5_change 10 = .ok (.invokevirtual 69, 3) := by decide +kernel
theorem dX5_change_13 : decode cX5_change 13 = .ok (.ifCond .ne 6, 3) := by decide +kernel
theorem dX5_change_16 : decode cX5_change 16 = .ok (.bipush (-2), 2) := by decide +kernel
theorem dX5_change_18 : decode cX5_change 18 = .ok (.ireturn, 1) := by decide +kernel
theorem dX5_change_19 : decode cX5_change 19 = .ok (.iconst 0, 1) := by decide +kernel
theorem dX5_change_20 : decode cX5_change 20 = .ok (.istore_n 3, 1) := by decide +kernel
theorem dX5_change_21 : decode cX5_change 21 = .ok (.iload_n 3, 1) := by decide +kernel
theorem dX5_change_22 : decode cX5_change 22 = .ok (.aload_n 0, 1) := by decide +kernel
theorem dX5_change_23 : decode cX5_change 23 = .ok (.getfield 58, 3) := by decide +kernel
theorem dX5_change_26 : decode cX5_change 26 = .ok (.if_icmp .ge 57, 3) := by decide +kernel
theorem dX5_change_29 : decode cX5_change 29 = .ok (.iload_n 3, 1) := by decide +kernel
theorem dX5_change_30 : decode cX5_change 30 = .ok (.iload_n 1, 1) := by decide +kernel
theorem dX5_change_31 : decode cX5_change 31 = .ok (.if_icmp .eq 46, 3) := by decide +kernel
theorem dX5_change_34 : decode cX5_change 34 = .ok (.iload_n 3, 1) := by decide +kernel
theorem dX5_change_35 : decode cX5_change 35 = .ok (.iload_n 2, 1) := by decide +kernel
theorem dX5_change_36 : decode cX5_change 36 = .ok (.if_icmp .eq 41, 3) := by decide +kernel
theorem dX5_change_39 : decode cX5_change 39 = .ok (.aload_n 0, 1) := by decide +kernel
theorem dX5_change_40 : decode cX5_change 40 = .ok (.getfield 7, 3) := by decide +kernel
theorem dX5_change_43 : decode cX5_change 43 = .ok (.bipush 10, 2) := by decide +kernel
theorem dX5_change_45 : decode cX5_change 45 = .ok (.iload_n 1, 1) := by decide +kernel
theorem dX5_change_46 : decode cX5_change 46 = .ok (.imul, 1) := by decide +kernel
theorem dX5_change_47 : decode cX5_change 47 = .ok (.iload_n 3, 1) := by decide +kernel
theorem dX5_change_48 : decode cX5_change 48 = .ok (.iadd, 1) := by decide +kernel
theorem dX5_change_49 : decode cX5_change 49 = .ok (.iaload, 1) := by decide +kernel
theorem dX5_change_50 : decode cX5_change 50 = .ok (.istore 4, 2) := by decide +kernel
theorem dX5_change_52 : decode cX5_change 52 = .ok (.aload_n 0, 1) := by decide +kernel
theorem dX5_change_53 : decode cX5_change 53 = .ok (.iload_n 1, 1) := by decide +kernel
theorem dX5_change_54 : decode cX5_change 54 = .ok (.iload_n 3, 1) := by decide +kernel
theorem dX5_change_55 : decode cX5_change 55 = .ok (.aload_n 0, 1) := by decide +kernel
theorem dX5_change_56 : decode cX5_change 56 = .ok (.getfield 7, 3) := by decide +kernel
theorem dX5_change_59 : decode cX5_change 59 = .ok (.bipush 10, 2) := by decide +kernel
theorem dX5_change_61 : decode cX5_change 61 = .ok (.iload_n 2, 1) := by decide +kernel
theorem dX5_change_62 : decode cX5_change 62 = .ok (.imul, 1) := by decide +kernel
theorem dX5_change_63 : decode cX5_change 63 = .ok (.iload_n 3, 1) := by decide +kernel
theorem dX5_change_64 : decode cX5_change 64 = .ok (.iadd, 1) := by decide +kernel
theorem dX5_change_65 : decode cX5_change 65 = .ok (.iaload, 1) := by decide +kernel
theorem dX5_change_66 : decode cX5_change 66 = .ok (.invokevirtual 65, 3) := by decide +kernel
theorem dX5_change_69 : decode cX5_change 69 = .ok (.aload_n 0, 1) := by decide +kernel
theorem dX5_change_70 : decode cX5_change 70 = .ok (.iload_n 2, 1) := by decide +kernel
theorem dX5_change_71 : decode cX5_change 71 = .ok (.iload_n 3, 1) := by decide +kernel
theorem dX5_change_72 : decode cX5_change 72 = .ok (.iload 4, 2) := by decide +kernel
theorem dX5_change_74 : decode cX5_change 74 = .ok (.invokevirtual 65, 3) := by decide +kernel
theorem dX5_change_77 : decode cX5_change 77 = .ok (.iinc 3 1, 3) := by decide +kernel
theorem dX5_change_80 : decode cX5_change 80 = .ok (.goto (-59), 3) := by decide +kernel
theorem dX5_change_83 : decode cX5_change 83 = .ok (.iconst 1, 1) := by decide +kernel
theorem dX5_change_84 : decode cX5_change 84 = .ok (.ireturn, 1) := by decide +kernel
theorem dX5_isOdd_0 : decode cX5_isOdd 0 = .ok (.aload_n 0, 1) := by decide +kernel
theorem dX5_isOdd_1 : decode cX5_isOdd 1 = .ok (.getfield 7, 3) := by decide +kernel
theorem dX5_isOdd_4 : decode cX5_isOdd 4 = .ok (.bipush 10, 2) := by decide +kernel
theorem dX5_isOdd_6 : decode cX5_isOdd 6 = .ok (.iload_n 1, 1) := by decide +kernel
theorem dX5_isOdd_7 : decode cX5_isOdd 7 = .ok (.imul, 1) := by decide +kernel
theorem dX5_isOdd_8 : decode cX5_isOdd 8 = .ok (.iload_n 2, 1) := by decide +kernel
theorem dX5_isOdd_9 : decode cX5_isOdd 9 = .ok (.iadd, 1) := by decide +kernel
theorem dX5_isOdd_10 : decode cX5_isOdd 10 = .ok (.iaload, 1) := by decide +kernel
theorem dX5_isOdd_11 : decode cX5_isOdd 11 = .ok (.aload_n 0, 1) := by decide +kernel
theorem dX5_isOdd_12 : decode cX5_isOdd 12 = .ok (.getfield 7, 3) := by decide +kernel
theorem dX5_isOdd_15 : decode cX5_isOdd 15 = .ok (.bipush 10, 2) := by decide +kernel
theorem dX5_isOdd_17 : decode cX5_isOdd 17 = .ok (.iload_n 1, 1) := by decide +kernel
theorem dX5_isOdd_18 : decode cX5_isOdd 18 = .ok (.imul, 1) := by decide +kernel
theorem dX5_isOdd_19 : decode cX5_isOdd 19 = .ok (.iload_n 3, 1) := by decide +kernel
theorem dX5_isOdd_20 : decode cX5_isOdd 20 = .ok (.iadd, 1) := by decide +kernel
theorem dX5_isOdd_21 : decode cX5_isOdd 21 = .ok (.iaload, 1) := by decide +kernel
theorem dX5_isOdd_22 : decode cX5_isOdd 22 = .ok (.imul, 1) := by decide +kernel
theorem dX5_isOdd_23 : decode cX5_isOdd 23 = .ok (.aload_n 0, 1) := by decide +kernel
theorem dX5_isOdd_24 : decode cX5_isOdd 24 = .ok (.getfield 7, 3) := by decide +kernel
theorem dX5_isOdd_27 : decode cX5_isOdd 27 = .ok (.bipush 10, 2) := by decide +kernel
theorem dX5_isOdd_29 : decode cX5_isOdd 29 = .ok (.iload_n 2, 1) := by decide +kernel
theorem dX5_isOdd_30 : decode cX5_isOdd 30 = .ok (.imul, 1) := by decide +kernel
theorem dX5_isOdd_31 : decode cX5_isOdd 31 = .ok (.iload_n 3, 1) := by decide +kernel
theorem dX5_isOdd_32 : decode cX5_isOdd 32 = .ok (.iadd, 1) := by decide +kernel
theorem dX5_isOdd_33 : decode cX5_isOdd 33 = .ok (.iaload, 1) := by decide +kernel
theorem dX5_isOdd_34 : decode cX5_isOdd 34 = .ok (.imul, 1) := by decide +kernel
theorem dX5_isOdd_35 : decode cX5_isOdd 35 = .ok (.ifCond .ge 7, 3) := by decide +kernel
theorem dX5_isOdd_38 : decode cX5_isOdd 38 = .ok (.iconst 1, 1) := by decide +kernel
theorem dX5_isOdd_39 : decode cX5_isOdd 39 = .ok (.goto 4, 3) := by decide +kernel
theorem dX5_isOdd_42 : decode cX5_isOdd 42 = .ok (.iconst 0, 1) := by decide +kernel
theorem dX5_isOdd_43 : decode cX5_isOdd 43 = .ok (.ireturn, 1) := by decide +kernel
theorem dX5_togetherOf_0 : decode cX5_togetherOf 0 = .ok (.iconst 0, 1) := by decide +kernel
theorem dX5_togetherOf_1 : decode cX5_togetherOf 1 = .ok (.istore_n 3, 1) := by decide +kernel
theorem dX5_togetherOf_2 : decode cX5_togetherOf 2 = .ok (.iconst 0, 1) := by decide +kernel
theorem dX5_togetherOf_3 : decode cX5_togetherOf 3 = .ok (.istore 4, 2) := by decide +kernel
theorem dX5_togetherOf_5 : decode cX5_togetherOf 5 = .ok (.iload 4, 2) := by decide +kernel
theorem dX5_togetherOf_7 : decode cX5_togetherOf 7 = .ok (.aload_n 0, 1) := by decide +kernel
theorem dX5_togetherOf_8 : decode cX5_togetherOf 8 = .ok (.getfield 58, 3) := by decide +kernel
theorem dX5_togetherOf_11 : decode cX5_togetherOf 11 = .ok (.if_icmp .ge 40, 3) := by decide +kernel
theorem dX5_togetherOf_14 : decode cX5_togetherOf 14 = .ok (.iload_n 3, 1) := by decide +kernel
theorem dX5_togetherOf_15 : decode cX5_togetherOf 15 = .ok (.iload 4, 2) := by decide +kernel
theorem dX5_togetherOf_17 : decode cX5_togetherOf 17 = .ok (.iload_n 1, 1) := by decide +kernel
theorem dX5_togetherOf_18 : decode cX5_togetherOf 18 = .ok (.if_icmp .eq 24, 3) := by decide +kernel
theorem dX5_togetherOf_21 : decode cX5_togetherOf 21 = .ok (.iload 4, 2) := by decide +kernel
theorem dX5_togetherOf_23 : decode cX5_togetherOf 23 = .ok (.iload_n 2, 1) := by decide +kernel
theorem dX5_togetherOf_24 : decode cX5_togetherOf 24 = .ok (.if_icmp .eq 18, 3) := by decide +kernel
theorem dX5_togetherOf_27 : decode cX5_togetherOf 27 = .ok (.aload_n 0, 1) := by decide +kernel
theorem dX5_togetherOf_28 : decode cX5_togetherOf 28 = .ok (.iload_n 1, 1) := by decide +kernel
theorem dX5_togetherOf_29 : decode cX5_togetherOf 29 = .ok (.iload_n 2, 1) := by decide +kernel
theorem dX5_togetherOf_30 : decode cX5_togetherOf 30 = .ok (.iload 4, 2) := by decide +kernel
theorem dX5_togetherOf_32 : decode cX5_togetherOf 32 = .ok (.invokevirtual 73, 3) := by decide +kernel
theorem dX5_togetherOf_35 : decode cX5_togetherOf 35 = .ok (.ifCond .eq 7, 3) := by decide +kernel
theorem dX5_togetherOf_38 : decode cX5_togetherOf 38 = .ok (.iconst 1, 1) := by decide +kernel
theorem dX5_togetherOf_39 : decode cX5_togetherOf 39 = .ok (.goto 4, 3) := by decide +kernel
theorem dX5_togetherOf_42 : decode cX5_togetherOf 42 = .ok (.iconst 0, 1) := by decide +kernel
theorem dX5_togetherOf_43 : decode cX5_togetherOf 43 = .ok (.iadd, 1) := by decide +kernel
theorem dX5_togetherOf_44 : decode cX5_togetherOf 44 = .ok (.istore_n 3, 1) := by decide +kernel
theorem dX5_togetherOf_45 : decode cX5_togetherOf 45 = .ok (.iinc 4 1, 3) := by decide +kernel
theorem dX5_togetherOf_48 : decode cX5_togetherOf 48 = .ok (.goto (-43), 3) := by decide +kernel
theorem dX5_togetherOf_51 : decode cX5_togetherOf 51 = .ok (.iload_n 3, 1) := by decide +kernel
theorem dX5_togetherOf_52 : decode cX5_togetherOf 52 = .ok (.ireturn, 1) := by decide +kernel
theorem dX5_odd_0 : decode cX5_odd 0 = .ok (.iconst 0, 1) := by decide +kernel
theorem dX5_odd_1 : decode cX5_odd 1 = .ok (.istore_n 1, 1) := by decide +kernel
theorem dX5_odd_2 : decode cX5_odd 2 = .ok (.iconst 0, 1) := by decide +kernel
theorem dX5_odd_3 : decode cX5_odd 3 = .ok (.istore_n 2, 1) := by decide +kernel
theorem dX5_odd_4 : decode cX5_odd 4 = .ok (.iload_n 2, 1) := by decide +kernel
theorem dX5_odd_5 : decode cX5_odd 5 = .ok (.aload_n 0, 1) := by decide +kernel
theorem dX5_odd_6 : decode cX5_odd 6 = .ok (.getfield 58, 3) := by decide +kernel
theorem dX5_odd_9 : decode cX5_odd 9 = .ok (.if_icmp .ge 36, 3) := by decide +kernel
theorem dX5_odd_12 : decode cX5_odd 12 = .ok (.iload_n 2, 1) := by decide +kernel
theorem dX5_odd_13 : decode cX5_odd 13 = .ok (.iconst 1, 1) := by decide +kernel
theorem dX5_odd_14 : decode cX5_odd 14 = .ok (.iadd, 1) := by decide +kernel
theorem dX5_odd_15 : decode cX5_odd 15 = .ok (.istore_n 3, 1) := by decide +kernel
theorem dX5_odd_16 : decode cX5_odd 16 = .ok (.iload_n 3, 1) := by decide +kernel
theorem dX5_odd_17 : decode cX5_odd 17 = .ok (.aload_n 0, 1) := by decide +kernel
theorem dX5_odd_18 : decode cX5_odd 18 = .ok (.getfield 58, 3) := by decide +kernel
theorem dX5_odd_21 : decode cX5_odd 21 = .ok (.if_icmp .ge 18, 3) := by decide +kernel
theorem dX5_odd_24 : decode cX5_odd 24 = .ok (.iload_n 1, 1) := by decide +kernel
theorem dX5_odd_25 : decode cX5_odd 25 = .ok (.aload_n 0, 1) := by decide +kernel
theorem dX5_odd_26 : decode cX5_odd 26 = .ok (.iload_n 2, 1) := by decide +kernel
theorem dX5_odd_27 : decode cX5_odd 27 = .ok (.iload_n 3, 1) := by decide +kernel
theorem dX5_odd_28 : decode cX5_odd 28 = .ok (.invokevirtual 76, 3) := by decide +kernel
theorem dX5_odd_31 : decode cX5_odd 31 = .ok (.iadd, 1) := by decide +kernel
theorem dX5_odd_32 : decode cX5_odd 32 = .ok (.istore_n 1, 1) := by decide +kernel
theorem dX5_odd_33 : decode cX5_odd 33 = .ok (.iinc 3 1, 3) := by decide +kernel
theorem dX5_odd_36 : decode cX5_odd 36 = .ok (.goto (-20), 3) := by decide +kernel
theorem dX5_odd_39 : decode cX5_odd 39 = .ok (.iinc 2 1, 3) := by decide +kernel
theorem dX5_odd_42 : decode cX5_odd 42 = .ok (.goto (-38), 3) := by decide +kernel
theorem dX5_odd_45 : decode cX5_odd 45 = .ok (.iload_n 1, 1) := by decide +kernel
theorem dX5_odd_46 : decode cX5_odd 46 = .ok (.iconst 3, 1) := by decide +kernel
theorem dX5_odd_47 : decode cX5_odd 47 = .ok (.idiv, 1) := by decide +kernel
theorem dX5_odd_48 : decode cX5_odd 48 = .ok (.ireturn, 1) := by decide +kernel
theorem dX5_together_0 : decode cX5_together 0 = .ok (.aload_n 0, 1) := by decide +kernel
theorem dX5_together_1 : decode cX5_together 1 = .ok (.iload_n 1, 1) := by decide +kernel
theorem dX5_together_2 : decode cX5_together 2 = .ok (.invokevirtual 69, 3) := by decide +kernel
theorem dX5_together_5 : decode cX5_together 5 = .ok (.ifCond .eq 25, 3) := by decide +kernel
theorem dX5_together_8 : decode cX5_together 8 = .ok (.aload_n 0, 1) := by decide +kernel
theorem dX5_together_9 : decode cX5_together 9 = .ok (.iload_n 2, 1) := by decide +kernel
theorem dX5_together_10 : decode cX5_together 10 = .ok (.invokevirtual 69, 3) := by decide +kernel
theorem dX5_together_13 : decode cX5_together 13 = .ok (.ifCond .eq 17, 3) := by decide +kernel
theorem dX5_together_16 : decode cX5_together 16 = .ok (.iload_n 1, 1) := by decide +kernel
theorem dX5_together_17 : decode cX5_together 17 = .ok (.iload_n 2, 1) := by decide +kernel
theorem dX5_together_18 : decode cX5_together 18 = .ok (.if_icmp .eq 12, 3) := by decide +kernel
theorem dX5_together_21 : decode cX5_together 21 = .ok (.aload_n 0, 1) := by decide +kernel
theorem dX5_together_22 : decode cX5_together 22 = .ok (.iload_n 1, 1) := by decide +kernel
theorem dX5_together_23 : decode cX5_together 23 = .ok (.iload_n 2, 1) := by decide +kernel
theorem dX5_together_24 : decode cX5_together 24 = .ok (.invokevirtual 76, 3) := by decide +kernel
theorem dX5_together_27 : decode cX5_together 27 = .ok (.goto 5, 3) := by decide +kernel
theorem dX5_together_30 : decode cX5_together 30 = .ok (.bipush (-2), 2) := by decide +kernel
theorem dX5_together_32 : decode cX5_together 32 = .ok (.ireturn, 1) := by decide +kernel
theorem dX5_regular_0 : decode cX5_regular 0 = .ok (.iconst 0, 1) := by decide +kernel
theorem dX5_regular_1 : decode cX5_regular 1 = .ok (.istore_n 1, 1) := by decide +kernel
theorem dX5_regular_2 : decode cX5_regular 2 = .ok (.iload_n 1, 1) := by decide +kernel
theorem dX5_regular_3 : decode cX5_regular 3 = .ok (.aload_n 0, 1) := by decide +kernel
theorem dX5_regular_4 : decode cX5_regular 4 = .ok (.getfield 58, 3) := by decide +kernel
theorem dX5_regular_7 : decode cX5_regular 7 = .ok (.if_icmp .ge 44, 3) := by decide +kernel
theorem dX5_regular_10 : decode cX5_regular 10 = .ok (.iload_n 1, 1) := by decide +kernel
theorem dX5_regular_11 : decode cX5_regular 11 = .ok (.iconst 1, 1) := by decide +kernel
theorem dX5_regular_12 : decode cX5_regular 12 = .ok (.iadd, 1) := by decide +kernel
theorem dX5_regular_13 : decode cX5_regular 13 = .ok (.istore_n 2, 1) := by decide +kernel
theorem dX5_regular_14 : decode cX5_regular 14 = .ok (.iload_n 2, 1) := by decide +kernel
theorem dX5_regular_15 : decode cX5_regular 15 = .ok (.aload_n 0, 1) := by decide +kernel
theorem dX5_regular_16 : decode cX5_regular 16 = .ok (.getfield 58, 3) := by decide +kernel
theorem dX5_regular_19 : decode cX5_regular 19 = .ok (.if_icmp .ge 26, 3) := by decide +kernel
theorem dX5_regular_22 : decode cX5_regular 22 = .ok (.aload_n 0, 1) := by decide +kernel
theorem dX5_regular_23 : decode cX5_regular 23 = .ok (.iload_n 1, 1) := by decide +kernel
theorem dX5_regular_24 : decode cX5_regular 24 = .ok (.iload_n 2, 1) := by decide +kernel
theorem dX5_regular_25 : decode cX5_regular 25 = .ok (.invokevirtual 76, 3) := by decide +kernel
theorem dX5_regular_28 : decode cX5_regular 28 = .ok (.aload_n 0, 1) := by decide +kernel
theorem dX5_regular_29 : decode cX5_regular 29 = .ok (.iconst 0, 1) := by decide +kernel
theorem dX5_regular_30 : decode cX5_regular 30 = .ok (.iconst 1, 1) := by decide +kernel
theorem dX5_regular_31 : decode cX5_regular 31 = .ok (.invokevirtual 76, 3) := by decide +kernel
theorem dX5_regular_34 : decode cX5_regular 34 = .ok (.if_icmp .eq 5, 3) := by decide +kernel
theorem dX5_regular_37 : decode cX5_regular 37 = .ok (.iconst 0, 1) := by decide +kernel
theorem dX5_regular_38 : decode cX5_regular 38 = .ok (.ireturn, 1) := by decide +kernel
theorem dX5_regular_39 : decode cX5_regular 39 = .ok (.iinc 2 1, 3) := by decide +kernel
theorem dX5_regular_42 : decode cX5_regular 42 = .ok (.goto (-28), 3) := by decide +kernel
theorem dX5_regular_45 : decode cX5_regular 45 = .ok (.iinc 1 1, 3) := by decide +kernel
theorem dX5_regular_48 : decode cX5_regular 48 = .ok (.goto (-46), 3) := by decide +kernel
theorem dX5_regular_51 : decode cX5_regular 51 = .ok (.iconst 1, 1) := by decide +kernel
theorem dX5_regular_52 : decode cX5_regular 52 = .ok (.ireturn, 1) := by decide +kernel
theorem dX5_angle_0 : decode cX5_angle 0 = .ok (.iload_n 1, 1) := by decide +kernel
theorem dX5_angle_1 : decode cX5_angle 1 = .ok (.iconst 3, 1) := by decide +kernel
theorem dX5_angle_2 : decode cX5_angle 2 = .ok (.bipush 9, 2) := by decide +kernel
theorem dX5_angle_4 : decode cX5_angle 4 = .ok (.invokestatic 61, 3) := by decide +kernel
theorem dX5_angle_7 : decode cX5_angle 7 = .ok (.ifCond .eq 9, 3) := by decide +kernel
theorem dX5_angle_10 : decode cX5_angle 10 = .ok (.iload_n 1, 1) := by decide +kernel
theorem dX5_angle_11 : decode cX5_angle 11 = .ok (.iconst 2, 1) := by decide +kernel
theorem dX5_angle_12 : decode cX5_angle 12 = .ok (.irem, 1) := by decide +kernel
theorem dX5_angle_13 : decode cX5_angle 13 = .ok (.ifCond .ne 6, 3) := by decide +kernel
theorem dX5_angle_16 : decode cX5_angle 16 = .ok (.bipush (-2), 2) := by decide +kernel
theorem dX5_angle_18 : decode cX5_angle 18 = .ok (.ireturn, 1) := by decide +kernel
theorem dX5_angle_19 : decode cX5_angle 19 = .ok (.aload_n 0, 1) := by decide +kernel
theorem dX5_angle_20 : decode cX5_angle 20 = .ok (.getfield 13, 3) := by decide +kernel
theorem dX5_angle_23 : decode cX5_angle 23 = .ok (.istore_n 2, 1) := by decide +kernel
theorem dX5_angle_24 : decode cX5_angle 24 = .ok (.aload_n 0, 1) := by decide +kernel
theorem dX5_angle_25 : decode cX5_angle 25 = .ok (.iload_n 1, 1) := by decide +kernel
theorem dX5_angle_26 : decode cX5_angle 26 = .ok (.putfield 13, 3) := by decide +kernel
theorem dX5_angle_29 : decode cX5_angle 29 = .ok (.iload_n 2, 1) := by decide +kernel
theorem dX5_angle_30 : decode cX5_angle 30 = .ok (.ireturn, 1) := by decide +kernel
theorem dX5_reckon_0 : decode cX5_reckon 0 = .ok (.iconst 0, 1) := by decide +kernel
theorem dX5_reckon_1 : decode cX5_reckon 1 = .ok (.istore_n 3, 1) := by decide +kernel
theorem dX5_reckon_2 : decode cX5_reckon 2 = .ok (.iload_n 3, 1) := by decide +kernel
theorem dX5_reckon_3 : decode cX5_reckon 3 = .ok (.bipush 100, 2) := by decide +kernel
theorem dX5_reckon_5 : decode cX5_reckon 5 = .ok (.if_icmp .ge 52, 3) := by decide +kernel
theorem dX5_reckon_8 : decode cX5_reckon 8 = .ok (.aload_n 0, 1) := by decide +kernel
theorem dX5_reckon_9 : decode cX5_reckon 9 = .ok (.getfield 17, 3) := by decide +kernel
theorem dX5_reckon_12 : decode cX5_reckon 12 = .ok (.iload_n 3, 1) := by decide +kernel
theorem dX5_reckon_13 : decode cX5_reckon 13 = .ok (.iload_n 3, 1) := by decide +kernel
theorem dX5_reckon_14 : decode cX5_reckon 14 = .ok (.bipush 11, 2) := by decide +kernel
theorem dX5_reckon_16 : decode cX5_reckon 16 = .ok (.irem, 1) := by decide +kernel
theorem dX5_reckon_17 : decode cX5_reckon 17 = .ok (.ifCond .ne 8, 3) := by decide +kernel
theorem dX5_reckon_20 : decode cX5_reckon 20 = .ok (.iload_n 2, 1) := by decide +kernel
theorem dX5_reckon_21 : decode cX5_reckon 21 = .ok (.i2l, 1) := by decide +kernel
theorem dX5_reckon_22 : decode cX5_reckon 22 = .ok (.goto 10, 3) := by decide +kernel
theorem dX5_reckon_25 : decode cX5_reckon 25 = .ok (.aload_n 0, 1) := by decide +kernel
theorem dX5_reckon_26 : decode cX5_reckon 26 = .ok (.getfield 7, 3) := by decide +kernel
theorem dX5_reckon_29 : decode cX5_reckon 29 = .ok (.iload_n 3, 1) := by decide +kernel
theorem dX5_reckon_30 : decode cX5_reckon 30 = .ok (.iaload, 1) := by decide +kernel
theorem dX5_reckon_31 : decode cX5_reckon 31 = .ok (.i2l, 1) := by decide +kernel
theorem dX5_reckon_32 : decode cX5_reckon 32 = .ok (.lastore, 1) := by decide +kernel
theorem dX5_reckon_33 : decode cX5_reckon 33 = .ok (.aload_n 0, 1) := by decide +kernel
theorem dX5_reckon_34 : decode cX5_reckon 34 = .ok (.getfield 21, 3) := by decide +kernel
theorem dX5_reckon_37 : decode cX5_reckon 37 = .ok (.iload_n 3, 1) := by decide +kernel
theorem dX5_reckon_38 : decode cX5_reckon 38 = .ok (.iload_n 3, 1) := by decide +kernel
theorem dX5_reckon_39 : decode cX5_reckon 39 = .ok (.bipush 11, 2) := by decide +kernel
theorem dX5_reckon_41 : decode cX5_reckon 41 = .ok (.irem, 1) := by decide +kernel
theorem dX5_reckon_42 : decode cX5_reckon 42 = .ok (.ifCond .ne 7, 3) := by decide +kernel
theorem dX5_reckon_45 : decode cX5_reckon 45 = .ok (.lconst 1, 1) := by decide +kernel
theorem dX5_reckon_46 : decode cX5_reckon 46 = .ok (.goto 4, 3) := by decide +kernel
theorem dX5_reckon_49 : decode cX5_reckon 49 = .ok (.lconst 0, 1) := by decide +kernel
theorem dX5_reckon_50 : decode cX5_reckon 50 = .ok (.lastore, 1) := by decide +kernel
theorem dX5_reckon_51 : decode cX5_reckon 51 = .ok (.iinc 3 1, 3) := by decide +kernel
theorem dX5_reckon_54 : decode cX5_reckon 54 = .ok (.goto (-52), 3) := by decide +kernel
theorem dX5_reckon_57 : decode cX5_reckon 57 = .ok (.aload_n 0, 1) := by decide +kernel
theorem dX5_reckon_58 : decode cX5_reckon 58 = .ok (.getfield 30, 3) := by decide +kernel
theorem dX5_reckon_61 : decode cX5_reckon 61 = .ok (.iconst 0, 1) := by decide +kernel
theorem dX5_reckon_62 : decode cX5_reckon 62 = .ok (.lconst 1, 1) := by decide +kernel
theorem dX5_reckon_63 : decode cX5_reckon 63 = .ok (.lastore, 1) := by decide +kernel
theorem dX5_reckon_64 : decode cX5_reckon 64 = .ok (.iconst 1, 1) := by decide +kernel
theorem dX5_reckon_65 : decode cX5_reckon 65 = .ok (.istore_n 3, 1) := by decide +kernel
theorem dX5_reckon_66 : decode cX5_reckon 66 = .ok (.iload_n 3, 1) := by decide +kernel
theorem dX5_reckon_67 : decode cX5_reckon 67 = .ok (.iload_n 1, 1) := by decide +kernel
theorem dX5_reckon_68 : decode cX5_reckon 68 = .ok (.if_icmp .gt 242, 3) := by decide +kernel
theorem dX5_reckon_71 : decode cX5_reckon 71 = .ok (.iconst 0, 1) := by decide +kernel
theorem dX5_reckon_72 : decode cX5_reckon 72 = .ok (.istore 4, 2) := by decide +kernel
theorem dX5_reckon_74 : decode cX5_reckon 74 = .ok (.iload 4, 2) := by decide +kernel
theorem dX5_reckon_76 : decode cX5_reckon 76 = .ok (.iload_n 1, 1) := by decide +kernel
theorem dX5_reckon_77 : decode cX5_reckon 77 = .ok (.if_icmp .ge 89, 3) := by decide +kernel
theorem dX5_reckon_80 : decode cX5_reckon 80 = .ok (.iconst 0, 1) := by decide +kernel
theorem dX5_reckon_81 : decode cX5_reckon 81 = .ok (.istore 5, 2) := by decide +kernel
theorem dX5_reckon_83 : decode cX5_reckon 83 = .ok (.iload 5, 2) := by decide +kernel
theorem dX5_reckon_85 : decode cX5_reckon 85 = .ok (.iload_n 1, 1) := by decide +kernel
theorem dX5_reckon_86 : decode cX5_reckon 86 = .ok (.if_icmp .ge 74, 3) := by decide +kernel
theorem dX5_reckon_89 : decode cX5_reckon 89 = .ok (.lconst 0, 1) := by decide +kernel
theorem dX5_reckon_90 : decode cX5_reckon 90 = .ok (.lstore 6, 2) := by decide +kernel
theorem dX5_reckon_92 : decode cX5_reckon 92 = .ok (.iconst 0, 1) := by decide +kernel
theorem dX5_reckon_93 : decode cX5_reckon 93 = .ok (.istore 8, 2) := by decide +kernel
theorem dX5_reckon_95 : decode cX5_reckon 95 = .ok (.iload 8, 2) := by decide +kernel
theorem dX5_reckon_97 : decode cX5_reckon 97 = .ok (.iload_n 1, 1) := by decide +kernel
theorem dX5_reckon_98 : decode cX5_reckon 98 = .ok (.if_icmp .ge 41, 3) := by decide +kernel
theorem dX5_reckon_101 : decode cX5_reckon 101 = .ok (.lload 6, 2) := by decide +kernel
theorem dX5_reckon_103 : decode cX5_reckon 103 = .ok (.aload_n 0, 1) := by decide +kernel
theorem dX5_reckon_104 : decode cX5_reckon 104 = .ok (.getfield 21, 3) := by decide +kernel
theorem dX5_reckon_107 : decode cX5_reckon 107 = .ok (.bipush 10, 2) := by decide +kernel
theorem dX5_reckon_109 : decode cX5_reckon 109 = .ok (.iload 4, 2) := by decide +kernel
theorem dX5_reckon_111 : decode cX5_reckon 111 = .ok (.imul, 1) := by decide +kernel
theorem dX5_reckon_112 : decode cX5_reckon 112 = .ok (.iload 8, 2) := by decide +kernel
theorem dX5_reckon_114 : decode cX5_reckon 114 = .ok (.iadd, 1) := by decide +kernel
theorem dX5_reckon_115 : decode cX5_reckon 115 = .ok (.laload, 1) := by decide +kernel
theorem dX5_reckon_116 : decode cX5_reckon 116 = .ok (.aload_n 0, 1) := by decide +kernel
theorem dX5_reckon_117 : decode cX5_reckon 117 = .ok (.getfield 17, 3) := by decide +kernel
theorem dX5_reckon_120 : decode cX5_reckon 120 = .ok (.bipush 10, 2) := by decide +kernel
theorem dX5_reckon_122 : decode cX5_reckon 122 = .ok (.iload 8, 2) := by decide +kernel
theorem dX5_reckon_124 : decode cX5_reckon 124 = .ok (.imul, 1) := by decide +kernel
theorem dX5_reckon_125 : decode cX5_reckon 125 = .ok (.iload 5, 2) := by decide +kernel
theorem dX5_reckon_127 : decode cX5_reckon 127 = .ok (.iadd, 1) := by decide +kernel
theorem dX5_reckon_128 : decode cX5_reckon 128 = .ok (.laload, 1) := by decide +kernel
theorem dX5_reckon_129 : decode cX5_reckon 129 = .ok (.lmul, 1) := by decide +kernel
theorem dX5_reckon_130 : decode cX5_reckon 130 = .ok (.ladd, 1) := by decide +kernel
theorem dX5_reckon_131 : decode cX5_reckon 131 = .ok (.lstore 6, 2) := by decide +kernel
theorem dX5_reckon_133 : decode cX5_reckon 133 = .ok (.iinc 8 1, 3) := by decide +kernel
theorem dX5_reckon_136 : decode cX5_reckon 136 = .ok (.goto (-41), 3) := by decide +kernel
theorem dX5_reckon_139 : decode cX5_reckon 139 = .ok (.aload_n 0, 1) := by decide +kernel
theorem dX5_reckon_140 : decode cX5_reckon 140 = .ok (.getfield 24, 3) := by decide +kernel
theorem dX5_reckon_143 : decode cX5_reckon 143 = .ok (.bipush 10, 2) := by decide +kernel
theorem dX5_reckon_145 : decode cX5_reckon 145 = .ok (.iload 4, 2) := by decide +kernel
theorem dX5_reckon_147 : decode cX5_reckon 147 = .ok (.imul, 1) := by decide +kernel
theorem dX5_reckon_148 : decode cX5_reckon 148 = .ok (.iload 5, 2) := by decide +kernel
theorem dX5_reckon_150 : decode cX5_reckon 150 = .ok (.iadd, 1) := by decide +kernel
theorem dX5_reckon_151 : decode cX5_reckon 151 = .ok (.lload 6, 2) := by decide +kernel
theorem dX5_reckon_153 : decode cX5_reckon 153 = .ok (.lastore, 1) := by decide +kernel
theorem dX5_reckon_154 : decode cX5_reckon 154 = .ok (.iinc 5 1, 3) := by decide +kernel
theorem dX5_reckon_157 : decode cX5_reckon 157 = .ok (.goto (-74), 3) := by decide +kernel
theorem dX5_reckon_160 : decode cX5_reckon 160 = .ok (.iinc 4 1, 3) := by decide +kernel
theorem dX5_reckon_163 : decode cX5_reckon 163 = .ok (.goto (-89), 3) := by decide +kernel
theorem dX5_reckon_166 : decode cX5_reckon 166 = .ok (.aload_n 0, 1) := by decide +kernel
theorem dX5_reckon_167 : decode cX5_reckon 167 = .ok (.getfield 27, 3) := by decide +kernel
theorem dX5_reckon_170 : decode cX5_reckon 170 = .ok (.iload_n 3, 1) := by decide +kernel
theorem dX5_reckon_171 : decode cX5_reckon 171 = .ok (.lconst 0, 1) := by decide +kernel
theorem dX5_reckon_172 : decode cX5_reckon 172 = .ok (.lastore, 1) := by decide +kernel
theorem dX5_reckon_173 : decode cX5_reckon 173 = .ok (.iconst 0, 1) := by decide +kernel
theorem dX5_reckon_174 : decode cX5_reckon 174 = .ok (.istore 4, 2) := by decide +kernel
theorem dX5_reckon_176 : decode cX5_reckon 176 = .ok (.iload 4, 2) := by decide +kernel
theorem dX5_reckon_178 : decode cX5_reckon 178 = .ok (.iload_n 1, 1) := by decide +kernel
theorem dX5_reckon_179 : decode cX5_reckon 179 = .ok (.if_icmp .ge 28, 3) := by decide +kernel
theorem dX5_reckon_182 : decode cX5_reckon 182 = .ok (.aload_n 0, 1) := by decide +kernel
theorem dX5_reckon_183 : decode cX5_reckon 183 = .ok (.getfield 27, 3) := by decide +kernel
theorem dX5_reckon_186 : decode cX5_reckon 186 = .ok (.iload_n 3, 1) := by decide +kernel
theorem dX5_reckon_187 : decode cX5_reckon 187 = .ok (.dup2, 1) := by decide +kernel
theorem dX5_reckon_188 : decode cX5_reckon 188 = .ok (.laload, 1) := by decide +kernel
theorem dX5_reckon_189 : decode cX5_reckon 189 = .ok (.aload_n 0, 1) := by decide +kernel
theorem dX5_reckon_190 : decode cX5_reckon 190 = .ok (.getfield 24, 3) := by decide +kernel
theorem dX5_reckon_193 : decode cX5_reckon 193 = .ok (.bipush 11, 2) := by decide +kernel
theorem dX5_reckon_195 : decode cX5_reckon 195 = .ok (.iload 4, 2) := by decide +kernel
theorem dX5_reckon_197 : decode cX5_reckon 197 = .ok (.imul, 1) := by decide +kernel
theorem dX5_reckon_198 : decode cX5_reckon 198 = .ok (.laload, 1) := by decide +kernel
theorem dX5_reckon_199 : decode cX5_reckon 199 = .ok (.ladd, 1) := by decide +kernel
theorem dX5_reckon_200 : decode cX5_reckon 200 = .ok (.lastore, 1) := by decide +kernel
theorem dX5_reckon_201 : decode cX5_reckon 201 = .ok (.iinc 4 1, 3) := by decide +kernel
theorem dX5_reckon_204 : decode cX5_reckon 204 = .ok (.goto (-28), 3) := by decide +kernel
theorem dX5_reckon_207 : decode cX5_reckon 207 = .ok (.iconst 0, 1) := by decide +kernel
theorem dX5_reckon_208 : decode cX5_reckon 208 = .ok (.istore 4, 2) := by decide +kernel
theorem dX5_reckon_210 : decode cX5_reckon 210 = .ok (.iload 4, 2) := by decide +kernel
theorem dX5_reckon_212 : decode cX5_reckon 212 = .ok (.bipush 100, 2) := by decide +kernel
theorem dX5_reckon_214 : decode cX5_reckon 214 = .ok (.if_icmp .ge 23, 3) := by decide +kernel
theorem dX5_reckon_217 : decode cX5_reckon 217 = .ok (.aload_n 0, 1) := by decide +kernel
theorem dX5_reckon_218 : decode cX5_reckon 218 = .ok (.getfield 21, 3) := by decide +kernel
theorem dX5_reckon_221 : decode cX5_reckon 221 = .ok (.iload 4, 2) := by decide +kernel
theorem dX5_reckon_223 : decode cX5_reckon 223 = .ok (.aload_n 0, 1) := by decide +kernel
theorem dX5_reckon_224 : decode cX5_reckon 224 = .ok (.getfield 24, 3) := by decide +kernel
theorem dX5_reckon_227 : decode cX5_reckon 227 = .ok (.iload 4, 2) := by decide +kernel
theorem dX5_reckon_229 : decode cX5_reckon 229 = .ok (.laload, 1) := by decide +kernel
theorem dX5_reckon_230 : decode cX5_reckon 230 = .ok (.lastore, 1) := by decide +kernel
theorem dX5_reckon_231 : decode cX5_reckon 231 = .ok (.iinc 4 1, 3) := by decide +kernel
theorem dX5_reckon_234 : decode cX5_reckon 234 = .ok (.goto (-24), 3) := by decide +kernel
theorem dX5_reckon_237 : decode cX5_reckon 237 = .ok (.lconst 0, 1) := by decide +kernel
theorem dX5_reckon_238 : decode cX5_reckon 238 = .ok (.lstore 4, 2) := by decide +kernel
theorem dX5_reckon_240 : decode cX5_reckon 240 = .ok (.iconst 1, 1) := by decide +kernel
theorem dX5_reckon_241 : decode cX5_reckon 241 = .ok (.istore 6, 2) := by decide +kernel
theorem dX5_reckon_243 : decode cX5_reckon 243 = .ok (.iload 6, 2) := by decide +kernel
theorem dX5_reckon_245 : decode cX5_reckon 245 = .ok (.iload_n 3, 1) := by decide +kernel
theorem dX5_reckon_246 : decode cX5_reckon 246 = .ok (.if_icmp .gt 47, 3) := by decide +kernel
theorem dX5_reckon_249 : decode cX5_reckon 249 = .ok (.lload 4, 2) := by decide +kernel
theorem dX5_reckon_251 : decode cX5_reckon 251 = .ok (.iload 6, 2) := by decide +kernel
theorem dX5_reckon_253 : decode cX5_reckon 253 = .ok (.iconst 2, 1) := by decide +kernel
theorem dX5_reckon_254 : decode cX5_reckon 254 = .ok (.irem, 1) := by decide +kernel
theorem dX5_reckon_255 : decode cX5_reckon 255 = .ok (.iconst 1, 1) := by decide +kernel
theorem dX5_reckon_256 : decode cX5_reckon 256 = .ok (.if_icmp .ne 7, 3) := by decide +kernel
theorem dX5_reckon_259 : decode cX5_reckon 259 = .ok (.lconst 1, 1) := by decide +kernel
theorem dX5_reckon_260 : decode cX5_reckon 260 = .ok (.goto 6, 3) := by decide +kernel
theorem dX5_reckon_263 : decode cX5_reckon 263 = .ok (.ldc2_w 80, 3) := by decide +kernel
theorem dX5_reckon_266 : decode cX5_reckon 266 = .ok (.aload_n 0, 1) := by decide +kernel
theorem dX5_reckon_267 : decode cX5_reckon 267 = .ok (.getfield 30, 3) := by decide +kernel
theorem dX5_reckon_270 : decode cX5_reckon 270 = .ok (.iload_n 3, 1) := by decide +kernel
theorem dX5_reckon_271 : decode cX5_reckon 271 = .ok (.iload 6, 2) := by decide +kernel
theorem dX5_reckon_273 : decode cX5_reckon 273 = .ok (.isub, 1) := by decide +kernel
theorem dX5_reckon_274 : decode cX5_reckon 274 = .ok (.laload, 1) := by decide +kernel
theorem dX5_reckon_275 : decode cX5_reckon 275 = .ok (.lmul, 1) := by decide +kernel
theorem dX5_reckon_276 : decode cX5_reckon 276 = .ok (.aload_n 0, 1) := by decide +kernel
theorem dX5_reckon_277 : decode cX5_reckon 277 = .ok (.getfield 27, 3) := by decide +kernel
theorem dX5_reckon_280 : decode cX5_reckon 280 = .ok (.iload 6, 2) := by decide +kernel
theorem dX5_reckon_282 : decode cX5_reckon 282 = .ok (.laload, 1) := by decide +kernel
theorem dX5_reckon_283 : decode cX5_reckon 283 = .ok (.lmul, 1) := by decide +kernel
theorem dX5_reckon_284 : decode cX5_reckon 284 = .ok (.ladd, 1) := by decide +kernel
theorem dX5_reckon_285 : decode cX5_reckon 285 = .ok (.lstore 4, 2) := by decide +kernel
theorem dX5_reckon_287 : decode cX5_reckon 287 = .ok (.iinc 6 1, 3) := by decide +kernel
theorem dX5_reckon_290 : decode cX5_reckon 290 = .ok (.goto (-47), 3) := by decide +kernel
theorem dX5_reckon_293 : decode cX5_reckon 293 = .ok (.aload_n 0, 1) := by decide +kernel
theorem dX5_reckon_294 : decode cX5_reckon 294 = .ok (.getfield 30, 3) := by decide +kernel
theorem dX5_reckon_297 : decode cX5_reckon 297 = .ok (.iload_n 3, 1) := by decide +kernel
theorem dX5_reckon_298 : decode cX5_reckon 298 = .ok (.lload 4, 2) := by decide +kernel
theorem dX5_reckon_300 : decode cX5_reckon 300 = .ok (.iload_n 3, 1) := by decide +kernel
theorem dX5_reckon_301 : decode cX5_reckon 301 = .ok (.i2l, 1) := by decide +kernel
theorem dX5_reckon_302 : decode cX5_reckon 302 = .ok (.ldiv, 1) := by decide +kernel
theorem dX5_reckon_303 : decode cX5_reckon 303 = .ok (.lastore, 1) := by decide +kernel
theorem dX5_reckon_304 : decode cX5_reckon 304 = .ok (.iinc 3 1, 3) := by decide +kernel
theorem dX5_reckon_307 : decode cX5_reckon 307 = .ok (.goto (-241), 3) := by decide +kernel
theorem dX5_reckon_310 : decode cX5_reckon 310 = .ok (.return_, 1) := by decide +kernel
theorem dX5_sums_0 : decode cX5_sums 0 = .ok (.iload_n 1, 1) := by decide +kernel
theorem dX5_sums_1 : decode cX5_sums 1 = .ok (.iconst 0, 1) := by decide +kernel
theorem dX5_sums_2 : decode cX5_sums 2 = .ok (.iconst 1, 1) := by decide +kernel
theorem dX5_sums_3 : decode cX5_sums 3 = .ok (.invokestatic 61, 3) := by decide +kernel
theorem dX5_sums_6 : decode cX5_sums 6 = .ok (.ifCond .eq 15, 3) := by decide +kernel
theorem dX5_sums_9 : decode cX5_sums 9 = .ok (.iload_n 2, 1) := by decide +kernel
theorem dX5_sums_10 : decode cX5_sums 10 = .ok (.iconst 0, 1) := by decide +kernel
theorem dX5_sums_11 : decode cX5_sums 11 = .ok (.aload_n 0, 1) := by decide +kernel
theorem dX5_sums_12 : decode cX5_sums 12 = .ok (.getfield 58, 3) := by decide +kernel
theorem dX5_sums_15 : decode cX5_sums 15 = .ok (.invokestatic 61, 3) := by decide +kernel
theorem dX5_sums_18 : decode cX5_sums 18 = .ok (.ifCond .ne 7, 3) := by decide +kernel
theorem dX5_sums_21 : decode cX5_sums 21 = .ok (.ldc2_w 82, 3) := by decide +kernel
theorem dX5_sums_24 : decode cX5_sums 24 = .ok (.lreturn, 1) := by decide +kernel
theorem dX5_sums_25 : decode cX5_sums 25 = .ok (.aload_n 0, 1) := by decide +kernel
theorem dX5_sums_26 : decode cX5_sums 26 = .ok (.aload_n 0, 1) := by decide +kernel
theorem dX5_sums_27 : decode cX5_sums 27 = .ok (.getfield 58, 3) := by decide +kernel
theorem dX5_sums_30 : decode cX5_sums 30 = .ok (.iload_n 1, 1) := by decide +kernel
theorem dX5_sums_31 : decode cX5_sums 31 = .ok (.ifCond .ne 7, 3) := by decide +kernel
theorem dX5_sums_34 : decode cX5_sums 34 = .ok (.iconst 0, 1) := by decide +kernel
theorem dX5_sums_35 : decode cX5_sums 35 = .ok (.goto 7, 3) := by decide +kernel
theorem dX5_sums_38 : decode cX5_sums 38 = .ok (.aload_n 0, 1) := by decide +kernel
theorem dX5_sums_39 : decode cX5_sums 39 = .ok (.getfield 13, 3) := by decide +kernel
theorem dX5_sums_42 : decode cX5_sums 42 = .ok (.invokevirtual 84, 3) := by decide +kernel
theorem dX5_sums_45 : decode cX5_sums 45 = .ok (.aload_n 0, 1) := by decide +kernel
theorem dX5_sums_46 : decode cX5_sums 46 = .ok (.getfield 30, 3) := by decide +kernel
theorem dX5_sums_49 : decode cX5_sums 49 = .ok (.iload_n 2, 1) := by decide +kernel
theorem dX5_sums_50 : decode cX5_sums 50 = .ok (.laload, 1) := by decide +kernel
theorem dX5_sums_51 : decode cX5_sums 51 = .ok (.lreturn, 1) := by decide +kernel
theorem dX5_own_0 : decode cX5_own 0 = .ok (.iload_n 1, 1) := by decide +kernel
theorem dX5_own_1 : decode cX5_own 1 = .ok (.bipush (-20), 2) := by decide +kernel
theorem dX5_own_3 : decode cX5_own 3 = .ok (.bipush 20, 2) := by decide +kernel
theorem dX5_own_5 : decode cX5_own 5 = .ok (.invokestatic 61, 3) := by decide +kernel
theorem dX5_own_8 : decode cX5_own 8 = .ok (.ifCond .ne 6, 3) := by decide +kernel
theorem dX5_own_11 : decode cX5_own 11 = .ok (.bipush (-2), 2) := by decide +kernel
theorem dX5_own_13 : decode cX5_own 13 = .ok (.ireturn, 1) := by decide +kernel
theorem dX5_own_14 : decode cX5_own 14 = .ok (.aload_n 0, 1) := by decide +kernel
theorem dX5_own_15 : decode cX5_own 15 = .ok (.aload_n 0, 1) := by decide +kernel
theorem dX5_own_16 : decode cX5_own 16 = .ok (.getfield 58, 3) := by decide +kernel
theorem dX5_own_19 : decode cX5_own 19 = .ok (.iconst 0, 1) := by decide +kernel
theorem dX5_own_20 : decode cX5_own 20 = .ok (.invokevirtual 84, 3) := by decide +kernel
theorem dX5_own_23 : decode cX5_own 23 = .ok (.iconst 0, 1) := by decide +kernel
theorem dX5_own_24 : decode cX5_own 24 = .ok (.istore_n 2, 1) := by decide +kernel
theorem dX5_own_25 : decode cX5_own 25 = .ok (.iload_n 2, 1) := by decide +kernel
theorem dX5_own_26 : decode cX5_own 26 = .ok (.aload_n 0, 1) := by decide +kernel
theorem dX5_own_27 : decode cX5_own 27 = .ok (.getfield 58, 3) := by decide +kernel
theorem dX5_own_30 : decode cX5_own 30 = .ok (.if_icmp .gt 37, 3) := by decide +kernel
theorem dX5_own_33 : decode cX5_own 33 = .ok (.aload_n 0, 1) := by decide +kernel
theorem dX5_own_34 : decode cX5_own 34 = .ok (.getfield 33, 3) := by decide +kernel
theorem dX5_own_37 : decode cX5_own 37 = .ok (.iload_n 2, 1) := by decide +kernel
theorem dX5_own_38 : decode cX5_own 38 = .ok (.iload_n 2, 1) := by decide +kernel
theorem dX5_own_39 : decode cX5_own 39 = .ok (.iconst 2, 1) := by decide +kernel
theorem dX5_own_40 : decode cX5_own 40 = .ok (.irem, 1) := by decide +kernel
theorem dX5_own_41 : decode cX5_own 41 = .ok (.ifCond .ne 12, 3) := by decide +kernel
theorem dX5_own_44 : decode cX5_own 44 = .ok (.aload_n 0, 1) := by decide +kernel
theorem dX5_own_45 : decode cX5_own 45 = .ok (.getfield 30, 3) := by decide +kernel
theorem dX5_own_48 : decode cX5_own 48 = .ok (.iload_n 2, 1) := by decide +kernel
theorem dX5_own_49 : decode cX5_own 49 = .ok (.laload, 1) := by decide +kernel
theorem dX5_own_50 : decode cX5_own 50 = .ok (.goto 10, 3) := by decide +kernel
theorem dX5_own_53 : decode cX5_own 53 = .ok (.aload_n 0, 1) := by decide +kernel
theorem dX5_own_54 : decode cX5_own 54 = .ok (.getfield 30, 3) := by decide +kernel
theorem dX5_own_57 : decode cX5_own 57 = .ok (.iload_n 2, 1) := by decide +kernel
theorem dX5_own_58 : decode cX5_own 58 = .ok (.laload, 1) := by decide +kernel
theorem dX5_own_59 : decode cX5_own 59 = .ok (.lneg, 1) := by decide +kernel
theorem dX5_own_60 : decode cX5_own 60 = .ok (.lastore, 1) := by decide +kernel
theorem dX5_own_61 : decode cX5_own 61 = .ok (.iinc 2 1, 3) := by decide +kernel
theorem dX5_own_64 : decode cX5_own 64 = .ok (.goto (-39), 3) := by decide +kernel
theorem dX5_own_67 : decode cX5_own 67 = .ok (.iconst 0, 1) := by decide +kernel
theorem dX5_own_68 : decode cX5_own 68 = .ok (.istore_n 2, 1) := by decide +kernel
theorem dX5_own_69 : decode cX5_own 69 = .ok (.aload_n 0, 1) := by decide +kernel
theorem dX5_own_70 : decode cX5_own 70 = .ok (.getfield 58, 3) := by decide +kernel
theorem dX5_own_73 : decode cX5_own 73 = .ok (.istore_n 3, 1) := by decide +kernel
theorem dX5_own_74 : decode cX5_own 74 = .ok (.iconst 1, 1) := by decide +kernel
theorem dX5_own_75 : decode cX5_own 75 = .ok (.istore 4, 2) := by decide +kernel
theorem dX5_own_77 : decode cX5_own 77 = .ok (.iload 4, 2) := by decide +kernel
theorem dX5_own_79 : decode cX5_own 79 = .ok (.ifCond .eq 86, 3) := by decide +kernel
theorem dX5_own_82 : decode cX5_own 82 = .ok (.iload_n 3, 1) := by decide +kernel
theorem dX5_own_83 : decode cX5_own 83 = .ok (.ifCond .le 82, 3) := by decide +kernel
theorem dX5_own_86 : decode cX5_own 86 = .ok (.iconst 1, 1) := by decide +kernel
theorem dX5_own_87 : decode cX5_own 87 = .ok (.istore 5, 2) := by decide +kernel
theorem dX5_own_89 : decode cX5_own 89 = .ok (.iload 5, 2) := by decide +kernel
theorem dX5_own_91 : decode cX5_own 91 = .ok (.iload_n 3, 1) := by decide +kernel
theorem dX5_own_92 : decode cX5_own 92 = .ok (.if_icmp .gt 36, 3) := by decide +kernel
theorem dX5_own_95 : decode cX5_own 95 = .ok (.aload_n 0, 1) := by decide +kernel
theorem dX5_own_96 : decode cX5_own 96 = .ok (.getfield 33, 3) := by decide +kernel
theorem dX5_own_99 : decode cX5_own 99 = .ok (.iload 5, 2) := by decide +kernel
theorem dX5_own_101 : decode cX5_own 101 = .ok (.aload_n 0, 1) := by decide +kernel
theorem dX5_own_102 : decode cX5_own 102 = .ok (.getfield 33, 3) := by decide +kernel
theorem dX5_own_105 : decode cX5_own 105 = .ok (.iload 5, 2) := by decide +kernel
theorem dX5_own_107 : decode cX5_own 107 = .ok (.laload, 1) := by decide +kernel
theorem dX5_own_108 : decode cX5_own 108 = .ok (.iload_n 1, 1) := by decide +kernel
theorem dX5_own_109 : decode cX5_own 109 = .ok (.i2l, 1) := by decide +kernel
theorem dX5_own_110 : decode cX5_own 110 = .ok (.aload_n 0, 1) := by decide +kernel
theorem dX5_own_111 : decode cX5_own 111 = .ok (.getfield 33, 3) := by decide +kernel
theorem dX5_own_114 : decode cX5_own 114 = .ok (.iload 5, 2) := by decide +kernel
theorem dX5_own_116 : decode cX5_own 116 = .ok (.iconst 1, 1) := by decide +kernel
theorem dX5_own_117 : decode cX5_own 117 = .ok (.isub, 1) := by decide +kernel
theorem dX5_own_118 : decode cX5_own 118 = .ok (.laload, 1) := by decide +kernel
theorem dX5_own_119 : decode cX5_own 119 = .ok (.lmul, 1) := by decide +kernel
theorem dX5_own_120 : decode cX5_own 120 = .ok (.ladd, 1) := by decide +kernel
theorem dX5_own_121 : decode cX5_own 121 = .ok (.lastore, 1) := by decide +kernel
theorem dX5_own_122 : decode cX5_own 122 = .ok (.iinc 5 1, 3) := by decide +kernel
theorem dX5_own_125 : decode cX5_own 125 = .ok (.goto (-36), 3) := by decide +kernel
theorem dX5_own_128 : decode cX5_own 128 = .ok (.aload_n 0, 1) := by decide +kernel
theorem dX5_own_129 : decode cX5_own 129 = .ok (.getfield 33, 3) := by decide +kernel
theorem dX5_own_132 : decode cX5_own 132 = .ok (.iload_n 3, 1) := by decide +kernel
theorem dX5_own_133 : decode cX5_own 133 = .ok (.laload, 1) := by decide +kernel
theorem dX5_own_134 : decode cX5_own 134 = .ok (.lconst 0, 1) := by decide +kernel
theorem dX5_own_135 : decode cX5_own 135 = .ok (.lcmp, 1) := by decide +kernel
theorem dX5_own_136 : decode cX5_own 136 = .ok (.ifCond .ne 7, 3) := by decide +kernel
theorem dX5_own_139 : decode cX5_own 139 = .ok (.iconst 1, 1) := by decide +kernel
theorem dX5_own_140 : decode cX5_own 140 = .ok (.goto 4, 3) := by decide +kernel
theorem dX5_own_143 : decode cX5_own 143 = .ok (.iconst 0, 1) := by decide +kernel
theorem dX5_own_144 : decode cX5_own 144 = .ok (.istore 4, 2) := by decide +kernel
theorem dX5_own_146 : decode cX5_own 146 = .ok (.iload_n 2, 1) := by decide +kernel
theorem dX5_own_147 : decode cX5_own 147 = .ok (.iload 4, 2) := by decide +kernel
theorem dX5_own_149 : decode cX5_own 149 = .ok (.ifCond .eq 7, 3) := by decide +kernel
theorem dX5_own_152 : decode cX5_own 152 = .ok (.iconst 1, 1) := by decide +kernel
theorem dX5_own_153 : decode cX5_own 153 = .ok (.goto 4, 3) := by decide +kernel
theorem dX5_own_156 : decode cX5_own 156 = .ok (.iconst 0, 1) := by decide +kernel
theorem dX5_own_157 : decode cX5_own 157 = .ok (.iadd, 1) := by decide +kernel
theorem dX5_own_158 : decode cX5_own 158 = .ok (.istore_n 2, 1) := by decide +kernel
theorem dX5_own_159 : decode cX5_own 159 = .ok (.iinc 3 (-1), 3) := by decide +kernel
theorem dX5_own_162 : decode cX5_own 162 = .ok (.goto (-85), 3) := by decide +kernel
theorem dX5_own_165 : decode cX5_own 165 = .ok (.iload_n 2, 1) := by decide +kernel
theorem dX5_own_166 : decode cX5_own 166 = .ok (.ireturn, 1) := by decide +kernel
theorem dX5_liesAll_0 : decode cX5_liesAll 0 = .ok (.iconst 0, 1) := by decide +kernel
theorem dX5_liesAll_1 : decode cX5_liesAll 1 = .ok (.istore_n 2, 1) := by decide +kernel
theorem dX5_liesAll_2 : decode cX5_liesAll 2 = .ok (.iload_n 2, 1) := by decide +kernel
theorem dX5_liesAll_3 : decode cX5_liesAll 3 = .ok (.iload_n 1, 1) := by decide +kernel
theorem dX5_liesAll_4 : decode cX5_liesAll 4 = .ok (.if_icmp .gt 22, 3) := by decide +kernel
theorem dX5_liesAll_7 : decode cX5_liesAll 7 = .ok (.aload_n 0, 1) := by decide +kernel
theorem dX5_liesAll_8 : decode cX5_liesAll 8 = .ok (.getfield 30, 3) := by decide +kernel
theorem dX5_liesAll_11 : decode cX5_liesAll 11 = .ok (.iload_n 2, 1) := by decide +kernel
theorem dX5_liesAll_12 : decode cX5_liesAll 12 = .ok (.laload, 1) := by decide +kernel
theorem dX5_liesAll_13 : decode cX5_liesAll 13 = .ok (.lconst 0, 1) := by decide +kernel
theorem dX5_liesAll_14 : decode cX5_liesAll 14 = .ok (.lcmp, 1) := by decide +kernel
theorem dX5_liesAll_15 : decode cX5_liesAll 15 = .ok (.ifCond .ge 5, 3) := by decide +kernel
theorem dX5_liesAll_18 : decode cX5_liesAll 18 = .ok (.iconst 0, 1) := by decide +kernel
theorem dX5_liesAll_19 : decode cX5_liesAll 19 = .ok (.ireturn, 1) := by decide +kernel
theorem dX5_liesAll_20 : decode cX5_liesAll 20 = .ok (.iinc 2 1, 3) := by decide +kernel
theorem dX5_liesAll_23 : decode cX5_liesAll 23 = .ok (.goto (-21), 3) := by decide +kernel
theorem dX5_liesAll_26 : decode cX5_liesAll 26 = .ok (.iconst 1, 1) := by decide +kernel
theorem dX5_liesAll_27 : decode cX5_liesAll 27 = .ok (.ireturn, 1) := by decide +kernel
theorem dX5_rankOf_0 : decode cX5_rankOf 0 = .ok (.iconst 0, 1) := by decide +kernel
theorem dX5_rankOf_1 : decode cX5_rankOf 1 = .ok (.istore_n 2, 1) := by decide +kernel
theorem dX5_rankOf_2 : decode cX5_rankOf 2 = .ok (.iconst 0, 1) := by decide +kernel
theorem dX5_rankOf_3 : decode cX5_rankOf 3 = .ok (.istore_n 3, 1) := by decide +kernel
theorem dX5_rankOf_4 : decode cX5_rankOf 4 = .ok (.iload_n 3, 1) := by decide +kernel
theorem dX5_rankOf_5 : decode cX5_rankOf 5 = .ok (.iload_n 1, 1) := by decide +kernel
theorem dX5_rankOf_6 : decode cX5_rankOf 6 = .ok (.if_icmp .gt 26, 3) := by decide +kernel
theorem dX5_rankOf_9 : decode cX5_rankOf 9 = .ok (.aload_n 0, 1) := by decide +kernel
theorem dX5_rankOf_10 : decode cX5_rankOf 10 = .ok (.getfield 30, 3) := by decide +kernel
theorem dX5_rankOf_13 : decode cX5_rankOf 13 = .ok (.iload_n 3, 1) := by decide +kernel
theorem dX5_rankOf_14 : decode cX5_rankOf 14 = .ok (.laload, 1) := by decide +kernel
theorem dX5_rankOf_15 : decode cX5_rankOf 15 = .ok (.lconst 0, 1) := by decide +kernel
theorem dX5_rankOf_16 : decode cX5_rankOf 16 = .ok (.lcmp, 1) := by decide +kernel
theorem dX5_rankOf_17 : decode cX5_rankOf 17 = .ok (.ifCond .eq 7, 3) := by decide +kernel
theorem dX5_rankOf_20 : decode cX5_rankOf 20 = .ok (.iload_n 3, 1) := by decide +kernel
theorem dX5_rankOf_21 : decode cX5_rankOf 21 = .ok (.goto 4, 3) := by decide +kernel
theorem dX5_rankOf_24 : decode cX5_rankOf 24 = .ok (.iload_n 2, 1) := by decide +kernel
theorem dX5_rankOf_25 : decode cX5_rankOf 25 = .ok (.istore_n 2, 1) := by decide +kernel
theorem dX5_rankOf_26 : decode cX5_rankOf 26 = .ok (.iinc 3 1, 3) := by decide +kernel
theorem dX5_rankOf_29 : decode cX5_rankOf 29 = .ok (.goto (-25), 3) := by decide +kernel
theorem dX5_rankOf_32 : decode cX5_rankOf 32 = .ok (.iload_n 2, 1) := by decide +kernel
theorem dX5_rankOf_33 : decode cX5_rankOf 33 = .ok (.ireturn, 1) := by decide +kernel
theorem dX5_lies_0 : decode cX5_lies 0 = .ok (.aload_n 0, 1) := by decide +kernel
theorem dX5_lies_1 : decode cX5_lies 1 = .ok (.aload_n 0, 1) := by decide +kernel
theorem dX5_lies_2 : decode cX5_lies 2 = .ok (.getfield 58, 3) := by decide +kernel
theorem dX5_lies_5 : decode cX5_lies 5 = .ok (.aload_n 0, 1) := by decide +kernel
theorem dX5_lies_6 : decode cX5_lies 6 = .ok (.getfield 13, 3) := by decide +kernel
theorem dX5_lies_9 : decode cX5_lies 9 = .ok (.invokevirtual 84, 3) := by decide +kernel
theorem dX5_lies_12 : decode cX5_lies 12 = .ok (.aload_n 0, 1) := by decide +kernel
theorem dX5_lies_13 : decode cX5_lies 13 = .ok (.aload_n 0, 1) := by decide +kernel
theorem dX5_lies_14 : decode cX5_lies 14 = .ok (.getfield 58, 3) := by decide +kernel
theorem dX5_lies_17 : decode cX5_lies 17 = .ok (.invokevirtual 88, 3) := by decide +kernel
theorem dX5_lies_20 : decode cX5_lies 20 = .ok (.ifCond .eq 7, 3) := by decide +kernel
theorem dX5_lies_23 : decode cX5_lies 23 = .ok (.iconst 1, 1) := by decide +kernel
theorem dX5_lies_24 : decode cX5_lies 24 = .ok (.goto 4, 3) := by decide +kernel
theorem dX5_lies_27 : decode cX5_lies 27 = .ok (.iconst 0, 1) := by decide +kernel
theorem dX5_lies_28 : decode cX5_lies 28 = .ok (.ireturn, 1) := by decide +kernel
theorem dX5_rank_0 : decode cX5_rank 0 = .ok (.aload_n 0, 1) := by decide +kernel
theorem dX5_rank_1 : decode cX5_rank 1 = .ok (.aload_n 0, 1) := by decide +kernel
theorem dX5_rank_2 : decode cX5_rank 2 = .ok (.getfield 58, 3) := by decide +kernel
theorem dX5_rank_5 : decode cX5_rank 5 = .ok (.aload_n 0, 1) := by decide +kernel
theorem dX5_rank_6 : decode cX5_rank 6 = .ok (.getfield 13, 3) := by decide +kernel
theorem dX5_rank_9 : decode cX5_rank 9 = .ok (.invokevirtual 84, 3) := by decide +kernel
theorem dX5_rank_12 : decode cX5_rank 12 = .ok (.aload_n 0, 1) := by decide +kernel
theorem dX5_rank_13 : decode cX5_rank 13 = .ok (.aload_n 0, 1) := by decide +kernel
theorem dX5_rank_14 : decode cX5_rank 14 = .ok (.getfield 58, 3) := by decide +kernel
theorem dX5_rank_17 : decode cX5_rank 17 = .ok (.invokevirtual 91, 3) := by decide +kernel
theorem dX5_rank_20 : decode cX5_rank 20 = .ok (.ireturn, 1) := by decide +kernel
theorem dX5_bound_0 : decode cX5_bound 0 = .ok (.iload_n 1, 1) := by decide +kernel
theorem dX5_bound_1 : decode cX5_bound 1 = .ok (.iconst 1, 1) := by decide +kernel
theorem dX5_bound_2 : decode cX5_bound 2 = .ok (.bipush 20, 2) := by decide +kernel
theorem dX5_bound_4 : decode cX5_bound 4 = .ok (.invokestatic 61, 3) := by decide +kernel
theorem dX5_bound_7 : decode cX5_bound 7 = .ok (.ifCond .ne 6, 3) := by decide +kernel
theorem dX5_bound_10 : decode cX5_bound 10 = .ok (.bipush (-2), 2) := by decide +kernel
theorem dX5_bound_12 : decode cX5_bound 12 = .ok (.ireturn, 1) := by decide +kernel
theorem dX5_bound_13 : decode cX5_bound 13 = .ok (.aload_n 0, 1) := by decide +kernel
theorem dX5_bound_14 : decode cX5_bound 14 = .ok (.getfield 13, 3) := by decide +kernel
theorem dX5_bound_17 : decode cX5_bound 17 = .ok (.aload_n 0, 1) := by decide +kernel
theorem dX5_bound_18 : decode cX5_bound 18 = .ok (.getfield 13, 3) := by decide +kernel
theorem dX5_bound_21 : decode cX5_bound 21 = .ok (.imul, 1) := by decide +kernel
theorem dX5_bound_22 : decode cX5_bound 22 = .ok (.istore_n 2, 1) := by decide +kernel
theorem dX5_bound_23 : decode cX5_bound 23 = .ok (.iload_n 1, 1) := by decide +kernel
theorem dX5_bound_24 : decode cX5_bound 24 = .ok (.iload_n 1, 1) := by decide +kernel
theorem dX5_bound_25 : decode cX5_bound 25 = .ok (.iconst 1, 1) := by decide +kernel
theorem dX5_bound_26 : decode cX5_bound 26 = .ok (.iadd, 1) := by decide +kernel
theorem dX5_bound_27 : decode cX5_bound 27 = .ok (.imul, 1) := by decide +kernel
theorem dX5_bound_28 : decode cX5_bound 28 = .ok (.iconst 2, 1) := by decide +kernel
theorem dX5_bound_29 : decode cX5_bound 29 = .ok (.idiv, 1) := by decide +kernel
theorem dX5_bound_30 : decode cX5_bound 30 = .ok (.istore_n 3, 1) := by decide +kernel
theorem dX5_bound_31 : decode cX5_bound 31 = .ok (.iload_n 1, 1) := by decide +kernel
theorem dX5_bound_32 : decode cX5_bound 32 = .ok (.iload_n 2, 1) := by decide +kernel
theorem dX5_bound_33 : decode cX5_bound 33 = .ok (.if_icmp .ge 15, 3) := by decide +kernel
theorem dX5_bound_36 : decode cX5_bound 36 = .ok (.iload_n 1, 1) := by decide +kernel
theorem dX5_bound_37 : decode cX5_bound 37 = .ok (.iload_n 2, 1) := by decide +kernel
theorem dX5_bound_38 : decode cX5_bound 38 = .ok (.iconst 1, 1) := by decide +kernel
theorem dX5_bound_39 : decode cX5_bound 39 = .ok (.isub, 1) := by decide +kernel
theorem dX5_bound_40 : decode cX5_bound 40 = .ok (.imul, 1) := by decide +kernel
theorem dX5_bound_41 : decode cX5_bound 41 = .ok (.iload_n 2, 1) := by decide +kernel
theorem dX5_bound_42 : decode cX5_bound 42 = .ok (.iload_n 1, 1) := by decide +kernel
theorem dX5_bound_43 : decode cX5_bound 43 = .ok (.isub, 1) := by decide +kernel
theorem dX5_bound_44 : decode cX5_bound 44 = .ok (.idiv, 1) := by decide +kernel
theorem dX5_bound_45 : decode cX5_bound 45 = .ok (.goto 4, 3) := by decide +kernel
theorem dX5_bound_48 : decode cX5_bound 48 = .ok (.iload_n 3, 1) := by decide +kernel
theorem dX5_bound_49 : decode cX5_bound 49 = .ok (.istore 4, 2) := by decide +kernel
theorem dX5_bound_51 : decode cX5_bound 51 = .ok (.iload 4, 2) := by decide +kernel
theorem dX5_bound_53 : decode cX5_bound 53 = .ok (.iload_n 3, 1) := by decide +kernel
theorem dX5_bound_54 : decode cX5_bound 54 = .ok (.if_icmp .ge 8, 3) := by decide +kernel
theorem dX5_bound_57 : decode cX5_bound 57 = .ok (.iload 4, 2) := by decide +kernel
theorem dX5_bound_59 : decode cX5_bound 59 = .ok (.goto 4, 3) := by decide +kernel
theorem dX5_bound_62 : decode cX5_bound 62 = .ok (.iload_n 3, 1) := by decide +kernel
theorem dX5_bound_63 : decode cX5_bound 63 = .ok (.ireturn, 1) := by decide +kernel
theorem dX5_isRow_0 : decode cX5_isRow 0 = .ok (.iload_n 1, 1) := by decide +kernel
theorem dX5_isRow_1 : decode cX5_isRow 1 = .ok (.ifCond .lt 23, 3) := by decide +kernel
theorem dX5_isRow_4 : decode cX5_isRow 4 = .ok (.iload_n 1, 1) := by decide +kernel
theorem dX5_isRow_5 : decode cX5_isRow 5 = .ok (.iconst 1, 1) := by decide +kernel
theorem dX5_isRow_6 : decode cX5_isRow 6 = .ok (.aload_n 0, 1) := by decide +kernel
theorem dX5_isRow_7 : decode cX5_isRow 7 = .ok (.getfield 58, 3) := by decide +kernel
theorem dX5_isRow_10 : decode cX5_isRow 10 = .ok (.ishl, 1) := by decide +kernel
theorem dX5_isRow_11 : decode cX5_isRow 11 = .ok (.if_icmp .ge 13, 3) := by decide +kernel
theorem dX5_isRow_14 : decode cX5_isRow 14 = .ok (.iload_n 1, 1) := by decide +kernel
theorem dX5_isRow_15 : decode cX5_isRow 15 = .ok (.iconst 2, 1) := by decide +kernel
theorem dX5_isRow_16 : decode cX5_isRow 16 = .ok (.irem, 1) := by decide +kernel
theorem dX5_isRow_17 : decode cX5_isRow 17 = .ok (.ifCond .ne 7, 3) := by decide +kernel
theorem dX5_isRow_20 : decode cX5_isRow 20 = .ok (.iconst 1, 1) := by decide +kernel
theorem dX5_isRow_21 : decode cX5_isRow 21 = .ok (.goto 4, 3) := by decide +kernel
theorem dX5_isRow_24 : decode cX5_isRow 24 = .ok (.iconst 0, 1) := by decide +kernel
theorem dX5_isRow_25 : decode cX5_isRow 25 = .ok (.ireturn, 1) := by decide +kernel
theorem dX5_fits_0 : decode cX5_fits 0 = .ok (.iconst 0, 1) := by decide +kernel
theorem dX5_fits_1 : decode cX5_fits 1 = .ok (.istore_n 3, 1) := by decide +kernel
theorem dX5_fits_2 : decode cX5_fits 2 = .ok (.iload_n 3, 1) := by decide +kernel
theorem dX5_fits_3 : decode cX5_fits 3 = .ok (.aload_n 0, 1) := by decide +kernel
theorem dX5_fits_4 : decode cX5_fits 4 = .ok (.getfield 58, 3) := by decide +kernel
theorem dX5_fits_7 : decode cX5_fits 7 = .ok (.if_icmp .ge 32, 3) := by decide +kernel
theorem dX5_fits_10 : decode cX5_fits 10 = .ok (.aload_n 0, 1) := by decide +kernel
theorem dX5_fits_11 : decode cX5_fits 11 = .ok (.aload_n 0, 1) := by decide +kernel
theorem dX5_fits_12 : decode cX5_fits 12 = .ok (.getfield 58, 3) := by decide +kernel
theorem dX5_fits_15 : decode cX5_fits 15 = .ok (.iload_n 3, 1) := by decide +kernel
theorem dX5_fits_16 : decode cX5_fits 16 = .ok (.iload_n 1, 1) := by decide +kernel
theorem dX5_fits_17 : decode cX5_fits 17 = .ok (.iload_n 3, 1) := by decide +kernel
theorem dX5_fits_18 : decode cX5_fits 18 = .ok (.ishr, 1) := by decide +kernel
theorem dX5_fits_19 : decode cX5_fits 19 = .ok (.iconst 1, 1) := by decide +kernel
theorem dX5_fits_20 : decode cX5_fits 20 = .ok (.iand, 1) := by decide +kernel
theorem dX5_fits_21 : decode cX5_fits 21 = .ok (.iconst 1, 1) := by decide +kernel
theorem dX5_fits_22 : decode cX5_fits 22 = .ok (.if_icmp .ne 7, 3) := by decide +kernel
theorem dX5_fits_25 : decode cX5_fits 25 = .ok (.iconst (-1), 1) := by decide +kernel
theorem dX5_fits_26 : decode cX5_fits 26 = .ok (.goto 4, 3) := by decide +kernel
theorem dX5_fits_29 : decode cX5_fits 29 = .ok (.iconst 1, 1) := by decide +kernel
theorem dX5_fits_30 : decode cX5_fits 30 = .ok (.invokevirtual 65, 3) := by decide +kernel
theorem dX5_fits_33 : decode cX5_fits 33 = .ok (.iinc 3 1, 3) := by decide +kernel
theorem dX5_fits_36 : decode cX5_fits 36 = .ok (.goto (-34), 3) := by decide +kernel
theorem dX5_fits_39 : decode cX5_fits 39 = .ok (.aload_n 0, 1) := by decide +kernel
theorem dX5_fits_40 : decode cX5_fits 40 = .ok (.aload_n 0, 1) := by decide +kernel
theorem dX5_fits_41 : decode cX5_fits 41 = .ok (.getfield 58, 3) := by decide +kernel
theorem dX5_fits_44 : decode cX5_fits 44 = .ok (.iconst 1, 1) := by decide +kernel
theorem dX5_fits_45 : decode cX5_fits 45 = .ok (.iadd, 1) := by decide +kernel
theorem dX5_fits_46 : decode cX5_fits 46 = .ok (.aload_n 0, 1) := by decide +kernel
theorem dX5_fits_47 : decode cX5_fits 47 = .ok (.getfield 13, 3) := by decide +kernel
theorem dX5_fits_50 : decode cX5_fits 50 = .ok (.invokevirtual 84, 3) := by decide +kernel
theorem dX5_fits_53 : decode cX5_fits 53 = .ok (.aload_n 0, 1) := by decide +kernel
theorem dX5_fits_54 : decode cX5_fits 54 = .ok (.aload_n 0, 1) := by decide +kernel
theorem dX5_fits_55 : decode cX5_fits 55 = .ok (.getfield 58, 3) := by decide +kernel
theorem dX5_fits_58 : decode cX5_fits 58 = .ok (.iconst 1, 1) := by decide +kernel
theorem dX5_fits_59 : decode cX5_fits 59 = .ok (.iadd, 1) := by decide +kernel
theorem dX5_fits_60 : decode cX5_fits 60 = .ok (.invokevirtual 88, 3) := by decide +kernel
theorem dX5_fits_63 : decode cX5_fits 63 = .ok (.ifCond .eq 21, 3) := by decide +kernel
theorem dX5_fits_66 : decode cX5_fits 66 = .ok (.aload_n 0, 1) := by decide +kernel
theorem dX5_fits_67 : decode cX5_fits 67 = .ok (.aload_n 0, 1) := by decide +kernel
theorem dX5_fits_68 : decode cX5_fits 68 = .ok (.getfield 58, 3) := by decide +kernel
theorem dX5_fits_71 : decode cX5_fits 71 = .ok (.iconst 1, 1) := by decide +kernel
theorem dX5_fits_72 : decode cX5_fits 72 = .ok (.iadd, 1) := by decide +kernel
theorem dX5_fits_73 : decode cX5_fits 73 = .ok (.invokevirtual 91, 3) := by decide +kernel
theorem dX5_fits_76 : decode cX5_fits 76 = .ok (.iload_n 2, 1) := by decide +kernel
theorem dX5_fits_77 : decode cX5_fits 77 = .ok (.if_icmp .gt 7, 3) := by decide +kernel
theorem dX5_fits_80 : decode cX5_fits 80 = .ok (.iconst 1, 1) := by decide +kernel
theorem dX5_fits_81 : decode cX5_fits 81 = .ok (.goto 4, 3) := by decide +kernel
theorem dX5_fits_84 : decode cX5_fits 84 = .ok (.iconst 0, 1) := by decide +kernel
theorem dX5_fits_85 : decode cX5_fits 85 = .ok (.ireturn, 1) := by decide +kernel
theorem dX5_goes_0 : decode cX5_goes 0 = .ok (.iload_n 2, 1) := by decide +kernel
theorem dX5_goes_1 : decode cX5_goes 1 = .ok (.iconst 1, 1) := by decide +kernel
theorem dX5_goes_2 : decode cX5_goes 2 = .ok (.bipush 20, 2) := by decide +kernel
theorem dX5_goes_4 : decode cX5_goes 4 = .ok (.invokestatic 61, 3) := by decide +kernel
theorem dX5_goes_7 : decode cX5_goes 7 = .ok (.ifCond .eq 11, 3) := by decide +kernel
theorem dX5_goes_10 : decode cX5_goes 10 = .ok (.aload_n 0, 1) := by decide +kernel
theorem dX5_goes_11 : decode cX5_goes 11 = .ok (.iload_n 1, 1) := by decide +kernel
theorem dX5_goes_12 : decode cX5_goes 12 = .ok (.invokevirtual 95, 3) := by decide +kernel
theorem dX5_goes_15 : decode cX5_goes 15 = .ok (.ifCond .ne 6, 3) := by decide +kernel
theorem dX5_goes_18 : decode cX5_goes 18 = .ok (.bipush (-2), 2) := by decide +kernel
theorem dX5_goes_20 : decode cX5_goes 20 = .ok (.ireturn, 1) := by decide +kernel
theorem dX5_goes_21 : decode cX5_goes 21 = .ok (.aload_n 0, 1) := by decide +kernel
theorem dX5_goes_22 : decode cX5_goes 22 = .ok (.getfield 58, 3) := by decide +kernel
theorem dX5_goes_25 : decode cX5_goes 25 = .ok (.ifCond .ne 6, 3) := by decide +kernel
theorem dX5_goes_28 : decode cX5_goes 28 = .ok (.bipush (-3), 2) := by decide +kernel
theorem dX5_goes_30 : decode cX5_goes 30 = .ok (.ireturn, 1) := by decide +kernel
theorem dX5_goes_31 : decode cX5_goes 31 = .ok (.aload_n 0, 1) := by decide +kernel
theorem dX5_goes_32 : decode cX5_goes 32 = .ok (.getfield 58, 3) := by decide +kernel
theorem dX5_goes_35 : decode cX5_goes 35 = .ok (.bipush 10, 2) := by decide +kernel
theorem dX5_goes_37 : decode cX5_goes 37 = .ok (.if_icmp .ne 6, 3) := by decide +kernel
theorem dX5_goes_40 : decode cX5_goes 40 = .ok (.bipush (-4), 2) := by decide +kernel
theorem dX5_goes_42 : decode cX5_goes 42 = .ok (.ireturn, 1) := by decide +kernel
theorem dX5_goes_43 : decode cX5_goes 43 = .ok (.aload_n 0, 1) := by decide +kernel
theorem dX5_goes_44 : decode cX5_goes 44 = .ok (.iload_n 1, 1) := by decide +kernel
theorem dX5_goes_45 : decode cX5_goes 45 = .ok (.iload_n 2, 1) := by decide +kernel
theorem dX5_goes_46 : decode cX5_goes 46 = .ok (.invokevirtual 98, 3) := by decide +kernel
theorem dX5_goes_49 : decode cX5_goes 49 = .ok (.ifCond .eq 7, 3) := by decide +kernel
theorem dX5_goes_52 : decode cX5_goes 52 = .ok (.iconst 1, 1) := by decide +kernel
theorem dX5_goes_53 : decode cX5_goes 53 = .ok (.goto 4, 3) := by decide +kernel
theorem dX5_goes_56 : decode cX5_goes 56 = .ok (.iconst 0, 1) := by decide +kernel
theorem dX5_goes_57 : decode cX5_goes 57 = .ok (.ireturn, 1) := by decide +kernel
theorem dX5_ways_0 : decode cX5_ways 0 = .ok (.iload_n 1, 1) := by decide +kernel
theorem dX5_ways_1 : decode cX5_ways 1 = .ok (.iconst 1, 1) := by decide +kernel
theorem dX5_ways_2 : decode cX5_ways 2 = .ok (.bipush 20, 2) := by decide +kernel
theorem dX5_ways_4 : decode cX5_ways 4 = .ok (.invokestatic 61, 3) := by decide +kernel
theorem dX5_ways_7 : decode cX5_ways 7 = .ok (.ifCond .ne 6, 3) := by decide +kernel
theorem dX5_ways_10 : decode cX5_ways 10 = .ok (.bipush (-2), 2) := by decide +kernel
theorem dX5_ways_12 : decode cX5_ways 12 = .ok (.ireturn, 1) := by decide +kernel
theorem dX5_ways_13 : decode cX5_ways 13 = .ok (.aload_n 0, 1) := by decide +kernel
theorem dX5_ways_14 : decode cX5_ways 14 = .ok (.getfield 58, 3) := by decide +kernel
theorem dX5_ways_17 : decode cX5_ways 17 = .ok (.ifCond .ne 6, 3) := by decide +kernel
theorem dX5_ways_20 : decode cX5_ways 20 = .ok (.bipush (-3), 2) := by decide +kernel
theorem dX5_ways_22 : decode cX5_ways 22 = .ok (.ireturn, 1) := by decide +kernel
theorem dX5_ways_23 : decode cX5_ways 23 = .ok (.aload_n 0, 1) := by decide +kernel
theorem dX5_ways_24 : decode cX5_ways 24 = .ok (.getfield 58, 3) := by decide +kernel
theorem dX5_ways_27 : decode cX5_ways 27 = .ok (.bipush 10, 2) := by decide +kernel
theorem dX5_ways_29 : decode cX5_ways 29 = .ok (.if_icmp .ne 6, 3) := by decide +kernel
theorem dX5_ways_32 : decode cX5_ways 32 = .ok (.bipush (-4), 2) := by decide +kernel
theorem dX5_ways_34 : decode cX5_ways 34 = .ok (.ireturn, 1) := by decide +kernel
theorem dX5_ways_35 : decode cX5_ways 35 = .ok (.iconst 0, 1) := by decide +kernel
theorem dX5_ways_36 : decode cX5_ways 36 = .ok (.istore_n 2, 1) := by decide +kernel
theorem dX5_ways_37 : decode cX5_ways 37 = .ok (.iconst 0, 1) := by decide +kernel
theorem dX5_ways_38 : decode cX5_ways 38 = .ok (.istore_n 3, 1) := by decide +kernel
theorem dX5_ways_39 : decode cX5_ways 39 = .ok (.iload_n 3, 1) := by decide +kernel
theorem dX5_ways_40 : decode cX5_ways 40 = .ok (.iconst 1, 1) := by decide +kernel
theorem dX5_ways_41 : decode cX5_ways 41 = .ok (.aload_n 0, 1) := by decide +kernel
theorem dX5_ways_42 : decode cX5_ways 42 = .ok (.getfield 58, 3) := by decide +kernel
theorem dX5_ways_45 : decode cX5_ways 45 = .ok (.ishl, 1) := by decide +kernel
theorem dX5_ways_46 : decode cX5_ways 46 = .ok (.if_icmp .ge 26, 3) := by decide +kernel
theorem dX5_ways_49 : decode cX5_ways 49 = .ok (.iload_n 2, 1) := by decide +kernel
theorem dX5_ways_50 : decode cX5_ways 50 = .ok (.aload_n 0, 1) := by decide +kernel
theorem dX5_ways_51 : decode cX5_ways 51 = .ok (.iload_n 3, 1) := by decide +kernel
theorem dX5_ways_52 : decode cX5_ways 52 = .ok (.iload_n 1, 1) := by decide +kernel
theorem dX5_ways_53 : decode cX5_ways 53 = .ok (.invokevirtual 98, 3) := by decide +kernel
theorem dX5_ways_56 : decode cX5_ways 56 = .ok (.ifCond .eq 7, 3) := by decide +kernel
theorem dX5_ways_59 : decode cX5_ways 59 = .ok (.iconst 1, 1) := by decide +kernel
theorem dX5_ways_60 : decode cX5_ways 60 = .ok (.goto 4, 3) := by decide +kernel
theorem dX5_ways_63 : decode cX5_ways 63 = .ok (.iconst 0, 1) := by decide +kernel
theorem dX5_ways_64 : decode cX5_ways 64 = .ok (.iadd, 1) := by decide +kernel
theorem dX5_ways_65 : decode cX5_ways 65 = .ok (.istore_n 2, 1) := by decide +kernel
theorem dX5_ways_66 : decode cX5_ways 66 = .ok (.iinc 3 2, 3) := by decide +kernel
theorem dX5_ways_69 : decode cX5_ways 69 = .ok (.goto (-30), 3) := by decide +kernel
theorem dX5_ways_72 : decode cX5_ways 72 = .ok (.iload_n 2, 1) := by decide +kernel
theorem dX5_ways_73 : decode cX5_ways 73 = .ok (.ireturn, 1) := by decide +kernel
theorem dX5_put_0 : decode cX5_put 0 = .ok (.aload_n 0, 1) := by decide +kernel
theorem dX5_put_1 : decode cX5_put 1 = .ok (.iload_n 1, 1) := by decide +kernel
theorem dX5_put_2 : decode cX5_put 2 = .ok (.invokevirtual 95, 3) := by decide +kernel
theorem dX5_put_5 : decode cX5_put 5 = .ok (.ifCond .ne 6, 3) := by decide +kernel
theorem dX5_put_8 : decode cX5_put 8 = .ok (.bipush (-2), 2) := by decide +kernel
theorem dX5_put_10 : decode cX5_put 10 = .ok (.ireturn, 1) := by decide +kernel
theorem dX5_put_11 : decode cX5_put 11 = .ok (.aload_n 0, 1) := by decide +kernel
theorem dX5_put_12 : decode cX5_put 12 = .ok (.getfield 58, 3) := by decide +kernel
theorem dX5_put_15 : decode cX5_put 15 = .ok (.bipush 10, 2) := by decide +kernel
theorem dX5_put_17 : decode cX5_put 17 = .ok (.if_icmp .ne 6, 3) := by decide +kernel
theorem dX5_put_20 : decode cX5_put 20 = .ok (.bipush (-4), 2) := by decide +kernel
theorem dX5_put_22 : decode cX5_put 22 = .ok (.ireturn, 1) := by decide +kernel
theorem dX5_put_23 : decode cX5_put 23 = .ok (.iconst 0, 1) := by decide +kernel
theorem dX5_put_24 : decode cX5_put 24 = .ok (.istore_n 2, 1) := by decide +kernel
theorem dX5_put_25 : decode cX5_put 25 = .ok (.iload_n 2, 1) := by decide +kernel
theorem dX5_put_26 : decode cX5_put 26 = .ok (.aload_n 0, 1) := by decide +kernel
theorem dX5_put_27 : decode cX5_put 27 = .ok (.getfield 58, 3) := by decide +kernel
theorem dX5_put_30 : decode cX5_put 30 = .ok (.if_icmp .ge 32, 3) := by decide +kernel
theorem dX5_put_33 : decode cX5_put 33 = .ok (.aload_n 0, 1) := by decide +kernel
theorem dX5_put_34 : decode cX5_put 34 = .ok (.aload_n 0, 1) := by decide +kernel
theorem dX5_put_35 : decode cX5_put 35 = .ok (.getfield 58, 3) := by decide +kernel
theorem dX5_put_38 : decode cX5_put 38 = .ok (.iload_n 2, 1) := by decide +kernel
theorem dX5_put_39 : decode cX5_put 39 = .ok (.iload_n 1, 1) := by decide +kernel
theorem dX5_put_40 : decode cX5_put 40 = .ok (.iload_n 2, 1) := by decide +kernel
theorem dX5_put_41 : decode cX5_put 41 = .ok (.ishr, 1) := by decide +kernel
theorem dX5_put_42 : decode cX5_put 42 = .ok (.iconst 1, 1) := by decide +kernel
theorem dX5_put_43 : decode cX5_put 43 = .ok (.iand, 1) := by decide +kernel
theorem dX5_put_44 : decode cX5_put 44 = .ok (.iconst 1, 1) := by decide +kernel
theorem dX5_put_45 : decode cX5_put 45 = .ok (.if_icmp .ne 7, 3) := by decide +kernel
theorem dX5_put_48 : decode cX5_put 48 = .ok (.iconst (-1), 1) := by decide +kernel
theorem dX5_put_49 : decode cX5_put 49 = .ok (.goto 4, 3) := by decide +kernel
theorem dX5_put_52 : decode cX5_put 52 = .ok (.iconst 1, 1) := by decide +kernel
theorem dX5_put_53 : decode cX5_put 53 = .ok (.invokevirtual 65, 3) := by decide +kernel
theorem dX5_put_56 : decode cX5_put 56 = .ok (.iinc 2 1, 3) := by decide +kernel
theorem dX5_put_59 : decode cX5_put 59 = .ok (.goto (-34), 3) := by decide +kernel
theorem dX5_put_62 : decode cX5_put 62 = .ok (.aload_n 0, 1) := by decide +kernel
theorem dX5_put_63 : decode cX5_put 63 = .ok (.dup, 1) := by decide +kernel
theorem dX5_put_64 : decode cX5_put 64 = .ok (.getfield 58, 3) := by decide +kernel
theorem dX5_put_67 : decode cX5_put 67 = .ok (.iconst 1, 1) := by decide +kernel
theorem dX5_put_68 : decode cX5_put 68 = .ok (.iadd, 1) := by decide +kernel
theorem dX5_put_69 : decode cX5_put 69 = .ok (.putfield 58, 3) := by decide +kernel
theorem dX5_put_72 : decode cX5_put 72 = .ok (.aload_n 0, 1) := by decide +kernel
theorem dX5_put_73 : decode cX5_put 73 = .ok (.getfield 58, 3) := by decide +kernel
theorem dX5_put_76 : decode cX5_put 76 = .ok (.iconst 1, 1) := by decide +kernel
theorem dX5_put_77 : decode cX5_put 77 = .ok (.isub, 1) := by decide +kernel
theorem dX5_put_78 : decode cX5_put 78 = .ok (.ireturn, 1) := by decide +kernel
theorem dX5_grow_0 : decode cX5_grow 0 = .ok (.iload_n 1, 1) := by decide +kernel
theorem dX5_grow_1 : decode cX5_grow 1 = .ok (.iconst 1, 1) := by decide +kernel
theorem dX5_grow_2 : decode cX5_grow 2 = .ok (.bipush 20, 2) := by decide +kernel
theorem dX5_grow_4 : decode cX5_grow 4 = .ok (.invokestatic 61, 3) := by decide +kernel
theorem dX5_grow_7 : decode cX5_grow 7 = .ok (.ifCond .ne 6, 3) := by decide +kernel
theorem dX5_grow_10 : decode cX5_grow 10 = .ok (.bipush (-2), 2) := by decide +kernel
theorem dX5_grow_12 : decode cX5_grow 12 = .ok (.ireturn, 1) := by decide +kernel
theorem dX5_grow_13 : decode cX5_grow 13 = .ok (.aload_n 0, 1) := by decide +kernel
theorem dX5_grow_14 : decode cX5_grow 14 = .ok (.aload_n 0, 1) := by decide +kernel
theorem dX5_grow_15 : decode cX5_grow 15 = .ok (.getfield 58, 3) := by decide +kernel
theorem dX5_grow_18 : decode cX5_grow 18 = .ok (.aload_n 0, 1) := by decide +kernel
theorem dX5_grow_19 : decode cX5_grow 19 = .ok (.getfield 13, 3) := by decide +kernel
theorem dX5_grow_22 : decode cX5_grow 22 = .ok (.invokevirtual 84, 3) := by decide +kernel
theorem dX5_grow_25 : decode cX5_grow 25 = .ok (.aload_n 0, 1) := by decide +kernel
theorem dX5_grow_26 : decode cX5_grow 26 = .ok (.getfield 58, 3) := by decide +kernel
theorem dX5_grow_29 : decode cX5_grow 29 = .ok (.ifCond .eq 26, 3) := by decide +kernel
theorem dX5_grow_32 : decode cX5_grow 32 = .ok (.aload_n 0, 1) := by decide +kernel
theorem dX5_grow_33 : decode cX5_grow 33 = .ok (.aload_n 0, 1) := by decide +kernel
theorem dX5_grow_34 : decode cX5_grow 34 = .ok (.getfield 58, 3) := by decide +kernel
theorem dX5_grow_37 : decode cX5_grow 37 = .ok (.invokevirtual 88, 3) := by decide +kernel
theorem dX5_grow_40 : decode cX5_grow 40 = .ok (.ifCond .eq 15, 3) := by decide +kernel
theorem dX5_grow_43 : decode cX5_grow 43 = .ok (.aload_n 0, 1) := by decide +kernel
theorem dX5_grow_44 : decode cX5_grow 44 = .ok (.aload_n 0, 1) := by decide +kernel
theorem dX5_grow_45 : decode cX5_grow 45 = .ok (.getfield 58, 3) := by decide +kernel
theorem dX5_grow_48 : decode cX5_grow 48 = .ok (.invokevirtual 91, 3) := by decide +kernel
theorem dX5_grow_51 : decode cX5_grow 51 = .ok (.iload_n 1, 1) := by decide +kernel
theorem dX5_grow_52 : decode cX5_grow 52 = .ok (.if_icmp .le 6, 3) := by decide +kernel
theorem dX5_grow_55 : decode cX5_grow 55 = .ok (.bipush (-3), 2) := by decide +kernel
theorem dX5_grow_57 : decode cX5_grow 57 = .ok (.ireturn, 1) := by decide +kernel
theorem dX5_grow_58 : decode cX5_grow 58 = .ok (.iconst 1, 1) := by decide +kernel
theorem dX5_grow_59 : decode cX5_grow 59 = .ok (.istore_n 2, 1) := by decide +kernel
theorem dX5_grow_60 : decode cX5_grow 60 = .ok (.iload_n 2, 1) := by decide +kernel
theorem dX5_grow_61 : decode cX5_grow 61 = .ok (.ifCond .eq 76, 3) := by decide +kernel
theorem dX5_grow_64 : decode cX5_grow 64 = .ok (.aload_n 0, 1) := by decide +kernel
theorem dX5_grow_65 : decode cX5_grow 65 = .ok (.getfield 58, 3) := by decide +kernel
theorem dX5_grow_68 : decode cX5_grow 68 = .ok (.bipush 10, 2) := by decide +kernel
theorem dX5_grow_70 : decode cX5_grow 70 = .ok (.if_icmp .ge 67, 3) := by decide +kernel
theorem dX5_grow_73 : decode cX5_grow 73 = .ok (.iconst 0, 1) := by decide +kernel
theorem dX5_grow_74 : decode cX5_grow 74 = .ok (.istore_n 3, 1) := by decide +kernel
theorem dX5_grow_75 : decode cX5_grow 75 = .ok (.iload_n 3, 1) := by decide +kernel
theorem dX5_grow_76 : decode cX5_grow 76 = .ok (.iconst 1, 1) := by decide +kernel
theorem dX5_grow_77 : decode cX5_grow 77 = .ok (.aload_n 0, 1) := by decide +kernel
theorem dX5_grow_78 : decode cX5_grow 78 = .ok (.getfield 58, 3) := by decide +kernel
theorem dX5_grow_81 : decode cX5_grow 81 = .ok (.ishl, 1) := by decide +kernel
theorem dX5_grow_82 : decode cX5_grow 82 = .ok (.if_icmp .ge 18, 3) := by decide +kernel
theorem dX5_grow_85 : decode cX5_grow 85 = .ok (.aload_n 0, 1) := by decide +kernel
theorem dX5_grow_86 : decode cX5_grow 86 = .ok (.iload_n 3, 1) := by decide +kernel
theorem dX5_grow_87 : decode cX5_grow 87 = .ok (.iload_n 1, 1) := by decide +kernel
theorem dX5_grow_88 : decode cX5_grow 88 = .ok (.invokevirtual 98, 3) := by decide +kernel
theorem dX5_grow_91 : decode cX5_grow 91 = .ok (.ifCond .ne 9, 3) := by decide +kernel
theorem dX5_grow_94 : decode cX5_grow 94 = .ok (.iinc 3 2, 3) := by decide +kernel
theorem dX5_grow_97 : decode cX5_grow 97 = .ok (.goto (-22), 3) := by decide +kernel
theorem dX5_grow_100 : decode cX5_grow 100 = .ok (.iload_n 3, 1) := by decide +kernel
theorem dX5_grow_101 : decode cX5_grow 101 = .ok (.iconst 1, 1) := by decide +kernel
theorem dX5_grow_102 : decode cX5_grow 102 = .ok (.aload_n 0, 1) := by decide +kernel
theorem dX5_grow_103 : decode cX5_grow 103 = .ok (.getfield 58, 3) := by decide +kernel
theorem dX5_grow_106 : decode cX5_grow 106 = .ok (.ishl, 1) := by decide +kernel
theorem dX5_grow_107 : decode cX5_grow 107 = .ok (.if_icmp .ge 7, 3) := by decide +kernel
theorem dX5_grow_110 : decode cX5_grow 110 = .ok (.iconst 1, 1) := by decide +kernel
theorem dX5_grow_111 : decode cX5_grow 111 = .ok (.goto 4, 3) := by decide +kernel
theorem dX5_grow_114 : decode cX5_grow 114 = .ok (.iconst 0, 1) := by decide +kernel
theorem dX5_grow_115 : decode cX5_grow 115 = .ok (.istore_n 2, 1) := by decide +kernel
theorem dX5_grow_116 : decode cX5_grow 116 = .ok (.aload_n 0, 1) := by decide +kernel
theorem dX5_grow_117 : decode cX5_grow 117 = .ok (.dup, 1) := by decide +kernel
theorem dX5_grow_118 : decode cX5_grow 118 = .ok (.getfield 58, 3) := by decide +kernel
theorem dX5_grow_121 : decode cX5_grow 121 = .ok (.iload_n 2, 1) := by decide +kernel
theorem dX5_grow_122 : decode cX5_grow 122 = .ok (.ifCond .eq 7, 3) := by decide +kernel
theorem dX5_grow_125 : decode cX5_grow 125 = .ok (.iconst 1, 1) := by decide +kernel
theorem dX5_grow_126 : decode cX5_grow 126 = .ok (.goto 4, 3) := by decide +kernel
theorem dX5_grow_129 : decode cX5_grow 129 = .ok (.iconst 0, 1) := by decide +kernel
theorem dX5_grow_130 : decode cX5_grow 130 = .ok (.iadd, 1) := by decide +kernel
theorem dX5_grow_131 : decode cX5_grow 131 = .ok (.putfield 58, 3) := by decide +kernel
theorem dX5_grow_134 : decode cX5_grow 134 = .ok (.goto (-74), 3) := by decide +kernel
theorem dX5_grow_137 : decode cX5_grow 137 = .ok (.aload_n 0, 1) := by decide +kernel
theorem dX5_grow_138 : decode cX5_grow 138 = .ok (.getfield 58, 3) := by decide +kernel
theorem dX5_grow_141 : decode cX5_grow 141 = .ok (.ireturn, 1) := by decide +kernel
theorem dX5_signBy_0 : decode cX5_signBy 0 = .ok (.aload_n 0, 1) := by decide +kernel
theorem dX5_signBy_1 : decode cX5_signBy 1 = .ok (.getfield 36, 3) := by decide +kernel
theorem dX5_signBy_4 : decode cX5_signBy 4 = .ok (.iload_n 1, 1) := by decide +kernel
theorem dX5_signBy_5 : decode cX5_signBy 5 = .ok (.iaload, 1) := by decide +kernel
theorem dX5_signBy_6 : decode cX5_signBy 6 = .ok (.istore_n 3, 1) := by decide +kernel
theorem dX5_signBy_7 : decode cX5_signBy 7 = .ok (.aload_n 0, 1) := by decide +kernel
theorem dX5_signBy_8 : decode cX5_signBy 8 = .ok (.getfield 36, 3) := by decide +kernel
theorem dX5_signBy_11 : decode cX5_signBy 11 = .ok (.iload_n 2, 1) := by decide +kernel
theorem dX5_signBy_12 : decode cX5_signBy 12 = .ok (.iaload, 1) := by decide +kernel
theorem dX5_signBy_13 : decode cX5_signBy 13 = .ok (.istore 4, 2) := by decide +kernel
theorem dX5_signBy_15 : decode cX5_signBy 15 = .ok (.aload_n 0, 1) := by decide +kernel
theorem dX5_signBy_16 : decode cX5_signBy 16 = .ok (.getfield 36, 3) := by decide +kernel
theorem dX5_signBy_19 : decode cX5_signBy 19 = .ok (.iconst 0, 1) := by decide +kernel
theorem dX5_signBy_20 : decode cX5_signBy 20 = .ok (.iaload, 1) := by decide +kernel
theorem dX5_signBy_21 : decode cX5_signBy 21 = .ok (.istore 5, 2) := by decide +kernel
theorem dX5_signBy_23 : decode cX5_signBy 23 = .ok (.aload_n 0, 1) := by decide +kernel
theorem dX5_signBy_24 : decode cX5_signBy 24 = .ok (.getfield 7, 3) := by decide +kernel
theorem dX5_signBy_27 : decode cX5_signBy 27 = .ok (.bipush 10, 2) := by decide +kernel
theorem dX5_signBy_29 : decode cX5_signBy 29 = .ok (.iload_n 3, 1) := by decide +kernel
theorem dX5_signBy_30 : decode cX5_signBy 30 = .ok (.imul, 1) := by decide +kernel
theorem dX5_signBy_31 : decode cX5_signBy 31 = .ok (.iload 4, 2) := by decide +kernel
theorem dX5_signBy_33 : decode cX5_signBy 33 = .ok (.iadd, 1) := by decide +kernel
theorem dX5_signBy_34 : decode cX5_signBy 34 = .ok (.iaload, 1) := by decide +kernel
theorem dX5_signBy_35 : decode cX5_signBy 35 = .ok (.aload_n 0, 1) := by decide +kernel
theorem dX5_signBy_36 : decode cX5_signBy 36 = .ok (.getfield 7, 3) := by decide +kernel
theorem dX5_signBy_39 : decode cX5_signBy 39 = .ok (.bipush 10, 2) := by decide +kernel
theorem dX5_signBy_41 : decode cX5_signBy 41 = .ok (.iload 5, 2) := by decide +kernel
theorem dX5_signBy_43 : decode cX5_signBy 43 = .ok (.imul, 1) := by decide +kernel
theorem dX5_signBy_44 : decode cX5_signBy 44 = .ok (.iload_n 3, 1) := by decide +kernel
theorem dX5_signBy_45 : decode cX5_signBy 45 = .ok (.iadd, 1) := by decide +kernel
theorem dX5_signBy_46 : decode cX5_signBy 46 = .ok (.iaload, 1) := by decide +kernel
theorem dX5_signBy_47 : decode cX5_signBy 47 = .ok (.imul, 1) := by decide +kernel
theorem dX5_signBy_48 : decode cX5_signBy 48 = .ok (.aload_n 0, 1) := by decide +kernel
theorem dX5_signBy_49 : decode cX5_signBy 49 = .ok (.getfield 7, 3) := by decide +kernel
theorem dX5_signBy_52 : decode cX5_signBy 52 = .ok (.bipush 10, 2) := by decide +kernel
theorem dX5_signBy_54 : decode cX5_signBy 54 = .ok (.iload 5, 2) := by decide +kernel
theorem dX5_signBy_56 : decode cX5_signBy 56 = .ok (.imul, 1) := by decide +kernel
theorem dX5_signBy_57 : decode cX5_signBy 57 = .ok (.iload 4, 2) := by decide +kernel
theorem dX5_signBy_59 : decode cX5_signBy 59 = .ok (.iadd, 1) := by decide +kernel
theorem dX5_signBy_60 : decode cX5_signBy 60 = .ok (.iaload, 1) := by decide +kernel
theorem dX5_signBy_61 : decode cX5_signBy 61 = .ok (.imul, 1) := by decide +kernel
theorem dX5_signBy_62 : decode cX5_signBy 62 = .ok (.ireturn, 1) := by decide +kernel
theorem dX5_codeOf_0 : decode cX5_codeOf 0 = .ok (.iconst 0, 1) := by decide +kernel
theorem dX5_codeOf_1 : decode cX5_codeOf 1 = .ok (.istore_n 2, 1) := by decide +kernel
theorem dX5_codeOf_2 : decode cX5_codeOf 2 = .ok (.iconst 0, 1) := by decide +kernel
theorem dX5_codeOf_3 : decode cX5_codeOf 3 = .ok (.istore_n 3, 1) := by decide +kernel
theorem dX5_codeOf_4 : decode cX5_codeOf 4 = .ok (.iconst 2, 1) := by decide +kernel
theorem dX5_codeOf_5 : decode cX5_codeOf 5 = .ok (.istore 4, 2) := by decide +kernel
theorem dX5_codeOf_7 : decode cX5_codeOf 7 = .ok (.iload 4, 2) := by decide +kernel
theorem dX5_codeOf_9 : decode cX5_codeOf 9 = .ok (.iload_n 1, 1) := by decide +kernel
theorem dX5_codeOf_10 : decode cX5_codeOf 10 = .ok (.if_icmp .ge 49, 3) := by decide +kernel
theorem dX5_codeOf_13 : decode cX5_codeOf 13 = .ok (.iconst 1, 1) := by decide +kernel
theorem dX5_codeOf_14 : decode cX5_codeOf 14 = .ok (.istore 5, 2) := by decide +kernel
theorem dX5_codeOf_16 : decode cX5_codeOf 16 = .ok (.iload 5, 2) := by decide +kernel
theorem dX5_codeOf_18 : decode cX5_codeOf 18 = .ok (.iload 4, 2) := by decide +kernel
theorem dX5_codeOf_20 : decode cX5_codeOf 20 = .ok (.if_icmp .ge 33, 3) := by decide +kernel
theorem dX5_codeOf_23 : decode cX5_codeOf 23 = .ok (.iload_n 2, 1) := by decide +kernel
theorem dX5_codeOf_24 : decode cX5_codeOf 24 = .ok (.aload_n 0, 1) := by decide +kernel
theorem dX5_codeOf_25 : decode cX5_codeOf 25 = .ok (.iload 5, 2) := by decide +kernel
theorem dX5_codeOf_27 : decode cX5_codeOf 27 = .ok (.iload 4, 2) := by decide +kernel
theorem dX5_codeOf_29 : decode cX5_codeOf 29 = .ok (.invokevirtual 102, 3) := by decide +kernel
theorem dX5_codeOf_32 : decode cX5_codeOf 32 = .ok (.ifCond .ge 9, 3) := by decide +kernel
theorem dX5_codeOf_35 : decode cX5_codeOf 35 = .ok (.iconst 1, 1) := by decide +kernel
theorem dX5_codeOf_36 : decode cX5_codeOf 36 = .ok (.iload_n 3, 1) := by decide +kernel
theorem dX5_codeOf_37 : decode cX5_codeOf 37 = .ok (.ishl, 1) := by decide +kernel
theorem dX5_codeOf_38 : decode cX5_codeOf 38 = .ok (.goto 4, 3) := by decide +kernel
theorem dX5_codeOf_41 : decode cX5_codeOf 41 = .ok (.iconst 0, 1) := by decide +kernel
theorem dX5_codeOf_42 : decode cX5_codeOf 42 = .ok (.ior, 1) := by decide +kernel
theorem dX5_codeOf_43 : decode cX5_codeOf 43 = .ok (.istore_n 2, 1) := by decide +kernel
theorem dX5_codeOf_44 : decode cX5_codeOf 44 = .ok (.iinc 3 1, 3) := by decide +kernel
theorem dX5_codeOf_47 : decode cX5_codeOf 47 = .ok (.iinc 5 1, 3) := by decide +kernel
theorem dX5_codeOf_50 : decode cX5_codeOf 50 = .ok (.goto (-34), 3) := by decide +kernel
theorem dX5_codeOf_53 : decode cX5_codeOf 53 = .ok (.iinc 4 1, 3) := by decide +kernel
theorem dX5_codeOf_56 : decode cX5_codeOf 56 = .ok (.goto (-49), 3) := by decide +kernel
theorem dX5_codeOf_59 : decode cX5_codeOf 59 = .ok (.iload_n 2, 1) := by decide +kernel
theorem dX5_codeOf_60 : decode cX5_codeOf 60 = .ok (.ireturn, 1) := by decide +kernel
theorem dX5_begin_0 : decode cX5_begin 0 = .ok (.iconst 0, 1) := by decide +kernel
theorem dX5_begin_1 : decode cX5_begin 1 = .ok (.istore_n 2, 1) := by decide +kernel
theorem dX5_begin_2 : decode cX5_begin 2 = .ok (.iload_n 2, 1) := by decide +kernel
theorem dX5_begin_3 : decode cX5_begin 3 = .ok (.iload_n 1, 1) := by decide +kernel
theorem dX5_begin_4 : decode cX5_begin 4 = .ok (.if_icmp .ge 16, 3) := by decide +kernel
theorem dX5_begin_7 : decode cX5_begin 7 = .ok (.aload_n 0, 1) := by decide +kernel
theorem dX5_begin_8 : decode cX5_begin 8 = .ok (.getfield 36, 3) := by decide +kernel
theorem dX5_begin_11 : decode cX5_begin 11 = .ok (.iload_n 2, 1) := by decide +kernel
theorem dX5_begin_12 : decode cX5_begin 12 = .ok (.iload_n 2, 1) := by decide +kernel
theorem dX5_begin_13 : decode cX5_begin 13 = .ok (.iastore, 1) := by decide +kernel
theorem dX5_begin_14 : decode cX5_begin 14 = .ok (.iinc 2 1, 3) := by decide +kernel
theorem dX5_begin_17 : decode cX5_begin 17 = .ok (.goto (-15), 3) := by decide +kernel
theorem dX5_begin_20 : decode cX5_begin 20 = .ok (.return_, 1) := by decide +kernel
theorem dX5_step_0 : decode cX5_step 0 = .ok (.iload_n 1, 1) := by decide +kernel
theorem dX5_step_1 : decode cX5_step 1 = .ok (.iconst 2, 1) := by decide +kernel
theorem dX5_step_2 : decode cX5_step 2 = .ok (.isub, 1) := by decide +kernel
theorem dX5_step_3 : decode cX5_step 3 = .ok (.istore_n 2, 1) := by decide +kernel
theorem dX5_step_4 : decode cX5_step 4 = .ok (.iload_n 2, 1) := by decide +kernel
theorem dX5_step_5 : decode cX5_step 5 = .ok (.ifCond .lt 26, 3) := by decide +kernel
theorem dX5_step_8 : decode cX5_step 8 = .ok (.aload_n 0, 1) := by decide +kernel
theorem dX5_step_9 : decode cX5_step 9 = .ok (.getfield 36, 3) := by decide +kernel
theorem dX5_step_12 : decode cX5_step 12 = .ok (.iload_n 2, 1) := by decide +kernel
theorem dX5_step_13 : decode cX5_step 13 = .ok (.iaload, 1) := by decide +kernel
theorem dX5_step_14 : decode cX5_step 14 = .ok (.aload_n 0, 1) := by decide +kernel
theorem dX5_step_15 : decode cX5_step 15 = .ok (.getfield 36, 3) := by decide +kernel
theorem dX5_step_18 : decode cX5_step 18 = .ok (.iload_n 2, 1) := by decide +kernel
theorem dX5_step_19 : decode cX5_step 19 = .ok (.iconst 1, 1) := by decide +kernel
theorem dX5_step_20 : decode cX5_step 20 = .ok (.iadd, 1) := by decide +kernel
theorem dX5_step_21 : decode cX5_step 21 = .ok (.iaload, 1) := by decide +kernel
theorem dX5_step_22 : decode cX5_step 22 = .ok (.if_icmp .le 9, 3) := by decide +kernel
theorem dX5_step_25 : decode cX5_step 25 = .ok (.iinc 2 (-1), 3) := by decide +kernel
theorem dX5_step_28 : decode cX5_step 28 = .ok (.goto (-24), 3) := by decide +kernel
theorem dX5_step_31 : decode cX5_step 31 = .ok (.iload_n 2, 1) := by decide +kernel
theorem dX5_step_32 : decode cX5_step 32 = .ok (.ifCond .ge 5, 3) := by decide +kernel
theorem dX5_step_35 : decode cX5_step 35 = .ok (.iconst 0, 1) := by decide +kernel
theorem dX5_step_36 : decode cX5_step 36 = .ok (.ireturn, 1) := by decide +kernel
theorem dX5_step_37 : decode cX5_step 37 = .ok (.iload_n 1, 1) := by decide +kernel
theorem dX5_step_38 : decode cX5_step 38 = .ok (.iconst 1, 1) := by decide +kernel
theorem dX5_step_39 : decode cX5_step 39 = .ok (.isub, 1) := by decide +kernel
theorem dX5_step_40 : decode cX5_step 40 = .ok (.istore_n 3, 1) := by decide +kernel
theorem dX5_step_41 : decode cX5_step 41 = .ok (.aload_n 0, 1) := by decide +kernel
theorem dX5_step_42 : decode cX5_step 42 = .ok (.getfield 36, 3) := by decide +kernel
theorem dX5_step_45 : decode cX5_step 45 = .ok (.iload_n 3, 1) := by decide +kernel
theorem dX5_step_46 : decode cX5_step 46 = .ok (.iaload, 1) := by decide +kernel
theorem dX5_step_47 : decode cX5_step 47 = .ok (.aload_n 0, 1) := by decide +kernel
theorem dX5_step_48 : decode cX5_step 48 = .ok (.getfield 36, 3) := by decide +kernel
theorem dX5_step_51 : decode cX5_step 51 = .ok (.iload_n 2, 1) := by decide +kernel
theorem dX5_step_52 : decode cX5_step 52 = .ok (.iaload, 1) := by decide +kernel
theorem dX5_step_53 : decode cX5_step 53 = .ok (.if_icmp .ge 9, 3) := by decide +kernel
theorem dX5_step_56 : decode cX5_step 56 = .ok (.iinc 3 (-1), 3) := by decide +kernel
theorem dX5_step_59 : decode cX5_step 59 = .ok (.goto (-18), 3) := by decide +kernel
theorem dX5_step_62 : decode cX5_step 62 = .ok (.aload_n 0, 1) := by decide +kernel
theorem dX5_step_63 : decode cX5_step 63 = .ok (.getfield 36, 3) := by decide +kernel
theorem dX5_step_66 : decode cX5_step 66 = .ok (.iload_n 2, 1) := by decide +kernel
theorem dX5_step_67 : decode cX5_step 67 = .ok (.iaload, 1) := by decide +kernel
theorem dX5_step_68 : decode cX5_step 68 = .ok (.istore 4, 2) := by decide +kernel
theorem dX5_step_70 : decode cX5_step 70 = .ok (.aload_n 0, 1) := by decide +kernel
theorem dX5_step_71 : decode cX5_step 71 = .ok (.getfield 36, 3) := by decide +kernel
theorem dX5_step_74 : decode cX5_step 74 = .ok (.iload_n 2, 1) := by decide +kernel
theorem dX5_step_75 : decode cX5_step 75 = .ok (.aload_n 0, 1) := by decide +kernel
theorem dX5_step_76 : decode cX5_step 76 = .ok (.getfield 36, 3) := by decide +kernel
theorem dX5_step_79 : decode cX5_step 79 = .ok (.iload_n 3, 1) := by decide +kernel
theorem dX5_step_80 : decode cX5_step 80 = .ok (.iaload, 1) := by decide +kernel
theorem dX5_step_81 : decode cX5_step 81 = .ok (.iastore, 1) := by decide +kernel
theorem dX5_step_82 : decode cX5_step 82 = .ok (.aload_n 0, 1) := by decide +kernel
theorem dX5_step_83 : decode cX5_step 83 = .ok (.getfield 36, 3) := by decide +kernel
theorem dX5_step_86 : decode cX5_step 86 = .ok (.iload_n 3, 1) := by decide +kernel
theorem dX5_step_87 : decode cX5_step 87 = .ok (.iload 4, 2) := by decide +kernel
theorem dX5_step_89 : decode cX5_step 89 = .ok (.iastore, 1) := by decide +kernel
theorem dX5_step_90 : decode cX5_step 90 = .ok (.iload_n 2, 1) := by decide +kernel
theorem dX5_step_91 : decode cX5_step 91 = .ok (.iconst 1, 1) := by decide +kernel
theorem dX5_step_92 : decode cX5_step 92 = .ok (.iadd, 1) := by decide +kernel
theorem dX5_step_93 : decode cX5_step 93 = .ok (.istore 5, 2) := by decide +kernel
theorem dX5_step_95 : decode cX5_step 95 = .ok (.iload_n 1, 1) := by decide +kernel
theorem dX5_step_96 : decode cX5_step 96 = .ok (.iconst 1, 1) := by decide +kernel
theorem dX5_step_97 : decode cX5_step 97 = .ok (.isub, 1) := by decide +kernel
theorem dX5_step_98 : decode cX5_step 98 = .ok (.istore 6, 2) := by decide +kernel
theorem dX5_step_100 : decode cX5_step 100 = .ok (.iload 5, 2) := by decide +kernel
theorem dX5_step_102 : decode cX5_step 102 = .ok (.iload 6, 2) := by decide +kernel
theorem dX5_step_104 : decode cX5_step 104 = .ok (.if_icmp .ge 44, 3) := by decide +kernel
theorem dX5_step_107 : decode cX5_step 107 = .ok (.aload_n 0, 1) := by decide +kernel
theorem dX5_step_108 : decode cX5_step 108 = .ok (.getfield 36, 3) := by decide +kernel
theorem dX5_step_111 : decode cX5_step 111 = .ok (.iload 5, 2) := by decide +kernel
theorem dX5_step_113 : decode cX5_step 113 = .ok (.iaload, 1) := by decide +kernel
theorem dX5_step_114 : decode cX5_step 114 = .ok (.istore 7, 2) := by decide +kernel
theorem dX5_step_116 : decode cX5_step 116 = .ok (.aload_n 0, 1) := by decide +kernel
theorem dX5_step_117 : decode cX5_step 117 = .ok (.getfield 36, 3) := by decide +kernel
theorem dX5_step_120 : decode cX5_step 120 = .ok (.iload 5, 2) := by decide +kernel
theorem dX5_step_122 : decode cX5_step 122 = .ok (.aload_n 0, 1) := by decide +kernel
theorem dX5_step_123 : decode cX5_step 123 = .ok (.getfield 36, 3) := by decide +kernel
theorem dX5_step_126 : decode cX5_step 126 = .ok (.iload 6, 2) := by decide +kernel
theorem dX5_step_128 : decode cX5_step 128 = .ok (.iaload, 1) := by decide +kernel
theorem dX5_step_129 : decode cX5_step 129 = .ok (.iastore, 1) := by decide +kernel
theorem dX5_step_130 : decode cX5_step 130 = .ok (.aload_n 0, 1) := by decide +kernel
theorem dX5_step_131 : decode cX5_step 131 = .ok (.getfield 36, 3) := by decide +kernel
theorem dX5_step_134 : decode cX5_step 134 = .ok (.iload 6, 2) := by decide +kernel
theorem dX5_step_136 : decode cX5_step 136 = .ok (.iload 7, 2) := by decide +kernel
theorem dX5_step_138 : decode cX5_step 138 = .ok (.iastore, 1) := by decide +kernel
theorem dX5_step_139 : decode cX5_step 139 = .ok (.iinc 5 1, 3) := by decide +kernel
theorem dX5_step_142 : decode cX5_step 142 = .ok (.iinc 6 (-1), 3) := by decide +kernel
theorem dX5_step_145 : decode cX5_step 145 = .ok (.goto (-45), 3) := by decide +kernel
theorem dX5_step_148 : decode cX5_step 148 = .ok (.iconst 1, 1) := by decide +kernel
theorem dX5_step_149 : decode cX5_step 149 = .ok (.ireturn, 1) := by decide +kernel
theorem dX5_nameOf_0 : decode cX5_nameOf 0 = .ok (.aload_n 0, 1) := by decide +kernel
theorem dX5_nameOf_1 : decode cX5_nameOf 1 = .ok (.iload_n 1, 1) := by decide +kernel
theorem dX5_nameOf_2 : decode cX5_nameOf 2 = .ok (.invokevirtual 105, 3) := by decide +kernel
theorem dX5_nameOf_5 : decode cX5_nameOf 5 = .ok (.aload_n 0, 1) := by decide +kernel
theorem dX5_nameOf_6 : decode cX5_nameOf 6 = .ok (.iload_n 1, 1) := by decide +kernel
theorem dX5_nameOf_7 : decode cX5_nameOf 7 = .ok (.invokevirtual 109, 3) := by decide +kernel
theorem dX5_nameOf_10 : decode cX5_nameOf 10 = .ok (.istore_n 2, 1) := by decide +kernel
theorem dX5_nameOf_11 : decode cX5_nameOf 11 = .ok (.aload_n 0, 1) := by decide +kernel
theorem dX5_nameOf_12 : decode cX5_nameOf 12 = .ok (.iload_n 1, 1) := by decide +kernel
theorem dX5_nameOf_13 : decode cX5_nameOf 13 = .ok (.invokevirtual 112, 3) := by decide +kernel
theorem dX5_nameOf_16 : decode cX5_nameOf 16 = .ok (.ifCond .eq 23, 3) := by decide +kernel
theorem dX5_nameOf_19 : decode cX5_nameOf 19 = .ok (.aload_n 0, 1) := by decide +kernel
theorem dX5_nameOf_20 : decode cX5_nameOf 20 = .ok (.iload_n 1, 1) := by decide +kernel
theorem dX5_nameOf_21 : decode cX5_nameOf 21 = .ok (.invokevirtual 109, 3) := by decide +kernel
theorem dX5_nameOf_24 : decode cX5_nameOf 24 = .ok (.istore_n 3, 1) := by decide +kernel
theorem dX5_nameOf_25 : decode cX5_nameOf 25 = .ok (.iload_n 3, 1) := by decide +kernel
theorem dX5_nameOf_26 : decode cX5_nameOf 26 = .ok (.iload_n 2, 1) := by decide +kernel
theorem dX5_nameOf_27 : decode cX5_nameOf 27 = .ok (.if_icmp .ge 7, 3) := by decide +kernel
theorem dX5_nameOf_30 : decode cX5_nameOf 30 = .ok (.iload_n 3, 1) := by decide +kernel
theorem dX5_nameOf_31 : decode cX5_nameOf 31 = .ok (.goto 4, 3) := by decide +kernel
theorem dX5_nameOf_34 : decode cX5_nameOf 34 = .ok (.iload_n 2, 1) := by decide +kernel
theorem dX5_nameOf_35 : decode cX5_nameOf 35 = .ok (.istore_n 2, 1) := by decide +kernel
theorem dX5_nameOf_36 : decode cX5_nameOf 36 = .ok (.goto (-25), 3) := by decide +kernel
theorem dX5_nameOf_39 : decode cX5_nameOf 39 = .ok (.iload_n 2, 1) := by decide +kernel
theorem dX5_nameOf_40 : decode cX5_nameOf 40 = .ok (.ireturn, 1) := by decide +kernel
theorem dX5_name_0 : decode cX5_name 0 = .ok (.aload_n 0, 1) := by decide +kernel
theorem dX5_name_1 : decode cX5_name 1 = .ok (.getfield 58, 3) := by decide +kernel
theorem dX5_name_4 : decode cX5_name 4 = .ok (.bipush 7, 2) := by decide +kernel
theorem dX5_name_6 : decode cX5_name 6 = .ok (.if_icmp .le 8, 3) := by decide +kernel
theorem dX5_name_9 : decode cX5_name 9 = .ok (.bipush (-3), 2) := by decide +kernel
theorem dX5_name_11 : decode cX5_name 11 = .ok (.goto 11, 3) := by decide +kernel
theorem dX5_name_14 : decode cX5_name 14 = .ok (.aload_n 0, 1) := by decide +kernel
theorem dX5_name_15 : decode cX5_name 15 = .ok (.aload_n 0, 1) := by decide +kernel
theorem dX5_name_16 : decode cX5_name 16 = .ok (.getfield 58, 3) := by decide +kernel
theorem dX5_name_19 : decode cX5_name 19 = .ok (.invokevirtual 115, 3) := by decide +kernel
theorem dX5_name_22 : decode cX5_name 22 = .ok (.ireturn, 1) := by decide +kernel
theorem dX5_spell_0 : decode cX5_spell 0 = .ok (.iconst 0, 1) := by decide +kernel
theorem dX5_spell_1 : decode cX5_spell 1 = .ok (.istore_n 3, 1) := by decide +kernel
theorem dX5_spell_2 : decode cX5_spell 2 = .ok (.iconst 1, 1) := by decide +kernel
theorem dX5_spell_3 : decode cX5_spell 3 = .ok (.istore 4, 2) := by decide +kernel
theorem dX5_spell_5 : decode cX5_spell 5 = .ok (.iload 4, 2) := by decide +kernel
theorem dX5_spell_7 : decode cX5_spell 7 = .ok (.iload_n 1, 1) := by decide +kernel
theorem dX5_spell_8 : decode cX5_spell 8 = .ok (.if_icmp .ge 58, 3) := by decide +kernel
theorem dX5_spell_11 : decode cX5_spell 11 = .ok (.aload_n 0, 1) := by decide +kernel
theorem dX5_spell_12 : decode cX5_spell 12 = .ok (.iconst 0, 1) := by decide +kernel
theorem dX5_spell_13 : decode cX5_spell 13 = .ok (.iload 4, 2) := by decide +kernel
theorem dX5_spell_15 : decode cX5_spell 15 = .ok (.iconst 1, 1) := by decide +kernel
theorem dX5_spell_16 : decode cX5_spell 16 = .ok (.invokevirtual 65, 3) := by decide +kernel
theorem dX5_spell_19 : decode cX5_spell 19 = .ok (.iconst 1, 1) := by decide +kernel
theorem dX5_spell_20 : decode cX5_spell 20 = .ok (.istore 5, 2) := by decide +kernel
theorem dX5_spell_22 : decode cX5_spell 22 = .ok (.iload 5, 2) := by decide +kernel
theorem dX5_spell_24 : decode cX5_spell 24 = .ok (.iload 4, 2) := by decide +kernel
theorem dX5_spell_26 : decode cX5_spell 26 = .ok (.if_icmp .ge 34, 3) := by decide +kernel
theorem dX5_spell_29 : decode cX5_spell 29 = .ok (.aload_n 0, 1) := by decide +kernel
theorem dX5_spell_30 : decode cX5_spell 30 = .ok (.iload 5, 2) := by decide +kernel
theorem dX5_spell_32 : decode cX5_spell 32 = .ok (.iload 4, 2) := by decide +kernel
theorem dX5_spell_34 : decode cX5_spell 34 = .ok (.iload_n 2, 1) := by decide +kernel
theorem dX5_spell_35 : decode cX5_spell 35 = .ok (.iload_n 3, 1) := by decide +kernel
theorem dX5_spell_36 : decode cX5_spell 36 = .ok (.ishr, 1) := by decide +kernel
theorem dX5_spell_37 : decode cX5_spell 37 = .ok (.iconst 1, 1) := by decide +kernel
theorem dX5_spell_38 : decode cX5_spell 38 = .ok (.iand, 1) := by decide +kernel
theorem dX5_spell_39 : decode cX5_spell 39 = .ok (.iconst 1, 1) := by decide +kernel
theorem dX5_spell_40 : decode cX5_spell 40 = .ok (.if_icmp .ne 7, 3) := by decide +kernel
theorem dX5_spell_43 : decode cX5_spell 43 = .ok (.iconst (-1), 1) := by decide +kernel
theorem dX5_spell_44 : decode cX5_spell 44 = .ok (.goto 4, 3) := by decide +kernel
theorem dX5_spell_47 : decode cX5_spell 47 = .ok (.iconst 1, 1) := by decide +kernel
theorem dX5_spell_48 : decode cX5_spell 48 = .ok (.invokevirtual 65, 3) := by decide +kernel
theorem dX5_spell_51 : decode cX5_spell 51 = .ok (.iinc 3 1, 3) := by decide +kernel
theorem dX5_spell_54 : decode cX5_spell 54 = .ok (.iinc 5 1, 3) := by decide +kernel
theorem dX5_spell_57 : decode cX5_spell 57 = .ok (.goto (-35), 3) := by decide +kernel
theorem dX5_spell_60 : decode cX5_spell 60 = .ok (.iinc 4 1, 3) := by decide +kernel
theorem dX5_spell_63 : decode cX5_spell 63 = .ok (.goto (-58), 3) := by decide +kernel
theorem dX5_spell_66 : decode cX5_spell 66 = .ok (.return_, 1) := by decide +kernel
theorem dX5_plain_0 : decode cX5_plain 0 = .ok (.aload_n 0, 1) := by decide +kernel
theorem dX5_plain_1 : decode cX5_plain 1 = .ok (.getfield 58, 3) := by decide +kernel
theorem dX5_plain_4 : decode cX5_plain 4 = .ok (.bipush 7, 2) := by decide +kernel
theorem dX5_plain_6 : decode cX5_plain 6 = .ok (.if_icmp .le 6, 3) := by decide +kernel
theorem dX5_plain_9 : decode cX5_plain 9 = .ok (.bipush (-3), 2) := by decide +kernel
theorem dX5_plain_11 : decode cX5_plain 11 = .ok (.ireturn, 1) := by decide +kernel
theorem dX5_plain_12 : decode cX5_plain 12 = .ok (.aload_n 0, 1) := by decide +kernel
theorem dX5_plain_13 : decode cX5_plain 13 = .ok (.aload_n 0, 1) := by decide +kernel
theorem dX5_plain_14 : decode cX5_plain 14 = .ok (.getfield 58, 3) := by decide +kernel
theorem dX5_plain_17 : decode cX5_plain 17 = .ok (.invokevirtual 115, 3) := by decide +kernel
theorem dX5_plain_20 : decode cX5_plain 20 = .ok (.istore_n 1, 1) := by decide +kernel
theorem dX5_plain_21 : decode cX5_plain 21 = .ok (.iconst 0, 1) := by decide +kernel
theorem dX5_plain_22 : decode cX5_plain 22 = .ok (.istore_n 2, 1) := by decide +kernel
theorem dX5_plain_23 : decode cX5_plain 23 = .ok (.iload_n 2, 1) := by decide +kernel
theorem dX5_plain_24 : decode cX5_plain 24 = .ok (.bipush 100, 2) := by decide +kernel
theorem dX5_plain_26 : decode cX5_plain 26 = .ok (.if_icmp .ge 21, 3) := by decide +kernel
theorem dX5_plain_29 : decode cX5_plain 29 = .ok (.aload_n 0, 1) := by decide +kernel
theorem dX5_plain_30 : decode cX5_plain 30 = .ok (.getfield 39, 3) := by decide +kernel
theorem dX5_plain_33 : decode cX5_plain 33 = .ok (.iload_n 2, 1) := by decide +kernel
theorem dX5_plain_34 : decode cX5_plain 34 = .ok (.aload_n 0, 1) := by decide +kernel
theorem dX5_plain_35 : decode cX5_plain 35 = .ok (.getfield 7, 3) := by decide +kernel
theorem dX5_plain_38 : decode cX5_plain 38 = .ok (.iload_n 2, 1) := by decide +kernel
theorem dX5_plain_39 : decode cX5_plain 39 = .ok (.iaload, 1) := by decide +kernel
theorem dX5_plain_40 : decode cX5_plain 40 = .ok (.iastore, 1) := by decide +kernel
theorem dX5_plain_41 : decode cX5_plain 41 = .ok (.iinc 2 1, 3) := by decide +kernel
theorem dX5_plain_44 : decode cX5_plain 44 = .ok (.goto (-21), 3) := by decide +kernel
theorem dX5_plain_47 : decode cX5_plain 47 = .ok (.aload_n 0, 1) := by decide +kernel
theorem dX5_plain_48 : decode cX5_plain 48 = .ok (.aload_n 0, 1) := by decide +kernel
theorem dX5_plain_49 : decode cX5_plain 49 = .ok (.getfield 58, 3) := by decide +kernel
theorem dX5_plain_52 : decode cX5_plain 52 = .ok (.iload_n 1, 1) := by decide +kernel
theorem dX5_plain_53 : decode cX5_plain 53 = .ok (.invokevirtual 118, 3) := by decide +kernel
theorem dX5_plain_56 : decode cX5_plain 56 = .ok (.iconst 0, 1) := by decide +kernel
theorem dX5_plain_57 : decode cX5_plain 57 = .ok (.istore_n 2, 1) := by decide +kernel
theorem dX5_plain_58 : decode cX5_plain 58 = .ok (.iconst 0, 1) := by decide +kernel
theorem dX5_plain_59 : decode cX5_plain 59 = .ok (.istore_n 3, 1) := by decide +kernel
theorem dX5_plain_60 : decode cX5_plain 60 = .ok (.iload_n 3, 1) := by decide +kernel
theorem dX5_plain_61 : decode cX5_plain 61 = .ok (.aload_n 0, 1) := by decide +kernel
theorem dX5_plain_62 : decode cX5_plain 62 = .ok (.getfield 58, 3) := by decide +kernel
theorem dX5_plain_65 : decode cX5_plain 65 = .ok (.if_icmp .ge 80, 3) := by decide +kernel
theorem dX5_plain_68 : decode cX5_plain 68 = .ok (.iconst 0, 1) := by decide +kernel
theorem dX5_plain_69 : decode cX5_plain 69 = .ok (.istore 4, 2) := by decide +kernel
theorem dX5_plain_71 : decode cX5_plain 71 = .ok (.iconst 0, 1) := by decide +kernel
theorem dX5_plain_72 : decode cX5_plain 72 = .ok (.istore 5, 2) := by decide +kernel
theorem dX5_plain_74 : decode cX5_plain 74 = .ok (.iload 5, 2) := by decide +kernel
theorem dX5_plain_76 : decode cX5_plain 76 = .ok (.aload_n 0, 1) := by decide +kernel
theorem dX5_plain_77 : decode cX5_plain 77 = .ok (.getfield 58, 3) := by decide +kernel
theorem dX5_plain_80 : decode cX5_plain 80 = .ok (.if_icmp .ge 46, 3) := by decide +kernel
theorem dX5_plain_83 : decode cX5_plain 83 = .ok (.iload 4, 2) := by decide +kernel
theorem dX5_plain_85 : decode cX5_plain 85 = .ok (.aload_n 0, 1) := by decide +kernel
theorem dX5_plain_86 : decode cX5_plain 86 = .ok (.getfield 39, 3) := by decide +kernel
theorem dX5_plain_89 : decode cX5_plain 89 = .ok (.bipush 10, 2) := by decide +kernel
theorem dX5_plain_91 : decode cX5_plain 91 = .ok (.iload_n 3, 1) := by decide +kernel
theorem dX5_plain_92 : decode cX5_plain 92 = .ok (.imul, 1) := by decide +kernel
theorem dX5_plain_93 : decode cX5_plain 93 = .ok (.iload 5, 2) := by decide +kernel
theorem dX5_plain_95 : decode cX5_plain 95 = .ok (.iadd, 1) := by decide +kernel
theorem dX5_plain_96 : decode cX5_plain 96 = .ok (.iaload, 1) := by decide +kernel
theorem dX5_plain_97 : decode cX5_plain 97 = .ok (.aload_n 0, 1) := by decide +kernel
theorem dX5_plain_98 : decode cX5_plain 98 = .ok (.getfield 7, 3) := by decide +kernel
theorem dX5_plain_101 : decode cX5_plain 101 = .ok (.bipush 10, 2) := by decide +kernel
theorem dX5_plain_103 : decode cX5_plain 103 = .ok (.iload_n 3, 1) := by decide +kernel
theorem dX5_plain_104 : decode cX5_plain 104 = .ok (.imul, 1) := by decide +kernel
theorem dX5_plain_105 : decode cX5_plain 105 = .ok (.iload 5, 2) := by decide +kernel
theorem dX5_plain_107 : decode cX5_plain 107 = .ok (.iadd, 1) := by decide +kernel
theorem dX5_plain_108 : decode cX5_plain 108 = .ok (.iaload, 1) := by decide +kernel
theorem dX5_plain_109 : decode cX5_plain 109 = .ok (.if_icmp .eq 7, 3) := by decide +kernel
theorem dX5_plain_112 : decode cX5_plain 112 = .ok (.iconst 1, 1) := by decide +kernel
theorem dX5_plain_113 : decode cX5_plain 113 = .ok (.goto 4, 3) := by decide +kernel
theorem dX5_plain_116 : decode cX5_plain 116 = .ok (.iconst 0, 1) := by decide +kernel
theorem dX5_plain_117 : decode cX5_plain 117 = .ok (.ior, 1) := by decide +kernel
theorem dX5_plain_118 : decode cX5_plain 118 = .ok (.istore 4, 2) := by decide +kernel
theorem dX5_plain_120 : decode cX5_plain 120 = .ok (.iinc 5 1, 3) := by decide +kernel
theorem dX5_plain_123 : decode cX5_plain 123 = .ok (.goto (-49), 3) := by decide +kernel
theorem dX5_plain_126 : decode cX5_plain 126 = .ok (.iload_n 2, 1) := by decide +kernel
theorem dX5_plain_127 : decode cX5_plain 127 = .ok (.iload 4, 2) := by decide +kernel
theorem dX5_plain_129 : decode cX5_plain 129 = .ok (.ifCond .eq 7, 3) := by decide +kernel
theorem dX5_plain_132 : decode cX5_plain 132 = .ok (.iconst 1, 1) := by decide +kernel
theorem dX5_plain_133 : decode cX5_plain 133 = .ok (.goto 4, 3) := by decide +kernel
theorem dX5_plain_136 : decode cX5_plain 136 = .ok (.iconst 0, 1) := by decide +kernel
theorem dX5_plain_137 : decode cX5_plain 137 = .ok (.iadd, 1) := by decide +kernel
theorem dX5_plain_138 : decode cX5_plain 138 = .ok (.istore_n 2, 1) := by decide +kernel
theorem dX5_plain_139 : decode cX5_plain 139 = .ok (.iinc 3 1, 3) := by decide +kernel
theorem dX5_plain_142 : decode cX5_plain 142 = .ok (.goto (-82), 3) := by decide +kernel
theorem dX5_plain_145 : decode cX5_plain 145 = .ok (.iload_n 2, 1) := by decide +kernel
theorem dX5_plain_146 : decode cX5_plain 146 = .ok (.ireturn, 1) := by decide +kernel
theorem dX5_group_0 : decode cX5_group 0 = .ok (.aload_n 0, 1) := by decide +kernel
theorem dX5_group_1 : decode cX5_group 1 = .ok (.getfield 58, 3) := by decide +kernel
theorem dX5_group_4 : decode cX5_group 4 = .ok (.bipush 7, 2) := by decide +kernel
theorem dX5_group_6 : decode cX5_group 6 = .ok (.if_icmp .le 6, 3) := by decide +kernel
theorem dX5_group_9 : decode cX5_group 9 = .ok (.bipush (-3), 2) := by decide +kernel
theorem dX5_group_11 : decode cX5_group 11 = .ok (.ireturn, 1) := by decide +kernel
theorem dX5_group_12 : decode cX5_group 12 = .ok (.aload_n 0, 1) := by decide +kernel
theorem dX5_group_13 : decode cX5_group 13 = .ok (.aload_n 0, 1) := by decide +kernel
theorem dX5_group_14 : decode cX5_group 14 = .ok (.getfield 58, 3) := by decide +kernel
theorem dX5_group_17 : decode cX5_group 17 = .ok (.invokevirtual 105, 3) := by decide +kernel
theorem dX5_group_20 : decode cX5_group 20 = .ok (.aload_n 0, 1) := by decide +kernel
theorem dX5_group_21 : decode cX5_group 21 = .ok (.aload_n 0, 1) := by decide +kernel
theorem dX5_group_22 : decode cX5_group 22 = .ok (.getfield 58, 3) := by decide +kernel
theorem dX5_group_25 : decode cX5_group 25 = .ok (.invokevirtual 109, 3) := by decide +kernel
theorem dX5_group_28 : decode cX5_group 28 = .ok (.istore_n 1, 1) := by decide +kernel
theorem dX5_group_29 : decode cX5_group 29 = .ok (.iconst 1, 1) := by decide +kernel
theorem dX5_group_30 : decode cX5_group 30 = .ok (.istore_n 2, 1) := by decide +kernel
theorem dX5_group_31 : decode cX5_group 31 = .ok (.aload_n 0, 1) := by decide +kernel
theorem dX5_group_32 : decode cX5_group 32 = .ok (.aload_n 0, 1) := by decide +kernel
theorem dX5_group_33 : decode cX5_group 33 = .ok (.getfield 58, 3) := by decide +kernel
theorem dX5_group_36 : decode cX5_group 36 = .ok (.invokevirtual 112, 3) := by decide +kernel
theorem dX5_group_39 : decode cX5_group 39 = .ok (.ifCond .eq 26, 3) := by decide +kernel
theorem dX5_group_42 : decode cX5_group 42 = .ok (.iload_n 2, 1) := by decide +kernel
theorem dX5_group_43 : decode cX5_group 43 = .ok (.aload_n 0, 1) := by decide +kernel
theorem dX5_group_44 : decode cX5_group 44 = .ok (.aload_n 0, 1) := by decide +kernel
theorem dX5_group_45 : decode cX5_group 45 = .ok (.getfield 58, 3) := by decide +kernel
theorem dX5_group_48 : decode cX5_group 48 = .ok (.invokevirtual 109, 3) := by decide +kernel
theorem dX5_group_51 : decode cX5_group 51 = .ok (.iload_n 1, 1) := by decide +kernel
theorem dX5_group_52 : decode cX5_group 52 = .ok (.if_icmp .ne 7, 3) := by decide +kernel
theorem dX5_group_55 : decode cX5_group 55 = .ok (.iconst 1, 1) := by decide +kernel
theorem dX5_group_56 : decode cX5_group 56 = .ok (.goto 4, 3) := by decide +kernel
theorem dX5_group_59 : decode cX5_group 59 = .ok (.iconst 0, 1) := by decide +kernel
theorem dX5_group_60 : decode cX5_group 60 = .ok (.iadd, 1) := by decide +kernel
theorem dX5_group_61 : decode cX5_group 61 = .ok (.istore_n 2, 1) := by decide +kernel
theorem dX5_group_62 : decode cX5_group 62 = .ok (.goto (-31), 3) := by decide +kernel
theorem dX5_group_65 : decode cX5_group 65 = .ok (.iload_n 2, 1) := by decide +kernel
theorem dX5_group_66 : decode cX5_group 66 = .ok (.ireturn, 1) := by decide +kernel
theorem dX5_kinds_0 : decode cX5_kinds 0 = .ok (.iload_n 1, 1) := by decide +kernel
theorem dX5_kinds_1 : decode cX5_kinds 1 = .ok (.iconst 1, 1) := by decide +kernel
theorem dX5_kinds_2 : decode cX5_kinds 2 = .ok (.iconst 5, 1) := by decide +kernel
theorem dX5_kinds_3 : decode cX5_kinds 3 = .ok (.invokestatic 61, 3) := by decide +kernel
theorem dX5_kinds_6 : decode cX5_kinds 6 = .ok (.ifCond .ne 6, 3) := by decide +kernel
theorem dX5_kinds_9 : decode cX5_kinds 9 = .ok (.bipush (-2), 2) := by decide +kernel
theorem dX5_kinds_11 : decode cX5_kinds 11 = .ok (.ireturn, 1) := by decide +kernel
theorem dX5_kinds_12 : decode cX5_kinds 12 = .ok (.iconst 0, 1) := by decide +kernel
theorem dX5_kinds_13 : decode cX5_kinds 13 = .ok (.istore_n 2, 1) := by decide +kernel
theorem dX5_kinds_14 : decode cX5_kinds 14 = .ok (.iload_n 2, 1) := by decide +kernel
theorem dX5_kinds_15 : decode cX5_kinds 15 = .ok (.bipush 100, 2) := by decide +kernel
theorem dX5_kinds_17 : decode cX5_kinds 17 = .ok (.if_icmp .ge 21, 3) := by decide +kernel
theorem dX5_kinds_20 : decode cX5_kinds 20 = .ok (.aload_n 0, 1) := by decide +kernel
theorem dX5_kinds_21 : decode cX5_kinds 21 = .ok (.getfield 39, 3) := by decide +kernel
theorem dX5_kinds_24 : decode cX5_kinds 24 = .ok (.iload_n 2, 1) := by decide +kernel
theorem dX5_kinds_25 : decode cX5_kinds 25 = .ok (.aload_n 0, 1) := by decide +kernel
theorem dX5_kinds_26 : decode cX5_kinds 26 = .ok (.getfield 7, 3) := by decide +kernel
theorem dX5_kinds_29 : decode cX5_kinds 29 = .ok (.iload_n 2, 1) := by decide +kernel
theorem dX5_kinds_30 : decode cX5_kinds 30 = .ok (.iaload, 1) := by decide +kernel
theorem dX5_kinds_31 : decode cX5_kinds 31 = .ok (.iastore, 1) := by decide +kernel
theorem dX5_kinds_32 : decode cX5_kinds 32 = .ok (.iinc 2 1, 3) := by decide +kernel
theorem dX5_kinds_35 : decode cX5_kinds 35 = .ok (.goto (-21), 3) := by decide +kernel
theorem dX5_kinds_38 : decode cX5_kinds 38 = .ok (.iconst 0, 1) := by decide +kernel
theorem dX5_kinds_39 : decode cX5_kinds 39 = .ok (.istore_n 2, 1) := by decide +kernel
theorem dX5_kinds_40 : decode cX5_kinds 40 = .ok (.iconst 0, 1) := by decide +kernel
theorem dX5_kinds_41 : decode cX5_kinds 41 = .ok (.istore_n 3, 1) := by decide +kernel
theorem dX5_kinds_42 : decode cX5_kinds 42 = .ok (.iload_n 3, 1) := by decide +kernel
theorem dX5_kinds_43 : decode cX5_kinds 43 = .ok (.iconst 1, 1) := by decide +kernel
theorem dX5_kinds_44 : decode cX5_kinds 44 = .ok (.iload_n 1, 1) := by decide +kernel
theorem dX5_kinds_45 : decode cX5_kinds 45 = .ok (.iconst 1, 1) := by decide +kernel
theorem dX5_kinds_46 : decode cX5_kinds 46 = .ok (.isub, 1) := by decide +kernel
theorem dX5_kinds_47 : decode cX5_kinds 47 = .ok (.iload_n 1, 1) := by decide +kernel
theorem dX5_kinds_48 : decode cX5_kinds 48 = .ok (.iconst 2, 1) := by decide +kernel
theorem dX5_kinds_49 : decode cX5_kinds 49 = .ok (.isub, 1) := by decide +kernel
theorem dX5_kinds_50 : decode cX5_kinds 50 = .ok (.imul, 1) := by decide +kernel
theorem dX5_kinds_51 : decode cX5_kinds 51 = .ok (.iconst 2, 1) := by decide +kernel
theorem dX5_kinds_52 : decode cX5_kinds 52 = .ok (.idiv, 1) := by decide +kernel
theorem dX5_kinds_53 : decode cX5_kinds 53 = .ok (.ishl, 1) := by decide +kernel
theorem dX5_kinds_54 : decode cX5_kinds 54 = .ok (.if_icmp .ge 32, 3) := by decide +kernel
theorem dX5_kinds_57 : decode cX5_kinds 57 = .ok (.aload_n 0, 1) := by decide +kernel
theorem dX5_kinds_58 : decode cX5_kinds 58 = .ok (.iload_n 1, 1) := by decide +kernel
theorem dX5_kinds_59 : decode cX5_kinds 59 = .ok (.iload_n 3, 1) := by decide +kernel
theorem dX5_kinds_60 : decode cX5_kinds 60 = .ok (.invokevirtual 118, 3) := by decide +kernel
theorem dX5_kinds_63 : decode cX5_kinds 63 = .ok (.iload_n 2, 1) := by decide +kernel
theorem dX5_kinds_64 : decode cX5_kinds 64 = .ok (.aload_n 0, 1) := by decide +kernel
theorem dX5_kinds_65 : decode cX5_kinds 65 = .ok (.iload_n 1, 1) := by decide +kernel
theorem dX5_kinds_66 : decode cX5_kinds 66 = .ok (.invokevirtual 115, 3) := by decide +kernel
theorem dX5_kinds_69 : decode cX5_kinds 69 = .ok (.iload_n 3, 1) := by decide +kernel
theorem dX5_kinds_70 : decode cX5_kinds 70 = .ok (.if_icmp .ne 7, 3) := by decide +kernel
theorem dX5_kinds_73 : decode cX5_kinds 73 = .ok (.iconst 1, 1) := by decide +kernel
theorem dX5_kinds_74 : decode cX5_kinds 74 = .ok (.goto 4, 3) := by decide +kernel
theorem dX5_kinds_77 : decode cX5_kinds 77 = .ok (.iconst 0, 1) := by decide +kernel
theorem dX5_kinds_78 : decode cX5_kinds 78 = .ok (.iadd, 1) := by decide +kernel
theorem dX5_kinds_79 : decode cX5_kinds 79 = .ok (.istore_n 2, 1) := by decide +kernel
theorem dX5_kinds_80 : decode cX5_kinds 80 = .ok (.iinc 3 1, 3) := by decide +kernel
theorem dX5_kinds_83 : decode cX5_kinds 83 = .ok (.goto (-41), 3) := by decide +kernel
theorem dX5_kinds_86 : decode cX5_kinds 86 = .ok (.iconst 0, 1) := by decide +kernel
theorem dX5_kinds_87 : decode cX5_kinds 87 = .ok (.istore_n 3, 1) := by decide +kernel
theorem dX5_kinds_88 : decode cX5_kinds 88 = .ok (.iload_n 3, 1) := by decide +kernel
theorem dX5_kinds_89 : decode cX5_kinds 89 = .ok (.bipush 100, 2) := by decide +kernel
theorem dX5_kinds_91 : decode cX5_kinds 91 = .ok (.if_icmp .ge 21, 3) := by decide +kernel
theorem dX5_kinds_94 : decode cX5_kinds 94 = .ok (.aload_n 0, 1) := by decide +kernel
theorem dX5_kinds_95 : decode cX5_kinds 95 = .ok (.getfield 7, 3) := by decide +kernel
theorem dX5_kinds_98 : decode cX5_kinds 98 = .ok (.iload_n 3, 1) := by decide +kernel
theorem dX5_kinds_99 : decode cX5_kinds 99 = .ok (.aload_n 0, 1) := by decide +kernel
theorem dX5_kinds_100 : decode cX5_kinds 100 = .ok (.getfield 39, 3) := by decide +kernel
theorem dX5_kinds_103 : decode cX5_kinds 103 = .ok (.iload_n 3, 1) := by decide +kernel
theorem dX5_kinds_104 : decode cX5_kinds 104 = .ok (.iaload, 1) := by decide +kernel
theorem dX5_kinds_105 : decode cX5_kinds 105 = .ok (.iastore, 1) := by decide +kernel
theorem dX5_kinds_106 : decode cX5_kinds 106 = .ok (.iinc 3 1, 3) := by decide +kernel
theorem dX5_kinds_109 : decode cX5_kinds 109 = .ok (.goto (-21), 3) := by decide +kernel
theorem dX5_kinds_112 : decode cX5_kinds 112 = .ok (.iload_n 2, 1) := by decide +kernel
theorem dX5_kinds_113 : decode cX5_kinds 113 = .ok (.ireturn, 1) := by decide +kernel
theorem dX5_isSet_0 : decode cX5_isSet 0 = .ok (.iload_n 0, 1) := by decide +kernel
theorem dX5_isSet_1 : decode cX5_isSet 1 = .ok (.iconst 2, 1) := by decide +kernel
theorem dX5_isSet_2 : decode cX5_isSet 2 = .ok (.bipush 31, 2) := by decide +kernel
theorem dX5_isSet_4 : decode cX5_isSet 4 = .ok (.invokestatic 61, 3) := by decide +kernel
theorem dX5_isSet_7 : decode cX5_isSet 7 = .ok (.ifCond .eq 24, 3) := by decide +kernel
theorem dX5_isSet_10 : decode cX5_isSet 10 = .ok (.iload_n 1, 1) := by decide +kernel
theorem dX5_isSet_11 : decode cX5_isSet 11 = .ok (.ifCond .lt 20, 3) := by decide +kernel
theorem dX5_isSet_14 : decode cX5_isSet 14 = .ok (.iload_n 0, 1) := by decide +kernel
theorem dX5_isSet_15 : decode cX5_isSet 15 = .ok (.bipush 31, 2) := by decide +kernel
theorem dX5_isSet_17 : decode cX5_isSet 17 = .ok (.if_icmp .eq 10, 3) := by decide +kernel
theorem dX5_isSet_20 : decode cX5_isSet 20 = .ok (.iload_n 1, 1) := by decide +kernel
theorem dX5_isSet_21 : decode cX5_isSet 21 = .ok (.iconst 1, 1) := by decide +kernel
theorem dX5_isSet_22 : decode cX5_isSet 22 = .ok (.iload_n 0, 1) := by decide +kernel
theorem dX5_isSet_23 : decode cX5_isSet 23 = .ok (.ishl, 1) := by decide +kernel
theorem dX5_isSet_24 : decode cX5_isSet 24 = .ok (.if_icmp .ge 7, 3) := by decide +kernel
theorem dX5_isSet_27 : decode cX5_isSet 27 = .ok (.iconst 1, 1) := by decide +kernel
theorem dX5_isSet_28 : decode cX5_isSet 28 = .ok (.goto 4, 3) := by decide +kernel
theorem dX5_isSet_31 : decode cX5_isSet 31 = .ok (.iconst 0, 1) := by decide +kernel
theorem dX5_isSet_32 : decode cX5_isSet 32 = .ok (.ireturn, 1) := by decide +kernel
theorem dX5_hitsOf_0 : decode cX5_hitsOf 0 = .ok (.iconst 0, 1) := by decide +kernel
theorem dX5_hitsOf_1 : decode cX5_hitsOf 1 = .ok (.istore_n 3, 1) := by decide +kernel
theorem dX5_hitsOf_2 : decode cX5_hitsOf 2 = .ok (.iconst 0, 1) := by decide +kernel
theorem dX5_hitsOf_3 : decode cX5_hitsOf 3 = .ok (.istore 4, 2) := by decide +kernel
theorem dX5_hitsOf_5 : decode cX5_hitsOf 5 = .ok (.iload 4, 2) := by decide +kernel
theorem dX5_hitsOf_7 : decode cX5_hitsOf 7 = .ok (.iload_n 0, 1) := by decide +kernel
theorem dX5_hitsOf_8 : decode cX5_hitsOf 8 = .ok (.if_icmp .ge 41, 3) := by decide +kernel
theorem dX5_hitsOf_11 : decode cX5_hitsOf 11 = .ok (.iload_n 3, 1) := by decide +kernel
theorem dX5_hitsOf_12 : decode cX5_hitsOf 12 = .ok (.iload_n 1, 1) := by decide +kernel
theorem dX5_hitsOf_13 : decode cX5_hitsOf 13 = .ok (.iload 4, 2) := by decide +kernel
theorem dX5_hitsOf_15 : decode cX5_hitsOf 15 = .ok (.ishr, 1) := by decide +kernel
theorem dX5_hitsOf_16 : decode cX5_hitsOf 16 = .ok (.iconst 1, 1) := by decide +kernel
theorem dX5_hitsOf_17 : decode cX5_hitsOf 17 = .ok (.iand, 1) := by decide +kernel
theorem dX5_hitsOf_18 : decode cX5_hitsOf 18 = .ok (.iconst 1, 1) := by decide +kernel
theorem dX5_hitsOf_19 : decode cX5_hitsOf 19 = .ok (.if_icmp .ne 21, 3) := by decide +kernel
theorem dX5_hitsOf_22 : decode cX5_hitsOf 22 = .ok (.iload_n 1, 1) := by decide +kernel
theorem dX5_hitsOf_23 : decode cX5_hitsOf 23 = .ok (.iload 4, 2) := by decide +kernel
theorem dX5_hitsOf_25 : decode cX5_hitsOf 25 = .ok (.iload_n 2, 1) := by decide +kernel
theorem dX5_hitsOf_26 : decode cX5_hitsOf 26 = .ok (.iadd, 1) := by decide +kernel
theorem dX5_hitsOf_27 : decode cX5_hitsOf 27 = .ok (.iload_n 0, 1) := by decide +kernel
theorem dX5_hitsOf_28 : decode cX5_hitsOf 28 = .ok (.irem, 1) := by decide +kernel
theorem dX5_hitsOf_29 : decode cX5_hitsOf 29 = .ok (.ishr, 1) := by decide +kernel
theorem dX5_hitsOf_30 : decode cX5_hitsOf 30 = .ok (.iconst 1, 1) := by decide +kernel
theorem dX5_hitsOf_31 : decode cX5_hitsOf 31 = .ok (.iand, 1) := by decide +kernel
theorem dX5_hitsOf_32 : decode cX5_hitsOf 32 = .ok (.iconst 1, 1) := by decide +kernel
theorem dX5_hitsOf_33 : decode cX5_hitsOf 33 = .ok (.if_icmp .ne 7, 3) := by decide +kernel
theorem dX5_hitsOf_36 : decode cX5_hitsOf 36 = .ok (.iconst 1, 1) := by decide +kernel
theorem dX5_hitsOf_37 : decode cX5_hitsOf 37 = .ok (.goto 4, 3) := by decide +kernel
theorem dX5_hitsOf_40 : decode cX5_hitsOf 40 = .ok (.iconst 0, 1) := by decide +kernel
theorem dX5_hitsOf_41 : decode cX5_hitsOf 41 = .ok (.iadd, 1) := by decide +kernel
theorem dX5_hitsOf_42 : decode cX5_hitsOf 42 = .ok (.istore_n 3, 1) := by decide +kernel
theorem dX5_hitsOf_43 : decode cX5_hitsOf 43 = .ok (.iinc 4 1, 3) := by decide +kernel
theorem dX5_hitsOf_46 : decode cX5_hitsOf 46 = .ok (.goto (-41), 3) := by decide +kernel
theorem dX5_hitsOf_49 : decode cX5_hitsOf 49 = .ok (.iload_n 3, 1) := by decide +kernel
theorem dX5_hitsOf_50 : decode cX5_hitsOf 50 = .ok (.ireturn, 1) := by decide +kernel
theorem dX5_hits_0 : decode cX5_hits 0 = .ok (.iload_n 1, 1) := by decide +kernel
theorem dX5_hits_1 : decode cX5_hits 1 = .ok (.iload_n 2, 1) := by decide +kernel
theorem dX5_hits_2 : decode cX5_hits 2 = .ok (.invokestatic 121, 3) := by decide +kernel
theorem dX5_hits_5 : decode cX5_hits 5 = .ok (.ifCond .eq 23, 3) := by decide +kernel
theorem dX5_hits_8 : decode cX5_hits 8 = .ok (.iload_n 3, 1) := by decide +kernel
theorem dX5_hits_9 : decode cX5_hits 9 = .ok (.iconst 1, 1) := by decide +kernel
theorem dX5_hits_10 : decode cX5_hits 10 = .ok (.iload_n 1, 1) := by decide +kernel
theorem dX5_hits_11 : decode cX5_hits 11 = .ok (.iconst 1, 1) := by decide +kernel
theorem dX5_hits_12 : decode cX5_hits 12 = .ok (.isub, 1) := by decide +kernel
theorem dX5_hits_13 : decode cX5_hits 13 = .ok (.invokestatic 61, 3) := by decide +kernel
theorem dX5_hits_16 : decode cX5_hits 16 = .ok (.ifCond .eq 12, 3) := by decide +kernel
theorem dX5_hits_19 : decode cX5_hits 19 = .ok (.iload_n 1, 1) := by decide +kernel
theorem dX5_hits_20 : decode cX5_hits 20 = .ok (.iload_n 2, 1) := by decide +kernel
theorem dX5_hits_21 : decode cX5_hits 21 = .ok (.iload_n 3, 1) := by decide +kernel
theorem dX5_hits_22 : decode cX5_hits 22 = .ok (.invokestatic 124, 3) := by decide +kernel
theorem dX5_hits_25 : decode cX5_hits 25 = .ok (.goto 5, 3) := by decide +kernel
theorem dX5_hits_28 : decode cX5_hits 28 = .ok (.bipush (-2), 2) := by decide +kernel
theorem dX5_hits_30 : decode cX5_hits 30 = .ok (.ireturn, 1) := by decide +kernel
theorem dX5_evenOf_0 : decode cX5_evenOf 0 = .ok (.iload_n 0, 1) := by decide +kernel
theorem dX5_evenOf_1 : decode cX5_evenOf 1 = .ok (.iload_n 1, 1) := by decide +kernel
theorem dX5_evenOf_2 : decode cX5_evenOf 2 = .ok (.iconst 1, 1) := by decide +kernel
theorem dX5_evenOf_3 : decode cX5_evenOf 3 = .ok (.invokestatic 124, 3) := by decide +kernel
theorem dX5_evenOf_6 : decode cX5_evenOf 6 = .ok (.istore_n 2, 1) := by decide +kernel
theorem dX5_evenOf_7 : decode cX5_evenOf 7 = .ok (.iconst 2, 1) := by decide +kernel
theorem dX5_evenOf_8 : decode cX5_evenOf 8 = .ok (.istore_n 3, 1) := by decide +kernel
theorem dX5_evenOf_9 : decode cX5_evenOf 9 = .ok (.iload_n 3, 1) := by decide +kernel
theorem dX5_evenOf_10 : decode cX5_evenOf 10 = .ok (.iload_n 0, 1) := by decide +kernel
theorem dX5_evenOf_11 : decode cX5_evenOf 11 = .ok (.if_icmp .ge 21, 3) := by decide +kernel
theorem dX5_evenOf_14 : decode cX5_evenOf 14 = .ok (.iload_n 0, 1) := by decide +kernel
theorem dX5_evenOf_15 : decode cX5_evenOf 15 = .ok (.iload_n 1, 1) := by decide +kernel
theorem dX5_evenOf_16 : decode cX5_evenOf 16 = .ok (.iload_n 3, 1) := by decide +kernel
theorem dX5_evenOf_17 : decode cX5_evenOf 17 = .ok (.invokestatic 124, 3) := by decide +kernel
theorem dX5_evenOf_20 : decode cX5_evenOf 20 = .ok (.iload_n 2, 1) := by decide +kernel
theorem dX5_evenOf_21 : decode cX5_evenOf 21 = .ok (.if_icmp .eq 5, 3) := by decide +kernel
theorem dX5_evenOf_24 : decode cX5_evenOf 24 = .ok (.iconst (-1), 1) := by decide +kernel
theorem dX5_evenOf_25 : decode cX5_evenOf 25 = .ok (.ireturn, 1) := by decide +kernel
theorem dX5_evenOf_26 : decode cX5_evenOf 26 = .ok (.iinc 3 1, 3) := by decide +kernel
theorem dX5_evenOf_29 : decode cX5_evenOf 29 = .ok (.goto (-20), 3) := by decide +kernel
theorem dX5_evenOf_32 : decode cX5_evenOf 32 = .ok (.iload_n 2, 1) := by decide +kernel
theorem dX5_evenOf_33 : decode cX5_evenOf 33 = .ok (.ireturn, 1) := by decide +kernel
theorem dX5_even_0 : decode cX5_even 0 = .ok (.iload_n 1, 1) := by decide +kernel
theorem dX5_even_1 : decode cX5_even 1 = .ok (.iload_n 2, 1) := by decide +kernel
theorem dX5_even_2 : decode cX5_even 2 = .ok (.invokestatic 121, 3) := by decide +kernel
theorem dX5_even_5 : decode cX5_even 5 = .ok (.ifCond .eq 11, 3) := by decide +kernel
theorem dX5_even_8 : decode cX5_even 8 = .ok (.iload_n 1, 1) := by decide +kernel
theorem dX5_even_9 : decode cX5_even 9 = .ok (.iload_n 2, 1) := by decide +kernel
theorem dX5_even_10 : decode cX5_even 10 = .ok (.invokestatic 128, 3) := by decide +kernel
theorem dX5_even_13 : decode cX5_even 13 = .ok (.goto 5, 3) := by decide +kernel
theorem dX5_even_16 : decode cX5_even 16 = .ok (.bipush (-2), 2) := by decide +kernel
theorem dX5_even_18 : decode cX5_even 18 = .ok (.ireturn, 1) := by decide +kernel
theorem dX5_welch_0 : decode cX5_welch 0 = .ok (.iload_n 1, 1) := by decide +kernel
theorem dX5_welch_1 : decode cX5_welch 1 = .ok (.iconst 2, 1) := by decide +kernel
theorem dX5_welch_2 : decode cX5_welch 2 = .ok (.bipush 31, 2) := by decide +kernel
theorem dX5_welch_4 : decode cX5_welch 4 = .ok (.invokestatic 61, 3) := by decide +kernel
theorem dX5_welch_7 : decode cX5_welch 7 = .ok (.ifCond .eq 27, 3) := by decide +kernel
theorem dX5_welch_10 : decode cX5_welch 10 = .ok (.iload_n 2, 1) := by decide +kernel
theorem dX5_welch_11 : decode cX5_welch 11 = .ok (.iconst 1, 1) := by decide +kernel
theorem dX5_welch_12 : decode cX5_welch 12 = .ok (.iload_n 1, 1) := by decide +kernel
theorem dX5_welch_13 : decode cX5_welch 13 = .ok (.invokestatic 61, 3) := by decide +kernel
theorem dX5_welch_16 : decode cX5_welch 16 = .ok (.ifCond .eq 18, 3) := by decide +kernel
theorem dX5_welch_19 : decode cX5_welch 19 = .ok (.ldc 131, 2) := by decide +kernel
theorem dX5_welch_21 : decode cX5_welch 21 = .ok (.iload_n 1, 1) := by decide +kernel
theorem dX5_welch_22 : decode cX5_welch 22 = .ok (.iload_n 2, 1) := by decide +kernel
theorem dX5_welch_23 : decode cX5_welch 23 = .ok (.isub, 1) := by decide +kernel
theorem dX5_welch_24 : decode cX5_welch 24 = .ok (.imul, 1) := by decide +kernel
theorem dX5_welch_25 : decode cX5_welch 25 = .ok (.iload_n 2, 1) := by decide +kernel
theorem dX5_welch_26 : decode cX5_welch 26 = .ok (.iload_n 1, 1) := by decide +kernel
theorem dX5_welch_27 : decode cX5_welch 27 = .ok (.iconst 1, 1) := by decide +kernel
theorem dX5_welch_28 : decode cX5_welch 28 = .ok (.isub, 1) := by decide +kernel
theorem dX5_welch_29 : decode cX5_welch 29 = .ok (.imul, 1) := by decide +kernel
theorem dX5_welch_30 : decode cX5_welch 30 = .ok (.idiv, 1) := by decide +kernel
theorem dX5_welch_31 : decode cX5_welch 31 = .ok (.goto 5, 3) := by decide +kernel
theorem dX5_welch_34 : decode cX5_welch 34 = .ok (.bipush (-2), 2) := by decide +kernel
theorem dX5_welch_36 : decode cX5_welch 36 = .ok (.ireturn, 1) := by decide +kernel
theorem dX5_divisor_0 : decode cX5_divisor 0 = .ok (.iload_n 0, 1) := by decide +kernel
theorem dX5_divisor_1 : decode cX5_divisor 1 = .ok (.istore_n 2, 1) := by decide +kernel
theorem dX5_divisor_2 : decode cX5_divisor 2 = .ok (.iload_n 1, 1) := by decide +kernel
theorem dX5_divisor_3 : decode cX5_divisor 3 = .ok (.istore_n 3, 1) := by decide +kernel
theorem dX5_divisor_4 : decode cX5_divisor 4 = .ok (.iload_n 3, 1) := by decide +kernel
theorem dX5_divisor_5 : decode cX5_divisor 5 = .ok (.ifCond .le 16, 3) := by decide +kernel
theorem dX5_divisor_8 : decode cX5_divisor 8 = .ok (.iload_n 2, 1) := by decide +kernel
theorem dX5_divisor_9 : decode cX5_divisor 9 = .ok (.iload_n 3, 1) := by decide +kernel
theorem dX5_divisor_10 : decode cX5_divisor 10 = .ok (.irem, 1) := by decide +kernel
theorem dX5_divisor_11 : decode cX5_divisor 11 = .ok (.istore 4, 2) := by decide +kernel
theorem dX5_divisor_13 : decode cX5_divisor 13 = .ok (.iload_n 3, 1) := by decide +kernel
theorem dX5_divisor_14 : decode cX5_divisor 14 = .ok (.istore_n 2, 1) := by decide +kernel
theorem dX5_divisor_15 : decode cX5_divisor 15 = .ok (.iload 4, 2) := by decide +kernel
theorem dX5_divisor_17 : decode cX5_divisor 17 = .ok (.istore_n 3, 1) := by decide +kernel
theorem dX5_divisor_18 : decode cX5_divisor 18 = .ok (.goto (-14), 3) := by decide +kernel
theorem dX5_divisor_21 : decode cX5_divisor 21 = .ok (.iload_n 2, 1) := by decide +kernel
theorem dX5_divisor_22 : decode cX5_divisor 22 = .ok (.ireturn, 1) := by decide +kernel
theorem dX5_multipliers_0 : decode cX5_multipliers 0 = .ok (.iload_n 1, 1) := by decide +kernel
theorem dX5_multipliers_1 : decode cX5_multipliers 1 = .ok (.iload_n 2, 1) := by decide +kernel
theorem dX5_multipliers_2 : decode cX5_multipliers 2 = .ok (.invokestatic 121, 3) := by decide +kernel
theorem dX5_multipliers_5 : decode cX5_multipliers 5 = .ok (.ifCond .ne 6, 3) := by decide +kernel
theorem dX5_multipliers_8 : decode cX5_multipliers 8 = .ok (.bipush (-2), 2) := by decide +kernel
theorem dX5_multipliers_10 : decode cX5_multipliers 10 = .ok (.ireturn, 1) := by decide +kernel
theorem dX5_multipliers_11 : decode cX5_multipliers 11 = .ok (.iconst 0, 1) := by decide +kernel
theorem dX5_multipliers_12 : decode cX5_multipliers 12 = .ok (.istore_n 3, 1) := by decide +kernel
theorem dX5_multipliers_13 : decode cX5_multipliers 13 = .ok (.iconst 1, 1) := by decide +kernel
theorem dX5_multipliers_14 : decode cX5_multipliers 14 = .ok (.istore 4, 2) := by decide +kernel
theorem dX5_multipliers_16 : decode cX5_multipliers 16 = .ok (.iload 4, 2) := by decide +kernel
theorem dX5_multipliers_18 : decode cX5_multipliers 18 = .ok (.iload_n 1, 1) := by decide +kernel
theorem dX5_multipliers_19 : decode cX5_multipliers 19 = .ok (.if_icmp .ge 106, 3) := by decide +kernel
theorem dX5_multipliers_22 : decode cX5_multipliers 22 = .ok (.iload 4, 2) := by decide +kernel
theorem dX5_multipliers_24 : decode cX5_multipliers 24 = .ok (.iload_n 1, 1) := by decide +kernel
theorem dX5_multipliers_25 : decode cX5_multipliers 25 = .ok (.invokestatic 132, 3) := by decide +kernel
theorem dX5_multipliers_28 : decode cX5_multipliers 28 = .ok (.iconst 1, 1) := by decide +kernel
theorem dX5_multipliers_29 : decode cX5_multipliers 29 = .ok (.if_icmp .ne 90, 3) := by decide +kernel
theorem dX5_multipliers_32 : decode cX5_multipliers 32 = .ok (.iconst 0, 1) := by decide +kernel
theorem dX5_multipliers_33 : decode cX5_multipliers 33 = .ok (.istore 5, 2) := by decide +kernel
theorem dX5_multipliers_35 : decode cX5_multipliers 35 = .ok (.iconst 0, 1) := by decide +kernel
theorem dX5_multipliers_36 : decode cX5_multipliers 36 = .ok (.istore 6, 2) := by decide +kernel
theorem dX5_multipliers_38 : decode cX5_multipliers 38 = .ok (.iload 6, 2) := by decide +kernel
theorem dX5_multipliers_40 : decode cX5_multipliers 40 = .ok (.iload_n 1, 1) := by decide +kernel
theorem dX5_multipliers_41 : decode cX5_multipliers 41 = .ok (.if_icmp .ge 65, 3) := by decide +kernel
theorem dX5_multipliers_44 : decode cX5_multipliers 44 = .ok (.iload 5, 2) := by decide +kernel
theorem dX5_multipliers_46 : decode cX5_multipliers 46 = .ok (.ifCond .ne 60, 3) := by decide +kernel
theorem dX5_multipliers_49 : decode cX5_multipliers 49 = .ok (.iconst 1, 1) := by decide +kernel
theorem dX5_multipliers_50 : decode cX5_multipliers 50 = .ok (.istore 5, 2) := by decide +kernel
theorem dX5_multipliers_52 : decode cX5_multipliers 52 = .ok (.iconst 0, 1) := by decide +kernel
theorem dX5_multipliers_53 : decode cX5_multipliers 53 = .ok (.istore 7, 2) := by decide +kernel
theorem dX5_multipliers_55 : decode cX5_multipliers 55 = .ok (.iload 7, 2) := by decide +kernel
theorem dX5_multipliers_57 : decode cX5_multipliers 57 = .ok (.iload_n 1, 1) := by decide +kernel
theorem dX5_multipliers_58 : decode cX5_multipliers 58 = .ok (.if_icmp .ge 42, 3) := by decide +kernel
theorem dX5_multipliers_61 : decode cX5_multipliers 61 = .ok (.iload 5, 2) := by decide +kernel
theorem dX5_multipliers_63 : decode cX5_multipliers 63 = .ok (.iload_n 2, 1) := by decide +kernel
theorem dX5_multipliers_64 : decode cX5_multipliers 64 = .ok (.iload 7, 2) := by decide +kernel
theorem dX5_multipliers_66 : decode cX5_multipliers 66 = .ok (.ishr, 1) := by decide +kernel
theorem dX5_multipliers_67 : decode cX5_multipliers 67 = .ok (.iconst 1, 1) := by decide +kernel
theorem dX5_multipliers_68 : decode cX5_multipliers 68 = .ok (.iand, 1) := by decide +kernel
theorem dX5_multipliers_69 : decode cX5_multipliers 69 = .ok (.iload_n 2, 1) := by decide +kernel
theorem dX5_multipliers_70 : decode cX5_multipliers 70 = .ok (.iload 4, 2) := by decide +kernel
theorem dX5_multipliers_72 : decode cX5_multipliers 72 = .ok (.iload 7, 2) := by decide +kernel
theorem dX5_multipliers_74 : decode cX5_multipliers 74 = .ok (.imul, 1) := by decide +kernel
theorem dX5_multipliers_75 : decode cX5_multipliers 75 = .ok (.iload 6, 2) := by decide +kernel
theorem dX5_multipliers_77 : decode cX5_multipliers 77 = .ok (.iadd, 1) := by decide +kernel
theorem dX5_multipliers_78 : decode cX5_multipliers 78 = .ok (.iload_n 1, 1) := by decide +kernel
theorem dX5_multipliers_79 : decode cX5_multipliers 79 = .ok (.irem, 1) := by decide +kernel
theorem dX5_multipliers_80 : decode cX5_multipliers 80 = .ok (.ishr, 1) := by decide +kernel
theorem dX5_multipliers_81 : decode cX5_multipliers 81 = .ok (.iconst 1, 1) := by decide +kernel
theorem dX5_multipliers_82 : decode cX5_multipliers 82 = .ok (.iand, 1) := by decide +kernel
theorem dX5_multipliers_83 : decode cX5_multipliers 83 = .ok (.if_icmp .ne 7, 3) := by decide +kernel
theorem dX5_multipliers_86 : decode cX5_multipliers 86 = .ok (.iconst 1, 1) := by decide +kernel
theorem dX5_multipliers_87 : decode cX5_multipliers 87 = .ok (.goto 4, 3) := by decide +kernel
theorem dX5_multipliers_90 : decode cX5_multipliers 90 = .ok (.iconst 0, 1) := by decide +kernel
theorem dX5_multipliers_91 : decode cX5_multipliers 91 = .ok (.iand, 1) := by decide +kernel
theorem dX5_multipliers_92 : decode cX5_multipliers 92 = .ok (.istore 5, 2) := by decide +kernel
theorem dX5_multipliers_94 : decode cX5_multipliers 94 = .ok (.iinc 7 1, 3) := by decide +kernel
theorem dX5_multipliers_97 : decode cX5_multipliers 97 = .ok (.goto (-42), 3) := by decide +kernel
theorem dX5_multipliers_100 : decode cX5_multipliers 100 = .ok (.iinc 6 1, 3) := by decide +kernel
theorem dX5_multipliers_103 : decode cX5_multipliers 103 = .ok (.goto (-65), 3) := by decide +kernel
theorem dX5_multipliers_106 : decode cX5_multipliers 106 = .ok (.iload_n 3, 1) := by decide +kernel
theorem dX5_multipliers_107 : decode cX5_multipliers 107 = .ok (.iload 5, 2) := by decide +kernel
theorem dX5_multipliers_109 : decode cX5_multipliers 109 = .ok (.ifCond .eq 7, 3) := by decide +kernel
theorem dX5_multipliers_112 : decode cX5_multipliers 112 = .ok (.iconst 1, 1) := by decide +kernel
theorem dX5_multipliers_113 : decode cX5_multipliers 113 = .ok (.goto 4, 3) := by decide +kernel
theorem dX5_multipliers_116 : decode cX5_multipliers 116 = .ok (.iconst 0, 1) := by decide +kernel
theorem dX5_multipliers_117 : decode cX5_multipliers 117 = .ok (.iadd, 1) := by decide +kernel
theorem dX5_multipliers_118 : decode cX5_multipliers 118 = .ok (.istore_n 3, 1) := by decide +kernel
theorem dX5_multipliers_119 : decode cX5_multipliers 119 = .ok (.iinc 4 1, 3) := by decide +kernel
theorem dX5_multipliers_122 : decode cX5_multipliers 122 = .ok (.goto (-106), 3) := by decide +kernel
theorem dX5_multipliers_125 : decode cX5_multipliers 125 = .ok (.iload_n 3, 1) := by decide +kernel
theorem dX5_multipliers_126 : decode cX5_multipliers 126 = .ok (.ireturn, 1) := by decide +kernel
theorem dX5_find_0 : decode cX5_find 0 = .ok (.iload_n 1, 1) := by decide +kernel
theorem dX5_find_1 : decode cX5_find 1 = .ok (.iconst 2, 1) := by decide +kernel
theorem dX5_find_2 : decode cX5_find 2 = .ok (.bipush 15, 2) := by decide +kernel
theorem dX5_find_4 : decode cX5_find 4 = .ok (.invokestatic 61, 3) := by decide +kernel
theorem dX5_find_7 : decode cX5_find 7 = .ok (.ifCond .eq 12, 3) := by decide +kernel
theorem dX5_find_10 : decode cX5_find 10 = .ok (.iload_n 2, 1) := by decide +kernel
theorem dX5_find_11 : decode cX5_find 11 = .ok (.iconst 1, 1) := by decide +kernel
theorem dX5_find_12 : decode cX5_find 12 = .ok (.iload_n 1, 1) := by decide +kernel
theorem dX5_find_13 : decode cX5_find 13 = .ok (.invokestatic 61, 3) := by decide +kernel
theorem dX5_find_16 : decode cX5_find 16 = .ok (.ifCond .ne 6, 3) := by decide +kernel
theorem dX5_find_19 : decode cX5_find 19 = .ok (.bipush (-2), 2) := by decide +kernel
theorem dX5_find_21 : decode cX5_find 21 = .ok (.ireturn, 1) := by decide +kernel
theorem dX5_find_22 : decode cX5_find 22 = .ok (.iconst 1, 1) := by decide +kernel
theorem dX5_find_23 : decode cX5_find 23 = .ok (.istore_n 3, 1) := by decide +kernel
theorem dX5_find_24 : decode cX5_find 24 = .ok (.iload_n 3, 1) := by decide +kernel
theorem dX5_find_25 : decode cX5_find 25 = .ok (.iconst 1, 1) := by decide +kernel
theorem dX5_find_26 : decode cX5_find 26 = .ok (.iload_n 1, 1) := by decide +kernel
theorem dX5_find_27 : decode cX5_find 27 = .ok (.ishl, 1) := by decide +kernel
theorem dX5_find_28 : decode cX5_find 28 = .ok (.if_icmp .ge 55, 3) := by decide +kernel
theorem dX5_find_31 : decode cX5_find 31 = .ok (.iconst 0, 1) := by decide +kernel
theorem dX5_find_32 : decode cX5_find 32 = .ok (.istore 4, 2) := by decide +kernel
theorem dX5_find_34 : decode cX5_find 34 = .ok (.iconst 0, 1) := by decide +kernel
theorem dX5_find_35 : decode cX5_find 35 = .ok (.istore 5, 2) := by decide +kernel
theorem dX5_find_37 : decode cX5_find 37 = .ok (.iload 5, 2) := by decide +kernel
theorem dX5_find_39 : decode cX5_find 39 = .ok (.iload_n 1, 1) := by decide +kernel
theorem dX5_find_40 : decode cX5_find 40 = .ok (.if_icmp .ge 20, 3) := by decide +kernel
theorem dX5_find_43 : decode cX5_find 43 = .ok (.iload 4, 2) := by decide +kernel
theorem dX5_find_45 : decode cX5_find 45 = .ok (.iload_n 3, 1) := by decide +kernel
theorem dX5_find_46 : decode cX5_find 46 = .ok (.iload 5, 2) := by decide +kernel
theorem dX5_find_48 : decode cX5_find 48 = .ok (.ishr, 1) := by decide +kernel
theorem dX5_find_49 : decode cX5_find 49 = .ok (.iconst 1, 1) := by decide +kernel
theorem dX5_find_50 : decode cX5_find 50 = .ok (.iand, 1) := by decide +kernel
theorem dX5_find_51 : decode cX5_find 51 = .ok (.iadd, 1) := by decide +kernel
theorem dX5_find_52 : decode cX5_find 52 = .ok (.istore 4, 2) := by decide +kernel
theorem dX5_find_54 : decode cX5_find 54 = .ok (.iinc 5 1, 3) := by decide +kernel
theorem dX5_find_57 : decode cX5_find 57 = .ok (.goto (-20), 3) := by decide +kernel
theorem dX5_find_60 : decode cX5_find 60 = .ok (.iload 4, 2) := by decide +kernel
theorem dX5_find_62 : decode cX5_find 62 = .ok (.iload_n 2, 1) := by decide +kernel
theorem dX5_find_63 : decode cX5_find 63 = .ok (.if_icmp .ne 14, 3) := by decide +kernel
theorem dX5_find_66 : decode cX5_find 66 = .ok (.iload_n 1, 1) := by decide +kernel
theorem dX5_find_67 : decode cX5_find 67 = .ok (.iload_n 3, 1) := by decide +kernel
theorem dX5_find_68 : decode cX5_find 68 = .ok (.invokestatic 128, 3) := by decide +kernel
theorem dX5_find_71 : decode cX5_find 71 = .ok (.iconst (-1), 1) := by decide +kernel
theorem dX5_find_72 : decode cX5_find 72 = .ok (.if_icmp .eq 5, 3) := by decide +kernel
theorem dX5_find_75 : decode cX5_find 75 = .ok (.iload_n 3, 1) := by decide +kernel
theorem dX5_find_76 : decode cX5_find 76 = .ok (.ireturn, 1) := by decide +kernel
theorem dX5_find_77 : decode cX5_find 77 = .ok (.iinc 3 2, 3) := by decide +kernel
theorem dX5_find_80 : decode cX5_find 80 = .ok (.goto (-56), 3) := by decide +kernel
theorem dX5_find_83 : decode cX5_find 83 = .ok (.iconst (-1), 1) := by decide +kernel
theorem dX5_find_84 : decode cX5_find 84 = .ok (.ireturn, 1) := by decide +kernel
theorem dX5_meets_0 : decode cX5_meets 0 = .ok (.aload_n 0, 1) := by decide +kernel
theorem dX5_meets_1 : decode cX5_meets 1 = .ok (.iload_n 1, 1) := by decide +kernel
theorem dX5_meets_2 : decode cX5_meets 2 = .ok (.putfield 135, 3) := by decide +kernel
theorem dX5_meets_5 : decode cX5_meets 5 = .ok (.bipush (-10), 2) := by decide +kernel
theorem dX5_meets_7 : decode cX5_meets 7 = .ok (.iload_n 1, 1) := by decide +kernel
theorem dX5_meets_8 : decode cX5_meets 8 = .ok (.isub, 1) := by decide +kernel
theorem dX5_meets_9 : decode cX5_meets 9 = .ok (.ireturn, 1) := by decide +kernel
theorem dX5_isSheet_0 : decode cX5_isSheet 0 = .ok (.iload_n 0, 1) := by decide +kernel
theorem dX5_isSheet_1 : decode cX5_isSheet 1 = .ok (.iconst 0, 1) := by decide +kernel
theorem dX5_isSheet_2 : decode cX5_isSheet 2 = .ok (.iconst 3, 1) := by decide +kernel
theorem dX5_isSheet_3 : decode cX5_isSheet 3 = .ok (.invokestatic 61, 3) := by decide +kernel
theorem dX5_isSheet_6 : decode cX5_isSheet 6 = .ok (.ireturn, 1) := by decide +kernel
theorem dX5_sheet_0 : decode cX5_sheet 0 = .ok (.iload_n 1, 1) := by decide +kernel
theorem dX5_sheet_1 : decode cX5_sheet 1 = .ok (.invokestatic 138, 3) := by decide +kernel
theorem dX5_sheet_4 : decode cX5_sheet 4 = .ok (.ifCond .eq 18, 3) := by decide +kernel
theorem dX5_sheet_7 : decode cX5_sheet 7 = .ok (.iload_n 2, 1) := by decide +kernel
theorem dX5_sheet_8 : decode cX5_sheet 8 = .ok (.iconst 0, 1) := by decide +kernel
theorem dX5_sheet_9 : decode cX5_sheet 9 = .ok (.iconst 2, 1) := by decide +kernel
theorem dX5_sheet_10 : decode cX5_sheet 10 = .ok (.invokestatic 61, 3) := by decide +kernel
theorem dX5_sheet_13 : decode cX5_sheet 13 = .ok (.ifCond .eq 9, 3) := by decide +kernel
theorem dX5_sheet_16 : decode cX5_sheet 16 = .ok (.iload_n 3, 1) := by decide +kernel
theorem dX5_sheet_17 : decode cX5_sheet 17 = .ok (.bipush 100, 2) := by decide +kernel
theorem dX5_sheet_19 : decode cX5_sheet 19 = .ok (.if_icmp .le 6, 3) := by decide +kernel
theorem dX5_sheet_22 : decode cX5_sheet 22 = .ok (.bipush (-2), 2) := by decide +kernel
theorem dX5_sheet_24 : decode cX5_sheet 24 = .ok (.ireturn, 1) := by decide +kernel
theorem dX5_sheet_25 : decode cX5_sheet 25 = .ok (.iload_n 3, 1) := by decide +kernel
theorem dX5_sheet_26 : decode cX5_sheet 26 = .ok (.ifCond .ge 9, 3) := by decide +kernel
theorem dX5_sheet_29 : decode cX5_sheet 29 = .ok (.aload_n 0, 1) := by decide +kernel
theorem dX5_sheet_30 : decode cX5_sheet 30 = .ok (.iconst 5, 1) := by decide +kernel
theorem dX5_sheet_31 : decode cX5_sheet 31 = .ok (.invokevirtual 141, 3) := by decide +kernel
theorem dX5_sheet_34 : decode cX5_sheet 34 = .ok (.ireturn, 1) := by decide +kernel
theorem dX5_sheet_35 : decode cX5_sheet 35 = .ok (.aload_n 0, 1) := by decide +kernel
theorem dX5_sheet_36 : decode cX5_sheet 36 = .ok (.getfield 42, 3) := by decide +kernel
theorem dX5_sheet_39 : decode cX5_sheet 39 = .ok (.iload_n 1, 1) := by decide +kernel
theorem dX5_sheet_40 : decode cX5_sheet 40 = .ok (.iconst 1, 1) := by decide +kernel
theorem dX5_sheet_41 : decode cX5_sheet 41 = .ok (.bastore, 1) := by decide +kernel
theorem dX5_sheet_42 : decode cX5_sheet 42 = .ok (.aload_n 0, 1) := by decide +kernel
theorem dX5_sheet_43 : decode cX5_sheet 43 = .ok (.getfield 46, 3) := by decide +kernel
theorem dX5_sheet_46 : decode cX5_sheet 46 = .ok (.iload_n 1, 1) := by decide +kernel
theorem dX5_sheet_47 : decode cX5_sheet 47 = .ok (.iload_n 2, 1) := by decide +kernel
theorem dX5_sheet_48 : decode cX5_sheet 48 = .ok (.iastore, 1) := by decide +kernel
theorem dX5_sheet_49 : decode cX5_sheet 49 = .ok (.aload_n 0, 1) := by decide +kernel
theorem dX5_sheet_50 : decode cX5_sheet 50 = .ok (.getfield 49, 3) := by decide +kernel
theorem dX5_sheet_53 : decode cX5_sheet 53 = .ok (.iload_n 1, 1) := by decide +kernel
theorem dX5_sheet_54 : decode cX5_sheet 54 = .ok (.iload_n 3, 1) := by decide +kernel
theorem dX5_sheet_55 : decode cX5_sheet 55 = .ok (.iastore, 1) := by decide +kernel
theorem dX5_sheet_56 : decode cX5_sheet 56 = .ok (.iconst 0, 1) := by decide +kernel
theorem dX5_sheet_57 : decode cX5_sheet 57 = .ok (.istore 4, 2) := by decide +kernel
theorem dX5_sheet_59 : decode cX5_sheet 59 = .ok (.iload 4, 2) := by decide +kernel
theorem dX5_sheet_61 : decode cX5_sheet 61 = .ok (.bipush 100, 2) := by decide +kernel
theorem dX5_sheet_63 : decode cX5_sheet 63 = .ok (.if_icmp .ge 22, 3) := by decide +kernel
theorem dX5_sheet_66 : decode cX5_sheet 66 = .ok (.aload_n 0, 1) := by decide +kernel
theorem dX5_sheet_67 : decode cX5_sheet 67 = .ok (.getfield 52, 3) := by decide +kernel
theorem dX5_sheet_70 : decode cX5_sheet 70 = .ok (.bipush 100, 2) := by decide +kernel
theorem dX5_sheet_72 : decode cX5_sheet 72 = .ok (.iload_n 1, 1) := by decide +kernel
theorem dX5_sheet_73 : decode cX5_sheet 73 = .ok (.imul, 1) := by decide +kernel
theorem dX5_sheet_74 : decode cX5_sheet 74 = .ok (.iload 4, 2) := by decide +kernel
theorem dX5_sheet_76 : decode cX5_sheet 76 = .ok (.iadd, 1) := by decide +kernel
theorem dX5_sheet_77 : decode cX5_sheet 77 = .ok (.iconst 0, 1) := by decide +kernel
theorem dX5_sheet_78 : decode cX5_sheet 78 = .ok (.iastore, 1) := by decide +kernel
theorem dX5_sheet_79 : decode cX5_sheet 79 = .ok (.iinc 4 1, 3) := by decide +kernel
theorem dX5_sheet_82 : decode cX5_sheet 82 = .ok (.goto (-23), 3) := by decide +kernel
theorem dX5_sheet_85 : decode cX5_sheet 85 = .ok (.iload_n 3, 1) := by decide +kernel
theorem dX5_sheet_86 : decode cX5_sheet 86 = .ok (.ireturn, 1) := by decide +kernel
theorem dX5_lose_0 : decode cX5_lose 0 = .ok (.iload_n 1, 1) := by decide +kernel
theorem dX5_lose_1 : decode cX5_lose 1 = .ok (.invokestatic 138, 3) := by decide +kernel
theorem dX5_lose_4 : decode cX5_lose 4 = .ok (.ifCond .ne 6, 3) := by decide +kernel
theorem dX5_lose_7 : decode cX5_lose 7 = .ok (.bipush (-2), 2) := by decide +kernel
theorem dX5_lose_9 : decode cX5_lose 9 = .ok (.ireturn, 1) := by decide +kernel
theorem dX5_lose_10 : decode cX5_lose 10 = .ok (.aload_n 0, 1) := by decide +kernel
theorem dX5_lose_11 : decode cX5_lose 11 = .ok (.getfield 42, 3) := by decide +kernel
theorem dX5_lose_14 : decode cX5_lose 14 = .ok (.iload_n 1, 1) := by decide +kernel
theorem dX5_lose_15 : decode cX5_lose 15 = .ok (.baload, 1) := by decide +kernel
theorem dX5_lose_16 : decode cX5_lose 16 = .ok (.ifCond .ne 9, 3) := by decide +kernel
theorem dX5_lose_19 : decode cX5_lose 19 = .ok (.aload_n 0, 1) := by decide +kernel
theorem dX5_lose_20 : decode cX5_lose 20 = .ok (.iconst 1, 1) := by decide +kernel
theorem dX5_lose_21 : decode cX5_lose 21 = .ok (.invokevirtual 141, 3) := by decide +kernel
theorem dX5_lose_24 : decode cX5_lose 24 = .ok (.ireturn, 1) := by decide +kernel
theorem dX5_lose_25 : decode cX5_lose 25 = .ok (.aload_n 0, 1) := by decide +kernel
theorem dX5_lose_26 : decode cX5_lose 26 = .ok (.getfield 42, 3) := by decide +kernel
theorem dX5_lose_29 : decode cX5_lose 29 = .ok (.iload_n 1, 1) := by decide +kernel
theorem dX5_lose_30 : decode cX5_lose 30 = .ok (.iconst 0, 1) := by decide +kernel
theorem dX5_lose_31 : decode cX5_lose 31 = .ok (.bastore, 1) := by decide +kernel
theorem dX5_lose_32 : decode cX5_lose 32 = .ok (.aload_n 0, 1) := by decide +kernel
theorem dX5_lose_33 : decode cX5_lose 33 = .ok (.getfield 49, 3) := by decide +kernel
theorem dX5_lose_36 : decode cX5_lose 36 = .ok (.iload_n 1, 1) := by decide +kernel
theorem dX5_lose_37 : decode cX5_lose 37 = .ok (.iaload, 1) := by decide +kernel
theorem dX5_lose_38 : decode cX5_lose 38 = .ok (.ireturn, 1) := by decide +kernel
theorem dX5_lacks_0 : decode cX5_lacks 0 = .ok (.aload_n 0, 1) := by decide +kernel
theorem dX5_lacks_1 : decode cX5_lacks 1 = .ok (.getfield 42, 3) := by decide +kernel
theorem dX5_lacks_4 : decode cX5_lacks 4 = .ok (.iload_n 1, 1) := by decide +kernel
theorem dX5_lacks_5 : decode cX5_lacks 5 = .ok (.baload, 1) := by decide +kernel
theorem dX5_lacks_6 : decode cX5_lacks 6 = .ok (.ifCond .ne 7, 3) := by decide +kernel
theorem dX5_lacks_9 : decode cX5_lacks 9 = .ok (.iconst 1, 1) := by decide +kernel
theorem dX5_lacks_10 : decode cX5_lacks 10 = .ok (.goto 38, 3) := by decide +kernel
theorem dX5_lacks_13 : decode cX5_lacks 13 = .ok (.aload_n 0, 1) := by decide +kernel
theorem dX5_lacks_14 : decode cX5_lacks 14 = .ok (.getfield 46, 3) := by decide +kernel
theorem dX5_lacks_17 : decode cX5_lacks 17 = .ok (.iload_n 1, 1) := by decide +kernel
theorem dX5_lacks_18 : decode cX5_lacks 18 = .ok (.iaload, 1) := by decide +kernel
theorem dX5_lacks_19 : decode cX5_lacks 19 = .ok (.iload_n 2, 1) := by decide +kernel
theorem dX5_lacks_20 : decode cX5_lacks 20 = .ok (.if_icmp .eq 7, 3) := by decide +kernel
theorem dX5_lacks_23 : decode cX5_lacks 23 = .ok (.iconst 3, 1) := by decide +kernel
theorem dX5_lacks_24 : decode cX5_lacks 24 = .ok (.goto 24, 3) := by decide +kernel
theorem dX5_lacks_27 : decode cX5_lacks 27 = .ok (.iload_n 3, 1) := by decide +kernel
theorem dX5_lacks_28 : decode cX5_lacks 28 = .ok (.iconst 0, 1) := by decide +kernel
theorem dX5_lacks_29 : decode cX5_lacks 29 = .ok (.aload_n 0, 1) := by decide +kernel
theorem dX5_lacks_30 : decode cX5_lacks 30 = .ok (.getfield 49, 3) := by decide +kernel
theorem dX5_lacks_33 : decode cX5_lacks 33 = .ok (.iload_n 1, 1) := by decide +kernel
theorem dX5_lacks_34 : decode cX5_lacks 34 = .ok (.iaload, 1) := by decide +kernel
theorem dX5_lacks_35 : decode cX5_lacks 35 = .ok (.iconst 1, 1) := by decide +kernel
theorem dX5_lacks_36 : decode cX5_lacks 36 = .ok (.isub, 1) := by decide +kernel
theorem dX5_lacks_37 : decode cX5_lacks 37 = .ok (.invokestatic 61, 3) := by decide +kernel
theorem dX5_lacks_40 : decode cX5_lacks 40 = .ok (.ifCond .eq 7, 3) := by decide +kernel
theorem dX5_lacks_43 : decode cX5_lacks 43 = .ok (.iconst 0, 1) := by decide +kernel
theorem dX5_lacks_44 : decode cX5_lacks 44 = .ok (.goto 4, 3) := by decide +kernel
theorem dX5_lacks_47 : decode cX5_lacks 47 = .ok (.iconst 2, 1) := by decide +kernel
theorem dX5_lacks_48 : decode cX5_lacks 48 = .ok (.ireturn, 1) := by decide +kernel
theorem dX5_lay_0 : decode cX5_lay 0 = .ok (.iload_n 1, 1) := by decide +kernel
theorem dX5_lay_1 : decode cX5_lay 1 = .ok (.invokestatic 138, 3) := by decide +kernel
theorem dX5_lay_4 : decode cX5_lay 4 = .ok (.ifCond .eq 12, 3) := by decide +kernel
theorem dX5_lay_7 : decode cX5_lay 7 = .ok (.iload_n 2, 1) := by decide +kernel
theorem dX5_lay_8 : decode cX5_lay 8 = .ok (.iconst 0, 1) := by decide +kernel
theorem dX5_lay_9 : decode cX5_lay 9 = .ok (.iconst 2, 1) := by decide +kernel
theorem dX5_lay_10 : decode cX5_lay 10 = .ok (.invokestatic 61, 3) := by decide +kernel
theorem dX5_lay_13 : decode cX5_lay 13 = .ok (.ifCond .ne 6, 3) := by decide +kernel
theorem dX5_lay_16 : decode cX5_lay 16 = .ok (.bipush (-2), 2) := by decide +kernel
theorem dX5_lay_18 : decode cX5_lay 18 = .ok (.ireturn, 1) := by decide +kernel
theorem dX5_lay_19 : decode cX5_lay 19 = .ok (.aload_n 0, 1) := by decide +kernel
theorem dX5_lay_20 : decode cX5_lay 20 = .ok (.iload_n 1, 1) := by decide +kernel
theorem dX5_lay_21 : decode cX5_lay 21 = .ok (.iload_n 2, 1) := by decide +kernel
theorem dX5_lay_22 : decode cX5_lay 22 = .ok (.iload_n 3, 1) := by decide +kernel
theorem dX5_lay_23 : decode cX5_lay 23 = .ok (.invokevirtual 144, 3) := by decide +kernel
theorem dX5_lay_26 : decode cX5_lay 26 = .ok (.istore 5, 2) := by decide +kernel
theorem dX5_lay_28 : decode cX5_lay 28 = .ok (.iload 5, 2) := by decide +kernel
theorem dX5_lay_30 : decode cX5_lay 30 = .ok (.ifCond .le 10, 3) := by decide +kernel
theorem dX5_lay_33 : decode cX5_lay 33 = .ok (.aload_n 0, 1) := by decide +kernel
theorem dX5_lay_34 : decode cX5_lay 34 = .ok (.iload 5, 2) := by decide +kernel
theorem dX5_lay_36 : decode cX5_lay 36 = .ok (.invokevirtual 141, 3) := by decide +kernel
theorem dX5_lay_39 : decode cX5_lay 39 = .ok (.ireturn, 1) := by decide +kernel
theorem dX5_lay_40 : decode cX5_lay 40 = .ok (.aload_n 0, 1) := by decide +kernel
theorem dX5_lay_41 : decode cX5_lay 41 = .ok (.getfield 52, 3) := by decide +kernel
theorem dX5_lay_44 : decode cX5_lay 44 = .ok (.bipush 100, 2) := by decide +kernel
theorem dX5_lay_46 : decode cX5_lay 46 = .ok (.iload_n 1, 1) := by decide +kernel
theorem dX5_lay_47 : decode cX5_lay 47 = .ok (.imul, 1) := by decide +kernel
theorem dX5_lay_48 : decode cX5_lay 48 = .ok (.iload_n 3, 1) := by decide +kernel
theorem dX5_lay_49 : decode cX5_lay 49 = .ok (.iadd, 1) := by decide +kernel
theorem dX5_lay_50 : decode cX5_lay 50 = .ok (.iload_n 2, 1) := by decide +kernel
theorem dX5_lay_51 : decode cX5_lay 51 = .ok (.ifCond .ne 9, 3) := by decide +kernel
theorem dX5_lay_54 : decode cX5_lay 54 = .ok (.iload 4, 2) := by decide +kernel
theorem dX5_lay_56 : decode cX5_lay 56 = .ok (.i2b, 1) := by decide +kernel
theorem dX5_lay_57 : decode cX5_lay 57 = .ok (.goto 16, 3) := by decide +kernel
theorem dX5_lay_60 : decode cX5_lay 60 = .ok (.iload_n 2, 1) := by decide +kernel
theorem dX5_lay_61 : decode cX5_lay 61 = .ok (.iconst 1, 1) := by decide +kernel
theorem dX5_lay_62 : decode cX5_lay 62 = .ok (.if_icmp .ne 9, 3) := by decide +kernel
theorem dX5_lay_65 : decode cX5_lay 65 = .ok (.iload 4, 2) := by decide +kernel
theorem dX5_lay_67 : decode cX5_lay 67 = .ok (.i2s, 1) := by decide +kernel
theorem dX5_lay_68 : decode cX5_lay 68 = .ok (.goto 5, 3) := by decide +kernel
theorem dX5_lay_71 : decode cX5_lay 71 = .ok (.iload 4, 2) := by decide +kernel
theorem dX5_lay_73 : decode cX5_lay 73 = .ok (.iastore, 1) := by decide +kernel
theorem dX5_lay_74 : decode cX5_lay 74 = .ok (.iconst 1, 1) := by decide +kernel
theorem dX5_lay_75 : decode cX5_lay 75 = .ok (.ireturn, 1) := by decide +kernel
theorem dX5_get_0 : decode cX5_get 0 = .ok (.iload_n 1, 1) := by decide +kernel
theorem dX5_get_1 : decode cX5_get 1 = .ok (.invokestatic 138, 3) := by decide +kernel
theorem dX5_get_4 : decode cX5_get 4 = .ok (.ifCond .eq 12, 3) := by decide +kernel
theorem dX5_get_7 : decode cX5_get 7 = .ok (.iload_n 2, 1) := by decide +kernel
theorem dX5_get_8 : decode cX5_get 8 = .ok (.iconst 0, 1) := by decide +kernel
theorem dX5_get_9 : decode cX5_get 9 = .ok (.iconst 2, 1) := by decide +kernel
theorem dX5_get_10 : decode cX5_get 10 = .ok (.invokestatic 61, 3) := by decide +kernel
theorem dX5_get_13 : decode cX5_get 13 = .ok (.ifCond .ne 6, 3) := by decide +kernel
theorem dX5_get_16 : decode cX5_get 16 = .ok (.ldc 147, 2) := by decide +kernel
theorem dX5_get_18 : decode cX5_get 18 = .ok (.ireturn, 1) := by decide +kernel
theorem dX5_get_19 : decode cX5_get 19 = .ok (.aload_n 0, 1) := by decide +kernel
theorem dX5_get_20 : decode cX5_get 20 = .ok (.iload_n 1, 1) := by decide +kernel
theorem dX5_get_21 : decode cX5_get 21 = .ok (.iload_n 2, 1) := by decide +kernel
theorem dX5_get_22 : decode cX5_get 22 = .ok (.iload_n 3, 1) := by decide +kernel
theorem dX5_get_23 : decode cX5_get 23 = .ok (.invokevirtual 144, 3) := by decide +kernel
theorem dX5_get_26 : decode cX5_get 26 = .ok (.istore 4, 2) := by decide +kernel
theorem dX5_get_28 : decode cX5_get 28 = .ok (.iload 4, 2) := by decide +kernel
theorem dX5_get_30 : decode cX5_get 30 = .ok (.ifCond .le 12, 3) := by decide +kernel
theorem dX5_get_33 : decode cX5_get 33 = .ok (.aload_n 0, 1) := by decide +kernel
theorem dX5_get_34 : decode cX5_get 34 = .ok (.iload 4, 2) := by decide +kernel
theorem dX5_get_36 : decode cX5_get 36 = .ok (.putfield 135, 3) := by decide +kernel
theorem dX5_get_39 : decode cX5_get 39 = .ok (.ldc 147, 2) := by decide +kernel
theorem dX5_get_41 : decode cX5_get 41 = .ok (.ireturn, 1) := by decide +kernel
theorem dX5_get_42 : decode cX5_get 42 = .ok (.aload_n 0, 1) := by decide +kernel
theorem dX5_get_43 : decode cX5_get 43 = .ok (.getfield 52, 3) := by decide +kernel
theorem dX5_get_46 : decode cX5_get 46 = .ok (.bipush 100, 2) := by decide +kernel
theorem dX5_get_48 : decode cX5_get 48 = .ok (.iload_n 1, 1) := by decide +kernel
theorem dX5_get_49 : decode cX5_get 49 = .ok (.imul, 1) := by decide +kernel
theorem dX5_get_50 : decode cX5_get 50 = .ok (.iload_n 3, 1) := by decide +kernel
theorem dX5_get_51 : decode cX5_get 51 = .ok (.iadd, 1) := by decide +kernel
theorem dX5_get_52 : decode cX5_get 52 = .ok (.iaload, 1) := by decide +kernel
theorem dX5_get_53 : decode cX5_get 53 = .ok (.ireturn, 1) := by decide +kernel
theorem dX5_copy_0 : decode cX5_copy 0 = .ok (.iload_n 1, 1) := by decide +kernel
theorem dX5_copy_1 : decode cX5_copy 1 = .ok (.invokestatic 138, 3) := by decide +kernel
theorem dX5_copy_4 : decode cX5_copy 4 = .ok (.ifCond .eq 10, 3) := by decide +kernel
theorem dX5_copy_7 : decode cX5_copy 7 = .ok (.iload_n 3, 1) := by decide +kernel
theorem dX5_copy_8 : decode cX5_copy 8 = .ok (.invokestatic 138, 3) := by decide +kernel
theorem dX5_copy_11 : decode cX5_copy 11 = .ok (.ifCond .ne 6, 3) := by decide +kernel
theorem dX5_copy_14 : decode cX5_copy 14 = .ok (.bipush (-2), 2) := by decide +kernel
theorem dX5_copy_16 : decode cX5_copy 16 = .ok (.ireturn, 1) := by decide +kernel
theorem dX5_copy_17 : decode cX5_copy 17 = .ok (.aload_n 0, 1) := by decide +kernel
theorem dX5_copy_18 : decode cX5_copy 18 = .ok (.getfield 42, 3) := by decide +kernel
theorem dX5_copy_21 : decode cX5_copy 21 = .ok (.iload_n 1, 1) := by decide +kernel
theorem dX5_copy_22 : decode cX5_copy 22 = .ok (.baload, 1) := by decide +kernel
theorem dX5_copy_23 : decode cX5_copy 23 = .ok (.ifCond .eq 12, 3) := by decide +kernel
theorem dX5_copy_26 : decode cX5_copy 26 = .ok (.aload_n 0, 1) := by decide +kernel
theorem dX5_copy_27 : decode cX5_copy 27 = .ok (.getfield 42, 3) := by decide +kernel
theorem dX5_copy_30 : decode cX5_copy 30 = .ok (.iload_n 3, 1) := by decide +kernel
theorem dX5_copy_31 : decode cX5_copy 31 = .ok (.baload, 1) := by decide +kernel
theorem dX5_copy_32 : decode cX5_copy 32 = .ok (.ifCond .ne 9, 3) := by decide +kernel
theorem dX5_copy_35 : decode cX5_copy 35 = .ok (.aload_n 0, 1) := by decide +kernel
theorem dX5_copy_36 : decode cX5_copy 36 = .ok (.iconst 1, 1) := by decide +kernel
theorem dX5_copy_37 : decode cX5_copy 37 = .ok (.invokevirtual 141, 3) := by decide +kernel
theorem dX5_copy_40 : decode cX5_copy 40 = .ok (.ireturn, 1) := by decide +kernel
theorem dX5_copy_41 : decode cX5_copy 41 = .ok (.aload_n 0, 1) := by decide +kernel
theorem dX5_copy_42 : decode cX5_copy 42 = .ok (.getfield 46, 3) := by decide +kernel
theorem dX5_copy_45 : decode cX5_copy 45 = .ok (.iload_n 1, 1) := by decide +kernel
theorem dX5_copy_46 : decode cX5_copy 46 = .ok (.iaload, 1) := by decide +kernel
theorem dX5_copy_47 : decode cX5_copy 47 = .ok (.aload_n 0, 1) := by decide +kernel
theorem dX5_copy_48 : decode cX5_copy 48 = .ok (.getfield 46, 3) := by decide +kernel
theorem dX5_copy_51 : decode cX5_copy 51 = .ok (.iload_n 3, 1) := by decide +kernel
theorem dX5_copy_52 : decode cX5_copy 52 = .ok (.iaload, 1) := by decide +kernel
theorem dX5_copy_53 : decode cX5_copy 53 = .ok (.if_icmp .eq 9, 3) := by decide +kernel
theorem dX5_copy_56 : decode cX5_copy 56 = .ok (.aload_n 0, 1) := by decide +kernel
theorem dX5_copy_57 : decode cX5_copy 57 = .ok (.iconst 4, 1) := by decide +kernel
theorem dX5_copy_58 : decode cX5_copy 58 = .ok (.invokevirtual 141, 3) := by decide +kernel
theorem dX5_copy_61 : decode cX5_copy 61 = .ok (.ireturn, 1) := by decide +kernel
theorem dX5_copy_62 : decode cX5_copy 62 = .ok (.iload_n 2, 1) := by decide +kernel
theorem dX5_copy_63 : decode cX5_copy 63 = .ok (.ifCond .lt 48, 3) := by decide +kernel
theorem dX5_copy_66 : decode cX5_copy 66 = .ok (.iload 4, 2) := by decide +kernel
theorem dX5_copy_68 : decode cX5_copy 68 = .ok (.ifCond .lt 43, 3) := by decide +kernel
theorem dX5_copy_71 : decode cX5_copy 71 = .ok (.iload 5, 2) := by decide +kernel
theorem dX5_copy_73 : decode cX5_copy 73 = .ok (.ifCond .lt 38, 3) := by decide +kernel
theorem dX5_copy_76 : decode cX5_copy 76 = .ok (.iload_n 2, 1) := by decide +kernel
theorem dX5_copy_77 : decode cX5_copy 77 = .ok (.i2l, 1) := by decide +kernel
theorem dX5_copy_78 : decode cX5_copy 78 = .ok (.iload 5, 2) := by decide +kernel
theorem dX5_copy_80 : decode cX5_copy 80 = .ok (.i2l, 1) := by decide +kernel
theorem dX5_copy_81 : decode cX5_copy 81 = .ok (.ladd, 1) := by decide +kernel
theorem dX5_copy_82 : decode cX5_copy 82 = .ok (.aload_n 0, 1) := by decide +kernel
theorem dX5_copy_83 : decode cX5_copy 83 = .ok (.getfield 49, 3) := by decide +kernel
theorem dX5_copy_86 : decode cX5_copy 86 = .ok (.iload_n 1, 1) := by decide +kernel
theorem dX5_copy_87 : decode cX5_copy 87 = .ok (.iaload, 1) := by decide +kernel
theorem dX5_copy_88 : decode cX5_copy 88 = .ok (.i2l, 1) := by decide +kernel
theorem dX5_copy_89 : decode cX5_copy 89 = .ok (.lcmp, 1) := by decide +kernel
theorem dX5_copy_90 : decode cX5_copy 90 = .ok (.ifCond .gt 21, 3) := by decide +kernel
theorem dX5_copy_93 : decode cX5_copy 93 = .ok (.iload 4, 2) := by decide +kernel
theorem dX5_copy_95 : decode cX5_copy 95 = .ok (.i2l, 1) := by decide +kernel
theorem dX5_copy_96 : decode cX5_copy 96 = .ok (.iload 5, 2) := by decide +kernel
theorem dX5_copy_98 : decode cX5_copy 98 = .ok (.i2l, 1) := by decide +kernel
theorem dX5_copy_99 : decode cX5_copy 99 = .ok (.ladd, 1) := by decide +kernel
theorem dX5_copy_100 : decode cX5_copy 100 = .ok (.aload_n 0, 1) := by decide +kernel
theorem dX5_copy_101 : decode cX5_copy 101 = .ok (.getfield 49, 3) := by decide +kernel
theorem dX5_copy_104 : decode cX5_copy 104 = .ok (.iload_n 3, 1) := by decide +kernel
theorem dX5_copy_105 : decode cX5_copy 105 = .ok (.iaload, 1) := by decide +kernel
theorem dX5_copy_106 : decode cX5_copy 106 = .ok (.i2l, 1) := by decide +kernel
theorem dX5_copy_107 : decode cX5_copy 107 = .ok (.lcmp, 1) := by decide +kernel
theorem dX5_copy_108 : decode cX5_copy 108 = .ok (.ifCond .le 9, 3) := by decide +kernel
theorem dX5_copy_111 : decode cX5_copy 111 = .ok (.aload_n 0, 1) := by decide +kernel
theorem dX5_copy_112 : decode cX5_copy 112 = .ok (.iconst 2, 1) := by decide +kernel
theorem dX5_copy_113 : decode cX5_copy 113 = .ok (.invokevirtual 141, 3) := by decide +kernel
theorem dX5_copy_116 : decode cX5_copy 116 = .ok (.ireturn, 1) := by decide +kernel
theorem dX5_copy_117 : decode cX5_copy 117 = .ok (.iconst 0, 1) := by decide +kernel
theorem dX5_copy_118 : decode cX5_copy 118 = .ok (.istore 6, 2) := by decide +kernel
theorem dX5_copy_120 : decode cX5_copy 120 = .ok (.iload 6, 2) := by decide +kernel
theorem dX5_copy_122 : decode cX5_copy 122 = .ok (.iload 5, 2) := by decide +kernel
theorem dX5_copy_124 : decode cX5_copy 124 = .ok (.if_icmp .ge 30, 3) := by decide +kernel
theorem dX5_copy_127 : decode cX5_copy 127 = .ok (.aload_n 0, 1) := by decide +kernel
theorem dX5_copy_128 : decode cX5_copy 128 = .ok (.getfield 55, 3) := by decide +kernel
theorem dX5_copy_131 : decode cX5_copy 131 = .ok (.iload 6, 2) := by decide +kernel
theorem dX5_copy_133 : decode cX5_copy 133 = .ok (.aload_n 0, 1) := by decide +kernel
theorem dX5_copy_134 : decode cX5_copy 134 = .ok (.getfield 52, 3) := by decide +kernel
theorem dX5_copy_137 : decode cX5_copy 137 = .ok (.bipush 100, 2) := by decide +kernel
theorem dX5_copy_139 : decode cX5_copy 139 = .ok (.iload_n 1, 1) := by decide +kernel
theorem dX5_copy_140 : decode cX5_copy 140 = .ok (.imul, 1) := by decide +kernel
theorem dX5_copy_141 : decode cX5_copy 141 = .ok (.iload_n 2, 1) := by decide +kernel
theorem dX5_copy_142 : decode cX5_copy 142 = .ok (.iadd, 1) := by decide +kernel
theorem dX5_copy_143 : decode cX5_copy 143 = .ok (.iload 6, 2) := by decide +kernel
theorem dX5_copy_145 : decode cX5_copy 145 = .ok (.iadd, 1) := by decide +kernel
theorem dX5_copy_146 : decode cX5_copy 146 = .ok (.iaload, 1) := by decide +kernel
theorem dX5_copy_147 : decode cX5_copy 147 = .ok (.iastore, 1) := by decide +kernel
theorem dX5_copy_148 : decode cX5_copy 148 = .ok (.iinc 6 1, 3) := by decide +kernel
theorem dX5_copy_151 : decode cX5_copy 151 = .ok (.goto (-31), 3) := by decide +kernel
theorem dX5_copy_154 : decode cX5_copy 154 = .ok (.iconst 0, 1) := by decide +kernel
theorem dX5_copy_155 : decode cX5_copy 155 = .ok (.istore 6, 2) := by decide +kernel
theorem dX5_copy_157 : decode cX5_copy 157 = .ok (.iload 6, 2) := by decide +kernel
theorem dX5_copy_159 : decode cX5_copy 159 = .ok (.iload 5, 2) := by decide +kernel
theorem dX5_copy_161 : decode cX5_copy 161 = .ok (.if_icmp .ge 31, 3) := by decide +kernel
theorem dX5_copy_164 : decode cX5_copy 164 = .ok (.aload_n 0, 1) := by decide +kernel
theorem dX5_copy_165 : decode cX5_copy 165 = .ok (.getfield 52, 3) := by decide +kernel
theorem dX5_copy_168 : decode cX5_copy 168 = .ok (.bipush 100, 2) := by decide +kernel
theorem dX5_copy_170 : decode cX5_copy 170 = .ok (.iload_n 3, 1) := by decide +kernel
theorem dX5_copy_171 : decode cX5_copy 171 = .ok (.imul, 1) := by decide +kernel
theorem dX5_copy_172 : decode cX5_copy 172 = .ok (.iload 4, 2) := by decide +kernel
theorem dX5_copy_174 : decode cX5_copy 174 = .ok (.iadd, 1) := by decide +kernel
theorem dX5_copy_175 : decode cX5_copy 175 = .ok (.iload 6, 2) := by decide +kernel
theorem dX5_copy_177 : decode cX5_copy 177 = .ok (.iadd, 1) := by decide +kernel
theorem dX5_copy_178 : decode cX5_copy 178 = .ok (.aload_n 0, 1) := by decide +kernel
theorem dX5_copy_179 : decode cX5_copy 179 = .ok (.getfield 55, 3) := by decide +kernel
theorem dX5_copy_182 : decode cX5_copy 182 = .ok (.iload 6, 2) := by decide +kernel
theorem dX5_copy_184 : decode cX5_copy 184 = .ok (.iaload, 1) := by decide +kernel
theorem dX5_copy_185 : decode cX5_copy 185 = .ok (.iastore, 1) := by decide +kernel
theorem dX5_copy_186 : decode cX5_copy 186 = .ok (.iinc 6 1, 3) := by decide +kernel
theorem dX5_copy_189 : decode cX5_copy 189 = .ok (.goto (-32), 3) := by decide +kernel
theorem dX5_copy_192 : decode cX5_copy 192 = .ok (.iconst 1, 1) := by decide +kernel
theorem dX5_copy_193 : decode cX5_copy 193 = .ok (.ireturn, 1) := by decide +kernel
theorem dX5_load_0 : decode cX5_load 0 = .ok (.iload_n 1, 1) := by decide +kernel
theorem dX5_load_1 : decode cX5_load 1 = .ok (.invokestatic 138, 3) := by decide +kernel
theorem dX5_load_4 : decode cX5_load 4 = .ok (.ifCond .eq 13, 3) := by decide +kernel
theorem dX5_load_7 : decode cX5_load 7 = .ok (.iload_n 2, 1) := by decide +kernel
theorem dX5_load_8 : decode cX5_load 8 = .ok (.iconst 0, 1) := by decide +kernel
theorem dX5_load_9 : decode cX5_load 9 = .ok (.bipush 10, 2) := by decide +kernel
theorem dX5_load_11 : decode cX5_load 11 = .ok (.invokestatic 61, 3) := by decide +kernel
theorem dX5_load_14 : decode cX5_load 14 = .ok (.ifCond .ne 6, 3) := by decide +kernel
theorem dX5_load_17 : decode cX5_load 17 = .ok (.bipush (-2), 2) := by decide +kernel
theorem dX5_load_19 : decode cX5_load 19 = .ok (.ireturn, 1) := by decide +kernel
theorem dX5_load_20 : decode cX5_load 20 = .ok (.aload_n 0, 1) := by decide +kernel
theorem dX5_load_21 : decode cX5_load 21 = .ok (.getfield 42, 3) := by decide +kernel
theorem dX5_load_24 : decode cX5_load 24 = .ok (.iload_n 1, 1) := by decide +kernel
theorem dX5_load_25 : decode cX5_load 25 = .ok (.baload, 1) := by decide +kernel
theorem dX5_load_26 : decode cX5_load 26 = .ok (.ifCond .ne 9, 3) := by decide +kernel
theorem dX5_load_29 : decode cX5_load 29 = .ok (.aload_n 0, 1) := by decide +kernel
theorem dX5_load_30 : decode cX5_load 30 = .ok (.iconst 1, 1) := by decide +kernel
theorem dX5_load_31 : decode cX5_load 31 = .ok (.invokevirtual 141, 3) := by decide +kernel
theorem dX5_load_34 : decode cX5_load 34 = .ok (.ireturn, 1) := by decide +kernel
theorem dX5_load_35 : decode cX5_load 35 = .ok (.iload_n 2, 1) := by decide +kernel
theorem dX5_load_36 : decode cX5_load 36 = .ok (.iconst 1, 1) := by decide +kernel
theorem dX5_load_37 : decode cX5_load 37 = .ok (.if_icmp .le 23, 3) := by decide +kernel
theorem dX5_load_40 : decode cX5_load 40 = .ok (.aload_n 0, 1) := by decide +kernel
theorem dX5_load_41 : decode cX5_load 41 = .ok (.getfield 49, 3) := by decide +kernel
theorem dX5_load_44 : decode cX5_load 44 = .ok (.iload_n 1, 1) := by decide +kernel
theorem dX5_load_45 : decode cX5_load 45 = .ok (.iaload, 1) := by decide +kernel
theorem dX5_load_46 : decode cX5_load 46 = .ok (.iload_n 2, 1) := by decide +kernel
theorem dX5_load_47 : decode cX5_load 47 = .ok (.iload_n 2, 1) := by decide +kernel
theorem dX5_load_48 : decode cX5_load 48 = .ok (.iconst 1, 1) := by decide +kernel
theorem dX5_load_49 : decode cX5_load 49 = .ok (.isub, 1) := by decide +kernel
theorem dX5_load_50 : decode cX5_load 50 = .ok (.imul, 1) := by decide +kernel
theorem dX5_load_51 : decode cX5_load 51 = .ok (.if_icmp .ge 9, 3) := by decide +kernel
theorem dX5_load_54 : decode cX5_load 54 = .ok (.aload_n 0, 1) := by decide +kernel
theorem dX5_load_55 : decode cX5_load 55 = .ok (.iconst 2, 1) := by decide +kernel
theorem dX5_load_56 : decode cX5_load 56 = .ok (.invokevirtual 141, 3) := by decide +kernel
theorem dX5_load_59 : decode cX5_load 59 = .ok (.ireturn, 1) := by decide +kernel
theorem dX5_load_60 : decode cX5_load 60 = .ok (.aload_n 0, 1) := by decide +kernel
theorem dX5_load_61 : decode cX5_load 61 = .ok (.iload_n 2, 1) := by decide +kernel
theorem dX5_load_62 : decode cX5_load 62 = .ok (.invokevirtual 148, 3) := by decide +kernel
theorem dX5_load_65 : decode cX5_load 65 = .ok (.istore_n 3, 1) := by decide +kernel
theorem dX5_load_66 : decode cX5_load 66 = .ok (.iconst 0, 1) := by decide +kernel
theorem dX5_load_67 : decode cX5_load 67 = .ok (.istore 4, 2) := by decide +kernel
theorem dX5_load_69 : decode cX5_load 69 = .ok (.iload 4, 2) := by decide +kernel
theorem dX5_load_71 : decode cX5_load 71 = .ok (.iload_n 2, 1) := by decide +kernel
theorem dX5_load_72 : decode cX5_load 72 = .ok (.if_icmp .ge 60, 3) := by decide +kernel
theorem dX5_load_75 : decode cX5_load 75 = .ok (.iload 4, 2) := by decide +kernel
theorem dX5_load_77 : decode cX5_load 77 = .ok (.iconst 1, 1) := by decide +kernel
theorem dX5_load_78 : decode cX5_load 78 = .ok (.iadd, 1) := by decide +kernel
theorem dX5_load_79 : decode cX5_load 79 = .ok (.istore 5, 2) := by decide +kernel
theorem dX5_load_81 : decode cX5_load 81 = .ok (.iload 5, 2) := by decide +kernel
theorem dX5_load_83 : decode cX5_load 83 = .ok (.iload_n 2, 1) := by decide +kernel
theorem dX5_load_84 : decode cX5_load 84 = .ok (.if_icmp .ge 42, 3) := by decide +kernel
theorem dX5_load_87 : decode cX5_load 87 = .ok (.aload_n 0, 1) := by decide +kernel
theorem dX5_load_88 : decode cX5_load 88 = .ok (.iload 4, 2) := by decide +kernel
theorem dX5_load_90 : decode cX5_load 90 = .ok (.iload 5, 2) := by decide +kernel
theorem dX5_load_92 : decode cX5_load 92 = .ok (.aload_n 0, 1) := by decide +kernel
theorem dX5_load_93 : decode cX5_load 93 = .ok (.getfield 52, 3) := by decide +kernel
theorem dX5_load_96 : decode cX5_load 96 = .ok (.bipush 100, 2) := by decide +kernel
theorem dX5_load_98 : decode cX5_load 98 = .ok (.iload_n 1, 1) := by decide +kernel
theorem dX5_load_99 : decode cX5_load 99 = .ok (.imul, 1) := by decide +kernel
theorem dX5_load_100 : decode cX5_load 100 = .ok (.iload_n 2, 1) := by decide +kernel
theorem dX5_load_101 : decode cX5_load 101 = .ok (.iload 4, 2) := by decide +kernel
theorem dX5_load_103 : decode cX5_load 103 = .ok (.imul, 1) := by decide +kernel
theorem dX5_load_104 : decode cX5_load 104 = .ok (.iadd, 1) := by decide +kernel
theorem dX5_load_105 : decode cX5_load 105 = .ok (.iload 5, 2) := by decide +kernel
theorem dX5_load_107 : decode cX5_load 107 = .ok (.iadd, 1) := by decide +kernel
theorem dX5_load_108 : decode cX5_load 108 = .ok (.iaload, 1) := by decide +kernel
theorem dX5_load_109 : decode cX5_load 109 = .ok (.ifCond .ge 7, 3) := by decide +kernel
theorem dX5_load_112 : decode cX5_load 112 = .ok (.iconst (-1), 1) := by decide +kernel
theorem dX5_load_113 : decode cX5_load 113 = .ok (.goto 4, 3) := by decide +kernel
theorem dX5_load_116 : decode cX5_load 116 = .ok (.iconst 1, 1) := by decide +kernel
theorem dX5_load_117 : decode cX5_load 117 = .ok (.invokevirtual 65, 3) := by decide +kernel
theorem dX5_load_120 : decode cX5_load 120 = .ok (.iinc 5 1, 3) := by decide +kernel
theorem dX5_load_123 : decode cX5_load 123 = .ok (.goto (-42), 3) := by decide +kernel
theorem dX5_load_126 : decode cX5_load 126 = .ok (.iinc 4 1, 3) := by decide +kernel
theorem dX5_load_129 : decode cX5_load 129 = .ok (.goto (-60), 3) := by decide +kernel
theorem dX5_load_132 : decode cX5_load 132 = .ok (.iload_n 2, 1) := by decide +kernel
theorem dX5_load_133 : decode cX5_load 133 = .ok (.ireturn, 1) := by decide +kernel
theorem dX5_write_0 : decode cX5_write 0 = .ok (.iload_n 1, 1) := by decide +kernel
theorem dX5_write_1 : decode cX5_write 1 = .ok (.invokestatic 138, 3) := by decide +kernel
theorem dX5_write_4 : decode cX5_write 4 = .ok (.ifCond .ne 6, 3) := by decide +kernel
theorem dX5_write_7 : decode cX5_write 7 = .ok (.bipush (-2), 2) := by decide +kernel
theorem dX5_write_9 : decode cX5_write 9 = .ok (.ireturn, 1) := by decide +kernel
theorem dX5_write_10 : decode cX5_write 10 = .ok (.aload_n 0, 1) := by decide +kernel
theorem dX5_write_11 : decode cX5_write 11 = .ok (.getfield 42, 3) := by decide +kernel
theorem dX5_write_14 : decode cX5_write 14 = .ok (.iload_n 1, 1) := by decide +kernel
theorem dX5_write_15 : decode cX5_write 15 = .ok (.baload, 1) := by decide +kernel
theorem dX5_write_16 : decode cX5_write 16 = .ok (.ifCond .ne 9, 3) := by decide +kernel
theorem dX5_write_19 : decode cX5_write 19 = .ok (.aload_n 0, 1) := by decide +kernel
theorem dX5_write_20 : decode cX5_write 20 = .ok (.iconst 1, 1) := by decide +kernel
theorem dX5_write_21 : decode cX5_write 21 = .ok (.invokevirtual 141, 3) := by decide +kernel
theorem dX5_write_24 : decode cX5_write 24 = .ok (.ireturn, 1) := by decide +kernel
theorem dX5_write_25 : decode cX5_write 25 = .ok (.aload_n 0, 1) := by decide +kernel
theorem dX5_write_26 : decode cX5_write 26 = .ok (.getfield 49, 3) := by decide +kernel
theorem dX5_write_29 : decode cX5_write 29 = .ok (.iload_n 1, 1) := by decide +kernel
theorem dX5_write_30 : decode cX5_write 30 = .ok (.iaload, 1) := by decide +kernel
theorem dX5_write_31 : decode cX5_write 31 = .ok (.aload_n 0, 1) := by decide +kernel
theorem dX5_write_32 : decode cX5_write 32 = .ok (.getfield 58, 3) := by decide +kernel
theorem dX5_write_35 : decode cX5_write 35 = .ok (.aload_n 0, 1) := by decide +kernel
theorem dX5_write_36 : decode cX5_write 36 = .ok (.getfield 58, 3) := by decide +kernel
theorem dX5_write_39 : decode cX5_write 39 = .ok (.imul, 1) := by decide +kernel
theorem dX5_write_40 : decode cX5_write 40 = .ok (.if_icmp .ge 9, 3) := by decide +kernel
theorem dX5_write_43 : decode cX5_write 43 = .ok (.aload_n 0, 1) := by decide +kernel
theorem dX5_write_44 : decode cX5_write 44 = .ok (.iconst 2, 1) := by decide +kernel
theorem dX5_write_45 : decode cX5_write 45 = .ok (.invokevirtual 141, 3) := by decide +kernel
theorem dX5_write_48 : decode cX5_write 48 = .ok (.ireturn, 1) := by decide +kernel
theorem dX5_write_49 : decode cX5_write 49 = .ok (.iconst 0, 1) := by decide +kernel
theorem dX5_write_50 : decode cX5_write 50 = .ok (.istore_n 2, 1) := by decide +kernel
theorem dX5_write_51 : decode cX5_write 51 = .ok (.iload_n 2, 1) := by decide +kernel
theorem dX5_write_52 : decode cX5_write 52 = .ok (.aload_n 0, 1) := by decide +kernel
theorem dX5_write_53 : decode cX5_write 53 = .ok (.getfield 58, 3) := by decide +kernel
theorem dX5_write_56 : decode cX5_write 56 = .ok (.if_icmp .ge 54, 3) := by decide +kernel
theorem dX5_write_59 : decode cX5_write 59 = .ok (.iconst 0, 1) := by decide +kernel
theorem dX5_write_60 : decode cX5_write 60 = .ok (.istore_n 3, 1) := by decide +kernel
theorem dX5_write_61 : decode cX5_write 61 = .ok (.iload_n 3, 1) := by decide +kernel
theorem dX5_write_62 : decode cX5_write 62 = .ok (.aload_n 0, 1) := by decide +kernel
theorem dX5_write_63 : decode cX5_write 63 = .ok (.getfield 58, 3) := by decide +kernel
theorem dX5_write_66 : decode cX5_write 66 = .ok (.if_icmp .ge 38, 3) := by decide +kernel
theorem dX5_write_69 : decode cX5_write 69 = .ok (.aload_n 0, 1) := by decide +kernel
theorem dX5_write_70 : decode cX5_write 70 = .ok (.getfield 52, 3) := by decide +kernel
theorem dX5_write_73 : decode cX5_write 73 = .ok (.bipush 100, 2) := by decide +kernel
theorem dX5_write_75 : decode cX5_write 75 = .ok (.iload_n 1, 1) := by decide +kernel
theorem dX5_write_76 : decode cX5_write 76 = .ok (.imul, 1) := by decide +kernel
theorem dX5_write_77 : decode cX5_write 77 = .ok (.aload_n 0, 1) := by decide +kernel
theorem dX5_write_78 : decode cX5_write 78 = .ok (.getfield 58, 3) := by decide +kernel
theorem dX5_write_81 : decode cX5_write 81 = .ok (.iload_n 2, 1) := by decide +kernel
theorem dX5_write_82 : decode cX5_write 82 = .ok (.imul, 1) := by decide +kernel
theorem dX5_write_83 : decode cX5_write 83 = .ok (.iadd, 1) := by decide +kernel
theorem dX5_write_84 : decode cX5_write 84 = .ok (.iload_n 3, 1) := by decide +kernel
theorem dX5_write_85 : decode cX5_write 85 = .ok (.iadd, 1) := by decide +kernel
theorem dX5_write_86 : decode cX5_write 86 = .ok (.aload_n 0, 1) := by decide +kernel
theorem dX5_write_87 : decode cX5_write 87 = .ok (.getfield 7, 3) := by decide +kernel
theorem dX5_write_90 : decode cX5_write 90 = .ok (.bipush 10, 2) := by decide +kernel
theorem dX5_write_92 : decode cX5_write 92 = .ok (.iload_n 2, 1) := by decide +kernel
theorem dX5_write_93 : decode cX5_write 93 = .ok (.imul, 1) := by decide +kernel
theorem dX5_write_94 : decode cX5_write 94 = .ok (.iload_n 3, 1) := by decide +kernel
theorem dX5_write_95 : decode cX5_write 95 = .ok (.iadd, 1) := by decide +kernel
theorem dX5_write_96 : decode cX5_write 96 = .ok (.iaload, 1) := by decide +kernel
theorem dX5_write_97 : decode cX5_write 97 = .ok (.iastore, 1) := by decide +kernel
theorem dX5_write_98 : decode cX5_write 98 = .ok (.iinc 3 1, 3) := by decide +kernel
theorem dX5_write_101 : decode cX5_write 101 = .ok (.goto (-40), 3) := by decide +kernel
theorem dX5_write_104 : decode cX5_write 104 = .ok (.iinc 2 1, 3) := by decide +kernel
theorem dX5_write_107 : decode cX5_write 107 = .ok (.goto (-56), 3) := by decide +kernel
theorem dX5_write_110 : decode cX5_write 110 = .ok (.aload_n 0, 1) := by decide +kernel
theorem dX5_write_111 : decode cX5_write 111 = .ok (.getfield 58, 3) := by decide +kernel
theorem dX5_write_114 : decode cX5_write 114 = .ok (.aload_n 0, 1) := by decide +kernel
theorem dX5_write_115 : decode cX5_write 115 = .ok (.getfield 58, 3) := by decide +kernel
theorem dX5_write_118 : decode cX5_write 118 = .ok (.imul, 1) := by decide +kernel
theorem dX5_write_119 : decode cX5_write 119 = .ok (.ireturn, 1) := by decide +kernel
theorem dX5_count_0 : decode cX5_count 0 = .ok (.iconst 0, 1) := by decide +kernel
theorem dX5_count_1 : decode cX5_count 1 = .ok (.istore_n 2, 1) := by decide +kernel
theorem dX5_count_2 : decode cX5_count 2 = .ok (.iload_n 1, 1) := by decide +kernel
theorem dX5_count_3 : decode cX5_count 3 = .ok (.tableswitch 100 0 3 #[29, 34, 39, 95], 29) := by decide +kernel
theorem dX5_count_32 : decode cX5_count 32 = .ok (.aload_n 0, 1) := by decide +kernel
theorem dX5_count_33 : decode cX5_count 33 = .ok (.getfield 58, 3) := by decide +kernel
theorem dX5_count_36 : decode cX5_count 36 = .ok (.ireturn, 1) := by decide +kernel
theorem dX5_count_37 : decode cX5_count 37 = .ok (.aload_n 0, 1) := by decide +kernel
theorem dX5_count_38 : decode cX5_count 38 = .ok (.getfield 13, 3) := by decide +kernel
theorem dX5_count_41 : decode cX5_count 41 = .ok (.ireturn, 1) := by decide +kernel
theorem dX5_count_42 : decode cX5_count 42 = .ok (.iconst 0, 1) := by decide +kernel
theorem dX5_count_43 : decode cX5_count 43 = .ok (.istore_n 3, 1) := by decide +kernel
theorem dX5_count_44 : decode cX5_count 44 = .ok (.iload_n 3, 1) := by decide +kernel
theorem dX5_count_45 : decode cX5_count 45 = .ok (.aload_n 0, 1) := by decide +kernel
theorem dX5_count_46 : decode cX5_count 46 = .ok (.getfield 58, 3) := by decide +kernel
theorem dX5_count_49 : decode cX5_count 49 = .ok (.if_icmp .ge 47, 3) := by decide +kernel
theorem dX5_count_52 : decode cX5_count 52 = .ok (.iconst 0, 1) := by decide +kernel
theorem dX5_count_53 : decode cX5_count 53 = .ok (.istore 4, 2) := by decide +kernel
theorem dX5_count_55 : decode cX5_count 55 = .ok (.iload 4, 2) := by decide +kernel
theorem dX5_count_57 : decode cX5_count 57 = .ok (.iload_n 3, 1) := by decide +kernel
theorem dX5_count_58 : decode cX5_count 58 = .ok (.if_icmp .ge 32, 3) := by decide +kernel
theorem dX5_count_61 : decode cX5_count 61 = .ok (.iload_n 2, 1) := by decide +kernel
theorem dX5_count_62 : decode cX5_count 62 = .ok (.aload_n 0, 1) := by decide +kernel
theorem dX5_count_63 : decode cX5_count 63 = .ok (.getfield 7, 3) := by decide +kernel
theorem dX5_count_66 : decode cX5_count 66 = .ok (.bipush 10, 2) := by decide +kernel
theorem dX5_count_68 : decode cX5_count 68 = .ok (.iload_n 3, 1) := by decide +kernel
theorem dX5_count_69 : decode cX5_count 69 = .ok (.imul, 1) := by decide +kernel
theorem dX5_count_70 : decode cX5_count 70 = .ok (.iload 4, 2) := by decide +kernel
theorem dX5_count_72 : decode cX5_count 72 = .ok (.iadd, 1) := by decide +kernel
theorem dX5_count_73 : decode cX5_count 73 = .ok (.iaload, 1) := by decide +kernel
theorem dX5_count_74 : decode cX5_count 74 = .ok (.ifCond .ge 7, 3) := by decide +kernel
theorem dX5_count_77 : decode cX5_count 77 = .ok (.iconst 1, 1) := by decide +kernel
theorem dX5_count_78 : decode cX5_count 78 = .ok (.goto 4, 3) := by decide +kernel
theorem dX5_count_81 : decode cX5_count 81 = .ok (.iconst 0, 1) := by decide +kernel
theorem dX5_count_82 : decode cX5_count 82 = .ok (.iadd, 1) := by decide +kernel
theorem dX5_count_83 : decode cX5_count 83 = .ok (.istore_n 2, 1) := by decide +kernel
theorem dX5_count_84 : decode cX5_count 84 = .ok (.iinc 4 1, 3) := by decide +kernel
theorem dX5_count_87 : decode cX5_count 87 = .ok (.goto (-32), 3) := by decide +kernel
theorem dX5_count_90 : decode cX5_count 90 = .ok (.iinc 3 1, 3) := by decide +kernel
theorem dX5_count_93 : decode cX5_count 93 = .ok (.goto (-49), 3) := by decide +kernel
theorem dX5_count_96 : decode cX5_count 96 = .ok (.iload_n 2, 1) := by decide +kernel
theorem dX5_count_97 : decode cX5_count 97 = .ok (.ireturn, 1) := by decide +kernel
theorem dX5_count_98 : decode cX5_count 98 = .ok (.aload_n 0, 1) := by decide +kernel
theorem dX5_count_99 : decode cX5_count 99 = .ok (.getfield 135, 3) := by decide +kernel
theorem dX5_count_102 : decode cX5_count 102 = .ok (.ireturn, 1) := by decide +kernel
theorem dX5_count_103 : decode cX5_count 103 = .ok (.bipush (-2), 2) := by decide +kernel
theorem dX5_count_105 : decode cX5_count 105 = .ok (.ireturn, 1) := by decide +kernel
theorem dX5_digest_0 : decode cX5_digest 0 = .ok (.ldc2_w 151, 3) := by decide +kernel
theorem dX5_digest_3 : decode cX5_digest 3 = .ok (.lstore_n 1, 1) := by decide +kernel
theorem dX5_digest_4 : decode cX5_digest 4 = .ok (.iconst 0, 1) := by decide +kernel
theorem dX5_digest_5 : decode cX5_digest 5 = .ok (.istore_n 3, 1) := by decide +kernel
theorem dX5_digest_6 : decode cX5_digest 6 = .ok (.iload_n 3, 1) := by decide +kernel
theorem dX5_digest_7 : decode cX5_digest 7 = .ok (.iconst 3, 1) := by decide +kernel
theorem dX5_digest_8 : decode cX5_digest 8 = .ok (.if_icmp .ge 22, 3) := by decide +kernel
theorem dX5_digest_11 : decode cX5_digest 11 = .ok (.ldc2_w 153, 3) := by decide +kernel
theorem dX5_digest_14 : decode cX5_digest 14 = .ok (.lload_n 1, 1) := by decide +kernel
theorem dX5_digest_15 : decode cX5_digest 15 = .ok (.lmul, 1) := by decide +kernel
theorem dX5_digest_16 : decode cX5_digest 16 = .ok (.aload_n 0, 1) := by decide +kernel
theorem dX5_digest_17 : decode cX5_digest 17 = .ok (.iload_n 3, 1) := by decide +kernel
theorem dX5_digest_18 : decode cX5_digest 18 = .ok (.invokevirtual 155, 3) := by decide +kernel
theorem dX5_digest_21 : decode cX5_digest 21 = .ok (.i2l, 1) := by decide +kernel
theorem dX5_digest_22 : decode cX5_digest 22 = .ok (.ladd, 1) := by decide +kernel
theorem dX5_digest_23 : decode cX5_digest 23 = .ok (.lstore_n 1, 1) := by decide +kernel
theorem dX5_digest_24 : decode cX5_digest 24 = .ok (.iinc 3 1, 3) := by decide +kernel
theorem dX5_digest_27 : decode cX5_digest 27 = .ok (.goto (-21), 3) := by decide +kernel
theorem dX5_digest_30 : decode cX5_digest 30 = .ok (.iconst 0, 1) := by decide +kernel
theorem dX5_digest_31 : decode cX5_digest 31 = .ok (.istore_n 3, 1) := by decide +kernel
theorem dX5_digest_32 : decode cX5_digest 32 = .ok (.iload_n 3, 1) := by decide +kernel
theorem dX5_digest_33 : decode cX5_digest 33 = .ok (.aload_n 0, 1) := by decide +kernel
theorem dX5_digest_34 : decode cX5_digest 34 = .ok (.getfield 58, 3) := by decide +kernel
theorem dX5_digest_37 : decode cX5_digest 37 = .ok (.if_icmp .ge 47, 3) := by decide +kernel
theorem dX5_digest_40 : decode cX5_digest 40 = .ok (.iconst 0, 1) := by decide +kernel
theorem dX5_digest_41 : decode cX5_digest 41 = .ok (.istore 4, 2) := by decide +kernel
theorem dX5_digest_43 : decode cX5_digest 43 = .ok (.iload 4, 2) := by decide +kernel
theorem dX5_digest_45 : decode cX5_digest 45 = .ok (.aload_n 0, 1) := by decide +kernel
theorem dX5_digest_46 : decode cX5_digest 46 = .ok (.getfield 58, 3) := by decide +kernel
theorem dX5_digest_49 : decode cX5_digest 49 = .ok (.if_icmp .ge 29, 3) := by decide +kernel
theorem dX5_digest_52 : decode cX5_digest 52 = .ok (.ldc2_w 153, 3) := by decide +kernel
theorem dX5_digest_55 : decode cX5_digest 55 = .ok (.lload_n 1, 1) := by decide +kernel
theorem dX5_digest_56 : decode cX5_digest 56 = .ok (.lmul, 1) := by decide +kernel
theorem dX5_digest_57 : decode cX5_digest 57 = .ok (.aload_n 0, 1) := by decide +kernel
theorem dX5_digest_58 : decode cX5_digest 58 = .ok (.getfield 7, 3) := by decide +kernel
theorem dX5_digest_61 : decode cX5_digest 61 = .ok (.bipush 10, 2) := by decide +kernel
theorem dX5_digest_63 : decode cX5_digest 63 = .ok (.iload_n 3, 1) := by decide +kernel
theorem dX5_digest_64 : decode cX5_digest 64 = .ok (.imul, 1) := by decide +kernel
theorem dX5_digest_65 : decode cX5_digest 65 = .ok (.iload 4, 2) := by decide +kernel
theorem dX5_digest_67 : decode cX5_digest 67 = .ok (.iadd, 1) := by decide +kernel
theorem dX5_digest_68 : decode cX5_digest 68 = .ok (.iaload, 1) := by decide +kernel
theorem dX5_digest_69 : decode cX5_digest 69 = .ok (.i2l, 1) := by decide +kernel
theorem dX5_digest_70 : decode cX5_digest 70 = .ok (.ladd, 1) := by decide +kernel
theorem dX5_digest_71 : decode cX5_digest 71 = .ok (.lstore_n 1, 1) := by decide +kernel
theorem dX5_digest_72 : decode cX5_digest 72 = .ok (.iinc 4 1, 3) := by decide +kernel
theorem dX5_digest_75 : decode cX5_digest 75 = .ok (.goto (-32), 3) := by decide +kernel
theorem dX5_digest_78 : decode cX5_digest 78 = .ok (.iinc 3 1, 3) := by decide +kernel
theorem dX5_digest_81 : decode cX5_digest 81 = .ok (.goto (-49), 3) := by decide +kernel
theorem dX5_digest_84 : decode cX5_digest 84 = .ok (.ldc2_w 153, 3) := by decide +kernel
theorem dX5_digest_87 : decode cX5_digest 87 = .ok (.lload_n 1, 1) := by decide +kernel
theorem dX5_digest_88 : decode cX5_digest 88 = .ok (.lmul, 1) := by decide +kernel
theorem dX5_digest_89 : decode cX5_digest 89 = .ok (.aload_n 0, 1) := by decide +kernel
theorem dX5_digest_90 : decode cX5_digest 90 = .ok (.invokevirtual 158, 3) := by decide +kernel
theorem dX5_digest_93 : decode cX5_digest 93 = .ok (.i2l, 1) := by decide +kernel
theorem dX5_digest_94 : decode cX5_digest 94 = .ok (.ladd, 1) := by decide +kernel
theorem dX5_digest_95 : decode cX5_digest 95 = .ok (.lreturn, 1) := by decide +kernel
