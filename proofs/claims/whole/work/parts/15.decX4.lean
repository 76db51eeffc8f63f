theorem dX4_lines_0 : decode cX4_lines 0 = .ok (.iload_n 1, 1) := by decide +kernel
theorem dX4_lines_1 : decode cX4_lines 1 = .ok (.invokestatic 47, 3) := by decide +kernel
theorem dX4_lines_4 : decode cX4_lines 4 = .ok (.ifCond .ne 6, 3) := by decide +kernel
theorem dX4_lines_7 : decode cX4_lines 7 = .ok (.bipush (-2), 2) := by decide +kernel
theorem dX4_lines_9 : decode cX4_lines 9 = .ok (.ireturn, 1) := by decide +kernel
theorem dX4_lines_10 : decode cX4_lines 10 = .ok (.aload_n 0, 1) := by decide +kernel
theorem dX4_lines_11 : decode cX4_lines 11 = .ok (.getfield 10, 3) := by decide +kernel
theorem dX4_lines_14 : decode cX4_lines 14 = .ok (.getfield 51, 3) := by decide +kernel
theorem dX4_lines_17 : decode cX4_lines 17 = .ok (.istore_n 2, 1) := by decide +kernel
theorem dX4_lines_18 : decode cX4_lines 18 = .ok (.aload_n 0, 1) := by decide +kernel
theorem dX4_lines_19 : decode cX4_lines 19 = .ok (.getfield 10, 3) := by decide +kernel
theorem dX4_lines_22 : decode cX4_lines 22 = .ok (.iload_n 1, 1) := by decide +kernel
theorem dX4_lines_23 : decode cX4_lines 23 = .ok (.invokevirtual 54, 3) := by decide +kernel
theorem dX4_lines_26 : decode cX4_lines 26 = .ok (.iload_n 2, 1) := by decide +kernel
theorem dX4_lines_27 : decode cX4_lines 27 = .ok (.ireturn, 1) := by decide +kernel
theorem dX4_sign_0 : decode cX4_sign 0 = .ok (.aload_n 0, 1) := by decide +kernel
theorem dX4_sign_1 : decode cX4_sign 1 = .ok (.iload_n 1, 1) := by decide +kernel
theorem dX4_sign_2 : decode cX4_sign 2 = .ok (.iload_n 2, 1) := by decide +kernel
theorem dX4_sign_3 : decode cX4_sign 3 = .ok (.invokevirtual 58, 3) := by decide +kernel
theorem dX4_sign_6 : decode cX4_sign 6 = .ok (.ifCond .eq 13, 3) := by decide +kernel
theorem dX4_sign_9 : decode cX4_sign 9 = .ok (.iload_n 3, 1) := by decide +kernel
theorem dX4_sign_10 : decode cX4_sign 10 = .ok (.iconst 1, 1) := by decide +kernel
theorem dX4_sign_11 : decode cX4_sign 11 = .ok (.if_icmp .eq 11, 3) := by decide +kernel
theorem dX4_sign_14 : decode cX4_sign 14 = .ok (.iload_n 3, 1) := by decide +kernel
theorem dX4_sign_15 : decode cX4_sign 15 = .ok (.iconst (-1), 1) := by decide +kernel
theorem dX4_sign_16 : decode cX4_sign 16 = .ok (.if_icmp .eq 6, 3) := by decide +kernel
theorem dX4_sign_19 : decode cX4_sign 19 = .ok (.bipush (-2), 2) := by decide +kernel
theorem dX4_sign_21 : decode cX4_sign 21 = .ok (.ireturn, 1) := by decide +kernel
theorem dX4_sign_22 : decode cX4_sign 22 = .ok (.aload_n 0, 1) := by decide +kernel
theorem dX4_sign_23 : decode cX4_sign 23 = .ok (.getfield 10, 3) := by decide +kernel
theorem dX4_sign_26 : decode cX4_sign 26 = .ok (.iload_n 1, 1) := by decide +kernel
theorem dX4_sign_27 : decode cX4_sign 27 = .ok (.iload_n 2, 1) := by decide +kernel
theorem dX4_sign_28 : decode cX4_sign 28 = .ok (.invokevirtual 62, 3) := by decide +kernel
theorem dX4_sign_31 : decode cX4_sign 31 = .ok (.istore 4, 2) := by decide +kernel
theorem dX4_sign_33 : decode cX4_sign 33 = .ok (.aload_n 0, 1) := by decide +kernel
theorem dX4_sign_34 : decode cX4_sign 34 = .ok (.getfield 10, 3) := by decide +kernel
theorem dX4_sign_37 : decode cX4_sign 37 = .ok (.iload_n 1, 1) := by decide +kernel
theorem dX4_sign_38 : decode cX4_sign 38 = .ok (.iload_n 2, 1) := by decide +kernel
theorem dX4_sign_39 : decode cX4_sign 39 = .ok (.iload_n 3, 1) := by decide +kernel
theorem dX4_sign_40 : decode cX4_sign 40 = .ok (.iconst (-1), 1) := by decide +kernel
theorem dX4_sign_41 : decode cX4_sign 41 = .ok (.if_icmp .ne 7, 3) := by decide +kernel
theorem dX4_sign_44 : decode cX4_sign 44 = .ok (.iconst 1, 1) := by decide +kernel
theorem dX4_sign_45 : decode cX4_sign 45 = .ok (.goto 4, 3) := by decide +kernel
theorem dX4_sign_48 : decode cX4_sign 48 = .ok (.iconst 0, 1) := by decide +kernel
theorem dX4_sign_49 : decode cX4_sign 49 = .ok (.invokevirtual 66, 3) := by decide +kernel
theorem dX4_sign_52 : decode cX4_sign 52 = .ok (.iload 4, 2) := by decide +kernel
theorem dX4_sign_54 : decode cX4_sign 54 = .ok (.ireturn, 1) := by decide +kernel
theorem dX4_at_0 : decode cX4_at 0 = .ok (.aload_n 0, 1) := by decide +kernel
theorem dX4_at_1 : decode cX4_at 1 = .ok (.getfield 10, 3) := by decide +kernel
theorem dX4_at_4 : decode cX4_at 4 = .ok (.iload_n 1, 1) := by decide +kernel
theorem dX4_at_5 : decode cX4_at 5 = .ok (.invokevirtual 70, 3) := by decide +kernel
theorem dX4_at_8 : decode cX4_at 8 = .ok (.ifCond .eq 14, 3) := by decide +kernel
theorem dX4_at_11 : decode cX4_at 11 = .ok (.aload_n 0, 1) := by decide +kernel
theorem dX4_at_12 : decode cX4_at 12 = .ok (.getfield 10, 3) := by decide +kernel
theorem dX4_at_15 : decode cX4_at 15 = .ok (.iload_n 2, 1) := by decide +kernel
theorem dX4_at_16 : decode cX4_at 16 = .ok (.invokevirtual 70, 3) := by decide +kernel
theorem dX4_at_19 : decode cX4_at 19 = .ok (.ifCond .ne 6, 3) := by decide +kernel
theorem dX4_at_22 : decode cX4_at 22 = .ok (.bipush (-2), 2) := by decide +kernel
theorem dX4_at_24 : decode cX4_at 24 = .ok (.ireturn, 1) := by decide +kernel
theorem dX4_at_25 : decode cX4_at 25 = .ok (.aload_n 0, 1) := by decide +kernel
theorem dX4_at_26 : decode cX4_at 26 = .ok (.getfield 10, 3) := by decide +kernel
theorem dX4_at_29 : decode cX4_at 29 = .ok (.iload_n 1, 1) := by decide +kernel
theorem dX4_at_30 : decode cX4_at 30 = .ok (.iload_n 2, 1) := by decide +kernel
theorem dX4_at_31 : decode cX4_at 31 = .ok (.invokevirtual 62, 3) := by decide +kernel
theorem dX4_at_34 : decode cX4_at 34 = .ok (.ireturn, 1) := by decide +kernel
theorem dX4_turn_0 : decode cX4_turn 0 = .ok (.aload_n 0, 1) := by decide +kernel
theorem dX4_turn_1 : decode cX4_turn 1 = .ok (.getfield 10, 3) := by decide +kernel
theorem dX4_turn_4 : decode cX4_turn 4 = .ok (.iload_n 1, 1) := by decide +kernel
theorem dX4_turn_5 : decode cX4_turn 5 = .ok (.invokevirtual 70, 3) := by decide +kernel
theorem dX4_turn_8 : decode cX4_turn 8 = .ok (.ifCond .ne 6, 3) := by decide +kernel
theorem dX4_turn_11 : decode cX4_turn 11 = .ok (.bipush (-2), 2) := by decide +kernel
theorem dX4_turn_13 : decode cX4_turn 13 = .ok (.ireturn, 1) := by decide +kernel
theorem dX4_turn_14 : decode cX4_turn 14 = .ok (.aload_n 0, 1) := by decide +kernel
theorem dX4_turn_15 : decode cX4_turn 15 = .ok (.getfield 10, 3) := by decide +kernel
theorem dX4_turn_18 : decode cX4_turn 18 = .ok (.iload_n 1, 1) := by decide +kernel
theorem dX4_turn_19 : decode cX4_turn 19 = .ok (.invokevirtual 73, 3) := by decide +kernel
theorem dX4_turn_22 : decode cX4_turn 22 = .ok (.aload_n 0, 1) := by decide +kernel
theorem dX4_turn_23 : decode cX4_turn 23 = .ok (.getfield 10, 3) := by decide +kernel
theorem dX4_turn_26 : decode cX4_turn 26 = .ok (.getfield 76, 3) := by decide +kernel
theorem dX4_turn_29 : decode cX4_turn 29 = .ok (.iload_n 1, 1) := by decide +kernel
theorem dX4_turn_30 : decode cX4_turn 30 = .ok (.iaload, 1) := by decide +kernel
theorem dX4_turn_31 : decode cX4_turn 31 = .ok (.invokestatic 80, 3) := by decide +kernel
theorem dX4_turn_34 : decode cX4_turn 34 = .ok (.ireturn, 1) := by decide +kernel
theorem dX4_change_0 : decode cX4_change 0 = .ok (.aload_n 0, 1) := by decide +kernel
theorem dX4_change_1 : decode cX4_change 1 = .ok (.getfield 10, 3) := by decide +kernel
theorem dX4_change_4 : decode cX4_change 4 = .ok (.iload_n 1, 1) := by decide +kernel
theorem dX4_change_5 : decode cX4_change 5 = .ok (.invokevirtual 70, 3) := by decide +kernel
theorem dX4_change_8 : decode cX4_change 8 = .ok (.ifCond .eq 14, 3) := by decide +kernel
theorem dX4_change_11 : decode cX4_change 11 = .ok (.aload_n 0, 1) := by decide +kernel
theorem dX4_change_12 : decode cX4_change 12 = .ok (.getfield 10, 3) := by decide +kernel
theorem dX4_change_15 : decode cX4_change 15 = .ok (.iload_n 2, 1) := by decide +kernel
theorem dX4_change_16 : decode cX4_change 16 = .ok (.invokevirtual 70, 3) := by decide +kernel
theorem dX4_change_19 : decode cX4_change 19 = .ok (.ifCond .ne 6, 3) := by decide +kernel
theorem dX4_change_22 : decode cX4_change 22 = .ok (.bipush (-2), 2) := by decide +kernel
theorem dX4_change_24 : decode cX4_change 24 = .ok (.ireturn, 1) := by decide +kernel
theorem dX4_change_25 : decode cX4_change 25 = .ok (.aload_n 0, 1) := by decide +kernel
theorem dX4_change_26 : decode cX4_change 26 = .ok (.getfield 10, 3) := by decide +kernel
theorem dX4_change_29 : decode cX4_change 29 = .ok (.iload_n 1, 1) := by decide +kernel
theorem dX4_change_30 : decode cX4_change 30 = .ok (.iload_n 2, 1) := by decide +kernel
theorem dX4_change_31 : decode cX4_change 31 = .ok (.invokevirtual 86, 3) := by decide +kernel
theorem dX4_change_34 : decode cX4_change 34 = .ok (.iconst 1, 1) := by decide +kernel
theorem dX4_change_35 : decode cX4_change 35 = .ok (.ireturn, 1) := by decide +kernel
theorem dX4_odd_0 : decode cX4_odd 0 = .ok (.aload_n 0, 1) := by decide +kernel
theorem dX4_odd_1 : decode cX4_odd 1 = .ok (.getfield 10, 3) := by decide +kernel
theorem dX4_odd_4 : decode cX4_odd 4 = .ok (.invokevirtual 90, 3) := by decide +kernel
theorem dX4_odd_7 : decode cX4_odd 7 = .ok (.ireturn, 1) := by decide +kernel
theorem dX4_together_0 : decode cX4_together 0 = .ok (.aload_n 0, 1) := by decide +kernel
theorem dX4_together_1 : decode cX4_together 1 = .ok (.iload_n 1, 1) := by decide +kernel
theorem dX4_together_2 : decode cX4_together 2 = .ok (.iload_n 2, 1) := by decide +kernel
theorem dX4_together_3 : decode cX4_together 3 = .ok (.invokevirtual 58, 3) := by decide +kernel
theorem dX4_together_6 : decode cX4_together 6 = .ok (.ifCond .ne 6, 3) := by decide +kernel
theorem dX4_together_9 : decode cX4_together 9 = .ok (.bipush (-2), 2) := by decide +kernel
theorem dX4_together_11 : decode cX4_together 11 = .ok (.ireturn, 1) := by decide +kernel
theorem dX4_together_12 : decode cX4_together 12 = .ok (.aload_n 0, 1) := by decide +kernel
theorem dX4_together_13 : decode cX4_together 13 = .ok (.getfield 10, 3) := by decide +kernel
theorem dX4_together_16 : decode cX4_together 16 = .ok (.iload_n 1, 1) := by decide +kernel
theorem dX4_together_17 : decode cX4_together 17 = .ok (.iload_n 2, 1) := by decide +kernel
theorem dX4_together_18 : decode cX4_together 18 = .ok (.invokevirtual 94, 3) := by decide +kernel
theorem dX4_together_21 : decode cX4_together 21 = .ok (.ireturn, 1) := by decide +kernel
theorem dX4_regular_0 : decode cX4_regular 0 = .ok (.aload_n 0, 1) := by decide +kernel
theorem dX4_regular_1 : decode cX4_regular 1 = .ok (.getfield 10, 3) := by decide +kernel
theorem dX4_regular_4 : decode cX4_regular 4 = .ok (.getfield 51, 3) := by decide +kernel
theorem dX4_regular_7 : decode cX4_regular 7 = .ok (.iconst 2, 1) := by decide +kernel
theorem dX4_regular_8 : decode cX4_regular 8 = .ok (.if_icmp .ge 5, 3) := by decide +kernel
theorem dX4_regular_11 : decode cX4_regular 11 = .ok (.iconst 1, 1) := by decide +kernel
theorem dX4_regular_12 : decode cX4_regular 12 = .ok (.ireturn, 1) := by decide +kernel
theorem dX4_regular_13 : decode cX4_regular 13 = .ok (.aload_n 0, 1) := by decide +kernel
theorem dX4_regular_14 : decode cX4_regular 14 = .ok (.getfield 10, 3) := by decide +kernel
theorem dX4_regular_17 : decode cX4_regular 17 = .ok (.iconst 0, 1) := by decide +kernel
theorem dX4_regular_18 : decode cX4_regular 18 = .ok (.iconst 1, 1) := by decide +kernel
theorem dX4_regular_19 : decode cX4_regular 19 = .ok (.invokevirtual 94, 3) := by decide +kernel
theorem dX4_regular_22 : decode cX4_regular 22 = .ok (.istore_n 1, 1) := by decide +kernel
theorem dX4_regular_23 : decode cX4_regular 23 = .ok (.iconst 1, 1) := by decide +kernel
theorem dX4_regular_24 : decode cX4_regular 24 = .ok (.istore_n 2, 1) := by decide +kernel
theorem dX4_regular_25 : decode cX4_regular 25 = .ok (.iload_n 2, 1) := by decide +kernel
theorem dX4_regular_26 : decode cX4_regular 26 = .ok (.aload_n 0, 1) := by decide +kernel
theorem dX4_regular_27 : decode cX4_regular 27 = .ok (.getfield 10, 3) := by decide +kernel
theorem dX4_regular_30 : decode cX4_regular 30 = .ok (.getfield 51, 3) := by decide +kernel
theorem dX4_regular_33 : decode cX4_regular 33 = .ok (.if_icmp .ge 37, 3) := by decide +kernel
theorem dX4_regular_36 : decode cX4_regular 36 = .ok (.iconst 0, 1) := by decide +kernel
theorem dX4_regular_37 : decode cX4_regular 37 = .ok (.istore_n 3, 1) := by decide +kernel
theorem dX4_regular_38 : decode cX4_regular 38 = .ok (.iload_n 3, 1) := by decide +kernel
theorem dX4_regular_39 : decode cX4_regular 39 = .ok (.iload_n 2, 1) := by decide +kernel
theorem dX4_regular_40 : decode cX4_regular 40 = .ok (.if_icmp .ge 24, 3) := by decide +kernel
theorem dX4_regular_43 : decode cX4_regular 43 = .ok (.aload_n 0, 1) := by decide +kernel
theorem dX4_regular_44 : decode cX4_regular 44 = .ok (.getfield 10, 3) := by decide +kernel
theorem dX4_regular_47 : decode cX4_regular 47 = .ok (.iload_n 3, 1) := by decide +kernel
theorem dX4_regular_48 : decode cX4_regular 48 = .ok (.iload_n 2, 1) := by decide +kernel
theorem dX4_regular_49 : decode cX4_regular 49 = .ok (.invokevirtual 94, 3) := by decide +kernel
theorem dX4_regular_52 : decode cX4_regular 52 = .ok (.iload_n 1, 1) := by decide +kernel
theorem dX4_regular_53 : decode cX4_regular 53 = .ok (.if_icmp .eq 5, 3) := by decide +kernel
theorem dX4_regular_56 : decode cX4_regular 56 = .ok (.iconst 0, 1) := by decide +kernel
theorem dX4_regular_57 : decode cX4_regular 57 = .ok (.ireturn, 1) := by decide +kernel
theorem dX4_regular_58 : decode cX4_regular 58 = .ok (.iinc 3 1, 3) := by decide +kernel
theorem dX4_regular_61 : decode cX4_regular 61 = .ok (.goto (-23), 3) := by decide +kernel
theorem dX4_regular_64 : decode cX4_regular 64 = .ok (.iinc 2 1, 3) := by decide +kernel
theorem dX4_regular_67 : decode cX4_regular 67 = .ok (.goto (-42), 3) := by decide +kernel
theorem dX4_regular_70 : decode cX4_regular 70 = .ok (.iconst 1, 1) := by decide +kernel
theorem dX4_regular_71 : decode cX4_regular 71 = .ok (.ireturn, 1) := by decide +kernel
theorem dX4_areTwoLines_0 : decode cX4_areTwoLines 0 = .ok (.aload_n 0, 1) := by decide +kernel
theorem dX4_areTwoLines_1 : decode cX4_areTwoLines 1 = .ok (.getfield 10, 3) := by decide +kernel
theorem dX4_areTwoLines_4 : decode cX4_areTwoLines 4 = .ok (.iload_n 1, 1) := by decide +kernel
theorem dX4_areTwoLines_5 : decode cX4_areTwoLines 5 = .ok (.invokevirtual 70, 3) := by decide +kernel
theorem dX4_areTwoLines_8 : decode cX4_areTwoLines 8 = .ok (.ifCond .eq 23, 3) := by decide +kernel
theorem dX4_areTwoLines_11 : decode cX4_areTwoLines 11 = .ok (.aload_n 0, 1) := by decide +kernel
theorem dX4_areTwoLines_12 : decode cX4_areTwoLines 12 = .ok (.getfield 10, 3) := by decide +kernel
theorem dX4_areTwoLines_15 : decode cX4_areTwoLines 15 = .ok (.iload_n 2, 1) := by decide +kernel
theorem dX4_areTwoLines_16 : decode cX4_areTwoLines 16 = .ok (.invokevirtual 70, 3) := by decide +kernel
theorem dX4_areTwoLines_19 : decode cX4_areTwoLines 19 = .ok (.ifCond .eq 12, 3) := by decide +kernel
theorem dX4_areTwoLines_22 : decode cX4_areTwoLines 22 = .ok (.iload_n 1, 1) := by decide +kernel
theorem dX4_areTwoLines_23 : decode cX4_areTwoLines 23 = .ok (.iload_n 2, 1) := by decide +kernel
theorem dX4_areTwoLines_24 : decode cX4_areTwoLines 24 = .ok (.if_icmp .eq 7, 3) := by decide +kernel
theorem dX4_areTwoLines_27 : decode cX4_areTwoLines 27 = .ok (.iconst 1, 1) := by decide +kernel
theorem dX4_areTwoLines_28 : decode cX4_areTwoLines 28 = .ok (.goto 4, 3) := by decide +kernel
theorem dX4_areTwoLines_31 : decode cX4_areTwoLines 31 = .ok (.iconst 0, 1) := by decide +kernel
theorem dX4_areTwoLines_32 : decode cX4_areTwoLines 32 = .ok (.ireturn, 1) := by decide +kernel
theorem dX4_isLineCount_0 : decode cX4_isLineCount 0 = .ok (.iload_n 0, 1) := by decide +kernel
theorem dX4_isLineCount_1 : decode cX4_isLineCount 1 = .ok (.ifCond .lt 13, 3) := by decide +kernel
theorem dX4_isLineCount_4 : decode cX4_isLineCount 4 = .ok (.iload_n 0, 1) := by decide +kernel
theorem dX4_isLineCount_5 : decode cX4_isLineCount 5 = .ok (.bipush 10, 2) := by decide +kernel
theorem dX4_isLineCount_7 : decode cX4_isLineCount 7 = .ok (.if_icmp .gt 7, 3) := by decide +kernel
theorem dX4_isLineCount_10 : decode cX4_isLineCount 10 = .ok (.iconst 1, 1) := by decide +kernel
theorem dX4_isLineCount_11 : decode cX4_isLineCount 11 = .ok (.goto 4, 3) := by decide +kernel
theorem dX4_isLineCount_14 : decode cX4_isLineCount 14 = .ok (.iconst 0, 1) := by decide +kernel
theorem dX4_isLineCount_15 : decode cX4_isLineCount 15 = .ok (.ireturn, 1) := by decide +kernel
theorem dX4_angle_0 : decode cX4_angle 0 = .ok (.iload_n 1, 1) := by decide +kernel
theorem dX4_angle_1 : decode cX4_angle 1 = .ok (.iconst 3, 1) := by decide +kernel
theorem dX4_angle_2 : decode cX4_angle 2 = .ok (.if_icmp .lt 15, 3) := by decide +kernel
theorem dX4_angle_5 : decode cX4_angle 5 = .ok (.iload_n 1, 1) := by decide +kernel
theorem dX4_angle_6 : decode cX4_angle 6 = .ok (.bipush 9, 2) := by decide +kernel
theorem dX4_angle_8 : decode cX4_angle 8 = .ok (.if_icmp .gt 9, 3) := by decide +kernel
theorem dX4_angle_11 : decode cX4_angle 11 = .ok (.iload_n 1, 1) := by decide +kernel
theorem dX4_angle_12 : decode cX4_angle 12 = .ok (.iconst 2, 1) := by decide +kernel
theorem dX4_angle_13 : decode cX4_angle 13 = .ok (.irem, 1) := by decide +kernel
theorem dX4_angle_14 : decode cX4_angle 14 = .ok (.ifCond .ne 6, 3) := by decide +kernel
theorem dX4_angle_17 : decode cX4_angle 17 = .ok (.bipush (-2), 2) := by decide +kernel
theorem dX4_angle_19 : decode cX4_angle 19 = .ok (.ireturn, 1) := by decide +kernel
theorem dX4_angle_20 : decode cX4_angle 20 = .ok (.aload_n 0, 1) := by decide +kernel
theorem dX4_angle_21 : decode cX4_angle 21 = .ok (.getfield 39, 3) := by decide +kernel
theorem dX4_angle_24 : decode cX4_angle 24 = .ok (.istore_n 2, 1) := by decide +kernel
theorem dX4_angle_25 : decode cX4_angle 25 = .ok (.aload_n 0, 1) := by decide +kernel
theorem dX4_angle_26 : decode cX4_angle 26 = .ok (.iload_n 1, 1) := by decide +kernel
theorem dX4_angle_27 : decode cX4_angle 27 = .ok (.putfield 39, 3) := by decide +kernel
theorem dX4_angle_30 : decode cX4_angle 30 = .ok (.iload_n 2, 1) := by decide +kernel
theorem dX4_angle_31 : decode cX4_angle 31 = .ok (.ireturn, 1) := by decide +kernel
theorem dX4_sums_0 : decode cX4_sums 0 = .ok (.iload_n 1, 1) := by decide +kernel
theorem dX4_sums_1 : decode cX4_sums 1 = .ok (.ifCond .lt 23, 3) := by decide +kernel
theorem dX4_sums_4 : decode cX4_sums 4 = .ok (.iload_n 1, 1) := by decide +kernel
theorem dX4_sums_5 : decode cX4_sums 5 = .ok (.iconst 1, 1) := by decide +kernel
theorem dX4_sums_6 : decode cX4_sums 6 = .ok (.if_icmp .gt 18, 3) := by decide +kernel
theorem dX4_sums_9 : decode cX4_sums 9 = .ok (.iload_n 2, 1) := by decide +kernel
theorem dX4_sums_10 : decode cX4_sums 10 = .ok (.ifCond .lt 14, 3) := by decide +kernel
theorem dX4_sums_13 : decode cX4_sums 13 = .ok (.iload_n 2, 1) := by decide +kernel
theorem dX4_sums_14 : decode cX4_sums 14 = .ok (.aload_n 0, 1) := by decide +kernel
theorem dX4_sums_15 : decode cX4_sums 15 = .ok (.getfield 10, 3) := by decide +kernel
theorem dX4_sums_18 : decode cX4_sums 18 = .ok (.getfield 51, 3) := by decide +kernel
theorem dX4_sums_21 : decode cX4_sums 21 = .ok (.if_icmp .le 7, 3) := by decide +kernel
theorem dX4_sums_24 : decode cX4_sums 24 = .ok (.ldc2_w 97, 3) := by decide +kernel
theorem dX4_sums_27 : decode cX4_sums 27 = .ok (.lreturn, 1) := by decide +kernel
theorem dX4_sums_28 : decode cX4_sums 28 = .ok (.aload_n 0, 1) := by decide +kernel
theorem dX4_sums_29 : decode cX4_sums 29 = .ok (.getfield 22, 3) := by decide +kernel
theorem dX4_sums_32 : decode cX4_sums 32 = .ok (.aload_n 0, 1) := by decide +kernel
theorem dX4_sums_33 : decode cX4_sums 33 = .ok (.getfield 10, 3) := by decide +kernel
theorem dX4_sums_36 : decode cX4_sums 36 = .ok (.iload_n 1, 1) := by decide +kernel
theorem dX4_sums_37 : decode cX4_sums 37 = .ok (.ifCond .ne 7, 3) := by decide +kernel
theorem dX4_sums_40 : decode cX4_sums 40 = .ok (.iconst 0, 1) := by decide +kernel
theorem dX4_sums_41 : decode cX4_sums 41 = .ok (.goto 7, 3) := by decide +kernel
theorem dX4_sums_44 : decode cX4_sums 44 = .ok (.aload_n 0, 1) := by decide +kernel
theorem dX4_sums_45 : decode cX4_sums 45 = .ok (.getfield 39, 3) := by decide +kernel
theorem dX4_sums_48 : decode cX4_sums 48 = .ok (.invokevirtual 99, 3) := by decide +kernel
theorem dX4_sums_51 : decode cX4_sums 51 = .ok (.aload_n 0, 1) := by decide +kernel
theorem dX4_sums_52 : decode cX4_sums 52 = .ok (.getfield 22, 3) := by decide +kernel
theorem dX4_sums_55 : decode cX4_sums 55 = .ok (.getfield 103, 3) := by decide +kernel
theorem dX4_sums_58 : decode cX4_sums 58 = .ok (.iload_n 2, 1) := by decide +kernel
theorem dX4_sums_59 : decode cX4_sums 59 = .ok (.laload, 1) := by decide +kernel
theorem dX4_sums_60 : decode cX4_sums 60 = .ok (.lreturn, 1) := by decide +kernel
theorem dX4_own_0 : decode cX4_own 0 = .ok (.iload_n 1, 1) := by decide +kernel
theorem dX4_own_1 : decode cX4_own 1 = .ok (.bipush (-20), 2) := by decide +kernel
theorem dX4_own_3 : decode cX4_own 3 = .ok (.if_icmp .lt 9, 3) := by decide +kernel
theorem dX4_own_6 : decode cX4_own 6 = .ok (.iload_n 1, 1) := by decide +kernel
theorem dX4_own_7 : decode cX4_own 7 = .ok (.bipush 20, 2) := by decide +kernel
theorem dX4_own_9 : decode cX4_own 9 = .ok (.if_icmp .le 6, 3) := by decide +kernel
theorem dX4_own_12 : decode cX4_own 12 = .ok (.bipush (-2), 2) := by decide +kernel
theorem dX4_own_14 : decode cX4_own 14 = .ok (.ireturn, 1) := by decide +kernel
theorem dX4_own_15 : decode cX4_own 15 = .ok (.aload_n 0, 1) := by decide +kernel
theorem dX4_own_16 : decode cX4_own 16 = .ok (.getfield 22, 3) := by decide +kernel
theorem dX4_own_19 : decode cX4_own 19 = .ok (.aload_n 0, 1) := by decide +kernel
theorem dX4_own_20 : decode cX4_own 20 = .ok (.getfield 10, 3) := by decide +kernel
theorem dX4_own_23 : decode cX4_own 23 = .ok (.iconst 0, 1) := by decide +kernel
theorem dX4_own_24 : decode cX4_own 24 = .ok (.invokevirtual 99, 3) := by decide +kernel
theorem dX4_own_27 : decode cX4_own 27 = .ok (.aload_n 0, 1) := by decide +kernel
theorem dX4_own_28 : decode cX4_own 28 = .ok (.getfield 22, 3) := by decide +kernel
theorem dX4_own_31 : decode cX4_own 31 = .ok (.iload_n 1, 1) := by decide +kernel
theorem dX4_own_32 : decode cX4_own 32 = .ok (.invokevirtual 107, 3) := by decide +kernel
theorem dX4_own_35 : decode cX4_own 35 = .ok (.ireturn, 1) := by decide +kernel
theorem dX4_lies_0 : decode cX4_lies 0 = .ok (.aload_n 0, 1) := by decide +kernel
theorem dX4_lies_1 : decode cX4_lies 1 = .ok (.getfield 22, 3) := by decide +kernel
theorem dX4_lies_4 : decode cX4_lies 4 = .ok (.aload_n 0, 1) := by decide +kernel
theorem dX4_lies_5 : decode cX4_lies 5 = .ok (.getfield 10, 3) := by decide +kernel
theorem dX4_lies_8 : decode cX4_lies 8 = .ok (.aload_n 0, 1) := by decide +kernel
theorem dX4_lies_9 : decode cX4_lies 9 = .ok (.getfield 39, 3) := by decide +kernel
theorem dX4_lies_12 : decode cX4_lies 12 = .ok (.invokevirtual 99, 3) := by decide +kernel
theorem dX4_lies_15 : decode cX4_lies 15 = .ok (.aload_n 0, 1) := by decide +kernel
theorem dX4_lies_16 : decode cX4_lies 16 = .ok (.getfield 22, 3) := by decide +kernel
theorem dX4_lies_19 : decode cX4_lies 19 = .ok (.invokevirtual 110, 3) := by decide +kernel
theorem dX4_lies_22 : decode cX4_lies 22 = .ok (.ifCond .eq 7, 3) := by decide +kernel
theorem dX4_lies_25 : decode cX4_lies 25 = .ok (.iconst 1, 1) := by decide +kernel
theorem dX4_lies_26 : decode cX4_lies 26 = .ok (.goto 4, 3) := by decide +kernel
theorem dX4_lies_29 : decode cX4_lies 29 = .ok (.iconst 0, 1) := by decide +kernel
theorem dX4_lies_30 : decode cX4_lies 30 = .ok (.ireturn, 1) := by decide +kernel
theorem dX4_rank_0 : decode cX4_rank 0 = .ok (.aload_n 0, 1) := by decide +kernel
theorem dX4_rank_1 : decode cX4_rank 1 = .ok (.getfield 22, 3) := by decide +kernel
theorem dX4_rank_4 : decode cX4_rank 4 = .ok (.aload_n 0, 1) := by decide +kernel
theorem dX4_rank_5 : decode cX4_rank 5 = .ok (.getfield 10, 3) := by decide +kernel
theorem dX4_rank_8 : decode cX4_rank 8 = .ok (.aload_n 0, 1) := by decide +kernel
theorem dX4_rank_9 : decode cX4_rank 9 = .ok (.getfield 39, 3) := by decide +kernel
theorem dX4_rank_12 : decode cX4_rank 12 = .ok (.invokevirtual 99, 3) := by decide +kernel
theorem dX4_rank_15 : decode cX4_rank 15 = .ok (.aload_n 0, 1) := by decide +kernel
theorem dX4_rank_16 : decode cX4_rank 16 = .ok (.getfield 22, 3) := by decide +kernel
theorem dX4_rank_19 : decode cX4_rank 19 = .ok (.invokevirtual 114, 3) := by decide +kernel
theorem dX4_rank_22 : decode cX4_rank 22 = .ok (.ireturn, 1) := by decide +kernel
theorem dX4_bound_0 : decode cX4_bound 0 = .ok (.iload_n 1, 1) := by decide +kernel
theorem dX4_bound_1 : decode cX4_bound 1 = .ok (.invokestatic 117, 3) := by decide +kernel
theorem dX4_bound_4 : decode cX4_bound 4 = .ok (.ifCond .ne 6, 3) := by decide +kernel
theorem dX4_bound_7 : decode cX4_bound 7 = .ok (.bipush (-2), 2) := by decide +kernel
theorem dX4_bound_9 : decode cX4_bound 9 = .ok (.ireturn, 1) := by decide +kernel
theorem dX4_bound_10 : decode cX4_bound 10 = .ok (.iload_n 1, 1) := by decide +kernel
theorem dX4_bound_11 : decode cX4_bound 11 = .ok (.iload_n 1, 1) := by decide +kernel
theorem dX4_bound_12 : decode cX4_bound 12 = .ok (.iconst 1, 1) := by decide +kernel
theorem dX4_bound_13 : decode cX4_bound 13 = .ok (.iadd, 1) := by decide +kernel
theorem dX4_bound_14 : decode cX4_bound 14 = .ok (.imul, 1) := by decide +kernel
theorem dX4_bound_15 : decode cX4_bound 15 = .ok (.iconst 2, 1) := by decide +kernel
theorem dX4_bound_16 : decode cX4_bound 16 = .ok (.idiv, 1) := by decide +kernel
theorem dX4_bound_17 : decode cX4_bound 17 = .ok (.istore_n 2, 1) := by decide +kernel
theorem dX4_bound_18 : decode cX4_bound 18 = .ok (.aload_n 0, 1) := by decide +kernel
theorem dX4_bound_19 : decode cX4_bound 19 = .ok (.getfield 39, 3) := by decide +kernel
theorem dX4_bound_22 : decode cX4_bound 22 = .ok (.aload_n 0, 1) := by decide +kernel
theorem dX4_bound_23 : decode cX4_bound 23 = .ok (.getfield 39, 3) := by decide +kernel
theorem dX4_bound_26 : decode cX4_bound 26 = .ok (.imul, 1) := by decide +kernel
theorem dX4_bound_27 : decode cX4_bound 27 = .ok (.istore_n 3, 1) := by decide +kernel
theorem dX4_bound_28 : decode cX4_bound 28 = .ok (.iload_n 1, 1) := by decide +kernel
theorem dX4_bound_29 : decode cX4_bound 29 = .ok (.iload_n 3, 1) := by decide +kernel
theorem dX4_bound_30 : decode cX4_bound 30 = .ok (.if_icmp .lt 5, 3) := by decide +kernel
theorem dX4_bound_33 : decode cX4_bound 33 = .ok (.iload_n 2, 1) := by decide +kernel
theorem dX4_bound_34 : decode cX4_bound 34 = .ok (.ireturn, 1) := by decide +kernel
theorem dX4_bound_35 : decode cX4_bound 35 = .ok (.iload_n 2, 1) := by decide +kernel
theorem dX4_bound_36 : decode cX4_bound 36 = .ok (.iload_n 1, 1) := by decide +kernel
theorem dX4_bound_37 : decode cX4_bound 37 = .ok (.iload_n 3, 1) := by decide +kernel
theorem dX4_bound_38 : decode cX4_bound 38 = .ok (.iconst 1, 1) := by decide +kernel
theorem dX4_bound_39 : decode cX4_bound 39 = .ok (.isub, 1) := by decide +kernel
theorem dX4_bound_40 : decode cX4_bound 40 = .ok (.imul, 1) := by decide +kernel
theorem dX4_bound_41 : decode cX4_bound 41 = .ok (.iload_n 3, 1) := by decide +kernel
theorem dX4_bound_42 : decode cX4_bound 42 = .ok (.iload_n 1, 1) := by decide +kernel
theorem dX4_bound_43 : decode cX4_bound 43 = .ok (.isub, 1) := by decide +kernel
theorem dX4_bound_44 : decode cX4_bound 44 = .ok (.idiv, 1) := by decide +kernel
theorem dX4_bound_45 : decode cX4_bound 45 = .ok (.invokestatic 120, 3) := by decide +kernel
theorem dX4_bound_48 : decode cX4_bound 48 = .ok (.ireturn, 1) := by decide +kernel
theorem dX4_isDimension_0 : decode cX4_isDimension 0 = .ok (.iload_n 0, 1) := by decide +kernel
theorem dX4_isDimension_1 : decode cX4_isDimension 1 = .ok (.iconst 1, 1) := by decide +kernel
theorem dX4_isDimension_2 : decode cX4_isDimension 2 = .ok (.if_icmp .lt 13, 3) := by decide +kernel
theorem dX4_isDimension_5 : decode cX4_isDimension 5 = .ok (.iload_n 0, 1) := by decide +kernel
theorem dX4_isDimension_6 : decode cX4_isDimension 6 = .ok (.bipush 20, 2) := by decide +kernel
theorem dX4_isDimension_8 : decode cX4_isDimension 8 = .ok (.if_icmp .gt 7, 3) := by decide +kernel
theorem dX4_isDimension_11 : decode cX4_isDimension 11 = .ok (.iconst 1, 1) := by decide +kernel
theorem dX4_isDimension_12 : decode cX4_isDimension 12 = .ok (.goto 4, 3) := by decide +kernel
theorem dX4_isDimension_15 : decode cX4_isDimension 15 = .ok (.iconst 0, 1) := by decide +kernel
theorem dX4_isDimension_16 : decode cX4_isDimension 16 = .ok (.ireturn, 1) := by decide +kernel
theorem dX4_goes_0 : decode cX4_goes 0 = .ok (.aload_n 0, 1) := by decide +kernel
theorem dX4_goes_1 : decode cX4_goes 1 = .ok (.getfield 10, 3) := by decide +kernel
theorem dX4_goes_4 : decode cX4_goes 4 = .ok (.iload_n 1, 1) := by decide +kernel
theorem dX4_goes_5 : decode cX4_goes 5 = .ok (.invokevirtual 125, 3) := by decide +kernel
theorem dX4_goes_8 : decode cX4_goes 8 = .ok (.ifCond .eq 10, 3) := by decide +kernel
theorem dX4_goes_11 : decode cX4_goes 11 = .ok (.iload_n 2, 1) := by decide +kernel
theorem dX4_goes_12 : decode cX4_goes 12 = .ok (.invokestatic 117, 3) := by decide +kernel
theorem dX4_goes_15 : decode cX4_goes 15 = .ok (.ifCond .ne 6, 3) := by decide +kernel
theorem dX4_goes_18 : decode cX4_goes 18 = .ok (.bipush (-2), 2) := by decide +kernel
theorem dX4_goes_20 : decode cX4_goes 20 = .ok (.ireturn, 1) := by decide +kernel
theorem dX4_goes_21 : decode cX4_goes 21 = .ok (.aload_n 0, 1) := by decide +kernel
theorem dX4_goes_22 : decode cX4_goes 22 = .ok (.invokevirtual 128, 3) := by decide +kernel
theorem dX4_goes_25 : decode cX4_goes 25 = .ok (.istore_n 3, 1) := by decide +kernel
theorem dX4_goes_26 : decode cX4_goes 26 = .ok (.iload_n 3, 1) := by decide +kernel
theorem dX4_goes_27 : decode cX4_goes 27 = .ok (.ifCond .eq 5, 3) := by decide +kernel
theorem dX4_goes_30 : decode cX4_goes 30 = .ok (.iload_n 3, 1) := by decide +kernel
theorem dX4_goes_31 : decode cX4_goes 31 = .ok (.ireturn, 1) := by decide +kernel
theorem dX4_goes_32 : decode cX4_goes 32 = .ok (.aload_n 0, 1) := by decide +kernel
theorem dX4_goes_33 : decode cX4_goes 33 = .ok (.getfield 22, 3) := by decide +kernel
theorem dX4_goes_36 : decode cX4_goes 36 = .ok (.aload_n 0, 1) := by decide +kernel
theorem dX4_goes_37 : decode cX4_goes 37 = .ok (.getfield 10, 3) := by decide +kernel
theorem dX4_goes_40 : decode cX4_goes 40 = .ok (.aload_n 0, 1) := by decide +kernel
theorem dX4_goes_41 : decode cX4_goes 41 = .ok (.getfield 39, 3) := by decide +kernel
theorem dX4_goes_44 : decode cX4_goes 44 = .ok (.invokevirtual 99, 3) := by decide +kernel
theorem dX4_goes_47 : decode cX4_goes 47 = .ok (.aload_n 0, 1) := by decide +kernel
theorem dX4_goes_48 : decode cX4_goes 48 = .ok (.getfield 22, 3) := by decide +kernel
theorem dX4_goes_51 : decode cX4_goes 51 = .ok (.iload_n 1, 1) := by decide +kernel
theorem dX4_goes_52 : decode cX4_goes 52 = .ok (.iload_n 2, 1) := by decide +kernel
theorem dX4_goes_53 : decode cX4_goes 53 = .ok (.invokevirtual 131, 3) := by decide +kernel
theorem dX4_goes_56 : decode cX4_goes 56 = .ok (.ifCond .eq 7, 3) := by decide +kernel
theorem dX4_goes_59 : decode cX4_goes 59 = .ok (.iconst 1, 1) := by decide +kernel
theorem dX4_goes_60 : decode cX4_goes 60 = .ok (.goto 4, 3) := by decide +kernel
theorem dX4_goes_63 : decode cX4_goes 63 = .ok (.iconst 0, 1) := by decide +kernel
theorem dX4_goes_64 : decode cX4_goes 64 = .ok (.ireturn, 1) := by decide +kernel
theorem dX4_ways_0 : decode cX4_ways 0 = .ok (.iload_n 1, 1) := by decide +kernel
theorem dX4_ways_1 : decode cX4_ways 1 = .ok (.invokestatic 117, 3) := by decide +kernel
theorem dX4_ways_4 : decode cX4_ways 4 = .ok (.ifCond .ne 6, 3) := by decide +kernel
theorem dX4_ways_7 : decode cX4_ways 7 = .ok (.bipush (-2), 2) := by decide +kernel
theorem dX4_ways_9 : decode cX4_ways 9 = .ok (.ireturn, 1) := by decide +kernel
theorem dX4_ways_10 : decode cX4_ways 10 = .ok (.aload_n 0, 1) := by decide +kernel
theorem dX4_ways_11 : decode cX4_ways 11 = .ok (.invokevirtual 128, 3) := by decide +kernel
theorem dX4_ways_14 : decode cX4_ways 14 = .ok (.istore_n 2, 1) := by decide +kernel
theorem dX4_ways_15 : decode cX4_ways 15 = .ok (.iload_n 2, 1) := by decide +kernel
theorem dX4_ways_16 : decode cX4_ways 16 = .ok (.ifCond .eq 5, 3) := by decide +kernel
theorem dX4_ways_19 : decode cX4_ways 19 = .ok (.iload_n 2, 1) := by decide +kernel
theorem dX4_ways_20 : decode cX4_ways 20 = .ok (.ireturn, 1) := by decide +kernel
theorem dX4_ways_21 : decode cX4_ways 21 = .ok (.aload_n 0, 1) := by decide +kernel
theorem dX4_ways_22 : decode cX4_ways 22 = .ok (.getfield 22, 3) := by decide +kernel
theorem dX4_ways_25 : decode cX4_ways 25 = .ok (.aload_n 0, 1) := by decide +kernel
theorem dX4_ways_26 : decode cX4_ways 26 = .ok (.getfield 10, 3) := by decide +kernel
theorem dX4_ways_29 : decode cX4_ways 29 = .ok (.aload_n 0, 1) := by decide +kernel
theorem dX4_ways_30 : decode cX4_ways 30 = .ok (.getfield 39, 3) := by decide +kernel
theorem dX4_ways_33 : decode cX4_ways 33 = .ok (.invokevirtual 99, 3) := by decide +kernel
theorem dX4_ways_36 : decode cX4_ways 36 = .ok (.iconst 0, 1) := by decide +kernel
theorem dX4_ways_37 : decode cX4_ways 37 = .ok (.istore_n 3, 1) := by decide +kernel
theorem dX4_ways_38 : decode cX4_ways 38 = .ok (.iconst 0, 1) := by decide +kernel
theorem dX4_ways_39 : decode cX4_ways 39 = .ok (.istore 4, 2) := by decide +kernel
theorem dX4_ways_41 : decode cX4_ways 41 = .ok (.iload 4, 2) := by decide +kernel
theorem dX4_ways_43 : decode cX4_ways 43 = .ok (.iconst 1, 1) := by decide +kernel
theorem dX4_ways_44 : decode cX4_ways 44 = .ok (.aload_n 0, 1) := by decide +kernel
theorem dX4_ways_45 : decode cX4_ways 45 = .ok (.getfield 10, 3) := by decide +kernel
theorem dX4_ways_48 : decode cX4_ways 48 = .ok (.getfield 51, 3) := by decide +kernel
theorem dX4_ways_51 : decode cX4_ways 51 = .ok (.ishl, 1) := by decide +kernel
theorem dX4_ways_52 : decode cX4_ways 52 = .ok (.if_icmp .ge 25, 3) := by decide +kernel
theorem dX4_ways_55 : decode cX4_ways 55 = .ok (.aload_n 0, 1) := by decide +kernel
theorem dX4_ways_56 : decode cX4_ways 56 = .ok (.getfield 22, 3) := by decide +kernel
theorem dX4_ways_59 : decode cX4_ways 59 = .ok (.iload 4, 2) := by decide +kernel
theorem dX4_ways_61 : decode cX4_ways 61 = .ok (.iload_n 1, 1) := by decide +kernel
theorem dX4_ways_62 : decode cX4_ways 62 = .ok (.invokevirtual 131, 3) := by decide +kernel
theorem dX4_ways_65 : decode cX4_ways 65 = .ok (.ifCond .eq 6, 3) := by decide +kernel
theorem dX4_ways_68 : decode cX4_ways 68 = .ok (.iinc 3 1, 3) := by decide +kernel
theorem dX4_ways_71 : decode cX4_ways 71 = .ok (.iinc 4 2, 3) := by decide +kernel
theorem dX4_ways_74 : decode cX4_ways 74 = .ok (.goto (-33), 3) := by decide +kernel
theorem dX4_ways_77 : decode cX4_ways 77 = .ok (.iload_n 3, 1) := by decide +kernel
theorem dX4_ways_78 : decode cX4_ways 78 = .ok (.ireturn, 1) := by decide +kernel
theorem dX4_put_0 : decode cX4_put 0 = .ok (.aload_n 0, 1) := by decide +kernel
theorem dX4_put_1 : decode cX4_put 1 = .ok (.getfield 10, 3) := by decide +kernel
theorem dX4_put_4 : decode cX4_put 4 = .ok (.iload_n 1, 1) := by decide +kernel
theorem dX4_put_5 : decode cX4_put 5 = .ok (.invokevirtual 125, 3) := by decide +kernel
theorem dX4_put_8 : decode cX4_put 8 = .ok (.ifCond .ne 6, 3) := by decide +kernel
theorem dX4_put_11 : decode cX4_put 11 = .ok (.bipush (-2), 2) := by decide +kernel
theorem dX4_put_13 : decode cX4_put 13 = .ok (.ireturn, 1) := by decide +kernel
theorem dX4_put_14 : decode cX4_put 14 = .ok (.aload_n 0, 1) := by decide +kernel
theorem dX4_put_15 : decode cX4_put 15 = .ok (.getfield 10, 3) := by decide +kernel
theorem dX4_put_18 : decode cX4_put 18 = .ok (.getfield 51, 3) := by decide +kernel
theorem dX4_put_21 : decode cX4_put 21 = .ok (.bipush 10, 2) := by decide +kernel
theorem dX4_put_23 : decode cX4_put 23 = .ok (.if_icmp .lt 6, 3) := by decide +kernel
theorem dX4_put_26 : decode cX4_put 26 = .ok (.bipush (-4), 2) := by decide +kernel
theorem dX4_put_28 : decode cX4_put 28 = .ok (.ireturn, 1) := by decide +kernel
theorem dX4_put_29 : decode cX4_put 29 = .ok (.aload_n 0, 1) := by decide +kernel
theorem dX4_put_30 : decode cX4_put 30 = .ok (.getfield 10, 3) := by decide +kernel
theorem dX4_put_33 : decode cX4_put 33 = .ok (.iload_n 1, 1) := by decide +kernel
theorem dX4_put_34 : decode cX4_put 34 = .ok (.invokevirtual 134, 3) := by decide +kernel
theorem dX4_put_37 : decode cX4_put 37 = .ok (.aload_n 0, 1) := by decide +kernel
theorem dX4_put_38 : decode cX4_put 38 = .ok (.getfield 10, 3) := by decide +kernel
theorem dX4_put_41 : decode cX4_put 41 = .ok (.getfield 51, 3) := by decide +kernel
theorem dX4_put_44 : decode cX4_put 44 = .ok (.iconst 1, 1) := by decide +kernel
theorem dX4_put_45 : decode cX4_put 45 = .ok (.isub, 1) := by decide +kernel
theorem dX4_put_46 : decode cX4_put 46 = .ok (.ireturn, 1) := by decide +kernel
theorem dX4_grow_0 : decode cX4_grow 0 = .ok (.iload_n 1, 1) := by decide +kernel
theorem dX4_grow_1 : decode cX4_grow 1 = .ok (.invokestatic 117, 3) := by decide +kernel
theorem dX4_grow_4 : decode cX4_grow 4 = .ok (.ifCond .ne 6, 3) := by decide +kernel
theorem dX4_grow_7 : decode cX4_grow 7 = .ok (.bipush (-2), 2) := by decide +kernel
theorem dX4_grow_9 : decode cX4_grow 9 = .ok (.ireturn, 1) := by decide +kernel
theorem dX4_grow_10 : decode cX4_grow 10 = .ok (.aload_n 0, 1) := by decide +kernel
theorem dX4_grow_11 : decode cX4_grow 11 = .ok (.getfield 22, 3) := by decide +kernel
theorem dX4_grow_14 : decode cX4_grow 14 = .ok (.aload_n 0, 1) := by decide +kernel
theorem dX4_grow_15 : decode cX4_grow 15 = .ok (.getfield 10, 3) := by decide +kernel
theorem dX4_grow_18 : decode cX4_grow 18 = .ok (.aload_n 0, 1) := by decide +kernel
theorem dX4_grow_19 : decode cX4_grow 19 = .ok (.getfield 39, 3) := by decide +kernel
theorem dX4_grow_22 : decode cX4_grow 22 = .ok (.invokevirtual 99, 3) := by decide +kernel
theorem dX4_grow_25 : decode cX4_grow 25 = .ok (.aload_n 0, 1) := by decide +kernel
theorem dX4_grow_26 : decode cX4_grow 26 = .ok (.getfield 10, 3) := by decide +kernel
theorem dX4_grow_29 : decode cX4_grow 29 = .ok (.getfield 51, 3) := by decide +kernel
theorem dX4_grow_32 : decode cX4_grow 32 = .ok (.ifCond .eq 24, 3) := by decide +kernel
theorem dX4_grow_35 : decode cX4_grow 35 = .ok (.aload_n 0, 1) := by decide +kernel
theorem dX4_grow_36 : decode cX4_grow 36 = .ok (.getfield 22, 3) := by decide +kernel
theorem dX4_grow_39 : decode cX4_grow 39 = .ok (.invokevirtual 110, 3) := by decide +kernel
theorem dX4_grow_42 : decode cX4_grow 42 = .ok (.ifCond .eq 14, 3) := by decide +kernel
theorem dX4_grow_45 : decode cX4_grow 45 = .ok (.aload_n 0, 1) := by decide +kernel
theorem dX4_grow_46 : decode cX4_grow 46 = .ok (.getfield 22, 3) := by decide +kernel
theorem dX4_grow_49 : decode cX4_grow 49 = .ok (.invokevirtual 114, 3) := by decide +kernel
theorem dX4_grow_52 : decode cX4_grow 52 = .ok (.iload_n 1, 1) := by decide +kernel
theorem dX4_grow_53 : decode cX4_grow 53 = .ok (.if_icmp .le 6, 3) := by decide +kernel
theorem dX4_grow_56 : decode cX4_grow 56 = .ok (.bipush (-3), 2) := by decide +kernel
theorem dX4_grow_58 : decode cX4_grow 58 = .ok (.ireturn, 1) := by decide +kernel
theorem dX4_grow_59 : decode cX4_grow 59 = .ok (.aload_n 0, 1) := by decide +kernel
theorem dX4_grow_60 : decode cX4_grow 60 = .ok (.getfield 10, 3) := by decide +kernel
theorem dX4_grow_63 : decode cX4_grow 63 = .ok (.getfield 51, 3) := by decide +kernel
theorem dX4_grow_66 : decode cX4_grow 66 = .ok (.istore_n 2, 1) := by decide +kernel
theorem dX4_grow_67 : decode cX4_grow 67 = .ok (.iload_n 2, 1) := by decide +kernel
theorem dX4_grow_68 : decode cX4_grow 68 = .ok (.bipush 10, 2) := by decide +kernel
theorem dX4_grow_70 : decode cX4_grow 70 = .ok (.if_icmp .ge 30, 3) := by decide +kernel
theorem dX4_grow_73 : decode cX4_grow 73 = .ok (.aload_n 0, 1) := by decide +kernel
theorem dX4_grow_74 : decode cX4_grow 74 = .ok (.iload_n 1, 1) := by decide +kernel
theorem dX4_grow_75 : decode cX4_grow 75 = .ok (.invokevirtual 137, 3) := by decide +kernel
theorem dX4_grow_78 : decode cX4_grow 78 = .ok (.istore_n 3, 1) := by decide +kernel
theorem dX4_grow_79 : decode cX4_grow 79 = .ok (.iload_n 3, 1) := by decide +kernel
theorem dX4_grow_80 : decode cX4_grow 80 = .ok (.iconst (-1), 1) := by decide +kernel
theorem dX4_grow_81 : decode cX4_grow 81 = .ok (.if_icmp .ne 5, 3) := by decide +kernel
theorem dX4_grow_84 : decode cX4_grow 84 = .ok (.iload_n 2, 1) := by decide +kernel
theorem dX4_grow_85 : decode cX4_grow 85 = .ok (.ireturn, 1) := by decide +kernel
theorem dX4_grow_86 : decode cX4_grow 86 = .ok (.aload_n 0, 1) := by decide +kernel
theorem dX4_grow_87 : decode cX4_grow 87 = .ok (.getfield 10, 3) := by decide +kernel
theorem dX4_grow_90 : decode cX4_grow 90 = .ok (.iload_n 3, 1) := by decide +kernel
theorem dX4_grow_91 : decode cX4_grow 91 = .ok (.invokevirtual 134, 3) := by decide +kernel
theorem dX4_grow_94 : decode cX4_grow 94 = .ok (.iinc 2 1, 3) := by decide +kernel
theorem dX4_grow_97 : decode cX4_grow 97 = .ok (.goto (-30), 3) := by decide +kernel
theorem dX4_grow_100 : decode cX4_grow 100 = .ok (.aload_n 0, 1) := by decide +kernel
theorem dX4_grow_101 : decode cX4_grow 101 = .ok (.getfield 10, 3) := by decide +kernel
theorem dX4_grow_104 : decode cX4_grow 104 = .ok (.getfield 51, 3) := by decide +kernel
theorem dX4_grow_107 : decode cX4_grow 107 = .ok (.ireturn, 1) := by decide +kernel
theorem dX4_refusalOfOneMore_0 : decode cX4_refusalOfOneMore 0 = .ok (.aload_n 0, 1) := by decide +kernel
theorem dX4_refusalOfOneMore_1 : decode cX4_refusalOfOneMore 1 = .ok (.getfield 10, 3) := by decide +kernel
theorem dX4_refusalOfOneMore_4 : decode cX4_refusalOfOneMore 4 = .ok (.getfield 51, 3) := by decide +kernel
theorem dX4_refusalOfOneMore_7 : decode cX4_refusalOfOneMore 7 = .ok (.ifCond .ne 6, 3) := by decide +kernel
theorem dX4_refusalOfOneMore_10 : decode cX4_refusalOfOneMore 10 = .ok (.bipush (-3), 2) := by decide +kernel
theorem dX4_refusalOfOneMore_12 : decode cX4_refusalOfOneMore 12 = .ok (.ireturn, 1) := by decide +kernel
theorem dX4_refusalOfOneMore_13 : decode cX4_refusalOfOneMore 13 = .ok (.aload_n 0, 1) := by decide +kernel
theorem dX4_refusalOfOneMore_14 : decode cX4_refusalOfOneMore 14 = .ok (.getfield 10, 3) := by decide +kernel
theorem dX4_refusalOfOneMore_17 : decode cX4_refusalOfOneMore 17 = .ok (.getfield 51, 3) := by decide +kernel
theorem dX4_refusalOfOneMore_20 : decode cX4_refusalOfOneMore 20 = .ok (.bipush 10, 2) := by decide +kernel
theorem dX4_refusalOfOneMore_22 : decode cX4_refusalOfOneMore 22 = .ok (.if_icmp .lt 8, 3) := by decide +kernel
theorem dX4_refusalOfOneMore_25 : decode cX4_refusalOfOneMore 25 = .ok (.bipush (-4), 2) := by decide +kernel
theorem dX4_refusalOfOneMore_27 : decode cX4_refusalOfOneMore 27 = .ok (.goto 4, 3) := by decide +kernel
theorem dX4_refusalOfOneMore_30 : decode cX4_refusalOfOneMore 30 = .ok (.iconst 0, 1) := by decide +kernel
theorem dX4_refusalOfOneMore_31 : decode cX4_refusalOfOneMore 31 = .ok (.ireturn, 1) := by decide +kernel
theorem dX4_leastGoing_0 : decode cX4_leastGoing 0 = .ok (.aload_n 0, 1) := by decide +kernel
theorem dX4_leastGoing_1 : decode cX4_leastGoing 1 = .ok (.getfield 22, 3) := by decide +kernel
theorem dX4_leastGoing_4 : decode cX4_leastGoing 4 = .ok (.aload_n 0, 1) := by decide +kernel
theorem dX4_leastGoing_5 : decode cX4_leastGoing 5 = .ok (.getfield 10, 3) := by decide +kernel
theorem dX4_leastGoing_8 : decode cX4_leastGoing 8 = .ok (.aload_n 0, 1) := by decide +kernel
theorem dX4_leastGoing_9 : decode cX4_leastGoing 9 = .ok (.getfield 39, 3) := by decide +kernel
theorem dX4_leastGoing_12 : decode cX4_leastGoing 12 = .ok (.invokevirtual 99, 3) := by decide +kernel
theorem dX4_leastGoing_15 : decode cX4_leastGoing 15 = .ok (.iconst 0, 1) := by decide +kernel
theorem dX4_leastGoing_16 : decode cX4_leastGoing 16 = .ok (.istore_n 2, 1) := by decide +kernel
theorem dX4_leastGoing_17 : decode cX4_leastGoing 17 = .ok (.iload_n 2, 1) := by decide +kernel
theorem dX4_leastGoing_18 : decode cX4_leastGoing 18 = .ok (.iconst 1, 1) := by decide +kernel
theorem dX4_leastGoing_19 : decode cX4_leastGoing 19 = .ok (.aload_n 0, 1) := by decide +kernel
theorem dX4_leastGoing_20 : decode cX4_leastGoing 20 = .ok (.getfield 10, 3) := by decide +kernel
theorem dX4_leastGoing_23 : decode cX4_leastGoing 23 = .ok (.getfield 51, 3) := by decide +kernel
theorem dX4_leastGoing_26 : decode cX4_leastGoing 26 = .ok (.ishl, 1) := by decide +kernel
theorem dX4_leastGoing_27 : decode cX4_leastGoing 27 = .ok (.if_icmp .ge 23, 3) := by decide +kernel
theorem dX4_leastGoing_30 : decode cX4_leastGoing 30 = .ok (.aload_n 0, 1) := by decide +kernel
theorem dX4_leastGoing_31 : decode cX4_leastGoing 31 = .ok (.getfield 22, 3) := by decide +kernel
theorem dX4_leastGoing_34 : decode cX4_leastGoing 34 = .ok (.iload_n 2, 1) := by decide +kernel
theorem dX4_leastGoing_35 : decode cX4_leastGoing 35 = .ok (.iload_n 1, 1) := by decide +kernel
theorem dX4_leastGoing_36 : decode cX4_leastGoing 36 = .ok (.invokevirtual 131, 3) := by decide +kernel
theorem dX4_leastGoing_39 : decode cX4_leastGoing 39 = .ok (.ifCond .eq 5, 3) := by decide +kernel
theorem dX4_leastGoing_42 : decode cX4_leastGoing 42 = .ok (.iload_n 2, 1) := by decide +kernel
theorem dX4_leastGoing_43 : decode cX4_leastGoing 43 = .ok (.ireturn, 1) := by decide +kernel
theorem dX4_leastGoing_44 : decode cX4_leastGoing 44 = .ok (.iinc 2 2, 3) := by decide +kernel
theorem dX4_leastGoing_47 : decode cX4_leastGoing 47 = .ok (.goto (-30), 3) := by decide +kernel
theorem dX4_leastGoing_50 : decode cX4_leastGoing 50 = .ok (.iconst (-1), 1) := by decide +kernel
theorem dX4_leastGoing_51 : decode cX4_leastGoing 51 = .ok (.ireturn, 1) := by decide +kernel
theorem dX4_name_0 : decode cX4_name 0 = .ok (.aload_n 0, 1) := by decide +kernel
theorem dX4_name_1 : decode cX4_name 1 = .ok (.getfield 10, 3) := by decide +kernel
theorem dX4_name_4 : decode cX4_name 4 = .ok (.getfield 51, 3) := by decide +kernel
theorem dX4_name_7 : decode cX4_name 7 = .ok (.bipush 7, 2) := by decide +kernel
theorem dX4_name_9 : decode cX4_name 9 = .ok (.if_icmp .le 6, 3) := by decide +kernel
theorem dX4_name_12 : decode cX4_name 12 = .ok (.bipush (-3), 2) := by decide +kernel
theorem dX4_name_14 : decode cX4_name 14 = .ok (.ireturn, 1) := by decide +kernel
theorem dX4_name_15 : decode cX4_name 15 = .ok (.aload_n 0, 1) := by decide +kernel
theorem dX4_name_16 : decode cX4_name 16 = .ok (.getfield 29, 3) := by decide +kernel
theorem dX4_name_19 : decode cX4_name 19 = .ok (.aload_n 0, 1) := by decide +kernel
theorem dX4_name_20 : decode cX4_name 20 = .ok (.getfield 10, 3) := by decide +kernel
theorem dX4_name_23 : decode cX4_name 23 = .ok (.invokevirtual 140, 3) := by decide +kernel
theorem dX4_name_26 : decode cX4_name 26 = .ok (.ireturn, 1) := by decide +kernel
theorem dX4_plain_0 : decode cX4_plain 0 = .ok (.aload_n 0, 1) := by decide +kernel
theorem dX4_plain_1 : decode cX4_plain 1 = .ok (.getfield 10, 3) := by decide +kernel
theorem dX4_plain_4 : decode cX4_plain 4 = .ok (.getfield 51, 3) := by decide +kernel
theorem dX4_plain_7 : decode cX4_plain 7 = .ok (.bipush 7, 2) := by decide +kernel
theorem dX4_plain_9 : decode cX4_plain 9 = .ok (.if_icmp .le 6, 3) := by decide +kernel
theorem dX4_plain_12 : decode cX4_plain 12 = .ok (.bipush (-3), 2) := by decide +kernel
theorem dX4_plain_14 : decode cX4_plain 14 = .ok (.ireturn, 1) := by decide +kernel
theorem dX4_plain_15 : decode cX4_plain 15 = .ok (.aload_n 0, 1) := by decide +kernel
theorem dX4_plain_16 : decode cX4_plain 16 = .ok (.getfield 16, 3) := by decide +kernel
theorem dX4_plain_19 : decode cX4_plain 19 = .ok (.aload_n 0, 1) := by decide +kernel
theorem dX4_plain_20 : decode cX4_plain 20 = .ok (.getfield 10, 3) := by decide +kernel
theorem dX4_plain_23 : decode cX4_plain 23 = .ok (.getfield 51, 3) := by decide +kernel
theorem dX4_plain_26 : decode cX4_plain 26 = .ok (.aload_n 0, 1) := by decide +kernel
theorem dX4_plain_27 : decode cX4_plain 27 = .ok (.getfield 29, 3) := by decide +kernel
theorem dX4_plain_30 : decode cX4_plain 30 = .ok (.aload_n 0, 1) := by decide +kernel
theorem dX4_plain_31 : decode cX4_plain 31 = .ok (.getfield 10, 3) := by decide +kernel
theorem dX4_plain_34 : decode cX4_plain 34 = .ok (.invokevirtual 140, 3) := by decide +kernel
theorem dX4_plain_37 : decode cX4_plain 37 = .ok (.invokevirtual 144, 3) := by decide +kernel
theorem dX4_plain_40 : decode cX4_plain 40 = .ok (.iconst 0, 1) := by decide +kernel
theorem dX4_plain_41 : decode cX4_plain 41 = .ok (.istore_n 1, 1) := by decide +kernel
theorem dX4_plain_42 : decode cX4_plain 42 = .ok (.iconst 0, 1) := by decide +kernel
theorem dX4_plain_43 : decode cX4_plain 43 = .ok (.istore_n 2, 1) := by decide +kernel
theorem dX4_plain_44 : decode cX4_plain 44 = .ok (.iload_n 2, 1) := by decide +kernel
theorem dX4_plain_45 : decode cX4_plain 45 = .ok (.aload_n 0, 1) := by decide +kernel
theorem dX4_plain_46 : decode cX4_plain 46 = .ok (.getfield 10, 3) := by decide +kernel
theorem dX4_plain_49 : decode cX4_plain 49 = .ok (.getfield 51, 3) := by decide +kernel
theorem dX4_plain_52 : decode cX4_plain 52 = .ok (.if_icmp .ge 51, 3) := by decide +kernel
theorem dX4_plain_55 : decode cX4_plain 55 = .ok (.aload_n 0, 1) := by decide +kernel
theorem dX4_plain_56 : decode cX4_plain 56 = .ok (.getfield 10, 3) := by decide +kernel
theorem dX4_plain_59 : decode cX4_plain 59 = .ok (.getfield 76, 3) := by decide +kernel
theorem dX4_plain_62 : decode cX4_plain 62 = .ok (.iload_n 2, 1) := by decide +kernel
theorem dX4_plain_63 : decode cX4_plain 63 = .ok (.iaload, 1) := by decide +kernel
theorem dX4_plain_64 : decode cX4_plain 64 = .ok (.aload_n 0, 1) := by decide +kernel
theorem dX4_plain_65 : decode cX4_plain 65 = .ok (.getfield 16, 3) := by decide +kernel
theorem dX4_plain_68 : decode cX4_plain 68 = .ok (.getfield 76, 3) := by decide +kernel
theorem dX4_plain_71 : decode cX4_plain 71 = .ok (.iload_n 2, 1) := by decide +kernel
theorem dX4_plain_72 : decode cX4_plain 72 = .ok (.iaload, 1) := by decide +kernel
theorem dX4_plain_73 : decode cX4_plain 73 = .ok (.if_icmp .eq 6, 3) := by decide +kernel
theorem dX4_plain_76 : decode cX4_plain 76 = .ok (.iinc 1 1, 3) := by decide +kernel
theorem dX4_plain_79 : decode cX4_plain 79 = .ok (.aload_n 0, 1) := by decide +kernel
theorem dX4_plain_80 : decode cX4_plain 80 = .ok (.getfield 10, 3) := by decide +kernel
theorem dX4_plain_83 : decode cX4_plain 83 = .ok (.getfield 76, 3) := by decide +kernel
theorem dX4_plain_86 : decode cX4_plain 86 = .ok (.iload_n 2, 1) := by decide +kernel
theorem dX4_plain_87 : decode cX4_plain 87 = .ok (.aload_n 0, 1) := by decide +kernel
theorem dX4_plain_88 : decode cX4_plain 88 = .ok (.getfield 16, 3) := by decide +kernel
theorem dX4_plain_91 : decode cX4_plain 91 = .ok (.getfield 76, 3) := by decide +kernel
theorem dX4_plain_94 : decode cX4_plain 94 = .ok (.iload_n 2, 1) := by decide +kernel
theorem dX4_plain_95 : decode cX4_plain 95 = .ok (.iaload, 1) := by decide +kernel
theorem dX4_plain_96 : decode cX4_plain 96 = .ok (.iastore, 1) := by decide +kernel
theorem dX4_plain_97 : decode cX4_plain 97 = .ok (.iinc 2 1, 3) := by decide +kernel
theorem dX4_plain_100 : decode cX4_plain 100 = .ok (.goto (-56), 3) := by decide +kernel
theorem dX4_plain_103 : decode cX4_plain 103 = .ok (.iload_n 1, 1) := by decide +kernel
theorem dX4_plain_104 : decode cX4_plain 104 = .ok (.ireturn, 1) := by decide +kernel
theorem dX4_group_0 : decode cX4_group 0 = .ok (.aload_n 0, 1) := by decide +kernel
theorem dX4_group_1 : decode cX4_group 1 = .ok (.getfield 10, 3) := by decide +kernel
theorem dX4_group_4 : decode cX4_group 4 = .ok (.getfield 51, 3) := by decide +kernel
theorem dX4_group_7 : decode cX4_group 7 = .ok (.bipush 7, 2) := by decide +kernel
theorem dX4_group_9 : decode cX4_group 9 = .ok (.if_icmp .le 6, 3) := by decide +kernel
theorem dX4_group_12 : decode cX4_group 12 = .ok (.bipush (-3), 2) := by decide +kernel
theorem dX4_group_14 : decode cX4_group 14 = .ok (.ireturn, 1) := by decide +kernel
theorem dX4_group_15 : decode cX4_group 15 = .ok (.aload_n 0, 1) := by decide +kernel
theorem dX4_group_16 : decode cX4_group 16 = .ok (.getfield 29, 3) := by decide +kernel
theorem dX4_group_19 : decode cX4_group 19 = .ok (.aload_n 0, 1) := by decide +kernel
theorem dX4_group_20 : decode cX4_group 20 = .ok (.getfield 10, 3) := by decide +kernel
theorem dX4_group_23 : decode cX4_group 23 = .ok (.invokevirtual 147, 3) := by decide +kernel
theorem dX4_group_26 : decode cX4_group 26 = .ok (.ireturn, 1) := by decide +kernel
theorem dX4_kinds_0 : decode cX4_kinds 0 = .ok (.iload_n 1, 1) := by decide +kernel
theorem dX4_kinds_1 : decode cX4_kinds 1 = .ok (.iconst 1, 1) := by decide +kernel
theorem dX4_kinds_2 : decode cX4_kinds 2 = .ok (.if_icmp .lt 8, 3) := by decide +kernel
theorem dX4_kinds_5 : decode cX4_kinds 5 = .ok (.iload_n 1, 1) := by decide +kernel
theorem dX4_kinds_6 : decode cX4_kinds 6 = .ok (.iconst 5, 1) := by decide +kernel
theorem dX4_kinds_7 : decode cX4_kinds 7 = .ok (.if_icmp .le 6, 3) := by decide +kernel
theorem dX4_kinds_10 : decode cX4_kinds 10 = .ok (.bipush (-2), 2) := by decide +kernel
theorem dX4_kinds_12 : decode cX4_kinds 12 = .ok (.ireturn, 1) := by decide +kernel
theorem dX4_kinds_13 : decode cX4_kinds 13 = .ok (.iconst 1, 1) := by decide +kernel
theorem dX4_kinds_14 : decode cX4_kinds 14 = .ok (.iload_n 1, 1) := by decide +kernel
theorem dX4_kinds_15 : decode cX4_kinds 15 = .ok (.iconst 1, 1) := by decide +kernel
theorem dX4_kinds_16 : decode cX4_kinds 16 = .ok (.isub, 1) := by decide +kernel
theorem dX4_kinds_17 : decode cX4_kinds 17 = .ok (.iload_n 1, 1) := by decide +kernel
theorem dX4_kinds_18 : decode cX4_kinds 18 = .ok (.iconst 2, 1) := by decide +kernel
theorem dX4_kinds_19 : decode cX4_kinds 19 = .ok (.isub, 1) := by decide +kernel
theorem dX4_kinds_20 : decode cX4_kinds 20 = .ok (.imul, 1) := by decide +kernel
theorem dX4_kinds_21 : decode cX4_kinds 21 = .ok (.iconst 2, 1) := by decide +kernel
theorem dX4_kinds_22 : decode cX4_kinds 22 = .ok (.idiv, 1) := by decide +kernel
theorem dX4_kinds_23 : decode cX4_kinds 23 = .ok (.ishl, 1) := by decide +kernel
theorem dX4_kinds_24 : decode cX4_kinds 24 = .ok (.istore_n 2, 1) := by decide +kernel
theorem dX4_kinds_25 : decode cX4_kinds 25 = .ok (.iconst 0, 1) := by decide +kernel
theorem dX4_kinds_26 : decode cX4_kinds 26 = .ok (.istore_n 3, 1) := by decide +kernel
theorem dX4_kinds_27 : decode cX4_kinds 27 = .ok (.iconst 0, 1) := by decide +kernel
theorem dX4_kinds_28 : decode cX4_kinds 28 = .ok (.istore 4, 2) := by decide +kernel
theorem dX4_kinds_30 : decode cX4_kinds 30 = .ok (.iload 4, 2) := by decide +kernel
theorem dX4_kinds_32 : decode cX4_kinds 32 = .ok (.iload_n 2, 1) := by decide +kernel
theorem dX4_kinds_33 : decode cX4_kinds 33 = .ok (.if_icmp .ge 38, 3) := by decide +kernel
theorem dX4_kinds_36 : decode cX4_kinds 36 = .ok (.aload_n 0, 1) := by decide +kernel
theorem dX4_kinds_37 : decode cX4_kinds 37 = .ok (.getfield 16, 3) := by decide +kernel
theorem dX4_kinds_40 : decode cX4_kinds 40 = .ok (.iload_n 1, 1) := by decide +kernel
theorem dX4_kinds_41 : decode cX4_kinds 41 = .ok (.iload 4, 2) := by decide +kernel
theorem dX4_kinds_43 : decode cX4_kinds 43 = .ok (.invokevirtual 144, 3) := by decide +kernel
theorem dX4_kinds_46 : decode cX4_kinds 46 = .ok (.aload_n 0, 1) := by decide +kernel
theorem dX4_kinds_47 : decode cX4_kinds 47 = .ok (.getfield 29, 3) := by decide +kernel
theorem dX4_kinds_50 : decode cX4_kinds 50 = .ok (.aload_n 0, 1) := by decide +kernel
theorem dX4_kinds_51 : decode cX4_kinds 51 = .ok (.getfield 16, 3) := by decide +kernel
theorem dX4_kinds_54 : decode cX4_kinds 54 = .ok (.invokevirtual 140, 3) := by decide +kernel
theorem dX4_kinds_57 : decode cX4_kinds 57 = .ok (.iload 4, 2) := by decide +kernel
theorem dX4_kinds_59 : decode cX4_kinds 59 = .ok (.if_icmp .ne 6, 3) := by decide +kernel
theorem dX4_kinds_62 : decode cX4_kinds 62 = .ok (.iinc 3 1, 3) := by decide +kernel
theorem dX4_kinds_65 : decode cX4_kinds 65 = .ok (.iinc 4 1, 3) := by decide +kernel
theorem dX4_kinds_68 : decode cX4_kinds 68 = .ok (.goto (-38), 3) := by decide +kernel
theorem dX4_kinds_71 : decode cX4_kinds 71 = .ok (.iload_n 3, 1) := by decide +kernel
theorem dX4_kinds_72 : decode cX4_kinds 72 = .ok (.ireturn, 1) := by decide +kernel
theorem dX4_hits_0 : decode cX4_hits 0 = .ok (.iload_n 1, 1) := by decide +kernel
theorem dX4_hits_1 : decode cX4_hits 1 = .ok (.iload_n 2, 1) := by decide +kernel
theorem dX4_hits_2 : decode cX4_hits 2 = .ok (.invokestatic 150, 3) := by decide +kernel
theorem dX4_hits_5 : decode cX4_hits 5 = .ok (.ifCond .eq 13, 3) := by decide +kernel
theorem dX4_hits_8 : decode cX4_hits 8 = .ok (.iload_n 3, 1) := by decide +kernel
theorem dX4_hits_9 : decode cX4_hits 9 = .ok (.iconst 1, 1) := by decide +kernel
theorem dX4_hits_10 : decode cX4_hits 10 = .ok (.if_icmp .lt 8, 3) := by decide +kernel
theorem dX4_hits_13 : decode cX4_hits 13 = .ok (.iload_n 3, 1) := by decide +kernel
theorem dX4_hits_14 : decode cX4_hits 14 = .ok (.iload_n 1, 1) := by decide +kernel
theorem dX4_hits_15 : decode cX4_hits 15 = .ok (.if_icmp .lt 6, 3) := by decide +kernel
theorem dX4_hits_18 : decode cX4_hits 18 = .ok (.bipush (-2), 2) := by decide +kernel
theorem dX4_hits_20 : decode cX4_hits 20 = .ok (.ireturn, 1) := by decide +kernel
theorem dX4_hits_21 : decode cX4_hits 21 = .ok (.iload_n 1, 1) := by decide +kernel
theorem dX4_hits_22 : decode cX4_hits 22 = .ok (.iload_n 2, 1) := by decide +kernel
theorem dX4_hits_23 : decode cX4_hits 23 = .ok (.iload_n 3, 1) := by decide +kernel
theorem dX4_hits_24 : decode cX4_hits 24 = .ok (.invokestatic 153, 3) := by decide +kernel
theorem dX4_hits_27 : decode cX4_hits 27 = .ok (.ireturn, 1) := by decide +kernel
theorem dX4_even_0 : decode cX4_even 0 = .ok (.iload_n 1, 1) := by decide +kernel
theorem dX4_even_1 : decode cX4_even 1 = .ok (.iload_n 2, 1) := by decide +kernel
theorem dX4_even_2 : decode cX4_even 2 = .ok (.invokestatic 150, 3) := by decide +kernel
theorem dX4_even_5 : decode cX4_even 5 = .ok (.ifCond .ne 6, 3) := by decide +kernel
theorem dX4_even_8 : decode cX4_even 8 = .ok (.bipush (-2), 2) := by decide +kernel
theorem dX4_even_10 : decode cX4_even 10 = .ok (.ireturn, 1) := by decide +kernel
theorem dX4_even_11 : decode cX4_even 11 = .ok (.iload_n 1, 1) := by decide +kernel
theorem dX4_even_12 : decode cX4_even 12 = .ok (.iload_n 2, 1) := by decide +kernel
theorem dX4_even_13 : decode cX4_even 13 = .ok (.invokestatic 157, 3) := by decide +kernel
theorem dX4_even_16 : decode cX4_even 16 = .ok (.ireturn, 1) := by decide +kernel
theorem dX4_welch_0 : decode cX4_welch 0 = .ok (.iload_n 1, 1) := by decide +kernel
theorem dX4_welch_1 : decode cX4_welch 1 = .ok (.invokestatic 160, 3) := by decide +kernel
theorem dX4_welch_4 : decode cX4_welch 4 = .ok (.ifCond .eq 13, 3) := by decide +kernel
theorem dX4_welch_7 : decode cX4_welch 7 = .ok (.iload_n 2, 1) := by decide +kernel
theorem dX4_welch_8 : decode cX4_welch 8 = .ok (.iconst 1, 1) := by decide +kernel
theorem dX4_welch_9 : decode cX4_welch 9 = .ok (.if_icmp .lt 8, 3) := by decide +kernel
theorem dX4_welch_12 : decode cX4_welch 12 = .ok (.iload_n 2, 1) := by decide +kernel
theorem dX4_welch_13 : decode cX4_welch 13 = .ok (.iload_n 1, 1) := by decide +kernel
theorem dX4_welch_14 : decode cX4_welch 14 = .ok (.if_icmp .le 6, 3) := by decide +kernel
theorem dX4_welch_17 : decode cX4_welch 17 = .ok (.bipush (-2), 2) := by decide +kernel
theorem dX4_welch_19 : decode cX4_welch 19 = .ok (.ireturn, 1) := by decide +kernel
theorem dX4_welch_20 : decode cX4_welch 20 = .ok (.iload_n 1, 1) := by decide +kernel
theorem dX4_welch_21 : decode cX4_welch 21 = .ok (.iload_n 2, 1) := by decide +kernel
theorem dX4_welch_22 : decode cX4_welch 22 = .ok (.isub, 1) := by decide +kernel
theorem dX4_welch_23 : decode cX4_welch 23 = .ok (.ldc 163, 2) := by decide +kernel
theorem dX4_welch_25 : decode cX4_welch 25 = .ok (.imul, 1) := by decide +kernel
theorem dX4_welch_26 : decode cX4_welch 26 = .ok (.iload_n 2, 1) := by decide +kernel
theorem dX4_welch_27 : decode cX4_welch 27 = .ok (.iload_n 1, 1) := by decide +kernel
theorem dX4_welch_28 : decode cX4_welch 28 = .ok (.iconst 1, 1) := by decide +kernel
theorem dX4_welch_29 : decode cX4_welch 29 = .ok (.isub, 1) := by decide +kernel
theorem dX4_welch_30 : decode cX4_welch 30 = .ok (.imul, 1) := by decide +kernel
theorem dX4_welch_31 : decode cX4_welch 31 = .ok (.idiv, 1) := by decide +kernel
theorem dX4_welch_32 : decode cX4_welch 32 = .ok (.ireturn, 1) := by decide +kernel
theorem dX4_multipliers_0 : decode cX4_multipliers 0 = .ok (.iload_n 1, 1) := by decide +kernel
theorem dX4_multipliers_1 : decode cX4_multipliers 1 = .ok (.iload_n 2, 1) := by decide +kernel
theorem dX4_multipliers_2 : decode cX4_multipliers 2 = .ok (.invokestatic 150, 3) := by decide +kernel
theorem dX4_multipliers_5 : decode cX4_multipliers 5 = .ok (.ifCond .ne 6, 3) := by decide +kernel
theorem dX4_multipliers_8 : decode cX4_multipliers 8 = .ok (.bipush (-2), 2) := by decide +kernel
theorem dX4_multipliers_10 : decode cX4_multipliers 10 = .ok (.ireturn, 1) := by decide +kernel
theorem dX4_multipliers_11 : decode cX4_multipliers 11 = .ok (.iload_n 1, 1) := by decide +kernel
theorem dX4_multipliers_12 : decode cX4_multipliers 12 = .ok (.invokestatic 164, 3) := by decide +kernel
theorem dX4_multipliers_15 : decode cX4_multipliers 15 = .ok (.istore_n 3, 1) := by decide +kernel
theorem dX4_multipliers_16 : decode cX4_multipliers 16 = .ok (.iconst 0, 1) := by decide +kernel
theorem dX4_multipliers_17 : decode cX4_multipliers 17 = .ok (.istore 4, 2) := by decide +kernel
theorem dX4_multipliers_19 : decode cX4_multipliers 19 = .ok (.iconst 1, 1) := by decide +kernel
theorem dX4_multipliers_20 : decode cX4_multipliers 20 = .ok (.istore 5, 2) := by decide +kernel
theorem dX4_multipliers_22 : decode cX4_multipliers 22 = .ok (.iload 5, 2) := by decide +kernel
theorem dX4_multipliers_24 : decode cX4_multipliers 24 = .ok (.iload_n 1, 1) := by decide +kernel
theorem dX4_multipliers_25 : decode cX4_multipliers 25 = .ok (.if_icmp .ge 50, 3) := by decide +kernel
theorem dX4_multipliers_28 : decode cX4_multipliers 28 = .ok (.iload_n 1, 1) := by decide +kernel
theorem dX4_multipliers_29 : decode cX4_multipliers 29 = .ok (.iload_n 3, 1) := by decide +kernel
theorem dX4_multipliers_30 : decode cX4_multipliers 30 = .ok (.iload 5, 2) := by decide +kernel
theorem dX4_multipliers_32 : decode cX4_multipliers 32 = .ok (.invokestatic 167, 3) := by decide +kernel
theorem dX4_multipliers_35 : decode cX4_multipliers 35 = .ok (.iload_n 3, 1) := by decide +kernel
theorem dX4_multipliers_36 : decode cX4_multipliers 36 = .ok (.if_icmp .ne 7, 3) := by decide +kernel
theorem dX4_multipliers_39 : decode cX4_multipliers 39 = .ok (.iconst 1, 1) := by decide +kernel
theorem dX4_multipliers_40 : decode cX4_multipliers 40 = .ok (.goto 4, 3) := by decide +kernel
theorem dX4_multipliers_43 : decode cX4_multipliers 43 = .ok (.iconst 0, 1) := by decide +kernel
theorem dX4_multipliers_44 : decode cX4_multipliers 44 = .ok (.istore 6, 2) := by decide +kernel
theorem dX4_multipliers_46 : decode cX4_multipliers 46 = .ok (.iload 6, 2) := by decide +kernel
theorem dX4_multipliers_48 : decode cX4_multipliers 48 = .ok (.ifCond .eq 21, 3) := by decide +kernel
theorem dX4_multipliers_51 : decode cX4_multipliers 51 = .ok (.iload_n 1, 1) := by decide +kernel
theorem dX4_multipliers_52 : decode cX4_multipliers 52 = .ok (.iload_n 2, 1) := by decide +kernel
theorem dX4_multipliers_53 : decode cX4_multipliers 53 = .ok (.iload_n 1, 1) := by decide +kernel
theorem dX4_multipliers_54 : decode cX4_multipliers 54 = .ok (.iload_n 2, 1) := by decide +kernel
theorem dX4_multipliers_55 : decode cX4_multipliers 55 = .ok (.iload 5, 2) := by decide +kernel
theorem dX4_multipliers_57 : decode cX4_multipliers 57 = .ok (.invokestatic 167, 3) := by decide +kernel
theorem dX4_multipliers_60 : decode cX4_multipliers 60 = .ok (.invokestatic 170, 3) := by decide +kernel
theorem dX4_multipliers_63 : decode cX4_multipliers 63 = .ok (.ifCond .eq 6, 3) := by decide +kernel
theorem dX4_multipliers_66 : decode cX4_multipliers 66 = .ok (.iinc 4 1, 3) := by decide +kernel
theorem dX4_multipliers_69 : decode cX4_multipliers 69 = .ok (.iinc 5 1, 3) := by decide +kernel
theorem dX4_multipliers_72 : decode cX4_multipliers 72 = .ok (.goto (-50), 3) := by decide +kernel
theorem dX4_multipliers_75 : decode cX4_multipliers 75 = .ok (.iload 4, 2) := by decide +kernel
theorem dX4_multipliers_77 : decode cX4_multipliers 77 = .ok (.ireturn, 1) := by decide +kernel
theorem dX4_find_0 : decode cX4_find 0 = .ok (.iload_n 1, 1) := by decide +kernel
theorem dX4_find_1 : decode cX4_find 1 = .ok (.invokestatic 160, 3) := by decide +kernel
theorem dX4_find_4 : decode cX4_find 4 = .ok (.ifCond .eq 19, 3) := by decide +kernel
theorem dX4_find_7 : decode cX4_find 7 = .ok (.iload_n 1, 1) := by decide +kernel
theorem dX4_find_8 : decode cX4_find 8 = .ok (.bipush 15, 2) := by decide +kernel
theorem dX4_find_10 : decode cX4_find 10 = .ok (.if_icmp .gt 13, 3) := by decide +kernel
theorem dX4_find_13 : decode cX4_find 13 = .ok (.iload_n 2, 1) := by decide +kernel
theorem dX4_find_14 : decode cX4_find 14 = .ok (.iconst 1, 1) := by decide +kernel
theorem dX4_find_15 : decode cX4_find 15 = .ok (.if_icmp .lt 8, 3) := by decide +kernel
theorem dX4_find_18 : decode cX4_find 18 = .ok (.iload_n 2, 1) := by decide +kernel
theorem dX4_find_19 : decode cX4_find 19 = .ok (.iload_n 1, 1) := by decide +kernel
theorem dX4_find_20 : decode cX4_find 20 = .ok (.if_icmp .le 6, 3) := by decide +kernel
theorem dX4_find_23 : decode cX4_find 23 = .ok (.bipush (-2), 2) := by decide +kernel
theorem dX4_find_25 : decode cX4_find 25 = .ok (.ireturn, 1) := by decide +kernel
theorem dX4_find_26 : decode cX4_find 26 = .ok (.iload_n 2, 1) := by decide +kernel
theorem dX4_find_27 : decode cX4_find 27 = .ok (.iload_n 2, 1) := by decide +kernel
theorem dX4_find_28 : decode cX4_find 28 = .ok (.iconst 1, 1) := by decide +kernel
theorem dX4_find_29 : decode cX4_find 29 = .ok (.isub, 1) := by decide +kernel
theorem dX4_find_30 : decode cX4_find 30 = .ok (.imul, 1) := by decide +kernel
theorem dX4_find_31 : decode cX4_find 31 = .ok (.iload_n 1, 1) := by decide +kernel
theorem dX4_find_32 : decode cX4_find 32 = .ok (.iconst 1, 1) := by decide +kernel
theorem dX4_find_33 : decode cX4_find 33 = .ok (.isub, 1) := by decide +kernel
theorem dX4_find_34 : decode cX4_find 34 = .ok (.irem, 1) := by decide +kernel
theorem dX4_find_35 : decode cX4_find 35 = .ok (.ifCond .eq 5, 3) := by decide +kernel
theorem dX4_find_38 : decode cX4_find 38 = .ok (.iconst (-1), 1) := by decide +kernel
theorem dX4_find_39 : decode cX4_find 39 = .ok (.ireturn, 1) := by decide +kernel
theorem dX4_find_40 : decode cX4_find 40 = .ok (.iconst 1, 1) := by decide +kernel
theorem dX4_find_41 : decode cX4_find 41 = .ok (.istore_n 3, 1) := by decide +kernel
theorem dX4_find_42 : decode cX4_find 42 = .ok (.iload_n 3, 1) := by decide +kernel
theorem dX4_find_43 : decode cX4_find 43 = .ok (.iconst 1, 1) := by decide +kernel
theorem dX4_find_44 : decode cX4_find 44 = .ok (.iload_n 1, 1) := by decide +kernel
theorem dX4_find_45 : decode cX4_find 45 = .ok (.ishl, 1) := by decide +kernel
theorem dX4_find_46 : decode cX4_find 46 = .ok (.if_icmp .ge 28, 3) := by decide +kernel
theorem dX4_find_49 : decode cX4_find 49 = .ok (.iload_n 3, 1) := by decide +kernel
theorem dX4_find_50 : decode cX4_find 50 = .ok (.invokestatic 80, 3) := by decide +kernel
theorem dX4_find_53 : decode cX4_find 53 = .ok (.iload_n 2, 1) := by decide +kernel
theorem dX4_find_54 : decode cX4_find 54 = .ok (.if_icmp .ne 14, 3) := by decide +kernel
theorem dX4_find_57 : decode cX4_find 57 = .ok (.iload_n 1, 1) := by decide +kernel
theorem dX4_find_58 : decode cX4_find 58 = .ok (.iload_n 3, 1) := by decide +kernel
theorem dX4_find_59 : decode cX4_find 59 = .ok (.invokestatic 157, 3) := by decide +kernel
theorem dX4_find_62 : decode cX4_find 62 = .ok (.iconst (-1), 1) := by decide +kernel
theorem dX4_find_63 : decode cX4_find 63 = .ok (.if_icmp .eq 5, 3) := by decide +kernel
theorem dX4_find_66 : decode cX4_find 66 = .ok (.iload_n 3, 1) := by decide +kernel
theorem dX4_find_67 : decode cX4_find 67 = .ok (.ireturn, 1) := by decide +kernel
theorem dX4_find_68 : decode cX4_find 68 = .ok (.iinc 3 2, 3) := by decide +kernel
theorem dX4_find_71 : decode cX4_find 71 = .ok (.goto (-29), 3) := by decide +kernel
theorem dX4_find_74 : decode cX4_find 74 = .ok (.iconst (-1), 1) := by decide +kernel
theorem dX4_find_75 : decode cX4_find 75 = .ok (.ireturn, 1) := by decide +kernel
theorem dX4_isRound_0 : decode cX4_isRound 0 = .ok (.iload_n 0, 1) := by decide +kernel
theorem dX4_isRound_1 : decode cX4_isRound 1 = .ok (.iconst 2, 1) := by decide +kernel
theorem dX4_isRound_2 : decode cX4_isRound 2 = .ok (.if_icmp .lt 13, 3) := by decide +kernel
theorem dX4_isRound_5 : decode cX4_isRound 5 = .ok (.iload_n 0, 1) := by decide +kernel
theorem dX4_isRound_6 : decode cX4_isRound 6 = .ok (.bipush 31, 2) := by decide +kernel
theorem dX4_isRound_8 : decode cX4_isRound 8 = .ok (.if_icmp .gt 7, 3) := by decide +kernel
theorem dX4_isRound_11 : decode cX4_isRound 11 = .ok (.iconst 1, 1) := by decide +kernel
theorem dX4_isRound_12 : decode cX4_isRound 12 = .ok (.goto 4, 3) := by decide +kernel
theorem dX4_isRound_15 : decode cX4_isRound 15 = .ok (.iconst 0, 1) := by decide +kernel
theorem dX4_isRound_16 : decode cX4_isRound 16 = .ok (.ireturn, 1) := by decide +kernel
theorem dX4_isSet_0 : decode cX4_isSet 0 = .ok (.iload_n 0, 1) := by decide +kernel
theorem dX4_isSet_1 : decode cX4_isSet 1 = .ok (.invokestatic 160, 3) := by decide +kernel
theorem dX4_isSet_4 : decode cX4_isSet 4 = .ok (.ifCond .eq 13, 3) := by decide +kernel
theorem dX4_isSet_7 : decode cX4_isSet 7 = .ok (.iload_n 1, 1) := by decide +kernel
theorem dX4_isSet_8 : decode cX4_isSet 8 = .ok (.iload_n 0, 1) := by decide +kernel
theorem dX4_isSet_9 : decode cX4_isSet 9 = .ok (.iushr, 1) := by decide +kernel
theorem dX4_isSet_10 : decode cX4_isSet 10 = .ok (.ifCond .ne 7, 3) := by decide +kernel
theorem dX4_isSet_13 : decode cX4_isSet 13 = .ok (.iconst 1, 1) := by decide +kernel
theorem dX4_isSet_14 : decode cX4_isSet 14 = .ok (.goto 4, 3) := by decide +kernel
theorem dX4_isSet_17 : decode cX4_isSet 17 = .ok (.iconst 0, 1) := by decide +kernel
theorem dX4_isSet_18 : decode cX4_isSet 18 = .ok (.ireturn, 1) := by decide +kernel
theorem dX4_allOfRound_0 : decode cX4_allOfRound 0 = .ok (.iconst (-1), 1) := by decide +kernel
theorem dX4_allOfRound_1 : decode cX4_allOfRound 1 = .ok (.bipush 32, 2) := by decide +kernel
theorem dX4_allOfRound_3 : decode cX4_allOfRound 3 = .ok (.iload_n 0, 1) := by decide +kernel
theorem dX4_allOfRound_4 : decode cX4_allOfRound 4 = .ok (.isub, 1) := by decide +kernel
theorem dX4_allOfRound_5 : decode cX4_allOfRound 5 = .ok (.iushr, 1) := by decide +kernel
theorem dX4_allOfRound_6 : decode cX4_allOfRound 6 = .ok (.ireturn, 1) := by decide +kernel
theorem dX4_movedRound_0 : decode cX4_movedRound 0 = .ok (.iload_n 1, 1) := by decide +kernel
theorem dX4_movedRound_1 : decode cX4_movedRound 1 = .ok (.iload_n 2, 1) := by decide +kernel
theorem dX4_movedRound_2 : decode cX4_movedRound 2 = .ok (.ishl, 1) := by decide +kernel
theorem dX4_movedRound_3 : decode cX4_movedRound 3 = .ok (.iload_n 1, 1) := by decide +kernel
theorem dX4_movedRound_4 : decode cX4_movedRound 4 = .ok (.iload_n 0, 1) := by decide +kernel
theorem dX4_movedRound_5 : decode cX4_movedRound 5 = .ok (.iload_n 2, 1) := by decide +kernel
theorem dX4_movedRound_6 : decode cX4_movedRound 6 = .ok (.isub, 1) := by decide +kernel
theorem dX4_movedRound_7 : decode cX4_movedRound 7 = .ok (.iushr, 1) := by decide +kernel
theorem dX4_movedRound_8 : decode cX4_movedRound 8 = .ok (.ior, 1) := by decide +kernel
theorem dX4_movedRound_9 : decode cX4_movedRound 9 = .ok (.iload_n 0, 1) := by decide +kernel
theorem dX4_movedRound_10 : decode cX4_movedRound 10 = .ok (.invokestatic 164, 3) := by decide +kernel
theorem dX4_movedRound_13 : decode cX4_movedRound 13 = .ok (.iand, 1) := by decide +kernel
theorem dX4_movedRound_14 : decode cX4_movedRound 14 = .ok (.ireturn, 1) := by decide +kernel
theorem dX4_hitsOfStep_0 : decode cX4_hitsOfStep 0 = .ok (.iload_n 1, 1) := by decide +kernel
theorem dX4_hitsOfStep_1 : decode cX4_hitsOfStep 1 = .ok (.iload_n 0, 1) := by decide +kernel
theorem dX4_hitsOfStep_2 : decode cX4_hitsOfStep 2 = .ok (.iload_n 1, 1) := by decide +kernel
theorem dX4_hitsOfStep_3 : decode cX4_hitsOfStep 3 = .ok (.iload_n 2, 1) := by decide +kernel
theorem dX4_hitsOfStep_4 : decode cX4_hitsOfStep 4 = .ok (.invokestatic 174, 3) := by decide +kernel
theorem dX4_hitsOfStep_7 : decode cX4_hitsOfStep 7 = .ok (.iand, 1) := by decide +kernel
theorem dX4_hitsOfStep_8 : decode cX4_hitsOfStep 8 = .ok (.invokestatic 80, 3) := by decide +kernel
theorem dX4_hitsOfStep_11 : decode cX4_hitsOfStep 11 = .ok (.ireturn, 1) := by decide +kernel
theorem dX4_evenHits_0 : decode cX4_evenHits 0 = .ok (.iload_n 0, 1) := by decide +kernel
theorem dX4_evenHits_1 : decode cX4_evenHits 1 = .ok (.iload_n 1, 1) := by decide +kernel
theorem dX4_evenHits_2 : decode cX4_evenHits 2 = .ok (.iconst 1, 1) := by decide +kernel
theorem dX4_evenHits_3 : decode cX4_evenHits 3 = .ok (.invokestatic 153, 3) := by decide +kernel
theorem dX4_evenHits_6 : decode cX4_evenHits 6 = .ok (.istore_n 2, 1) := by decide +kernel
theorem dX4_evenHits_7 : decode cX4_evenHits 7 = .ok (.iconst 2, 1) := by decide +kernel
theorem dX4_evenHits_8 : decode cX4_evenHits 8 = .ok (.istore_n 3, 1) := by decide +kernel
theorem dX4_evenHits_9 : decode cX4_evenHits 9 = .ok (.iload_n 3, 1) := by decide +kernel
theorem dX4_evenHits_10 : decode cX4_evenHits 10 = .ok (.iload_n 0, 1) := by decide +kernel
theorem dX4_evenHits_11 : decode cX4_evenHits 11 = .ok (.if_icmp .ge 21, 3) := by decide +kernel
theorem dX4_evenHits_14 : decode cX4_evenHits 14 = .ok (.iload_n 0, 1) := by decide +kernel
theorem dX4_evenHits_15 : decode cX4_evenHits 15 = .ok (.iload_n 1, 1) := by decide +kernel
theorem dX4_evenHits_16 : decode cX4_evenHits 16 = .ok (.iload_n 3, 1) := by decide +kernel
theorem dX4_evenHits_17 : decode cX4_evenHits 17 = .ok (.invokestatic 153, 3) := by decide +kernel
theorem dX4_evenHits_20 : decode cX4_evenHits 20 = .ok (.iload_n 2, 1) := by decide +kernel
theorem dX4_evenHits_21 : decode cX4_evenHits 21 = .ok (.if_icmp .eq 5, 3) := by decide +kernel
theorem dX4_evenHits_24 : decode cX4_evenHits 24 = .ok (.iconst (-1), 1) := by decide +kernel
theorem dX4_evenHits_25 : decode cX4_evenHits 25 = .ok (.ireturn, 1) := by decide +kernel
theorem dX4_evenHits_26 : decode cX4_evenHits 26 = .ok (.iinc 3 1, 3) := by decide +kernel
theorem dX4_evenHits_29 : decode cX4_evenHits 29 = .ok (.goto (-20), 3) := by decide +kernel
theorem dX4_evenHits_32 : decode cX4_evenHits 32 = .ok (.iload_n 2, 1) := by decide +kernel
theorem dX4_evenHits_33 : decode cX4_evenHits 33 = .ok (.ireturn, 1) := by decide +kernel
theorem dX4_multiplied_0 : decode cX4_multiplied 0 = .ok (.iconst 0, 1) := by decide +kernel
theorem dX4_multiplied_1 : decode cX4_multiplied 1 = .ok (.istore_n 3, 1) := by decide +kernel
theorem dX4_multiplied_2 : decode cX4_multiplied 2 = .ok (.iconst 0, 1) := by decide +kernel
theorem dX4_multiplied_3 : decode cX4_multiplied 3 = .ok (.istore 4, 2) := by decide +kernel
theorem dX4_multiplied_5 : decode cX4_multiplied 5 = .ok (.iload 4, 2) := by decide +kernel
theorem dX4_multiplied_7 : decode cX4_multiplied 7 = .ok (.iload_n 0, 1) := by decide +kernel
theorem dX4_multiplied_8 : decode cX4_multiplied 8 = .ok (.if_icmp .ge 29, 3) := by decide +kernel
theorem dX4_multiplied_11 : decode cX4_multiplied 11 = .ok (.iload_n 1, 1) := by decide +kernel
theorem dX4_multiplied_12 : decode cX4_multiplied 12 = .ok (.iload 4, 2) := by decide +kernel
theorem dX4_multiplied_14 : decode cX4_multiplied 14 = .ok (.iushr, 1) := by decide +kernel
theorem dX4_multiplied_15 : decode cX4_multiplied 15 = .ok (.iconst 1, 1) := by decide +kernel
theorem dX4_multiplied_16 : decode cX4_multiplied 16 = .ok (.iand, 1) := by decide +kernel
theorem dX4_multiplied_17 : decode cX4_multiplied 17 = .ok (.ifCond .eq 14, 3) := by decide +kernel
theorem dX4_multiplied_20 : decode cX4_multiplied 20 = .ok (.iload_n 3, 1) := by decide +kernel
theorem dX4_multiplied_21 : decode cX4_multiplied 21 = .ok (.iconst 1, 1) := by decide +kernel
theorem dX4_multiplied_22 : decode cX4_multiplied 22 = .ok (.iload_n 2, 1) := by decide +kernel
theorem dX4_multiplied_23 : decode cX4_multiplied 23 = .ok (.iload 4, 2) := by decide +kernel
theorem dX4_multiplied_25 : decode cX4_multiplied 25 = .ok (.imul, 1) := by decide +kernel
theorem dX4_multiplied_26 : decode cX4_multiplied 26 = .ok (.iload_n 0, 1) := by decide +kernel
theorem dX4_multiplied_27 : decode cX4_multiplied 27 = .ok (.irem, 1) := by decide +kernel
theorem dX4_multiplied_28 : decode cX4_multiplied 28 = .ok (.ishl, 1) := by decide +kernel
theorem dX4_multiplied_29 : decode cX4_multiplied 29 = .ok (.ior, 1) := by decide +kernel
theorem dX4_multiplied_30 : decode cX4_multiplied 30 = .ok (.istore_n 3, 1) := by decide +kernel
theorem dX4_multiplied_31 : decode cX4_multiplied 31 = .ok (.iinc 4 1, 3) := by decide +kernel
theorem dX4_multiplied_34 : decode cX4_multiplied 34 = .ok (.goto (-29), 3) := by decide +kernel
theorem dX4_multiplied_37 : decode cX4_multiplied 37 = .ok (.iload_n 3, 1) := by decide +kernel
theorem dX4_multiplied_38 : decode cX4_multiplied 38 = .ok (.ireturn, 1) := by decide +kernel
theorem dX4_isMovedRound_0 : decode cX4_isMovedRound 0 = .ok (.iconst 0, 1) := by decide +kernel
theorem dX4_isMovedRound_1 : decode cX4_isMovedRound 1 = .ok (.istore_n 3, 1) := by decide +kernel
theorem dX4_isMovedRound_2 : decode cX4_isMovedRound 2 = .ok (.iload_n 3, 1) := by decide +kernel
theorem dX4_isMovedRound_3 : decode cX4_isMovedRound 3 = .ok (.iload_n 0, 1) := by decide +kernel
theorem dX4_isMovedRound_4 : decode cX4_isMovedRound 4 = .ok (.if_icmp .ge 21, 3) := by decide +kernel
theorem dX4_isMovedRound_7 : decode cX4_isMovedRound 7 = .ok (.iload_n 0, 1) := by decide +kernel
theorem dX4_isMovedRound_8 : decode cX4_isMovedRound 8 = .ok (.iload_n 1, 1) := by decide +kernel
theorem dX4_isMovedRound_9 : decode cX4_isMovedRound 9 = .ok (.iload_n 3, 1) := by decide +kernel
theorem dX4_isMovedRound_10 : decode cX4_isMovedRound 10 = .ok (.invokestatic 174, 3) := by decide +kernel
theorem dX4_isMovedRound_13 : decode cX4_isMovedRound 13 = .ok (.iload_n 2, 1) := by decide +kernel
theorem dX4_isMovedRound_14 : decode cX4_isMovedRound 14 = .ok (.if_icmp .ne 5, 3) := by decide +kernel
theorem dX4_isMovedRound_17 : decode cX4_isMovedRound 17 = .ok (.iconst 1, 1) := by decide +kernel
theorem dX4_isMovedRound_18 : decode cX4_isMovedRound 18 = .ok (.ireturn, 1) := by decide +kernel
theorem dX4_isMovedRound_19 : decode cX4_isMovedRound 19 = .ok (.iinc 3 1, 3) := by decide +kernel
theorem dX4_isMovedRound_22 : decode cX4_isMovedRound 22 = .ok (.goto (-20), 3) := by decide +kernel
theorem dX4_isMovedRound_25 : decode cX4_isMovedRound 25 = .ok (.iconst 0, 1) := by decide +kernel
theorem dX4_isMovedRound_26 : decode cX4_isMovedRound 26 = .ok (.ireturn, 1) := by decide +kernel
theorem dX4_sheet_0 : decode cX4_sheet 0 = .ok (.iload_n 1, 1) := by decide +kernel
theorem dX4_sheet_1 : decode cX4_sheet 1 = .ok (.invokestatic 177, 3) := by decide +kernel
theorem dX4_sheet_4 : decode cX4_sheet 4 = .ok (.ifCond .eq 16, 3) := by decide +kernel
theorem dX4_sheet_7 : decode cX4_sheet 7 = .ok (.iload_n 2, 1) := by decide +kernel
theorem dX4_sheet_8 : decode cX4_sheet 8 = .ok (.invokestatic 180, 3) := by decide +kernel
theorem dX4_sheet_11 : decode cX4_sheet 11 = .ok (.ifCond .eq 9, 3) := by decide +kernel
theorem dX4_sheet_14 : decode cX4_sheet 14 = .ok (.iload_n 3, 1) := by decide +kernel
theorem dX4_sheet_15 : decode cX4_sheet 15 = .ok (.bipush 100, 2) := by decide +kernel
theorem dX4_sheet_17 : decode cX4_sheet 17 = .ok (.if_icmp .le 6, 3) := by decide +kernel
theorem dX4_sheet_20 : decode cX4_sheet 20 = .ok (.bipush (-2), 2) := by decide +kernel
theorem dX4_sheet_22 : decode cX4_sheet 22 = .ok (.ireturn, 1) := by decide +kernel
theorem dX4_sheet_23 : decode cX4_sheet 23 = .ok (.iload_n 3, 1) := by decide +kernel
theorem dX4_sheet_24 : decode cX4_sheet 24 = .ok (.ifCond .ge 9, 3) := by decide +kernel
theorem dX4_sheet_27 : decode cX4_sheet 27 = .ok (.aload_n 0, 1) := by decide +kernel
theorem dX4_sheet_28 : decode cX4_sheet 28 = .ok (.iconst 5, 1) := by decide +kernel
theorem dX4_sheet_29 : decode cX4_sheet 29 = .ok (.invokevirtual 183, 3) := by decide +kernel
theorem dX4_sheet_32 : decode cX4_sheet 32 = .ok (.ireturn, 1) := by decide +kernel
theorem dX4_sheet_33 : decode cX4_sheet 33 = .ok (.aload_n 0, 1) := by decide +kernel
theorem dX4_sheet_34 : decode cX4_sheet 34 = .ok (.getfield 35, 3) := by decide +kernel
theorem dX4_sheet_37 : decode cX4_sheet 37 = .ok (.iload_n 1, 1) := by decide +kernel
theorem dX4_sheet_38 : decode cX4_sheet 38 = .ok (.aaload, 1) := by decide +kernel
theorem dX4_sheet_39 : decode cX4_sheet 39 = .ok (.iload_n 2, 1) := by decide +kernel
theorem dX4_sheet_40 : decode cX4_sheet 40 = .ok (.iload_n 3, 1) := by decide +kernel
theorem dX4_sheet_41 : decode cX4_sheet 41 = .ok (.invokevirtual 186, 3) := by decide +kernel
theorem dX4_sheet_44 : decode cX4_sheet 44 = .ok (.iload_n 3, 1) := by decide +kernel
theorem dX4_sheet_45 : decode cX4_sheet 45 = .ok (.ireturn, 1) := by decide +kernel
theorem dX4_lose_0 : decode cX4_lose 0 = .ok (.iload_n 1, 1) := by decide +kernel
theorem dX4_lose_1 : decode cX4_lose 1 = .ok (.invokestatic 177, 3) := by decide +kernel
theorem dX4_lose_4 : decode cX4_lose 4 = .ok (.ifCond .ne 6, 3) := by decide +kernel
theorem dX4_lose_7 : decode cX4_lose 7 = .ok (.bipush (-2), 2) := by decide +kernel
theorem dX4_lose_9 : decode cX4_lose 9 = .ok (.ireturn, 1) := by decide +kernel
theorem dX4_lose_10 : decode cX4_lose 10 = .ok (.aload_n 0, 1) := by decide +kernel
theorem dX4_lose_11 : decode cX4_lose 11 = .ok (.getfield 35, 3) := by decide +kernel
theorem dX4_lose_14 : decode cX4_lose 14 = .ok (.iload_n 1, 1) := by decide +kernel
theorem dX4_lose_15 : decode cX4_lose 15 = .ok (.aaload, 1) := by decide +kernel
theorem dX4_lose_16 : decode cX4_lose 16 = .ok (.astore_n 2, 1) := by decide +kernel
theorem dX4_lose_17 : decode cX4_lose 17 = .ok (.aload_n 2, 1) := by decide +kernel
theorem dX4_lose_18 : decode cX4_lose 18 = .ok (.getfield 188, 3) := by decide +kernel
theorem dX4_lose_21 : decode cX4_lose 21 = .ok (.ifCond .eq 9, 3) := by decide +kernel
theorem dX4_lose_24 : decode cX4_lose 24 = .ok (.aload_n 0, 1) := by decide +kernel
theorem dX4_lose_25 : decode cX4_lose 25 = .ok (.iconst 1, 1) := by decide +kernel
theorem dX4_lose_26 : decode cX4_lose 26 = .ok (.invokevirtual 183, 3) := by decide +kernel
theorem dX4_lose_29 : decode cX4_lose 29 = .ok (.ireturn, 1) := by decide +kernel
theorem dX4_lose_30 : decode cX4_lose 30 = .ok (.aload_n 2, 1) := by decide +kernel
theorem dX4_lose_31 : decode cX4_lose 31 = .ok (.iconst 1, 1) := by decide +kernel
theorem dX4_lose_32 : decode cX4_lose 32 = .ok (.putfield 188, 3) := by decide +kernel
theorem dX4_lose_35 : decode cX4_lose 35 = .ok (.aload_n 2, 1) := by decide +kernel
theorem dX4_lose_36 : decode cX4_lose 36 = .ok (.getfield 192, 3) := by decide +kernel
theorem dX4_lose_39 : decode cX4_lose 39 = .ok (.ireturn, 1) := by decide +kernel
theorem dX4_lay_0 : decode cX4_lay 0 = .ok (.iload_n 1, 1) := by decide +kernel
theorem dX4_lay_1 : decode cX4_lay 1 = .ok (.invokestatic 177, 3) := by decide +kernel
theorem dX4_lay_4 : decode cX4_lay 4 = .ok (.ifCond .eq 10, 3) := by decide +kernel
theorem dX4_lay_7 : decode cX4_lay 7 = .ok (.iload_n 2, 1) := by decide +kernel
theorem dX4_lay_8 : decode cX4_lay 8 = .ok (.invokestatic 180, 3) := by decide +kernel
theorem dX4_lay_11 : decode cX4_lay 11 = .ok (.ifCond .ne 6, 3) := by decide +kernel
theorem dX4_lay_14 : decode cX4_lay 14 = .ok (.bipush (-2), 2) := by decide +kernel
theorem dX4_lay_16 : decode cX4_lay 16 = .ok (.ireturn, 1) := by decide +kernel
theorem dX4_lay_17 : decode cX4_lay 17 = .ok (.aload_n 0, 1) := by decide +kernel
theorem dX4_lay_18 : decode cX4_lay 18 = .ok (.getfield 35, 3) := by decide +kernel
theorem dX4_lay_21 : decode cX4_lay 21 = .ok (.iload_n 1, 1) := by decide +kernel
theorem dX4_lay_22 : decode cX4_lay 22 = .ok (.aaload, 1) := by decide +kernel
theorem dX4_lay_23 : decode cX4_lay 23 = .ok (.iload_n 2, 1) := by decide +kernel
theorem dX4_lay_24 : decode cX4_lay 24 = .ok (.iload_n 3, 1) := by decide +kernel
theorem dX4_lay_25 : decode cX4_lay 25 = .ok (.invokevirtual 193, 3) := by decide +kernel
theorem dX4_lay_28 : decode cX4_lay 28 = .ok (.istore 5, 2) := by decide +kernel
theorem dX4_lay_30 : decode cX4_lay 30 = .ok (.iload 5, 2) := by decide +kernel
theorem dX4_lay_32 : decode cX4_lay 32 = .ok (.ifCond .eq 10, 3) := by decide +kernel
theorem dX4_lay_35 : decode cX4_lay 35 = .ok (.aload_n 0, 1) := by decide +kernel
theorem dX4_lay_36 : decode cX4_lay 36 = .ok (.iload 5, 2) := by decide +kernel
theorem dX4_lay_38 : decode cX4_lay 38 = .ok (.invokevirtual 183, 3) := by decide +kernel
theorem dX4_lay_41 : decode cX4_lay 41 = .ok (.ireturn, 1) := by decide +kernel
theorem dX4_lay_42 : decode cX4_lay 42 = .ok (.aload_n 0, 1) := by decide +kernel
theorem dX4_lay_43 : decode cX4_lay 43 = .ok (.getfield 35, 3) := by decide +kernel
theorem dX4_lay_46 : decode cX4_lay 46 = .ok (.iload_n 1, 1) := by decide +kernel
theorem dX4_lay_47 : decode cX4_lay 47 = .ok (.aaload, 1) := by decide +kernel
theorem dX4_lay_48 : decode cX4_lay 48 = .ok (.iload_n 3, 1) := by decide +kernel
theorem dX4_lay_49 : decode cX4_lay 49 = .ok (.iload 4, 2) := by decide +kernel
theorem dX4_lay_51 : decode cX4_lay 51 = .ok (.invokevirtual 196, 3) := by decide +kernel
theorem dX4_lay_54 : decode cX4_lay 54 = .ok (.iconst 1, 1) := by decide +kernel
theorem dX4_lay_55 : decode cX4_lay 55 = .ok (.ireturn, 1) := by decide +kernel
theorem dX4_get_0 : decode cX4_get 0 = .ok (.iload_n 1, 1) := by decide +kernel
theorem dX4_get_1 : decode cX4_get 1 = .ok (.invokestatic 177, 3) := by decide +kernel
theorem dX4_get_4 : decode cX4_get 4 = .ok (.ifCond .eq 10, 3) := by decide +kernel
theorem dX4_get_7 : decode cX4_get 7 = .ok (.iload_n 2, 1) := by decide +kernel
theorem dX4_get_8 : decode cX4_get 8 = .ok (.invokestatic 180, 3) := by decide +kernel
theorem dX4_get_11 : decode cX4_get 11 = .ok (.ifCond .ne 6, 3) := by decide +kernel
theorem dX4_get_14 : decode cX4_get 14 = .ok (.ldc 199, 2) := by decide +kernel
theorem dX4_get_16 : decode cX4_get 16 = .ok (.ireturn, 1) := by decide +kernel
theorem dX4_get_17 : decode cX4_get 17 = .ok (.aload_n 0, 1) := by decide +kernel
theorem dX4_get_18 : decode cX4_get 18 = .ok (.getfield 35, 3) := by decide +kernel
theorem dX4_get_21 : decode cX4_get 21 = .ok (.iload_n 1, 1) := by decide +kernel
theorem dX4_get_22 : decode cX4_get 22 = .ok (.aaload, 1) := by decide +kernel
theorem dX4_get_23 : decode cX4_get 23 = .ok (.iload_n 2, 1) := by decide +kernel
theorem dX4_get_24 : decode cX4_get 24 = .ok (.iload_n 3, 1) := by decide +kernel
theorem dX4_get_25 : decode cX4_get 25 = .ok (.invokevirtual 193, 3) := by decide +kernel
theorem dX4_get_28 : decode cX4_get 28 = .ok (.istore 4, 2) := by decide +kernel
theorem dX4_get_30 : decode cX4_get 30 = .ok (.iload 4, 2) := by decide +kernel
theorem dX4_get_32 : decode cX4_get 32 = .ok (.ifCond .eq 12, 3) := by decide +kernel
theorem dX4_get_35 : decode cX4_get 35 = .ok (.aload_n 0, 1) := by decide +kernel
theorem dX4_get_36 : decode cX4_get 36 = .ok (.iload 4, 2) := by decide +kernel
theorem dX4_get_38 : decode cX4_get 38 = .ok (.putfield 43, 3) := by decide +kernel
theorem dX4_get_41 : decode cX4_get 41 = .ok (.ldc 199, 2) := by decide +kernel
theorem dX4_get_43 : decode cX4_get 43 = .ok (.ireturn, 1) := by decide +kernel
theorem dX4_get_44 : decode cX4_get 44 = .ok (.aload_n 0, 1) := by decide +kernel
theorem dX4_get_45 : decode cX4_get 45 = .ok (.getfield 35, 3) := by decide +kernel
theorem dX4_get_48 : decode cX4_get 48 = .ok (.iload_n 1, 1) := by decide +kernel
theorem dX4_get_49 : decode cX4_get 49 = .ok (.aaload, 1) := by decide +kernel
theorem dX4_get_50 : decode cX4_get 50 = .ok (.getfield 200, 3) := by decide +kernel
theorem dX4_get_53 : decode cX4_get 53 = .ok (.iload_n 3, 1) := by decide +kernel
theorem dX4_get_54 : decode cX4_get 54 = .ok (.iaload, 1) := by decide +kernel
theorem dX4_get_55 : decode cX4_get 55 = .ok (.ireturn, 1) := by decide +kernel
theorem dX4_copy_0 : decode cX4_copy 0 = .ok (.iload_n 1, 1) := by decide +kernel
theorem dX4_copy_1 : decode cX4_copy 1 = .ok (.invokestatic 177, 3) := by decide +kernel
theorem dX4_copy_4 : decode cX4_copy 4 = .ok (.ifCond .eq 10, 3) := by decide +kernel
theorem dX4_copy_7 : decode cX4_copy 7 = .ok (.iload_n 3, 1) := by decide +kernel
theorem dX4_copy_8 : decode cX4_copy 8 = .ok (.invokestatic 177, 3) := by decide +kernel
theorem dX4_copy_11 : decode cX4_copy 11 = .ok (.ifCond .ne 6, 3) := by decide +kernel
theorem dX4_copy_14 : decode cX4_copy 14 = .ok (.bipush (-2), 2) := by decide +kernel
theorem dX4_copy_16 : decode cX4_copy 16 = .ok (.ireturn, 1) := by decide +kernel
theorem dX4_copy_17 : decode cX4_copy 17 = .ok (.aload_n 0, 1) := by decide +kernel
theorem dX4_copy_18 : decode cX4_copy 18 = .ok (.getfield 35, 3) := by decide +kernel
theorem dX4_copy_21 : decode cX4_copy 21 = .ok (.iload_n 1, 1) := by decide +kernel
theorem dX4_copy_22 : decode cX4_copy 22 = .ok (.aaload, 1) := by decide +kernel
theorem dX4_copy_23 : decode cX4_copy 23 = .ok (.astore 6, 2) := by decide +kernel
theorem dX4_copy_25 : decode cX4_copy 25 = .ok (.aload_n 0, 1) := by decide +kernel
theorem dX4_copy_26 : decode cX4_copy 26 = .ok (.getfield 35, 3) := by decide +kernel
theorem dX4_copy_29 : decode cX4_copy 29 = .ok (.iload_n 3, 1) := by decide +kernel
theorem dX4_copy_30 : decode cX4_copy 30 = .ok (.aaload, 1) := by decide +kernel
theorem dX4_copy_31 : decode cX4_copy 31 = .ok (.astore 7, 2) := by decide +kernel
theorem dX4_copy_33 : decode cX4_copy 33 = .ok (.aload 6, 2) := by decide +kernel
theorem dX4_copy_35 : decode cX4_copy 35 = .ok (.getfield 188, 3) := by decide +kernel
theorem dX4_copy_38 : decode cX4_copy 38 = .ok (.ifCond .ne 11, 3) := by decide +kernel
theorem dX4_copy_41 : decode cX4_copy 41 = .ok (.aload 7, 2) := by decide +kernel
theorem dX4_copy_43 : decode cX4_copy 43 = .ok (.getfield 188, 3) := by decide +kernel
theorem dX4_copy_46 : decode cX4_copy 46 = .ok (.ifCond .eq 9, 3) := by decide +kernel
theorem dX4_copy_49 : decode cX4_copy 49 = .ok (.aload_n 0, 1) := by decide +kernel
theorem dX4_copy_50 : decode cX4_copy 50 = .ok (.iconst 1, 1) := by decide +kernel
theorem dX4_copy_51 : decode cX4_copy 51 = .ok (.invokevirtual 183, 3) := by decide +kernel
theorem dX4_copy_54 : decode cX4_copy 54 = .ok (.ireturn, 1) := by decide +kernel
theorem dX4_copy_55 : decode cX4_copy 55 = .ok (.aload 6, 2) := by decide +kernel
theorem dX4_copy_57 : decode cX4_copy 57 = .ok (.getfield 203, 3) := by decide +kernel
theorem dX4_copy_60 : decode cX4_copy 60 = .ok (.aload 7, 2) := by decide +kernel
theorem dX4_copy_62 : decode cX4_copy 62 = .ok (.getfield 203, 3) := by decide +kernel
theorem dX4_copy_65 : decode cX4_copy 65 = .ok (.if_icmp .eq 9, 3) := by decide +kernel
theorem dX4_copy_68 : decode cX4_copy 68 = .ok (.aload_n 0, 1) := by decide +kernel
theorem dX4_copy_69 : decode cX4_copy 69 = .ok (.iconst 4, 1) := by decide +kernel
theorem dX4_copy_70 : decode cX4_copy 70 = .ok (.invokevirtual 183, 3) := by decide +kernel
theorem dX4_copy_73 : decode cX4_copy 73 = .ok (.ireturn, 1) := by decide +kernel
theorem dX4_copy_74 : decode cX4_copy 74 = .ok (.aload 6, 2) := by decide +kernel
theorem dX4_copy_76 : decode cX4_copy 76 = .ok (.iload_n 2, 1) := by decide +kernel
theorem dX4_copy_77 : decode cX4_copy 77 = .ok (.iload 5, 2) := by decide +kernel
theorem dX4_copy_79 : decode cX4_copy 79 = .ok (.invokevirtual 206, 3) := by decide +kernel
theorem dX4_copy_82 : decode cX4_copy 82 = .ok (.ifCond .eq 15, 3) := by decide +kernel
theorem dX4_copy_85 : decode cX4_copy 85 = .ok (.aload 7, 2) := by decide +kernel
theorem dX4_copy_87 : decode cX4_copy 87 = .ok (.iload 4, 2) := by decide +kernel
theorem dX4_copy_89 : decode cX4_copy 89 = .ok (.iload 5, 2) := by decide +kernel
theorem dX4_copy_91 : decode cX4_copy 91 = .ok (.invokevirtual 206, 3) := by decide +kernel
theorem dX4_copy_94 : decode cX4_copy 94 = .ok (.ifCond .ne 9, 3) := by decide +kernel
theorem dX4_copy_97 : decode cX4_copy 97 = .ok (.aload_n 0, 1) := by decide +kernel
theorem dX4_copy_98 : decode cX4_copy 98 = .ok (.iconst 2, 1) := by decide +kernel
theorem dX4_copy_99 : decode cX4_copy 99 = .ok (.invokevirtual 183, 3) := by decide +kernel
theorem dX4_copy_102 : decode cX4_copy 102 = .ok (.ireturn, 1) := by decide +kernel
theorem dX4_copy_103 : decode cX4_copy 103 = .ok (.aload 6, 2) := by decide +kernel
theorem dX4_copy_105 : decode cX4_copy 105 = .ok (.getfield 200, 3) := by decide +kernel
theorem dX4_copy_108 : decode cX4_copy 108 = .ok (.iload_n 2, 1) := by decide +kernel
theorem dX4_copy_109 : decode cX4_copy 109 = .ok (.aload 7, 2) := by decide +kernel
theorem dX4_copy_111 : decode cX4_copy 111 = .ok (.getfield 200, 3) := by decide +kernel
theorem dX4_copy_114 : decode cX4_copy 114 = .ok (.iload 4, 2) := by decide +kernel
theorem dX4_copy_116 : decode cX4_copy 116 = .ok (.iload 5, 2) := by decide +kernel
theorem dX4_copy_118 : decode cX4_copy 118 = .ok (.invokestatic 209, 3) := by decide +kernel
theorem dX4_copy_121 : decode cX4_copy 121 = .ok (.iconst 1, 1) := by decide +kernel
theorem dX4_copy_122 : decode cX4_copy 122 = .ok (.ireturn, 1) := by decide +kernel
theorem dX4_load_0 : decode cX4_load 0 = .ok (.iload_n 1, 1) := by decide +kernel
theorem dX4_load_1 : decode cX4_load 1 = .ok (.invokestatic 177, 3) := by decide +kernel
theorem dX4_load_4 : decode cX4_load 4 = .ok (.ifCond .eq 10, 3) := by decide +kernel
theorem dX4_load_7 : decode cX4_load 7 = .ok (.iload_n 2, 1) := by decide +kernel
theorem dX4_load_8 : decode cX4_load 8 = .ok (.invokestatic 47, 3) := by decide +kernel
theorem dX4_load_11 : decode cX4_load 11 = .ok (.ifCond .ne 6, 3) := by decide +kernel
theorem dX4_load_14 : decode cX4_load 14 = .ok (.bipush (-2), 2) := by decide +kernel
theorem dX4_load_16 : decode cX4_load 16 = .ok (.ireturn, 1) := by decide +kernel
theorem dX4_load_17 : decode cX4_load 17 = .ok (.aload_n 0, 1) := by decide +kernel
theorem dX4_load_18 : decode cX4_load 18 = .ok (.getfield 35, 3) := by decide +kernel
theorem dX4_load_21 : decode cX4_load 21 = .ok (.iload_n 1, 1) := by decide +kernel
theorem dX4_load_22 : decode cX4_load 22 = .ok (.aaload, 1) := by decide +kernel
theorem dX4_load_23 : decode cX4_load 23 = .ok (.astore_n 3, 1) := by decide +kernel
theorem dX4_load_24 : decode cX4_load 24 = .ok (.aload_n 3, 1) := by decide +kernel
theorem dX4_load_25 : decode cX4_load 25 = .ok (.getfield 188, 3) := by decide +kernel
theorem dX4_load_28 : decode cX4_load 28 = .ok (.ifCond .eq 9, 3) := by decide +kernel
theorem dX4_load_31 : decode cX4_load 31 = .ok (.aload_n 0, 1) := by decide +kernel
theorem dX4_load_32 : decode cX4_load 32 = .ok (.iconst 1, 1) := by decide +kernel
theorem dX4_load_33 : decode cX4_load 33 = .ok (.invokevirtual 183, 3) := by decide +kernel
theorem dX4_load_36 : decode cX4_load 36 = .ok (.ireturn, 1) := by decide +kernel
theorem dX4_load_37 : decode cX4_load 37 = .ok (.aload_n 3, 1) := by decide +kernel
theorem dX4_load_38 : decode cX4_load 38 = .ok (.getfield 192, 3) := by decide +kernel
theorem dX4_load_41 : decode cX4_load 41 = .ok (.iload_n 2, 1) := by decide +kernel
theorem dX4_load_42 : decode cX4_load 42 = .ok (.iload_n 2, 1) := by decide +kernel
theorem dX4_load_43 : decode cX4_load 43 = .ok (.iconst 1, 1) := by decide +kernel
theorem dX4_load_44 : decode cX4_load 44 = .ok (.isub, 1) := by decide +kernel
theorem dX4_load_45 : decode cX4_load 45 = .ok (.imul, 1) := by decide +kernel
theorem dX4_load_46 : decode cX4_load 46 = .ok (.if_icmp .ge 9, 3) := by decide +kernel
theorem dX4_load_49 : decode cX4_load 49 = .ok (.aload_n 0, 1) := by decide +kernel
theorem dX4_load_50 : decode cX4_load 50 = .ok (.iconst 2, 1) := by decide +kernel
theorem dX4_load_51 : decode cX4_load 51 = .ok (.invokevirtual 183, 3) := by decide +kernel
theorem dX4_load_54 : decode cX4_load 54 = .ok (.ireturn, 1) := by decide +kernel
theorem dX4_load_55 : decode cX4_load 55 = .ok (.aload_n 0, 1) := by decide +kernel
theorem dX4_load_56 : decode cX4_load 56 = .ok (.getfield 10, 3) := by decide +kernel
theorem dX4_load_59 : decode cX4_load 59 = .ok (.iload_n 2, 1) := by decide +kernel
theorem dX4_load_60 : decode cX4_load 60 = .ok (.invokevirtual 54, 3) := by decide +kernel
theorem dX4_load_63 : decode cX4_load 63 = .ok (.iconst 1, 1) := by decide +kernel
theorem dX4_load_64 : decode cX4_load 64 = .ok (.istore 4, 2) := by decide +kernel
theorem dX4_load_66 : decode cX4_load 66 = .ok (.iload 4, 2) := by decide +kernel
theorem dX4_load_68 : decode cX4_load 68 = .ok (.iload_n 2, 1) := by decide +kernel
theorem dX4_load_69 : decode cX4_load 69 = .ok (.if_icmp .ge 56, 3) := by decide +kernel
theorem dX4_load_72 : decode cX4_load 72 = .ok (.iconst 0, 1) := by decide +kernel
theorem dX4_load_73 : decode cX4_load 73 = .ok (.istore 5, 2) := by decide +kernel
theorem dX4_load_75 : decode cX4_load 75 = .ok (.iload 5, 2) := by decide +kernel
theorem dX4_load_77 : decode cX4_load 77 = .ok (.iload 4, 2) := by decide +kernel
theorem dX4_load_79 : decode cX4_load 79 = .ok (.if_icmp .ge 40, 3) := by decide +kernel
theorem dX4_load_82 : decode cX4_load 82 = .ok (.aload_n 0, 1) := by decide +kernel
theorem dX4_load_83 : decode cX4_load 83 = .ok (.getfield 10, 3) := by decide +kernel
theorem dX4_load_86 : decode cX4_load 86 = .ok (.iload 5, 2) := by decide +kernel
theorem dX4_load_88 : decode cX4_load 88 = .ok (.iload 4, 2) := by decide +kernel
theorem dX4_load_90 : decode cX4_load 90 = .ok (.aload_n 3, 1) := by decide +kernel
theorem dX4_load_91 : decode cX4_load 91 = .ok (.getfield 200, 3) := by decide +kernel
theorem dX4_load_94 : decode cX4_load 94 = .ok (.iload_n 2, 1) := by decide +kernel
theorem dX4_load_95 : decode cX4_load 95 = .ok (.iload 5, 2) := by decide +kernel
theorem dX4_load_97 : decode cX4_load 97 = .ok (.imul, 1) := by decide +kernel
theorem dX4_load_98 : decode cX4_load 98 = .ok (.iload 4, 2) := by decide +kernel
theorem dX4_load_100 : decode cX4_load 100 = .ok (.iadd, 1) := by decide +kernel
theorem dX4_load_101 : decode cX4_load 101 = .ok (.iaload, 1) := by decide +kernel
theorem dX4_load_102 : decode cX4_load 102 = .ok (.ifCond .ge 7, 3) := by decide +kernel
theorem dX4_load_105 : decode cX4_load 105 = .ok (.iconst 1, 1) := by decide +kernel
theorem dX4_load_106 : decode cX4_load 106 = .ok (.goto 4, 3) := by decide +kernel
theorem dX4_load_109 : decode cX4_load 109 = .ok (.iconst 0, 1) := by decide +kernel
theorem dX4_load_110 : decode cX4_load 110 = .ok (.invokevirtual 66, 3) := by decide +kernel
theorem dX4_load_113 : decode cX4_load 113 = .ok (.iinc 5 1, 3) := by decide +kernel
theorem dX4_load_116 : decode cX4_load 116 = .ok (.goto (-41), 3) := by decide +kernel
theorem dX4_load_119 : decode cX4_load 119 = .ok (.iinc 4 1, 3) := by decide +kernel
theorem dX4_load_122 : decode cX4_load 122 = .ok (.goto (-56), 3) := by decide +kernel
theorem dX4_load_125 : decode cX4_load 125 = .ok (.iload_n 2, 1) := by decide +kernel
theorem dX4_load_126 : decode cX4_load 126 = .ok (.ireturn, 1) := by decide +kernel
theorem dX4_write_0 : decode cX4_write 0 = .ok (.iload_n 1, 1) := by decide +kernel
theorem dX4_write_1 : decode cX4_write 1 = .ok (.invokestatic 177, 3) := by decide +kernel
theorem dX4_write_4 : decode cX4_write 4 = .ok (.ifCond .ne 6, 3) := by decide +kernel
theorem dX4_write_7 : decode cX4_write 7 = .ok (.bipush (-2), 2) := by decide +kernel
theorem dX4_write_9 : decode cX4_write 9 = .ok (.ireturn, 1) := by decide +kernel
theorem dX4_write_10 : decode cX4_write 10 = .ok (.aload_n 0, 1) := by decide +kernel
theorem dX4_write_11 : decode cX4_write 11 = .ok (.getfield 35, 3) := by decide +kernel
theorem dX4_write_14 : decode cX4_write 14 = .ok (.iload_n 1, 1) := by decide +kernel
theorem dX4_write_15 : decode cX4_write 15 = .ok (.aaload, 1) := by decide +kernel
theorem dX4_write_16 : decode cX4_write 16 = .ok (.astore_n 2, 1) := by decide +kernel
theorem dX4_write_17 : decode cX4_write 17 = .ok (.aload_n 0, 1) := by decide +kernel
theorem dX4_write_18 : decode cX4_write 18 = .ok (.getfield 10, 3) := by decide +kernel
theorem dX4_write_21 : decode cX4_write 21 = .ok (.getfield 51, 3) := by decide +kernel
theorem dX4_write_24 : decode cX4_write 24 = .ok (.istore_n 3, 1) := by decide +kernel
theorem dX4_write_25 : decode cX4_write 25 = .ok (.aload_n 2, 1) := by decide +kernel
theorem dX4_write_26 : decode cX4_write 26 = .ok (.getfield 188, 3) := by decide +kernel
theorem dX4_write_29 : decode cX4_write 29 = .ok (.ifCond .eq 9, 3) := by decide +kernel
theorem dX4_write_32 : decode cX4_write 32 = .ok (.aload_n 0, 1) := by decide +kernel
theorem dX4_write_33 : decode cX4_write 33 = .ok (.iconst 1, 1) := by decide +kernel
theorem dX4_write_34 : decode cX4_write 34 = .ok (.invokevirtual 183, 3) := by decide +kernel
theorem dX4_write_37 : decode cX4_write 37 = .ok (.ireturn, 1) := by decide +kernel
theorem dX4_write_38 : decode cX4_write 38 = .ok (.aload_n 2, 1) := by decide +kernel
theorem dX4_write_39 : decode cX4_write 39 = .ok (.getfield 192, 3) := by decide +kernel
theorem dX4_write_42 : decode cX4_write 42 = .ok (.iload_n 3, 1) := by decide +kernel
theorem dX4_write_43 : decode cX4_write 43 = .ok (.iload_n 3, 1) := by decide +kernel
theorem dX4_write_44 : decode cX4_write 44 = .ok (.imul, 1) := by decide +kernel
theorem dX4_write_45 : decode cX4_write 45 = .ok (.if_icmp .ge 9, 3) := by decide +kernel
theorem dX4_write_48 : decode cX4_write 48 = .ok (.aload_n 0, 1) := by decide +kernel
theorem dX4_write_49 : decode cX4_write 49 = .ok (.iconst 2, 1) := by decide +kernel
theorem dX4_write_50 : decode cX4_write 50 = .ok (.invokevirtual 183, 3) := by decide +kernel
theorem dX4_write_53 : decode cX4_write 53 = .ok (.ireturn, 1) := by decide +kernel
theorem dX4_write_54 : decode cX4_write 54 = .ok (.iconst 0, 1) := by decide +kernel
theorem dX4_write_55 : decode cX4_write 55 = .ok (.istore 4, 2) := by decide +kernel
theorem dX4_write_57 : decode cX4_write 57 = .ok (.iload 4, 2) := by decide +kernel
theorem dX4_write_59 : decode cX4_write 59 = .ok (.iload_n 3, 1) := by decide +kernel
theorem dX4_write_60 : decode cX4_write 60 = .ok (.if_icmp .ge 46, 3) := by decide +kernel
theorem dX4_write_63 : decode cX4_write 63 = .ok (.iconst 0, 1) := by decide +kernel
theorem dX4_write_64 : decode cX4_write 64 = .ok (.istore 5, 2) := by decide +kernel
theorem dX4_write_66 : decode cX4_write 66 = .ok (.iload 5, 2) := by decide +kernel
theorem dX4_write_68 : decode cX4_write 68 = .ok (.iload_n 3, 1) := by decide +kernel
theorem dX4_write_69 : decode cX4_write 69 = .ok (.if_icmp .ge 31, 3) := by decide +kernel
theorem dX4_write_72 : decode cX4_write 72 = .ok (.aload_n 2, 1) := by decide +kernel
theorem dX4_write_73 : decode cX4_write 73 = .ok (.iload_n 3, 1) := by decide +kernel
theorem dX4_write_74 : decode cX4_write 74 = .ok (.iload 4, 2) := by decide +kernel
theorem dX4_write_76 : decode cX4_write 76 = .ok (.imul, 1) := by decide +kernel
theorem dX4_write_77 : decode cX4_write 77 = .ok (.iload 5, 2) := by decide +kernel
theorem dX4_write_79 : decode cX4_write 79 = .ok (.iadd, 1) := by decide +kernel
theorem dX4_write_80 : decode cX4_write 80 = .ok (.aload_n 0, 1) := by decide +kernel
theorem dX4_write_81 : decode cX4_write 81 = .ok (.getfield 10, 3) := by decide +kernel
theorem dX4_write_84 : decode cX4_write 84 = .ok (.iload 4, 2) := by decide +kernel
theorem dX4_write_86 : decode cX4_write 86 = .ok (.iload 5, 2) := by decide +kernel
theorem dX4_write_88 : decode cX4_write 88 = .ok (.invokevirtual 62, 3) := by decide +kernel
theorem dX4_write_91 : decode cX4_write 91 = .ok (.invokevirtual 196, 3) := by decide +kernel
theorem dX4_write_94 : decode cX4_write 94 = .ok (.iinc 5 1, 3) := by decide +kernel
theorem dX4_write_97 : decode cX4_write 97 = .ok (.goto (-31), 3) := by decide +kernel
theorem dX4_write_100 : decode cX4_write 100 = .ok (.iinc 4 1, 3) := by decide +kernel
theorem dX4_write_103 : decode cX4_write 103 = .ok (.goto (-46), 3) := by decide +kernel
theorem dX4_write_106 : decode cX4_write 106 = .ok (.iload_n 3, 1) := by decide +kernel
theorem dX4_write_107 : decode cX4_write 107 = .ok (.iload_n 3, 1) := by decide +kernel
theorem dX4_write_108 : decode cX4_write 108 = .ok (.imul, 1) := by decide +kernel
theorem dX4_write_109 : decode cX4_write 109 = .ok (.ireturn, 1) := by decide +kernel
theorem dX4_count_0 : decode cX4_count 0 = .ok (.iload_n 1, 1) := by decide +kernel
theorem dX4_count_1 : decode cX4_count 1 = .ok (.tableswitch 57 0 3 #[31, 39, 44, 52], 31) := by decide +kernel
theorem dX4_count_32 : decode cX4_count 32 = .ok (.aload_n 0, 1) := by decide +kernel
theorem dX4_count_33 : decode cX4_count 33 = .ok (.getfield 10, 3) := by decide +kernel
theorem dX4_count_36 : decode cX4_count 36 = .ok (.getfield 51, 3) := by decide +kernel
theorem dX4_count_39 : decode cX4_count 39 = .ok (.ireturn, 1) := by decide +kernel
theorem dX4_count_40 : decode cX4_count 40 = .ok (.aload_n 0, 1) := by decide +kernel
theorem dX4_count_41 : decode cX4_count 41 = .ok (.getfield 39, 3) := by decide +kernel
theorem dX4_count_44 : decode cX4_count 44 = .ok (.ireturn, 1) := by decide +kernel
theorem dX4_count_45 : decode cX4_count 45 = .ok (.aload_n 0, 1) := by decide +kernel
theorem dX4_count_46 : decode cX4_count 46 = .ok (.getfield 10, 3) := by decide +kernel
theorem dX4_count_49 : decode cX4_count 49 = .ok (.invokevirtual 215, 3) := by decide +kernel
theorem dX4_count_52 : decode cX4_count 52 = .ok (.ireturn, 1) := by decide +kernel
theorem dX4_count_53 : decode cX4_count 53 = .ok (.aload_n 0, 1) := by decide +kernel
theorem dX4_count_54 : decode cX4_count 54 = .ok (.getfield 43, 3) := by decide +kernel
theorem dX4_count_57 : decode cX4_count 57 = .ok (.ireturn, 1) := by decide +kernel
theorem dX4_count_58 : decode cX4_count 58 = .ok (.bipush (-2), 2) := by decide +kernel
theorem dX4_count_60 : decode cX4_count 60 = .ok (.ireturn, 1) := by decide +kernel
theorem dX4_digest_0 : decode cX4_digest 0 = .ok (.ldc2_w 218, 3) := by decide +kernel
theorem dX4_digest_3 : decode cX4_digest 3 = .ok (.lstore_n 1, 1) := by decide +kernel
theorem dX4_digest_4 : decode cX4_digest 4 = .ok (.iconst 0, 1) := by decide +kernel
theorem dX4_digest_5 : decode cX4_digest 5 = .ok (.istore_n 3, 1) := by decide +kernel
theorem dX4_digest_6 : decode cX4_digest 6 = .ok (.iload_n 3, 1) := by decide +kernel
theorem dX4_digest_7 : decode cX4_digest 7 = .ok (.iconst 2, 1) := by decide +kernel
theorem dX4_digest_8 : decode cX4_digest 8 = .ok (.if_icmp .gt 22, 3) := by decide +kernel
theorem dX4_digest_11 : decode cX4_digest 11 = .ok (.ldc2_w 220, 3) := by decide +kernel
theorem dX4_digest_14 : decode cX4_digest 14 = .ok (.lload_n 1, 1) := by decide +kernel
theorem dX4_digest_15 : decode cX4_digest 15 = .ok (.lmul, 1) := by decide +kernel
theorem dX4_digest_16 : decode cX4_digest 16 = .ok (.aload_n 0, 1) := by decide +kernel
theorem dX4_digest_17 : decode cX4_digest 17 = .ok (.iload_n 3, 1) := by decide +kernel
theorem dX4_digest_18 : decode cX4_digest 18 = .ok (.invokevirtual 222, 3) := by decide +kernel
theorem dX4_digest_21 : decode cX4_digest 21 = .ok (.i2l, 1) := by decide +kernel
theorem dX4_digest_22 : decode cX4_digest 22 = .ok (.ladd, 1) := by decide +kernel
theorem dX4_digest_23 : decode cX4_digest 23 = .ok (.lstore_n 1, 1) := by decide +kernel
theorem dX4_digest_24 : decode cX4_digest 24 = .ok (.iinc 3 1, 3) := by decide +kernel
theorem dX4_digest_27 : decode cX4_digest 27 = .ok (.goto (-21), 3) := by decide +kernel
theorem dX4_digest_30 : decode cX4_digest 30 = .ok (.iconst 0, 1) := by decide +kernel
theorem dX4_digest_31 : decode cX4_digest 31 = .ok (.istore_n 3, 1) := by decide +kernel
theorem dX4_digest_32 : decode cX4_digest 32 = .ok (.iload_n 3, 1) := by decide +kernel
theorem dX4_digest_33 : decode cX4_digest 33 = .ok (.aload_n 0, 1) := by decide +kernel
theorem dX4_digest_34 : decode cX4_digest 34 = .ok (.getfield 10, 3) := by decide +kernel
theorem dX4_digest_37 : decode cX4_digest 37 = .ok (.getfield 51, 3) := by decide +kernel
theorem dX4_digest_40 : decode cX4_digest 40 = .ok (.if_icmp .ge 48, 3) := by decide +kernel
theorem dX4_digest_43 : decode cX4_digest 43 = .ok (.iconst 0, 1) := by decide +kernel
theorem dX4_digest_44 : decode cX4_digest 44 = .ok (.istore 4, 2) := by decide +kernel
theorem dX4_digest_46 : decode cX4_digest 46 = .ok (.iload 4, 2) := by decide +kernel
theorem dX4_digest_48 : decode cX4_digest 48 = .ok (.aload_n 0, 1) := by decide +kernel
theorem dX4_digest_49 : decode cX4_digest 49 = .ok (.getfield 10, 3) := by decide +kernel
theorem dX4_digest_52 : decode cX4_digest 52 = .ok (.getfield 51, 3) := by decide +kernel
theorem dX4_digest_55 : decode cX4_digest 55 = .ok (.if_icmp .ge 27, 3) := by decide +kernel
theorem dX4_digest_58 : decode cX4_digest 58 = .ok (.ldc2_w 220, 3) := by decide +kernel
theorem dX4_digest_61 : decode cX4_digest 61 = .ok (.lload_n 1, 1) := by decide +kernel
theorem dX4_digest_62 : decode cX4_digest 62 = .ok (.lmul, 1) := by decide +kernel
theorem dX4_digest_63 : decode cX4_digest 63 = .ok (.aload_n 0, 1) := by decide +kernel
theorem dX4_digest_64 : decode cX4_digest 64 = .ok (.getfield 10, 3) := by decide +kernel
theorem dX4_digest_67 : decode cX4_digest 67 = .ok (.iload_n 3, 1) := by decide +kernel
theorem dX4_digest_68 : decode cX4_digest 68 = .ok (.iload 4, 2) := by decide +kernel
theorem dX4_digest_70 : decode cX4_digest 70 = .ok (.invokevirtual 62, 3) := by decide +kernel
theorem dX4_digest_73 : decode cX4_digest 73 = .ok (.i2l, 1) := by decide +kernel
theorem dX4_digest_74 : decode cX4_digest 74 = .ok (.ladd, 1) := by decide +kernel
theorem dX4_digest_75 : decode cX4_digest 75 = .ok (.lstore_n 1, 1) := by decide +kernel
theorem dX4_digest_76 : decode cX4_digest 76 = .ok (.iinc 4 1, 3) := by decide +kernel
theorem dX4_digest_79 : decode cX4_digest 79 = .ok (.goto (-33), 3) := by decide +kernel
theorem dX4_digest_82 : decode cX4_digest 82 = .ok (.iinc 3 1, 3) := by decide +kernel
theorem dX4_digest_85 : decode cX4_digest 85 = .ok (.goto (-53), 3) := by decide +kernel
theorem dX4_digest_88 : decode cX4_digest 88 = .ok (.ldc2_w 220, 3) := by decide +kernel
theorem dX4_digest_91 : decode cX4_digest 91 = .ok (.lload_n 1, 1) := by decide +kernel
theorem dX4_digest_92 : decode cX4_digest 92 = .ok (.lmul, 1) := by decide +kernel
theorem dX4_digest_93 : decode cX4_digest 93 = .ok (.aload_n 0, 1) := by decide +kernel
theorem dX4_digest_94 : decode cX4_digest 94 = .ok (.invokevirtual 225, 3) := by decide +kernel
theorem dX4_digest_97 : decode cX4_digest 97 = .ok (.i2l, 1) := by decide +kernel
theorem dX4_digest_98 : decode cX4_digest 98 = .ok (.ladd, 1) := by decide +kernel
theorem dX4_digest_99 : decode cX4_digest 99 = .ok (.lreturn, 1) := by decide +kernel
theorem dX4_isSheet_0 : decode cX4_isSheet 0 = .ok (.iload_n 0, 1) := by decide +kernel
theorem dX4_isSheet_1 : decode cX4_isSheet 1 = .ok (.ifCond .lt 12, 3) := by decide +kernel
theorem dX4_isSheet_4 : decode cX4_isSheet 4 = .ok (.iload_n 0, 1) := by decide +kernel
theorem dX4_isSheet_5 : decode cX4_isSheet 5 = .ok (.iconst 4, 1) := by decide +kernel
theorem dX4_isSheet_6 : decode cX4_isSheet 6 = .ok (.if_icmp .ge 7, 3) := by decide +kernel
theorem dX4_isSheet_9 : decode cX4_isSheet 9 = .ok (.iconst 1, 1) := by decide +kernel
theorem dX4_isSheet_10 : decode cX4_isSheet 10 = .ok (.goto 4, 3) := by decide +kernel
theorem dX4_isSheet_13 : decode cX4_isSheet 13 = .ok (.iconst 0, 1) := by decide +kernel
theorem dX4_isSheet_14 : decode cX4_isSheet 14 = .ok (.ireturn, 1) := by decide +kernel
theorem dX4_isForm_0 : decode cX4_isForm 0 = .ok (.iload_n 0, 1) := by decide +kernel
theorem dX4_isForm_1 : decode cX4_isForm 1 = .ok (.ifCond .lt 12, 3) := by decide +kernel
theorem dX4_isForm_4 : decode cX4_isForm 4 = .ok (.iload_n 0, 1) := by decide +kernel
theorem dX4_isForm_5 : decode cX4_isForm 5 = .ok (.iconst 2, 1) := by decide +kernel
theorem dX4_isForm_6 : decode cX4_isForm 6 = .ok (.if_icmp .gt 7, 3) := by decide +kernel
theorem dX4_isForm_9 : decode cX4_isForm 9 = .ok (.iconst 1, 1) := by decide +kernel
theorem dX4_isForm_10 : decode cX4_isForm 10 = .ok (.goto 4, 3) := by decide +kernel
theorem dX4_isForm_13 : decode cX4_isForm 13 = .ok (.iconst 0, 1) := by decide +kernel
theorem dX4_isForm_14 : decode cX4_isForm 14 = .ok (.ireturn, 1) := by decide +kernel
theorem dX4_findingOf_0 : decode cX4_findingOf 0 = .ok (.aload_n 0, 1) := by decide +kernel
theorem dX4_findingOf_1 : decode cX4_findingOf 1 = .ok (.iload_n 1, 1) := by decide +kernel
theorem dX4_findingOf_2 : decode cX4_findingOf 2 = .ok (.putfield 43, 3) := by decide +kernel
theorem dX4_findingOf_5 : decode cX4_findingOf 5 = .ok (.bipush (-10), 2) := by decide +kernel
theorem dX4_findingOf_7 : decode cX4_findingOf 7 = .ok (.iload_n 1, 1) := by decide +kernel
theorem dX4_findingOf_8 : decode cX4_findingOf 8 = .ok (.isub, 1) := by decide +kernel
theorem dX4_findingOf_9 : decode cX4_findingOf 9 = .ok (.ireturn, 1) := by decide +kernel
