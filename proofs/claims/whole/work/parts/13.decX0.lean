theorem dX0_least_0 : decode cX0_least 0 = .ok (.aload_n 0, 1) := by decide +kernel
theorem dX0_least_1 : decode cX0_least 1 = .ok (.aload_n 0, 1) := by decide +kernel
theorem dX0_least_2 : decode cX0_least 2 = .ok (.aload_n 1, 1) := by decide +kernel
theorem dX0_least_3 : decode cX0_least 3 = .ok (.invokevirtual 25, 3) := by decide +kernel
theorem dX0_least_6 : decode cX0_least 6 = .ok (.putfield 18, 3) := by decide +kernel
theorem dX0_least_9 : decode cX0_least 9 = .ok (.iconst 0, 1) := by decide +kernel
theorem dX0_least_10 : decode cX0_least 10 = .ok (.istore_n 2, 1) := by decide +kernel
theorem dX0_least_11 : decode cX0_least 11 = .ok (.iload_n 2, 1) := by decide +kernel
theorem dX0_least_12 : decode cX0_least 12 = .ok (.aload_n 1, 1) := by decide +kernel
theorem dX0_least_13 : decode cX0_least 13 = .ok (.getfield 29, 3) := by decide +kernel
theorem dX0_least_16 : decode cX0_least 16 = .ok (.if_icmp .ge 31, 3) := by decide +kernel
theorem dX0_least_19 : decode cX0_least 19 = .ok (.aload_n 0, 1) := by decide +kernel
theorem dX0_least_20 : decode cX0_least 20 = .ok (.getfield 9, 3) := by decide +kernel
theorem dX0_least_23 : decode cX0_least 23 = .ok (.iconst 0, 1) := by decide +kernel
theorem dX0_least_24 : decode cX0_least 24 = .ok (.iload_n 2, 1) := by decide +kernel
theorem dX0_least_25 : decode cX0_least 25 = .ok (.iastore, 1) := by decide +kernel
theorem dX0_least_26 : decode cX0_least 26 = .ok (.aload_n 0, 1) := by decide +kernel
theorem dX0_least_27 : decode cX0_least 27 = .ok (.aload_n 1, 1) := by decide +kernel
theorem dX0_least_28 : decode cX0_least 28 = .ok (.aload_n 1, 1) := by decide +kernel
theorem dX0_least_29 : decode cX0_least 29 = .ok (.getfield 29, 3) := by decide +kernel
theorem dX0_least_32 : decode cX0_least 32 = .ok (.iconst 1, 1) := by decide +kernel
theorem dX0_least_33 : decode cX0_least 33 = .ok (.isub, 1) := by decide +kernel
theorem dX0_least_34 : decode cX0_least 34 = .ok (.iconst 1, 1) := by decide +kernel
theorem dX0_least_35 : decode cX0_least 35 = .ok (.iload_n 2, 1) := by decide +kernel
theorem dX0_least_36 : decode cX0_least 36 = .ok (.ishl, 1) := by decide +kernel
theorem dX0_least_37 : decode cX0_least 37 = .ok (.iconst 0, 1) := by decide +kernel
theorem dX0_least_38 : decode cX0_least 38 = .ok (.invokevirtual 34, 3) := by decide +kernel
theorem dX0_least_41 : decode cX0_least 41 = .ok (.iinc 2 1, 3) := by decide +kernel
theorem dX0_least_44 : decode cX0_least 44 = .ok (.goto (-33), 3) := by decide +kernel
theorem dX0_least_47 : decode cX0_least 47 = .ok (.aload_n 0, 1) := by decide +kernel
theorem dX0_least_48 : decode cX0_least 48 = .ok (.getfield 18, 3) := by decide +kernel
theorem dX0_least_51 : decode cX0_least 51 = .ok (.ireturn, 1) := by decide +kernel
theorem dX0_keeping_0 : decode cX0_keeping 0 = .ok (.aload_n 0, 1) := by decide +kernel
theorem dX0_keeping_1 : decode cX0_keeping 1 = .ok (.aload_n 1, 1) := by decide +kernel
theorem dX0_keeping_2 : decode cX0_keeping 2 = .ok (.invokevirtual 25, 3) := by decide +kernel
theorem dX0_keeping_5 : decode cX0_keeping 5 = .ok (.pop, 1) := by decide +kernel
theorem dX0_keeping_6 : decode cX0_keeping 6 = .ok (.aload_n 0, 1) := by decide +kernel
theorem dX0_keeping_7 : decode cX0_keeping 7 = .ok (.iconst 0, 1) := by decide +kernel
theorem dX0_keeping_8 : decode cX0_keeping 8 = .ok (.putfield 22, 3) := by decide +kernel
theorem dX0_keeping_11 : decode cX0_keeping 11 = .ok (.iconst 0, 1) := by decide +kernel
theorem dX0_keeping_12 : decode cX0_keeping 12 = .ok (.istore_n 2, 1) := by decide +kernel
theorem dX0_keeping_13 : decode cX0_keeping 13 = .ok (.iload_n 2, 1) := by decide +kernel
theorem dX0_keeping_14 : decode cX0_keeping 14 = .ok (.aload_n 1, 1) := by decide +kernel
theorem dX0_keeping_15 : decode cX0_keeping 15 = .ok (.getfield 29, 3) := by decide +kernel
theorem dX0_keeping_18 : decode cX0_keeping 18 = .ok (.if_icmp .ge 30, 3) := by decide +kernel
theorem dX0_keeping_21 : decode cX0_keeping 21 = .ok (.aload_n 0, 1) := by decide +kernel
theorem dX0_keeping_22 : decode cX0_keeping 22 = .ok (.getfield 9, 3) := by decide +kernel
theorem dX0_keeping_25 : decode cX0_keeping 25 = .ok (.iconst 0, 1) := by decide +kernel
theorem dX0_keeping_26 : decode cX0_keeping 26 = .ok (.iload_n 2, 1) := by decide +kernel
theorem dX0_keeping_27 : decode cX0_keeping 27 = .ok (.iastore, 1) := by decide +kernel
theorem dX0_keeping_28 : decode cX0_keeping 28 = .ok (.aload_n 0, 1) := by decide +kernel
theorem dX0_keeping_29 : decode cX0_keeping 29 = .ok (.aload_n 1, 1) := by decide +kernel
theorem dX0_keeping_30 : decode cX0_keeping 30 = .ok (.aload_n 1, 1) := by decide +kernel
theorem dX0_keeping_31 : decode cX0_keeping 31 = .ok (.getfield 29, 3) := by decide +kernel
theorem dX0_keeping_34 : decode cX0_keeping 34 = .ok (.iconst 1, 1) := by decide +kernel
theorem dX0_keeping_35 : decode cX0_keeping 35 = .ok (.isub, 1) := by decide +kernel
theorem dX0_keeping_36 : decode cX0_keeping 36 = .ok (.iconst 1, 1) := by decide +kernel
theorem dX0_keeping_37 : decode cX0_keeping 37 = .ok (.iload_n 2, 1) := by decide +kernel
theorem dX0_keeping_38 : decode cX0_keeping 38 = .ok (.ishl, 1) := by decide +kernel
theorem dX0_keeping_39 : decode cX0_keeping 39 = .ok (.invokevirtual 38, 3) := by decide +kernel
theorem dX0_keeping_42 : decode cX0_keeping 42 = .ok (.iinc 2 1, 3) := by decide +kernel
theorem dX0_keeping_45 : decode cX0_keeping 45 = .ok (.goto (-32), 3) := by decide +kernel
theorem dX0_keeping_48 : decode cX0_keeping 48 = .ok (.aload_n 1, 1) := by decide +kernel
theorem dX0_keeping_49 : decode cX0_keeping 49 = .ok (.getfield 29, 3) := by decide +kernel
theorem dX0_keeping_52 : decode cX0_keeping 52 = .ok (.ifCond .ne 7, 3) := by decide +kernel
theorem dX0_keeping_55 : decode cX0_keeping 55 = .ok (.iconst 1, 1) := by decide +kernel
theorem dX0_keeping_56 : decode cX0_keeping 56 = .ok (.goto 7, 3) := by decide +kernel
theorem dX0_keeping_59 : decode cX0_keeping 59 = .ok (.aload_n 0, 1) := by decide +kernel
theorem dX0_keeping_60 : decode cX0_keeping 60 = .ok (.getfield 22, 3) := by decide +kernel
theorem dX0_keeping_63 : decode cX0_keeping 63 = .ok (.ireturn, 1) := by decide +kernel
theorem dX0_numberAsItIs_0 : decode cX0_numberAsItIs 0 = .ok (.iconst 0, 1) := by decide +kernel
theorem dX0_numberAsItIs_1 : decode cX0_numberAsItIs 1 = .ok (.istore_n 2, 1) := by decide +kernel
theorem dX0_numberAsItIs_2 : decode cX0_numberAsItIs 2 = .ok (.iconst 0, 1) := by decide +kernel
theorem dX0_numberAsItIs_3 : decode cX0_numberAsItIs 3 = .ok (.istore_n 3, 1) := by decide +kernel
theorem dX0_numberAsItIs_4 : decode cX0_numberAsItIs 4 = .ok (.iload_n 3, 1) := by decide +kernel
theorem dX0_numberAsItIs_5 : decode cX0_numberAsItIs 5 = .ok (.aload_n 1, 1) := by decide +kernel
theorem dX0_numberAsItIs_6 : decode cX0_numberAsItIs 6 = .ok (.getfield 29, 3) := by decide +kernel
theorem dX0_numberAsItIs_9 : decode cX0_numberAsItIs 9 = .ok (.if_icmp .ge 16, 3) := by decide +kernel
theorem dX0_numberAsItIs_12 : decode cX0_numberAsItIs 12 = .ok (.aload_n 0, 1) := by decide +kernel
theorem dX0_numberAsItIs_13 : decode cX0_numberAsItIs 13 = .ok (.getfield 9, 3) := by decide +kernel
theorem dX0_numberAsItIs_16 : decode cX0_numberAsItIs 16 = .ok (.iload_n 3, 1) := by decide +kernel
theorem dX0_numberAsItIs_17 : decode cX0_numberAsItIs 17 = .ok (.iload_n 3, 1) := by decide +kernel
theorem dX0_numberAsItIs_18 : decode cX0_numberAsItIs 18 = .ok (.iastore, 1) := by decide +kernel
theorem dX0_numberAsItIs_19 : decode cX0_numberAsItIs 19 = .ok (.iinc 3 1, 3) := by decide +kernel
theorem dX0_numberAsItIs_22 : decode cX0_numberAsItIs 22 = .ok (.goto (-18), 3) := by decide +kernel
theorem dX0_numberAsItIs_25 : decode cX0_numberAsItIs 25 = .ok (.iconst 1, 1) := by decide +kernel
theorem dX0_numberAsItIs_26 : decode cX0_numberAsItIs 26 = .ok (.istore_n 3, 1) := by decide +kernel
theorem dX0_numberAsItIs_27 : decode cX0_numberAsItIs 27 = .ok (.iload_n 3, 1) := by decide +kernel
theorem dX0_numberAsItIs_28 : decode cX0_numberAsItIs 28 = .ok (.aload_n 1, 1) := by decide +kernel
theorem dX0_numberAsItIs_29 : decode cX0_numberAsItIs 29 = .ok (.getfield 29, 3) := by decide +kernel
theorem dX0_numberAsItIs_32 : decode cX0_numberAsItIs 32 = .ok (.if_icmp .ge 30, 3) := by decide +kernel
theorem dX0_numberAsItIs_35 : decode cX0_numberAsItIs 35 = .ok (.aload_n 0, 1) := by decide +kernel
theorem dX0_numberAsItIs_36 : decode cX0_numberAsItIs 36 = .ok (.getfield 15, 3) := by decide +kernel
theorem dX0_numberAsItIs_39 : decode cX0_numberAsItIs 39 = .ok (.iload_n 3, 1) := by decide +kernel
theorem dX0_numberAsItIs_40 : decode cX0_numberAsItIs 40 = .ok (.aload_n 0, 1) := by decide +kernel
theorem dX0_numberAsItIs_41 : decode cX0_numberAsItIs 41 = .ok (.aload_n 1, 1) := by decide +kernel
theorem dX0_numberAsItIs_42 : decode cX0_numberAsItIs 42 = .ok (.iload_n 3, 1) := by decide +kernel
theorem dX0_numberAsItIs_43 : decode cX0_numberAsItIs 43 = .ok (.invokevirtual 42, 3) := by decide +kernel
theorem dX0_numberAsItIs_46 : decode cX0_numberAsItIs 46 = .ok (.iastore, 1) := by decide +kernel
theorem dX0_numberAsItIs_47 : decode cX0_numberAsItIs 47 = .ok (.iload_n 2, 1) := by decide +kernel
theorem dX0_numberAsItIs_48 : decode cX0_numberAsItIs 48 = .ok (.aload_n 0, 1) := by decide +kernel
theorem dX0_numberAsItIs_49 : decode cX0_numberAsItIs 49 = .ok (.getfield 15, 3) := by decide +kernel
theorem dX0_numberAsItIs_52 : decode cX0_numberAsItIs 52 = .ok (.iload_n 3, 1) := by decide +kernel
theorem dX0_numberAsItIs_53 : decode cX0_numberAsItIs 53 = .ok (.iaload, 1) := by decide +kernel
theorem dX0_numberAsItIs_54 : decode cX0_numberAsItIs 54 = .ok (.ior, 1) := by decide +kernel
theorem dX0_numberAsItIs_55 : decode cX0_numberAsItIs 55 = .ok (.istore_n 2, 1) := by decide +kernel
theorem dX0_numberAsItIs_56 : decode cX0_numberAsItIs 56 = .ok (.iinc 3 1, 3) := by decide +kernel
theorem dX0_numberAsItIs_59 : decode cX0_numberAsItIs 59 = .ok (.goto (-32), 3) := by decide +kernel
theorem dX0_numberAsItIs_62 : decode cX0_numberAsItIs 62 = .ok (.iload_n 2, 1) := by decide +kernel
theorem dX0_numberAsItIs_63 : decode cX0_numberAsItIs 63 = .ok (.ireturn, 1) := by decide +kernel
theorem dX0_lower_0 : decode cX0_lower 0 = .ok (.iload_n 2, 1) := by decide +kernel
theorem dX0_lower_1 : decode cX0_lower 1 = .ok (.iconst 1, 1) := by decide +kernel
theorem dX0_lower_2 : decode cX0_lower 2 = .ok (.if_icmp .ge 17, 3) := by decide +kernel
theorem dX0_lower_5 : decode cX0_lower 5 = .ok (.aload_n 0, 1) := by decide +kernel
theorem dX0_lower_6 : decode cX0_lower 6 = .ok (.aload_n 0, 1) := by decide +kernel
theorem dX0_lower_7 : decode cX0_lower 7 = .ok (.getfield 18, 3) := by decide +kernel
theorem dX0_lower_10 : decode cX0_lower 10 = .ok (.iload 4, 2) := by decide +kernel
theorem dX0_lower_12 : decode cX0_lower 12 = .ok (.invokestatic 46, 3) := by decide +kernel
theorem dX0_lower_15 : decode cX0_lower 15 = .ok (.putfield 18, 3) := by decide +kernel
theorem dX0_lower_18 : decode cX0_lower 18 = .ok (.return_, 1) := by decide +kernel
theorem dX0_lower_19 : decode cX0_lower 19 = .ok (.iconst 0, 1) := by decide +kernel
theorem dX0_lower_20 : decode cX0_lower 20 = .ok (.istore 5, 2) := by decide +kernel
theorem dX0_lower_22 : decode cX0_lower 22 = .ok (.iload 5, 2) := by decide +kernel
theorem dX0_lower_24 : decode cX0_lower 24 = .ok (.aload_n 1, 1) := by decide +kernel
theorem dX0_lower_25 : decode cX0_lower 25 = .ok (.getfield 29, 3) := by decide +kernel
theorem dX0_lower_28 : decode cX0_lower 28 = .ok (.if_icmp .ge 62, 3) := by decide +kernel
theorem dX0_lower_31 : decode cX0_lower 31 = .ok (.iload_n 3, 1) := by decide +kernel
theorem dX0_lower_32 : decode cX0_lower 32 = .ok (.iload 5, 2) := by decide +kernel
theorem dX0_lower_34 : decode cX0_lower 34 = .ok (.iushr, 1) := by decide +kernel
theorem dX0_lower_35 : decode cX0_lower 35 = .ok (.iconst 1, 1) := by decide +kernel
theorem dX0_lower_36 : decode cX0_lower 36 = .ok (.iand, 1) := by decide +kernel
theorem dX0_lower_37 : decode cX0_lower 37 = .ok (.ifCond .ne 47, 3) := by decide +kernel
theorem dX0_lower_40 : decode cX0_lower 40 = .ok (.aload_n 0, 1) := by decide +kernel
theorem dX0_lower_41 : decode cX0_lower 41 = .ok (.getfield 9, 3) := by decide +kernel
theorem dX0_lower_44 : decode cX0_lower 44 = .ok (.iload_n 2, 1) := by decide +kernel
theorem dX0_lower_45 : decode cX0_lower 45 = .ok (.iload 5, 2) := by decide +kernel
theorem dX0_lower_47 : decode cX0_lower 47 = .ok (.iastore, 1) := by decide +kernel
theorem dX0_lower_48 : decode cX0_lower 48 = .ok (.iload 4, 2) := by decide +kernel
theorem dX0_lower_50 : decode cX0_lower 50 = .ok (.aload_n 0, 1) := by decide +kernel
theorem dX0_lower_51 : decode cX0_lower 51 = .ok (.aload_n 1, 1) := by decide +kernel
theorem dX0_lower_52 : decode cX0_lower 52 = .ok (.iload_n 2, 1) := by decide +kernel
theorem dX0_lower_53 : decode cX0_lower 53 = .ok (.invokevirtual 42, 3) := by decide +kernel
theorem dX0_lower_56 : decode cX0_lower 56 = .ok (.ior, 1) := by decide +kernel
theorem dX0_lower_57 : decode cX0_lower 57 = .ok (.istore 6, 2) := by decide +kernel
theorem dX0_lower_59 : decode cX0_lower 59 = .ok (.iload 6, 2) := by decide +kernel
theorem dX0_lower_61 : decode cX0_lower 61 = .ok (.aload_n 0, 1) := by decide +kernel
theorem dX0_lower_62 : decode cX0_lower 62 = .ok (.getfield 18, 3) := by decide +kernel
theorem dX0_lower_65 : decode cX0_lower 65 = .ok (.if_icmp .ge 19, 3) := by decide +kernel
theorem dX0_lower_68 : decode cX0_lower 68 = .ok (.aload_n 0, 1) := by decide +kernel
theorem dX0_lower_69 : decode cX0_lower 69 = .ok (.aload_n 1, 1) := by decide +kernel
theorem dX0_lower_70 : decode cX0_lower 70 = .ok (.iload_n 2, 1) := by decide +kernel
theorem dX0_lower_71 : decode cX0_lower 71 = .ok (.iconst 1, 1) := by decide +kernel
theorem dX0_lower_72 : decode cX0_lower 72 = .ok (.isub, 1) := by decide +kernel
theorem dX0_lower_73 : decode cX0_lower 73 = .ok (.iload_n 3, 1) := by decide +kernel
theorem dX0_lower_74 : decode cX0_lower 74 = .ok (.iconst 1, 1) := by decide +kernel
theorem dX0_lower_75 : decode cX0_lower 75 = .ok (.iload 5, 2) := by decide +kernel
theorem dX0_lower_77 : decode cX0_lower 77 = .ok (.ishl, 1) := by decide +kernel
theorem dX0_lower_78 : decode cX0_lower 78 = .ok (.ior, 1) := by decide +kernel
theorem dX0_lower_79 : decode cX0_lower 79 = .ok (.iload 6, 2) := by decide +kernel
theorem dX0_lower_81 : decode cX0_lower 81 = .ok (.invokevirtual 34, 3) := by decide +kernel
theorem dX0_lower_84 : decode cX0_lower 84 = .ok (.iinc 5 1, 3) := by decide +kernel
theorem dX0_lower_87 : decode cX0_lower 87 = .ok (.goto (-65), 3) := by decide +kernel
theorem dX0_lower_90 : decode cX0_lower 90 = .ok (.return_, 1) := by decide +kernel
theorem dX0_keep_0 : decode cX0_keep 0 = .ok (.iload_n 2, 1) := by decide +kernel
theorem dX0_keep_1 : decode cX0_keep 1 = .ok (.iconst 1, 1) := by decide +kernel
theorem dX0_keep_2 : decode cX0_keep 2 = .ok (.if_icmp .ge 14, 3) := by decide +kernel
theorem dX0_keep_5 : decode cX0_keep 5 = .ok (.aload_n 0, 1) := by decide +kernel
theorem dX0_keep_6 : decode cX0_keep 6 = .ok (.dup, 1) := by decide +kernel
theorem dX0_keep_7 : decode cX0_keep 7 = .ok (.getfield 22, 3) := by decide +kernel
theorem dX0_keep_10 : decode cX0_keep 10 = .ok (.iconst 1, 1) := by decide +kernel
theorem dX0_keep_11 : decode cX0_keep 11 = .ok (.iadd, 1) := by decide +kernel
theorem dX0_keep_12 : decode cX0_keep 12 = .ok (.putfield 22, 3) := by decide +kernel
theorem dX0_keep_15 : decode cX0_keep 15 = .ok (.return_, 1) := by decide +kernel
theorem dX0_keep_16 : decode cX0_keep 16 = .ok (.iconst 0, 1) := by decide +kernel
theorem dX0_keep_17 : decode cX0_keep 17 = .ok (.istore 4, 2) := by decide +kernel
theorem dX0_keep_19 : decode cX0_keep 19 = .ok (.iload 4, 2) := by decide +kernel
theorem dX0_keep_21 : decode cX0_keep 21 = .ok (.aload_n 1, 1) := by decide +kernel
theorem dX0_keep_22 : decode cX0_keep 22 = .ok (.getfield 29, 3) := by decide +kernel
theorem dX0_keep_25 : decode cX0_keep 25 = .ok (.if_icmp .ge 55, 3) := by decide +kernel
theorem dX0_keep_28 : decode cX0_keep 28 = .ok (.iload_n 3, 1) := by decide +kernel
theorem dX0_keep_29 : decode cX0_keep 29 = .ok (.iload 4, 2) := by decide +kernel
theorem dX0_keep_31 : decode cX0_keep 31 = .ok (.iushr, 1) := by decide +kernel
theorem dX0_keep_32 : decode cX0_keep 32 = .ok (.iconst 1, 1) := by decide +kernel
theorem dX0_keep_33 : decode cX0_keep 33 = .ok (.iand, 1) := by decide +kernel
theorem dX0_keep_34 : decode cX0_keep 34 = .ok (.ifCond .ne 40, 3) := by decide +kernel
theorem dX0_keep_37 : decode cX0_keep 37 = .ok (.aload_n 0, 1) := by decide +kernel
theorem dX0_keep_38 : decode cX0_keep 38 = .ok (.getfield 9, 3) := by decide +kernel
theorem dX0_keep_41 : decode cX0_keep 41 = .ok (.iload_n 2, 1) := by decide +kernel
theorem dX0_keep_42 : decode cX0_keep 42 = .ok (.iload 4, 2) := by decide +kernel
theorem dX0_keep_44 : decode cX0_keep 44 = .ok (.iastore, 1) := by decide +kernel
theorem dX0_keep_45 : decode cX0_keep 45 = .ok (.aload_n 0, 1) := by decide +kernel
theorem dX0_keep_46 : decode cX0_keep 46 = .ok (.aload_n 1, 1) := by decide +kernel
theorem dX0_keep_47 : decode cX0_keep 47 = .ok (.iload_n 2, 1) := by decide +kernel
theorem dX0_keep_48 : decode cX0_keep 48 = .ok (.invokevirtual 42, 3) := by decide +kernel
theorem dX0_keep_51 : decode cX0_keep 51 = .ok (.aload_n 0, 1) := by decide +kernel
theorem dX0_keep_52 : decode cX0_keep 52 = .ok (.getfield 15, 3) := by decide +kernel
theorem dX0_keep_55 : decode cX0_keep 55 = .ok (.iload_n 2, 1) := by decide +kernel
theorem dX0_keep_56 : decode cX0_keep 56 = .ok (.iaload, 1) := by decide +kernel
theorem dX0_keep_57 : decode cX0_keep 57 = .ok (.if_icmp .ne 17, 3) := by decide +kernel
theorem dX0_keep_60 : decode cX0_keep 60 = .ok (.aload_n 0, 1) := by decide +kernel
theorem dX0_keep_61 : decode cX0_keep 61 = .ok (.aload_n 1, 1) := by decide +kernel
theorem dX0_keep_62 : decode cX0_keep 62 = .ok (.iload_n 2, 1) := by decide +kernel
theorem dX0_keep_63 : decode cX0_keep 63 = .ok (.iconst 1, 1) := by decide +kernel
theorem dX0_keep_64 : decode cX0_keep 64 = .ok (.isub, 1) := by decide +kernel
theorem dX0_keep_65 : decode cX0_keep 65 = .ok (.iload_n 3, 1) := by decide +kernel
theorem dX0_keep_66 : decode cX0_keep 66 = .ok (.iconst 1, 1) := by decide +kernel
theorem dX0_keep_67 : decode cX0_keep 67 = .ok (.iload 4, 2) := by decide +kernel
theorem dX0_keep_69 : decode cX0_keep 69 = .ok (.ishl, 1) := by decide +kernel
theorem dX0_keep_70 : decode cX0_keep 70 = .ok (.ior, 1) := by decide +kernel
theorem dX0_keep_71 : decode cX0_keep 71 = .ok (.invokevirtual 38, 3) := by decide +kernel
theorem dX0_keep_74 : decode cX0_keep 74 = .ok (.iinc 4 1, 3) := by decide +kernel
theorem dX0_keep_77 : decode cX0_keep 77 = .ok (.goto (-58), 3) := by decide +kernel
theorem dX0_keep_80 : decode cX0_keep 80 = .ok (.return_, 1) := by decide +kernel
theorem dX0_bitsOf_0 : decode cX0_bitsOf 0 = .ok (.aload_n 1, 1) := by decide +kernel
theorem dX0_bitsOf_1 : decode cX0_bitsOf 1 = .ok (.getfield 52, 3) := by decide +kernel
theorem dX0_bitsOf_4 : decode cX0_bitsOf 4 = .ok (.aload_n 0, 1) := by decide +kernel
theorem dX0_bitsOf_5 : decode cX0_bitsOf 5 = .ok (.getfield 9, 3) := by decide +kernel
theorem dX0_bitsOf_8 : decode cX0_bitsOf 8 = .ok (.iconst 0, 1) := by decide +kernel
theorem dX0_bitsOf_9 : decode cX0_bitsOf 9 = .ok (.iaload, 1) := by decide +kernel
theorem dX0_bitsOf_10 : decode cX0_bitsOf 10 = .ok (.iaload, 1) := by decide +kernel
theorem dX0_bitsOf_11 : decode cX0_bitsOf 11 = .ok (.istore_n 3, 1) := by decide +kernel
theorem dX0_bitsOf_12 : decode cX0_bitsOf 12 = .ok (.aload_n 1, 1) := by decide +kernel
theorem dX0_bitsOf_13 : decode cX0_bitsOf 13 = .ok (.getfield 52, 3) := by decide +kernel
theorem dX0_bitsOf_16 : decode cX0_bitsOf 16 = .ok (.aload_n 0, 1) := by decide +kernel
theorem dX0_bitsOf_17 : decode cX0_bitsOf 17 = .ok (.getfield 9, 3) := by decide +kernel
theorem dX0_bitsOf_20 : decode cX0_bitsOf 20 = .ok (.iload_n 2, 1) := by decide +kernel
theorem dX0_bitsOf_21 : decode cX0_bitsOf 21 = .ok (.iaload, 1) := by decide +kernel
theorem dX0_bitsOf_22 : decode cX0_bitsOf 22 = .ok (.iaload, 1) := by decide +kernel
theorem dX0_bitsOf_23 : decode cX0_bitsOf 23 = .ok (.iload_n 3, 1) := by decide +kernel
theorem dX0_bitsOf_24 : decode cX0_bitsOf 24 = .ok (.ixor, 1) := by decide +kernel
theorem dX0_bitsOf_25 : decode cX0_bitsOf 25 = .ok (.istore 4, 2) := by decide +kernel
theorem dX0_bitsOf_27 : decode cX0_bitsOf 27 = .ok (.iload_n 3, 1) := by decide +kernel
theorem dX0_bitsOf_28 : decode cX0_bitsOf 28 = .ok (.aload_n 0, 1) := by decide +kernel
theorem dX0_bitsOf_29 : decode cX0_bitsOf 29 = .ok (.getfield 9, 3) := by decide +kernel
theorem dX0_bitsOf_32 : decode cX0_bitsOf 32 = .ok (.iload_n 2, 1) := by decide +kernel
theorem dX0_bitsOf_33 : decode cX0_bitsOf 33 = .ok (.iaload, 1) := by decide +kernel
theorem dX0_bitsOf_34 : decode cX0_bitsOf 34 = .ok (.iushr, 1) := by decide +kernel
theorem dX0_bitsOf_35 : decode cX0_bitsOf 35 = .ok (.iconst 1, 1) := by decide +kernel
theorem dX0_bitsOf_36 : decode cX0_bitsOf 36 = .ok (.iand, 1) := by decide +kernel
theorem dX0_bitsOf_37 : decode cX0_bitsOf 37 = .ok (.ifCond .eq 10, 3) := by decide +kernel
theorem dX0_bitsOf_40 : decode cX0_bitsOf 40 = .ok (.iload 4, 2) := by decide +kernel
theorem dX0_bitsOf_42 : decode cX0_bitsOf 42 = .ok (.iconst (-1), 1) := by decide +kernel
theorem dX0_bitsOf_43 : decode cX0_bitsOf 43 = .ok (.ixor, 1) := by decide +kernel
theorem dX0_bitsOf_44 : decode cX0_bitsOf 44 = .ok (.goto 5, 3) := by decide +kernel
theorem dX0_bitsOf_47 : decode cX0_bitsOf 47 = .ok (.iload 4, 2) := by decide +kernel
theorem dX0_bitsOf_49 : decode cX0_bitsOf 49 = .ok (.istore 5, 2) := by decide +kernel
theorem dX0_bitsOf_51 : decode cX0_bitsOf 51 = .ok (.iconst 0, 1) := by decide +kernel
theorem dX0_bitsOf_52 : decode cX0_bitsOf 52 = .ok (.istore 6, 2) := by decide +kernel
theorem dX0_bitsOf_54 : decode cX0_bitsOf 54 = .ok (.iload_n 2, 1) := by decide +kernel
theorem dX0_bitsOf_55 : decode cX0_bitsOf 55 = .ok (.iconst 1, 1) := by decide +kernel
theorem dX0_bitsOf_56 : decode cX0_bitsOf 56 = .ok (.iadd, 1) := by decide +kernel
theorem dX0_bitsOf_57 : decode cX0_bitsOf 57 = .ok (.istore 7, 2) := by decide +kernel
theorem dX0_bitsOf_59 : decode cX0_bitsOf 59 = .ok (.iload 7, 2) := by decide +kernel
theorem dX0_bitsOf_61 : decode cX0_bitsOf 61 = .ok (.aload_n 1, 1) := by decide +kernel
theorem dX0_bitsOf_62 : decode cX0_bitsOf 62 = .ok (.getfield 29, 3) := by decide +kernel
theorem dX0_bitsOf_65 : decode cX0_bitsOf 65 = .ok (.if_icmp .ge 33, 3) := by decide +kernel
theorem dX0_bitsOf_68 : decode cX0_bitsOf 68 = .ok (.iload 6, 2) := by decide +kernel
theorem dX0_bitsOf_70 : decode cX0_bitsOf 70 = .ok (.iload 5, 2) := by decide +kernel
theorem dX0_bitsOf_72 : decode cX0_bitsOf 72 = .ok (.aload_n 0, 1) := by decide +kernel
theorem dX0_bitsOf_73 : decode cX0_bitsOf 73 = .ok (.getfield 9, 3) := by decide +kernel
theorem dX0_bitsOf_76 : decode cX0_bitsOf 76 = .ok (.iload 7, 2) := by decide +kernel
theorem dX0_bitsOf_78 : decode cX0_bitsOf 78 = .ok (.iaload, 1) := by decide +kernel
theorem dX0_bitsOf_79 : decode cX0_bitsOf 79 = .ok (.iushr, 1) := by decide +kernel
theorem dX0_bitsOf_80 : decode cX0_bitsOf 80 = .ok (.iconst 1, 1) := by decide +kernel
theorem dX0_bitsOf_81 : decode cX0_bitsOf 81 = .ok (.iand, 1) := by decide +kernel
theorem dX0_bitsOf_82 : decode cX0_bitsOf 82 = .ok (.iload_n 2, 1) := by decide +kernel
theorem dX0_bitsOf_83 : decode cX0_bitsOf 83 = .ok (.iload 7, 2) := by decide +kernel
theorem dX0_bitsOf_85 : decode cX0_bitsOf 85 = .ok (.invokestatic 55, 3) := by decide +kernel
theorem dX0_bitsOf_88 : decode cX0_bitsOf 88 = .ok (.ishl, 1) := by decide +kernel
theorem dX0_bitsOf_89 : decode cX0_bitsOf 89 = .ok (.ior, 1) := by decide +kernel
theorem dX0_bitsOf_90 : decode cX0_bitsOf 90 = .ok (.istore 6, 2) := by decide +kernel
theorem dX0_bitsOf_92 : decode cX0_bitsOf 92 = .ok (.iinc 7 1, 3) := by decide +kernel
theorem dX0_bitsOf_95 : decode cX0_bitsOf 95 = .ok (.goto (-36), 3) := by decide +kernel
theorem dX0_bitsOf_98 : decode cX0_bitsOf 98 = .ok (.iload 6, 2) := by decide +kernel
theorem dX0_bitsOf_100 : decode cX0_bitsOf 100 = .ok (.ireturn, 1) := by decide +kernel
