theorem dX1_start_0 : decode cX1_start 0 = .ok (.aload_n 0, 1) := by decide +kernel
theorem dX1_start_1 : decode cX1_start 1 = .ok (.iconst 0, 1) := by decide +kernel
theorem dX1_start_2 : decode cX1_start 2 = .ok (.putfield 15, 3) := by decide +kernel
theorem dX1_start_5 : decode cX1_start 5 = .ok (.aload_n 0, 1) := by decide +kernel
theorem dX1_start_6 : decode cX1_start 6 = .ok (.iload_n 1, 1) := by decide +kernel
theorem dX1_start_7 : decode cX1_start 7 = .ok (.putfield 19, 3) := by decide +kernel
theorem dX1_start_10 : decode cX1_start 10 = .ok (.aload_n 0, 1) := by decide +kernel
theorem dX1_start_11 : decode cX1_start 11 = .ok (.iload_n 2, 1) := by decide +kernel
theorem dX1_start_12 : decode cX1_start 12 = .ok (.putfield 23, 3) := by decide +kernel
theorem dX1_start_15 : decode cX1_start 15 = .ok (.iconst 0, 1) := by decide +kernel
theorem dX1_start_16 : decode cX1_start 16 = .ok (.istore_n 3, 1) := by decide +kernel
theorem dX1_start_17 : decode cX1_start 17 = .ok (.iload_n 3, 1) := by decide +kernel
theorem dX1_start_18 : decode cX1_start 18 = .ok (.iload_n 2, 1) := by decide +kernel
theorem dX1_start_19 : decode cX1_start 19 = .ok (.if_icmp .ge 16, 3) := by decide +kernel
theorem dX1_start_22 : decode cX1_start 22 = .ok (.aload_n 0, 1) := by decide +kernel
theorem dX1_start_23 : decode cX1_start 23 = .ok (.getfield 9, 3) := by decide +kernel
theorem dX1_start_26 : decode cX1_start 26 = .ok (.iload_n 3, 1) := by decide +kernel
theorem dX1_start_27 : decode cX1_start 27 = .ok (.iconst 0, 1) := by decide +kernel
theorem dX1_start_28 : decode cX1_start 28 = .ok (.iastore, 1) := by decide +kernel
theorem dX1_start_29 : decode cX1_start 29 = .ok (.iinc 3 1, 3) := by decide +kernel
theorem dX1_start_32 : decode cX1_start 32 = .ok (.goto (-15), 3) := by decide +kernel
theorem dX1_start_35 : decode cX1_start 35 = .ok (.return_, 1) := by decide +kernel
theorem dX1_hasItems_0 : decode cX1_hasItems 0 = .ok (.iload_n 1, 1) := by decide +kernel
theorem dX1_hasItems_1 : decode cX1_hasItems 1 = .ok (.ifCond .lt 29, 3) := by decide +kernel
theorem dX1_hasItems_4 : decode cX1_hasItems 4 = .ok (.iload_n 2, 1) := by decide +kernel
theorem dX1_hasItems_5 : decode cX1_hasItems 5 = .ok (.ifCond .lt 25, 3) := by decide +kernel
theorem dX1_hasItems_8 : decode cX1_hasItems 8 = .ok (.iload_n 2, 1) := by decide +kernel
theorem dX1_hasItems_9 : decode cX1_hasItems 9 = .ok (.aload_n 0, 1) := by decide +kernel
theorem dX1_hasItems_10 : decode cX1_hasItems 10 = .ok (.getfield 23, 3) := by decide +kernel
theorem dX1_hasItems_13 : decode cX1_hasItems 13 = .ok (.if_icmp .gt 17, 3) := by decide +kernel
theorem dX1_hasItems_16 : decode cX1_hasItems 16 = .ok (.iload_n 1, 1) := by decide +kernel
theorem dX1_hasItems_17 : decode cX1_hasItems 17 = .ok (.aload_n 0, 1) := by decide +kernel
theorem dX1_hasItems_18 : decode cX1_hasItems 18 = .ok (.getfield 23, 3) := by decide +kernel
theorem dX1_hasItems_21 : decode cX1_hasItems 21 = .ok (.iload_n 2, 1) := by decide +kernel
theorem dX1_hasItems_22 : decode cX1_hasItems 22 = .ok (.isub, 1) := by decide +kernel
theorem dX1_hasItems_23 : decode cX1_hasItems 23 = .ok (.if_icmp .gt 7, 3) := by decide +kernel
theorem dX1_hasItems_26 : decode cX1_hasItems 26 = .ok (.iconst 1, 1) := by decide +kernel
theorem dX1_hasItems_27 : decode cX1_hasItems 27 = .ok (.goto 4, 3) := by decide +kernel
theorem dX1_hasItems_30 : decode cX1_hasItems 30 = .ok (.iconst 0, 1) := by decide +kernel
theorem dX1_hasItems_31 : decode cX1_hasItems 31 = .ok (.ireturn, 1) := by decide +kernel
theorem dX1_wrongWithItem_0 : decode cX1_wrongWithItem 0 = .ok (.aload_n 0, 1) := by decide +kernel
theorem dX1_wrongWithItem_1 : decode cX1_wrongWithItem 1 = .ok (.getfield 15, 3) := by decide +kernel
theorem dX1_wrongWithItem_4 : decode cX1_wrongWithItem 4 = .ok (.ifCond .eq 5, 3) := by decide +kernel
theorem dX1_wrongWithItem_7 : decode cX1_wrongWithItem 7 = .ok (.iconst 1, 1) := by decide +kernel
theorem dX1_wrongWithItem_8 : decode cX1_wrongWithItem 8 = .ok (.ireturn, 1) := by decide +kernel
theorem dX1_wrongWithItem_9 : decode cX1_wrongWithItem 9 = .ok (.aload_n 0, 1) := by decide +kernel
theorem dX1_wrongWithItem_10 : decode cX1_wrongWithItem 10 = .ok (.getfield 19, 3) := by decide +kernel
theorem dX1_wrongWithItem_13 : decode cX1_wrongWithItem 13 = .ok (.iload_n 1, 1) := by decide +kernel
theorem dX1_wrongWithItem_14 : decode cX1_wrongWithItem 14 = .ok (.if_icmp .eq 5, 3) := by decide +kernel
theorem dX1_wrongWithItem_17 : decode cX1_wrongWithItem 17 = .ok (.iconst 3, 1) := by decide +kernel
theorem dX1_wrongWithItem_18 : decode cX1_wrongWithItem 18 = .ok (.ireturn, 1) := by decide +kernel
theorem dX1_wrongWithItem_19 : decode cX1_wrongWithItem 19 = .ok (.iload_n 2, 1) := by decide +kernel
theorem dX1_wrongWithItem_20 : decode cX1_wrongWithItem 20 = .ok (.ifCond .lt 15, 3) := by decide +kernel
theorem dX1_wrongWithItem_23 : decode cX1_wrongWithItem 23 = .ok (.iload_n 2, 1) := by decide +kernel
theorem dX1_wrongWithItem_24 : decode cX1_wrongWithItem 24 = .ok (.aload_n 0, 1) := by decide +kernel
theorem dX1_wrongWithItem_25 : decode cX1_wrongWithItem 25 = .ok (.getfield 23, 3) := by decide +kernel
theorem dX1_wrongWithItem_28 : decode cX1_wrongWithItem 28 = .ok (.if_icmp .ge 7, 3) := by decide +kernel
theorem dX1_wrongWithItem_31 : decode cX1_wrongWithItem 31 = .ok (.iconst 0, 1) := by decide +kernel
theorem dX1_wrongWithItem_32 : decode cX1_wrongWithItem 32 = .ok (.goto 4, 3) := by decide +kernel
theorem dX1_wrongWithItem_35 : decode cX1_wrongWithItem 35 = .ok (.iconst 2, 1) := by decide +kernel
theorem dX1_wrongWithItem_36 : decode cX1_wrongWithItem 36 = .ok (.ireturn, 1) := by decide +kernel
theorem dX1_setItem_0 : decode cX1_setItem 0 = .ok (.aload_n 0, 1) := by decide +kernel
theorem dX1_setItem_1 : decode cX1_setItem 1 = .ok (.getfield 19, 3) := by decide +kernel
theorem dX1_setItem_4 : decode cX1_setItem 4 = .ok (.ifCond .ne 14, 3) := by decide +kernel
theorem dX1_setItem_7 : decode cX1_setItem 7 = .ok (.aload_n 0, 1) := by decide +kernel
theorem dX1_setItem_8 : decode cX1_setItem 8 = .ok (.getfield 9, 3) := by decide +kernel
theorem dX1_setItem_11 : decode cX1_setItem 11 = .ok (.iload_n 1, 1) := by decide +kernel
theorem dX1_setItem_12 : decode cX1_setItem 12 = .ok (.iload_n 2, 1) := by decide +kernel
theorem dX1_setItem_13 : decode cX1_setItem 13 = .ok (.i2b, 1) := by decide +kernel
theorem dX1_setItem_14 : decode cX1_setItem 14 = .ok (.iastore, 1) := by decide +kernel
theorem dX1_setItem_15 : decode cX1_setItem 15 = .ok (.goto 29, 3) := by decide +kernel
theorem dX1_setItem_18 : decode cX1_setItem 18 = .ok (.aload_n 0, 1) := by decide +kernel
theorem dX1_setItem_19 : decode cX1_setItem 19 = .ok (.getfield 19, 3) := by decide +kernel
theorem dX1_setItem_22 : decode cX1_setItem 22 = .ok (.iconst 1, 1) := by decide +kernel
theorem dX1_setItem_23 : decode cX1_setItem 23 = .ok (.if_icmp .ne 14, 3) := by decide +kernel
theorem dX1_setItem_26 : decode cX1_setItem 26 = .ok (.aload_n 0, 1) := by decide +kernel
theorem dX1_setItem_27 : decode cX1_setItem 27 = .ok (.getfield 9, 3) := by decide +kernel
theorem dX1_setItem_30 : decode cX1_setItem 30 = .ok (.iload_n 1, 1) := by decide +kernel
theorem dX1_setItem_31 : decode cX1_setItem 31 = .ok (.iload_n 2, 1) := by decide +kernel
theorem dX1_setItem_32 : decode cX1_setItem 32 = .ok (.i2s, 1) := by decide +kernel
theorem dX1_setItem_33 : decode cX1_setItem 33 = .ok (.iastore, 1) := by decide +kernel
theorem dX1_setItem_34 : decode cX1_setItem 34 = .ok (.goto 10, 3) := by decide +kernel
theorem dX1_setItem_37 : decode cX1_setItem 37 = .ok (.aload_n 0, 1) := by decide +kernel
theorem dX1_setItem_38 : decode cX1_setItem 38 = .ok (.getfield 9, 3) := by decide +kernel
theorem dX1_setItem_41 : decode cX1_setItem 41 = .ok (.iload_n 1, 1) := by decide +kernel
theorem dX1_setItem_42 : decode cX1_setItem 42 = .ok (.iload_n 2, 1) := by decide +kernel
theorem dX1_setItem_43 : decode cX1_setItem 43 = .ok (.iastore, 1) := by decide +kernel
theorem dX1_setItem_44 : decode cX1_setItem 44 = .ok (.return_, 1) := by decide +kernel
