theorem dX6_weepers_0 : decode cX6_weepers 0 = .ok (.iload_n 0, 1) := by decide +kernel
theorem dX6_weepers_1 : decode cX6_weepers 1 = .ok (.bipush 7, 2) := by decide +kernel
theorem dX6_weepers_3 : decode cX6_weepers 3 = .ok (.ishr, 1) := by decide +kernel
theorem dX6_weepers_4 : decode cX6_weepers 4 = .ok (.bipush 7, 2) := by decide +kernel
theorem dX6_weepers_6 : decode cX6_weepers 6 = .ok (.iand, 1) := by decide +kernel
theorem dX6_weepers_7 : decode cX6_weepers 7 = .ok (.ireturn, 1) := by decide +kernel
theorem dX6_asked_0 : decode cX6_asked 0 = .ok (.iload_n 0, 1) := by decide +kernel
theorem dX6_asked_1 : decode cX6_asked 1 = .ok (.bipush 10, 2) := by decide +kernel
theorem dX6_asked_3 : decode cX6_asked 3 = .ok (.ishr, 1) := by decide +kernel
theorem dX6_asked_4 : decode cX6_asked 4 = .ok (.bipush 7, 2) := by decide +kernel
theorem dX6_asked_6 : decode cX6_asked 6 = .ok (.iand, 1) := by decide +kernel
theorem dX6_asked_7 : decode cX6_asked 7 = .ok (.ireturn, 1) := by decide +kernel
theorem dX6_nextDay_0 : decode cX6_nextDay 0 = .ok (.iload_n 0, 1) := by decide +kernel
theorem dX6_nextDay_1 : decode cX6_nextDay 1 = .ok (.bipush 13, 2) := by decide +kernel
theorem dX6_nextDay_3 : decode cX6_nextDay 3 = .ok (.ishr, 1) := by decide +kernel
theorem dX6_nextDay_4 : decode cX6_nextDay 4 = .ok (.bipush 7, 2) := by decide +kernel
theorem dX6_nextDay_6 : decode cX6_nextDay 6 = .ok (.iand, 1) := by decide +kernel
theorem dX6_nextDay_7 : decode cX6_nextDay 7 = .ok (.istore_n 1, 1) := by decide +kernel
theorem dX6_nextDay_8 : decode cX6_nextDay 8 = .ok (.iload_n 1, 1) := by decide +kernel
theorem dX6_nextDay_9 : decode cX6_nextDay 9 = .ok (.bipush 6, 2) := by decide +kernel
theorem dX6_nextDay_11 : decode cX6_nextDay 11 = .ok (.if_icmp .lt 7, 3) := by decide +kernel
theorem dX6_nextDay_14 : decode cX6_nextDay 14 = .ok (.iconst 0, 1) := by decide +kernel
theorem dX6_nextDay_15 : decode cX6_nextDay 15 = .ok (.goto 6, 3) := by decide +kernel
theorem dX6_nextDay_18 : decode cX6_nextDay 18 = .ok (.iload_n 1, 1) := by decide +kernel
theorem dX6_nextDay_19 : decode cX6_nextDay 19 = .ok (.iconst 1, 1) := by decide +kernel
theorem dX6_nextDay_20 : decode cX6_nextDay 20 = .ok (.iadd, 1) := by decide +kernel
theorem dX6_nextDay_21 : decode cX6_nextDay 21 = .ok (.istore_n 2, 1) := by decide +kernel
theorem dX6_nextDay_22 : decode cX6_nextDay 22 = .ok (.iload_n 0, 1) := by decide +kernel
theorem dX6_nextDay_23 : decode cX6_nextDay 23 = .ok (.ldc 11, 2) := by decide +kernel
theorem dX6_nextDay_25 : decode cX6_nextDay 25 = .ok (.iand, 1) := by decide +kernel
theorem dX6_nextDay_26 : decode cX6_nextDay 26 = .ok (.iload_n 2, 1) := by decide +kernel
theorem dX6_nextDay_27 : decode cX6_nextDay 27 = .ok (.bipush 13, 2) := by decide +kernel
theorem dX6_nextDay_29 : decode cX6_nextDay 29 = .ok (.ishl, 1) := by decide +kernel
theorem dX6_nextDay_30 : decode cX6_nextDay 30 = .ok (.ior, 1) := by decide +kernel
theorem dX6_nextDay_31 : decode cX6_nextDay 31 = .ok (.ireturn, 1) := by decide +kernel
theorem dX6_of_0 : decode cX6_of 0 = .ok (.iload_n 0, 1) := by decide +kernel
theorem dX6_of_1 : decode cX6_of 1 = .ok (.ldc 12, 2) := by decide +kernel
theorem dX6_of_3 : decode cX6_of 3 = .ok (.iand, 1) := by decide +kernel
theorem dX6_of_4 : decode cX6_of 4 = .ok (.ireturn, 1) := by decide +kernel
theorem dX6_lifted_0 : decode cX6_lifted 0 = .ok (.iload_n 0, 1) := by decide +kernel
theorem dX6_lifted_1 : decode cX6_lifted 1 = .ok (.bipush 16, 2) := by decide +kernel
theorem dX6_lifted_3 : decode cX6_lifted 3 = .ok (.ishr, 1) := by decide +kernel
theorem dX6_lifted_4 : decode cX6_lifted 4 = .ok (.bipush 31, 2) := by decide +kernel
theorem dX6_lifted_6 : decode cX6_lifted 6 = .ok (.iand, 1) := by decide +kernel
theorem dX6_lifted_7 : decode cX6_lifted 7 = .ok (.ireturn, 1) := by decide +kernel
theorem dX6_holding_0 : decode cX6_holding 0 = .ok (.iload_n 0, 1) := by decide +kernel
theorem dX6_holding_1 : decode cX6_holding 1 = .ok (.bipush 31, 2) := by decide +kernel
theorem dX6_holding_3 : decode cX6_holding 3 = .ok (.iand, 1) := by decide +kernel
theorem dX6_holding_4 : decode cX6_holding 4 = .ok (.ireturn, 1) := by decide +kernel
theorem dX6_day_0 : decode cX6_day 0 = .ok (.iload_n 0, 1) := by decide +kernel
theorem dX6_day_1 : decode cX6_day 1 = .ok (.bipush 13, 2) := by decide +kernel
theorem dX6_day_3 : decode cX6_day 3 = .ok (.ishr, 1) := by decide +kernel
theorem dX6_day_4 : decode cX6_day 4 = .ok (.bipush 7, 2) := by decide +kernel
theorem dX6_day_6 : decode cX6_day 6 = .ok (.iand, 1) := by decide +kernel
theorem dX6_day_7 : decode cX6_day 7 = .ok (.ireturn, 1) := by decide +kernel
theorem dX6_broken_0 : decode cX6_broken 0 = .ok (.iload_n 0, 1) := by decide +kernel
theorem dX6_broken_1 : decode cX6_broken 1 = .ok (.iconst 5, 1) := by decide +kernel
theorem dX6_broken_2 : decode cX6_broken 2 = .ok (.ishr, 1) := by decide +kernel
theorem dX6_broken_3 : decode cX6_broken 3 = .ok (.iconst 3, 1) := by decide +kernel
theorem dX6_broken_4 : decode cX6_broken 4 = .ok (.iand, 1) := by decide +kernel
theorem dX6_broken_5 : decode cX6_broken 5 = .ok (.ireturn, 1) := by decide +kernel
theorem dX3_empty_0 : decode cX3_empty 0 = .ok (.aload_n 0, 1) := by decide +kernel
theorem dX3_empty_1 : decode cX3_empty 1 = .ok (.getfield 21, 3) := by decide +kernel
theorem dX3_empty_4 : decode cX3_empty 4 = .ok (.istore_n 1, 1) := by decide +kernel
theorem dX3_empty_5 : decode cX3_empty 5 = .ok (.aload_n 0, 1) := by decide +kernel
theorem dX3_empty_6 : decode cX3_empty 6 = .ok (.iconst 0, 1) := by decide +kernel
theorem dX3_empty_7 : decode cX3_empty 7 = .ok (.putfield 21, 3) := by decide +kernel
theorem dX3_empty_10 : decode cX3_empty 10 = .ok (.iload_n 1, 1) := by decide +kernel
theorem dX3_empty_11 : decode cX3_empty 11 = .ok (.ireturn, 1) := by decide +kernel
theorem dX3_add_0 : decode cX3_add 0 = .ok (.aload_n 0, 1) := by decide +kernel
theorem dX3_add_1 : decode cX3_add 1 = .ok (.getfield 21, 3) := by decide +kernel
theorem dX3_add_4 : decode cX3_add 4 = .ok (.ifCond .lt 15, 3) := by decide +kernel
theorem dX3_add_7 : decode cX3_add 7 = .ok (.aload_n 0, 1) := by decide +kernel
theorem dX3_add_8 : decode cX3_add 8 = .ok (.getfield 21, 3) := by decide +kernel
theorem dX3_add_11 : decode cX3_add 11 = .ok (.aload_n 0, 1) := by decide +kernel
theorem dX3_add_12 : decode cX3_add 12 = .ok (.getfield 15, 3) := by decide +kernel
theorem dX3_add_15 : decode cX3_add 15 = .ok (.arraylength, 1) := by decide +kernel
theorem dX3_add_16 : decode cX3_add 16 = .ok (.if_icmp .lt 5, 3) := by decide +kernel
theorem dX3_add_19 : decode cX3_add 19 = .ok (.iconst 0, 1) := by decide +kernel
theorem dX3_add_20 : decode cX3_add 20 = .ok (.ireturn, 1) := by decide +kernel
theorem dX3_add_21 : decode cX3_add 21 = .ok (.aload_n 0, 1) := by decide +kernel
theorem dX3_add_22 : decode cX3_add 22 = .ok (.getfield 15, 3) := by decide +kernel
theorem dX3_add_25 : decode cX3_add 25 = .ok (.aload_n 0, 1) := by decide +kernel
theorem dX3_add_26 : decode cX3_add 26 = .ok (.getfield 21, 3) := by decide +kernel
theorem dX3_add_29 : decode cX3_add 29 = .ok (.iload_n 1, 1) := by decide +kernel
theorem dX3_add_30 : decode cX3_add 30 = .ok (.iastore, 1) := by decide +kernel
theorem dX3_add_31 : decode cX3_add 31 = .ok (.aload_n 0, 1) := by decide +kernel
theorem dX3_add_32 : decode cX3_add 32 = .ok (.dup, 1) := by decide +kernel
theorem dX3_add_33 : decode cX3_add 33 = .ok (.getfield 21, 3) := by decide +kernel
theorem dX3_add_36 : decode cX3_add 36 = .ok (.iconst 1, 1) := by decide +kernel
theorem dX3_add_37 : decode cX3_add 37 = .ok (.iadd, 1) := by decide +kernel
theorem dX3_add_38 : decode cX3_add 38 = .ok (.putfield 21, 3) := by decide +kernel
theorem dX3_add_41 : decode cX3_add 41 = .ok (.iconst 1, 1) := by decide +kernel
theorem dX3_add_42 : decode cX3_add 42 = .ok (.ireturn, 1) := by decide +kernel
theorem dX3_size_0 : decode cX3_size 0 = .ok (.aload_n 0, 1) := by decide +kernel
theorem dX3_size_1 : decode cX3_size 1 = .ok (.getfield 21, 3) := by decide +kernel
theorem dX3_size_4 : decode cX3_size 4 = .ok (.ireturn, 1) := by decide +kernel
theorem dX3_at_0 : decode cX3_at 0 = .ok (.iload_n 1, 1) := by decide +kernel
theorem dX3_at_1 : decode cX3_at 1 = .ok (.ifCond .lt 20, 3) := by decide +kernel
theorem dX3_at_4 : decode cX3_at 4 = .ok (.iload_n 1, 1) := by decide +kernel
theorem dX3_at_5 : decode cX3_at 5 = .ok (.aload_n 0, 1) := by decide +kernel
theorem dX3_at_6 : decode cX3_at 6 = .ok (.getfield 21, 3) := by decide +kernel
theorem dX3_at_9 : decode cX3_at 9 = .ok (.if_icmp .ge 12, 3) := by decide +kernel
theorem dX3_at_12 : decode cX3_at 12 = .ok (.iload_n 1, 1) := by decide +kernel
theorem dX3_at_13 : decode cX3_at 13 = .ok (.aload_n 0, 1) := by decide +kernel
theorem dX3_at_14 : decode cX3_at 14 = .ok (.getfield 15, 3) := by decide +kernel
theorem dX3_at_17 : decode cX3_at 17 = .ok (.arraylength, 1) := by decide +kernel
theorem dX3_at_18 : decode cX3_at 18 = .ok (.if_icmp .lt 7, 3) := by decide +kernel
theorem dX3_at_21 : decode cX3_at 21 = .ok (.iconst (-1), 1) := by decide +kernel
theorem dX3_at_22 : decode cX3_at 22 = .ok (.goto 9, 3) := by decide +kernel
theorem dX3_at_25 : decode cX3_at 25 = .ok (.aload_n 0, 1) := by decide +kernel
theorem dX3_at_26 : decode cX3_at 26 = .ok (.getfield 15, 3) := by decide +kernel
theorem dX3_at_29 : decode cX3_at 29 = .ok (.iload_n 1, 1) := by decide +kernel
theorem dX3_at_30 : decode cX3_at 30 = .ok (.iaload, 1) := by decide +kernel
theorem dX3_at_31 : decode cX3_at 31 = .ok (.ireturn, 1) := by decide +kernel
theorem dX3_isFull_0 : decode cX3_isFull 0 = .ok (.aload_n 0, 1) := by decide +kernel
theorem dX3_isFull_1 : decode cX3_isFull 1 = .ok (.getfield 21, 3) := by decide +kernel
theorem dX3_isFull_4 : decode cX3_isFull 4 = .ok (.aload_n 0, 1) := by decide +kernel
theorem dX3_isFull_5 : decode cX3_isFull 5 = .ok (.getfield 15, 3) := by decide +kernel
theorem dX3_isFull_8 : decode cX3_isFull 8 = .ok (.arraylength, 1) := by decide +kernel
theorem dX3_isFull_9 : decode cX3_isFull 9 = .ok (.if_icmp .lt 7, 3) := by decide +kernel
theorem dX3_isFull_12 : decode cX3_isFull 12 = .ok (.iconst 1, 1) := by decide +kernel
theorem dX3_isFull_13 : decode cX3_isFull 13 = .ok (.goto 4, 3) := by decide +kernel
theorem dX3_isFull_16 : decode cX3_isFull 16 = .ok (.iconst 0, 1) := by decide +kernel
theorem dX3_isFull_17 : decode cX3_isFull 17 = .ok (.ireturn, 1) := by decide +kernel
theorem dX3_dropLast_0 : decode cX3_dropLast 0 = .ok (.aload_n 0, 1) := by decide +kernel
theorem dX3_dropLast_1 : decode cX3_dropLast 1 = .ok (.aload_n 0, 1) := by decide +kernel
theorem dX3_dropLast_2 : decode cX3_dropLast 2 = .ok (.getfield 21, 3) := by decide +kernel
theorem dX3_dropLast_5 : decode cX3_dropLast 5 = .ok (.iconst 1, 1) := by decide +kernel
theorem dX3_dropLast_6 : decode cX3_dropLast 6 = .ok (.isub, 1) := by decide +kernel
theorem dX3_dropLast_7 : decode cX3_dropLast 7 = .ok (.iconst 0, 1) := by decide +kernel
theorem dX3_dropLast_8 : decode cX3_dropLast 8 = .ok (.invokestatic 9, 3) := by decide +kernel
theorem dX3_dropLast_11 : decode cX3_dropLast 11 = .ok (.putfield 21, 3) := by decide +kernel
theorem dX3_dropLast_14 : decode cX3_dropLast 14 = .ok (.return_, 1) := by decide +kernel
theorem dX3_dropFirst_0 : decode cX3_dropFirst 0 = .ok (.iconst 1, 1) := by decide +kernel
theorem dX3_dropFirst_1 : decode cX3_dropFirst 1 = .ok (.istore_n 1, 1) := by decide +kernel
theorem dX3_dropFirst_2 : decode cX3_dropFirst 2 = .ok (.iload_n 1, 1) := by decide +kernel
theorem dX3_dropFirst_3 : decode cX3_dropFirst 3 = .ok (.aload_n 0, 1) := by decide +kernel
theorem dX3_dropFirst_4 : decode cX3_dropFirst 4 = .ok (.getfield 21, 3) := by decide +kernel
theorem dX3_dropFirst_7 : decode cX3_dropFirst 7 = .ok (.if_icmp .ge 32, 3) := by decide +kernel
theorem dX3_dropFirst_10 : decode cX3_dropFirst 10 = .ok (.iload_n 1, 1) := by decide +kernel
theorem dX3_dropFirst_11 : decode cX3_dropFirst 11 = .ok (.aload_n 0, 1) := by decide +kernel
theorem dX3_dropFirst_12 : decode cX3_dropFirst 12 = .ok (.getfield 15, 3) := by decide +kernel
theorem dX3_dropFirst_15 : decode cX3_dropFirst 15 = .ok (.arraylength, 1) := by decide +kernel
theorem dX3_dropFirst_16 : decode cX3_dropFirst 16 = .ok (.if_icmp .ge 23, 3) := by decide +kernel
theorem dX3_dropFirst_19 : decode cX3_dropFirst 19 = .ok (.aload_n 0, 1) := by decide +kernel
theorem dX3_dropFirst_20 : decode cX3_dropFirst 20 = .ok (.getfield 15, 3) := by decide +kernel
theorem dX3_dropFirst_23 : decode cX3_dropFirst 23 = .ok (.iload_n 1, 1) := by decide +kernel
theorem dX3_dropFirst_24 : decode cX3_dropFirst 24 = .ok (.iconst 1, 1) := by decide +kernel
theorem dX3_dropFirst_25 : decode cX3_dropFirst 25 = .ok (.isub, 1) := by decide +kernel
theorem dX3_dropFirst_26 : decode cX3_dropFirst 26 = .ok (.aload_n 0, 1) := by decide +kernel
theorem dX3_dropFirst_27 : decode cX3_dropFirst 27 = .ok (.getfield 15, 3) := by decide +kernel
theorem dX3_dropFirst_30 : decode cX3_dropFirst 30 = .ok (.iload_n 1, 1) := by decide +kernel
theorem dX3_dropFirst_31 : decode cX3_dropFirst 31 = .ok (.iaload, 1) := by decide +kernel
theorem dX3_dropFirst_32 : decode cX3_dropFirst 32 = .ok (.iastore, 1) := by decide +kernel
theorem dX3_dropFirst_33 : decode cX3_dropFirst 33 = .ok (.iinc 1 1, 3) := by decide +kernel
theorem dX3_dropFirst_36 : decode cX3_dropFirst 36 = .ok (.goto (-34), 3) := by decide +kernel
theorem dX3_dropFirst_39 : decode cX3_dropFirst 39 = .ok (.aload_n 0, 1) := by decide +kernel
theorem dX3_dropFirst_40 : decode cX3_dropFirst 40 = .ok (.invokevirtual 25, 3) := by decide +kernel
theorem dX3_dropFirst_43 : decode cX3_dropFirst 43 = .ok (.return_, 1) := by decide +kernel
