theorem dX12_act_95 : decode cX12_act 95 = .ok (.putfield 375, 3) := by decide +kernel
theorem dX12_act_98 : decode cX12_act 98 = .ok (.aload_n 0, 1) := by decide +kernel
theorem dX12_act_99 : decode cX12_act 99 = .ok (.invokevirtual 411, 3) := by decide +kernel
theorem dX12_act_102 : decode cX12_act 102 = .ok (.return_, 1) := by decide +kernel
theorem dX12_exchange_0 : decode cX12_exchange 0 = .ok (.iconst 0, 1) := by decide +kernel
theorem dX12_exchange_1 : decode cX12_exchange 1 = .ok (.istore_n 2, 1) := by decide +kernel
theorem dX12_exchange_2 : decode cX12_exchange 2 = .ok (.iload_n 2, 1) := by decide +kernel
theorem dX12_exchange_3 : decode cX12_exchange 3 = .ok (.bipush 45, 2) := by decide +kernel
theorem dX12_exchange_5 : decode cX12_exchange 5 = .ok (.if_icmp .ge 39, 3) := by decide +kernel
theorem dX12_exchange_8 : decode cX12_exchange 8 = .ok (.aload_n 0, 1) := by decide +kernel
theorem dX12_exchange_9 : decode cX12_exchange 9 = .ok (.getfield 69, 3) := by decide +kernel
theorem dX12_exchange_12 : decode cX12_exchange 12 = .ok (.iload_n 1, 1) := by decide +kernel
theorem dX12_exchange_13 : decode cX12_exchange 13 = .ok (.iload_n 2, 1) := by decide +kernel
theorem dX12_exchange_14 : decode cX12_exchange 14 = .ok (.iadd, 1) := by decide +kernel
theorem dX12_exchange_15 : decode cX12_exchange 15 = .ok (.iaload, 1) := by decide +kernel
theorem dX12_exchange_16 : decode cX12_exchange 16 = .ok (.istore_n 3, 1) := by decide +kernel
theorem dX12_exchange_17 : decode cX12_exchange 17 = .ok (.aload_n 0, 1) := by decide +kernel
theorem dX12_exchange_18 : decode cX12_exchange 18 = .ok (.getfield 69, 3) := by decide +kernel
theorem dX12_exchange_21 : decode cX12_exchange 21 = .ok (.iload_n 1, 1) := by decide +kernel
theorem dX12_exchange_22 : decode cX12_exchange 22 = .ok (.iload_n 2, 1) := by decide +kernel
theorem dX12_exchange_23 : decode cX12_exchange 23 = .ok (.iadd, 1) := by decide +kernel
theorem dX12_exchange_24 : decode cX12_exchange 24 = .ok (.aload_n 0, 1) := by decide +kernel
theorem dX12_exchange_25 : decode cX12_exchange 25 = .ok (.getfield 60, 3) := by decide +kernel
theorem dX12_exchange_28 : decode cX12_exchange 28 = .ok (.iload_n 2, 1) := by decide +kernel
theorem dX12_exchange_29 : decode cX12_exchange 29 = .ok (.iaload, 1) := by decide +kernel
theorem dX12_exchange_30 : decode cX12_exchange 30 = .ok (.iastore, 1) := by decide +kernel
theorem dX12_exchange_31 : decode cX12_exchange 31 = .ok (.aload_n 0, 1) := by decide +kernel
theorem dX12_exchange_32 : decode cX12_exchange 32 = .ok (.getfield 60, 3) := by decide +kernel
theorem dX12_exchange_35 : decode cX12_exchange 35 = .ok (.iload_n 2, 1) := by decide +kernel
theorem dX12_exchange_36 : decode cX12_exchange 36 = .ok (.iload_n 3, 1) := by decide +kernel
theorem dX12_exchange_37 : decode cX12_exchange 37 = .ok (.iastore, 1) := by decide +kernel
theorem dX12_exchange_38 : decode cX12_exchange 38 = .ok (.iinc 2 1, 3) := by decide +kernel
theorem dX12_exchange_41 : decode cX12_exchange 41 = .ok (.goto (-39), 3) := by decide +kernel
theorem dX12_exchange_44 : decode cX12_exchange 44 = .ok (.return_, 1) := by decide +kernel
theorem dX12_day_0 : decode cX12_day 0 = .ok (.aload_n 0, 1) := by decide +kernel
theorem dX12_day_1 : decode cX12_day 1 = .ok (.getfield 60, 3) := by decide +kernel
theorem dX12_day_4 : decode cX12_day 4 = .ok (.bipush 43, 2) := by decide +kernel
theorem dX12_day_6 : decode cX12_day 6 = .ok (.iaload, 1) := by decide +kernel
theorem dX12_day_7 : decode cX12_day 7 = .ok (.sipush 999, 3) := by decide +kernel
theorem dX12_day_10 : decode cX12_day 10 = .ok (.if_icmp .ne 5, 3) := by decide +kernel
theorem dX12_day_13 : decode cX12_day 13 = .ok (.iconst (-1), 1) := by decide +kernel
theorem dX12_day_14 : decode cX12_day 14 = .ok (.ireturn, 1) := by decide +kernel
theorem dX12_day_15 : decode cX12_day 15 = .ok (.aload_n 0, 1) := by decide +kernel
theorem dX12_day_16 : decode cX12_day 16 = .ok (.invokevirtual 427, 3) := by decide +kernel
theorem dX12_day_19 : decode cX12_day 19 = .ok (.aload_n 0, 1) := by decide +kernel
theorem dX12_day_20 : decode cX12_day 20 = .ok (.iconst 1, 1) := by decide +kernel
theorem dX12_day_21 : decode cX12_day 21 = .ok (.invokevirtual 417, 3) := by decide +kernel
theorem dX12_day_24 : decode cX12_day 24 = .ok (.istore_n 1, 1) := by decide +kernel
theorem dX12_day_25 : decode cX12_day 25 = .ok (.aload_n 0, 1) := by decide +kernel
theorem dX12_day_26 : decode cX12_day 26 = .ok (.invokevirtual 369, 3) := by decide +kernel
theorem dX12_day_29 : decode cX12_day 29 = .ok (.iload_n 1, 1) := by decide +kernel
theorem dX12_day_30 : decode cX12_day 30 = .ok (.ireturn, 1) := by decide +kernel
theorem dX12_want_0 : decode cX12_want 0 = .ok (.aload_n 0, 1) := by decide +kernel
theorem dX12_want_1 : decode cX12_want 1 = .ok (.iload_n 1, 1) := by decide +kernel
theorem dX12_want_2 : decode cX12_want 2 = .ok (.invokevirtual 408, 3) := by decide +kernel
theorem dX12_want_5 : decode cX12_want 5 = .ok (.ifCond .eq 21, 3) := by decide +kernel
theorem dX12_want_8 : decode cX12_want 8 = .ok (.aload_n 0, 1) := by decide +kernel
theorem dX12_want_9 : decode cX12_want 9 = .ok (.iload_n 2, 1) := by decide +kernel
theorem dX12_want_10 : decode cX12_want 10 = .ok (.invokevirtual 423, 3) := by decide +kernel
theorem dX12_want_13 : decode cX12_want 13 = .ok (.ifCond .eq 13, 3) := by decide +kernel
theorem dX12_want_16 : decode cX12_want 16 = .ok (.iload_n 3, 1) := by decide +kernel
theorem dX12_want_17 : decode cX12_want 17 = .ok (.iconst 0, 1) := by decide +kernel
theorem dX12_want_18 : decode cX12_want 18 = .ok (.bipush 20, 2) := by decide +kernel
theorem dX12_want_20 : decode cX12_want 20 = .ok (.invokestatic 384, 3) := by decide +kernel
theorem dX12_want_23 : decode cX12_want 23 = .ok (.ifCond .ne 5, 3) := by decide +kernel
theorem dX12_want_26 : decode cX12_want 26 = .ok (.iconst (-1), 1) := by decide +kernel
theorem dX12_want_27 : decode cX12_want 27 = .ok (.ireturn, 1) := by decide +kernel
theorem dX12_want_28 : decode cX12_want 28 = .ok (.bipush 13, 2) := by decide +kernel
theorem dX12_want_30 : decode cX12_want 30 = .ok (.iconst 5, 1) := by decide +kernel
theorem dX12_want_31 : decode cX12_want 31 = .ok (.iload_n 1, 1) := by decide +kernel
theorem dX12_want_32 : decode cX12_want 32 = .ok (.imul, 1) := by decide +kernel
theorem dX12_want_33 : decode cX12_want 33 = .ok (.iadd, 1) := by decide +kernel
theorem dX12_want_34 : decode cX12_want 34 = .ok (.iload_n 2, 1) := by decide +kernel
theorem dX12_want_35 : decode cX12_want 35 = .ok (.iadd, 1) := by decide +kernel
theorem dX12_want_36 : decode cX12_want 36 = .ok (.istore 4, 2) := by decide +kernel
theorem dX12_want_38 : decode cX12_want 38 = .ok (.aload_n 0, 1) := by decide +kernel
theorem dX12_want_39 : decode cX12_want 39 = .ok (.getfield 60, 3) := by decide +kernel
theorem dX12_want_42 : decode cX12_want 42 = .ok (.iload 4, 2) := by decide +kernel
theorem dX12_want_44 : decode cX12_want 44 = .ok (.iaload, 1) := by decide +kernel
theorem dX12_want_45 : decode cX12_want 45 = .ok (.istore 5, 2) := by decide +kernel
theorem dX12_want_47 : decode cX12_want 47 = .ok (.iload 5, 2) := by decide +kernel
theorem dX12_want_49 : decode cX12_want 49 = .ok (.iload_n 3, 1) := by decide +kernel
theorem dX12_want_50 : decode cX12_want 50 = .ok (.if_icmp .ne 5, 3) := by decide +kernel
theorem dX12_want_53 : decode cX12_want 53 = .ok (.iconst (-1), 1) := by decide +kernel
theorem dX12_want_54 : decode cX12_want 54 = .ok (.ireturn, 1) := by decide +kernel
theorem dX12_want_55 : decode cX12_want 55 = .ok (.aload_n 0, 1) := by decide +kernel
theorem dX12_want_56 : decode cX12_want 56 = .ok (.invokevirtual 427, 3) := by decide +kernel
theorem dX12_want_59 : decode cX12_want 59 = .ok (.aload_n 0, 1) := by decide +kernel
theorem dX12_want_60 : decode cX12_want 60 = .ok (.getfield 60, 3) := by decide +kernel
theorem dX12_want_63 : decode cX12_want 63 = .ok (.iload 4, 2) := by decide +kernel
theorem dX12_want_65 : decode cX12_want 65 = .ok (.iload_n 3, 1) := by decide +kernel
theorem dX12_want_66 : decode cX12_want 66 = .ok (.iastore, 1) := by decide +kernel
theorem dX12_want_67 : decode cX12_want 67 = .ok (.iload 5, 2) := by decide +kernel
theorem dX12_want_69 : decode cX12_want 69 = .ok (.ireturn, 1) := by decide +kernel
theorem dX12_isThere_0 : decode cX12_isThere 0 = .ok (.aload_n 0, 1) := by decide +kernel
theorem dX12_isThere_1 : decode cX12_isThere 1 = .ok (.getfield 60, 3) := by decide +kernel
theorem dX12_isThere_4 : decode cX12_isThere 4 = .ok (.bipush 12, 2) := by decide +kernel
theorem dX12_isThere_6 : decode cX12_isThere 6 = .ok (.iaload, 1) := by decide +kernel
theorem dX12_isThere_7 : decode cX12_isThere 7 = .ok (.iload_n 1, 1) := by decide +kernel
theorem dX12_isThere_8 : decode cX12_isThere 8 = .ok (.ishr, 1) := by decide +kernel
theorem dX12_isThere_9 : decode cX12_isThere 9 = .ok (.iconst 1, 1) := by decide +kernel
theorem dX12_isThere_10 : decode cX12_isThere 10 = .ok (.iand, 1) := by decide +kernel
theorem dX12_isThere_11 : decode cX12_isThere 11 = .ok (.iconst 1, 1) := by decide +kernel
theorem dX12_isThere_12 : decode cX12_isThere 12 = .ok (.if_icmp .ne 7, 3) := by decide +kernel
theorem dX12_isThere_15 : decode cX12_isThere 15 = .ok (.iconst 1, 1) := by decide +kernel
theorem dX12_isThere_16 : decode cX12_isThere 16 = .ok (.goto 4, 3) := by decide +kernel
theorem dX12_isThere_19 : decode cX12_isThere 19 = .ok (.iconst 0, 1) := by decide +kernel
theorem dX12_isThere_20 : decode cX12_isThere 20 = .ok (.ireturn, 1) := by decide +kernel
theorem dX12_turn_0 : decode cX12_turn 0 = .ok (.aload_n 0, 1) := by decide +kernel
theorem dX12_turn_1 : decode cX12_turn 1 = .ok (.invokevirtual 427, 3) := by decide +kernel
theorem dX12_turn_4 : decode cX12_turn 4 = .ok (.aload_n 0, 1) := by decide +kernel
theorem dX12_turn_5 : decode cX12_turn 5 = .ok (.getfield 60, 3) := by decide +kernel
theorem dX12_turn_8 : decode cX12_turn 8 = .ok (.bipush 12, 2) := by decide +kernel
theorem dX12_turn_10 : decode cX12_turn 10 = .ok (.dup2, 1) := by decide +kernel
theorem dX12_turn_11 : decode cX12_turn 11 = .ok (.iaload, 1) := by decide +kernel
theorem dX12_turn_12 : decode cX12_turn 12 = .ok (.iconst 1, 1) := by decide +kernel
theorem dX12_turn_13 : decode cX12_turn 13 = .ok (.iload_n 1, 1) := by decide +kernel
theorem dX12_turn_14 : decode cX12_turn 14 = .ok (.ishl, 1) := by decide +kernel
theorem dX12_turn_15 : decode cX12_turn 15 = .ok (.ixor, 1) := by decide +kernel
theorem dX12_turn_16 : decode cX12_turn 16 = .ok (.iastore, 1) := by decide +kernel
theorem dX12_turn_17 : decode cX12_turn 17 = .ok (.aload_n 0, 1) := by decide +kernel
theorem dX12_turn_18 : decode cX12_turn 18 = .ok (.getfield 60, 3) := by decide +kernel
theorem dX12_turn_21 : decode cX12_turn 21 = .ok (.bipush 12, 2) := by decide +kernel
theorem dX12_turn_23 : decode cX12_turn 23 = .ok (.iaload, 1) := by decide +kernel
theorem dX12_turn_24 : decode cX12_turn 24 = .ok (.invokestatic 283, 3) := by decide +kernel
theorem dX12_turn_27 : decode cX12_turn 27 = .ok (.ireturn, 1) := by decide +kernel
theorem dX12_leave_0 : decode cX12_leave 0 = .ok (.aload_n 0, 1) := by decide +kernel
theorem dX12_leave_1 : decode cX12_leave 1 = .ok (.iload_n 1, 1) := by decide +kernel
theorem dX12_leave_2 : decode cX12_leave 2 = .ok (.invokevirtual 408, 3) := by decide +kernel
theorem dX12_leave_5 : decode cX12_leave 5 = .ok (.ifCond .eq 19, 3) := by decide +kernel
theorem dX12_leave_8 : decode cX12_leave 8 = .ok (.aload_n 0, 1) := by decide +kernel
theorem dX12_leave_9 : decode cX12_leave 9 = .ok (.iload_n 1, 1) := by decide +kernel
theorem dX12_leave_10 : decode cX12_leave 10 = .ok (.invokevirtual 430, 3) := by decide +kernel
theorem dX12_leave_13 : decode cX12_leave 13 = .ok (.ifCond .eq 11, 3) := by decide +kernel
theorem dX12_leave_16 : decode cX12_leave 16 = .ok (.aload_n 0, 1) := by decide +kernel
theorem dX12_leave_17 : decode cX12_leave 17 = .ok (.iload_n 1, 1) := by decide +kernel
theorem dX12_leave_18 : decode cX12_leave 18 = .ok (.invokevirtual 433, 3) := by decide +kernel
theorem dX12_leave_21 : decode cX12_leave 21 = .ok (.goto 4, 3) := by decide +kernel
theorem dX12_leave_24 : decode cX12_leave 24 = .ok (.iconst (-1), 1) := by decide +kernel
theorem dX12_leave_25 : decode cX12_leave 25 = .ok (.ireturn, 1) := by decide +kernel
theorem dX12_come_0 : decode cX12_come 0 = .ok (.aload_n 0, 1) := by decide +kernel
theorem dX12_come_1 : decode cX12_come 1 = .ok (.iload_n 1, 1) := by decide +kernel
theorem dX12_come_2 : decode cX12_come 2 = .ok (.invokevirtual 408, 3) := by decide +kernel
theorem dX12_come_5 : decode cX12_come 5 = .ok (.ifCond .eq 19, 3) := by decide +kernel
theorem dX12_come_8 : decode cX12_come 8 = .ok (.aload_n 0, 1) := by decide +kernel
theorem dX12_come_9 : decode cX12_come 9 = .ok (.iload_n 1, 1) := by decide +kernel
theorem dX12_come_10 : decode cX12_come 10 = .ok (.invokevirtual 430, 3) := by decide +kernel
theorem dX12_come_13 : decode cX12_come 13 = .ok (.ifCond .ne 11, 3) := by decide +kernel
theorem dX12_come_16 : decode cX12_come 16 = .ok (.aload_n 0, 1) := by decide +kernel
theorem dX12_come_17 : decode cX12_come 17 = .ok (.iload_n 1, 1) := by decide +kernel
theorem dX12_come_18 : decode cX12_come 18 = .ok (.invokevirtual 433, 3) := by decide +kernel
theorem dX12_come_21 : decode cX12_come 21 = .ok (.goto 4, 3) := by decide +kernel
theorem dX12_come_24 : decode cX12_come 24 = .ok (.iconst (-1), 1) := by decide +kernel
theorem dX12_come_25 : decode cX12_come 25 = .ok (.ireturn, 1) := by decide +kernel
theorem dX12_gift_0 : decode cX12_gift 0 = .ok (.aload_n 0, 1) := by decide +kernel
theorem dX12_gift_1 : decode cX12_gift 1 = .ok (.iload_n 1, 1) := by decide +kernel
theorem dX12_gift_2 : decode cX12_gift 2 = .ok (.invokevirtual 408, 3) := by decide +kernel
theorem dX12_gift_5 : decode cX12_gift 5 = .ok (.ifCond .eq 25, 3) := by decide +kernel
theorem dX12_gift_8 : decode cX12_gift 8 = .ok (.iload_n 2, 1) := by decide +kernel
theorem dX12_gift_9 : decode cX12_gift 9 = .ok (.iconst 1, 1) := by decide +kernel
theorem dX12_gift_10 : decode cX12_gift 10 = .ok (.bipush 99, 2) := by decide +kernel
theorem dX12_gift_12 : decode cX12_gift 12 = .ok (.invokestatic 384, 3) := by decide +kernel
theorem dX12_gift_15 : decode cX12_gift 15 = .ok (.ifCond .eq 15, 3) := by decide +kernel
theorem dX12_gift_18 : decode cX12_gift 18 = .ok (.aload_n 0, 1) := by decide +kernel
theorem dX12_gift_19 : decode cX12_gift 19 = .ok (.getfield 60, 3) := by decide +kernel
theorem dX12_gift_22 : decode cX12_gift 22 = .ok (.iload_n 1, 1) := by decide +kernel
theorem dX12_gift_23 : decode cX12_gift 23 = .ok (.iaload, 1) := by decide +kernel
theorem dX12_gift_24 : decode cX12_gift 24 = .ok (.sipush 999, 3) := by decide +kernel
theorem dX12_gift_27 : decode cX12_gift 27 = .ok (.if_icmp .ne 5, 3) := by decide +kernel
theorem dX12_gift_30 : decode cX12_gift 30 = .ok (.iconst (-1), 1) := by decide +kernel
theorem dX12_gift_31 : decode cX12_gift 31 = .ok (.ireturn, 1) := by decide +kernel
theorem dX12_gift_32 : decode cX12_gift 32 = .ok (.aload_n 0, 1) := by decide +kernel
theorem dX12_gift_33 : decode cX12_gift 33 = .ok (.invokevirtual 427, 3) := by decide +kernel
theorem dX12_gift_36 : decode cX12_gift 36 = .ok (.aload_n 0, 1) := by decide +kernel
theorem dX12_gift_37 : decode cX12_gift 37 = .ok (.getfield 60, 3) := by decide +kernel
theorem dX12_gift_40 : decode cX12_gift 40 = .ok (.iload_n 1, 1) := by decide +kernel
theorem dX12_gift_41 : decode cX12_gift 41 = .ok (.sipush 999, 3) := by decide +kernel
theorem dX12_gift_44 : decode cX12_gift 44 = .ok (.aload_n 0, 1) := by decide +kernel
theorem dX12_gift_45 : decode cX12_gift 45 = .ok (.getfield 60, 3) := by decide +kernel
theorem dX12_gift_48 : decode cX12_gift 48 = .ok (.iload_n 1, 1) := by decide +kernel
theorem dX12_gift_49 : decode cX12_gift 49 = .ok (.iaload, 1) := by decide +kernel
theorem dX12_gift_50 : decode cX12_gift 50 = .ok (.iload_n 2, 1) := by decide +kernel
theorem dX12_gift_51 : decode cX12_gift 51 = .ok (.iadd, 1) := by decide +kernel
theorem dX12_gift_52 : decode cX12_gift 52 = .ok (.invokestatic 401, 3) := by decide +kernel
theorem dX12_gift_55 : decode cX12_gift 55 = .ok (.iastore, 1) := by decide +kernel
theorem dX12_gift_56 : decode cX12_gift 56 = .ok (.aload_n 0, 1) := by decide +kernel
theorem dX12_gift_57 : decode cX12_gift 57 = .ok (.getfield 60, 3) := by decide +kernel
theorem dX12_gift_60 : decode cX12_gift 60 = .ok (.iload_n 1, 1) := by decide +kernel
theorem dX12_gift_61 : decode cX12_gift 61 = .ok (.iaload, 1) := by decide +kernel
theorem dX12_gift_62 : decode cX12_gift 62 = .ok (.ireturn, 1) := by decide +kernel
theorem dX12_undo_0 : decode cX12_undo 0 = .ok (.aload_n 0, 1) := by decide +kernel
theorem dX12_undo_1 : decode cX12_undo 1 = .ok (.getfield 372, 3) := by decide +kernel
theorem dX12_undo_4 : decode cX12_undo 4 = .ok (.ifCond .ne 5, 3) := by decide +kernel
theorem dX12_undo_7 : decode cX12_undo 7 = .ok (.iconst 0, 1) := by decide +kernel
theorem dX12_undo_8 : decode cX12_undo 8 = .ok (.ireturn, 1) := by decide +kernel
theorem dX12_undo_9 : decode cX12_undo 9 = .ok (.aload_n 0, 1) := by decide +kernel
theorem dX12_undo_10 : decode cX12_undo 10 = .ok (.dup, 1) := by decide +kernel
theorem dX12_undo_11 : decode cX12_undo 11 = .ok (.getfield 372, 3) := by decide +kernel
theorem dX12_undo_14 : decode cX12_undo 14 = .ok (.iconst 1, 1) := by decide +kernel
theorem dX12_undo_15 : decode cX12_undo 15 = .ok (.isub, 1) := by decide +kernel
theorem dX12_undo_16 : decode cX12_undo 16 = .ok (.putfield 372, 3) := by decide +kernel
theorem dX12_undo_19 : decode cX12_undo 19 = .ok (.aload_n 0, 1) := by decide +kernel
theorem dX12_undo_20 : decode cX12_undo 20 = .ok (.dup, 1) := by decide +kernel
theorem dX12_undo_21 : decode cX12_undo 21 = .ok (.getfield 375, 3) := by decide +kernel
theorem dX12_undo_24 : decode cX12_undo 24 = .ok (.iconst 1, 1) := by decide +kernel
theorem dX12_undo_25 : decode cX12_undo 25 = .ok (.iadd, 1) := by decide +kernel
theorem dX12_undo_26 : decode cX12_undo 26 = .ok (.putfield 375, 3) := by decide +kernel
theorem dX12_undo_29 : decode cX12_undo 29 = .ok (.aload_n 0, 1) := by decide +kernel
theorem dX12_undo_30 : decode cX12_undo 30 = .ok (.bipush 45, 2) := by decide +kernel
theorem dX12_undo_32 : decode cX12_undo 32 = .ok (.aload_n 0, 1) := by decide +kernel
theorem dX12_undo_33 : decode cX12_undo 33 = .ok (.getfield 372, 3) := by decide +kernel
theorem dX12_undo_36 : decode cX12_undo 36 = .ok (.imul, 1) := by decide +kernel
theorem dX12_undo_37 : decode cX12_undo 37 = .ok (.invokevirtual 436, 3) := by decide +kernel
theorem dX12_undo_40 : decode cX12_undo 40 = .ok (.iconst 1, 1) := by decide +kernel
theorem dX12_undo_41 : decode cX12_undo 41 = .ok (.ireturn, 1) := by decide +kernel
theorem dX12_redo_0 : decode cX12_redo 0 = .ok (.aload_n 0, 1) := by decide +kernel
theorem dX12_redo_1 : decode cX12_redo 1 = .ok (.getfield 375, 3) := by decide +kernel
theorem dX12_redo_4 : decode cX12_redo 4 = .ok (.ifCond .ne 5, 3) := by decide +kernel
theorem dX12_redo_7 : decode cX12_redo 7 = .ok (.iconst 0, 1) := by decide +kernel
theorem dX12_redo_8 : decode cX12_redo 8 = .ok (.ireturn, 1) := by decide +kernel
theorem dX12_redo_9 : decode cX12_redo 9 = .ok (.aload_n 0, 1) := by decide +kernel
theorem dX12_redo_10 : decode cX12_redo 10 = .ok (.bipush 45, 2) := by decide +kernel
theorem dX12_redo_12 : decode cX12_redo 12 = .ok (.aload_n 0, 1) := by decide +kernel
theorem dX12_redo_13 : decode cX12_redo 13 = .ok (.getfield 372, 3) := by decide +kernel
theorem dX12_redo_16 : decode cX12_redo 16 = .ok (.imul, 1) := by decide +kernel
theorem dX12_redo_17 : decode cX12_redo 17 = .ok (.invokevirtual 436, 3) := by decide +kernel
theorem dX12_redo_20 : decode cX12_redo 20 = .ok (.aload_n 0, 1) := by decide +kernel
theorem dX12_redo_21 : decode cX12_redo 21 = .ok (.dup, 1) := by decide +kernel
theorem dX12_redo_22 : decode cX12_redo 22 = .ok (.getfield 372, 3) := by decide +kernel
theorem dX12_redo_25 : decode cX12_redo 25 = .ok (.iconst 1, 1) := by decide +kernel
theorem dX12_redo_26 : decode cX12_redo 26 = .ok (.iadd, 1) := by decide +kernel
theorem dX12_redo_27 : decode cX12_redo 27 = .ok (.putfield 372, 3) := by decide +kernel
theorem dX12_redo_30 : decode cX12_redo 30 = .ok (.aload_n 0, 1) := by decide +kernel
theorem dX12_redo_31 : decode cX12_redo 31 = .ok (.dup, 1) := by decide +kernel
theorem dX12_redo_32 : decode cX12_redo 32 = .ok (.getfield 375, 3) := by decide +kernel
theorem dX12_redo_35 : decode cX12_redo 35 = .ok (.iconst 1, 1) := by decide +kernel
theorem dX12_redo_36 : decode cX12_redo 36 = .ok (.isub, 1) := by decide +kernel
theorem dX12_redo_37 : decode cX12_redo 37 = .ok (.putfield 375, 3) := by decide +kernel
theorem dX12_redo_40 : decode cX12_redo 40 = .ok (.iconst 1, 1) := by decide +kernel
theorem dX12_redo_41 : decode cX12_redo 41 = .ok (.ireturn, 1) := by decide +kernel
theorem dX12_will_0 : decode cX12_will 0 = .ok (.aload_n 0, 1) := by decide +kernel
theorem dX12_will_1 : decode cX12_will 1 = .ok (.iload_n 1, 1) := by decide +kernel
theorem dX12_will_2 : decode cX12_will 2 = .ok (.invokevirtual 423, 3) := by decide +kernel
theorem dX12_will_5 : decode cX12_will 5 = .ok (.ifCond .eq 22, 3) := by decide +kernel
theorem dX12_will_8 : decode cX12_will 8 = .ok (.iload_n 2, 1) := by decide +kernel
theorem dX12_will_9 : decode cX12_will 9 = .ok (.iconst 1, 1) := by decide +kernel
theorem dX12_will_10 : decode cX12_will 10 = .ok (.bipush 60, 2) := by decide +kernel
theorem dX12_will_12 : decode cX12_will 12 = .ok (.invokestatic 384, 3) := by decide +kernel
theorem dX12_will_15 : decode cX12_will 15 = .ok (.ifCond .eq 12, 3) := by decide +kernel
theorem dX12_will_18 : decode cX12_will 18 = .ok (.iload_n 3, 1) := by decide +kernel
theorem dX12_will_19 : decode cX12_will 19 = .ok (.iconst 0, 1) := by decide +kernel
theorem dX12_will_20 : decode cX12_will 20 = .ok (.iconst 1, 1) := by decide +kernel
theorem dX12_will_21 : decode cX12_will 21 = .ok (.invokestatic 384, 3) := by decide +kernel
theorem dX12_will_24 : decode cX12_will 24 = .ok (.ifCond .ne 6, 3) := by decide +kernel
theorem dX12_will_27 : decode cX12_will 27 = .ok (.bipush (-2), 2) := by decide +kernel
theorem dX12_will_29 : decode cX12_will 29 = .ok (.ireturn, 1) := by decide +kernel
theorem dX12_will_30 : decode cX12_will 30 = .ok (.aload_n 0, 1) := by decide +kernel
theorem dX12_will_31 : decode cX12_will 31 = .ok (.invokevirtual 411, 3) := by decide +kernel
theorem dX12_will_34 : decode cX12_will 34 = .ok (.iconst 0, 1) := by decide +kernel
theorem dX12_will_35 : decode cX12_will 35 = .ok (.istore 4, 2) := by decide +kernel
theorem dX12_will_37 : decode cX12_will 37 = .ok (.iload 4, 2) := by decide +kernel
theorem dX12_will_39 : decode cX12_will 39 = .ok (.iload_n 2, 1) := by decide +kernel
theorem dX12_will_40 : decode cX12_will 40 = .ok (.if_icmp .ge 24, 3) := by decide +kernel
theorem dX12_will_43 : decode cX12_will 43 = .ok (.aload_n 0, 1) := by decide +kernel
theorem dX12_will_44 : decode cX12_will 44 = .ok (.iload_n 3, 1) := by decide +kernel
theorem dX12_will_45 : decode cX12_will 45 = .ok (.iconst 1, 1) := by decide +kernel
theorem dX12_will_46 : decode cX12_will 46 = .ok (.if_icmp .ne 7, 3) := by decide +kernel
theorem dX12_will_49 : decode cX12_will 49 = .ok (.iconst 1, 1) := by decide +kernel
theorem dX12_will_50 : decode cX12_will 50 = .ok (.goto 4, 3) := by decide +kernel
theorem dX12_will_53 : decode cX12_will 53 = .ok (.iconst 0, 1) := by decide +kernel
theorem dX12_will_54 : decode cX12_will 54 = .ok (.invokevirtual 417, 3) := by decide +kernel
theorem dX12_will_57 : decode cX12_will 57 = .ok (.pop, 1) := by decide +kernel
theorem dX12_will_58 : decode cX12_will 58 = .ok (.iinc 4 1, 3) := by decide +kernel
theorem dX12_will_61 : decode cX12_will 61 = .ok (.goto (-24), 3) := by decide +kernel
theorem dX12_will_64 : decode cX12_will 64 = .ok (.aload_n 0, 1) := by decide +kernel
theorem dX12_will_65 : decode cX12_will 65 = .ok (.getfield 66, 3) := by decide +kernel
theorem dX12_will_68 : decode cX12_will 68 = .ok (.iload_n 1, 1) := by decide +kernel
theorem dX12_will_69 : decode cX12_will 69 = .ok (.iaload, 1) := by decide +kernel
theorem dX12_will_70 : decode cX12_will 70 = .ok (.ireturn, 1) := by decide +kernel
theorem dX12_purse_0 : decode cX12_purse 0 = .ok (.aload_n 0, 1) := by decide +kernel
theorem dX12_purse_1 : decode cX12_purse 1 = .ok (.iload_n 1, 1) := by decide +kernel
theorem dX12_purse_2 : decode cX12_purse 2 = .ok (.invokevirtual 408, 3) := by decide +kernel
theorem dX12_purse_5 : decode cX12_purse 5 = .ok (.ifCond .eq 13, 3) := by decide +kernel
theorem dX12_purse_8 : decode cX12_purse 8 = .ok (.iload_n 2, 1) := by decide +kernel
theorem dX12_purse_9 : decode cX12_purse 9 = .ok (.iconst 0, 1) := by decide +kernel
theorem dX12_purse_10 : decode cX12_purse 10 = .ok (.bipush 60, 2) := by decide +kernel
theorem dX12_purse_12 : decode cX12_purse 12 = .ok (.invokestatic 384, 3) := by decide +kernel
theorem dX12_purse_15 : decode cX12_purse 15 = .ok (.ifCond .ne 5, 3) := by decide +kernel
theorem dX12_purse_18 : decode cX12_purse 18 = .ok (.iconst (-1), 1) := by decide +kernel
theorem dX12_purse_19 : decode cX12_purse 19 = .ok (.ireturn, 1) := by decide +kernel
theorem dX12_purse_20 : decode cX12_purse 20 = .ok (.aload_n 0, 1) := by decide +kernel
theorem dX12_purse_21 : decode cX12_purse 21 = .ok (.invokevirtual 411, 3) := by decide +kernel
theorem dX12_purse_24 : decode cX12_purse 24 = .ok (.iconst 0, 1) := by decide +kernel
theorem dX12_purse_25 : decode cX12_purse 25 = .ok (.istore_n 3, 1) := by decide +kernel
theorem dX12_purse_26 : decode cX12_purse 26 = .ok (.iload_n 3, 1) := by decide +kernel
theorem dX12_purse_27 : decode cX12_purse 27 = .ok (.iload_n 2, 1) := by decide +kernel
theorem dX12_purse_28 : decode cX12_purse 28 = .ok (.if_icmp .ge 15, 3) := by decide +kernel
theorem dX12_purse_31 : decode cX12_purse 31 = .ok (.aload_n 0, 1) := by decide +kernel
theorem dX12_purse_32 : decode cX12_purse 32 = .ok (.iconst 0, 1) := by decide +kernel
theorem dX12_purse_33 : decode cX12_purse 33 = .ok (.invokevirtual 417, 3) := by decide +kernel
theorem dX12_purse_36 : decode cX12_purse 36 = .ok (.pop, 1) := by decide +kernel
theorem dX12_purse_37 : decode cX12_purse 37 = .ok (.iinc 3 1, 3) := by decide +kernel
theorem dX12_purse_40 : decode cX12_purse 40 = .ok (.goto (-14), 3) := by decide +kernel
theorem dX12_purse_43 : decode cX12_purse 43 = .ok (.aload_n 0, 1) := by decide +kernel
theorem dX12_purse_44 : decode cX12_purse 44 = .ok (.getfield 63, 3) := by decide +kernel
theorem dX12_purse_47 : decode cX12_purse 47 = .ok (.iload_n 1, 1) := by decide +kernel
theorem dX12_purse_48 : decode cX12_purse 48 = .ok (.iaload, 1) := by decide +kernel
theorem dX12_purse_49 : decode cX12_purse 49 = .ok (.ireturn, 1) := by decide +kernel
theorem dX12_cost_0 : decode cX12_cost 0 = .ok (.iload_n 1, 1) := by decide +kernel
theorem dX12_cost_1 : decode cX12_cost 1 = .ok (.iconst 0, 1) := by decide +kernel
theorem dX12_cost_2 : decode cX12_cost 2 = .ok (.bipush 60, 2) := by decide +kernel
theorem dX12_cost_4 : decode cX12_cost 4 = .ok (.invokestatic 384, 3) := by decide +kernel
theorem dX12_cost_7 : decode cX12_cost 7 = .ok (.ifCond .ne 5, 3) := by decide +kernel
theorem dX12_cost_10 : decode cX12_cost 10 = .ok (.iconst (-1), 1) := by decide +kernel
theorem dX12_cost_11 : decode cX12_cost 11 = .ok (.ireturn, 1) := by decide +kernel
theorem dX12_cost_12 : decode cX12_cost 12 = .ok (.aload_n 0, 1) := by decide +kernel
theorem dX12_cost_13 : decode cX12_cost 13 = .ok (.invokevirtual 411, 3) := by decide +kernel
theorem dX12_cost_16 : decode cX12_cost 16 = .ok (.iconst 0, 1) := by decide +kernel
theorem dX12_cost_17 : decode cX12_cost 17 = .ok (.istore_n 2, 1) := by decide +kernel
theorem dX12_cost_18 : decode cX12_cost 18 = .ok (.iconst 0, 1) := by decide +kernel
theorem dX12_cost_19 : decode cX12_cost 19 = .ok (.istore_n 3, 1) := by decide +kernel
theorem dX12_cost_20 : decode cX12_cost 20 = .ok (.iload_n 3, 1) := by decide +kernel
theorem dX12_cost_21 : decode cX12_cost 21 = .ok (.iload_n 1, 1) := by decide +kernel
theorem dX12_cost_22 : decode cX12_cost 22 = .ok (.if_icmp .ge 17, 3) := by decide +kernel
theorem dX12_cost_25 : decode cX12_cost 25 = .ok (.iload_n 2, 1) := by decide +kernel
theorem dX12_cost_26 : decode cX12_cost 26 = .ok (.aload_n 0, 1) := by decide +kernel
theorem dX12_cost_27 : decode cX12_cost 27 = .ok (.iconst 0, 1) := by decide +kernel
theorem dX12_cost_28 : decode cX12_cost 28 = .ok (.invokevirtual 417, 3) := by decide +kernel
theorem dX12_cost_31 : decode cX12_cost 31 = .ok (.iadd, 1) := by decide +kernel
theorem dX12_cost_32 : decode cX12_cost 32 = .ok (.istore_n 2, 1) := by decide +kernel
theorem dX12_cost_33 : decode cX12_cost 33 = .ok (.iinc 3 1, 3) := by decide +kernel
theorem dX12_cost_36 : decode cX12_cost 36 = .ok (.goto (-16), 3) := by decide +kernel
theorem dX12_cost_39 : decode cX12_cost 39 = .ok (.iload_n 2, 1) := by decide +kernel
theorem dX12_cost_40 : decode cX12_cost 40 = .ok (.ireturn, 1) := by decide +kernel
theorem dX12_ruin_0 : decode cX12_ruin 0 = .ok (.aload_n 0, 1) := by decide +kernel
theorem dX12_ruin_1 : decode cX12_ruin 1 = .ok (.iload_n 1, 1) := by decide +kernel
theorem dX12_ruin_2 : decode cX12_ruin 2 = .ok (.invokevirtual 408, 3) := by decide +kernel
theorem dX12_ruin_5 : decode cX12_ruin 5 = .ok (.ifCond .ne 5, 3) := by decide +kernel
theorem dX12_ruin_8 : decode cX12_ruin 8 = .ok (.iconst (-1), 1) := by decide +kernel
theorem dX12_ruin_9 : decode cX12_ruin 9 = .ok (.ireturn, 1) := by decide +kernel
theorem dX12_ruin_10 : decode cX12_ruin 10 = .ok (.aload_n 0, 1) := by decide +kernel
theorem dX12_ruin_11 : decode cX12_ruin 11 = .ok (.invokevirtual 411, 3) := by decide +kernel
theorem dX12_ruin_14 : decode cX12_ruin 14 = .ok (.iconst 0, 1) := by decide +kernel
theorem dX12_ruin_15 : decode cX12_ruin 15 = .ok (.istore_n 2, 1) := by decide +kernel
theorem dX12_ruin_16 : decode cX12_ruin 16 = .ok (.iload_n 2, 1) := by decide +kernel
theorem dX12_ruin_17 : decode cX12_ruin 17 = .ok (.bipush 60, 2) := by decide +kernel
theorem dX12_ruin_19 : decode cX12_ruin 19 = .ok (.if_icmp .gt 26, 3) := by decide +kernel
theorem dX12_ruin_22 : decode cX12_ruin 22 = .ok (.aload_n 0, 1) := by decide +kernel
theorem dX12_ruin_23 : decode cX12_ruin 23 = .ok (.getfield 63, 3) := by decide +kernel
theorem dX12_ruin_26 : decode cX12_ruin 26 = .ok (.iload_n 1, 1) := by decide +kernel
theorem dX12_ruin_27 : decode cX12_ruin 27 = .ok (.iaload, 1) := by decide +kernel
theorem dX12_ruin_28 : decode cX12_ruin 28 = .ok (.ifCond .ne 5, 3) := by decide +kernel
theorem dX12_ruin_31 : decode cX12_ruin 31 = .ok (.iload_n 2, 1) := by decide +kernel
theorem dX12_ruin_32 : decode cX12_ruin 32 = .ok (.ireturn, 1) := by decide +kernel
theorem dX12_ruin_33 : decode cX12_ruin 33 = .ok (.aload_n 0, 1) := by decide +kernel
theorem dX12_ruin_34 : decode cX12_ruin 34 = .ok (.iconst 0, 1) := by decide +kernel
theorem dX12_ruin_35 : decode cX12_ruin 35 = .ok (.invokevirtual 417, 3) := by decide +kernel
theorem dX12_ruin_38 : decode cX12_ruin 38 = .ok (.pop, 1) := by decide +kernel
theorem dX12_ruin_39 : decode cX12_ruin 39 = .ok (.iinc 2 1, 3) := by decide +kernel
theorem dX12_ruin_42 : decode cX12_ruin 42 = .ok (.goto (-26), 3) := by decide +kernel
theorem dX12_ruin_45 : decode cX12_ruin 45 = .ok (.iconst (-1), 1) := by decide +kernel
theorem dX12_ruin_46 : decode cX12_ruin 46 = .ok (.ireturn, 1) := by decide +kernel
theorem dX12_slight_0 : decode cX12_slight 0 = .ok (.iload_n 1, 1) := by decide +kernel
theorem dX12_slight_1 : decode cX12_slight 1 = .ok (.iconst 0, 1) := by decide +kernel
theorem dX12_slight_2 : decode cX12_slight 2 = .ok (.bipush 60, 2) := by decide +kernel
theorem dX12_slight_4 : decode cX12_slight 4 = .ok (.invokestatic 384, 3) := by decide +kernel
theorem dX12_slight_7 : decode cX12_slight 7 = .ok (.ifCond .ne 5, 3) := by decide +kernel
theorem dX12_slight_10 : decode cX12_slight 10 = .ok (.iconst (-1), 1) := by decide +kernel
theorem dX12_slight_11 : decode cX12_slight 11 = .ok (.ireturn, 1) := by decide +kernel
theorem dX12_slight_12 : decode cX12_slight 12 = .ok (.aload_n 0, 1) := by decide +kernel
theorem dX12_slight_13 : decode cX12_slight 13 = .ok (.invokevirtual 411, 3) := by decide +kernel
theorem dX12_slight_16 : decode cX12_slight 16 = .ok (.aload_n 0, 1) := by decide +kernel
theorem dX12_slight_17 : decode cX12_slight 17 = .ok (.getfield 63, 3) := by decide +kernel
theorem dX12_slight_20 : decode cX12_slight 20 = .ok (.bipush 12, 2) := by decide +kernel
theorem dX12_slight_22 : decode cX12_slight 22 = .ok (.iaload, 1) := by decide +kernel
theorem dX12_slight_23 : decode cX12_slight 23 = .ok (.istore_n 2, 1) := by decide +kernel
theorem dX12_slight_24 : decode cX12_slight 24 = .ok (.iconst 0, 1) := by decide +kernel
theorem dX12_slight_25 : decode cX12_slight 25 = .ok (.istore_n 3, 1) := by decide +kernel
theorem dX12_slight_26 : decode cX12_slight 26 = .ok (.iload_n 3, 1) := by decide +kernel
theorem dX12_slight_27 : decode cX12_slight 27 = .ok (.iload_n 1, 1) := by decide +kernel
theorem dX12_slight_28 : decode cX12_slight 28 = .ok (.if_icmp .ge 57, 3) := by decide +kernel
theorem dX12_slight_31 : decode cX12_slight 31 = .ok (.aload_n 0, 1) := by decide +kernel
theorem dX12_slight_32 : decode cX12_slight 32 = .ok (.iconst 0, 1) := by decide +kernel
theorem dX12_slight_33 : decode cX12_slight 33 = .ok (.invokevirtual 417, 3) := by decide +kernel
theorem dX12_slight_36 : decode cX12_slight 36 = .ok (.pop, 1) := by decide +kernel
theorem dX12_slight_37 : decode cX12_slight 37 = .ok (.iconst 0, 1) := by decide +kernel
theorem dX12_slight_38 : decode cX12_slight 38 = .ok (.istore 4, 2) := by decide +kernel
theorem dX12_slight_40 : decode cX12_slight 40 = .ok (.iload 4, 2) := by decide +kernel
theorem dX12_slight_42 : decode cX12_slight 42 = .ok (.aload_n 0, 1) := by decide +kernel
theorem dX12_slight_43 : decode cX12_slight 43 = .ok (.getfield 351, 3) := by decide +kernel
theorem dX12_slight_46 : decode cX12_slight 46 = .ok (.if_icmp .ge 33, 3) := by decide +kernel
theorem dX12_slight_49 : decode cX12_slight 49 = .ok (.aload_n 0, 1) := by decide +kernel
theorem dX12_slight_50 : decode cX12_slight 50 = .ok (.getfield 66, 3) := by decide +kernel
theorem dX12_slight_53 : decode cX12_slight 53 = .ok (.iload 4, 2) := by decide +kernel
theorem dX12_slight_55 : decode cX12_slight 55 = .ok (.iaload, 1) := by decide +kernel
theorem dX12_slight_56 : decode cX12_slight 56 = .ok (.ifCond .lt 17, 3) := by decide +kernel
theorem dX12_slight_59 : decode cX12_slight 59 = .ok (.iload_n 2, 1) := by decide +kernel
theorem dX12_slight_60 : decode cX12_slight 60 = .ok (.iconst 1, 1) := by decide +kernel
theorem dX12_slight_61 : decode cX12_slight 61 = .ok (.aload_n 0, 1) := by decide +kernel
theorem dX12_slight_62 : decode cX12_slight 62 = .ok (.getfield 66, 3) := by decide +kernel
theorem dX12_slight_65 : decode cX12_slight 65 = .ok (.iload 4, 2) := by decide +kernel
theorem dX12_slight_67 : decode cX12_slight 67 = .ok (.iaload, 1) := by decide +kernel
theorem dX12_slight_68 : decode cX12_slight 68 = .ok (.ishl, 1) := by decide +kernel
theorem dX12_slight_69 : decode cX12_slight 69 = .ok (.iconst (-1), 1) := by decide +kernel
theorem dX12_slight_70 : decode cX12_slight 70 = .ok (.ixor, 1) := by decide +kernel
theorem dX12_slight_71 : decode cX12_slight 71 = .ok (.iand, 1) := by decide +kernel
theorem dX12_slight_72 : decode cX12_slight 72 = .ok (.istore_n 2, 1) := by decide +kernel
theorem dX12_slight_73 : decode cX12_slight 73 = .ok (.iinc 4 1, 3) := by decide +kernel
theorem dX12_slight_76 : decode cX12_slight 76 = .ok (.goto (-36), 3) := by decide +kernel
theorem dX12_slight_79 : decode cX12_slight 79 = .ok (.iinc 3 1, 3) := by decide +kernel
theorem dX12_slight_82 : decode cX12_slight 82 = .ok (.goto (-56), 3) := by decide +kernel
theorem dX12_slight_85 : decode cX12_slight 85 = .ok (.iload_n 2, 1) := by decide +kernel
theorem dX12_slight_86 : decode cX12_slight 86 = .ok (.ireturn, 1) := by decide +kernel
theorem dX12_hushed_0 : decode cX12_hushed 0 = .ok (.aload_n 0, 1) := by decide +kernel
theorem dX12_hushed_1 : decode cX12_hushed 1 = .ok (.iload_n 1, 1) := by decide +kernel
theorem dX12_hushed_2 : decode cX12_hushed 2 = .ok (.invokevirtual 423, 3) := by decide +kernel
theorem dX12_hushed_5 : decode cX12_hushed 5 = .ok (.ifCond .ne 5, 3) := by decide +kernel
theorem dX12_hushed_8 : decode cX12_hushed 8 = .ok (.iconst (-1), 1) := by decide +kernel
theorem dX12_hushed_9 : decode cX12_hushed 9 = .ok (.ireturn, 1) := by decide +kernel
theorem dX12_hushed_10 : decode cX12_hushed 10 = .ok (.aload_n 0, 1) := by decide +kernel
theorem dX12_hushed_11 : decode cX12_hushed 11 = .ok (.invokevirtual 411, 3) := by decide +kernel
theorem dX12_hushed_14 : decode cX12_hushed 14 = .ok (.iconst 1, 1) := by decide +kernel
theorem dX12_hushed_15 : decode cX12_hushed 15 = .ok (.istore_n 2, 1) := by decide +kernel
theorem dX12_hushed_16 : decode cX12_hushed 16 = .ok (.iload_n 2, 1) := by decide +kernel
theorem dX12_hushed_17 : decode cX12_hushed 17 = .ok (.bipush 60, 2) := by decide +kernel
theorem dX12_hushed_19 : decode cX12_hushed 19 = .ok (.if_icmp .gt 26, 3) := by decide +kernel
theorem dX12_hushed_22 : decode cX12_hushed 22 = .ok (.aload_n 0, 1) := by decide +kernel
theorem dX12_hushed_23 : decode cX12_hushed 23 = .ok (.iconst 0, 1) := by decide +kernel
theorem dX12_hushed_24 : decode cX12_hushed 24 = .ok (.invokevirtual 417, 3) := by decide +kernel
theorem dX12_hushed_27 : decode cX12_hushed 27 = .ok (.pop, 1) := by decide +kernel
theorem dX12_hushed_28 : decode cX12_hushed 28 = .ok (.aload_n 0, 1) := by decide +kernel
theorem dX12_hushed_29 : decode cX12_hushed 29 = .ok (.getfield 66, 3) := by decide +kernel
theorem dX12_hushed_32 : decode cX12_hushed 32 = .ok (.iload_n 1, 1) := by decide +kernel
theorem dX12_hushed_33 : decode cX12_hushed 33 = .ok (.iaload, 1) := by decide +kernel
theorem dX12_hushed_34 : decode cX12_hushed 34 = .ok (.ifCond .ge 5, 3) := by decide +kernel
theorem dX12_hushed_37 : decode cX12_hushed 37 = .ok (.iload_n 2, 1) := by decide +kernel
theorem dX12_hushed_38 : decode cX12_hushed 38 = .ok (.ireturn, 1) := by decide +kernel
theorem dX12_hushed_39 : decode cX12_hushed 39 = .ok (.iinc 2 1, 3) := by decide +kernel
theorem dX12_hushed_42 : decode cX12_hushed 42 = .ok (.goto (-26), 3) := by decide +kernel
theorem dX12_hushed_45 : decode cX12_hushed 45 = .ok (.iconst (-1), 1) := by decide +kernel
theorem dX12_hushed_46 : decode cX12_hushed 46 = .ok (.ireturn, 1) := by decide +kernel
theorem dX12_dayWithout_0 : decode cX12_dayWithout 0 = .ok (.aload_n 0, 1) := by decide +kernel
theorem dX12_dayWithout_1 : decode cX12_dayWithout 1 = .ok (.invokevirtual 411, 3) := by decide +kernel
theorem dX12_dayWithout_4 : decode cX12_dayWithout 4 = .ok (.aload_n 0, 1) := by decide +kernel
theorem dX12_dayWithout_5 : decode cX12_dayWithout 5 = .ok (.getfield 63, 3) := by decide +kernel
theorem dX12_dayWithout_8 : decode cX12_dayWithout 8 = .ok (.bipush 12, 2) := by decide +kernel
theorem dX12_dayWithout_10 : decode cX12_dayWithout 10 = .ok (.dup2, 1) := by decide +kernel
theorem dX12_dayWithout_11 : decode cX12_dayWithout 11 = .ok (.iaload, 1) := by decide +kernel
theorem dX12_dayWithout_12 : decode cX12_dayWithout 12 = .ok (.iload_n 1, 1) := by decide +kernel
theorem dX12_dayWithout_13 : decode cX12_dayWithout 13 = .ok (.iconst (-1), 1) := by decide +kernel
theorem dX12_dayWithout_14 : decode cX12_dayWithout 14 = .ok (.ixor, 1) := by decide +kernel
theorem dX12_dayWithout_15 : decode cX12_dayWithout 15 = .ok (.iand, 1) := by decide +kernel
theorem dX12_dayWithout_16 : decode cX12_dayWithout 16 = .ok (.iastore, 1) := by decide +kernel
theorem dX12_dayWithout_17 : decode cX12_dayWithout 17 = .ok (.aload_n 0, 1) := by decide +kernel
theorem dX12_dayWithout_18 : decode cX12_dayWithout 18 = .ok (.iconst 0, 1) := by decide +kernel
theorem dX12_dayWithout_19 : decode cX12_dayWithout 19 = .ok (.invokevirtual 417, 3) := by decide +kernel
theorem dX12_dayWithout_22 : decode cX12_dayWithout 22 = .ok (.ireturn, 1) := by decide +kernel
theorem dX12_silentOnes_0 : decode cX12_silentOnes 0 = .ok (.iconst 0, 1) := by decide +kernel
theorem dX12_silentOnes_1 : decode cX12_silentOnes 1 = .ok (.istore_n 1, 1) := by decide +kernel
theorem dX12_silentOnes_2 : decode cX12_silentOnes 2 = .ok (.iconst 0, 1) := by decide +kernel
theorem dX12_silentOnes_3 : decode cX12_silentOnes 3 = .ok (.istore_n 2, 1) := by decide +kernel
theorem dX12_silentOnes_4 : decode cX12_silentOnes 4 = .ok (.iload_n 2, 1) := by decide +kernel
theorem dX12_silentOnes_5 : decode cX12_silentOnes 5 = .ok (.aload_n 0, 1) := by decide +kernel
theorem dX12_silentOnes_6 : decode cX12_silentOnes 6 = .ok (.getfield 351, 3) := by decide +kernel
theorem dX12_silentOnes_9 : decode cX12_silentOnes 9 = .ok (.if_icmp .ge 31, 3) := by decide +kernel
theorem dX12_silentOnes_12 : decode cX12_silentOnes 12 = .ok (.iload_n 1, 1) := by decide +kernel
theorem dX12_silentOnes_13 : decode cX12_silentOnes 13 = .ok (.aload_n 0, 1) := by decide +kernel
theorem dX12_silentOnes_14 : decode cX12_silentOnes 14 = .ok (.getfield 66, 3) := by decide +kernel
theorem dX12_silentOnes_17 : decode cX12_silentOnes 17 = .ok (.iload_n 2, 1) := by decide +kernel
theorem dX12_silentOnes_18 : decode cX12_silentOnes 18 = .ok (.iaload, 1) := by decide +kernel
theorem dX12_silentOnes_19 : decode cX12_silentOnes 19 = .ok (.ifCond .ge 7, 3) := by decide +kernel
theorem dX12_silentOnes_22 : decode cX12_silentOnes 22 = .ok (.iconst 1, 1) := by decide +kernel
theorem dX12_silentOnes_23 : decode cX12_silentOnes 23 = .ok (.goto 4, 3) := by decide +kernel
theorem dX12_silentOnes_26 : decode cX12_silentOnes 26 = .ok (.iconst 0, 1) := by decide +kernel
theorem dX12_silentOnes_27 : decode cX12_silentOnes 27 = .ok (.invokestatic 279, 3) := by decide +kernel
theorem dX12_silentOnes_30 : decode cX12_silentOnes 30 = .ok (.iload_n 2, 1) := by decide +kernel
theorem dX12_silentOnes_31 : decode cX12_silentOnes 31 = .ok (.ishl, 1) := by decide +kernel
theorem dX12_silentOnes_32 : decode cX12_silentOnes 32 = .ok (.ior, 1) := by decide +kernel
theorem dX12_silentOnes_33 : decode cX12_silentOnes 33 = .ok (.istore_n 1, 1) := by decide +kernel
theorem dX12_silentOnes_34 : decode cX12_silentOnes 34 = .ok (.iinc 2 1, 3) := by decide +kernel
theorem dX12_silentOnes_37 : decode cX12_silentOnes 37 = .ok (.goto (-33), 3) := by decide +kernel
theorem dX12_silentOnes_40 : decode cX12_silentOnes 40 = .ok (.iload_n 1, 1) := by decide +kernel
theorem dX12_silentOnes_41 : decode cX12_silentOnes 41 = .ok (.ireturn, 1) := by decide +kernel
theorem dX12_silent_0 : decode cX12_silent 0 = .ok (.aload_n 0, 1) := by decide +kernel
theorem dX12_silent_1 : decode cX12_silent 1 = .ok (.iconst 0, 1) := by decide +kernel
theorem dX12_silent_2 : decode cX12_silent 2 = .ok (.invokevirtual 439, 3) := by decide +kernel
theorem dX12_silent_5 : decode cX12_silent 5 = .ok (.pop, 1) := by decide +kernel
theorem dX12_silent_6 : decode cX12_silent 6 = .ok (.aload_n 0, 1) := by decide +kernel
theorem dX12_silent_7 : decode cX12_silent 7 = .ok (.invokevirtual 442, 3) := by decide +kernel
theorem dX12_silent_10 : decode cX12_silent 10 = .ok (.ireturn, 1) := by decide +kernel
theorem dX12_nextRow_0 : decode cX12_nextRow 0 = .ok (.aload_n 0, 1) := by decide +kernel
theorem dX12_nextRow_1 : decode cX12_nextRow 1 = .ok (.getfield 351, 3) := by decide +kernel
theorem dX12_nextRow_4 : decode cX12_nextRow 4 = .ok (.iconst 2, 1) := by decide +kernel
theorem dX12_nextRow_5 : decode cX12_nextRow 5 = .ok (.isub, 1) := by decide +kernel
theorem dX12_nextRow_6 : decode cX12_nextRow 6 = .ok (.istore_n 1, 1) := by decide +kernel
theorem dX12_nextRow_7 : decode cX12_nextRow 7 = .ok (.iload_n 1, 1) := by decide +kernel
theorem dX12_nextRow_8 : decode cX12_nextRow 8 = .ok (.ifCond .lt 26, 3) := by decide +kernel
theorem dX12_nextRow_11 : decode cX12_nextRow 11 = .ok (.aload_n 0, 1) := by decide +kernel
theorem dX12_nextRow_12 : decode cX12_nextRow 12 = .ok (.getfield 75, 3) := by decide +kernel
theorem dX12_nextRow_15 : decode cX12_nextRow 15 = .ok (.iload_n 1, 1) := by decide +kernel
theorem dX12_nextRow_16 : decode cX12_nextRow 16 = .ok (.iaload, 1) := by decide +kernel
theorem dX12_nextRow_17 : decode cX12_nextRow 17 = .ok (.aload_n 0, 1) := by decide +kernel
theorem dX12_nextRow_18 : decode cX12_nextRow 18 = .ok (.getfield 75, 3) := by decide +kernel
theorem dX12_nextRow_21 : decode cX12_nextRow 21 = .ok (.iload_n 1, 1) := by decide +kernel
theorem dX12_nextRow_22 : decode cX12_nextRow 22 = .ok (.iconst 1, 1) := by decide +kernel
theorem dX12_nextRow_23 : decode cX12_nextRow 23 = .ok (.iadd, 1) := by decide +kernel
theorem dX12_nextRow_24 : decode cX12_nextRow 24 = .ok (.iaload, 1) := by decide +kernel
theorem dX12_nextRow_25 : decode cX12_nextRow 25 = .ok (.if_icmp .le 9, 3) := by decide +kernel
theorem dX12_nextRow_28 : decode cX12_nextRow 28 = .ok (.iinc 1 (-1), 3) := by decide +kernel
theorem dX12_nextRow_31 : decode cX12_nextRow 31 = .ok (.goto (-24), 3) := by decide +kernel
theorem dX12_nextRow_34 : decode cX12_nextRow 34 = .ok (.iload_n 1, 1) := by decide +kernel
theorem dX12_nextRow_35 : decode cX12_nextRow 35 = .ok (.ifCond .ge 5, 3) := by decide +kernel
theorem dX12_nextRow_38 : decode cX12_nextRow 38 = .ok (.iconst 0, 1) := by decide +kernel
theorem dX12_nextRow_39 : decode cX12_nextRow 39 = .ok (.ireturn, 1) := by decide +kernel
theorem dX12_nextRow_40 : decode cX12_nextRow 40 = .ok (.aload_n 0, 1) := by decide +kernel
theorem dX12_nextRow_41 : decode cX12_nextRow 41 = .ok (.getfield 351, 3) := by decide +kernel
theorem dX12_nextRow_44 : decode cX12_nextRow 44 = .ok (.iconst 1, 1) := by decide +kernel
theorem dX12_nextRow_45 : decode cX12_nextRow 45 = .ok (.isub, 1) := by decide +kernel
theorem dX12_nextRow_46 : decode cX12_nextRow 46 = .ok (.istore_n 2, 1) := by decide +kernel
theorem dX12_nextRow_47 : decode cX12_nextRow 47 = .ok (.aload_n 0, 1) := by decide +kernel
theorem dX12_nextRow_48 : decode cX12_nextRow 48 = .ok (.getfield 75, 3) := by decide +kernel
theorem dX12_nextRow_51 : decode cX12_nextRow 51 = .ok (.iload_n 2, 1) := by decide +kernel
theorem dX12_nextRow_52 : decode cX12_nextRow 52 = .ok (.iaload, 1) := by decide +kernel
theorem dX12_nextRow_53 : decode cX12_nextRow 53 = .ok (.aload_n 0, 1) := by decide +kernel
theorem dX12_nextRow_54 : decode cX12_nextRow 54 = .ok (.getfield 75, 3) := by decide +kernel
theorem dX12_nextRow_57 : decode cX12_nextRow 57 = .ok (.iload_n 1, 1) := by decide +kernel
theorem dX12_nextRow_58 : decode cX12_nextRow 58 = .ok (.iaload, 1) := by decide +kernel
theorem dX12_nextRow_59 : decode cX12_nextRow 59 = .ok (.if_icmp .ge 9, 3) := by decide +kernel
theorem dX12_nextRow_62 : decode cX12_nextRow 62 = .ok (.iinc 2 (-1), 3) := by decide +kernel
theorem dX12_nextRow_65 : decode cX12_nextRow 65 = .ok (.goto (-18), 3) := by decide +kernel
theorem dX12_nextRow_68 : decode cX12_nextRow 68 = .ok (.aload_n 0, 1) := by decide +kernel
theorem dX12_nextRow_69 : decode cX12_nextRow 69 = .ok (.iload_n 1, 1) := by decide +kernel
theorem dX12_nextRow_70 : decode cX12_nextRow 70 = .ok (.iload_n 2, 1) := by decide +kernel
theorem dX12_nextRow_71 : decode cX12_nextRow 71 = .ok (.invokevirtual 445, 3) := by decide +kernel
theorem dX12_nextRow_74 : decode cX12_nextRow 74 = .ok (.iload_n 1, 1) := by decide +kernel
theorem dX12_nextRow_75 : decode cX12_nextRow 75 = .ok (.iconst 1, 1) := by decide +kernel
theorem dX12_nextRow_76 : decode cX12_nextRow 76 = .ok (.iadd, 1) := by decide +kernel
theorem dX12_nextRow_77 : decode cX12_nextRow 77 = .ok (.istore_n 3, 1) := by decide +kernel
theorem dX12_nextRow_78 : decode cX12_nextRow 78 = .ok (.aload_n 0, 1) := by decide +kernel
theorem dX12_nextRow_79 : decode cX12_nextRow 79 = .ok (.getfield 351, 3) := by decide +kernel
theorem dX12_nextRow_82 : decode cX12_nextRow 82 = .ok (.iconst 1, 1) := by decide +kernel
theorem dX12_nextRow_83 : decode cX12_nextRow 83 = .ok (.isub, 1) := by decide +kernel
theorem dX12_nextRow_84 : decode cX12_nextRow 84 = .ok (.istore 4, 2) := by decide +kernel
theorem dX12_nextRow_86 : decode cX12_nextRow 86 = .ok (.iload_n 3, 1) := by decide +kernel
theorem dX12_nextRow_87 : decode cX12_nextRow 87 = .ok (.iload 4, 2) := by decide +kernel
theorem dX12_nextRow_89 : decode cX12_nextRow 89 = .ok (.if_icmp .ge 19, 3) := by decide +kernel
theorem dX12_nextRow_92 : decode cX12_nextRow 92 = .ok (.aload_n 0, 1) := by decide +kernel
theorem dX12_nextRow_93 : decode cX12_nextRow 93 = .ok (.iload_n 3, 1) := by decide +kernel
theorem dX12_nextRow_94 : decode cX12_nextRow 94 = .ok (.iload 4, 2) := by decide +kernel
theorem dX12_nextRow_96 : decode cX12_nextRow 96 = .ok (.invokevirtual 445, 3) := by decide +kernel
theorem dX12_nextRow_99 : decode cX12_nextRow 99 = .ok (.iinc 3 1, 3) := by decide +kernel
theorem dX12_nextRow_102 : decode cX12_nextRow 102 = .ok (.iinc 4 (-1), 3) := by decide +kernel
theorem dX12_nextRow_105 : decode cX12_nextRow 105 = .ok (.goto (-19), 3) := by decide +kernel
theorem dX12_nextRow_108 : decode cX12_nextRow 108 = .ok (.iconst 1, 1) := by decide +kernel
theorem dX12_nextRow_109 : decode cX12_nextRow 109 = .ok (.ireturn, 1) := by decide +kernel
theorem dX12_swap_0 : decode cX12_swap 0 = .ok (.aload_n 0, 1) := by decide +kernel
theorem dX12_swap_1 : decode cX12_swap 1 = .ok (.getfield 75, 3) := by decide +kernel
theorem dX12_swap_4 : decode cX12_swap 4 = .ok (.iload_n 1, 1) := by decide +kernel
theorem dX12_swap_5 : decode cX12_swap 5 = .ok (.iaload, 1) := by decide +kernel
theorem dX12_swap_6 : decode cX12_swap 6 = .ok (.istore_n 3, 1) := by decide +kernel
theorem dX12_swap_7 : decode cX12_swap 7 = .ok (.aload_n 0, 1) := by decide +kernel
theorem dX12_swap_8 : decode cX12_swap 8 = .ok (.getfield 75, 3) := by decide +kernel
theorem dX12_swap_11 : decode cX12_swap 11 = .ok (.iload_n 1, 1) := by decide +kernel
theorem dX12_swap_12 : decode cX12_swap 12 = .ok (.aload_n 0, 1) := by decide +kernel
theorem dX12_swap_13 : decode cX12_swap 13 = .ok (.getfield 75, 3) := by decide +kernel
theorem dX12_swap_16 : decode cX12_swap 16 = .ok (.iload_n 2, 1) := by decide +kernel
theorem dX12_swap_17 : decode cX12_swap 17 = .ok (.iaload, 1) := by decide +kernel
theorem dX12_swap_18 : decode cX12_swap 18 = .ok (.iastore, 1) := by decide +kernel
theorem dX12_swap_19 : decode cX12_swap 19 = .ok (.aload_n 0, 1) := by decide +kernel
theorem dX12_swap_20 : decode cX12_swap 20 = .ok (.getfield 75, 3) := by decide +kernel
theorem dX12_swap_23 : decode cX12_swap 23 = .ok (.iload_n 2, 1) := by decide +kernel
theorem dX12_swap_24 : decode cX12_swap 24 = .ok (.iload_n 3, 1) := by decide +kernel
theorem dX12_swap_25 : decode cX12_swap 25 = .ok (.iastore, 1) := by decide +kernel
theorem dX12_swap_26 : decode cX12_swap 26 = .ok (.return_, 1) := by decide +kernel
theorem dX12_order_0 : decode cX12_order 0 = .ok (.iconst 0, 1) := by decide +kernel
theorem dX12_order_1 : decode cX12_order 1 = .ok (.istore_n 1, 1) := by decide +kernel
theorem dX12_order_2 : decode cX12_order 2 = .ok (.iload_n 1, 1) := by decide +kernel
theorem dX12_order_3 : decode cX12_order 3 = .ok (.aload_n 0, 1) := by decide +kernel
theorem dX12_order_4 : decode cX12_order 4 = .ok (.getfield 351, 3) := by decide +kernel
theorem dX12_order_7 : decode cX12_order 7 = .ok (.if_icmp .ge 16, 3) := by decide +kernel
theorem dX12_order_10 : decode cX12_order 10 = .ok (.aload_n 0, 1) := by decide +kernel
theorem dX12_order_11 : decode cX12_order 11 = .ok (.getfield 75, 3) := by decide +kernel
theorem dX12_order_14 : decode cX12_order 14 = .ok (.iload_n 1, 1) := by decide +kernel
theorem dX12_order_15 : decode cX12_order 15 = .ok (.iload_n 1, 1) := by decide +kernel
theorem dX12_order_16 : decode cX12_order 16 = .ok (.iastore, 1) := by decide +kernel
theorem dX12_order_17 : decode cX12_order 17 = .ok (.iinc 1 1, 3) := by decide +kernel
theorem dX12_order_20 : decode cX12_order 20 = .ok (.goto (-18), 3) := by decide +kernel
theorem dX12_order_23 : decode cX12_order 23 = .ok (.ldc_w 448, 3) := by decide +kernel
theorem dX12_order_26 : decode cX12_order 26 = .ok (.istore_n 1, 1) := by decide +kernel
theorem dX12_order_27 : decode cX12_order 27 = .ok (.iconst 1, 1) := by decide +kernel
theorem dX12_order_28 : decode cX12_order 28 = .ok (.istore_n 2, 1) := by decide +kernel
theorem dX12_order_29 : decode cX12_order 29 = .ok (.iload_n 2, 1) := by decide +kernel
theorem dX12_order_30 : decode cX12_order 30 = .ok (.ifCond .eq 89, 3) := by decide +kernel
theorem dX12_order_33 : decode cX12_order 33 = .ok (.aload_n 0, 1) := by decide +kernel
theorem dX12_order_34 : decode cX12_order 34 = .ok (.invokevirtual 411, 3) := by decide +kernel
theorem dX12_order_37 : decode cX12_order 37 = .ok (.iconst 0, 1) := by decide +kernel
theorem dX12_order_38 : decode cX12_order 38 = .ok (.istore_n 3, 1) := by decide +kernel
theorem dX12_order_39 : decode cX12_order 39 = .ok (.iconst 0, 1) := by decide +kernel
theorem dX12_order_40 : decode cX12_order 40 = .ok (.istore 4, 2) := by decide +kernel
theorem dX12_order_42 : decode cX12_order 42 = .ok (.iload 4, 2) := by decide +kernel
theorem dX12_order_44 : decode cX12_order 44 = .ok (.aload_n 0, 1) := by decide +kernel
theorem dX12_order_45 : decode cX12_order 45 = .ok (.getfield 351, 3) := by decide +kernel
theorem dX12_order_48 : decode cX12_order 48 = .ok (.if_icmp .ge 24, 3) := by decide +kernel
theorem dX12_order_51 : decode cX12_order 51 = .ok (.iload_n 3, 1) := by decide +kernel
theorem dX12_order_52 : decode cX12_order 52 = .ok (.aload_n 0, 1) := by decide +kernel
theorem dX12_order_53 : decode cX12_order 53 = .ok (.aload_n 0, 1) := by decide +kernel
theorem dX12_order_54 : decode cX12_order 54 = .ok (.getfield 75, 3) := by decide +kernel
theorem dX12_order_57 : decode cX12_order 57 = .ok (.iload 4, 2) := by decide +kernel
theorem dX12_order_59 : decode cX12_order 59 = .ok (.iaload, 1) := by decide +kernel
theorem dX12_order_60 : decode cX12_order 60 = .ok (.iconst 0, 1) := by decide +kernel
theorem dX12_order_61 : decode cX12_order 61 = .ok (.invokevirtual 404, 3) := by decide +kernel
theorem dX12_order_64 : decode cX12_order 64 = .ok (.iadd, 1) := by decide +kernel
theorem dX12_order_65 : decode cX12_order 65 = .ok (.istore_n 3, 1) := by decide +kernel
theorem dX12_order_66 : decode cX12_order 66 = .ok (.iinc 4 1, 3) := by decide +kernel
theorem dX12_order_69 : decode cX12_order 69 = .ok (.goto (-27), 3) := by decide +kernel
theorem dX12_order_72 : decode cX12_order 72 = .ok (.iload_n 3, 1) := by decide +kernel
theorem dX12_order_73 : decode cX12_order 73 = .ok (.iload_n 1, 1) := by decide +kernel
theorem dX12_order_74 : decode cX12_order 74 = .ok (.if_icmp .ge 37, 3) := by decide +kernel
theorem dX12_order_77 : decode cX12_order 77 = .ok (.iload_n 3, 1) := by decide +kernel
theorem dX12_order_78 : decode cX12_order 78 = .ok (.istore_n 1, 1) := by decide +kernel
theorem dX12_order_79 : decode cX12_order 79 = .ok (.iconst 0, 1) := by decide +kernel
theorem dX12_order_80 : decode cX12_order 80 = .ok (.istore 4, 2) := by decide +kernel
theorem dX12_order_82 : decode cX12_order 82 = .ok (.iload 4, 2) := by decide +kernel
theorem dX12_order_84 : decode cX12_order 84 = .ok (.aload_n 0, 1) := by decide +kernel
theorem dX12_order_85 : decode cX12_order 85 = .ok (.getfield 351, 3) := by decide +kernel
theorem dX12_order_88 : decode cX12_order 88 = .ok (.if_icmp .ge 23, 3) := by decide +kernel
theorem dX12_order_91 : decode cX12_order 91 = .ok (.aload_n 0, 1) := by decide +kernel
theorem dX12_order_92 : decode cX12_order 92 = .ok (.getfield 72, 3) := by decide +kernel
theorem dX12_order_95 : decode cX12_order 95 = .ok (.iload 4, 2) := by decide +kernel
theorem dX12_order_97 : decode cX12_order 97 = .ok (.aload_n 0, 1) := by decide +kernel
theorem dX12_order_98 : decode cX12_order 98 = .ok (.getfield 75, 3) := by decide +kernel
theorem dX12_order_101 : decode cX12_order 101 = .ok (.iload 4, 2) := by decide +kernel
theorem dX12_order_103 : decode cX12_order 103 = .ok (.iaload, 1) := by decide +kernel
theorem dX12_order_104 : decode cX12_order 104 = .ok (.iastore, 1) := by decide +kernel
theorem dX12_order_105 : decode cX12_order 105 = .ok (.iinc 4 1, 3) := by decide +kernel
theorem dX12_order_108 : decode cX12_order 108 = .ok (.goto (-26), 3) := by decide +kernel
theorem dX12_order_111 : decode cX12_order 111 = .ok (.aload_n 0, 1) := by decide +kernel
theorem dX12_order_112 : decode cX12_order 112 = .ok (.invokevirtual 449, 3) := by decide +kernel
theorem dX12_order_115 : decode cX12_order 115 = .ok (.istore_n 2, 1) := by decide +kernel
theorem dX12_order_116 : decode cX12_order 116 = .ok (.goto (-87), 3) := by decide +kernel
theorem dX12_order_119 : decode cX12_order 119 = .ok (.aload_n 0, 1) := by decide +kernel
theorem dX12_order_120 : decode cX12_order 120 = .ok (.aload_n 0, 1) := by decide +kernel
theorem dX12_order_121 : decode cX12_order 121 = .ok (.getfield 351, 3) := by decide +kernel
theorem dX12_order_124 : decode cX12_order 124 = .ok (.putfield 381, 3) := by decide +kernel
theorem dX12_order_127 : decode cX12_order 127 = .ok (.iload_n 1, 1) := by decide +kernel
theorem dX12_order_128 : decode cX12_order 128 = .ok (.ireturn, 1) := by decide +kernel
theorem dX12_power_0 : decode cX12_power 0 = .ok (.iconst 1, 1) := by decide +kernel
theorem dX12_power_1 : decode cX12_power 1 = .ok (.istore_n 2, 1) := by decide +kernel
theorem dX12_power_2 : decode cX12_power 2 = .ok (.iconst 0, 1) := by decide +kernel
theorem dX12_power_3 : decode cX12_power 3 = .ok (.istore_n 3, 1) := by decide +kernel
theorem dX12_power_4 : decode cX12_power 4 = .ok (.iload_n 3, 1) := by decide +kernel
theorem dX12_power_5 : decode cX12_power 5 = .ok (.iload_n 1, 1) := by decide +kernel
theorem dX12_power_6 : decode cX12_power 6 = .ok (.if_icmp .ge 13, 3) := by decide +kernel
theorem dX12_power_9 : decode cX12_power 9 = .ok (.iload_n 2, 1) := by decide +kernel
theorem dX12_power_10 : decode cX12_power 10 = .ok (.iload_n 0, 1) := by decide +kernel
theorem dX12_power_11 : decode cX12_power 11 = .ok (.imul, 1) := by decide +kernel
theorem dX12_power_12 : decode cX12_power 12 = .ok (.istore_n 2, 1) := by decide +kernel
theorem dX12_power_13 : decode cX12_power 13 = .ok (.iinc 3 1, 3) := by decide +kernel
theorem dX12_power_16 : decode cX12_power 16 = .ok (.goto (-12), 3) := by decide +kernel
theorem dX12_power_19 : decode cX12_power 19 = .ok (.iload_n 2, 1) := by decide +kernel
theorem dX12_power_20 : decode cX12_power 20 = .ok (.ireturn, 1) := by decide +kernel
theorem dX12_layDuties_0 : decode cX12_layDuties 0 = .ok (.iload_n 1, 1) := by decide +kernel
theorem dX12_layDuties_1 : decode cX12_layDuties 1 = .ok (.istore_n 2, 1) := by decide +kernel
theorem dX12_layDuties_2 : decode cX12_layDuties 2 = .ok (.iconst 0, 1) := by decide +kernel
theorem dX12_layDuties_3 : decode cX12_layDuties 3 = .ok (.istore_n 3, 1) := by decide +kernel
theorem dX12_layDuties_4 : decode cX12_layDuties 4 = .ok (.iconst 0, 1) := by decide +kernel
theorem dX12_layDuties_5 : decode cX12_layDuties 5 = .ok (.istore 4, 2) := by decide +kernel
theorem dX12_layDuties_7 : decode cX12_layDuties 7 = .ok (.aload_n 0, 1) := by decide +kernel
theorem dX12_layDuties_8 : decode cX12_layDuties 8 = .ok (.getfield 351, 3) := by decide +kernel
theorem dX12_layDuties_11 : decode cX12_layDuties 11 = .ok (.iconst 1, 1) := by decide +kernel
theorem dX12_layDuties_12 : decode cX12_layDuties 12 = .ok (.isub, 1) := by decide +kernel
theorem dX12_layDuties_13 : decode cX12_layDuties 13 = .ok (.istore 5, 2) := by decide +kernel
theorem dX12_layDuties_15 : decode cX12_layDuties 15 = .ok (.iload 5, 2) := by decide +kernel
theorem dX12_layDuties_17 : decode cX12_layDuties 17 = .ok (.ifCond .lt 104, 3) := by decide +kernel
theorem dX12_layDuties_20 : decode cX12_layDuties 20 = .ok (.iload_n 2, 1) := by decide +kernel
theorem dX12_layDuties_21 : decode cX12_layDuties 21 = .ok (.aload_n 0, 1) := by decide +kernel
theorem dX12_layDuties_22 : decode cX12_layDuties 22 = .ok (.getfield 348, 3) := by decide +kernel
theorem dX12_layDuties_25 : decode cX12_layDuties 25 = .ok (.iconst 1, 1) := by decide +kernel
theorem dX12_layDuties_26 : decode cX12_layDuties 26 = .ok (.iadd, 1) := by decide +kernel
theorem dX12_layDuties_27 : decode cX12_layDuties 27 = .ok (.irem, 1) := by decide +kernel
theorem dX12_layDuties_28 : decode cX12_layDuties 28 = .ok (.istore 6, 2) := by decide +kernel
theorem dX12_layDuties_30 : decode cX12_layDuties 30 = .ok (.iload_n 2, 1) := by decide +kernel
theorem dX12_layDuties_31 : decode cX12_layDuties 31 = .ok (.aload_n 0, 1) := by decide +kernel
theorem dX12_layDuties_32 : decode cX12_layDuties 32 = .ok (.getfield 348, 3) := by decide +kernel
theorem dX12_layDuties_35 : decode cX12_layDuties 35 = .ok (.iconst 1, 1) := by decide +kernel
theorem dX12_layDuties_36 : decode cX12_layDuties 36 = .ok (.iadd, 1) := by decide +kernel
theorem dX12_layDuties_37 : decode cX12_layDuties 37 = .ok (.idiv, 1) := by decide +kernel
theorem dX12_layDuties_38 : decode cX12_layDuties 38 = .ok (.istore_n 2, 1) := by decide +kernel
theorem dX12_layDuties_39 : decode cX12_layDuties 39 = .ok (.aload_n 0, 1) := by decide +kernel
theorem dX12_layDuties_40 : decode cX12_layDuties 40 = .ok (.getfield 75, 3) := by decide +kernel
theorem dX12_layDuties_43 : decode cX12_layDuties 43 = .ok (.iload 5, 2) := by decide +kernel
theorem dX12_layDuties_45 : decode cX12_layDuties 45 = .ok (.iload 6, 2) := by decide +kernel
theorem dX12_layDuties_47 : decode cX12_layDuties 47 = .ok (.aload_n 0, 1) := by decide +kernel
theorem dX12_layDuties_48 : decode cX12_layDuties 48 = .ok (.getfield 348, 3) := by decide +kernel
theorem dX12_layDuties_51 : decode cX12_layDuties 51 = .ok (.if_icmp .ne 7, 3) := by decide +kernel
theorem dX12_layDuties_54 : decode cX12_layDuties 54 = .ok (.iconst (-1), 1) := by decide +kernel
theorem dX12_layDuties_55 : decode cX12_layDuties 55 = .ok (.goto 5, 3) := by decide +kernel
theorem dX12_layDuties_58 : decode cX12_layDuties 58 = .ok (.iload 6, 2) := by decide +kernel
theorem dX12_layDuties_60 : decode cX12_layDuties 60 = .ok (.iastore, 1) := by decide +kernel
theorem dX12_layDuties_61 : decode cX12_layDuties 61 = .ok (.iload 6, 2) := by decide +kernel
theorem dX12_layDuties_63 : decode cX12_layDuties 63 = .ok (.aload_n 0, 1) := by decide +kernel
theorem dX12_layDuties_64 : decode cX12_layDuties 64 = .ok (.getfield 348, 3) := by decide +kernel
theorem dX12_layDuties_67 : decode cX12_layDuties 67 = .ok (.if_icmp .ne 6, 3) := by decide +kernel
theorem dX12_layDuties_70 : decode cX12_layDuties 70 = .ok (.goto 45, 3) := by decide +kernel
theorem dX12_layDuties_73 : decode cX12_layDuties 73 = .ok (.iload_n 3, 1) := by decide +kernel
theorem dX12_layDuties_74 : decode cX12_layDuties 74 = .ok (.iload 6, 2) := by decide +kernel
theorem dX12_layDuties_76 : decode cX12_layDuties 76 = .ok (.ishr, 1) := by decide +kernel
theorem dX12_layDuties_77 : decode cX12_layDuties 77 = .ok (.iconst 1, 1) := by decide +kernel
theorem dX12_layDuties_78 : decode cX12_layDuties 78 = .ok (.iand, 1) := by decide +kernel
theorem dX12_layDuties_79 : decode cX12_layDuties 79 = .ok (.iconst 1, 1) := by decide +kernel
theorem dX12_layDuties_80 : decode cX12_layDuties 80 = .ok (.if_icmp .eq 23, 3) := by decide +kernel
theorem dX12_layDuties_83 : decode cX12_layDuties 83 = .ok (.aload_n 0, 1) := by decide +kernel
theorem dX12_layDuties_84 : decode cX12_layDuties 84 = .ok (.iload 6, 2) := by decide +kernel
theorem dX12_layDuties_86 : decode cX12_layDuties 86 = .ok (.invokevirtual 388, 3) := by decide +kernel
theorem dX12_layDuties_89 : decode cX12_layDuties 89 = .ok (.ifCond .eq 14, 3) := by decide +kernel
theorem dX12_layDuties_92 : decode cX12_layDuties 92 = .ok (.aload_n 0, 1) := by decide +kernel
theorem dX12_layDuties_93 : decode cX12_layDuties 93 = .ok (.iload 6, 2) := by decide +kernel
theorem dX12_layDuties_95 : decode cX12_layDuties 95 = .ok (.iload 5, 2) := by decide +kernel
theorem dX12_layDuties_97 : decode cX12_layDuties 97 = .ok (.invokevirtual 391, 3) := by decide +kernel
theorem dX12_layDuties_100 : decode cX12_layDuties 100 = .ok (.ifCond .ne 5, 3) := by decide +kernel
theorem dX12_layDuties_103 : decode cX12_layDuties 103 = .ok (.iconst (-1), 1) := by decide +kernel
theorem dX12_layDuties_104 : decode cX12_layDuties 104 = .ok (.ireturn, 1) := by decide +kernel
theorem dX12_layDuties_105 : decode cX12_layDuties 105 = .ok (.iload_n 3, 1) := by decide +kernel
theorem dX12_layDuties_106 : decode cX12_layDuties 106 = .ok (.iconst 1, 1) := by decide +kernel
theorem dX12_layDuties_107 : decode cX12_layDuties 107 = .ok (.iload 6, 2) := by decide +kernel
theorem dX12_layDuties_109 : decode cX12_layDuties 109 = .ok (.ishl, 1) := by decide +kernel
theorem dX12_layDuties_110 : decode cX12_layDuties 110 = .ok (.ior, 1) := by decide +kernel
theorem dX12_layDuties_111 : decode cX12_layDuties 111 = .ok (.istore_n 3, 1) := by decide +kernel
theorem dX12_layDuties_112 : decode cX12_layDuties 112 = .ok (.iinc 4 1, 3) := by decide +kernel
theorem dX12_layDuties_115 : decode cX12_layDuties 115 = .ok (.iinc 5 (-1), 3) := by decide +kernel
theorem dX12_layDuties_118 : decode cX12_layDuties 118 = .ok (.goto (-103), 3) := by decide +kernel
theorem dX12_layDuties_121 : decode cX12_layDuties 121 = .ok (.iload 4, 2) := by decide +kernel
theorem dX12_layDuties_123 : decode cX12_layDuties 123 = .ok (.ireturn, 1) := by decide +kernel
theorem dX12_lossOfRow_0 : decode cX12_lossOfRow 0 = .ok (.iconst 0, 1) := by decide +kernel
theorem dX12_lossOfRow_1 : decode cX12_lossOfRow 1 = .ok (.istore_n 1, 1) := by decide +kernel
theorem dX12_lossOfRow_2 : decode cX12_lossOfRow 2 = .ok (.iconst 0, 1) := by decide +kernel
theorem dX12_lossOfRow_3 : decode cX12_lossOfRow 3 = .ok (.istore_n 2, 1) := by decide +kernel
theorem dX12_lossOfRow_4 : decode cX12_lossOfRow 4 = .ok (.iload_n 2, 1) := by decide +kernel
theorem dX12_lossOfRow_5 : decode cX12_lossOfRow 5 = .ok (.aload_n 0, 1) := by decide +kernel
theorem dX12_lossOfRow_6 : decode cX12_lossOfRow 6 = .ok (.getfield 351, 3) := by decide +kernel
theorem dX12_lossOfRow_9 : decode cX12_lossOfRow 9 = .ok (.if_icmp .ge 43, 3) := by decide +kernel
theorem dX12_lossOfRow_12 : decode cX12_lossOfRow 12 = .ok (.iload_n 1, 1) := by decide +kernel
theorem dX12_lossOfRow_13 : decode cX12_lossOfRow 13 = .ok (.aload_n 0, 1) := by decide +kernel
theorem dX12_lossOfRow_14 : decode cX12_lossOfRow 14 = .ok (.getfield 75, 3) := by decide +kernel
theorem dX12_lossOfRow_17 : decode cX12_lossOfRow 17 = .ok (.iload_n 2, 1) := by decide +kernel
theorem dX12_lossOfRow_18 : decode cX12_lossOfRow 18 = .ok (.iaload, 1) := by decide +kernel
theorem dX12_lossOfRow_19 : decode cX12_lossOfRow 19 = .ok (.ifCond .ge 7, 3) := by decide +kernel
theorem dX12_lossOfRow_22 : decode cX12_lossOfRow 22 = .ok (.iconst 0, 1) := by decide +kernel
theorem dX12_lossOfRow_23 : decode cX12_lossOfRow 23 = .ok (.goto 21, 3) := by decide +kernel
theorem dX12_lossOfRow_26 : decode cX12_lossOfRow 26 = .ok (.aload_n 0, 1) := by decide +kernel
theorem dX12_lossOfRow_27 : decode cX12_lossOfRow 27 = .ok (.getfield 63, 3) := by decide +kernel
theorem dX12_lossOfRow_30 : decode cX12_lossOfRow 30 = .ok (.bipush 13, 2) := by decide +kernel
theorem dX12_lossOfRow_32 : decode cX12_lossOfRow 32 = .ok (.iconst 5, 1) := by decide +kernel
theorem dX12_lossOfRow_33 : decode cX12_lossOfRow 33 = .ok (.aload_n 0, 1) := by decide +kernel
theorem dX12_lossOfRow_34 : decode cX12_lossOfRow 34 = .ok (.getfield 75, 3) := by decide +kernel
theorem dX12_lossOfRow_37 : decode cX12_lossOfRow 37 = .ok (.iload_n 2, 1) := by decide +kernel
theorem dX12_lossOfRow_38 : decode cX12_lossOfRow 38 = .ok (.iaload, 1) := by decide +kernel
theorem dX12_lossOfRow_39 : decode cX12_lossOfRow 39 = .ok (.imul, 1) := by decide +kernel
theorem dX12_lossOfRow_40 : decode cX12_lossOfRow 40 = .ok (.iadd, 1) := by decide +kernel
theorem dX12_lossOfRow_41 : decode cX12_lossOfRow 41 = .ok (.iload_n 2, 1) := by decide +kernel
theorem dX12_lossOfRow_42 : decode cX12_lossOfRow 42 = .ok (.iadd, 1) := by decide +kernel
theorem dX12_lossOfRow_43 : decode cX12_lossOfRow 43 = .ok (.iaload, 1) := by decide +kernel
theorem dX12_lossOfRow_44 : decode cX12_lossOfRow 44 = .ok (.iadd, 1) := by decide +kernel
theorem dX12_lossOfRow_45 : decode cX12_lossOfRow 45 = .ok (.istore_n 1, 1) := by decide +kernel
theorem dX12_lossOfRow_46 : decode cX12_lossOfRow 46 = .ok (.iinc 2 1, 3) := by decide +kernel
theorem dX12_lossOfRow_49 : decode cX12_lossOfRow 49 = .ok (.goto (-45), 3) := by decide +kernel
theorem dX12_lossOfRow_52 : decode cX12_lossOfRow 52 = .ok (.iload_n 1, 1) := by decide +kernel
theorem dX12_lossOfRow_53 : decode cX12_lossOfRow 53 = .ok (.ireturn, 1) := by decide +kernel
theorem dX12_duties_0 : decode cX12_duties 0 = .ok (.iload_n 1, 1) := by decide +kernel
theorem dX12_duties_1 : decode cX12_duties 1 = .ok (.iconst 0, 1) := by decide +kernel
theorem dX12_duties_2 : decode cX12_duties 2 = .ok (.iconst 1, 1) := by decide +kernel
theorem dX12_duties_3 : decode cX12_duties 3 = .ok (.invokestatic 384, 3) := by decide +kernel
theorem dX12_duties_6 : decode cX12_duties 6 = .ok (.ifCond .ne 5, 3) := by decide +kernel
theorem dX12_duties_9 : decode cX12_duties 9 = .ok (.iconst (-1), 1) := by decide +kernel
theorem dX12_duties_10 : decode cX12_duties 10 = .ok (.ireturn, 1) := by decide +kernel
theorem dX12_duties_11 : decode cX12_duties 11 = .ok (.aload_n 0, 1) := by decide +kernel
theorem dX12_duties_12 : decode cX12_duties 12 = .ok (.invokevirtual 411, 3) := by decide +kernel
theorem dX12_duties_15 : decode cX12_duties 15 = .ok (.iconst (-1), 1) := by decide +kernel
theorem dX12_duties_16 : decode cX12_duties 16 = .ok (.istore_n 2, 1) := by decide +kernel
theorem dX12_duties_17 : decode cX12_duties 17 = .ok (.iconst 0, 1) := by decide +kernel
theorem dX12_duties_18 : decode cX12_duties 18 = .ok (.istore_n 3, 1) := by decide +kernel
theorem dX12_duties_19 : decode cX12_duties 19 = .ok (.iconst 0, 1) := by decide +kernel
theorem dX12_duties_20 : decode cX12_duties 20 = .ok (.istore 4, 2) := by decide +kernel
theorem dX12_duties_22 : decode cX12_duties 22 = .ok (.iload 4, 2) := by decide +kernel
theorem dX12_duties_24 : decode cX12_duties 24 = .ok (.aload_n 0, 1) := by decide +kernel
theorem dX12_duties_25 : decode cX12_duties 25 = .ok (.getfield 348, 3) := by decide +kernel
theorem dX12_duties_28 : decode cX12_duties 28 = .ok (.iconst 1, 1) := by decide +kernel
theorem dX12_duties_29 : decode cX12_duties 29 = .ok (.iadd, 1) := by decide +kernel
theorem dX12_duties_30 : decode cX12_duties 30 = .ok (.aload_n 0, 1) := by decide +kernel
theorem dX12_duties_31 : decode cX12_duties 31 = .ok (.getfield 351, 3) := by decide +kernel
theorem dX12_duties_34 : decode cX12_duties 34 = .ok (.invokestatic 452, 3) := by decide +kernel
theorem dX12_duties_37 : decode cX12_duties 37 = .ok (.if_icmp .ge 85, 3) := by decide +kernel
theorem dX12_duties_40 : decode cX12_duties 40 = .ok (.aload_n 0, 1) := by decide +kernel
theorem dX12_duties_41 : decode cX12_duties 41 = .ok (.iload 4, 2) := by decide +kernel
theorem dX12_duties_43 : decode cX12_duties 43 = .ok (.invokevirtual 455, 3) := by decide +kernel
theorem dX12_duties_46 : decode cX12_duties 46 = .ok (.istore 5, 2) := by decide +kernel
theorem dX12_duties_48 : decode cX12_duties 48 = .ok (.iload 5, 2) := by decide +kernel
theorem dX12_duties_50 : decode cX12_duties 50 = .ok (.ifCond .lt 66, 3) := by decide +kernel
theorem dX12_duties_53 : decode cX12_duties 53 = .ok (.iload 5, 2) := by decide +kernel
theorem dX12_duties_55 : decode cX12_duties 55 = .ok (.iload_n 2, 1) := by decide +kernel
theorem dX12_duties_56 : decode cX12_duties 56 = .ok (.if_icmp .lt 60, 3) := by decide +kernel
theorem dX12_duties_59 : decode cX12_duties 59 = .ok (.iload 5, 2) := by decide +kernel
theorem dX12_duties_61 : decode cX12_duties 61 = .ok (.iload_n 2, 1) := by decide +kernel
theorem dX12_duties_62 : decode cX12_duties 62 = .ok (.if_icmp .ne 14, 3) := by decide +kernel
theorem dX12_duties_65 : decode cX12_duties 65 = .ok (.aload_n 0, 1) := by decide +kernel
theorem dX12_duties_66 : decode cX12_duties 66 = .ok (.invokevirtual 458, 3) := by decide +kernel
theorem dX12_duties_69 : decode cX12_duties 69 = .ok (.iload_n 3, 1) := by decide +kernel
theorem dX12_duties_70 : decode cX12_duties 70 = .ok (.if_icmp .lt 6, 3) := by decide +kernel
theorem dX12_duties_73 : decode cX12_duties 73 = .ok (.goto 43, 3) := by decide +kernel
theorem dX12_duties_76 : decode cX12_duties 76 = .ok (.iload 5, 2) := by decide +kernel
theorem dX12_duties_78 : decode cX12_duties 78 = .ok (.istore_n 2, 1) := by decide +kernel
theorem dX12_duties_79 : decode cX12_duties 79 = .ok (.aload_n 0, 1) := by decide +kernel
theorem dX12_duties_80 : decode cX12_duties 80 = .ok (.invokevirtual 458, 3) := by decide +kernel
theorem dX12_duties_83 : decode cX12_duties 83 = .ok (.istore_n 3, 1) := by decide +kernel
theorem dX12_duties_84 : decode cX12_duties 84 = .ok (.iconst 0, 1) := by decide +kernel
theorem dX12_duties_85 : decode cX12_duties 85 = .ok (.istore 6, 2) := by decide +kernel
theorem dX12_duties_87 : decode cX12_duties 87 = .ok (.iload 6, 2) := by decide +kernel
theorem dX12_duties_89 : decode cX12_duties 89 = .ok (.aload_n 0, 1) := by decide +kernel
theorem dX12_duties_90 : decode cX12_duties 90 = .ok (.getfield 351, 3) := by decide +kernel
theorem dX12_duties_93 : decode cX12_duties 93 = .ok (.if_icmp .ge 23, 3) := by decide +kernel
theorem dX12_duties_96 : decode cX12_duties 96 = .ok (.aload_n 0, 1) := by decide +kernel
theorem dX12_duties_97 : decode cX12_duties 97 = .ok (.getfield 72, 3) := by decide +kernel
theorem dX12_duties_100 : decode cX12_duties 100 = .ok (.iload 6, 2) := by decide +kernel
theorem dX12_duties_102 : decode cX12_duties 102 = .ok (.aload_n 0, 1) := by decide +kernel
theorem dX12_duties_103 : decode cX12_duties 103 = .ok (.getfield 75, 3) := by decide +kernel
theorem dX12_duties_106 : decode cX12_duties 106 = .ok (.iload 6, 2) := by decide +kernel
theorem dX12_duties_108 : decode cX12_duties 108 = .ok (.iaload, 1) := by decide +kernel
theorem dX12_duties_109 : decode cX12_duties 109 = .ok (.iastore, 1) := by decide +kernel
theorem dX12_duties_110 : decode cX12_duties 110 = .ok (.iinc 6 1, 3) := by decide +kernel
theorem dX12_duties_113 : decode cX12_duties 113 = .ok (.goto (-26), 3) := by decide +kernel
theorem dX12_duties_116 : decode cX12_duties 116 = .ok (.iinc 4 1, 3) := by decide +kernel
theorem dX12_duties_119 : decode cX12_duties 119 = .ok (.goto (-97), 3) := by decide +kernel
theorem dX12_duties_122 : decode cX12_duties 122 = .ok (.aload_n 0, 1) := by decide +kernel
theorem dX12_duties_123 : decode cX12_duties 123 = .ok (.aload_n 0, 1) := by decide +kernel
theorem dX12_duties_124 : decode cX12_duties 124 = .ok (.getfield 351, 3) := by decide +kernel
theorem dX12_duties_127 : decode cX12_duties 127 = .ok (.putfield 381, 3) := by decide +kernel
theorem dX12_duties_130 : decode cX12_duties 130 = .ok (.iload_n 1, 1) := by decide +kernel
theorem dX12_duties_131 : decode cX12_duties 131 = .ok (.ifCond .ne 7, 3) := by decide +kernel
theorem dX12_duties_134 : decode cX12_duties 134 = .ok (.iload_n 2, 1) := by decide +kernel
theorem dX12_duties_135 : decode cX12_duties 135 = .ok (.goto 4, 3) := by decide +kernel
theorem dX12_duties_138 : decode cX12_duties 138 = .ok (.iload_n 3, 1) := by decide +kernel
theorem dX12_duties_139 : decode cX12_duties 139 = .ok (.ireturn, 1) := by decide +kernel
theorem dX12_allBells_0 : decode cX12_allBells 0 = .ok (.iconst 1, 1) := by decide +kernel
theorem dX12_allBells_1 : decode cX12_allBells 1 = .ok (.aload_n 0, 1) := by decide +kernel
theorem dX12_allBells_2 : decode cX12_allBells 2 = .ok (.getfield 351, 3) := by decide +kernel
theorem dX12_allBells_5 : decode cX12_allBells 5 = .ok (.ishl, 1) := by decide +kernel
theorem dX12_allBells_6 : decode cX12_allBells 6 = .ok (.iconst 1, 1) := by decide +kernel
theorem dX12_allBells_7 : decode cX12_allBells 7 = .ok (.isub, 1) := by decide +kernel
theorem dX12_allBells_8 : decode cX12_allBells 8 = .ok (.ireturn, 1) := by decide +kernel
theorem dX12_hush_0 : decode cX12_hush 0 = .ok (.iload_n 1, 1) := by decide +kernel
theorem dX12_hush_1 : decode cX12_hush 1 = .ok (.iconst 0, 1) := by decide +kernel
theorem dX12_hush_2 : decode cX12_hush 2 = .ok (.iconst 1, 1) := by decide +kernel
theorem dX12_hush_3 : decode cX12_hush 3 = .ok (.invokestatic 384, 3) := by decide +kernel
theorem dX12_hush_6 : decode cX12_hush 6 = .ok (.ifCond .ne 5, 3) := by decide +kernel
theorem dX12_hush_9 : decode cX12_hush 9 = .ok (.iconst (-1), 1) := by decide +kernel
theorem dX12_hush_10 : decode cX12_hush 10 = .ok (.ireturn, 1) := by decide +kernel
theorem dX12_hush_11 : decode cX12_hush 11 = .ok (.aload_n 0, 1) := by decide +kernel
theorem dX12_hush_12 : decode cX12_hush 12 = .ok (.getfield 60, 3) := by decide +kernel
theorem dX12_hush_15 : decode cX12_hush 15 = .ok (.bipush 12, 2) := by decide +kernel
theorem dX12_hush_17 : decode cX12_hush 17 = .ok (.iaload, 1) := by decide +kernel
theorem dX12_hush_18 : decode cX12_hush 18 = .ok (.istore_n 2, 1) := by decide +kernel
theorem dX12_hush_19 : decode cX12_hush 19 = .ok (.iload_n 2, 1) := by decide +kernel
theorem dX12_hush_20 : decode cX12_hush 20 = .ok (.istore_n 3, 1) := by decide +kernel
theorem dX12_hush_21 : decode cX12_hush 21 = .ok (.iload_n 2, 1) := by decide +kernel
theorem dX12_hush_22 : decode cX12_hush 22 = .ok (.istore 4, 2) := by decide +kernel
theorem dX12_hush_24 : decode cX12_hush 24 = .ok (.iload 4, 2) := by decide +kernel
theorem dX12_hush_26 : decode cX12_hush 26 = .ok (.ifCond .lt 54, 3) := by decide +kernel
theorem dX12_hush_29 : decode cX12_hush 29 = .ok (.iload 4, 2) := by decide +kernel
theorem dX12_hush_31 : decode cX12_hush 31 = .ok (.iload_n 2, 1) := by decide +kernel
theorem dX12_hush_32 : decode cX12_hush 32 = .ok (.iconst (-1), 1) := by decide +kernel
theorem dX12_hush_33 : decode cX12_hush 33 = .ok (.ixor, 1) := by decide +kernel
theorem dX12_hush_34 : decode cX12_hush 34 = .ok (.iand, 1) := by decide +kernel
theorem dX12_hush_35 : decode cX12_hush 35 = .ok (.ifCond .ne 39, 3) := by decide +kernel
theorem dX12_hush_38 : decode cX12_hush 38 = .ok (.iload 4, 2) := by decide +kernel
theorem dX12_hush_40 : decode cX12_hush 40 = .ok (.invokestatic 283, 3) := by decide +kernel
theorem dX12_hush_43 : decode cX12_hush 43 = .ok (.iload_n 3, 1) := by decide +kernel
theorem dX12_hush_44 : decode cX12_hush 44 = .ok (.invokestatic 283, 3) := by decide +kernel
theorem dX12_hush_47 : decode cX12_hush 47 = .ok (.if_icmp .le 6, 3) := by decide +kernel
theorem dX12_hush_50 : decode cX12_hush 50 = .ok (.goto 24, 3) := by decide +kernel
theorem dX12_hush_53 : decode cX12_hush 53 = .ok (.aload_n 0, 1) := by decide +kernel
theorem dX12_hush_54 : decode cX12_hush 54 = .ok (.iload 4, 2) := by decide +kernel
theorem dX12_hush_56 : decode cX12_hush 56 = .ok (.invokevirtual 439, 3) := by decide +kernel
theorem dX12_hush_59 : decode cX12_hush 59 = .ok (.pop, 1) := by decide +kernel
theorem dX12_hush_60 : decode cX12_hush 60 = .ok (.aload_n 0, 1) := by decide +kernel
theorem dX12_hush_61 : decode cX12_hush 61 = .ok (.invokevirtual 442, 3) := by decide +kernel
theorem dX12_hush_64 : decode cX12_hush 64 = .ok (.aload_n 0, 1) := by decide +kernel
theorem dX12_hush_65 : decode cX12_hush 65 = .ok (.invokevirtual 461, 3) := by decide +kernel
theorem dX12_hush_68 : decode cX12_hush 68 = .ok (.if_icmp .ne 6, 3) := by decide +kernel
theorem dX12_hush_71 : decode cX12_hush 71 = .ok (.iload 4, 2) := by decide +kernel
theorem dX12_hush_73 : decode cX12_hush 73 = .ok (.istore_n 3, 1) := by decide +kernel
theorem dX12_hush_74 : decode cX12_hush 74 = .ok (.iinc 4 (-1), 3) := by decide +kernel
theorem dX12_hush_77 : decode cX12_hush 77 = .ok (.goto (-53), 3) := by decide +kernel
theorem dX12_hush_80 : decode cX12_hush 80 = .ok (.iload_n 1, 1) := by decide +kernel
theorem dX12_hush_81 : decode cX12_hush 81 = .ok (.ifCond .ne 10, 3) := by decide +kernel
theorem dX12_hush_84 : decode cX12_hush 84 = .ok (.iload_n 3, 1) := by decide +kernel
theorem dX12_hush_85 : decode cX12_hush 85 = .ok (.invokestatic 283, 3) := by decide +kernel
theorem dX12_hush_88 : decode cX12_hush 88 = .ok (.goto 4, 3) := by decide +kernel
theorem dX12_hush_91 : decode cX12_hush 91 = .ok (.iload_n 3, 1) := by decide +kernel
theorem dX12_hush_92 : decode cX12_hush 92 = .ok (.ireturn, 1) := by decide +kernel
theorem dX12_spare_0 : decode cX12_spare 0 = .ok (.iload_n 1, 1) := by decide +kernel
theorem dX12_spare_1 : decode cX12_spare 1 = .ok (.iconst 0, 1) := by decide +kernel
theorem dX12_spare_2 : decode cX12_spare 2 = .ok (.iconst 1, 1) := by decide +kernel
theorem dX12_spare_3 : decode cX12_spare 3 = .ok (.invokestatic 384, 3) := by decide +kernel
theorem dX12_spare_6 : decode cX12_spare 6 = .ok (.ifCond .ne 5, 3) := by decide +kernel
theorem dX12_spare_9 : decode cX12_spare 9 = .ok (.iconst (-1), 1) := by decide +kernel
theorem dX12_spare_10 : decode cX12_spare 10 = .ok (.ireturn, 1) := by decide +kernel
theorem dX12_spare_11 : decode cX12_spare 11 = .ok (.iconst (-1), 1) := by decide +kernel
theorem dX12_spare_12 : decode cX12_spare 12 = .ok (.istore_n 2, 1) := by decide +kernel
theorem dX12_spare_13 : decode cX12_spare 13 = .ok (.ldc_w 448, 3) := by decide +kernel
theorem dX12_spare_16 : decode cX12_spare 16 = .ok (.istore_n 3, 1) := by decide +kernel
theorem dX12_spare_17 : decode cX12_spare 17 = .ok (.iconst 0, 1) := by decide +kernel
theorem dX12_spare_18 : decode cX12_spare 18 = .ok (.istore 4, 2) := by decide +kernel
theorem dX12_spare_20 : decode cX12_spare 20 = .ok (.iload 4, 2) := by decide +kernel
theorem dX12_spare_22 : decode cX12_spare 22 = .ok (.aload_n 0, 1) := by decide +kernel
theorem dX12_spare_23 : decode cX12_spare 23 = .ok (.getfield 348, 3) := by decide +kernel
theorem dX12_spare_26 : decode cX12_spare 26 = .ok (.if_icmp .ge 46, 3) := by decide +kernel
theorem dX12_spare_29 : decode cX12_spare 29 = .ok (.aload_n 0, 1) := by decide +kernel
theorem dX12_spare_30 : decode cX12_spare 30 = .ok (.iload 4, 2) := by decide +kernel
theorem dX12_spare_32 : decode cX12_spare 32 = .ok (.invokevirtual 430, 3) := by decide +kernel
theorem dX12_spare_35 : decode cX12_spare 35 = .ok (.ifCond .ne 6, 3) := by decide +kernel
theorem dX12_spare_38 : decode cX12_spare 38 = .ok (.goto 28, 3) := by decide +kernel
theorem dX12_spare_41 : decode cX12_spare 41 = .ok (.aload_n 0, 1) := by decide +kernel
theorem dX12_spare_42 : decode cX12_spare 42 = .ok (.iconst 1, 1) := by decide +kernel
theorem dX12_spare_43 : decode cX12_spare 43 = .ok (.iload 4, 2) := by decide +kernel
theorem dX12_spare_45 : decode cX12_spare 45 = .ok (.ishl, 1) := by decide +kernel
theorem dX12_spare_46 : decode cX12_spare 46 = .ok (.invokevirtual 439, 3) := by decide +kernel
theorem dX12_spare_49 : decode cX12_spare 49 = .ok (.istore 5, 2) := by decide +kernel
theorem dX12_spare_51 : decode cX12_spare 51 = .ok (.iload 5, 2) := by decide +kernel
theorem dX12_spare_53 : decode cX12_spare 53 = .ok (.iload_n 3, 1) := by decide +kernel
theorem dX12_spare_54 : decode cX12_spare 54 = .ok (.if_icmp .lt 6, 3) := by decide +kernel
theorem dX12_spare_57 : decode cX12_spare 57 = .ok (.goto 9, 3) := by decide +kernel
theorem dX12_spare_60 : decode cX12_spare 60 = .ok (.iload 4, 2) := by decide +kernel
theorem dX12_spare_62 : decode cX12_spare 62 = .ok (.istore_n 2, 1) := by decide +kernel
theorem dX12_spare_63 : decode cX12_spare 63 = .ok (.iload 5, 2) := by decide +kernel
theorem dX12_spare_65 : decode cX12_spare 65 = .ok (.istore_n 3, 1) := by decide +kernel
theorem dX12_spare_66 : decode cX12_spare 66 = .ok (.iinc 4 1, 3) := by decide +kernel
theorem dX12_spare_69 : decode cX12_spare 69 = .ok (.goto (-49), 3) := by decide +kernel
theorem dX12_spare_72 : decode cX12_spare 72 = .ok (.iload_n 2, 1) := by decide +kernel
theorem dX12_spare_73 : decode cX12_spare 73 = .ok (.ifCond .ge 7, 3) := by decide +kernel
theorem dX12_spare_76 : decode cX12_spare 76 = .ok (.iconst (-1), 1) := by decide +kernel
theorem dX12_spare_77 : decode cX12_spare 77 = .ok (.goto 12, 3) := by decide +kernel
theorem dX12_spare_80 : decode cX12_spare 80 = .ok (.iload_n 1, 1) := by decide +kernel
theorem dX12_spare_81 : decode cX12_spare 81 = .ok (.ifCond .ne 7, 3) := by decide +kernel
theorem dX12_spare_84 : decode cX12_spare 84 = .ok (.iload_n 2, 1) := by decide +kernel
theorem dX12_spare_85 : decode cX12_spare 85 = .ok (.goto 4, 3) := by decide +kernel
theorem dX12_spare_88 : decode cX12_spare 88 = .ok (.iload_n 3, 1) := by decide +kernel
theorem dX12_spare_89 : decode cX12_spare 89 = .ok (.ireturn, 1) := by decide +kernel
theorem dX12_losingOf_0 : decode cX12_losingOf 0 = .ok (.iconst 0, 1) := by decide +kernel
theorem dX12_losingOf_1 : decode cX12_losingOf 1 = .ok (.istore_n 2, 1) := by decide +kernel
theorem dX12_losingOf_2 : decode cX12_losingOf 2 = .ok (.iconst 0, 1) := by decide +kernel
theorem dX12_losingOf_3 : decode cX12_losingOf 3 = .ok (.istore_n 3, 1) := by decide +kernel
theorem dX12_losingOf_4 : decode cX12_losingOf 4 = .ok (.iload_n 3, 1) := by decide +kernel
theorem dX12_losingOf_5 : decode cX12_losingOf 5 = .ok (.aload_n 0, 1) := by decide +kernel
theorem dX12_losingOf_6 : decode cX12_losingOf 6 = .ok (.getfield 348, 3) := by decide +kernel
theorem dX12_losingOf_9 : decode cX12_losingOf 9 = .ok (.if_icmp .ge 26, 3) := by decide +kernel
theorem dX12_losingOf_12 : decode cX12_losingOf 12 = .ok (.iload_n 1, 1) := by decide +kernel
theorem dX12_losingOf_13 : decode cX12_losingOf 13 = .ok (.iload_n 3, 1) := by decide +kernel
theorem dX12_losingOf_14 : decode cX12_losingOf 14 = .ok (.ishr, 1) := by decide +kernel
theorem dX12_losingOf_15 : decode cX12_losingOf 15 = .ok (.iconst 1, 1) := by decide +kernel
theorem dX12_losingOf_16 : decode cX12_losingOf 16 = .ok (.iand, 1) := by decide +kernel
theorem dX12_losingOf_17 : decode cX12_losingOf 17 = .ok (.iconst 1, 1) := by decide +kernel
theorem dX12_losingOf_18 : decode cX12_losingOf 18 = .ok (.if_icmp .ne 11, 3) := by decide +kernel
theorem dX12_losingOf_21 : decode cX12_losingOf 21 = .ok (.iload_n 2, 1) := by decide +kernel
theorem dX12_losingOf_22 : decode cX12_losingOf 22 = .ok (.aload_n 0, 1) := by decide +kernel
theorem dX12_losingOf_23 : decode cX12_losingOf 23 = .ok (.iload_n 3, 1) := by decide +kernel
theorem dX12_losingOf_24 : decode cX12_losingOf 24 = .ok (.invokevirtual 414, 3) := by decide +kernel
theorem dX12_losingOf_27 : decode cX12_losingOf 27 = .ok (.ior, 1) := by decide +kernel
theorem dX12_losingOf_28 : decode cX12_losingOf 28 = .ok (.istore_n 2, 1) := by decide +kernel
theorem dX12_losingOf_29 : decode cX12_losingOf 29 = .ok (.iinc 3 1, 3) := by decide +kernel
theorem dX12_losingOf_32 : decode cX12_losingOf 32 = .ok (.goto (-28), 3) := by decide +kernel
theorem dX12_losingOf_35 : decode cX12_losingOf 35 = .ok (.iload_n 2, 1) := by decide +kernel
theorem dX12_losingOf_36 : decode cX12_losingOf 36 = .ok (.ireturn, 1) := by decide +kernel
theorem dX12_chorus_0 : decode cX12_chorus 0 = .ok (.iload_n 1, 1) := by decide +kernel
theorem dX12_chorus_1 : decode cX12_chorus 1 = .ok (.iconst 0, 1) := by decide +kernel
theorem dX12_chorus_2 : decode cX12_chorus 2 = .ok (.iconst 1, 1) := by decide +kernel
theorem dX12_chorus_3 : decode cX12_chorus 3 = .ok (.invokestatic 384, 3) := by decide +kernel
theorem dX12_chorus_6 : decode cX12_chorus 6 = .ok (.ifCond .ne 5, 3) := by decide +kernel
theorem dX12_chorus_9 : decode cX12_chorus 9 = .ok (.iconst (-1), 1) := by decide +kernel
theorem dX12_chorus_10 : decode cX12_chorus 10 = .ok (.ireturn, 1) := by decide +kernel
theorem dX12_chorus_11 : decode cX12_chorus 11 = .ok (.aload_n 0, 1) := by decide +kernel
theorem dX12_chorus_12 : decode cX12_chorus 12 = .ok (.invokevirtual 411, 3) := by decide +kernel
theorem dX12_chorus_15 : decode cX12_chorus 15 = .ok (.aload_n 0, 1) := by decide +kernel
theorem dX12_chorus_16 : decode cX12_chorus 16 = .ok (.getfield 63, 3) := by decide +kernel
theorem dX12_chorus_19 : decode cX12_chorus 19 = .ok (.bipush 12, 2) := by decide +kernel
theorem dX12_chorus_21 : decode cX12_chorus 21 = .ok (.iaload, 1) := by decide +kernel
theorem dX12_chorus_22 : decode cX12_chorus 22 = .ok (.istore_n 2, 1) := by decide +kernel
theorem dX12_chorus_23 : decode cX12_chorus 23 = .ok (.aload_n 0, 1) := by decide +kernel
theorem dX12_chorus_24 : decode cX12_chorus 24 = .ok (.iload_n 2, 1) := by decide +kernel
theorem dX12_chorus_25 : decode cX12_chorus 25 = .ok (.invokevirtual 464, 3) := by decide +kernel
theorem dX12_chorus_28 : decode cX12_chorus 28 = .ok (.istore_n 3, 1) := by decide +kernel
theorem dX12_chorus_29 : decode cX12_chorus 29 = .ok (.iload_n 2, 1) := by decide +kernel
theorem dX12_chorus_30 : decode cX12_chorus 30 = .ok (.istore 4, 2) := by decide +kernel
theorem dX12_chorus_32 : decode cX12_chorus 32 = .ok (.iload_n 2, 1) := by decide +kernel
theorem dX12_chorus_33 : decode cX12_chorus 33 = .ok (.istore 5, 2) := by decide +kernel
theorem dX12_chorus_35 : decode cX12_chorus 35 = .ok (.iload 5, 2) := by decide +kernel
theorem dX12_chorus_37 : decode cX12_chorus 37 = .ok (.ifCond .lt 45, 3) := by decide +kernel
theorem dX12_chorus_40 : decode cX12_chorus 40 = .ok (.iload 5, 2) := by decide +kernel
theorem dX12_chorus_42 : decode cX12_chorus 42 = .ok (.iload_n 2, 1) := by decide +kernel
theorem dX12_chorus_43 : decode cX12_chorus 43 = .ok (.iconst (-1), 1) := by decide +kernel
theorem dX12_chorus_44 : decode cX12_chorus 44 = .ok (.ixor, 1) := by decide +kernel
theorem dX12_chorus_45 : decode cX12_chorus 45 = .ok (.iand, 1) := by decide +kernel
theorem dX12_chorus_46 : decode cX12_chorus 46 = .ok (.ifCond .ne 30, 3) := by decide +kernel
theorem dX12_chorus_49 : decode cX12_chorus 49 = .ok (.iload 5, 2) := by decide +kernel
theorem dX12_chorus_51 : decode cX12_chorus 51 = .ok (.invokestatic 283, 3) := by decide +kernel
theorem dX12_chorus_54 : decode cX12_chorus 54 = .ok (.iload 4, 2) := by decide +kernel
theorem dX12_chorus_56 : decode cX12_chorus 56 = .ok (.invokestatic 283, 3) := by decide +kernel
theorem dX12_chorus_59 : decode cX12_chorus 59 = .ok (.if_icmp .gt 17, 3) := by decide +kernel
theorem dX12_chorus_62 : decode cX12_chorus 62 = .ok (.aload_n 0, 1) := by decide +kernel
theorem dX12_chorus_63 : decode cX12_chorus 63 = .ok (.iload 5, 2) := by decide +kernel
theorem dX12_chorus_65 : decode cX12_chorus 65 = .ok (.invokevirtual 464, 3) := by decide +kernel
theorem dX12_chorus_68 : decode cX12_chorus 68 = .ok (.iload_n 3, 1) := by decide +kernel
theorem dX12_chorus_69 : decode cX12_chorus 69 = .ok (.if_icmp .ne 7, 3) := by decide +kernel
theorem dX12_chorus_72 : decode cX12_chorus 72 = .ok (.iload 5, 2) := by decide +kernel
theorem dX12_chorus_74 : decode cX12_chorus 74 = .ok (.istore 4, 2) := by decide +kernel
theorem dX12_chorus_76 : decode cX12_chorus 76 = .ok (.iinc 5 (-1), 3) := by decide +kernel
theorem dX12_chorus_79 : decode cX12_chorus 79 = .ok (.goto (-44), 3) := by decide +kernel
theorem dX12_chorus_82 : decode cX12_chorus 82 = .ok (.iload_n 1, 1) := by decide +kernel
theorem dX12_chorus_83 : decode cX12_chorus 83 = .ok (.ifCond .ne 11, 3) := by decide +kernel
theorem dX12_chorus_86 : decode cX12_chorus 86 = .ok (.iload 4, 2) := by decide +kernel
theorem dX12_chorus_88 : decode cX12_chorus 88 = .ok (.invokestatic 283, 3) := by decide +kernel
theorem dX12_chorus_91 : decode cX12_chorus 91 = .ok (.goto 5, 3) := by decide +kernel
theorem dX12_chorus_94 : decode cX12_chorus 94 = .ok (.iload 4, 2) := by decide +kernel
theorem dX12_chorus_96 : decode cX12_chorus 96 = .ok (.ireturn, 1) := by decide +kernel
theorem dX12_wish_0 : decode cX12_wish 0 = .ok (.aload_n 0, 1) := by decide +kernel
theorem dX12_wish_1 : decode cX12_wish 1 = .ok (.iload_n 1, 1) := by decide +kernel
theorem dX12_wish_2 : decode cX12_wish 2 = .ok (.invokevirtual 408, 3) := by decide +kernel
theorem dX12_wish_5 : decode cX12_wish 5 = .ok (.ifCond .eq 19, 3) := by decide +kernel
theorem dX12_wish_8 : decode cX12_wish 8 = .ok (.aload_n 0, 1) := by decide +kernel
theorem dX12_wish_9 : decode cX12_wish 9 = .ok (.iload_n 2, 1) := by decide +kernel
theorem dX12_wish_10 : decode cX12_wish 10 = .ok (.invokevirtual 423, 3) := by decide +kernel
theorem dX12_wish_13 : decode cX12_wish 13 = .ok (.ifCond .eq 11, 3) := by decide +kernel
theorem dX12_wish_16 : decode cX12_wish 16 = .ok (.aload_n 0, 1) := by decide +kernel
theorem dX12_wish_17 : decode cX12_wish 17 = .ok (.iload_n 1, 1) := by decide +kernel
theorem dX12_wish_18 : decode cX12_wish 18 = .ok (.invokevirtual 430, 3) := by decide +kernel
theorem dX12_wish_21 : decode cX12_wish 21 = .ok (.ifCond .ne 5, 3) := by decide +kernel
theorem dX12_wish_24 : decode cX12_wish 24 = .ok (.iconst (-1), 1) := by decide +kernel
theorem dX12_wish_25 : decode cX12_wish 25 = .ok (.ireturn, 1) := by decide +kernel
theorem dX12_wish_26 : decode cX12_wish 26 = .ok (.iconst 1, 1) := by decide +kernel
theorem dX12_wish_27 : decode cX12_wish 27 = .ok (.istore_n 3, 1) := by decide +kernel
theorem dX12_wish_28 : decode cX12_wish 28 = .ok (.iload_n 3, 1) := by decide +kernel
theorem dX12_wish_29 : decode cX12_wish 29 = .ok (.bipush 20, 2) := by decide +kernel
theorem dX12_wish_31 : decode cX12_wish 31 = .ok (.if_icmp .gt 45, 3) := by decide +kernel
theorem dX12_wish_34 : decode cX12_wish 34 = .ok (.aload_n 0, 1) := by decide +kernel
theorem dX12_wish_35 : decode cX12_wish 35 = .ok (.invokevirtual 411, 3) := by decide +kernel
theorem dX12_wish_38 : decode cX12_wish 38 = .ok (.aload_n 0, 1) := by decide +kernel
theorem dX12_wish_39 : decode cX12_wish 39 = .ok (.getfield 63, 3) := by decide +kernel
theorem dX12_wish_42 : decode cX12_wish 42 = .ok (.bipush 13, 2) := by decide +kernel
theorem dX12_wish_44 : decode cX12_wish 44 = .ok (.iconst 5, 1) := by decide +kernel
theorem dX12_wish_45 : decode cX12_wish 45 = .ok (.iload_n 1, 1) := by decide +kernel
theorem dX12_wish_46 : decode cX12_wish 46 = .ok (.imul, 1) := by decide +kernel
theorem dX12_wish_47 : decode cX12_wish 47 = .ok (.iadd, 1) := by decide +kernel
theorem dX12_wish_48 : decode cX12_wish 48 = .ok (.iload_n 2, 1) := by decide +kernel
theorem dX12_wish_49 : decode cX12_wish 49 = .ok (.iadd, 1) := by decide +kernel
theorem dX12_wish_50 : decode cX12_wish 50 = .ok (.iload_n 3, 1) := by decide +kernel
theorem dX12_wish_51 : decode cX12_wish 51 = .ok (.iastore, 1) := by decide +kernel
theorem dX12_wish_52 : decode cX12_wish 52 = .ok (.aload_n 0, 1) := by decide +kernel
theorem dX12_wish_53 : decode cX12_wish 53 = .ok (.iconst 0, 1) := by decide +kernel
theorem dX12_wish_54 : decode cX12_wish 54 = .ok (.invokevirtual 417, 3) := by decide +kernel
theorem dX12_wish_57 : decode cX12_wish 57 = .ok (.pop, 1) := by decide +kernel
theorem dX12_wish_58 : decode cX12_wish 58 = .ok (.aload_n 0, 1) := by decide +kernel
theorem dX12_wish_59 : decode cX12_wish 59 = .ok (.getfield 66, 3) := by decide +kernel
theorem dX12_wish_62 : decode cX12_wish 62 = .ok (.iload_n 2, 1) := by decide +kernel
theorem dX12_wish_63 : decode cX12_wish 63 = .ok (.iaload, 1) := by decide +kernel
theorem dX12_wish_64 : decode cX12_wish 64 = .ok (.iload_n 1, 1) := by decide +kernel
theorem dX12_wish_65 : decode cX12_wish 65 = .ok (.if_icmp .ne 5, 3) := by decide +kernel
theorem dX12_wish_68 : decode cX12_wish 68 = .ok (.iload_n 3, 1) := by decide +kernel
theorem dX12_wish_69 : decode cX12_wish 69 = .ok (.ireturn, 1) := by decide +kernel
theorem dX12_wish_70 : decode cX12_wish 70 = .ok (.iinc 3 1, 3) := by decide +kernel
theorem dX12_wish_73 : decode cX12_wish 73 = .ok (.goto (-45), 3) := by decide +kernel
theorem dX12_wish_76 : decode cX12_wish 76 = .ok (.iconst (-1), 1) := by decide +kernel
theorem dX12_wish_77 : decode cX12_wish 77 = .ok (.ireturn, 1) := by decide +kernel
theorem dX12_hides_0 : decode cX12_hides 0 = .ok (.aload_n 0, 1) := by decide +kernel
theorem dX12_hides_1 : decode cX12_hides 1 = .ok (.iload_n 1, 1) := by decide +kernel
theorem dX12_hides_2 : decode cX12_hides 2 = .ok (.invokevirtual 408, 3) := by decide +kernel
theorem dX12_hides_5 : decode cX12_hides 5 = .ok (.ifCond .eq 11, 3) := by decide +kernel
theorem dX12_hides_8 : decode cX12_hides 8 = .ok (.aload_n 0, 1) := by decide +kernel
theorem dX12_hides_9 : decode cX12_hides 9 = .ok (.iload_n 1, 1) := by decide +kernel
theorem dX12_hides_10 : decode cX12_hides 10 = .ok (.invokevirtual 430, 3) := by decide +kernel
theorem dX12_hides_13 : decode cX12_hides 13 = .ok (.ifCond .ne 5, 3) := by decide +kernel
theorem dX12_hides_16 : decode cX12_hides 16 = .ok (.iconst (-1), 1) := by decide +kernel
theorem dX12_hides_17 : decode cX12_hides 17 = .ok (.ireturn, 1) := by decide +kernel
theorem dX12_hides_18 : decode cX12_hides 18 = .ok (.aload_n 0, 1) := by decide +kernel
theorem dX12_hides_19 : decode cX12_hides 19 = .ok (.iconst 0, 1) := by decide +kernel
theorem dX12_hides_20 : decode cX12_hides 20 = .ok (.invokevirtual 439, 3) := by decide +kernel
theorem dX12_hides_23 : decode cX12_hides 23 = .ok (.pop, 1) := by decide +kernel
theorem dX12_hides_24 : decode cX12_hides 24 = .ok (.iconst 0, 1) := by decide +kernel
theorem dX12_hides_25 : decode cX12_hides 25 = .ok (.istore_n 2, 1) := by decide +kernel
theorem dX12_hides_26 : decode cX12_hides 26 = .ok (.iload_n 2, 1) := by decide +kernel
theorem dX12_hides_27 : decode cX12_hides 27 = .ok (.aload_n 0, 1) := by decide +kernel
theorem dX12_hides_28 : decode cX12_hides 28 = .ok (.getfield 348, 3) := by decide +kernel
theorem dX12_hides_31 : decode cX12_hides 31 = .ok (.if_icmp .ge 20, 3) := by decide +kernel
theorem dX12_hides_34 : decode cX12_hides 34 = .ok (.aload_n 0, 1) := by decide +kernel
theorem dX12_hides_35 : decode cX12_hides 35 = .ok (.getfield 78, 3) := by decide +kernel
theorem dX12_hides_38 : decode cX12_hides 38 = .ok (.iload_n 2, 1) := by decide +kernel
theorem dX12_hides_39 : decode cX12_hides 39 = .ok (.aload_n 0, 1) := by decide +kernel
theorem dX12_hides_40 : decode cX12_hides 40 = .ok (.iload_n 2, 1) := by decide +kernel
theorem dX12_hides_41 : decode cX12_hides 41 = .ok (.invokevirtual 420, 3) := by decide +kernel
theorem dX12_hides_44 : decode cX12_hides 44 = .ok (.iastore, 1) := by decide +kernel
theorem dX12_hides_45 : decode cX12_hides 45 = .ok (.iinc 2 1, 3) := by decide +kernel
theorem dX12_hides_48 : decode cX12_hides 48 = .ok (.goto (-22), 3) := by decide +kernel
theorem dX12_hides_51 : decode cX12_hides 51 = .ok (.aload_n 0, 1) := by decide +kernel
theorem dX12_hides_52 : decode cX12_hides 52 = .ok (.iconst 1, 1) := by decide +kernel
theorem dX12_hides_53 : decode cX12_hides 53 = .ok (.iload_n 1, 1) := by decide +kernel
theorem dX12_hides_54 : decode cX12_hides 54 = .ok (.ishl, 1) := by decide +kernel
theorem dX12_hides_55 : decode cX12_hides 55 = .ok (.invokevirtual 439, 3) := by decide +kernel
theorem dX12_hides_58 : decode cX12_hides 58 = .ok (.pop, 1) := by decide +kernel
theorem dX12_hides_59 : decode cX12_hides 59 = .ok (.iconst 0, 1) := by decide +kernel
theorem dX12_hides_60 : decode cX12_hides 60 = .ok (.istore_n 2, 1) := by decide +kernel
theorem dX12_hides_61 : decode cX12_hides 61 = .ok (.iconst 0, 1) := by decide +kernel
theorem dX12_hides_62 : decode cX12_hides 62 = .ok (.istore_n 3, 1) := by decide +kernel
theorem dX12_hides_63 : decode cX12_hides 63 = .ok (.iload_n 3, 1) := by decide +kernel
theorem dX12_hides_64 : decode cX12_hides 64 = .ok (.aload_n 0, 1) := by decide +kernel
theorem dX12_hides_65 : decode cX12_hides 65 = .ok (.getfield 348, 3) := by decide +kernel
theorem dX12_hides_68 : decode cX12_hides 68 = .ok (.if_icmp .ge 44, 3) := by decide +kernel
theorem dX12_hides_71 : decode cX12_hides 71 = .ok (.iload_n 2, 1) := by decide +kernel
theorem dX12_hides_72 : decode cX12_hides 72 = .ok (.iload_n 3, 1) := by decide +kernel
theorem dX12_hides_73 : decode cX12_hides 73 = .ok (.iload_n 1, 1) := by decide +kernel
theorem dX12_hides_74 : decode cX12_hides 74 = .ok (.if_icmp .eq 24, 3) := by decide +kernel
theorem dX12_hides_77 : decode cX12_hides 77 = .ok (.aload_n 0, 1) := by decide +kernel
theorem dX12_hides_78 : decode cX12_hides 78 = .ok (.iload_n 3, 1) := by decide +kernel
theorem dX12_hides_79 : decode cX12_hides 79 = .ok (.invokevirtual 420, 3) := by decide +kernel
theorem dX12_hides_82 : decode cX12_hides 82 = .ok (.aload_n 0, 1) := by decide +kernel
theorem dX12_hides_83 : decode cX12_hides 83 = .ok (.getfield 78, 3) := by decide +kernel
theorem dX12_hides_86 : decode cX12_hides 86 = .ok (.iload_n 3, 1) := by decide +kernel
theorem dX12_hides_87 : decode cX12_hides 87 = .ok (.iaload, 1) := by decide +kernel
theorem dX12_hides_88 : decode cX12_hides 88 = .ok (.iconst (-1), 1) := by decide +kernel
theorem dX12_hides_89 : decode cX12_hides 89 = .ok (.ixor, 1) := by decide +kernel
theorem dX12_hides_90 : decode cX12_hides 90 = .ok (.iand, 1) := by decide +kernel
theorem dX12_hides_91 : decode cX12_hides 91 = .ok (.ifCond .eq 7, 3) := by decide +kernel
theorem dX12_hides_94 : decode cX12_hides 94 = .ok (.iconst 1, 1) := by decide +kernel
theorem dX12_hides_95 : decode cX12_hides 95 = .ok (.goto 4, 3) := by decide +kernel
theorem dX12_hides_98 : decode cX12_hides 98 = .ok (.iconst 0, 1) := by decide +kernel
theorem dX12_hides_99 : decode cX12_hides 99 = .ok (.invokestatic 279, 3) := by decide +kernel
theorem dX12_hides_102 : decode cX12_hides 102 = .ok (.iload_n 3, 1) := by decide +kernel
theorem dX12_hides_103 : decode cX12_hides 103 = .ok (.ishl, 1) := by decide +kernel
theorem dX12_hides_104 : decode cX12_hides 104 = .ok (.ior, 1) := by decide +kernel
theorem dX12_hides_105 : decode cX12_hides 105 = .ok (.istore_n 2, 1) := by decide +kernel
theorem dX12_hides_106 : decode cX12_hides 106 = .ok (.iinc 3 1, 3) := by decide +kernel
theorem dX12_hides_109 : decode cX12_hides 109 = .ok (.goto (-46), 3) := by decide +kernel
theorem dX12_hides_112 : decode cX12_hides 112 = .ok (.iload_n 2, 1) := by decide +kernel
theorem dX12_hides_113 : decode cX12_hides 113 = .ok (.ireturn, 1) := by decide +kernel
theorem dX12_layStays_0 : decode cX12_layStays 0 = .ok (.iconst 0, 1) := by decide +kernel
theorem dX12_layStays_1 : decode cX12_layStays 1 = .ok (.istore_n 3, 1) := by decide +kernel
theorem dX12_layStays_2 : decode cX12_layStays 2 = .ok (.iload_n 3, 1) := by decide +kernel
theorem dX12_layStays_3 : decode cX12_layStays 3 = .ok (.iconst 4, 1) := by decide +kernel
theorem dX12_layStays_4 : decode cX12_layStays 4 = .ok (.if_icmp .ge 87, 3) := by decide +kernel
theorem dX12_layStays_7 : decode cX12_layStays 7 = .ok (.aload_n 0, 1) := by decide +kernel
theorem dX12_layStays_8 : decode cX12_layStays 8 = .ok (.iconst 1, 1) := by decide +kernel
theorem dX12_layStays_9 : decode cX12_layStays 9 = .ok (.iload_n 3, 1) := by decide +kernel
theorem dX12_layStays_10 : decode cX12_layStays 10 = .ok (.iconst 2, 1) := by decide +kernel
theorem dX12_layStays_11 : decode cX12_layStays 11 = .ok (.idiv, 1) := by decide +kernel
theorem dX12_layStays_12 : decode cX12_layStays 12 = .ok (.isub, 1) := by decide +kernel
theorem dX12_layStays_13 : decode cX12_layStays 13 = .ok (.iload_n 1, 1) := by decide +kernel
theorem dX12_layStays_14 : decode cX12_layStays 14 = .ok (.ishl, 1) := by decide +kernel
theorem dX12_layStays_15 : decode cX12_layStays 15 = .ok (.iconst 1, 1) := by decide +kernel
theorem dX12_layStays_16 : decode cX12_layStays 16 = .ok (.iload_n 3, 1) := by decide +kernel
theorem dX12_layStays_17 : decode cX12_layStays 17 = .ok (.iconst 2, 1) := by decide +kernel
theorem dX12_layStays_18 : decode cX12_layStays 18 = .ok (.irem, 1) := by decide +kernel
theorem dX12_layStays_19 : decode cX12_layStays 19 = .ok (.isub, 1) := by decide +kernel
theorem dX12_layStays_20 : decode cX12_layStays 20 = .ok (.iload_n 2, 1) := by decide +kernel
theorem dX12_layStays_21 : decode cX12_layStays 21 = .ok (.ishl, 1) := by decide +kernel
theorem dX12_layStays_22 : decode cX12_layStays 22 = .ok (.ior, 1) := by decide +kernel
theorem dX12_layStays_23 : decode cX12_layStays 23 = .ok (.invokevirtual 439, 3) := by decide +kernel
theorem dX12_layStays_26 : decode cX12_layStays 26 = .ok (.pop, 1) := by decide +kernel
theorem dX12_layStays_27 : decode cX12_layStays 27 = .ok (.aload_n 0, 1) := by decide +kernel
theorem dX12_layStays_28 : decode cX12_layStays 28 = .ok (.getfield 81, 3) := by decide +kernel
theorem dX12_layStays_31 : decode cX12_layStays 31 = .ok (.iload_n 3, 1) := by decide +kernel
theorem dX12_layStays_32 : decode cX12_layStays 32 = .ok (.iload_n 3, 1) := by decide +kernel
theorem dX12_layStays_33 : decode cX12_layStays 33 = .ok (.iconst 2, 1) := by decide +kernel
theorem dX12_layStays_34 : decode cX12_layStays 34 = .ok (.idiv, 1) := by decide +kernel
theorem dX12_layStays_35 : decode cX12_layStays 35 = .ok (.ifCond .ne 7, 3) := by decide +kernel
theorem dX12_layStays_38 : decode cX12_layStays 38 = .ok (.iconst 3, 1) := by decide +kernel
theorem dX12_layStays_39 : decode cX12_layStays 39 = .ok (.goto 16, 3) := by decide +kernel
theorem dX12_layStays_42 : decode cX12_layStays 42 = .ok (.aload_n 0, 1) := by decide +kernel
theorem dX12_layStays_43 : decode cX12_layStays 43 = .ok (.getfield 60, 3) := by decide +kernel
theorem dX12_layStays_46 : decode cX12_layStays 46 = .ok (.iload_n 1, 1) := by decide +kernel
theorem dX12_layStays_47 : decode cX12_layStays 47 = .ok (.iaload, 1) := by decide +kernel
theorem dX12_layStays_48 : decode cX12_layStays 48 = .ok (.aload_n 0, 1) := by decide +kernel
theorem dX12_layStays_49 : decode cX12_layStays 49 = .ok (.getfield 63, 3) := by decide +kernel
theorem dX12_layStays_52 : decode cX12_layStays 52 = .ok (.iload_n 1, 1) := by decide +kernel
theorem dX12_layStays_53 : decode cX12_layStays 53 = .ok (.iaload, 1) := by decide +kernel
theorem dX12_layStays_54 : decode cX12_layStays 54 = .ok (.isub, 1) := by decide +kernel
theorem dX12_layStays_55 : decode cX12_layStays 55 = .ok (.iastore, 1) := by decide +kernel
theorem dX12_layStays_56 : decode cX12_layStays 56 = .ok (.aload_n 0, 1) := by decide +kernel
theorem dX12_layStays_57 : decode cX12_layStays 57 = .ok (.getfield 84, 3) := by decide +kernel
theorem dX12_layStays_60 : decode cX12_layStays 60 = .ok (.iload_n 3, 1) := by decide +kernel
theorem dX12_layStays_61 : decode cX12_layStays 61 = .ok (.iload_n 3, 1) := by decide +kernel
theorem dX12_layStays_62 : decode cX12_layStays 62 = .ok (.iconst 2, 1) := by decide +kernel
theorem dX12_layStays_63 : decode cX12_layStays 63 = .ok (.irem, 1) := by decide +kernel
theorem dX12_layStays_64 : decode cX12_layStays 64 = .ok (.ifCond .ne 7, 3) := by decide +kernel
theorem dX12_layStays_67 : decode cX12_layStays 67 = .ok (.iconst 3, 1) := by decide +kernel
theorem dX12_layStays_68 : decode cX12_layStays 68 = .ok (.goto 16, 3) := by decide +kernel
theorem dX12_layStays_71 : decode cX12_layStays 71 = .ok (.aload_n 0, 1) := by decide +kernel
theorem dX12_layStays_72 : decode cX12_layStays 72 = .ok (.getfield 60, 3) := by decide +kernel
theorem dX12_layStays_75 : decode cX12_layStays 75 = .ok (.iload_n 2, 1) := by decide +kernel
theorem dX12_layStays_76 : decode cX12_layStays 76 = .ok (.iaload, 1) := by decide +kernel
theorem dX12_layStays_77 : decode cX12_layStays 77 = .ok (.aload_n 0, 1) := by decide +kernel
theorem dX12_layStays_78 : decode cX12_layStays 78 = .ok (.getfield 63, 3) := by decide +kernel
theorem dX12_layStays_81 : decode cX12_layStays 81 = .ok (.iload_n 2, 1) := by decide +kernel
theorem dX12_layStays_82 : decode cX12_layStays 82 = .ok (.iaload, 1) := by decide +kernel
