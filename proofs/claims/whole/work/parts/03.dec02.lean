theorem dX5_rungBy_6 : decode cX5_rungBy 6 = .ok (.getfield 15, 3) := by decide +kernel
theorem dX5_rungBy_9 : decode cX5_rungBy 9 = .ok (.getfield 72, 3) := by decide +kernel
theorem dX5_rungBy_12 : decode cX5_rungBy 12 = .ok (.if_icmp .ge 25, 3) := by decide +kernel
theorem dX5_rungBy_15 : decode cX5_rungBy 15 = .ok (.aload_n 0, 1) := by decide +kernel
theorem dX5_rungBy_16 : decode cX5_rungBy 16 = .ok (.getfield 9, 3) := by decide +kernel
theorem dX5_rungBy_19 : decode cX5_rungBy 19 = .ok (.iload_n 3, 1) := by decide +kernel
theorem dX5_rungBy_20 : decode cX5_rungBy 20 = .ok (.iaload, 1) := by decide +kernel
theorem dX5_rungBy_21 : decode cX5_rungBy 21 = .ok (.iload_n 1, 1) := by decide +kernel
theorem dX5_rungBy_22 : decode cX5_rungBy 22 = .ok (.if_icmp .ne 9, 3) := by decide +kernel
theorem dX5_rungBy_25 : decode cX5_rungBy 25 = .ok (.iload_n 2, 1) := by decide +kernel
theorem dX5_rungBy_26 : decode cX5_rungBy 26 = .ok (.iconst 1, 1) := by decide +kernel
theorem dX5_rungBy_27 : decode cX5_rungBy 27 = .ok (.iload_n 3, 1) := by decide +kernel
theorem dX5_rungBy_28 : decode cX5_rungBy 28 = .ok (.ishl, 1) := by decide +kernel
theorem dX5_rungBy_29 : decode cX5_rungBy 29 = .ok (.ior, 1) := by decide +kernel
theorem dX5_rungBy_30 : decode cX5_rungBy 30 = .ok (.istore_n 2, 1) := by decide +kernel
theorem dX5_rungBy_31 : decode cX5_rungBy 31 = .ok (.iinc 3 1, 3) := by decide +kernel
theorem dX5_rungBy_34 : decode cX5_rungBy 34 = .ok (.goto (-30), 3) := by decide +kernel
theorem dX5_rungBy_37 : decode cX5_rungBy 37 = .ok (.iload_n 2, 1) := by decide +kernel
theorem dX5_rungBy_38 : decode cX5_rungBy 38 = .ok (.ireturn, 1) := by decide +kernel
theorem dX6_init_0 : decode cX6_init 0 = .ok (.aload_n 0, 1) := by decide +kernel
theorem dX6_init_1 : decode cX6_init 1 = .ok (.invokespecial 3, 3) := by decide +kernel
theorem dX6_init_4 : decode cX6_init 4 = .ok (.aload_n 0, 1) := by decide +kernel
theorem dX6_init_5 : decode cX6_init 5 = .ok (.bipush 6, 2) := by decide +kernel
theorem dX6_init_7 : decode cX6_init 7 = .ok (.newarray .int, 2) := by decide +kernel
theorem dX6_init_9 : decode cX6_init 9 = .ok (.putfield 9, 3) := by decide +kernel
theorem dX6_init_12 : decode cX6_init 12 = .ok (.aload_n 0, 1) := by decide +kernel
theorem dX6_init_13 : decode cX6_init 13 = .ok (.bipush 6, 2) := by decide +kernel
theorem dX6_init_15 : decode cX6_init 15 = .ok (.newarray .int, 2) := by decide +kernel
theorem dX6_init_17 : decode cX6_init 17 = .ok (.putfield 15, 3) := by decide +kernel
theorem dX6_init_20 : decode cX6_init 20 = .ok (.aload_n 0, 1) := by decide +kernel
theorem dX6_init_21 : decode cX6_init 21 = .ok (.bipush 30, 2) := by decide +kernel
theorem dX6_init_23 : decode cX6_init 23 = .ok (.newarray .int, 2) := by decide +kernel
theorem dX6_init_25 : decode cX6_init 25 = .ok (.putfield 18, 3) := by decide +kernel
theorem dX6_init_28 : decode cX6_init 28 = .ok (.aload_n 0, 1) := by decide +kernel
theorem dX6_init_29 : decode cX6_init 29 = .ok (.iconst 0, 1) := by decide +kernel
theorem dX6_init_30 : decode cX6_init 30 = .ok (.putfield 21, 3) := by decide +kernel
theorem dX6_init_33 : decode cX6_init 33 = .ok (.aload_n 0, 1) := by decide +kernel
theorem dX6_init_34 : decode cX6_init 34 = .ok (.iconst 0, 1) := by decide +kernel
theorem dX6_init_35 : decode cX6_init 35 = .ok (.putfield 25, 3) := by decide +kernel
theorem dX6_init_38 : decode cX6_init 38 = .ok (.aload_n 0, 1) := by decide +kernel
theorem dX6_init_39 : decode cX6_init 39 = .ok (.iconst 0, 1) := by decide +kernel
theorem dX6_init_40 : decode cX6_init 40 = .ok (.putfield 28, 3) := by decide +kernel
theorem dX6_init_43 : decode cX6_init 43 = .ok (.return_, 1) := by decide +kernel
theorem dX6_copyFrom_0 : decode cX6_copyFrom 0 = .ok (.aload_n 1, 1) := by decide +kernel
theorem dX6_copyFrom_1 : decode cX6_copyFrom 1 = .ok (.getfield 9, 3) := by decide +kernel
theorem dX6_copyFrom_4 : decode cX6_copyFrom 4 = .ok (.iconst 0, 1) := by decide +kernel
theorem dX6_copyFrom_5 : decode cX6_copyFrom 5 = .ok (.aload_n 0, 1) := by decide +kernel
theorem dX6_copyFrom_6 : decode cX6_copyFrom 6 = .ok (.getfield 9, 3) := by decide +kernel
theorem dX6_copyFrom_9 : decode cX6_copyFrom 9 = .ok (.iconst 0, 1) := by decide +kernel
theorem dX6_copyFrom_10 : decode cX6_copyFrom 10 = .ok (.aload_n 0, 1) := by decide +kernel
theorem dX6_copyFrom_11 : decode cX6_copyFrom 11 = .ok (.getfield 9, 3) := by decide +kernel
theorem dX6_copyFrom_14 : decode cX6_copyFrom 14 = .ok (.arraylength, 1) := by decide +kernel
theorem dX6_copyFrom_15 : decode cX6_copyFrom 15 = .ok (.invokestatic 31, 3) := by decide +kernel
theorem dX6_copyFrom_18 : decode cX6_copyFrom 18 = .ok (.aload_n 1, 1) := by decide +kernel
theorem dX6_copyFrom_19 : decode cX6_copyFrom 19 = .ok (.getfield 15, 3) := by decide +kernel
theorem dX6_copyFrom_22 : decode cX6_copyFrom 22 = .ok (.iconst 0, 1) := by decide +kernel
theorem dX6_copyFrom_23 : decode cX6_copyFrom 23 = .ok (.aload_n 0, 1) := by decide +kernel
theorem dX6_copyFrom_24 : decode cX6_copyFrom 24 = .ok (.getfield 15, 3) := by decide +kernel
theorem dX6_copyFrom_27 : decode cX6_copyFrom 27 = .ok (.iconst 0, 1) := by decide +kernel
theorem dX6_copyFrom_28 : decode cX6_copyFrom 28 = .ok (.aload_n 0, 1) := by decide +kernel
theorem dX6_copyFrom_29 : decode cX6_copyFrom 29 = .ok (.getfield 15, 3) := by decide +kernel
theorem dX6_copyFrom_32 : decode cX6_copyFrom 32 = .ok (.arraylength, 1) := by decide +kernel
theorem dX6_copyFrom_33 : decode cX6_copyFrom 33 = .ok (.invokestatic 31, 3) := by decide +kernel
theorem dX6_copyFrom_36 : decode cX6_copyFrom 36 = .ok (.aload_n 1, 1) := by decide +kernel
theorem dX6_copyFrom_37 : decode cX6_copyFrom 37 = .ok (.getfield 18, 3) := by decide +kernel
theorem dX6_copyFrom_40 : decode cX6_copyFrom 40 = .ok (.iconst 0, 1) := by decide +kernel
theorem dX6_copyFrom_41 : decode cX6_copyFrom 41 = .ok (.aload_n 0, 1) := by decide +kernel
theorem dX6_copyFrom_42 : decode cX6_copyFrom 42 = .ok (.getfield 18, 3) := by decide +kernel
theorem dX6_copyFrom_45 : decode cX6_copyFrom 45 = .ok (.iconst 0, 1) := by decide +kernel
theorem dX6_copyFrom_46 : decode cX6_copyFrom 46 = .ok (.aload_n 0, 1) := by decide +kernel
theorem dX6_copyFrom_47 : decode cX6_copyFrom 47 = .ok (.getfield 18, 3) := by decide +kernel
theorem dX6_copyFrom_50 : decode cX6_copyFrom 50 = .ok (.arraylength, 1) := by decide +kernel
theorem dX6_copyFrom_51 : decode cX6_copyFrom 51 = .ok (.invokestatic 31, 3) := by decide +kernel
theorem dX6_copyFrom_54 : decode cX6_copyFrom 54 = .ok (.aload_n 0, 1) := by decide +kernel
theorem dX6_copyFrom_55 : decode cX6_copyFrom 55 = .ok (.aload_n 1, 1) := by decide +kernel
theorem dX6_copyFrom_56 : decode cX6_copyFrom 56 = .ok (.getfield 21, 3) := by decide +kernel
theorem dX6_copyFrom_59 : decode cX6_copyFrom 59 = .ok (.putfield 21, 3) := by decide +kernel
theorem dX6_copyFrom_62 : decode cX6_copyFrom 62 = .ok (.aload_n 0, 1) := by decide +kernel
theorem dX6_copyFrom_63 : decode cX6_copyFrom 63 = .ok (.aload_n 1, 1) := by decide +kernel
theorem dX6_copyFrom_64 : decode cX6_copyFrom 64 = .ok (.getfield 25, 3) := by decide +kernel
theorem dX6_copyFrom_67 : decode cX6_copyFrom 67 = .ok (.putfield 25, 3) := by decide +kernel
theorem dX6_copyFrom_70 : decode cX6_copyFrom 70 = .ok (.aload_n 0, 1) := by decide +kernel
theorem dX6_copyFrom_71 : decode cX6_copyFrom 71 = .ok (.aload_n 1, 1) := by decide +kernel
theorem dX6_copyFrom_72 : decode cX6_copyFrom 72 = .ok (.getfield 28, 3) := by decide +kernel
theorem dX6_copyFrom_75 : decode cX6_copyFrom 75 = .ok (.putfield 28, 3) := by decide +kernel
theorem dX6_copyFrom_78 : decode cX6_copyFrom 78 = .ok (.return_, 1) := by decide +kernel
theorem dX6_isHere_0 : decode cX6_isHere 0 = .ok (.aload_n 0, 1) := by decide +kernel
theorem dX6_isHere_1 : decode cX6_isHere 1 = .ok (.getfield 21, 3) := by decide +kernel
theorem dX6_isHere_4 : decode cX6_isHere 4 = .ok (.iload_n 1, 1) := by decide +kernel
theorem dX6_isHere_5 : decode cX6_isHere 5 = .ok (.ishr, 1) := by decide +kernel
theorem dX6_isHere_6 : decode cX6_isHere 6 = .ok (.iconst 1, 1) := by decide +kernel
theorem dX6_isHere_7 : decode cX6_isHere 7 = .ok (.iand, 1) := by decide +kernel
theorem dX6_isHere_8 : decode cX6_isHere 8 = .ok (.iconst 1, 1) := by decide +kernel
theorem dX6_isHere_9 : decode cX6_isHere 9 = .ok (.if_icmp .ne 7, 3) := by decide +kernel
theorem dX6_isHere_12 : decode cX6_isHere 12 = .ok (.iconst 1, 1) := by decide +kernel
theorem dX6_isHere_13 : decode cX6_isHere 13 = .ok (.goto 4, 3) := by decide +kernel
theorem dX6_isHere_16 : decode cX6_isHere 16 = .ok (.iconst 0, 1) := by decide +kernel
theorem dX6_isHere_17 : decode cX6_isHere 17 = .ok (.ireturn, 1) := by decide +kernel
theorem dX6_fears_0 : decode cX6_fears 0 = .ok (.iconst 0, 1) := by decide +kernel
theorem dX6_fears_1 : decode cX6_fears 1 = .ok (.istore_n 2, 1) := by decide +kernel
theorem dX6_fears_2 : decode cX6_fears 2 = .ok (.iconst 0, 1) := by decide +kernel
theorem dX6_fears_3 : decode cX6_fears 3 = .ok (.istore_n 3, 1) := by decide +kernel
theorem dX6_fears_4 : decode cX6_fears 4 = .ok (.iload_n 3, 1) := by decide +kernel
theorem dX6_fears_5 : decode cX6_fears 5 = .ok (.iconst 5, 1) := by decide +kernel
theorem dX6_fears_6 : decode cX6_fears 6 = .ok (.if_icmp .ge 28, 3) := by decide +kernel
theorem dX6_fears_9 : decode cX6_fears 9 = .ok (.aload_n 0, 1) := by decide +kernel
theorem dX6_fears_10 : decode cX6_fears 10 = .ok (.getfield 18, 3) := by decide +kernel
theorem dX6_fears_13 : decode cX6_fears 13 = .ok (.iload_n 1, 1) := by decide +kernel
theorem dX6_fears_14 : decode cX6_fears 14 = .ok (.iload_n 3, 1) := by decide +kernel
theorem dX6_fears_15 : decode cX6_fears 15 = .ok (.invokestatic 37, 3) := by decide +kernel
theorem dX6_fears_18 : decode cX6_fears 18 = .ok (.iaload, 1) := by decide +kernel
theorem dX6_fears_19 : decode cX6_fears 19 = .ok (.ifCond .le 9, 3) := by decide +kernel
theorem dX6_fears_22 : decode cX6_fears 22 = .ok (.iload_n 2, 1) := by decide +kernel
theorem dX6_fears_23 : decode cX6_fears 23 = .ok (.iconst 1, 1) := by decide +kernel
theorem dX6_fears_24 : decode cX6_fears 24 = .ok (.iload_n 3, 1) := by decide +kernel
theorem dX6_fears_25 : decode cX6_fears 25 = .ok (.ishl, 1) := by decide +kernel
theorem dX6_fears_26 : decode cX6_fears 26 = .ok (.ior, 1) := by decide +kernel
theorem dX6_fears_27 : decode cX6_fears 27 = .ok (.istore_n 2, 1) := by decide +kernel
theorem dX6_fears_28 : decode cX6_fears 28 = .ok (.iinc 3 1, 3) := by decide +kernel
theorem dX6_fears_31 : decode cX6_fears 31 = .ok (.goto (-27), 3) := by decide +kernel
theorem dX6_fears_34 : decode cX6_fears 34 = .ok (.iload_n 2, 1) := by decide +kernel
theorem dX6_fears_35 : decode cX6_fears 35 = .ok (.ireturn, 1) := by decide +kernel
theorem dX7_init_0 : decode cX7_init 0 = .ok (.aload_n 0, 1) := by decide +kernel
theorem dX7_init_1 : decode cX7_init 1 = .ok (.invokespecial 3, 3) := by decide +kernel
theorem dX7_init_4 : decode cX7_init 4 = .ok (.aload_n 0, 1) := by decide +kernel
theorem dX7_init_5 : decode cX7_init 5 = .ok (.sipush 1600, 3) := by decide +kernel
theorem dX7_init_8 : decode cX7_init 8 = .ok (.newarray .byte, 2) := by decide +kernel
theorem dX7_init_10 : decode cX7_init 10 = .ok (.putfield 9, 3) := by decide +kernel
theorem dX7_init_13 : decode cX7_init 13 = .ok (.aload_n 0, 1) := by decide +kernel
theorem dX7_init_14 : decode cX7_init 14 = .ok (.iconst 0, 1) := by decide +kernel
theorem dX7_init_15 : decode cX7_init 15 = .ok (.putfield 15, 3) := by decide +kernel
theorem dX7_init_18 : decode cX7_init 18 = .ok (.return_, 1) := by decide +kernel
theorem dX7_put_0 : decode cX7_put 0 = .ok (.bipush 24, 2) := by decide +kernel
theorem dX7_put_2 : decode cX7_put 2 = .ok (.istore_n 2, 1) := by decide +kernel
theorem dX7_put_3 : decode cX7_put 3 = .ok (.iload_n 2, 1) := by decide +kernel
theorem dX7_put_4 : decode cX7_put 4 = .ok (.ifCond .lt 44, 3) := by decide +kernel
theorem dX7_put_7 : decode cX7_put 7 = .ok (.aload_n 0, 1) := by decide +kernel
theorem dX7_put_8 : decode cX7_put 8 = .ok (.getfield 15, 3) := by decide +kernel
theorem dX7_put_11 : decode cX7_put 11 = .ok (.aload_n 0, 1) := by decide +kernel
theorem dX7_put_12 : decode cX7_put 12 = .ok (.getfield 9, 3) := by decide +kernel
theorem dX7_put_15 : decode cX7_put 15 = .ok (.arraylength, 1) := by decide +kernel
theorem dX7_put_16 : decode cX7_put 16 = .ok (.if_icmp .ge 26, 3) := by decide +kernel
theorem dX7_put_19 : decode cX7_put 19 = .ok (.aload_n 0, 1) := by decide +kernel
theorem dX7_put_20 : decode cX7_put 20 = .ok (.getfield 9, 3) := by decide +kernel
theorem dX7_put_23 : decode cX7_put 23 = .ok (.aload_n 0, 1) := by decide +kernel
theorem dX7_put_24 : decode cX7_put 24 = .ok (.getfield 15, 3) := by decide +kernel
theorem dX7_put_27 : decode cX7_put 27 = .ok (.iload_n 1, 1) := by decide +kernel
theorem dX7_put_28 : decode cX7_put 28 = .ok (.iload_n 2, 1) := by decide +kernel
theorem dX7_put_29 : decode cX7_put 29 = .ok (.ishr, 1) := by decide +kernel
theorem dX7_put_30 : decode cX7_put 30 = .ok (.i2b, 1) := by decide +kernel
theorem dX7_put_31 : decode cX7_put 31 = .ok (.bastore, 1) := by decide +kernel
theorem dX7_put_32 : decode cX7_put 32 = .ok (.aload_n 0, 1) := by decide +kernel
theorem dX7_put_33 : decode cX7_put 33 = .ok (.dup, 1) := by decide +kernel
theorem dX7_put_34 : decode cX7_put 34 = .ok (.getfield 15, 3) := by decide +kernel
theorem dX7_put_37 : decode cX7_put 37 = .ok (.iconst 1, 1) := by decide +kernel
theorem dX7_put_38 : decode cX7_put 38 = .ok (.iadd, 1) := by decide +kernel
theorem dX7_put_39 : decode cX7_put 39 = .ok (.putfield 15, 3) := by decide +kernel
theorem dX7_put_42 : decode cX7_put 42 = .ok (.iinc 2 (-8), 3) := by decide +kernel
theorem dX7_put_45 : decode cX7_put 45 = .ok (.goto (-42), 3) := by decide +kernel
theorem dX7_put_48 : decode cX7_put 48 = .ok (.return_, 1) := by decide +kernel
theorem dX7_at_0 : decode cX7_at 0 = .ok (.iload_n 1, 1) := by decide +kernel
theorem dX7_at_1 : decode cX7_at 1 = .ok (.ifCond .lt 33, 3) := by decide +kernel
theorem dX7_at_4 : decode cX7_at 4 = .ok (.iload_n 1, 1) := by decide +kernel
theorem dX7_at_5 : decode cX7_at 5 = .ok (.aload_n 0, 1) := by decide +kernel
theorem dX7_at_6 : decode cX7_at 6 = .ok (.getfield 15, 3) := by decide +kernel
theorem dX7_at_9 : decode cX7_at 9 = .ok (.if_icmp .ge 25, 3) := by decide +kernel
theorem dX7_at_12 : decode cX7_at 12 = .ok (.iload_n 1, 1) := by decide +kernel
theorem dX7_at_13 : decode cX7_at 13 = .ok (.aload_n 0, 1) := by decide +kernel
theorem dX7_at_14 : decode cX7_at 14 = .ok (.getfield 9, 3) := by decide +kernel
theorem dX7_at_17 : decode cX7_at 17 = .ok (.arraylength, 1) := by decide +kernel
theorem dX7_at_18 : decode cX7_at 18 = .ok (.if_icmp .ge 16, 3) := by decide +kernel
theorem dX7_at_21 : decode cX7_at 21 = .ok (.aload_n 0, 1) := by decide +kernel
theorem dX7_at_22 : decode cX7_at 22 = .ok (.getfield 9, 3) := by decide +kernel
theorem dX7_at_25 : decode cX7_at 25 = .ok (.iload_n 1, 1) := by decide +kernel
theorem dX7_at_26 : decode cX7_at 26 = .ok (.baload, 1) := by decide +kernel
theorem dX7_at_27 : decode cX7_at 27 = .ok (.sipush 255, 3) := by decide +kernel
theorem dX7_at_30 : decode cX7_at 30 = .ok (.iand, 1) := by decide +kernel
theorem dX7_at_31 : decode cX7_at 31 = .ok (.goto 4, 3) := by decide +kernel
theorem dX7_at_34 : decode cX7_at 34 = .ok (.iconst (-1), 1) := by decide +kernel
theorem dX7_at_35 : decode cX7_at 35 = .ok (.ireturn, 1) := by decide +kernel
theorem dX8_init_0 : decode cX8_init 0 = .ok (.aload_n 0, 1) := by decide +kernel
theorem dX8_init_1 : decode cX8_init 1 = .ok (.invokespecial 3, 3) := by decide +kernel
theorem dX8_init_4 : decode cX8_init 4 = .ok (.aload_n 0, 1) := by decide +kernel
theorem dX8_init_5 : decode cX8_init 5 = .ok (.iconst 0, 1) := by decide +kernel
theorem dX8_init_6 : decode cX8_init 6 = .ok (.putfield 9, 3) := by decide +kernel
theorem dX8_init_9 : decode cX8_init 9 = .ok (.aload_n 0, 1) := by decide +kernel
theorem dX8_init_10 : decode cX8_init 10 = .ok (.iconst 0, 1) := by decide +kernel
theorem dX8_init_11 : decode cX8_init 11 = .ok (.putfield 15, 3) := by decide +kernel
theorem dX8_init_14 : decode cX8_init 14 = .ok (.aload_n 0, 1) := by decide +kernel
theorem dX8_init_15 : decode cX8_init 15 = .ok (.iconst 0, 1) := by decide +kernel
theorem dX8_init_16 : decode cX8_init 16 = .ok (.putfield 18, 3) := by decide +kernel
theorem dX8_init_19 : decode cX8_init 19 = .ok (.aload_n 0, 1) := by decide +kernel
theorem dX8_init_20 : decode cX8_init 20 = .ok (.iconst 0, 1) := by decide +kernel
theorem dX8_init_21 : decode cX8_init 21 = .ok (.putfield 21, 3) := by decide +kernel
theorem dX8_init_24 : decode cX8_init 24 = .ok (.aload_n 0, 1) := by decide +kernel
theorem dX8_init_25 : decode cX8_init 25 = .ok (.lconst 0, 1) := by decide +kernel
theorem dX8_init_26 : decode cX8_init 26 = .ok (.putfield 24, 3) := by decide +kernel
theorem dX8_init_29 : decode cX8_init 29 = .ok (.aload_n 0, 1) := by decide +kernel
theorem dX8_init_30 : decode cX8_init 30 = .ok (.aload_n 1, 1) := by decide +kernel
theorem dX8_init_31 : decode cX8_init 31 = .ok (.putfield 28, 3) := by decide +kernel
theorem dX8_init_34 : decode cX8_init 34 = .ok (.return_, 1) := by decide +kernel
theorem dX8_start_0 : decode cX8_start 0 = .ok (.aload_n 0, 1) := by decide +kernel
theorem dX8_start_1 : decode cX8_start 1 = .ok (.iconst 0, 1) := by decide +kernel
theorem dX8_start_2 : decode cX8_start 2 = .ok (.putfield 9, 3) := by decide +kernel
theorem dX8_start_5 : decode cX8_start 5 = .ok (.aload_n 0, 1) := by decide +kernel
theorem dX8_start_6 : decode cX8_start 6 = .ok (.invokevirtual 32, 3) := by decide +kernel
theorem dX8_start_9 : decode cX8_start 9 = .ok (.return_, 1) := by decide +kernel
theorem dX8_advance_0 : decode cX8_advance 0 = .ok (.aload_n 0, 1) := by decide +kernel
theorem dX8_advance_1 : decode cX8_advance 1 = .ok (.getfield 9, 3) := by decide +kernel
theorem dX8_advance_4 : decode cX8_advance 4 = .ok (.aload_n 0, 1) := by decide +kernel
theorem dX8_advance_5 : decode cX8_advance 5 = .ok (.getfield 28, 3) := by decide +kernel
theorem dX8_advance_8 : decode cX8_advance 8 = .ok (.getfield 35, 3) := by decide +kernel
theorem dX8_advance_11 : decode cX8_advance 11 = .ok (.if_icmp .ge 33, 3) := by decide +kernel
theorem dX8_advance_14 : decode cX8_advance 14 = .ok (.aload_n 0, 1) := by decide +kernel
theorem dX8_advance_15 : decode cX8_advance 15 = .ok (.getfield 28, 3) := by decide +kernel
theorem dX8_advance_18 : decode cX8_advance 18 = .ok (.aload_n 0, 1) := by decide +kernel
theorem dX8_advance_19 : decode cX8_advance 19 = .ok (.getfield 9, 3) := by decide +kernel
theorem dX8_advance_22 : decode cX8_advance 22 = .ok (.invokevirtual 40, 3) := by decide +kernel
theorem dX8_advance_25 : decode cX8_advance 25 = .ok (.invokestatic 44, 3) := by decide +kernel
theorem dX8_advance_28 : decode cX8_advance 28 = .ok (.ifCond .eq 16, 3) := by decide +kernel
theorem dX8_advance_31 : decode cX8_advance 31 = .ok (.aload_n 0, 1) := by decide +kernel
theorem dX8_advance_32 : decode cX8_advance 32 = .ok (.dup, 1) := by decide +kernel
theorem dX8_advance_33 : decode cX8_advance 33 = .ok (.getfield 9, 3) := by decide +kernel
theorem dX8_advance_36 : decode cX8_advance 36 = .ok (.iconst 1, 1) := by decide +kernel
theorem dX8_advance_37 : decode cX8_advance 37 = .ok (.iadd, 1) := by decide +kernel
theorem dX8_advance_38 : decode cX8_advance 38 = .ok (.putfield 9, 3) := by decide +kernel
theorem dX8_advance_41 : decode cX8_advance 41 = .ok (.goto (-41), 3) := by decide +kernel
theorem dX8_advance_44 : decode cX8_advance 44 = .ok (.aload_n 0, 1) := by decide +kernel
theorem dX8_advance_45 : decode cX8_advance 45 = .ok (.aload_n 0, 1) := by decide +kernel
theorem dX8_advance_46 : decode cX8_advance 46 = .ok (.getfield 9, 3) := by decide +kernel
theorem dX8_advance_49 : decode cX8_advance 49 = .ok (.putfield 18, 3) := by decide +kernel
theorem dX8_advance_52 : decode cX8_advance 52 = .ok (.aload_n 0, 1) := by decide +kernel
theorem dX8_advance_53 : decode cX8_advance 53 = .ok (.getfield 28, 3) := by decide +kernel
theorem dX8_advance_56 : decode cX8_advance 56 = .ok (.aload_n 0, 1) := by decide +kernel
theorem dX8_advance_57 : decode cX8_advance 57 = .ok (.getfield 18, 3) := by decide +kernel
theorem dX8_advance_60 : decode cX8_advance 60 = .ok (.invokevirtual 40, 3) := by decide +kernel
theorem dX8_advance_63 : decode cX8_advance 63 = .ok (.istore_n 1, 1) := by decide +kernel
theorem dX8_advance_64 : decode cX8_advance 64 = .ok (.iload_n 1, 1) := by decide +kernel
theorem dX8_advance_65 : decode cX8_advance 65 = .ok (.iconst (-1), 1) := by decide +kernel
theorem dX8_advance_66 : decode cX8_advance 66 = .ok (.if_icmp .ne 11, 3) := by decide +kernel
theorem dX8_advance_69 : decode cX8_advance 69 = .ok (.aload_n 0, 1) := by decide +kernel
theorem dX8_advance_70 : decode cX8_advance 70 = .ok (.iconst 0, 1) := by decide +kernel
theorem dX8_advance_71 : decode cX8_advance 71 = .ok (.putfield 15, 3) := by decide +kernel
theorem dX8_advance_74 : decode cX8_advance 74 = .ok (.goto 57, 3) := by decide +kernel
theorem dX8_advance_77 : decode cX8_advance 77 = .ok (.iload_n 1, 1) := by decide +kernel
theorem dX8_advance_78 : decode cX8_advance 78 = .ok (.invokestatic 48, 3) := by decide +kernel
theorem dX8_advance_81 : decode cX8_advance 81 = .ok (.ifCond .eq 10, 3) := by decide +kernel
theorem dX8_advance_84 : decode cX8_advance 84 = .ok (.aload_n 0, 1) := by decide +kernel
theorem dX8_advance_85 : decode cX8_advance 85 = .ok (.invokevirtual 51, 3) := by decide +kernel
theorem dX8_advance_88 : decode cX8_advance 88 = .ok (.goto 43, 3) := by decide +kernel
theorem dX8_advance_91 : decode cX8_advance 91 = .ok (.iload_n 1, 1) := by decide +kernel
theorem dX8_advance_92 : decode cX8_advance 92 = .ok (.invokestatic 54, 3) := by decide +kernel
theorem dX8_advance_95 : decode cX8_advance 95 = .ok (.ifCond .eq 10, 3) := by decide +kernel
theorem dX8_advance_98 : decode cX8_advance 98 = .ok (.aload_n 0, 1) := by decide +kernel
theorem dX8_advance_99 : decode cX8_advance 99 = .ok (.invokevirtual 57, 3) := by decide +kernel
theorem dX8_advance_102 : decode cX8_advance 102 = .ok (.goto 29, 3) := by decide +kernel
theorem dX8_advance_105 : decode cX8_advance 105 = .ok (.aload_n 0, 1) := by decide +kernel
theorem dX8_advance_106 : decode cX8_advance 106 = .ok (.iload_n 1, 1) := by decide +kernel
theorem dX8_advance_107 : decode cX8_advance 107 = .ok (.invokestatic 60, 3) := by decide +kernel
theorem dX8_advance_110 : decode cX8_advance 110 = .ok (.ifCond .eq 7, 3) := by decide +kernel
theorem dX8_advance_113 : decode cX8_advance 113 = .ok (.iload_n 1, 1) := by decide +kernel
theorem dX8_advance_114 : decode cX8_advance 114 = .ok (.goto 4, 3) := by decide +kernel
theorem dX8_advance_117 : decode cX8_advance 117 = .ok (.iconst 1, 1) := by decide +kernel
theorem dX8_advance_118 : decode cX8_advance 118 = .ok (.putfield 15, 3) := by decide +kernel
theorem dX8_advance_121 : decode cX8_advance 121 = .ok (.aload_n 0, 1) := by decide +kernel
theorem dX8_advance_122 : decode cX8_advance 122 = .ok (.dup, 1) := by decide +kernel
theorem dX8_advance_123 : decode cX8_advance 123 = .ok (.getfield 9, 3) := by decide +kernel
theorem dX8_advance_126 : decode cX8_advance 126 = .ok (.iconst 1, 1) := by decide +kernel
theorem dX8_advance_127 : decode cX8_advance 127 = .ok (.iadd, 1) := by decide +kernel
theorem dX8_advance_128 : decode cX8_advance 128 = .ok (.putfield 9, 3) := by decide +kernel
theorem dX8_advance_131 : decode cX8_advance 131 = .ok (.return_, 1) := by decide +kernel
theorem dX8_scanWord_0 : decode cX8_scanWord 0 = .ok (.aload_n 0, 1) := by decide +kernel
theorem dX8_scanWord_1 : decode cX8_scanWord 1 = .ok (.lconst 0, 1) := by decide +kernel
theorem dX8_scanWord_2 : decode cX8_scanWord 2 = .ok (.putfield 24, 3) := by decide +kernel
theorem dX8_scanWord_5 : decode cX8_scanWord 5 = .ok (.aload_n 0, 1) := by decide +kernel
theorem dX8_scanWord_6 : decode cX8_scanWord 6 = .ok (.getfield 9, 3) := by decide +kernel
theorem dX8_scanWord_9 : decode cX8_scanWord 9 = .ok (.aload_n 0, 1) := by decide +kernel
theorem dX8_scanWord_10 : decode cX8_scanWord 10 = .ok (.getfield 28, 3) := by decide +kernel
theorem dX8_scanWord_13 : decode cX8_scanWord 13 = .ok (.getfield 35, 3) := by decide +kernel
theorem dX8_scanWord_16 : decode cX8_scanWord 16 = .ok (.if_icmp .ge 57, 3) := by decide +kernel
theorem dX8_scanWord_19 : decode cX8_scanWord 19 = .ok (.aload_n 0, 1) := by decide +kernel
theorem dX8_scanWord_20 : decode cX8_scanWord 20 = .ok (.getfield 28, 3) := by decide +kernel
theorem dX8_scanWord_23 : decode cX8_scanWord 23 = .ok (.aload_n 0, 1) := by decide +kernel
theorem dX8_scanWord_24 : decode cX8_scanWord 24 = .ok (.getfield 9, 3) := by decide +kernel
theorem dX8_scanWord_27 : decode cX8_scanWord 27 = .ok (.invokevirtual 40, 3) := by decide +kernel
theorem dX8_scanWord_30 : decode cX8_scanWord 30 = .ok (.invokestatic 48, 3) := by decide +kernel
theorem dX8_scanWord_33 : decode cX8_scanWord 33 = .ok (.ifCond .eq 40, 3) := by decide +kernel
theorem dX8_scanWord_36 : decode cX8_scanWord 36 = .ok (.aload_n 0, 1) := by decide +kernel
theorem dX8_scanWord_37 : decode cX8_scanWord 37 = .ok (.aload_n 0, 1) := by decide +kernel
theorem dX8_scanWord_38 : decode cX8_scanWord 38 = .ok (.getfield 24, 3) := by decide +kernel
theorem dX8_scanWord_41 : decode cX8_scanWord 41 = .ok (.bipush 8, 2) := by decide +kernel
theorem dX8_scanWord_43 : decode cX8_scanWord 43 = .ok (.lshl, 1) := by decide +kernel
theorem dX8_scanWord_44 : decode cX8_scanWord 44 = .ok (.aload_n 0, 1) := by decide +kernel
theorem dX8_scanWord_45 : decode cX8_scanWord 45 = .ok (.getfield 28, 3) := by decide +kernel
theorem dX8_scanWord_48 : decode cX8_scanWord 48 = .ok (.aload_n 0, 1) := by decide +kernel
theorem dX8_scanWord_49 : decode cX8_scanWord 49 = .ok (.getfield 9, 3) := by decide +kernel
theorem dX8_scanWord_52 : decode cX8_scanWord 52 = .ok (.invokevirtual 40, 3) := by decide +kernel
theorem dX8_scanWord_55 : decode cX8_scanWord 55 = .ok (.i2l, 1) := by decide +kernel
theorem dX8_scanWord_56 : decode cX8_scanWord 56 = .ok (.lor, 1) := by decide +kernel
theorem dX8_scanWord_57 : decode cX8_scanWord 57 = .ok (.putfield 24, 3) := by decide +kernel
theorem dX8_scanWord_60 : decode cX8_scanWord 60 = .ok (.aload_n 0, 1) := by decide +kernel
theorem dX8_scanWord_61 : decode cX8_scanWord 61 = .ok (.dup, 1) := by decide +kernel
theorem dX8_scanWord_62 : decode cX8_scanWord 62 = .ok (.getfield 9, 3) := by decide +kernel
theorem dX8_scanWord_65 : decode cX8_scanWord 65 = .ok (.iconst 1, 1) := by decide +kernel
theorem dX8_scanWord_66 : decode cX8_scanWord 66 = .ok (.iadd, 1) := by decide +kernel
theorem dX8_scanWord_67 : decode cX8_scanWord 67 = .ok (.putfield 9, 3) := by decide +kernel
theorem dX8_scanWord_70 : decode cX8_scanWord 70 = .ok (.goto (-65), 3) := by decide +kernel
theorem dX8_scanWord_73 : decode cX8_scanWord 73 = .ok (.aload_n 0, 1) := by decide +kernel
theorem dX8_scanWord_74 : decode cX8_scanWord 74 = .ok (.aload_n 0, 1) := by decide +kernel
theorem dX8_scanWord_75 : decode cX8_scanWord 75 = .ok (.getfield 9, 3) := by decide +kernel
theorem dX8_scanWord_78 : decode cX8_scanWord 78 = .ok (.aload_n 0, 1) := by decide +kernel
theorem dX8_scanWord_79 : decode cX8_scanWord 79 = .ok (.getfield 18, 3) := by decide +kernel
theorem dX8_scanWord_82 : decode cX8_scanWord 82 = .ok (.isub, 1) := by decide +kernel
theorem dX8_scanWord_83 : decode cX8_scanWord 83 = .ok (.bipush 8, 2) := by decide +kernel
theorem dX8_scanWord_85 : decode cX8_scanWord 85 = .ok (.if_icmp .le 7, 3) := by decide +kernel
theorem dX8_scanWord_88 : decode cX8_scanWord 88 = .ok (.iconst 1, 1) := by decide +kernel
theorem dX8_scanWord_89 : decode cX8_scanWord 89 = .ok (.goto 7, 3) := by decide +kernel
theorem dX8_scanWord_92 : decode cX8_scanWord 92 = .ok (.aload_n 0, 1) := by decide +kernel
theorem dX8_scanWord_93 : decode cX8_scanWord 93 = .ok (.invokevirtual 63, 3) := by decide +kernel
theorem dX8_scanWord_96 : decode cX8_scanWord 96 = .ok (.putfield 15, 3) := by decide +kernel
theorem dX8_scanWord_99 : decode cX8_scanWord 99 = .ok (.return_, 1) := by decide +kernel
theorem dX8_kindOfWord_0 : decode cX8_kindOfWord 0 = .ok (.iconst 0, 1) := by decide +kernel
theorem dX8_kindOfWord_1 : decode cX8_kindOfWord 1 = .ok (.istore_n 1, 1) := by decide +kernel
theorem dX8_kindOfWord_2 : decode cX8_kindOfWord 2 = .ok (.iload_n 1, 1) := by decide +kernel
theorem dX8_kindOfWord_3 : decode cX8_kindOfWord 3 = .ok (.getstatic 67, 3) := by decide +kernel
theorem dX8_kindOfWord_6 : decode cX8_kindOfWord 6 = .ok (.arraylength, 1) := by decide +kernel
theorem dX8_kindOfWord_7 : decode cX8_kindOfWord 7 = .ok (.if_icmp .ge 28, 3) := by decide +kernel
theorem dX8_kindOfWord_10 : decode cX8_kindOfWord 10 = .ok (.getstatic 67, 3) := by decide +kernel
theorem dX8_kindOfWord_13 : decode cX8_kindOfWord 13 = .ok (.iload_n 1, 1) := by decide +kernel
theorem dX8_kindOfWord_14 : decode cX8_kindOfWord 14 = .ok (.laload, 1) := by decide +kernel
theorem dX8_kindOfWord_15 : decode cX8_kindOfWord 15 = .ok (.aload_n 0, 1) := by decide +kernel
theorem dX8_kindOfWord_16 : decode cX8_kindOfWord 16 = .ok (.getfield 24, 3) := by decide +kernel
theorem dX8_kindOfWord_19 : decode cX8_kindOfWord 19 = .ok (.lcmp, 1) := by decide +kernel
theorem dX8_kindOfWord_20 : decode cX8_kindOfWord 20 = .ok (.ifCond .ne 9, 3) := by decide +kernel
theorem dX8_kindOfWord_23 : decode cX8_kindOfWord 23 = .ok (.sipush 200, 3) := by decide +kernel
theorem dX8_kindOfWord_26 : decode cX8_kindOfWord 26 = .ok (.iload_n 1, 1) := by decide +kernel
theorem dX8_kindOfWord_27 : decode cX8_kindOfWord 27 = .ok (.iadd, 1) := by decide +kernel
theorem dX8_kindOfWord_28 : decode cX8_kindOfWord 28 = .ok (.ireturn, 1) := by decide +kernel
theorem dX8_kindOfWord_29 : decode cX8_kindOfWord 29 = .ok (.iinc 1 1, 3) := by decide +kernel
theorem dX8_kindOfWord_32 : decode cX8_kindOfWord 32 = .ok (.goto (-30), 3) := by decide +kernel
theorem dX8_kindOfWord_35 : decode cX8_kindOfWord 35 = .ok (.iconst 2, 1) := by decide +kernel
theorem dX8_kindOfWord_36 : decode cX8_kindOfWord 36 = .ok (.ireturn, 1) := by decide +kernel
theorem dX8_scanNumber_0 : decode cX8_scanNumber 0 = .ok (.aload_n 0, 1) := by decide +kernel
theorem dX8_scanNumber_1 : decode cX8_scanNumber 1 = .ok (.iconst 0, 1) := by decide +kernel
theorem dX8_scanNumber_2 : decode cX8_scanNumber 2 = .ok (.putfield 21, 3) := by decide +kernel
theorem dX8_scanNumber_5 : decode cX8_scanNumber 5 = .ok (.aload_n 0, 1) := by decide +kernel
theorem dX8_scanNumber_6 : decode cX8_scanNumber 6 = .ok (.getfield 9, 3) := by decide +kernel
theorem dX8_scanNumber_9 : decode cX8_scanNumber 9 = .ok (.aload_n 0, 1) := by decide +kernel
theorem dX8_scanNumber_10 : decode cX8_scanNumber 10 = .ok (.getfield 28, 3) := by decide +kernel
theorem dX8_scanNumber_13 : decode cX8_scanNumber 13 = .ok (.getfield 35, 3) := by decide +kernel
theorem dX8_scanNumber_16 : decode cX8_scanNumber 16 = .ok (.if_icmp .ge 59, 3) := by decide +kernel
theorem dX8_scanNumber_19 : decode cX8_scanNumber 19 = .ok (.aload_n 0, 1) := by decide +kernel
theorem dX8_scanNumber_20 : decode cX8_scanNumber 20 = .ok (.getfield 28, 3) := by decide +kernel
theorem dX8_scanNumber_23 : decode cX8_scanNumber 23 = .ok (.aload_n 0, 1) := by decide +kernel
theorem dX8_scanNumber_24 : decode cX8_scanNumber 24 = .ok (.getfield 9, 3) := by decide +kernel
theorem dX8_scanNumber_27 : decode cX8_scanNumber 27 = .ok (.invokevirtual 40, 3) := by decide +kernel
theorem dX8_scanNumber_30 : decode cX8_scanNumber 30 = .ok (.invokestatic 54, 3) := by decide +kernel
theorem dX8_scanNumber_33 : decode cX8_scanNumber 33 = .ok (.ifCond .eq 42, 3) := by decide +kernel
theorem dX8_scanNumber_36 : decode cX8_scanNumber 36 = .ok (.aload_n 0, 1) := by decide +kernel
theorem dX8_scanNumber_37 : decode cX8_scanNumber 37 = .ok (.aload_n 0, 1) := by decide +kernel
theorem dX8_scanNumber_38 : decode cX8_scanNumber 38 = .ok (.getfield 21, 3) := by decide +kernel
theorem dX8_scanNumber_41 : decode cX8_scanNumber 41 = .ok (.bipush 10, 2) := by decide +kernel
theorem dX8_scanNumber_43 : decode cX8_scanNumber 43 = .ok (.imul, 1) := by decide +kernel
theorem dX8_scanNumber_44 : decode cX8_scanNumber 44 = .ok (.aload_n 0, 1) := by decide +kernel
theorem dX8_scanNumber_45 : decode cX8_scanNumber 45 = .ok (.getfield 28, 3) := by decide +kernel
theorem dX8_scanNumber_48 : decode cX8_scanNumber 48 = .ok (.aload_n 0, 1) := by decide +kernel
theorem dX8_scanNumber_49 : decode cX8_scanNumber 49 = .ok (.getfield 9, 3) := by decide +kernel
theorem dX8_scanNumber_52 : decode cX8_scanNumber 52 = .ok (.invokevirtual 40, 3) := by decide +kernel
theorem dX8_scanNumber_55 : decode cX8_scanNumber 55 = .ok (.iadd, 1) := by decide +kernel
theorem dX8_scanNumber_56 : decode cX8_scanNumber 56 = .ok (.bipush 48, 2) := by decide +kernel
theorem dX8_scanNumber_58 : decode cX8_scanNumber 58 = .ok (.isub, 1) := by decide +kernel
theorem dX8_scanNumber_59 : decode cX8_scanNumber 59 = .ok (.putfield 21, 3) := by decide +kernel
theorem dX8_scanNumber_62 : decode cX8_scanNumber 62 = .ok (.aload_n 0, 1) := by decide +kernel
theorem dX8_scanNumber_63 : decode cX8_scanNumber 63 = .ok (.dup, 1) := by decide +kernel
theorem dX8_scanNumber_64 : decode cX8_scanNumber 64 = .ok (.getfield 9, 3) := by decide +kernel
theorem dX8_scanNumber_67 : decode cX8_scanNumber 67 = .ok (.iconst 1, 1) := by decide +kernel
theorem dX8_scanNumber_68 : decode cX8_scanNumber 68 = .ok (.iadd, 1) := by decide +kernel
theorem dX8_scanNumber_69 : decode cX8_scanNumber 69 = .ok (.putfield 9, 3) := by decide +kernel
theorem dX8_scanNumber_72 : decode cX8_scanNumber 72 = .ok (.goto (-67), 3) := by decide +kernel
theorem dX8_scanNumber_75 : decode cX8_scanNumber 75 = .ok (.aload_n 0, 1) := by decide +kernel
theorem dX8_scanNumber_76 : decode cX8_scanNumber 76 = .ok (.getfield 9, 3) := by decide +kernel
theorem dX8_scanNumber_79 : decode cX8_scanNumber 79 = .ok (.aload_n 0, 1) := by decide +kernel
theorem dX8_scanNumber_80 : decode cX8_scanNumber 80 = .ok (.getfield 18, 3) := by decide +kernel
theorem dX8_scanNumber_83 : decode cX8_scanNumber 83 = .ok (.isub, 1) := by decide +kernel
theorem dX8_scanNumber_84 : decode cX8_scanNumber 84 = .ok (.iconst 4, 1) := by decide +kernel
theorem dX8_scanNumber_85 : decode cX8_scanNumber 85 = .ok (.if_icmp .le 7, 3) := by decide +kernel
theorem dX8_scanNumber_88 : decode cX8_scanNumber 88 = .ok (.iconst 1, 1) := by decide +kernel
theorem dX8_scanNumber_89 : decode cX8_scanNumber 89 = .ok (.goto 4, 3) := by decide +kernel
theorem dX8_scanNumber_92 : decode cX8_scanNumber 92 = .ok (.iconst 0, 1) := by decide +kernel
theorem dX8_scanNumber_93 : decode cX8_scanNumber 93 = .ok (.istore_n 1, 1) := by decide +kernel
theorem dX8_scanNumber_94 : decode cX8_scanNumber 94 = .ok (.aload_n 0, 1) := by decide +kernel
theorem dX8_scanNumber_95 : decode cX8_scanNumber 95 = .ok (.iload_n 1, 1) := by decide +kernel
theorem dX8_scanNumber_96 : decode cX8_scanNumber 96 = .ok (.ifCond .ne 20, 3) := by decide +kernel
theorem dX8_scanNumber_99 : decode cX8_scanNumber 99 = .ok (.aload_n 0, 1) := by decide +kernel
theorem dX8_scanNumber_100 : decode cX8_scanNumber 100 = .ok (.getfield 28, 3) := by decide +kernel
theorem dX8_scanNumber_103 : decode cX8_scanNumber 103 = .ok (.aload_n 0, 1) := by decide +kernel
theorem dX8_scanNumber_104 : decode cX8_scanNumber 104 = .ok (.getfield 9, 3) := by decide +kernel
theorem dX8_scanNumber_107 : decode cX8_scanNumber 107 = .ok (.invokevirtual 40, 3) := by decide +kernel
theorem dX8_scanNumber_110 : decode cX8_scanNumber 110 = .ok (.invokestatic 48, 3) := by decide +kernel
theorem dX8_scanNumber_113 : decode cX8_scanNumber 113 = .ok (.ifCond .eq 7, 3) := by decide +kernel
theorem dX8_scanNumber_116 : decode cX8_scanNumber 116 = .ok (.iconst 1, 1) := by decide +kernel
theorem dX8_scanNumber_117 : decode cX8_scanNumber 117 = .ok (.goto 4, 3) := by decide +kernel
theorem dX8_scanNumber_120 : decode cX8_scanNumber 120 = .ok (.iconst 3, 1) := by decide +kernel
theorem dX8_scanNumber_121 : decode cX8_scanNumber 121 = .ok (.putfield 15, 3) := by decide +kernel
theorem dX8_scanNumber_124 : decode cX8_scanNumber 124 = .ok (.return_, 1) := by decide +kernel
theorem dX8_isBlank_0 : decode cX8_isBlank 0 = .ok (.iload_n 0, 1) := by decide +kernel
theorem dX8_isBlank_1 : decode cX8_isBlank 1 = .ok (.bipush 32, 2) := by decide +kernel
theorem dX8_isBlank_3 : decode cX8_isBlank 3 = .ok (.if_icmp .eq 9, 3) := by decide +kernel
theorem dX8_isBlank_6 : decode cX8_isBlank 6 = .ok (.iload_n 0, 1) := by decide +kernel
theorem dX8_isBlank_7 : decode cX8_isBlank 7 = .ok (.bipush 10, 2) := by decide +kernel
theorem dX8_isBlank_9 : decode cX8_isBlank 9 = .ok (.if_icmp .ne 7, 3) := by decide +kernel
theorem dX8_isBlank_12 : decode cX8_isBlank 12 = .ok (.iconst 1, 1) := by decide +kernel
theorem dX8_isBlank_13 : decode cX8_isBlank 13 = .ok (.goto 4, 3) := by decide +kernel
theorem dX8_isBlank_16 : decode cX8_isBlank 16 = .ok (.iconst 0, 1) := by decide +kernel
theorem dX8_isBlank_17 : decode cX8_isBlank 17 = .ok (.ireturn, 1) := by decide +kernel
theorem dX8_isLetter_0 : decode cX8_isLetter 0 = .ok (.iload_n 0, 1) := by decide +kernel
theorem dX8_isLetter_1 : decode cX8_isLetter 1 = .ok (.bipush 97, 2) := by decide +kernel
theorem dX8_isLetter_3 : decode cX8_isLetter 3 = .ok (.if_icmp .lt 13, 3) := by decide +kernel
theorem dX8_isLetter_6 : decode cX8_isLetter 6 = .ok (.iload_n 0, 1) := by decide +kernel
theorem dX8_isLetter_7 : decode cX8_isLetter 7 = .ok (.bipush 122, 2) := by decide +kernel
theorem dX8_isLetter_9 : decode cX8_isLetter 9 = .ok (.if_icmp .gt 7, 3) := by decide +kernel
theorem dX8_isLetter_12 : decode cX8_isLetter 12 = .ok (.iconst 1, 1) := by decide +kernel
theorem dX8_isLetter_13 : decode cX8_isLetter 13 = .ok (.goto 4, 3) := by decide +kernel
theorem dX8_isLetter_16 : decode cX8_isLetter 16 = .ok (.iconst 0, 1) := by decide +kernel
theorem dX8_isLetter_17 : decode cX8_isLetter 17 = .ok (.ireturn, 1) := by decide +kernel
theorem dX8_isDigit_0 : decode cX8_isDigit 0 = .ok (.iload_n 0, 1) := by decide +kernel
theorem dX8_isDigit_1 : decode cX8_isDigit 1 = .ok (.bipush 48, 2) := by decide +kernel
theorem dX8_isDigit_3 : decode cX8_isDigit 3 = .ok (.if_icmp .lt 13, 3) := by decide +kernel
theorem dX8_isDigit_6 : decode cX8_isDigit 6 = .ok (.iload_n 0, 1) := by decide +kernel
theorem dX8_isDigit_7 : decode cX8_isDigit 7 = .ok (.bipush 57, 2) := by decide +kernel
theorem dX8_isDigit_9 : decode cX8_isDigit 9 = .ok (.if_icmp .gt 7, 3) := by decide +kernel
theorem dX8_isDigit_12 : decode cX8_isDigit 12 = .ok (.iconst 1, 1) := by decide +kernel
theorem dX8_isDigit_13 : decode cX8_isDigit 13 = .ok (.goto 4, 3) := by decide +kernel
theorem dX8_isDigit_16 : decode cX8_isDigit 16 = .ok (.iconst 0, 1) := by decide +kernel
theorem dX8_isDigit_17 : decode cX8_isDigit 17 = .ok (.ireturn, 1) := by decide +kernel
theorem dX8_isSign_0 : decode cX8_isSign 0 = .ok (.iload_n 0, 1) := by decide +kernel
theorem dX8_isSign_1 : decode cX8_isSign 1 = .ok (.tableswitch 123 37 62 #[119, 123, 123, 119, 119, 119, 119, 123, 119, 123, 119, 123, 123, 123, 123, 123, 123, 123, 123, 123, 123, 123, 119, 119, 119, 119], 119) := by decide +kernel
theorem dX8_isSign_120 : decode cX8_isSign 120 = .ok (.iconst 1, 1) := by decide +kernel
theorem dX8_isSign_121 : decode cX8_isSign 121 = .ok (.goto 4, 3) := by decide +kernel
theorem dX8_isSign_124 : decode cX8_isSign 124 = .ok (.iconst 0, 1) := by decide +kernel
theorem dX8_isSign_125 : decode cX8_isSign 125 = .ok (.ireturn, 1) := by decide +kernel
theorem dX9_init_0 : decode cX9_init 0 = .ok (.aload_n 0, 1) := by decide +kernel
theorem dX9_init_1 : decode cX9_init 1 = .ok (.invokespecial 3, 3) := by decide +kernel
theorem dX9_init_4 : decode cX9_init 4 = .ok (.aload_n 0, 1) := by decide +kernel
theorem dX9_init_5 : decode cX9_init 5 = .ok (.bipush 6, 2) := by decide +kernel
theorem dX9_init_7 : decode cX9_init 7 = .ok (.newarray .int, 2) := by decide +kernel
theorem dX9_init_9 : decode cX9_init 9 = .ok (.putfield 9, 3) := by decide +kernel
theorem dX9_init_12 : decode cX9_init 12 = .ok (.aload_n 0, 1) := by decide +kernel
theorem dX9_init_13 : decode cX9_init 13 = .ok (.iconst 5, 1) := by decide +kernel
theorem dX9_init_14 : decode cX9_init 14 = .ok (.newarray .int, 2) := by decide +kernel
theorem dX9_init_16 : decode cX9_init 16 = .ok (.putfield 15, 3) := by decide +kernel
theorem dX9_init_19 : decode cX9_init 19 = .ok (.aload_n 0, 1) := by decide +kernel
theorem dX9_init_20 : decode cX9_init 20 = .ok (.bipush 30, 2) := by decide +kernel
theorem dX9_init_22 : decode cX9_init 22 = .ok (.newarray .int, 2) := by decide +kernel
theorem dX9_init_24 : decode cX9_init 24 = .ok (.putfield 18, 3) := by decide +kernel
theorem dX9_init_27 : decode cX9_init 27 = .ok (.aload_n 0, 1) := by decide +kernel
theorem dX9_init_28 : decode cX9_init 28 = .ok (.new 21, 3) := by decide +kernel
theorem dX9_init_31 : decode cX9_init 31 = .ok (.dup, 1) := by decide +kernel
theorem dX9_init_32 : decode cX9_init 32 = .ok (.invokespecial 23, 3) := by decide +kernel
theorem dX9_init_35 : decode cX9_init 35 = .ok (.putfield 24, 3) := by decide +kernel
theorem dX9_init_38 : decode cX9_init 38 = .ok (.aload_n 0, 1) := by decide +kernel
theorem dX9_init_39 : decode cX9_init 39 = .ok (.iconst 0, 1) := by decide +kernel
theorem dX9_init_40 : decode cX9_init 40 = .ok (.putfield 28, 3) := by decide +kernel
theorem dX9_init_43 : decode cX9_init 43 = .ok (.aload_n 0, 1) := by decide +kernel
theorem dX9_init_44 : decode cX9_init 44 = .ok (.iconst 0, 1) := by decide +kernel
theorem dX9_init_45 : decode cX9_init 45 = .ok (.putfield 32, 3) := by decide +kernel
theorem dX9_init_48 : decode cX9_init 48 = .ok (.aload_n 0, 1) := by decide +kernel
theorem dX9_init_49 : decode cX9_init 49 = .ok (.iconst 0, 1) := by decide +kernel
theorem dX9_init_50 : decode cX9_init 50 = .ok (.putfield 35, 3) := by decide +kernel
theorem dX9_init_53 : decode cX9_init 53 = .ok (.aload_n 0, 1) := by decide +kernel
theorem dX9_init_54 : decode cX9_init 54 = .ok (.iconst (-1), 1) := by decide +kernel
theorem dX9_init_55 : decode cX9_init 55 = .ok (.putfield 38, 3) := by decide +kernel
theorem dX9_init_58 : decode cX9_init 58 = .ok (.aload_n 0, 1) := by decide +kernel
theorem dX9_init_59 : decode cX9_init 59 = .ok (.iconst 0, 1) := by decide +kernel
theorem dX9_init_60 : decode cX9_init 60 = .ok (.putfield 41, 3) := by decide +kernel
theorem dX9_init_63 : decode cX9_init 63 = .ok (.aload_n 0, 1) := by decide +kernel
theorem dX9_init_64 : decode cX9_init 64 = .ok (.iconst 0, 1) := by decide +kernel
theorem dX9_init_65 : decode cX9_init 65 = .ok (.putfield 44, 3) := by decide +kernel
theorem dX9_init_68 : decode cX9_init 68 = .ok (.return_, 1) := by decide +kernel
theorem dX9_clear_0 : decode cX9_clear 0 = .ok (.aload_n 0, 1) := by decide +kernel
theorem dX9_clear_1 : decode cX9_clear 1 = .ok (.getfield 18, 3) := by decide +kernel
theorem dX9_clear_4 : decode cX9_clear 4 = .ok (.iconst 0, 1) := by decide +kernel
theorem dX9_clear_5 : decode cX9_clear 5 = .ok (.invokestatic 47, 3) := by decide +kernel
theorem dX9_clear_8 : decode cX9_clear 8 = .ok (.aload_n 0, 1) := by decide +kernel
theorem dX9_clear_9 : decode cX9_clear 9 = .ok (.getfield 24, 3) := by decide +kernel
theorem dX9_clear_12 : decode cX9_clear 12 = .ok (.invokevirtual 53, 3) := by decide +kernel
theorem dX9_clear_15 : decode cX9_clear 15 = .ok (.aload_n 0, 1) := by decide +kernel
theorem dX9_clear_16 : decode cX9_clear 16 = .ok (.iconst 0, 1) := by decide +kernel
theorem dX9_clear_17 : decode cX9_clear 17 = .ok (.putfield 28, 3) := by decide +kernel
theorem dX9_clear_20 : decode cX9_clear 20 = .ok (.aload_n 0, 1) := by decide +kernel
theorem dX9_clear_21 : decode cX9_clear 21 = .ok (.iconst 0, 1) := by decide +kernel
theorem dX9_clear_22 : decode cX9_clear 22 = .ok (.putfield 32, 3) := by decide +kernel
theorem dX9_clear_25 : decode cX9_clear 25 = .ok (.aload_n 0, 1) := by decide +kernel
theorem dX9_clear_26 : decode cX9_clear 26 = .ok (.iconst 0, 1) := by decide +kernel
theorem dX9_clear_27 : decode cX9_clear 27 = .ok (.putfield 35, 3) := by decide +kernel
theorem dX9_clear_30 : decode cX9_clear 30 = .ok (.aload_n 0, 1) := by decide +kernel
theorem dX9_clear_31 : decode cX9_clear 31 = .ok (.iconst (-1), 1) := by decide +kernel
theorem dX9_clear_32 : decode cX9_clear 32 = .ok (.putfield 38, 3) := by decide +kernel
theorem dX9_clear_35 : decode cX9_clear 35 = .ok (.aload_n 0, 1) := by decide +kernel
theorem dX9_clear_36 : decode cX9_clear 36 = .ok (.iconst 0, 1) := by decide +kernel
theorem dX9_clear_37 : decode cX9_clear 37 = .ok (.putfield 41, 3) := by decide +kernel
theorem dX9_clear_40 : decode cX9_clear 40 = .ok (.aload_n 0, 1) := by decide +kernel
theorem dX9_clear_41 : decode cX9_clear 41 = .ok (.iconst 0, 1) := by decide +kernel
theorem dX9_clear_42 : decode cX9_clear 42 = .ok (.putfield 44, 3) := by decide +kernel
theorem dX9_clear_45 : decode cX9_clear 45 = .ok (.return_, 1) := by decide +kernel
theorem dX9_copyFrom_0 : decode cX9_copyFrom 0 = .ok (.aload_n 1, 1) := by decide +kernel
theorem dX9_copyFrom_1 : decode cX9_copyFrom 1 = .ok (.getfield 9, 3) := by decide +kernel
theorem dX9_copyFrom_4 : decode cX9_copyFrom 4 = .ok (.iconst 0, 1) := by decide +kernel
theorem dX9_copyFrom_5 : decode cX9_copyFrom 5 = .ok (.aload_n 0, 1) := by decide +kernel
theorem dX9_copyFrom_6 : decode cX9_copyFrom 6 = .ok (.getfield 9, 3) := by decide +kernel
theorem dX9_copyFrom_9 : decode cX9_copyFrom 9 = .ok (.iconst 0, 1) := by decide +kernel
theorem dX9_copyFrom_10 : decode cX9_copyFrom 10 = .ok (.aload_n 0, 1) := by decide +kernel
theorem dX9_copyFrom_11 : decode cX9_copyFrom 11 = .ok (.getfield 9, 3) := by decide +kernel
theorem dX9_copyFrom_14 : decode cX9_copyFrom 14 = .ok (.arraylength, 1) := by decide +kernel
theorem dX9_copyFrom_15 : decode cX9_copyFrom 15 = .ok (.invokestatic 56, 3) := by decide +kernel
theorem dX9_copyFrom_18 : decode cX9_copyFrom 18 = .ok (.aload_n 1, 1) := by decide +kernel
theorem dX9_copyFrom_19 : decode cX9_copyFrom 19 = .ok (.getfield 15, 3) := by decide +kernel
theorem dX9_copyFrom_22 : decode cX9_copyFrom 22 = .ok (.iconst 0, 1) := by decide +kernel
theorem dX9_copyFrom_23 : decode cX9_copyFrom 23 = .ok (.aload_n 0, 1) := by decide +kernel
theorem dX9_copyFrom_24 : decode cX9_copyFrom 24 = .ok (.getfield 15, 3) := by decide +kernel
theorem dX9_copyFrom_27 : decode cX9_copyFrom 27 = .ok (.iconst 0, 1) := by decide +kernel
theorem dX9_copyFrom_28 : decode cX9_copyFrom 28 = .ok (.aload_n 0, 1) := by decide +kernel
theorem dX9_copyFrom_29 : decode cX9_copyFrom 29 = .ok (.getfield 15, 3) := by decide +kernel
theorem dX9_copyFrom_32 : decode cX9_copyFrom 32 = .ok (.arraylength, 1) := by decide +kernel
theorem dX9_copyFrom_33 : decode cX9_copyFrom 33 = .ok (.invokestatic 56, 3) := by decide +kernel
theorem dX9_copyFrom_36 : decode cX9_copyFrom 36 = .ok (.aload_n 1, 1) := by decide +kernel
theorem dX9_copyFrom_37 : decode cX9_copyFrom 37 = .ok (.getfield 18, 3) := by decide +kernel
theorem dX9_copyFrom_40 : decode cX9_copyFrom 40 = .ok (.iconst 0, 1) := by decide +kernel
theorem dX9_copyFrom_41 : decode cX9_copyFrom 41 = .ok (.aload_n 0, 1) := by decide +kernel
theorem dX9_copyFrom_42 : decode cX9_copyFrom 42 = .ok (.getfield 18, 3) := by decide +kernel
theorem dX9_copyFrom_45 : decode cX9_copyFrom 45 = .ok (.iconst 0, 1) := by decide +kernel
theorem dX9_copyFrom_46 : decode cX9_copyFrom 46 = .ok (.aload_n 0, 1) := by decide +kernel
theorem dX9_copyFrom_47 : decode cX9_copyFrom 47 = .ok (.getfield 18, 3) := by decide +kernel
theorem dX9_copyFrom_50 : decode cX9_copyFrom 50 = .ok (.arraylength, 1) := by decide +kernel
theorem dX9_copyFrom_51 : decode cX9_copyFrom 51 = .ok (.invokestatic 56, 3) := by decide +kernel
theorem dX9_copyFrom_54 : decode cX9_copyFrom 54 = .ok (.aload_n 0, 1) := by decide +kernel
theorem dX9_copyFrom_55 : decode cX9_copyFrom 55 = .ok (.getfield 24, 3) := by decide +kernel
theorem dX9_copyFrom_58 : decode cX9_copyFrom 58 = .ok (.aload_n 1, 1) := by decide +kernel
theorem dX9_copyFrom_59 : decode cX9_copyFrom 59 = .ok (.getfield 24, 3) := by decide +kernel
theorem dX9_copyFrom_62 : decode cX9_copyFrom 62 = .ok (.invokevirtual 62, 3) := by decide +kernel
theorem dX9_copyFrom_65 : decode cX9_copyFrom 65 = .ok (.aload_n 0, 1) := by decide +kernel
theorem dX9_copyFrom_66 : decode cX9_copyFrom 66 = .ok (.aload_n 1, 1) := by decide +kernel
theorem dX9_copyFrom_67 : decode cX9_copyFrom 67 = .ok (.getfield 28, 3) := by decide +kernel
theorem dX9_copyFrom_70 : decode cX9_copyFrom 70 = .ok (.putfield 28, 3) := by decide +kernel
theorem dX9_copyFrom_73 : decode cX9_copyFrom 73 = .ok (.aload_n 0, 1) := by decide +kernel
theorem dX9_copyFrom_74 : decode cX9_copyFrom 74 = .ok (.aload_n 1, 1) := by decide +kernel
theorem dX9_copyFrom_75 : decode cX9_copyFrom 75 = .ok (.getfield 32, 3) := by decide +kernel
theorem dX9_copyFrom_78 : decode cX9_copyFrom 78 = .ok (.putfield 32, 3) := by decide +kernel
theorem dX9_copyFrom_81 : decode cX9_copyFrom 81 = .ok (.aload_n 0, 1) := by decide +kernel
theorem dX9_copyFrom_82 : decode cX9_copyFrom 82 = .ok (.aload_n 1, 1) := by decide +kernel
theorem dX9_copyFrom_83 : decode cX9_copyFrom 83 = .ok (.getfield 35, 3) := by decide +kernel
theorem dX9_copyFrom_86 : decode cX9_copyFrom 86 = .ok (.putfield 35, 3) := by decide +kernel
theorem dX9_copyFrom_89 : decode cX9_copyFrom 89 = .ok (.aload_n 0, 1) := by decide +kernel
theorem dX9_copyFrom_90 : decode cX9_copyFrom 90 = .ok (.aload_n 1, 1) := by decide +kernel
theorem dX9_copyFrom_91 : decode cX9_copyFrom 91 = .ok (.getfield 38, 3) := by decide +kernel
theorem dX9_copyFrom_94 : decode cX9_copyFrom 94 = .ok (.putfield 38, 3) := by decide +kernel
theorem dX9_copyFrom_97 : decode cX9_copyFrom 97 = .ok (.aload_n 0, 1) := by decide +kernel
theorem dX9_copyFrom_98 : decode cX9_copyFrom 98 = .ok (.aload_n 1, 1) := by decide +kernel
theorem dX9_copyFrom_99 : decode cX9_copyFrom 99 = .ok (.getfield 41, 3) := by decide +kernel
theorem dX9_copyFrom_102 : decode cX9_copyFrom 102 = .ok (.putfield 41, 3) := by decide +kernel
theorem dX9_copyFrom_105 : decode cX9_copyFrom 105 = .ok (.aload_n 0, 1) := by decide +kernel
theorem dX9_copyFrom_106 : decode cX9_copyFrom 106 = .ok (.aload_n 1, 1) := by decide +kernel
theorem dX9_copyFrom_107 : decode cX9_copyFrom 107 = .ok (.getfield 44, 3) := by decide +kernel
theorem dX9_copyFrom_110 : decode cX9_copyFrom 110 = .ok (.putfield 44, 3) := by decide +kernel
theorem dX9_copyFrom_113 : decode cX9_copyFrom 113 = .ok (.return_, 1) := by decide +kernel
theorem dX9_begin_0 : decode cX9_begin 0 = .ok (.aload_n 0, 1) := by decide +kernel
theorem dX9_begin_1 : decode cX9_begin 1 = .ok (.getfield 9, 3) := by decide +kernel
theorem dX9_begin_4 : decode cX9_begin 4 = .ok (.iconst 0, 1) := by decide +kernel
theorem dX9_begin_5 : decode cX9_begin 5 = .ok (.aload_n 1, 1) := by decide +kernel
theorem dX9_begin_6 : decode cX9_begin 6 = .ok (.getfield 66, 3) := by decide +kernel
theorem dX9_begin_9 : decode cX9_begin 9 = .ok (.iconst 0, 1) := by decide +kernel
theorem dX9_begin_10 : decode cX9_begin 10 = .ok (.aload_n 0, 1) := by decide +kernel
theorem dX9_begin_11 : decode cX9_begin 11 = .ok (.getfield 9, 3) := by decide +kernel
theorem dX9_begin_14 : decode cX9_begin 14 = .ok (.arraylength, 1) := by decide +kernel
theorem dX9_begin_15 : decode cX9_begin 15 = .ok (.invokestatic 56, 3) := by decide +kernel
theorem dX9_begin_18 : decode cX9_begin 18 = .ok (.aload_n 0, 1) := by decide +kernel
theorem dX9_begin_19 : decode cX9_begin 19 = .ok (.getfield 18, 3) := by decide +kernel
theorem dX9_begin_22 : decode cX9_begin 22 = .ok (.iconst 0, 1) := by decide +kernel
theorem dX9_begin_23 : decode cX9_begin 23 = .ok (.aload_n 1, 1) := by decide +kernel
theorem dX9_begin_24 : decode cX9_begin 24 = .ok (.getfield 69, 3) := by decide +kernel
theorem dX9_begin_27 : decode cX9_begin 27 = .ok (.iconst 0, 1) := by decide +kernel
theorem dX9_begin_28 : decode cX9_begin 28 = .ok (.aload_n 0, 1) := by decide +kernel
theorem dX9_begin_29 : decode cX9_begin 29 = .ok (.getfield 18, 3) := by decide +kernel
theorem dX9_begin_32 : decode cX9_begin 32 = .ok (.arraylength, 1) := by decide +kernel
theorem dX9_begin_33 : decode cX9_begin 33 = .ok (.invokestatic 56, 3) := by decide +kernel
theorem dX9_begin_36 : decode cX9_begin 36 = .ok (.aload_n 1, 1) := by decide +kernel
theorem dX9_begin_37 : decode cX9_begin 37 = .ok (.getfield 70, 3) := by decide +kernel
theorem dX9_begin_40 : decode cX9_begin 40 = .ok (.iconst 0, 1) := by decide +kernel
theorem dX9_begin_41 : decode cX9_begin 41 = .ok (.invokestatic 47, 3) := by decide +kernel
theorem dX9_begin_44 : decode cX9_begin 44 = .ok (.aload_n 1, 1) := by decide +kernel
theorem dX9_begin_45 : decode cX9_begin 45 = .ok (.iconst 1, 1) := by decide +kernel
theorem dX9_begin_46 : decode cX9_begin 46 = .ok (.aload_n 0, 1) := by decide +kernel
theorem dX9_begin_47 : decode cX9_begin 47 = .ok (.getfield 28, 3) := by decide +kernel
theorem dX9_begin_50 : decode cX9_begin 50 = .ok (.ishl, 1) := by decide +kernel
theorem dX9_begin_51 : decode cX9_begin 51 = .ok (.iconst 1, 1) := by decide +kernel
theorem dX9_begin_52 : decode cX9_begin 52 = .ok (.isub, 1) := by decide +kernel
theorem dX9_begin_53 : decode cX9_begin 53 = .ok (.putfield 73, 3) := by decide +kernel
theorem dX9_begin_56 : decode cX9_begin 56 = .ok (.aload_n 1, 1) := by decide +kernel
theorem dX9_begin_57 : decode cX9_begin 57 = .ok (.iconst 0, 1) := by decide +kernel
theorem dX9_begin_58 : decode cX9_begin 58 = .ok (.putfield 76, 3) := by decide +kernel
theorem dX9_begin_61 : decode cX9_begin 61 = .ok (.aload_n 1, 1) := by decide +kernel
theorem dX9_begin_62 : decode cX9_begin 62 = .ok (.aload_n 0, 1) := by decide +kernel
theorem dX9_begin_63 : decode cX9_begin 63 = .ok (.getfield 44, 3) := by decide +kernel
theorem dX9_begin_66 : decode cX9_begin 66 = .ok (.putfield 79, 3) := by decide +kernel
theorem dX9_begin_69 : decode cX9_begin 69 = .ok (.return_, 1) := by decide +kernel
theorem dX9_isPerson_0 : decode cX9_isPerson 0 = .ok (.iload_n 1, 1) := by decide +kernel
theorem dX9_isPerson_1 : decode cX9_isPerson 1 = .ok (.ifCond .lt 15, 3) := by decide +kernel
theorem dX9_isPerson_4 : decode cX9_isPerson 4 = .ok (.iload_n 1, 1) := by decide +kernel
theorem dX9_isPerson_5 : decode cX9_isPerson 5 = .ok (.aload_n 0, 1) := by decide +kernel
theorem dX9_isPerson_6 : decode cX9_isPerson 6 = .ok (.getfield 28, 3) := by decide +kernel
theorem dX9_isPerson_9 : decode cX9_isPerson 9 = .ok (.if_icmp .ge 7, 3) := by decide +kernel
theorem dX9_isPerson_12 : decode cX9_isPerson 12 = .ok (.iconst 1, 1) := by decide +kernel
theorem dX9_isPerson_13 : decode cX9_isPerson 13 = .ok (.goto 4, 3) := by decide +kernel
theorem dX9_isPerson_16 : decode cX9_isPerson 16 = .ok (.iconst 0, 1) := by decide +kernel
theorem dX9_isPerson_17 : decode cX9_isPerson 17 = .ok (.ireturn, 1) := by decide +kernel
theorem dX9_isBell_0 : decode cX9_isBell 0 = .ok (.iload_n 1, 1) := by decide +kernel
theorem dX9_isBell_1 : decode cX9_isBell 1 = .ok (.ifCond .lt 15, 3) := by decide +kernel
theorem dX9_isBell_4 : decode cX9_isBell 4 = .ok (.iload_n 1, 1) := by decide +kernel
theorem dX9_isBell_5 : decode cX9_isBell 5 = .ok (.aload_n 0, 1) := by decide +kernel
theorem dX9_isBell_6 : decode cX9_isBell 6 = .ok (.getfield 32, 3) := by decide +kernel
theorem dX9_isBell_9 : decode cX9_isBell 9 = .ok (.if_icmp .ge 7, 3) := by decide +kernel
theorem dX9_isBell_12 : decode cX9_isBell 12 = .ok (.iconst 1, 1) := by decide +kernel
theorem dX9_isBell_13 : decode cX9_isBell 13 = .ok (.goto 4, 3) := by decide +kernel
theorem dX9_isBell_16 : decode cX9_isBell 16 = .ok (.iconst 0, 1) := by decide +kernel
theorem dX9_isBell_17 : decode cX9_isBell 17 = .ok (.ireturn, 1) := by decide +kernel
theorem dX9_isPair_0 : decode cX9_isPair 0 = .ok (.aload_n 0, 1) := by decide +kernel
theorem dX9_isPair_1 : decode cX9_isPair 1 = .ok (.iload_n 1, 1) := by decide +kernel
theorem dX9_isPair_2 : decode cX9_isPair 2 = .ok (.invokevirtual 82, 3) := by decide +kernel
theorem dX9_isPair_5 : decode cX9_isPair 5 = .ok (.ifCond .eq 15, 3) := by decide +kernel
theorem dX9_isPair_8 : decode cX9_isPair 8 = .ok (.aload_n 0, 1) := by decide +kernel
theorem dX9_isPair_9 : decode cX9_isPair 9 = .ok (.iload_n 2, 1) := by decide +kernel
theorem dX9_isPair_10 : decode cX9_isPair 10 = .ok (.invokevirtual 86, 3) := by decide +kernel
theorem dX9_isPair_13 : decode cX9_isPair 13 = .ok (.ifCond .eq 7, 3) := by decide +kernel
theorem dX9_isPair_16 : decode cX9_isPair 16 = .ok (.iconst 1, 1) := by decide +kernel
theorem dX9_isPair_17 : decode cX9_isPair 17 = .ok (.goto 4, 3) := by decide +kernel
theorem dX9_isPair_20 : decode cX9_isPair 20 = .ok (.iconst 0, 1) := by decide +kernel
theorem dX9_isPair_21 : decode cX9_isPair 21 = .ok (.ireturn, 1) := by decide +kernel
theorem dX10_init_0 : decode cX10_init 0 = .ok (.aload_n 0, 1) := by decide +kernel
theorem dX10_init_1 : decode cX10_init 1 = .ok (.invokespecial 5, 3) := by decide +kernel
theorem dX10_init_4 : decode cX10_init 4 = .ok (.aload_n 0, 1) := by decide +kernel
theorem dX10_init_5 : decode cX10_init 5 = .ok (.new 11, 3) := by decide +kernel
theorem dX10_init_8 : decode cX10_init 8 = .ok (.dup, 1) := by decide +kernel
theorem dX10_init_9 : decode cX10_init 9 = .ok (.invokespecial 13, 3) := by decide +kernel
theorem dX10_init_12 : decode cX10_init 12 = .ok (.putfield 14, 3) := by decide +kernel
theorem dX10_init_15 : decode cX10_init 15 = .ok (.aload_n 0, 1) := by decide +kernel
theorem dX10_init_16 : decode cX10_init 16 = .ok (.bipush 30, 2) := by decide +kernel
theorem dX10_init_18 : decode cX10_init 18 = .ok (.newarray .int, 2) := by decide +kernel
theorem dX10_init_20 : decode cX10_init 20 = .ok (.putfield 20, 3) := by decide +kernel
theorem dX10_init_23 : decode cX10_init 23 = .ok (.aload_n 0, 1) := by decide +kernel
theorem dX10_init_24 : decode cX10_init 24 = .ok (.bipush 30, 2) := by decide +kernel
theorem dX10_init_26 : decode cX10_init 26 = .ok (.newarray .int, 2) := by decide +kernel
theorem dX10_init_28 : decode cX10_init 28 = .ok (.putfield 24, 3) := by decide +kernel
theorem dX10_init_31 : decode cX10_init 31 = .ok (.aload_n 0, 1) := by decide +kernel
theorem dX10_init_32 : decode cX10_init 32 = .ok (.bipush 30, 2) := by decide +kernel
theorem dX10_init_34 : decode cX10_init 34 = .ok (.newarray .int, 2) := by decide +kernel
theorem dX10_init_36 : decode cX10_init 36 = .ok (.putfield 27, 3) := by decide +kernel
theorem dX10_init_39 : decode cX10_init 39 = .ok (.aload_n 0, 1) := by decide +kernel
theorem dX10_init_40 : decode cX10_init 40 = .ok (.bipush 30, 2) := by decide +kernel
theorem dX10_init_42 : decode cX10_init 42 = .ok (.newarray .boolean, 2) := by decide +kernel
theorem dX10_init_44 : decode cX10_init 44 = .ok (.putfield 30, 3) := by decide +kernel
theorem dX10_init_47 : decode cX10_init 47 = .ok (.aload_n 0, 1) := by decide +kernel
theorem dX10_init_48 : decode cX10_init 48 = .ok (.bipush 30, 2) := by decide +kernel
theorem dX10_init_50 : decode cX10_init 50 = .ok (.newarray .int, 2) := by decide +kernel
theorem dX10_init_52 : decode cX10_init 52 = .ok (.putfield 34, 3) := by decide +kernel
theorem dX10_init_55 : decode cX10_init 55 = .ok (.aload_n 0, 1) := by decide +kernel
theorem dX10_init_56 : decode cX10_init 56 = .ok (.bipush 30, 2) := by decide +kernel
theorem dX10_init_58 : decode cX10_init 58 = .ok (.newarray .int, 2) := by decide +kernel
theorem dX10_init_60 : decode cX10_init 60 = .ok (.putfield 37, 3) := by decide +kernel
theorem dX10_init_63 : decode cX10_init 63 = .ok (.aload_n 0, 1) := by decide +kernel
theorem dX10_init_64 : decode cX10_init 64 = .ok (.bipush 35, 2) := by decide +kernel
theorem dX10_init_66 : decode cX10_init 66 = .ok (.newarray .int, 2) := by decide +kernel
theorem dX10_init_68 : decode cX10_init 68 = .ok (.putfield 40, 3) := by decide +kernel
theorem dX10_init_71 : decode cX10_init 71 = .ok (.aload_n 0, 1) := by decide +kernel
theorem dX10_init_72 : decode cX10_init 72 = .ok (.iconst 0, 1) := by decide +kernel
theorem dX10_init_73 : decode cX10_init 73 = .ok (.putfield 43, 3) := by decide +kernel
theorem dX10_init_76 : decode cX10_init 76 = .ok (.aload_n 0, 1) := by decide +kernel
theorem dX10_init_77 : decode cX10_init 77 = .ok (.iconst 0, 1) := by decide +kernel
theorem dX10_init_78 : decode cX10_init 78 = .ok (.putfield 47, 3) := by decide +kernel
theorem dX10_init_81 : decode cX10_init 81 = .ok (.aload_n 0, 1) := by decide +kernel
theorem dX10_init_82 : decode cX10_init 82 = .ok (.aload_n 1, 1) := by decide +kernel
theorem dX10_init_83 : decode cX10_init 83 = .ok (.putfield 50, 3) := by decide +kernel
theorem dX10_init_86 : decode cX10_init 86 = .ok (.aload_n 0, 1) := by decide +kernel
theorem dX10_init_87 : decode cX10_init 87 = .ok (.aload_n 2, 1) := by decide +kernel
theorem dX10_init_88 : decode cX10_init 88 = .ok (.putfield 54, 3) := by decide +kernel
theorem dX10_init_91 : decode cX10_init 91 = .ok (.return_, 1) := by decide +kernel
theorem dX10_forget_0 : decode cX10_forget 0 = .ok (.aload_n 0, 1) := by decide +kernel
theorem dX10_forget_1 : decode cX10_forget 1 = .ok (.iconst 0, 1) := by decide +kernel
theorem dX10_forget_2 : decode cX10_forget 2 = .ok (.putfield 43, 3) := by decide +kernel
theorem dX10_forget_5 : decode cX10_forget 5 = .ok (.return_, 1) := by decide +kernel
theorem dX10_add_0 : decode cX10_add 0 = .ok (.aload_n 0, 1) := by decide +kernel
theorem dX10_add_1 : decode cX10_add 1 = .ok (.getfield 43, 3) := by decide +kernel
theorem dX10_add_4 : decode cX10_add 4 = .ok (.bipush 30, 2) := by decide +kernel
theorem dX10_add_6 : decode cX10_add 6 = .ok (.if_icmp .lt 5, 3) := by decide +kernel
theorem dX10_add_9 : decode cX10_add 9 = .ok (.iconst (-1), 1) := by decide +kernel
theorem dX10_add_10 : decode cX10_add 10 = .ok (.ireturn, 1) := by decide +kernel
theorem dX10_add_11 : decode cX10_add 11 = .ok (.aload_n 0, 1) := by decide +kernel
theorem dX10_add_12 : decode cX10_add 12 = .ok (.getfield 20, 3) := by decide +kernel
theorem dX10_add_15 : decode cX10_add 15 = .ok (.aload_n 0, 1) := by decide +kernel
theorem dX10_add_16 : decode cX10_add 16 = .ok (.getfield 43, 3) := by decide +kernel
theorem dX10_add_19 : decode cX10_add 19 = .ok (.iload_n 1, 1) := by decide +kernel
theorem dX10_add_20 : decode cX10_add 20 = .ok (.iastore, 1) := by decide +kernel
theorem dX10_add_21 : decode cX10_add 21 = .ok (.aload_n 0, 1) := by decide +kernel
theorem dX10_add_22 : decode cX10_add 22 = .ok (.getfield 24, 3) := by decide +kernel
theorem dX10_add_25 : decode cX10_add 25 = .ok (.aload_n 0, 1) := by decide +kernel
theorem dX10_add_26 : decode cX10_add 26 = .ok (.getfield 43, 3) := by decide +kernel
theorem dX10_add_29 : decode cX10_add 29 = .ok (.iload_n 2, 1) := by decide +kernel
theorem dX10_add_30 : decode cX10_add 30 = .ok (.iastore, 1) := by decide +kernel
theorem dX10_add_31 : decode cX10_add 31 = .ok (.aload_n 0, 1) := by decide +kernel
theorem dX10_add_32 : decode cX10_add 32 = .ok (.getfield 27, 3) := by decide +kernel
theorem dX10_add_35 : decode cX10_add 35 = .ok (.aload_n 0, 1) := by decide +kernel
theorem dX10_add_36 : decode cX10_add 36 = .ok (.getfield 43, 3) := by decide +kernel
theorem dX10_add_39 : decode cX10_add 39 = .ok (.iload_n 3, 1) := by decide +kernel
theorem dX10_add_40 : decode cX10_add 40 = .ok (.iastore, 1) := by decide +kernel
theorem dX10_add_41 : decode cX10_add 41 = .ok (.aload_n 0, 1) := by decide +kernel
theorem dX10_add_42 : decode cX10_add 42 = .ok (.getfield 30, 3) := by decide +kernel
theorem dX10_add_45 : decode cX10_add 45 = .ok (.aload_n 0, 1) := by decide +kernel
theorem dX10_add_46 : decode cX10_add 46 = .ok (.getfield 43, 3) := by decide +kernel
theorem dX10_add_49 : decode cX10_add 49 = .ok (.iload 4, 2) := by decide +kernel
theorem dX10_add_51 : decode cX10_add 51 = .ok (.bastore, 1) := by decide +kernel
theorem dX10_add_52 : decode cX10_add 52 = .ok (.aload_n 0, 1) := by decide +kernel
theorem dX10_add_53 : decode cX10_add 53 = .ok (.getfield 34, 3) := by decide +kernel
theorem dX10_add_56 : decode cX10_add 56 = .ok (.aload_n 0, 1) := by decide +kernel
theorem dX10_add_57 : decode cX10_add 57 = .ok (.getfield 43, 3) := by decide +kernel
theorem dX10_add_60 : decode cX10_add 60 = .ok (.aload_n 0, 1) := by decide +kernel
theorem dX10_add_61 : decode cX10_add 61 = .ok (.getfield 47, 3) := by decide +kernel
theorem dX10_add_64 : decode cX10_add 64 = .ok (.iastore, 1) := by decide +kernel
theorem dX10_add_65 : decode cX10_add 65 = .ok (.aload_n 0, 1) := by decide +kernel
theorem dX10_add_66 : decode cX10_add 66 = .ok (.getfield 37, 3) := by decide +kernel
theorem dX10_add_69 : decode cX10_add 69 = .ok (.aload_n 0, 1) := by decide +kernel
theorem dX10_add_70 : decode cX10_add 70 = .ok (.getfield 43, 3) := by decide +kernel
theorem dX10_add_73 : decode cX10_add 73 = .ok (.ldc 58, 2) := by decide +kernel
theorem dX10_add_75 : decode cX10_add 75 = .ok (.iastore, 1) := by decide +kernel
theorem dX10_add_76 : decode cX10_add 76 = .ok (.aload_n 0, 1) := by decide +kernel
theorem dX10_add_77 : decode cX10_add 77 = .ok (.dup, 1) := by decide +kernel
theorem dX10_add_78 : decode cX10_add 78 = .ok (.getfield 43, 3) := by decide +kernel
theorem dX10_add_81 : decode cX10_add 81 = .ok (.iconst 1, 1) := by decide +kernel
theorem dX10_add_82 : decode cX10_add 82 = .ok (.iadd, 1) := by decide +kernel
theorem dX10_add_83 : decode cX10_add 83 = .ok (.putfield 43, 3) := by decide +kernel
theorem dX10_add_86 : decode cX10_add 86 = .ok (.aload_n 0, 1) := by decide +kernel
theorem dX10_add_87 : decode cX10_add 87 = .ok (.getfield 43, 3) := by decide +kernel
theorem dX10_add_90 : decode cX10_add 90 = .ok (.iconst 1, 1) := by decide +kernel
theorem dX10_add_91 : decode cX10_add 91 = .ok (.isub, 1) := by decide +kernel
theorem dX10_add_92 : decode cX10_add 92 = .ok (.ireturn, 1) := by decide +kernel
theorem dX10_takeOut_0 : decode cX10_takeOut 0 = .ok (.iload_n 1, 1) := by decide +kernel
theorem dX10_takeOut_1 : decode cX10_takeOut 1 = .ok (.ifCond .lt 22, 3) := by decide +kernel
theorem dX10_takeOut_4 : decode cX10_takeOut 4 = .ok (.iload_n 1, 1) := by decide +kernel
theorem dX10_takeOut_5 : decode cX10_takeOut 5 = .ok (.aload_n 0, 1) := by decide +kernel
theorem dX10_takeOut_6 : decode cX10_takeOut 6 = .ok (.getfield 43, 3) := by decide +kernel
theorem dX10_takeOut_9 : decode cX10_takeOut 9 = .ok (.if_icmp .ge 14, 3) := by decide +kernel
theorem dX10_takeOut_12 : decode cX10_takeOut 12 = .ok (.aload_n 0, 1) := by decide +kernel
theorem dX10_takeOut_13 : decode cX10_takeOut 13 = .ok (.getfield 37, 3) := by decide +kernel
theorem dX10_takeOut_16 : decode cX10_takeOut 16 = .ok (.iload_n 1, 1) := by decide +kernel
theorem dX10_takeOut_17 : decode cX10_takeOut 17 = .ok (.iaload, 1) := by decide +kernel
theorem dX10_takeOut_18 : decode cX10_takeOut 18 = .ok (.ldc 58, 2) := by decide +kernel
theorem dX10_takeOut_20 : decode cX10_takeOut 20 = .ok (.if_icmp .eq 5, 3) := by decide +kernel
theorem dX10_takeOut_23 : decode cX10_takeOut 23 = .ok (.iconst 0, 1) := by decide +kernel
theorem dX10_takeOut_24 : decode cX10_takeOut 24 = .ok (.ireturn, 1) := by decide +kernel
theorem dX10_takeOut_25 : decode cX10_takeOut 25 = .ok (.aload_n 0, 1) := by decide +kernel
theorem dX10_takeOut_26 : decode cX10_takeOut 26 = .ok (.getfield 37, 3) := by decide +kernel
theorem dX10_takeOut_29 : decode cX10_takeOut 29 = .ok (.iload_n 1, 1) := by decide +kernel
theorem dX10_takeOut_30 : decode cX10_takeOut 30 = .ok (.aload_n 0, 1) := by decide +kernel
theorem dX10_takeOut_31 : decode cX10_takeOut 31 = .ok (.getfield 47, 3) := by decide +kernel
theorem dX10_takeOut_34 : decode cX10_takeOut 34 = .ok (.iastore, 1) := by decide +kernel
theorem dX10_takeOut_35 : decode cX10_takeOut 35 = .ok (.iconst 1, 1) := by decide +kernel
theorem dX10_takeOut_36 : decode cX10_takeOut 36 = .ok (.ireturn, 1) := by decide +kernel
theorem dX10_counts_0 : decode cX10_counts 0 = .ok (.aload_n 0, 1) := by decide +kernel
theorem dX10_counts_1 : decode cX10_counts 1 = .ok (.getfield 34, 3) := by decide +kernel
theorem dX10_counts_4 : decode cX10_counts 4 = .ok (.iload_n 1, 1) := by decide +kernel
theorem dX10_counts_5 : decode cX10_counts 5 = .ok (.iaload, 1) := by decide +kernel
theorem dX10_counts_6 : decode cX10_counts 6 = .ok (.iload_n 2, 1) := by decide +kernel
theorem dX10_counts_7 : decode cX10_counts 7 = .ok (.if_icmp .gt 28, 3) := by decide +kernel
theorem dX10_counts_10 : decode cX10_counts 10 = .ok (.aload_n 0, 1) := by decide +kernel
theorem dX10_counts_11 : decode cX10_counts 11 = .ok (.getfield 37, 3) := by decide +kernel
theorem dX10_counts_14 : decode cX10_counts 14 = .ok (.iload_n 1, 1) := by decide +kernel
theorem dX10_counts_15 : decode cX10_counts 15 = .ok (.iaload, 1) := by decide +kernel
theorem dX10_counts_16 : decode cX10_counts 16 = .ok (.ldc 58, 2) := by decide +kernel
theorem dX10_counts_18 : decode cX10_counts 18 = .ok (.if_icmp .eq 13, 3) := by decide +kernel
theorem dX10_counts_21 : decode cX10_counts 21 = .ok (.aload_n 0, 1) := by decide +kernel
theorem dX10_counts_22 : decode cX10_counts 22 = .ok (.getfield 37, 3) := by decide +kernel
theorem dX10_counts_25 : decode cX10_counts 25 = .ok (.iload_n 1, 1) := by decide +kernel
theorem dX10_counts_26 : decode cX10_counts 26 = .ok (.iaload, 1) := by decide +kernel
theorem dX10_counts_27 : decode cX10_counts 27 = .ok (.iload_n 2, 1) := by decide +kernel
theorem dX10_counts_28 : decode cX10_counts 28 = .ok (.if_icmp .le 7, 3) := by decide +kernel
theorem dX10_counts_31 : decode cX10_counts 31 = .ok (.iconst 1, 1) := by decide +kernel
theorem dX10_counts_32 : decode cX10_counts 32 = .ok (.goto 4, 3) := by decide +kernel
theorem dX10_counts_35 : decode cX10_counts 35 = .ok (.iconst 0, 1) := by decide +kernel
theorem dX10_counts_36 : decode cX10_counts 36 = .ok (.ireturn, 1) := by decide +kernel
theorem dX10_fitting_0 : decode cX10_fitting 0 = .ok (.aload_n 0, 1) := by decide +kernel
theorem dX10_fitting_1 : decode cX10_fitting 1 = .ok (.getfield 50, 3) := by decide +kernel
theorem dX10_fitting_4 : decode cX10_fitting 4 = .ok (.getfield 59, 3) := by decide +kernel
theorem dX10_fitting_7 : decode cX10_fitting 7 = .ok (.ifCond .ne 5, 3) := by decide +kernel
theorem dX10_fitting_10 : decode cX10_fitting 10 = .ok (.iconst 0, 1) := by decide +kernel
theorem dX10_fitting_11 : decode cX10_fitting 11 = .ok (.ireturn, 1) := by decide +kernel
theorem dX10_fitting_12 : decode cX10_fitting 12 = .ok (.iconst 0, 1) := by decide +kernel
theorem dX10_fitting_13 : decode cX10_fitting 13 = .ok (.istore_n 2, 1) := by decide +kernel
theorem dX10_fitting_14 : decode cX10_fitting 14 = .ok (.iconst 0, 1) := by decide +kernel
theorem dX10_fitting_15 : decode cX10_fitting 15 = .ok (.istore_n 3, 1) := by decide +kernel
theorem dX10_fitting_16 : decode cX10_fitting 16 = .ok (.iload_n 3, 1) := by decide +kernel
theorem dX10_fitting_17 : decode cX10_fitting 17 = .ok (.aload_n 0, 1) := by decide +kernel
theorem dX10_fitting_18 : decode cX10_fitting 18 = .ok (.getfield 43, 3) := by decide +kernel
theorem dX10_fitting_21 : decode cX10_fitting 21 = .ok (.if_icmp .ge 29, 3) := by decide +kernel
theorem dX10_fitting_24 : decode cX10_fitting 24 = .ok (.aload_n 0, 1) := by decide +kernel
theorem dX10_fitting_25 : decode cX10_fitting 25 = .ok (.iload_n 3, 1) := by decide +kernel
theorem dX10_fitting_26 : decode cX10_fitting 26 = .ok (.iload_n 1, 1) := by decide +kernel
theorem dX10_fitting_27 : decode cX10_fitting 27 = .ok (.invokevirtual 64, 3) := by decide +kernel
theorem dX10_fitting_30 : decode cX10_fitting 30 = .ok (.ifCond .eq 14, 3) := by decide +kernel
theorem dX10_fitting_33 : decode cX10_fitting 33 = .ok (.iload_n 2, 1) := by decide +kernel
theorem dX10_fitting_34 : decode cX10_fitting 34 = .ok (.aload_n 0, 1) := by decide +kernel
theorem dX10_fitting_35 : decode cX10_fitting 35 = .ok (.getfield 20, 3) := by decide +kernel
theorem dX10_fitting_38 : decode cX10_fitting 38 = .ok (.iload_n 3, 1) := by decide +kernel
theorem dX10_fitting_39 : decode cX10_fitting 39 = .ok (.iaload, 1) := by decide +kernel
theorem dX10_fitting_40 : decode cX10_fitting 40 = .ok (.invokestatic 68, 3) := by decide +kernel
theorem dX10_fitting_43 : decode cX10_fitting 43 = .ok (.istore_n 2, 1) := by decide +kernel
theorem dX10_fitting_44 : decode cX10_fitting 44 = .ok (.iinc 3 1, 3) := by decide +kernel
theorem dX10_fitting_47 : decode cX10_fitting 47 = .ok (.goto (-31), 3) := by decide +kernel
theorem dX10_fitting_50 : decode cX10_fitting 50 = .ok (.iconst 0, 1) := by decide +kernel
theorem dX10_fitting_51 : decode cX10_fitting 51 = .ok (.istore_n 3, 1) := by decide +kernel
theorem dX10_fitting_52 : decode cX10_fitting 52 = .ok (.iconst 0, 1) := by decide +kernel
theorem dX10_fitting_53 : decode cX10_fitting 53 = .ok (.istore 4, 2) := by decide +kernel
theorem dX10_fitting_55 : decode cX10_fitting 55 = .ok (.iload 4, 2) := by decide +kernel
theorem dX10_fitting_57 : decode cX10_fitting 57 = .ok (.bipush 20, 2) := by decide +kernel
theorem dX10_fitting_59 : decode cX10_fitting 59 = .ok (.if_icmp .gt 27, 3) := by decide +kernel
theorem dX10_fitting_62 : decode cX10_fitting 62 = .ok (.aload_n 0, 1) := by decide +kernel
theorem dX10_fitting_63 : decode cX10_fitting 63 = .ok (.iload 4, 2) := by decide +kernel
theorem dX10_fitting_65 : decode cX10_fitting 65 = .ok (.iload_n 2, 1) := by decide +kernel
theorem dX10_fitting_66 : decode cX10_fitting 66 = .ok (.iload_n 1, 1) := by decide +kernel
theorem dX10_fitting_67 : decode cX10_fitting 67 = .ok (.invokevirtual 74, 3) := by decide +kernel
theorem dX10_fitting_70 : decode cX10_fitting 70 = .ok (.ifCond .eq 10, 3) := by decide +kernel
theorem dX10_fitting_73 : decode cX10_fitting 73 = .ok (.iload_n 3, 1) := by decide +kernel
theorem dX10_fitting_74 : decode cX10_fitting 74 = .ok (.iconst 1, 1) := by decide +kernel
theorem dX10_fitting_75 : decode cX10_fitting 75 = .ok (.iload 4, 2) := by decide +kernel
theorem dX10_fitting_77 : decode cX10_fitting 77 = .ok (.ishl, 1) := by decide +kernel
theorem dX10_fitting_78 : decode cX10_fitting 78 = .ok (.ior, 1) := by decide +kernel
theorem dX10_fitting_79 : decode cX10_fitting 79 = .ok (.istore_n 3, 1) := by decide +kernel
theorem dX10_fitting_80 : decode cX10_fitting 80 = .ok (.iinc 4 1, 3) := by decide +kernel
theorem dX10_fitting_83 : decode cX10_fitting 83 = .ok (.goto (-28), 3) := by decide +kernel
theorem dX10_fitting_86 : decode cX10_fitting 86 = .ok (.iload_n 3, 1) := by decide +kernel
theorem dX10_fitting_87 : decode cX10_fitting 87 = .ok (.ireturn, 1) := by decide +kernel
theorem dX10_least_0 : decode cX10_least 0 = .ok (.iconst 0, 1) := by decide +kernel
theorem dX10_least_1 : decode cX10_least 1 = .ok (.istore_n 2, 1) := by decide +kernel
theorem dX10_least_2 : decode cX10_least 2 = .ok (.iload_n 2, 1) := by decide +kernel
theorem dX10_least_3 : decode cX10_least 3 = .ok (.bipush 20, 2) := by decide +kernel
theorem dX10_least_5 : decode cX10_least 5 = .ok (.if_icmp .ge 17, 3) := by decide +kernel
theorem dX10_least_8 : decode cX10_least 8 = .ok (.iload_n 1, 1) := by decide +kernel
theorem dX10_least_9 : decode cX10_least 9 = .ok (.iload_n 2, 1) := by decide +kernel
theorem dX10_least_10 : decode cX10_least 10 = .ok (.ishr, 1) := by decide +kernel
theorem dX10_least_11 : decode cX10_least 11 = .ok (.iconst 1, 1) := by decide +kernel
theorem dX10_least_12 : decode cX10_least 12 = .ok (.iand, 1) := by decide +kernel
theorem dX10_least_13 : decode cX10_least 13 = .ok (.ifCond .ne 9, 3) := by decide +kernel
theorem dX10_least_16 : decode cX10_least 16 = .ok (.iinc 2 1, 3) := by decide +kernel
theorem dX10_least_19 : decode cX10_least 19 = .ok (.goto (-17), 3) := by decide +kernel
theorem dX10_least_22 : decode cX10_least 22 = .ok (.iload_n 2, 1) := by decide +kernel
theorem dX10_least_23 : decode cX10_least 23 = .ok (.ireturn, 1) := by decide +kernel
theorem dX10_greatest_0 : decode cX10_greatest 0 = .ok (.bipush 20, 2) := by decide +kernel
theorem dX10_greatest_2 : decode cX10_greatest 2 = .ok (.istore_n 2, 1) := by decide +kernel
theorem dX10_greatest_3 : decode cX10_greatest 3 = .ok (.iload_n 2, 1) := by decide +kernel
theorem dX10_greatest_4 : decode cX10_greatest 4 = .ok (.ifCond .le 17, 3) := by decide +kernel
theorem dX10_greatest_7 : decode cX10_greatest 7 = .ok (.iload_n 1, 1) := by decide +kernel
theorem dX10_greatest_8 : decode cX10_greatest 8 = .ok (.iload_n 2, 1) := by decide +kernel
theorem dX10_greatest_9 : decode cX10_greatest 9 = .ok (.ishr, 1) := by decide +kernel
theorem dX10_greatest_10 : decode cX10_greatest 10 = .ok (.iconst 1, 1) := by decide +kernel
theorem dX10_greatest_11 : decode cX10_greatest 11 = .ok (.iand, 1) := by decide +kernel
theorem dX10_greatest_12 : decode cX10_greatest 12 = .ok (.ifCond .ne 9, 3) := by decide +kernel
theorem dX10_greatest_15 : decode cX10_greatest 15 = .ok (.iinc 2 (-1), 3) := by decide +kernel
theorem dX10_greatest_18 : decode cX10_greatest 18 = .ok (.goto (-15), 3) := by decide +kernel
theorem dX10_greatest_21 : decode cX10_greatest 21 = .ok (.iload_n 2, 1) := by decide +kernel
theorem dX10_greatest_22 : decode cX10_greatest 22 = .ok (.ireturn, 1) := by decide +kernel
theorem dX10_holds_0 : decode cX10_holds 0 = .ok (.aload_n 0, 1) := by decide +kernel
theorem dX10_holds_1 : decode cX10_holds 1 = .ok (.iload_n 1, 1) := by decide +kernel
theorem dX10_holds_2 : decode cX10_holds 2 = .ok (.invokevirtual 78, 3) := by decide +kernel
theorem dX10_holds_5 : decode cX10_holds 5 = .ok (.iconst 1, 1) := by decide +kernel
theorem dX10_holds_6 : decode cX10_holds 6 = .ok (.istore 4, 2) := by decide +kernel
theorem dX10_holds_8 : decode cX10_holds 8 = .ok (.iload 4, 2) := by decide +kernel
theorem dX10_holds_10 : decode cX10_holds 10 = .ok (.iload_n 2, 1) := by decide +kernel
theorem dX10_holds_11 : decode cX10_holds 11 = .ok (.if_icmp .gt 116, 3) := by decide +kernel
theorem dX10_holds_14 : decode cX10_holds 14 = .ok (.aload_n 0, 1) := by decide +kernel
theorem dX10_holds_15 : decode cX10_holds 15 = .ok (.getfield 54, 3) := by decide +kernel
theorem dX10_holds_18 : decode cX10_holds 18 = .ok (.aload_n 0, 1) := by decide +kernel
theorem dX10_holds_19 : decode cX10_holds 19 = .ok (.getfield 14, 3) := by decide +kernel
theorem dX10_holds_22 : decode cX10_holds 22 = .ok (.iconst 0, 1) := by decide +kernel
theorem dX10_holds_23 : decode cX10_holds 23 = .ok (.invokevirtual 82, 3) := by decide +kernel
theorem dX10_holds_26 : decode cX10_holds 26 = .ok (.pop, 1) := by decide +kernel
theorem dX10_holds_27 : decode cX10_holds 27 = .ok (.iconst 0, 1) := by decide +kernel
theorem dX10_holds_28 : decode cX10_holds 28 = .ok (.istore 5, 2) := by decide +kernel
theorem dX10_holds_30 : decode cX10_holds 30 = .ok (.iload 5, 2) := by decide +kernel
theorem dX10_holds_32 : decode cX10_holds 32 = .ok (.aload_n 0, 1) := by decide +kernel
theorem dX10_holds_33 : decode cX10_holds 33 = .ok (.getfield 43, 3) := by decide +kernel
theorem dX10_holds_36 : decode cX10_holds 36 = .ok (.if_icmp .ge 85, 3) := by decide +kernel
theorem dX10_holds_39 : decode cX10_holds 39 = .ok (.aload_n 0, 1) := by decide +kernel
theorem dX10_holds_40 : decode cX10_holds 40 = .ok (.getfield 20, 3) := by decide +kernel
theorem dX10_holds_43 : decode cX10_holds 43 = .ok (.iload 5, 2) := by decide +kernel
theorem dX10_holds_45 : decode cX10_holds 45 = .ok (.iaload, 1) := by decide +kernel
theorem dX10_holds_46 : decode cX10_holds 46 = .ok (.iload 4, 2) := by decide +kernel
theorem dX10_holds_48 : decode cX10_holds 48 = .ok (.if_icmp .ne 17, 3) := by decide +kernel
theorem dX10_holds_51 : decode cX10_holds 51 = .ok (.aload_n 0, 1) := by decide +kernel
theorem dX10_holds_52 : decode cX10_holds 52 = .ok (.iload 5, 2) := by decide +kernel
theorem dX10_holds_54 : decode cX10_holds 54 = .ok (.iload_n 3, 1) := by decide +kernel
theorem dX10_holds_55 : decode cX10_holds 55 = .ok (.invokevirtual 64, 3) := by decide +kernel
theorem dX10_holds_58 : decode cX10_holds 58 = .ok (.ifCond .eq 7, 3) := by decide +kernel
theorem dX10_holds_61 : decode cX10_holds 61 = .ok (.iconst 1, 1) := by decide +kernel
theorem dX10_holds_62 : decode cX10_holds 62 = .ok (.goto 4, 3) := by decide +kernel
theorem dX10_holds_65 : decode cX10_holds 65 = .ok (.iconst 0, 1) := by decide +kernel
theorem dX10_holds_66 : decode cX10_holds 66 = .ok (.istore 6, 2) := by decide +kernel
theorem dX10_holds_68 : decode cX10_holds 68 = .ok (.iload 6, 2) := by decide +kernel
theorem dX10_holds_70 : decode cX10_holds 70 = .ok (.ifCond .eq 45, 3) := by decide +kernel
theorem dX10_holds_73 : decode cX10_holds 73 = .ok (.aload_n 0, 1) := by decide +kernel
theorem dX10_holds_74 : decode cX10_holds 74 = .ok (.getfield 54, 3) := by decide +kernel
theorem dX10_holds_77 : decode cX10_holds 77 = .ok (.getfield 88, 3) := by decide +kernel
theorem dX10_holds_80 : decode cX10_holds 80 = .ok (.aload_n 0, 1) := by decide +kernel
theorem dX10_holds_81 : decode cX10_holds 81 = .ok (.getfield 24, 3) := by decide +kernel
theorem dX10_holds_84 : decode cX10_holds 84 = .ok (.iload 5, 2) := by decide +kernel
theorem dX10_holds_86 : decode cX10_holds 86 = .ok (.iaload, 1) := by decide +kernel
theorem dX10_holds_87 : decode cX10_holds 87 = .ok (.iaload, 1) := by decide +kernel
theorem dX10_holds_88 : decode cX10_holds 88 = .ok (.aload_n 0, 1) := by decide +kernel
theorem dX10_holds_89 : decode cX10_holds 89 = .ok (.getfield 27, 3) := by decide +kernel
theorem dX10_holds_92 : decode cX10_holds 92 = .ok (.iload 5, 2) := by decide +kernel
theorem dX10_holds_94 : decode cX10_holds 94 = .ok (.iaload, 1) := by decide +kernel
theorem dX10_holds_95 : decode cX10_holds 95 = .ok (.if_icmp .ne 7, 3) := by decide +kernel
theorem dX10_holds_98 : decode cX10_holds 98 = .ok (.iconst 1, 1) := by decide +kernel
theorem dX10_holds_99 : decode cX10_holds 99 = .ok (.goto 4, 3) := by decide +kernel
theorem dX10_holds_102 : decode cX10_holds 102 = .ok (.iconst 0, 1) := by decide +kernel
theorem dX10_holds_103 : decode cX10_holds 103 = .ok (.aload_n 0, 1) := by decide +kernel
theorem dX10_holds_104 : decode cX10_holds 104 = .ok (.getfield 30, 3) := by decide +kernel
theorem dX10_holds_107 : decode cX10_holds 107 = .ok (.iload 5, 2) := by decide +kernel
theorem dX10_holds_109 : decode cX10_holds 109 = .ok (.baload, 1) := by decide +kernel
theorem dX10_holds_110 : decode cX10_holds 110 = .ok (.if_icmp .eq 5, 3) := by decide +kernel
theorem dX10_holds_113 : decode cX10_holds 113 = .ok (.iconst 0, 1) := by decide +kernel
theorem dX10_holds_114 : decode cX10_holds 114 = .ok (.ireturn, 1) := by decide +kernel
theorem dX10_holds_115 : decode cX10_holds 115 = .ok (.iinc 5 1, 3) := by decide +kernel
theorem dX10_holds_118 : decode cX10_holds 118 = .ok (.goto (-88), 3) := by decide +kernel
theorem dX10_holds_121 : decode cX10_holds 121 = .ok (.iinc 4 1, 3) := by decide +kernel
theorem dX10_holds_124 : decode cX10_holds 124 = .ok (.goto (-116), 3) := by decide +kernel
theorem dX10_holds_127 : decode cX10_holds 127 = .ok (.iconst 1, 1) := by decide +kernel
theorem dX10_holds_128 : decode cX10_holds 128 = .ok (.ireturn, 1) := by decide +kernel
theorem dX10_beginWith_0 : decode cX10_beginWith 0 = .ok (.aload_n 0, 1) := by decide +kernel
theorem dX10_beginWith_1 : decode cX10_beginWith 1 = .ok (.getfield 50, 3) := by decide +kernel
theorem dX10_beginWith_4 : decode cX10_beginWith 4 = .ok (.aload_n 0, 1) := by decide +kernel
theorem dX10_beginWith_5 : decode cX10_beginWith 5 = .ok (.getfield 14, 3) := by decide +kernel
theorem dX10_beginWith_8 : decode cX10_beginWith 8 = .ok (.invokevirtual 91, 3) := by decide +kernel
theorem dX10_beginWith_11 : decode cX10_beginWith 11 = .ok (.aload_n 0, 1) := by decide +kernel
theorem dX10_beginWith_12 : decode cX10_beginWith 12 = .ok (.getfield 50, 3) := by decide +kernel
theorem dX10_beginWith_15 : decode cX10_beginWith 15 = .ok (.getfield 95, 3) := by decide +kernel
theorem dX10_beginWith_18 : decode cX10_beginWith 18 = .ok (.iconst (-1), 1) := by decide +kernel
theorem dX10_beginWith_19 : decode cX10_beginWith 19 = .ok (.if_icmp .eq 19, 3) := by decide +kernel
theorem dX10_beginWith_22 : decode cX10_beginWith 22 = .ok (.aload_n 0, 1) := by decide +kernel
theorem dX10_beginWith_23 : decode cX10_beginWith 23 = .ok (.getfield 14, 3) := by decide +kernel
theorem dX10_beginWith_26 : decode cX10_beginWith 26 = .ok (.getfield 98, 3) := by decide +kernel
theorem dX10_beginWith_29 : decode cX10_beginWith 29 = .ok (.aload_n 0, 1) := by decide +kernel
theorem dX10_beginWith_30 : decode cX10_beginWith 30 = .ok (.getfield 50, 3) := by decide +kernel
theorem dX10_beginWith_33 : decode cX10_beginWith 33 = .ok (.getfield 95, 3) := by decide +kernel
theorem dX10_beginWith_36 : decode cX10_beginWith 36 = .ok (.iload_n 1, 1) := by decide +kernel
theorem dX10_beginWith_37 : decode cX10_beginWith 37 = .ok (.iastore, 1) := by decide +kernel
theorem dX10_beginWith_38 : decode cX10_beginWith 38 = .ok (.return_, 1) := by decide +kernel
theorem dX10_countAnswers_0 : decode cX10_countAnswers 0 = .ok (.aload_n 0, 1) := by decide +kernel
theorem dX10_countAnswers_1 : decode cX10_countAnswers 1 = .ok (.getfield 40, 3) := by decide +kernel
theorem dX10_countAnswers_4 : decode cX10_countAnswers 4 = .ok (.iconst 0, 1) := by decide +kernel
theorem dX10_countAnswers_5 : decode cX10_countAnswers 5 = .ok (.invokestatic 101, 3) := by decide +kernel
theorem dX10_countAnswers_8 : decode cX10_countAnswers 8 = .ok (.iconst 0, 1) := by decide +kernel
theorem dX10_countAnswers_9 : decode cX10_countAnswers 9 = .ok (.istore_n 3, 1) := by decide +kernel
theorem dX10_countAnswers_10 : decode cX10_countAnswers 10 = .ok (.iload_n 3, 1) := by decide +kernel
theorem dX10_countAnswers_11 : decode cX10_countAnswers 11 = .ok (.bipush 20, 2) := by decide +kernel
theorem dX10_countAnswers_13 : decode cX10_countAnswers 13 = .ok (.if_icmp .gt 96, 3) := by decide +kernel
theorem dX10_countAnswers_16 : decode cX10_countAnswers 16 = .ok (.iload_n 2, 1) := by decide +kernel
theorem dX10_countAnswers_17 : decode cX10_countAnswers 17 = .ok (.iload_n 3, 1) := by decide +kernel
theorem dX10_countAnswers_18 : decode cX10_countAnswers 18 = .ok (.ishr, 1) := by decide +kernel
theorem dX10_countAnswers_19 : decode cX10_countAnswers 19 = .ok (.iconst 1, 1) := by decide +kernel
theorem dX10_countAnswers_20 : decode cX10_countAnswers 20 = .ok (.iand, 1) := by decide +kernel
theorem dX10_countAnswers_21 : decode cX10_countAnswers 21 = .ok (.iconst 1, 1) := by decide +kernel
theorem dX10_countAnswers_22 : decode cX10_countAnswers 22 = .ok (.if_icmp .ne 81, 3) := by decide +kernel
theorem dX10_countAnswers_25 : decode cX10_countAnswers 25 = .ok (.aload_n 0, 1) := by decide +kernel
theorem dX10_countAnswers_26 : decode cX10_countAnswers 26 = .ok (.iload_n 3, 1) := by decide +kernel
theorem dX10_countAnswers_27 : decode cX10_countAnswers 27 = .ok (.invokevirtual 78, 3) := by decide +kernel
theorem dX10_countAnswers_30 : decode cX10_countAnswers 30 = .ok (.iconst 0, 1) := by decide +kernel
theorem dX10_countAnswers_31 : decode cX10_countAnswers 31 = .ok (.istore 4, 2) := by decide +kernel
theorem dX10_countAnswers_33 : decode cX10_countAnswers 33 = .ok (.iload 4, 2) := by decide +kernel
theorem dX10_countAnswers_35 : decode cX10_countAnswers 35 = .ok (.iload_n 1, 1) := by decide +kernel
theorem dX10_countAnswers_36 : decode cX10_countAnswers 36 = .ok (.if_icmp .ge 22, 3) := by decide +kernel
theorem dX10_countAnswers_39 : decode cX10_countAnswers 39 = .ok (.aload_n 0, 1) := by decide +kernel
theorem dX10_countAnswers_40 : decode cX10_countAnswers 40 = .ok (.getfield 54, 3) := by decide +kernel
theorem dX10_countAnswers_43 : decode cX10_countAnswers 43 = .ok (.aload_n 0, 1) := by decide +kernel
theorem dX10_countAnswers_44 : decode cX10_countAnswers 44 = .ok (.getfield 14, 3) := by decide +kernel
theorem dX10_countAnswers_47 : decode cX10_countAnswers 47 = .ok (.iconst 0, 1) := by decide +kernel
theorem dX10_countAnswers_48 : decode cX10_countAnswers 48 = .ok (.invokevirtual 82, 3) := by decide +kernel
theorem dX10_countAnswers_51 : decode cX10_countAnswers 51 = .ok (.pop, 1) := by decide +kernel
theorem dX10_countAnswers_52 : decode cX10_countAnswers 52 = .ok (.iinc 4 1, 3) := by decide +kernel
theorem dX10_countAnswers_55 : decode cX10_countAnswers 55 = .ok (.goto (-22), 3) := by decide +kernel
theorem dX10_countAnswers_58 : decode cX10_countAnswers 58 = .ok (.iconst 0, 1) := by decide +kernel
theorem dX10_countAnswers_59 : decode cX10_countAnswers 59 = .ok (.istore 4, 2) := by decide +kernel
theorem dX10_countAnswers_61 : decode cX10_countAnswers 61 = .ok (.iload 4, 2) := by decide +kernel
theorem dX10_countAnswers_63 : decode cX10_countAnswers 63 = .ok (.aload_n 0, 1) := by decide +kernel
theorem dX10_countAnswers_64 : decode cX10_countAnswers 64 = .ok (.getfield 50, 3) := by decide +kernel
theorem dX10_countAnswers_67 : decode cX10_countAnswers 67 = .ok (.getfield 107, 3) := by decide +kernel
theorem dX10_countAnswers_70 : decode cX10_countAnswers 70 = .ok (.if_icmp .ge 33, 3) := by decide +kernel
theorem dX10_countAnswers_73 : decode cX10_countAnswers 73 = .ok (.aload_n 0, 1) := by decide +kernel
theorem dX10_countAnswers_74 : decode cX10_countAnswers 74 = .ok (.getfield 40, 3) := by decide +kernel
theorem dX10_countAnswers_77 : decode cX10_countAnswers 77 = .ok (.iload 4, 2) := by decide +kernel
theorem dX10_countAnswers_79 : decode cX10_countAnswers 79 = .ok (.aload_n 0, 1) := by decide +kernel
theorem dX10_countAnswers_80 : decode cX10_countAnswers 80 = .ok (.getfield 54, 3) := by decide +kernel
theorem dX10_countAnswers_83 : decode cX10_countAnswers 83 = .ok (.getfield 88, 3) := by decide +kernel
theorem dX10_countAnswers_86 : decode cX10_countAnswers 86 = .ok (.iload 4, 2) := by decide +kernel
theorem dX10_countAnswers_88 : decode cX10_countAnswers 88 = .ok (.iaload, 1) := by decide +kernel
theorem dX10_countAnswers_89 : decode cX10_countAnswers 89 = .ok (.invokestatic 109, 3) := by decide +kernel
theorem dX10_countAnswers_92 : decode cX10_countAnswers 92 = .ok (.dup2, 1) := by decide +kernel
theorem dX10_countAnswers_93 : decode cX10_countAnswers 93 = .ok (.iaload, 1) := by decide +kernel
theorem dX10_countAnswers_94 : decode cX10_countAnswers 94 = .ok (.iconst 1, 1) := by decide +kernel
theorem dX10_countAnswers_95 : decode cX10_countAnswers 95 = .ok (.iadd, 1) := by decide +kernel
theorem dX10_countAnswers_96 : decode cX10_countAnswers 96 = .ok (.iastore, 1) := by decide +kernel
theorem dX10_countAnswers_97 : decode cX10_countAnswers 97 = .ok (.iinc 4 1, 3) := by decide +kernel
theorem dX10_countAnswers_100 : decode cX10_countAnswers 100 = .ok (.goto (-39), 3) := by decide +kernel
theorem dX10_countAnswers_103 : decode cX10_countAnswers 103 = .ok (.iinc 3 1, 3) := by decide +kernel
theorem dX10_countAnswers_106 : decode cX10_countAnswers 106 = .ok (.goto (-96), 3) := by decide +kernel
theorem dX10_countAnswers_109 : decode cX10_countAnswers 109 = .ok (.return_, 1) := by decide +kernel
theorem dX10_answer_0 : decode cX10_answer 0 = .ok (.iload_n 0, 1) := by decide +kernel
theorem dX10_answer_1 : decode cX10_answer 1 = .ok (.bipush 7, 2) := by decide +kernel
theorem dX10_answer_3 : decode cX10_answer 3 = .ok (.imul, 1) := by decide +kernel
theorem dX10_answer_4 : decode cX10_answer 4 = .ok (.iload_n 1, 1) := by decide +kernel
theorem dX10_answer_5 : decode cX10_answer 5 = .ok (.iadd, 1) := by decide +kernel
theorem dX10_answer_6 : decode cX10_answer 6 = .ok (.iconst 1, 1) := by decide +kernel
theorem dX10_answer_7 : decode cX10_answer 7 = .ok (.iadd, 1) := by decide +kernel
theorem dX10_answer_8 : decode cX10_answer 8 = .ok (.ireturn, 1) := by decide +kernel
theorem dX10_leftAtMost_0 : decode cX10_leftAtMost 0 = .ok (.iconst 0, 1) := by decide +kernel
theorem dX10_leftAtMost_1 : decode cX10_leftAtMost 1 = .ok (.istore_n 2, 1) := by decide +kernel
theorem dX10_leftAtMost_2 : decode cX10_leftAtMost 2 = .ok (.iconst (-1), 1) := by decide +kernel
theorem dX10_leftAtMost_3 : decode cX10_leftAtMost 3 = .ok (.istore_n 3, 1) := by decide +kernel
theorem dX10_leftAtMost_4 : decode cX10_leftAtMost 4 = .ok (.iload_n 3, 1) := by decide +kernel
theorem dX10_leftAtMost_5 : decode cX10_leftAtMost 5 = .ok (.aload_n 0, 1) := by decide +kernel
theorem dX10_leftAtMost_6 : decode cX10_leftAtMost 6 = .ok (.getfield 50, 3) := by decide +kernel
theorem dX10_leftAtMost_9 : decode cX10_leftAtMost 9 = .ok (.getfield 112, 3) := by decide +kernel
theorem dX10_leftAtMost_12 : decode cX10_leftAtMost 12 = .ok (.if_icmp .ge 24, 3) := by decide +kernel
theorem dX10_leftAtMost_15 : decode cX10_leftAtMost 15 = .ok (.iload_n 2, 1) := by decide +kernel
theorem dX10_leftAtMost_16 : decode cX10_leftAtMost 16 = .ok (.aload_n 0, 1) := by decide +kernel
theorem dX10_leftAtMost_17 : decode cX10_leftAtMost 17 = .ok (.getfield 40, 3) := by decide +kernel
theorem dX10_leftAtMost_20 : decode cX10_leftAtMost 20 = .ok (.iload_n 1, 1) := by decide +kernel
theorem dX10_leftAtMost_21 : decode cX10_leftAtMost 21 = .ok (.iload_n 3, 1) := by decide +kernel
theorem dX10_leftAtMost_22 : decode cX10_leftAtMost 22 = .ok (.invokestatic 109, 3) := by decide +kernel
theorem dX10_leftAtMost_25 : decode cX10_leftAtMost 25 = .ok (.iaload, 1) := by decide +kernel
theorem dX10_leftAtMost_26 : decode cX10_leftAtMost 26 = .ok (.invokestatic 68, 3) := by decide +kernel
theorem dX10_leftAtMost_29 : decode cX10_leftAtMost 29 = .ok (.istore_n 2, 1) := by decide +kernel
theorem dX10_leftAtMost_30 : decode cX10_leftAtMost 30 = .ok (.iinc 3 1, 3) := by decide +kernel
theorem dX10_leftAtMost_33 : decode cX10_leftAtMost 33 = .ok (.goto (-29), 3) := by decide +kernel
theorem dX10_leftAtMost_36 : decode cX10_leftAtMost 36 = .ok (.iload_n 2, 1) := by decide +kernel
theorem dX10_leftAtMost_37 : decode cX10_leftAtMost 37 = .ok (.ireturn, 1) := by decide +kernel
theorem dX10_bestAsked_0 : decode cX10_bestAsked 0 = .ok (.iconst (-1), 1) := by decide +kernel
theorem dX10_bestAsked_1 : decode cX10_bestAsked 1 = .ok (.istore_n 1, 1) := by decide +kernel
theorem dX10_bestAsked_2 : decode cX10_bestAsked 2 = .ok (.iconst 0, 1) := by decide +kernel
theorem dX10_bestAsked_3 : decode cX10_bestAsked 3 = .ok (.istore_n 2, 1) := by decide +kernel
theorem dX10_bestAsked_4 : decode cX10_bestAsked 4 = .ok (.iload_n 2, 1) := by decide +kernel
theorem dX10_bestAsked_5 : decode cX10_bestAsked 5 = .ok (.aload_n 0, 1) := by decide +kernel
theorem dX10_bestAsked_6 : decode cX10_bestAsked 6 = .ok (.getfield 50, 3) := by decide +kernel
theorem dX10_bestAsked_9 : decode cX10_bestAsked 9 = .ok (.getfield 107, 3) := by decide +kernel
theorem dX10_bestAsked_12 : decode cX10_bestAsked 12 = .ok (.if_icmp .ge 29, 3) := by decide +kernel
theorem dX10_bestAsked_15 : decode cX10_bestAsked 15 = .ok (.iload_n 1, 1) := by decide +kernel
theorem dX10_bestAsked_16 : decode cX10_bestAsked 16 = .ok (.iconst (-1), 1) := by decide +kernel
theorem dX10_bestAsked_17 : decode cX10_bestAsked 17 = .ok (.if_icmp .eq 16, 3) := by decide +kernel
theorem dX10_bestAsked_20 : decode cX10_bestAsked 20 = .ok (.aload_n 0, 1) := by decide +kernel
theorem dX10_bestAsked_21 : decode cX10_bestAsked 21 = .ok (.iload_n 2, 1) := by decide +kernel
theorem dX10_bestAsked_22 : decode cX10_bestAsked 22 = .ok (.invokevirtual 114, 3) := by decide +kernel
theorem dX10_bestAsked_25 : decode cX10_bestAsked 25 = .ok (.aload_n 0, 1) := by decide +kernel
theorem dX10_bestAsked_26 : decode cX10_bestAsked 26 = .ok (.iload_n 1, 1) := by decide +kernel
theorem dX10_bestAsked_27 : decode cX10_bestAsked 27 = .ok (.invokevirtual 114, 3) := by decide +kernel
theorem dX10_bestAsked_30 : decode cX10_bestAsked 30 = .ok (.if_icmp .ge 5, 3) := by decide +kernel
theorem dX10_bestAsked_33 : decode cX10_bestAsked 33 = .ok (.iload_n 2, 1) := by decide +kernel
theorem dX10_bestAsked_34 : decode cX10_bestAsked 34 = .ok (.istore_n 1, 1) := by decide +kernel
theorem dX10_bestAsked_35 : decode cX10_bestAsked 35 = .ok (.iinc 2 1, 3) := by decide +kernel
theorem dX10_bestAsked_38 : decode cX10_bestAsked 38 = .ok (.goto (-34), 3) := by decide +kernel
theorem dX10_bestAsked_41 : decode cX10_bestAsked 41 = .ok (.iload_n 1, 1) := by decide +kernel
theorem dX10_bestAsked_42 : decode cX10_bestAsked 42 = .ok (.ireturn, 1) := by decide +kernel
theorem dX11_init_0 : decode cX11_init 0 = .ok (.aload_n 0, 1) := by decide +kernel
theorem dX11_init_1 : decode cX11_init 1 = .ok (.invokespecial 3, 3) := by decide +kernel
theorem dX11_init_4 : decode cX11_init 4 = .ok (.aload_n 0, 1) := by decide +kernel
theorem dX11_init_5 : decode cX11_init 5 = .ok (.new 9, 3) := by decide +kernel
theorem dX11_init_8 : decode cX11_init 8 = .ok (.dup, 1) := by decide +kernel
theorem dX11_init_9 : decode cX11_init 9 = .ok (.invokespecial 11, 3) := by decide +kernel
theorem dX11_init_12 : decode cX11_init 12 = .ok (.putfield 12, 3) := by decide +kernel
theorem dX11_init_15 : decode cX11_init 15 = .ok (.aload_n 0, 1) := by decide +kernel
theorem dX11_init_16 : decode cX11_init 16 = .ok (.new 16, 3) := by decide +kernel
theorem dX11_init_19 : decode cX11_init 19 = .ok (.dup, 1) := by decide +kernel
theorem dX11_init_20 : decode cX11_init 20 = .ok (.invokespecial 18, 3) := by decide +kernel
theorem dX11_init_23 : decode cX11_init 23 = .ok (.putfield 19, 3) := by decide +kernel
theorem dX11_init_26 : decode cX11_init 26 = .ok (.aload_n 0, 1) := by decide +kernel
theorem dX11_init_27 : decode cX11_init 27 = .ok (.new 23, 3) := by decide +kernel
theorem dX11_init_30 : decode cX11_init 30 = .ok (.dup, 1) := by decide +kernel
theorem dX11_init_31 : decode cX11_init 31 = .ok (.aload_n 0, 1) := by decide +kernel
theorem dX11_init_32 : decode cX11_init 32 = .ok (.getfield 12, 3) := by decide +kernel
theorem dX11_init_35 : decode cX11_init 35 = .ok (.invokespecial 25, 3) := by decide +kernel
theorem dX11_init_38 : decode cX11_init 38 = .ok (.putfield 28, 3) := by decide +kernel
theorem dX11_init_41 : decode cX11_init 41 = .ok (.aload_n 0, 1) := by decide +kernel
theorem dX11_init_42 : decode cX11_init 42 = .ok (.new 32, 3) := by decide +kernel
theorem dX11_init_45 : decode cX11_init 45 = .ok (.dup, 1) := by decide +kernel
theorem dX11_init_46 : decode cX11_init 46 = .ok (.aload_n 0, 1) := by decide +kernel
theorem dX11_init_47 : decode cX11_init 47 = .ok (.getfield 19, 3) := by decide +kernel
theorem dX11_init_50 : decode cX11_init 50 = .ok (.invokespecial 34, 3) := by decide +kernel
theorem dX11_init_53 : decode cX11_init 53 = .ok (.putfield 37, 3) := by decide +kernel
theorem dX11_init_56 : decode cX11_init 56 = .ok (.aload_n 0, 1) := by decide +kernel
theorem dX11_init_57 : decode cX11_init 57 = .ok (.new 41, 3) := by decide +kernel
theorem dX11_init_60 : decode cX11_init 60 = .ok (.dup, 1) := by decide +kernel
theorem dX11_init_61 : decode cX11_init 61 = .ok (.aload_n 0, 1) := by decide +kernel
theorem dX11_init_62 : decode cX11_init 62 = .ok (.getfield 19, 3) := by decide +kernel
theorem dX11_init_65 : decode cX11_init 65 = .ok (.aload_n 0, 1) := by decide +kernel
theorem dX11_init_66 : decode cX11_init 66 = .ok (.getfield 37, 3) := by decide +kernel
theorem dX11_init_69 : decode cX11_init 69 = .ok (.invokespecial 43, 3) := by decide +kernel
theorem dX11_init_72 : decode cX11_init 72 = .ok (.putfield 46, 3) := by decide +kernel
theorem dX11_init_75 : decode cX11_init 75 = .ok (.aload_n 0, 1) := by decide +kernel
theorem dX11_init_76 : decode cX11_init 76 = .ok (.new 50, 3) := by decide +kernel
theorem dX11_init_79 : decode cX11_init 79 = .ok (.dup, 1) := by decide +kernel
theorem dX11_init_80 : decode cX11_init 80 = .ok (.aload_n 0, 1) := by decide +kernel
theorem dX11_init_81 : decode cX11_init 81 = .ok (.getfield 19, 3) := by decide +kernel
theorem dX11_init_84 : decode cX11_init 84 = .ok (.aload_n 0, 1) := by decide +kernel
theorem dX11_init_85 : decode cX11_init 85 = .ok (.getfield 37, 3) := by decide +kernel
theorem dX11_init_88 : decode cX11_init 88 = .ok (.invokespecial 52, 3) := by decide +kernel
theorem dX11_init_91 : decode cX11_init 91 = .ok (.putfield 53, 3) := by decide +kernel
theorem dX11_init_94 : decode cX11_init 94 = .ok (.aload_n 0, 1) := by decide +kernel
theorem dX11_init_95 : decode cX11_init 95 = .ok (.new 57, 3) := by decide +kernel
theorem dX11_init_98 : decode cX11_init 98 = .ok (.dup, 1) := by decide +kernel
theorem dX11_init_99 : decode cX11_init 99 = .ok (.aload_n 0, 1) := by decide +kernel
theorem dX11_init_100 : decode cX11_init 100 = .ok (.getfield 19, 3) := by decide +kernel
theorem dX11_init_103 : decode cX11_init 103 = .ok (.aload_n 0, 1) := by decide +kernel
theorem dX11_init_104 : decode cX11_init 104 = .ok (.getfield 37, 3) := by decide +kernel
theorem dX11_init_107 : decode cX11_init 107 = .ok (.invokespecial 59, 3) := by decide +kernel
theorem dX11_init_110 : decode cX11_init 110 = .ok (.putfield 60, 3) := by decide +kernel
theorem dX11_init_113 : decode cX11_init 113 = .ok (.aload_n 0, 1) := by decide +kernel
theorem dX11_init_114 : decode cX11_init 114 = .ok (.new 64, 3) := by decide +kernel
theorem dX11_init_117 : decode cX11_init 117 = .ok (.dup, 1) := by decide +kernel
theorem dX11_init_118 : decode cX11_init 118 = .ok (.invokespecial 66, 3) := by decide +kernel
theorem dX11_init_121 : decode cX11_init 121 = .ok (.putfield 67, 3) := by decide +kernel
theorem dX11_init_124 : decode cX11_init 124 = .ok (.aload_n 0, 1) := by decide +kernel
theorem dX11_init_125 : decode cX11_init 125 = .ok (.bipush 6, 2) := by decide +kernel
theorem dX11_init_127 : decode cX11_init 127 = .ok (.newarray .int, 2) := by decide +kernel
theorem dX11_init_129 : decode cX11_init 129 = .ok (.putfield 71, 3) := by decide +kernel
theorem dX11_init_132 : decode cX11_init 132 = .ok (.aload_n 0, 1) := by decide +kernel
theorem dX11_init_133 : decode cX11_init 133 = .ok (.iconst 0, 1) := by decide +kernel
theorem dX11_init_134 : decode cX11_init 134 = .ok (.putfield 75, 3) := by decide +kernel
theorem dX11_init_137 : decode cX11_init 137 = .ok (.aload_n 0, 1) := by decide +kernel
theorem dX11_init_138 : decode cX11_init 138 = .ok (.iconst 3, 1) := by decide +kernel
theorem dX11_init_139 : decode cX11_init 139 = .ok (.anewarray 79, 3) := by decide +kernel
theorem dX11_init_142 : decode cX11_init 142 = .ok (.putfield 81, 3) := by decide +kernel
theorem dX11_init_145 : decode cX11_init 145 = .ok (.aload_n 0, 1) := by decide +kernel
theorem dX11_init_146 : decode cX11_init 146 = .ok (.iconst 0, 1) := by decide +kernel
theorem dX11_init_147 : decode cX11_init 147 = .ok (.putfield 85, 3) := by decide +kernel
theorem dX11_init_150 : decode cX11_init 150 = .ok (.aload_n 0, 1) := by decide +kernel
theorem dX11_init_151 : decode cX11_init 151 = .ok (.new 79, 3) := by decide +kernel
theorem dX11_init_154 : decode cX11_init 154 = .ok (.dup, 1) := by decide +kernel
theorem dX11_init_155 : decode cX11_init 155 = .ok (.invokespecial 88, 3) := by decide +kernel
theorem dX11_init_158 : decode cX11_init 158 = .ok (.putfield 89, 3) := by decide +kernel
theorem dX11_init_161 : decode cX11_init 161 = .ok (.aload_n 0, 1) := by decide +kernel
theorem dX11_init_162 : decode cX11_init 162 = .ok (.iconst 0, 1) := by decide +kernel
theorem dX11_init_163 : decode cX11_init 163 = .ok (.putfield 93, 3) := by decide +kernel
theorem dX11_init_166 : decode cX11_init 166 = .ok (.aload_n 0, 1) := by decide +kernel
theorem dX11_init_167 : decode cX11_init 167 = .ok (.iconst (-1), 1) := by decide +kernel
theorem dX11_init_168 : decode cX11_init 168 = .ok (.putfield 96, 3) := by decide +kernel
theorem dX11_init_171 : decode cX11_init 171 = .ok (.iconst 0, 1) := by decide +kernel
theorem dX11_init_172 : decode cX11_init 172 = .ok (.istore_n 1, 1) := by decide +kernel
theorem dX11_init_173 : decode cX11_init 173 = .ok (.iload_n 1, 1) := by decide +kernel
theorem dX11_init_174 : decode cX11_init 174 = .ok (.iconst 3, 1) := by decide +kernel
theorem dX11_init_175 : decode cX11_init 175 = .ok (.if_icmp .ge 22, 3) := by decide +kernel
theorem dX11_init_178 : decode cX11_init 178 = .ok (.aload_n 0, 1) := by decide +kernel
theorem dX11_init_179 : decode cX11_init 179 = .ok (.getfield 81, 3) := by decide +kernel
theorem dX11_init_182 : decode cX11_init 182 = .ok (.iload_n 1, 1) := by decide +kernel
theorem dX11_init_183 : decode cX11_init 183 = .ok (.new 79, 3) := by decide +kernel
theorem dX11_init_186 : decode cX11_init 186 = .ok (.dup, 1) := by decide +kernel
theorem dX11_init_187 : decode cX11_init 187 = .ok (.invokespecial 88, 3) := by decide +kernel
theorem dX11_init_190 : decode cX11_init 190 = .ok (.aastore, 1) := by decide +kernel
theorem dX11_init_191 : decode cX11_init 191 = .ok (.iinc 1 1, 3) := by decide +kernel
theorem dX11_init_194 : decode cX11_init 194 = .ok (.goto (-21), 3) := by decide +kernel
theorem dX11_init_197 : decode cX11_init 197 = .ok (.return_, 1) := by decide +kernel
theorem dX11_feed_0 : decode cX11_feed 0 = .ok (.aload_n 0, 1) := by decide +kernel
theorem dX11_feed_1 : decode cX11_feed 1 = .ok (.getfield 12, 3) := by decide +kernel
theorem dX11_feed_4 : decode cX11_feed 4 = .ok (.getfield 99, 3) := by decide +kernel
theorem dX11_feed_7 : decode cX11_feed 7 = .ok (.bipush 20, 2) := by decide +kernel
theorem dX11_feed_9 : decode cX11_feed 9 = .ok (.iadd, 1) := by decide +kernel
theorem dX11_feed_10 : decode cX11_feed 10 = .ok (.sipush 1600, 3) := by decide +kernel
theorem dX11_feed_13 : decode cX11_feed 13 = .ok (.if_icmp .le 5, 3) := by decide +kernel
theorem dX11_feed_16 : decode cX11_feed 16 = .ok (.iconst (-1), 1) := by decide +kernel
theorem dX11_feed_17 : decode cX11_feed 17 = .ok (.ireturn, 1) := by decide +kernel
theorem dX11_feed_18 : decode cX11_feed 18 = .ok (.aload_n 0, 1) := by decide +kernel
theorem dX11_feed_19 : decode cX11_feed 19 = .ok (.getfield 12, 3) := by decide +kernel
theorem dX11_feed_22 : decode cX11_feed 22 = .ok (.iload_n 1, 1) := by decide +kernel
theorem dX11_feed_23 : decode cX11_feed 23 = .ok (.invokevirtual 102, 3) := by decide +kernel
theorem dX11_feed_26 : decode cX11_feed 26 = .ok (.aload_n 0, 1) := by decide +kernel
theorem dX11_feed_27 : decode cX11_feed 27 = .ok (.getfield 12, 3) := by decide +kernel
theorem dX11_feed_30 : decode cX11_feed 30 = .ok (.iload_n 2, 1) := by decide +kernel
theorem dX11_feed_31 : decode cX11_feed 31 = .ok (.invokevirtual 102, 3) := by decide +kernel
theorem dX11_feed_34 : decode cX11_feed 34 = .ok (.aload_n 0, 1) := by decide +kernel
theorem dX11_feed_35 : decode cX11_feed 35 = .ok (.getfield 12, 3) := by decide +kernel
theorem dX11_feed_38 : decode cX11_feed 38 = .ok (.iload_n 3, 1) := by decide +kernel
theorem dX11_feed_39 : decode cX11_feed 39 = .ok (.invokevirtual 102, 3) := by decide +kernel
theorem dX11_feed_42 : decode cX11_feed 42 = .ok (.aload_n 0, 1) := by decide +kernel
theorem dX11_feed_43 : decode cX11_feed 43 = .ok (.getfield 12, 3) := by decide +kernel
theorem dX11_feed_46 : decode cX11_feed 46 = .ok (.iload 4, 2) := by decide +kernel
theorem dX11_feed_48 : decode cX11_feed 48 = .ok (.invokevirtual 102, 3) := by decide +kernel
theorem dX11_feed_51 : decode cX11_feed 51 = .ok (.aload_n 0, 1) := by decide +kernel
theorem dX11_feed_52 : decode cX11_feed 52 = .ok (.getfield 12, 3) := by decide +kernel
theorem dX11_feed_55 : decode cX11_feed 55 = .ok (.iload 5, 2) := by decide +kernel
theorem dX11_feed_57 : decode cX11_feed 57 = .ok (.invokevirtual 102, 3) := by decide +kernel
theorem dX11_feed_60 : decode cX11_feed 60 = .ok (.aload_n 0, 1) := by decide +kernel
theorem dX11_feed_61 : decode cX11_feed 61 = .ok (.getfield 12, 3) := by decide +kernel
theorem dX11_feed_64 : decode cX11_feed 64 = .ok (.getfield 99, 3) := by decide +kernel
theorem dX11_feed_67 : decode cX11_feed 67 = .ok (.ireturn, 1) := by decide +kernel
theorem dX11_end_0 : decode cX11_end 0 = .ok (.iload_n 1, 1) := by decide +kernel
theorem dX11_end_1 : decode cX11_end 1 = .ok (.ifCond .lt 14, 3) := by decide +kernel
