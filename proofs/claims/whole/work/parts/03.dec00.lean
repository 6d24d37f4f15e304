theorem dX0_init_0 : decode cX0_init 0 = .ok (.aload_n 0, 1) := by decide +kernel
theorem dX0_init_1 : decode cX0_init 1 = .ok (.invokespecial 3, 3) := by decide +kernel
theorem dX0_init_4 : decode cX0_init 4 = .ok (.aload_n 0, 1) := by decide +kernel
theorem dX0_init_5 : decode cX0_init 5 = .ok (.bipush 40, 2) := by decide +kernel
theorem dX0_init_7 : decode cX0_init 7 = .ok (.anewarray 9, 3) := by decide +kernel
theorem dX0_init_10 : decode cX0_init 10 = .ok (.putfield 11, 3) := by decide +kernel
theorem dX0_init_13 : decode cX0_init 13 = .ok (.aload_n 0, 1) := by decide +kernel
theorem dX0_init_14 : decode cX0_init 14 = .ok (.iconst 0, 1) := by decide +kernel
theorem dX0_init_15 : decode cX0_init 15 = .ok (.putfield 17, 3) := by decide +kernel
theorem dX0_init_18 : decode cX0_init 18 = .ok (.aload_n 0, 1) := by decide +kernel
theorem dX0_init_19 : decode cX0_init 19 = .ok (.iconst 0, 1) := by decide +kernel
theorem dX0_init_20 : decode cX0_init 20 = .ok (.putfield 21, 3) := by decide +kernel
theorem dX0_init_23 : decode cX0_init 23 = .ok (.return_, 1) := by decide +kernel
theorem dX0_forget_0 : decode cX0_forget 0 = .ok (.aload_n 0, 1) := by decide +kernel
theorem dX0_forget_1 : decode cX0_forget 1 = .ok (.iconst 0, 1) := by decide +kernel
theorem dX0_forget_2 : decode cX0_forget 2 = .ok (.putfield 17, 3) := by decide +kernel
theorem dX0_forget_5 : decode cX0_forget 5 = .ok (.aload_n 0, 1) := by decide +kernel
theorem dX0_forget_6 : decode cX0_forget 6 = .ok (.iconst 0, 1) := by decide +kernel
theorem dX0_forget_7 : decode cX0_forget 7 = .ok (.putfield 21, 3) := by decide +kernel
theorem dX0_forget_10 : decode cX0_forget 10 = .ok (.return_, 1) := by decide +kernel
theorem dX0_keep_0 : decode cX0_keep 0 = .ok (.aload_n 0, 1) := by decide +kernel
theorem dX0_keep_1 : decode cX0_keep 1 = .ok (.getfield 17, 3) := by decide +kernel
theorem dX0_keep_4 : decode cX0_keep 4 = .ok (.aload_n 0, 1) := by decide +kernel
theorem dX0_keep_5 : decode cX0_keep 5 = .ok (.getfield 11, 3) := by decide +kernel
theorem dX0_keep_8 : decode cX0_keep 8 = .ok (.arraylength, 1) := by decide +kernel
theorem dX0_keep_9 : decode cX0_keep 9 = .ok (.if_icmp .lt 7, 3) := by decide +kernel
theorem dX0_keep_12 : decode cX0_keep 12 = .ok (.aload_n 0, 1) := by decide +kernel
theorem dX0_keep_13 : decode cX0_keep 13 = .ok (.invokevirtual 24, 3) := by decide +kernel
theorem dX0_keep_16 : decode cX0_keep 16 = .ok (.aload_n 0, 1) := by decide +kernel
theorem dX0_keep_17 : decode cX0_keep 17 = .ok (.getfield 11, 3) := by decide +kernel
theorem dX0_keep_20 : decode cX0_keep 20 = .ok (.aload_n 0, 1) := by decide +kernel
theorem dX0_keep_21 : decode cX0_keep 21 = .ok (.getfield 17, 3) := by decide +kernel
theorem dX0_keep_24 : decode cX0_keep 24 = .ok (.aaload, 1) := by decide +kernel
theorem dX0_keep_25 : decode cX0_keep 25 = .ok (.ifnonnull 19, 3) := by decide +kernel
theorem dX0_keep_28 : decode cX0_keep 28 = .ok (.aload_n 0, 1) := by decide +kernel
theorem dX0_keep_29 : decode cX0_keep 29 = .ok (.getfield 11, 3) := by decide +kernel
theorem dX0_keep_32 : decode cX0_keep 32 = .ok (.aload_n 0, 1) := by decide +kernel
theorem dX0_keep_33 : decode cX0_keep 33 = .ok (.getfield 17, 3) := by decide +kernel
theorem dX0_keep_36 : decode cX0_keep 36 = .ok (.new 9, 3) := by decide +kernel
theorem dX0_keep_39 : decode cX0_keep 39 = .ok (.dup, 1) := by decide +kernel
theorem dX0_keep_40 : decode cX0_keep 40 = .ok (.invokespecial 27, 3) := by decide +kernel
theorem dX0_keep_43 : decode cX0_keep 43 = .ok (.aastore, 1) := by decide +kernel
theorem dX0_keep_44 : decode cX0_keep 44 = .ok (.aload_n 0, 1) := by decide +kernel
theorem dX0_keep_45 : decode cX0_keep 45 = .ok (.getfield 11, 3) := by decide +kernel
theorem dX0_keep_48 : decode cX0_keep 48 = .ok (.aload_n 0, 1) := by decide +kernel
theorem dX0_keep_49 : decode cX0_keep 49 = .ok (.getfield 17, 3) := by decide +kernel
theorem dX0_keep_52 : decode cX0_keep 52 = .ok (.aaload, 1) := by decide +kernel
theorem dX0_keep_53 : decode cX0_keep 53 = .ok (.aload_n 1, 1) := by decide +kernel
theorem dX0_keep_54 : decode cX0_keep 54 = .ok (.invokevirtual 28, 3) := by decide +kernel
theorem dX0_keep_57 : decode cX0_keep 57 = .ok (.aload_n 0, 1) := by decide +kernel
theorem dX0_keep_58 : decode cX0_keep 58 = .ok (.dup, 1) := by decide +kernel
theorem dX0_keep_59 : decode cX0_keep 59 = .ok (.getfield 17, 3) := by decide +kernel
theorem dX0_keep_62 : decode cX0_keep 62 = .ok (.iconst 1, 1) := by decide +kernel
theorem dX0_keep_63 : decode cX0_keep 63 = .ok (.iadd, 1) := by decide +kernel
theorem dX0_keep_64 : decode cX0_keep 64 = .ok (.putfield 17, 3) := by decide +kernel
theorem dX0_keep_67 : decode cX0_keep 67 = .ok (.aload_n 0, 1) := by decide +kernel
theorem dX0_keep_68 : decode cX0_keep 68 = .ok (.aload_n 0, 1) := by decide +kernel
theorem dX0_keep_69 : decode cX0_keep 69 = .ok (.getfield 17, 3) := by decide +kernel
theorem dX0_keep_72 : decode cX0_keep 72 = .ok (.putfield 21, 3) := by decide +kernel
theorem dX0_keep_75 : decode cX0_keep 75 = .ok (.return_, 1) := by decide +kernel
theorem dX0_dropOldest_0 : decode cX0_dropOldest 0 = .ok (.aload_n 0, 1) := by decide +kernel
theorem dX0_dropOldest_1 : decode cX0_dropOldest 1 = .ok (.getfield 11, 3) := by decide +kernel
theorem dX0_dropOldest_4 : decode cX0_dropOldest 4 = .ok (.iconst 0, 1) := by decide +kernel
theorem dX0_dropOldest_5 : decode cX0_dropOldest 5 = .ok (.aaload, 1) := by decide +kernel
theorem dX0_dropOldest_6 : decode cX0_dropOldest 6 = .ok (.astore_n 1, 1) := by decide +kernel
theorem dX0_dropOldest_7 : decode cX0_dropOldest 7 = .ok (.iconst 1, 1) := by decide +kernel
theorem dX0_dropOldest_8 : decode cX0_dropOldest 8 = .ok (.istore_n 2, 1) := by decide +kernel
theorem dX0_dropOldest_9 : decode cX0_dropOldest 9 = .ok (.iload_n 2, 1) := by decide +kernel
theorem dX0_dropOldest_10 : decode cX0_dropOldest 10 = .ok (.aload_n 0, 1) := by decide +kernel
theorem dX0_dropOldest_11 : decode cX0_dropOldest 11 = .ok (.getfield 11, 3) := by decide +kernel
theorem dX0_dropOldest_14 : decode cX0_dropOldest 14 = .ok (.arraylength, 1) := by decide +kernel
theorem dX0_dropOldest_15 : decode cX0_dropOldest 15 = .ok (.if_icmp .ge 23, 3) := by decide +kernel
theorem dX0_dropOldest_18 : decode cX0_dropOldest 18 = .ok (.aload_n 0, 1) := by decide +kernel
theorem dX0_dropOldest_19 : decode cX0_dropOldest 19 = .ok (.getfield 11, 3) := by decide +kernel
theorem dX0_dropOldest_22 : decode cX0_dropOldest 22 = .ok (.iload_n 2, 1) := by decide +kernel
theorem dX0_dropOldest_23 : decode cX0_dropOldest 23 = .ok (.iconst 1, 1) := by decide +kernel
theorem dX0_dropOldest_24 : decode cX0_dropOldest 24 = .ok (.isub, 1) := by decide +kernel
theorem dX0_dropOldest_25 : decode cX0_dropOldest 25 = .ok (.aload_n 0, 1) := by decide +kernel
theorem dX0_dropOldest_26 : decode cX0_dropOldest 26 = .ok (.getfield 11, 3) := by decide +kernel
theorem dX0_dropOldest_29 : decode cX0_dropOldest 29 = .ok (.iload_n 2, 1) := by decide +kernel
theorem dX0_dropOldest_30 : decode cX0_dropOldest 30 = .ok (.aaload, 1) := by decide +kernel
theorem dX0_dropOldest_31 : decode cX0_dropOldest 31 = .ok (.aastore, 1) := by decide +kernel
theorem dX0_dropOldest_32 : decode cX0_dropOldest 32 = .ok (.iinc 2 1, 3) := by decide +kernel
theorem dX0_dropOldest_35 : decode cX0_dropOldest 35 = .ok (.goto (-26), 3) := by decide +kernel
theorem dX0_dropOldest_38 : decode cX0_dropOldest 38 = .ok (.aload_n 0, 1) := by decide +kernel
theorem dX0_dropOldest_39 : decode cX0_dropOldest 39 = .ok (.getfield 11, 3) := by decide +kernel
theorem dX0_dropOldest_42 : decode cX0_dropOldest 42 = .ok (.aload_n 0, 1) := by decide +kernel
theorem dX0_dropOldest_43 : decode cX0_dropOldest 43 = .ok (.getfield 11, 3) := by decide +kernel
theorem dX0_dropOldest_46 : decode cX0_dropOldest 46 = .ok (.arraylength, 1) := by decide +kernel
theorem dX0_dropOldest_47 : decode cX0_dropOldest 47 = .ok (.iconst 1, 1) := by decide +kernel
theorem dX0_dropOldest_48 : decode cX0_dropOldest 48 = .ok (.isub, 1) := by decide +kernel
theorem dX0_dropOldest_49 : decode cX0_dropOldest 49 = .ok (.aload_n 1, 1) := by decide +kernel
theorem dX0_dropOldest_50 : decode cX0_dropOldest 50 = .ok (.aastore, 1) := by decide +kernel
theorem dX0_dropOldest_51 : decode cX0_dropOldest 51 = .ok (.aload_n 0, 1) := by decide +kernel
theorem dX0_dropOldest_52 : decode cX0_dropOldest 52 = .ok (.aload_n 0, 1) := by decide +kernel
theorem dX0_dropOldest_53 : decode cX0_dropOldest 53 = .ok (.getfield 11, 3) := by decide +kernel
theorem dX0_dropOldest_56 : decode cX0_dropOldest 56 = .ok (.arraylength, 1) := by decide +kernel
theorem dX0_dropOldest_57 : decode cX0_dropOldest 57 = .ok (.iconst 1, 1) := by decide +kernel
theorem dX0_dropOldest_58 : decode cX0_dropOldest 58 = .ok (.isub, 1) := by decide +kernel
theorem dX0_dropOldest_59 : decode cX0_dropOldest 59 = .ok (.putfield 17, 3) := by decide +kernel
theorem dX0_dropOldest_62 : decode cX0_dropOldest 62 = .ok (.return_, 1) := by decide +kernel
theorem dX0_takenBack_0 : decode cX0_takenBack 0 = .ok (.aload_n 0, 1) := by decide +kernel
theorem dX0_takenBack_1 : decode cX0_takenBack 1 = .ok (.getfield 17, 3) := by decide +kernel
theorem dX0_takenBack_4 : decode cX0_takenBack 4 = .ok (.ifCond .gt 5, 3) := by decide +kernel
theorem dX0_takenBack_7 : decode cX0_takenBack 7 = .ok (.aconst_null, 1) := by decide +kernel
theorem dX0_takenBack_8 : decode cX0_takenBack 8 = .ok (.areturn, 1) := by decide +kernel
theorem dX0_takenBack_9 : decode cX0_takenBack 9 = .ok (.aload_n 0, 1) := by decide +kernel
theorem dX0_takenBack_10 : decode cX0_takenBack 10 = .ok (.dup, 1) := by decide +kernel
theorem dX0_takenBack_11 : decode cX0_takenBack 11 = .ok (.getfield 17, 3) := by decide +kernel
theorem dX0_takenBack_14 : decode cX0_takenBack 14 = .ok (.iconst 1, 1) := by decide +kernel
theorem dX0_takenBack_15 : decode cX0_takenBack 15 = .ok (.isub, 1) := by decide +kernel
theorem dX0_takenBack_16 : decode cX0_takenBack 16 = .ok (.putfield 17, 3) := by decide +kernel
theorem dX0_takenBack_19 : decode cX0_takenBack 19 = .ok (.aload_n 0, 1) := by decide +kernel
theorem dX0_takenBack_20 : decode cX0_takenBack 20 = .ok (.getfield 11, 3) := by decide +kernel
theorem dX0_takenBack_23 : decode cX0_takenBack 23 = .ok (.aload_n 0, 1) := by decide +kernel
theorem dX0_takenBack_24 : decode cX0_takenBack 24 = .ok (.getfield 17, 3) := by decide +kernel
theorem dX0_takenBack_27 : decode cX0_takenBack 27 = .ok (.aaload, 1) := by decide +kernel
theorem dX0_takenBack_28 : decode cX0_takenBack 28 = .ok (.astore_n 2, 1) := by decide +kernel
theorem dX0_takenBack_29 : decode cX0_takenBack 29 = .ok (.aload_n 0, 1) := by decide +kernel
theorem dX0_takenBack_30 : decode cX0_takenBack 30 = .ok (.getfield 11, 3) := by decide +kernel
theorem dX0_takenBack_33 : decode cX0_takenBack 33 = .ok (.aload_n 0, 1) := by decide +kernel
theorem dX0_takenBack_34 : decode cX0_takenBack 34 = .ok (.getfield 17, 3) := by decide +kernel
theorem dX0_takenBack_37 : decode cX0_takenBack 37 = .ok (.aload_n 1, 1) := by decide +kernel
theorem dX0_takenBack_38 : decode cX0_takenBack 38 = .ok (.aastore, 1) := by decide +kernel
theorem dX0_takenBack_39 : decode cX0_takenBack 39 = .ok (.aload_n 2, 1) := by decide +kernel
theorem dX0_takenBack_40 : decode cX0_takenBack 40 = .ok (.areturn, 1) := by decide +kernel
theorem dX0_doneAgain_0 : decode cX0_doneAgain 0 = .ok (.aload_n 0, 1) := by decide +kernel
theorem dX0_doneAgain_1 : decode cX0_doneAgain 1 = .ok (.getfield 17, 3) := by decide +kernel
theorem dX0_doneAgain_4 : decode cX0_doneAgain 4 = .ok (.aload_n 0, 1) := by decide +kernel
theorem dX0_doneAgain_5 : decode cX0_doneAgain 5 = .ok (.getfield 21, 3) := by decide +kernel
theorem dX0_doneAgain_8 : decode cX0_doneAgain 8 = .ok (.if_icmp .ge 15, 3) := by decide +kernel
theorem dX0_doneAgain_11 : decode cX0_doneAgain 11 = .ok (.aload_n 0, 1) := by decide +kernel
theorem dX0_doneAgain_12 : decode cX0_doneAgain 12 = .ok (.getfield 17, 3) := by decide +kernel
theorem dX0_doneAgain_15 : decode cX0_doneAgain 15 = .ok (.aload_n 0, 1) := by decide +kernel
theorem dX0_doneAgain_16 : decode cX0_doneAgain 16 = .ok (.getfield 11, 3) := by decide +kernel
theorem dX0_doneAgain_19 : decode cX0_doneAgain 19 = .ok (.arraylength, 1) := by decide +kernel
theorem dX0_doneAgain_20 : decode cX0_doneAgain 20 = .ok (.if_icmp .lt 5, 3) := by decide +kernel
theorem dX0_doneAgain_23 : decode cX0_doneAgain 23 = .ok (.aconst_null, 1) := by decide +kernel
theorem dX0_doneAgain_24 : decode cX0_doneAgain 24 = .ok (.areturn, 1) := by decide +kernel
theorem dX0_doneAgain_25 : decode cX0_doneAgain 25 = .ok (.aload_n 0, 1) := by decide +kernel
theorem dX0_doneAgain_26 : decode cX0_doneAgain 26 = .ok (.getfield 11, 3) := by decide +kernel
theorem dX0_doneAgain_29 : decode cX0_doneAgain 29 = .ok (.aload_n 0, 1) := by decide +kernel
theorem dX0_doneAgain_30 : decode cX0_doneAgain 30 = .ok (.getfield 17, 3) := by decide +kernel
theorem dX0_doneAgain_33 : decode cX0_doneAgain 33 = .ok (.aaload, 1) := by decide +kernel
theorem dX0_doneAgain_34 : decode cX0_doneAgain 34 = .ok (.astore_n 2, 1) := by decide +kernel
theorem dX0_doneAgain_35 : decode cX0_doneAgain 35 = .ok (.aload_n 0, 1) := by decide +kernel
theorem dX0_doneAgain_36 : decode cX0_doneAgain 36 = .ok (.getfield 11, 3) := by decide +kernel
theorem dX0_doneAgain_39 : decode cX0_doneAgain 39 = .ok (.aload_n 0, 1) := by decide +kernel
theorem dX0_doneAgain_40 : decode cX0_doneAgain 40 = .ok (.getfield 17, 3) := by decide +kernel
theorem dX0_doneAgain_43 : decode cX0_doneAgain 43 = .ok (.aload_n 1, 1) := by decide +kernel
theorem dX0_doneAgain_44 : decode cX0_doneAgain 44 = .ok (.aastore, 1) := by decide +kernel
theorem dX0_doneAgain_45 : decode cX0_doneAgain 45 = .ok (.aload_n 0, 1) := by decide +kernel
theorem dX0_doneAgain_46 : decode cX0_doneAgain 46 = .ok (.dup, 1) := by decide +kernel
theorem dX0_doneAgain_47 : decode cX0_doneAgain 47 = .ok (.getfield 17, 3) := by decide +kernel
theorem dX0_doneAgain_50 : decode cX0_doneAgain 50 = .ok (.iconst 1, 1) := by decide +kernel
theorem dX0_doneAgain_51 : decode cX0_doneAgain 51 = .ok (.iadd, 1) := by decide +kernel
theorem dX0_doneAgain_52 : decode cX0_doneAgain 52 = .ok (.putfield 17, 3) := by decide +kernel
theorem dX0_doneAgain_55 : decode cX0_doneAgain 55 = .ok (.aload_n 2, 1) := by decide +kernel
theorem dX0_doneAgain_56 : decode cX0_doneAgain 56 = .ok (.areturn, 1) := by decide +kernel
theorem dX1_init_0 : decode cX1_init 0 = .ok (.aload_n 0, 1) := by decide +kernel
theorem dX1_init_1 : decode cX1_init 1 = .ok (.invokespecial 3, 3) := by decide +kernel
theorem dX1_init_4 : decode cX1_init 4 = .ok (.aload_n 0, 1) := by decide +kernel
theorem dX1_init_5 : decode cX1_init 5 = .ok (.new 9, 3) := by decide +kernel
theorem dX1_init_8 : decode cX1_init 8 = .ok (.dup, 1) := by decide +kernel
theorem dX1_init_9 : decode cX1_init 9 = .ok (.invokespecial 11, 3) := by decide +kernel
theorem dX1_init_12 : decode cX1_init 12 = .ok (.putfield 12, 3) := by decide +kernel
theorem dX1_init_15 : decode cX1_init 15 = .ok (.aload_n 0, 1) := by decide +kernel
theorem dX1_init_16 : decode cX1_init 16 = .ok (.bipush 6, 2) := by decide +kernel
theorem dX1_init_18 : decode cX1_init 18 = .ok (.newarray .int, 2) := by decide +kernel
theorem dX1_init_20 : decode cX1_init 20 = .ok (.putfield 18, 3) := by decide +kernel
theorem dX1_init_23 : decode cX1_init 23 = .ok (.aload_n 0, 1) := by decide +kernel
theorem dX1_init_24 : decode cX1_init 24 = .ok (.iconst 4, 1) := by decide +kernel
theorem dX1_init_25 : decode cX1_init 25 = .ok (.newarray .int, 2) := by decide +kernel
theorem dX1_init_27 : decode cX1_init 27 = .ok (.putfield 22, 3) := by decide +kernel
theorem dX1_init_30 : decode cX1_init 30 = .ok (.aload_n 0, 1) := by decide +kernel
theorem dX1_init_31 : decode cX1_init 31 = .ok (.iconst 4, 1) := by decide +kernel
theorem dX1_init_32 : decode cX1_init 32 = .ok (.newarray .int, 2) := by decide +kernel
theorem dX1_init_34 : decode cX1_init 34 = .ok (.putfield 25, 3) := by decide +kernel
theorem dX1_init_37 : decode cX1_init 37 = .ok (.aload_n 0, 1) := by decide +kernel
theorem dX1_init_38 : decode cX1_init 38 = .ok (.iconst 2, 1) := by decide +kernel
theorem dX1_init_39 : decode cX1_init 39 = .ok (.newarray .int, 2) := by decide +kernel
theorem dX1_init_41 : decode cX1_init 41 = .ok (.putfield 28, 3) := by decide +kernel
theorem dX1_init_44 : decode cX1_init 44 = .ok (.aload_n 0, 1) := by decide +kernel
theorem dX1_init_45 : decode cX1_init 45 = .ok (.aload_n 1, 1) := by decide +kernel
theorem dX1_init_46 : decode cX1_init 46 = .ok (.putfield 31, 3) := by decide +kernel
theorem dX1_init_49 : decode cX1_init 49 = .ok (.aload_n 0, 1) := by decide +kernel
theorem dX1_init_50 : decode cX1_init 50 = .ok (.aload_n 2, 1) := by decide +kernel
theorem dX1_init_51 : decode cX1_init 51 = .ok (.putfield 35, 3) := by decide +kernel
theorem dX1_init_54 : decode cX1_init 54 = .ok (.return_, 1) := by decide +kernel
theorem dX1_passDays_0 : decode cX1_passDays 0 = .ok (.aload_n 0, 1) := by decide +kernel
theorem dX1_passDays_1 : decode cX1_passDays 1 = .ok (.getfield 12, 3) := by decide +kernel
theorem dX1_passDays_4 : decode cX1_passDays 4 = .ok (.aload_n 1, 1) := by decide +kernel
theorem dX1_passDays_5 : decode cX1_passDays 5 = .ok (.invokevirtual 39, 3) := by decide +kernel
theorem dX1_passDays_8 : decode cX1_passDays 8 = .ok (.iconst 0, 1) := by decide +kernel
theorem dX1_passDays_9 : decode cX1_passDays 9 = .ok (.istore 4, 2) := by decide +kernel
theorem dX1_passDays_11 : decode cX1_passDays 11 = .ok (.iconst 0, 1) := by decide +kernel
theorem dX1_passDays_12 : decode cX1_passDays 12 = .ok (.istore 5, 2) := by decide +kernel
theorem dX1_passDays_14 : decode cX1_passDays 14 = .ok (.iload 5, 2) := by decide +kernel
theorem dX1_passDays_16 : decode cX1_passDays 16 = .ok (.iload_n 2, 1) := by decide +kernel
theorem dX1_passDays_17 : decode cX1_passDays 17 = .ok (.if_icmp .ge 26, 3) := by decide +kernel
theorem dX1_passDays_20 : decode cX1_passDays 20 = .ok (.iload 4, 2) := by decide +kernel
theorem dX1_passDays_22 : decode cX1_passDays 22 = .ok (.aload_n 0, 1) := by decide +kernel
theorem dX1_passDays_23 : decode cX1_passDays 23 = .ok (.getfield 35, 3) := by decide +kernel
theorem dX1_passDays_26 : decode cX1_passDays 26 = .ok (.aload_n 0, 1) := by decide +kernel
theorem dX1_passDays_27 : decode cX1_passDays 27 = .ok (.getfield 12, 3) := by decide +kernel
theorem dX1_passDays_30 : decode cX1_passDays 30 = .ok (.iload_n 3, 1) := by decide +kernel
theorem dX1_passDays_31 : decode cX1_passDays 31 = .ok (.invokevirtual 43, 3) := by decide +kernel
theorem dX1_passDays_34 : decode cX1_passDays 34 = .ok (.iadd, 1) := by decide +kernel
theorem dX1_passDays_35 : decode cX1_passDays 35 = .ok (.istore 4, 2) := by decide +kernel
theorem dX1_passDays_37 : decode cX1_passDays 37 = .ok (.iinc 5 1, 3) := by decide +kernel
theorem dX1_passDays_40 : decode cX1_passDays 40 = .ok (.goto (-26), 3) := by decide +kernel
theorem dX1_passDays_43 : decode cX1_passDays 43 = .ok (.iload 4, 2) := by decide +kernel
theorem dX1_passDays_45 : decode cX1_passDays 45 = .ok (.ireturn, 1) := by decide +kernel
theorem dX1_passWithout_0 : decode cX1_passWithout 0 = .ok (.aload_n 0, 1) := by decide +kernel
theorem dX1_passWithout_1 : decode cX1_passWithout 1 = .ok (.getfield 12, 3) := by decide +kernel
theorem dX1_passWithout_4 : decode cX1_passWithout 4 = .ok (.aload_n 1, 1) := by decide +kernel
theorem dX1_passWithout_5 : decode cX1_passWithout 5 = .ok (.invokevirtual 39, 3) := by decide +kernel
theorem dX1_passWithout_8 : decode cX1_passWithout 8 = .ok (.aload_n 0, 1) := by decide +kernel
theorem dX1_passWithout_9 : decode cX1_passWithout 9 = .ok (.getfield 12, 3) := by decide +kernel
theorem dX1_passWithout_12 : decode cX1_passWithout 12 = .ok (.dup, 1) := by decide +kernel
theorem dX1_passWithout_13 : decode cX1_passWithout 13 = .ok (.getfield 49, 3) := by decide +kernel
theorem dX1_passWithout_16 : decode cX1_passWithout 16 = .ok (.iload_n 2, 1) := by decide +kernel
theorem dX1_passWithout_17 : decode cX1_passWithout 17 = .ok (.iconst (-1), 1) := by decide +kernel
theorem dX1_passWithout_18 : decode cX1_passWithout 18 = .ok (.ixor, 1) := by decide +kernel
theorem dX1_passWithout_19 : decode cX1_passWithout 19 = .ok (.iand, 1) := by decide +kernel
theorem dX1_passWithout_20 : decode cX1_passWithout 20 = .ok (.putfield 49, 3) := by decide +kernel
theorem dX1_passWithout_23 : decode cX1_passWithout 23 = .ok (.aload_n 0, 1) := by decide +kernel
theorem dX1_passWithout_24 : decode cX1_passWithout 24 = .ok (.getfield 35, 3) := by decide +kernel
theorem dX1_passWithout_27 : decode cX1_passWithout 27 = .ok (.aload_n 0, 1) := by decide +kernel
theorem dX1_passWithout_28 : decode cX1_passWithout 28 = .ok (.getfield 12, 3) := by decide +kernel
theorem dX1_passWithout_31 : decode cX1_passWithout 31 = .ok (.iconst 0, 1) := by decide +kernel
theorem dX1_passWithout_32 : decode cX1_passWithout 32 = .ok (.invokevirtual 43, 3) := by decide +kernel
theorem dX1_passWithout_35 : decode cX1_passWithout 35 = .ok (.ireturn, 1) := by decide +kernel
theorem dX1_bellsNextDay_0 : decode cX1_bellsNextDay 0 = .ok (.aload_n 0, 1) := by decide +kernel
theorem dX1_bellsNextDay_1 : decode cX1_bellsNextDay 1 = .ok (.aload_n 1, 1) := by decide +kernel
theorem dX1_bellsNextDay_2 : decode cX1_bellsNextDay 2 = .ok (.iconst 0, 1) := by decide +kernel
theorem dX1_bellsNextDay_3 : decode cX1_bellsNextDay 3 = .ok (.invokevirtual 53, 3) := by decide +kernel
theorem dX1_bellsNextDay_6 : decode cX1_bellsNextDay 6 = .ok (.pop, 1) := by decide +kernel
theorem dX1_bellsNextDay_7 : decode cX1_bellsNextDay 7 = .ok (.aload_n 0, 1) := by decide +kernel
theorem dX1_bellsNextDay_8 : decode cX1_bellsNextDay 8 = .ok (.getfield 35, 3) := by decide +kernel
theorem dX1_bellsNextDay_11 : decode cX1_bellsNextDay 11 = .ok (.iload_n 2, 1) := by decide +kernel
theorem dX1_bellsNextDay_12 : decode cX1_bellsNextDay 12 = .ok (.invokevirtual 57, 3) := by decide +kernel
theorem dX1_bellsNextDay_15 : decode cX1_bellsNextDay 15 = .ok (.ireturn, 1) := by decide +kernel
theorem dX1_silentNextDay_0 : decode cX1_silentNextDay 0 = .ok (.aload_n 0, 1) := by decide +kernel
theorem dX1_silentNextDay_1 : decode cX1_silentNextDay 1 = .ok (.aload_n 1, 1) := by decide +kernel
theorem dX1_silentNextDay_2 : decode cX1_silentNextDay 2 = .ok (.iconst 0, 1) := by decide +kernel
theorem dX1_silentNextDay_3 : decode cX1_silentNextDay 3 = .ok (.invokevirtual 53, 3) := by decide +kernel
theorem dX1_silentNextDay_6 : decode cX1_silentNextDay 6 = .ok (.pop, 1) := by decide +kernel
theorem dX1_silentNextDay_7 : decode cX1_silentNextDay 7 = .ok (.aload_n 0, 1) := by decide +kernel
theorem dX1_silentNextDay_8 : decode cX1_silentNextDay 8 = .ok (.getfield 35, 3) := by decide +kernel
theorem dX1_silentNextDay_11 : decode cX1_silentNextDay 11 = .ok (.iconst (-1), 1) := by decide +kernel
theorem dX1_silentNextDay_12 : decode cX1_silentNextDay 12 = .ok (.invokevirtual 57, 3) := by decide +kernel
theorem dX1_silentNextDay_15 : decode cX1_silentNextDay 15 = .ok (.ireturn, 1) := by decide +kernel
theorem dX1_ringsMost_0 : decode cX1_ringsMost 0 = .ok (.aload_n 0, 1) := by decide +kernel
theorem dX1_ringsMost_1 : decode cX1_ringsMost 1 = .ok (.aload_n 1, 1) := by decide +kernel
theorem dX1_ringsMost_2 : decode cX1_ringsMost 2 = .ok (.iconst 0, 1) := by decide +kernel
theorem dX1_ringsMost_3 : decode cX1_ringsMost 3 = .ok (.invokevirtual 53, 3) := by decide +kernel
theorem dX1_ringsMost_6 : decode cX1_ringsMost 6 = .ok (.pop, 1) := by decide +kernel
theorem dX1_ringsMost_7 : decode cX1_ringsMost 7 = .ok (.iconst (-1), 1) := by decide +kernel
theorem dX1_ringsMost_8 : decode cX1_ringsMost 8 = .ok (.istore_n 2, 1) := by decide +kernel
theorem dX1_ringsMost_9 : decode cX1_ringsMost 9 = .ok (.iconst 0, 1) := by decide +kernel
theorem dX1_ringsMost_10 : decode cX1_ringsMost 10 = .ok (.istore_n 3, 1) := by decide +kernel
theorem dX1_ringsMost_11 : decode cX1_ringsMost 11 = .ok (.iconst 0, 1) := by decide +kernel
theorem dX1_ringsMost_12 : decode cX1_ringsMost 12 = .ok (.istore 4, 2) := by decide +kernel
theorem dX1_ringsMost_14 : decode cX1_ringsMost 14 = .ok (.iload 4, 2) := by decide +kernel
theorem dX1_ringsMost_16 : decode cX1_ringsMost 16 = .ok (.aload_n 0, 1) := by decide +kernel
theorem dX1_ringsMost_17 : decode cX1_ringsMost 17 = .ok (.getfield 31, 3) := by decide +kernel
theorem dX1_ringsMost_20 : decode cX1_ringsMost 20 = .ok (.getfield 61, 3) := by decide +kernel
theorem dX1_ringsMost_23 : decode cX1_ringsMost 23 = .ok (.if_icmp .ge 35, 3) := by decide +kernel
theorem dX1_ringsMost_26 : decode cX1_ringsMost 26 = .ok (.aload_n 0, 1) := by decide +kernel
theorem dX1_ringsMost_27 : decode cX1_ringsMost 27 = .ok (.getfield 35, 3) := by decide +kernel
theorem dX1_ringsMost_30 : decode cX1_ringsMost 30 = .ok (.iload 4, 2) := by decide +kernel
theorem dX1_ringsMost_32 : decode cX1_ringsMost 32 = .ok (.invokevirtual 57, 3) := by decide +kernel
theorem dX1_ringsMost_35 : decode cX1_ringsMost 35 = .ok (.invokestatic 66, 3) := by decide +kernel
theorem dX1_ringsMost_38 : decode cX1_ringsMost 38 = .ok (.istore 5, 2) := by decide +kernel
theorem dX1_ringsMost_40 : decode cX1_ringsMost 40 = .ok (.iload 5, 2) := by decide +kernel
theorem dX1_ringsMost_42 : decode cX1_ringsMost 42 = .ok (.iload_n 3, 1) := by decide +kernel
theorem dX1_ringsMost_43 : decode cX1_ringsMost 43 = .ok (.if_icmp .le 9, 3) := by decide +kernel
theorem dX1_ringsMost_46 : decode cX1_ringsMost 46 = .ok (.iload 4, 2) := by decide +kernel
theorem dX1_ringsMost_48 : decode cX1_ringsMost 48 = .ok (.istore_n 2, 1) := by decide +kernel
theorem dX1_ringsMost_49 : decode cX1_ringsMost 49 = .ok (.iload 5, 2) := by decide +kernel
theorem dX1_ringsMost_51 : decode cX1_ringsMost 51 = .ok (.istore_n 3, 1) := by decide +kernel
theorem dX1_ringsMost_52 : decode cX1_ringsMost 52 = .ok (.iinc 4 1, 3) := by decide +kernel
theorem dX1_ringsMost_55 : decode cX1_ringsMost 55 = .ok (.goto (-41), 3) := by decide +kernel
theorem dX1_ringsMost_58 : decode cX1_ringsMost 58 = .ok (.iload_n 2, 1) := by decide +kernel
theorem dX1_ringsMost_59 : decode cX1_ringsMost 59 = .ok (.ireturn, 1) := by decide +kernel
theorem dX1_sentToHush_0 : decode cX1_sentToHush 0 = .ok (.iconst 1, 1) := by decide +kernel
theorem dX1_sentToHush_1 : decode cX1_sentToHush 1 = .ok (.aload_n 0, 1) := by decide +kernel
theorem dX1_sentToHush_2 : decode cX1_sentToHush 2 = .ok (.getfield 31, 3) := by decide +kernel
theorem dX1_sentToHush_5 : decode cX1_sentToHush 5 = .ok (.getfield 71, 3) := by decide +kernel
theorem dX1_sentToHush_8 : decode cX1_sentToHush 8 = .ok (.ishl, 1) := by decide +kernel
theorem dX1_sentToHush_9 : decode cX1_sentToHush 9 = .ok (.iconst 1, 1) := by decide +kernel
theorem dX1_sentToHush_10 : decode cX1_sentToHush 10 = .ok (.isub, 1) := by decide +kernel
theorem dX1_sentToHush_11 : decode cX1_sentToHush 11 = .ok (.istore_n 2, 1) := by decide +kernel
theorem dX1_sentToHush_12 : decode cX1_sentToHush 12 = .ok (.aload_n 1, 1) := by decide +kernel
theorem dX1_sentToHush_13 : decode cX1_sentToHush 13 = .ok (.getfield 49, 3) := by decide +kernel
theorem dX1_sentToHush_16 : decode cX1_sentToHush 16 = .ok (.istore_n 3, 1) := by decide +kernel
theorem dX1_sentToHush_17 : decode cX1_sentToHush 17 = .ok (.iconst 0, 1) := by decide +kernel
theorem dX1_sentToHush_18 : decode cX1_sentToHush 18 = .ok (.istore 4, 2) := by decide +kernel
theorem dX1_sentToHush_20 : decode cX1_sentToHush 20 = .ok (.iload 4, 2) := by decide +kernel
theorem dX1_sentToHush_22 : decode cX1_sentToHush 22 = .ok (.iconst 1, 1) := by decide +kernel
theorem dX1_sentToHush_23 : decode cX1_sentToHush 23 = .ok (.aload_n 0, 1) := by decide +kernel
theorem dX1_sentToHush_24 : decode cX1_sentToHush 24 = .ok (.getfield 31, 3) := by decide +kernel
theorem dX1_sentToHush_27 : decode cX1_sentToHush 27 = .ok (.getfield 61, 3) := by decide +kernel
theorem dX1_sentToHush_30 : decode cX1_sentToHush 30 = .ok (.ishl, 1) := by decide +kernel
theorem dX1_sentToHush_31 : decode cX1_sentToHush 31 = .ok (.if_icmp .ge 68, 3) := by decide +kernel
theorem dX1_sentToHush_34 : decode cX1_sentToHush 34 = .ok (.iload 4, 2) := by decide +kernel
theorem dX1_sentToHush_36 : decode cX1_sentToHush 36 = .ok (.invokestatic 66, 3) := by decide +kernel
theorem dX1_sentToHush_39 : decode cX1_sentToHush 39 = .ok (.iload_n 3, 1) := by decide +kernel
theorem dX1_sentToHush_40 : decode cX1_sentToHush 40 = .ok (.invokestatic 66, 3) := by decide +kernel
theorem dX1_sentToHush_43 : decode cX1_sentToHush 43 = .ok (.if_icmp .ge 7, 3) := by decide +kernel
theorem dX1_sentToHush_46 : decode cX1_sentToHush 46 = .ok (.iconst 1, 1) := by decide +kernel
theorem dX1_sentToHush_47 : decode cX1_sentToHush 47 = .ok (.goto 4, 3) := by decide +kernel
theorem dX1_sentToHush_50 : decode cX1_sentToHush 50 = .ok (.iconst 0, 1) := by decide +kernel
theorem dX1_sentToHush_51 : decode cX1_sentToHush 51 = .ok (.istore 5, 2) := by decide +kernel
theorem dX1_sentToHush_53 : decode cX1_sentToHush 53 = .ok (.iload 5, 2) := by decide +kernel
theorem dX1_sentToHush_55 : decode cX1_sentToHush 55 = .ok (.ifCond .eq 38, 3) := by decide +kernel
theorem dX1_sentToHush_58 : decode cX1_sentToHush 58 = .ok (.iload 4, 2) := by decide +kernel
theorem dX1_sentToHush_60 : decode cX1_sentToHush 60 = .ok (.aload_n 1, 1) := by decide +kernel
theorem dX1_sentToHush_61 : decode cX1_sentToHush 61 = .ok (.getfield 49, 3) := by decide +kernel
theorem dX1_sentToHush_64 : decode cX1_sentToHush 64 = .ok (.iconst (-1), 1) := by decide +kernel
theorem dX1_sentToHush_65 : decode cX1_sentToHush 65 = .ok (.ixor, 1) := by decide +kernel
theorem dX1_sentToHush_66 : decode cX1_sentToHush 66 = .ok (.iand, 1) := by decide +kernel
theorem dX1_sentToHush_67 : decode cX1_sentToHush 67 = .ok (.ifCond .ne 26, 3) := by decide +kernel
theorem dX1_sentToHush_70 : decode cX1_sentToHush 70 = .ok (.aload_n 0, 1) := by decide +kernel
theorem dX1_sentToHush_71 : decode cX1_sentToHush 71 = .ok (.aload_n 1, 1) := by decide +kernel
theorem dX1_sentToHush_72 : decode cX1_sentToHush 72 = .ok (.iload 4, 2) := by decide +kernel
theorem dX1_sentToHush_74 : decode cX1_sentToHush 74 = .ok (.invokevirtual 53, 3) := by decide +kernel
theorem dX1_sentToHush_77 : decode cX1_sentToHush 77 = .ok (.pop, 1) := by decide +kernel
theorem dX1_sentToHush_78 : decode cX1_sentToHush 78 = .ok (.aload_n 0, 1) := by decide +kernel
theorem dX1_sentToHush_79 : decode cX1_sentToHush 79 = .ok (.getfield 35, 3) := by decide +kernel
theorem dX1_sentToHush_82 : decode cX1_sentToHush 82 = .ok (.iconst (-1), 1) := by decide +kernel
theorem dX1_sentToHush_83 : decode cX1_sentToHush 83 = .ok (.invokevirtual 57, 3) := by decide +kernel
theorem dX1_sentToHush_86 : decode cX1_sentToHush 86 = .ok (.iload_n 2, 1) := by decide +kernel
theorem dX1_sentToHush_87 : decode cX1_sentToHush 87 = .ok (.if_icmp .ne 6, 3) := by decide +kernel
theorem dX1_sentToHush_90 : decode cX1_sentToHush 90 = .ok (.iload 4, 2) := by decide +kernel
theorem dX1_sentToHush_92 : decode cX1_sentToHush 92 = .ok (.istore_n 3, 1) := by decide +kernel
theorem dX1_sentToHush_93 : decode cX1_sentToHush 93 = .ok (.iinc 4 1, 3) := by decide +kernel
theorem dX1_sentToHush_96 : decode cX1_sentToHush 96 = .ok (.goto (-76), 3) := by decide +kernel
theorem dX1_sentToHush_99 : decode cX1_sentToHush 99 = .ok (.iload_n 3, 1) := by decide +kernel
theorem dX1_sentToHush_100 : decode cX1_sentToHush 100 = .ok (.ireturn, 1) := by decide +kernel
theorem dX1_bestSpared_0 : decode cX1_bestSpared 0 = .ok (.iconst (-1), 1) := by decide +kernel
theorem dX1_bestSpared_1 : decode cX1_bestSpared 1 = .ok (.istore_n 2, 1) := by decide +kernel
theorem dX1_bestSpared_2 : decode cX1_bestSpared 2 = .ok (.iconst 0, 1) := by decide +kernel
theorem dX1_bestSpared_3 : decode cX1_bestSpared 3 = .ok (.istore_n 3, 1) := by decide +kernel
theorem dX1_bestSpared_4 : decode cX1_bestSpared 4 = .ok (.iconst 0, 1) := by decide +kernel
theorem dX1_bestSpared_5 : decode cX1_bestSpared 5 = .ok (.istore 4, 2) := by decide +kernel
theorem dX1_bestSpared_7 : decode cX1_bestSpared 7 = .ok (.iload 4, 2) := by decide +kernel
theorem dX1_bestSpared_9 : decode cX1_bestSpared 9 = .ok (.aload_n 0, 1) := by decide +kernel
theorem dX1_bestSpared_10 : decode cX1_bestSpared 10 = .ok (.getfield 31, 3) := by decide +kernel
theorem dX1_bestSpared_13 : decode cX1_bestSpared 13 = .ok (.getfield 61, 3) := by decide +kernel
theorem dX1_bestSpared_16 : decode cX1_bestSpared 16 = .ok (.if_icmp .ge 46, 3) := by decide +kernel
theorem dX1_bestSpared_19 : decode cX1_bestSpared 19 = .ok (.aload_n 1, 1) := by decide +kernel
theorem dX1_bestSpared_20 : decode cX1_bestSpared 20 = .ok (.iload 4, 2) := by decide +kernel
theorem dX1_bestSpared_22 : decode cX1_bestSpared 22 = .ok (.invokevirtual 74, 3) := by decide +kernel
theorem dX1_bestSpared_25 : decode cX1_bestSpared 25 = .ok (.ifCond .eq 31, 3) := by decide +kernel
theorem dX1_bestSpared_28 : decode cX1_bestSpared 28 = .ok (.aload_n 0, 1) := by decide +kernel
theorem dX1_bestSpared_29 : decode cX1_bestSpared 29 = .ok (.aload_n 1, 1) := by decide +kernel
theorem dX1_bestSpared_30 : decode cX1_bestSpared 30 = .ok (.iconst 1, 1) := by decide +kernel
theorem dX1_bestSpared_31 : decode cX1_bestSpared 31 = .ok (.iload 4, 2) := by decide +kernel
theorem dX1_bestSpared_33 : decode cX1_bestSpared 33 = .ok (.ishl, 1) := by decide +kernel
theorem dX1_bestSpared_34 : decode cX1_bestSpared 34 = .ok (.invokevirtual 53, 3) := by decide +kernel
theorem dX1_bestSpared_37 : decode cX1_bestSpared 37 = .ok (.istore 5, 2) := by decide +kernel
theorem dX1_bestSpared_39 : decode cX1_bestSpared 39 = .ok (.iload_n 2, 1) := by decide +kernel
theorem dX1_bestSpared_40 : decode cX1_bestSpared 40 = .ok (.iconst (-1), 1) := by decide +kernel
theorem dX1_bestSpared_41 : decode cX1_bestSpared 41 = .ok (.if_icmp .eq 9, 3) := by decide +kernel
theorem dX1_bestSpared_44 : decode cX1_bestSpared 44 = .ok (.iload 5, 2) := by decide +kernel
theorem dX1_bestSpared_46 : decode cX1_bestSpared 46 = .ok (.iload_n 3, 1) := by decide +kernel
theorem dX1_bestSpared_47 : decode cX1_bestSpared 47 = .ok (.if_icmp .ge 9, 3) := by decide +kernel
theorem dX1_bestSpared_50 : decode cX1_bestSpared 50 = .ok (.iload 4, 2) := by decide +kernel
theorem dX1_bestSpared_52 : decode cX1_bestSpared 52 = .ok (.istore_n 2, 1) := by decide +kernel
theorem dX1_bestSpared_53 : decode cX1_bestSpared 53 = .ok (.iload 5, 2) := by decide +kernel
theorem dX1_bestSpared_55 : decode cX1_bestSpared 55 = .ok (.istore_n 3, 1) := by decide +kernel
theorem dX1_bestSpared_56 : decode cX1_bestSpared 56 = .ok (.iinc 4 1, 3) := by decide +kernel
theorem dX1_bestSpared_59 : decode cX1_bestSpared 59 = .ok (.goto (-52), 3) := by decide +kernel
theorem dX1_bestSpared_62 : decode cX1_bestSpared 62 = .ok (.iload_n 2, 1) := by decide +kernel
theorem dX1_bestSpared_63 : decode cX1_bestSpared 63 = .ok (.ireturn, 1) := by decide +kernel
theorem dX1_leastToRing_0 : decode cX1_leastToRing 0 = .ok (.iconst 1, 1) := by decide +kernel
theorem dX1_leastToRing_1 : decode cX1_leastToRing 1 = .ok (.istore 4, 2) := by decide +kernel
theorem dX1_leastToRing_3 : decode cX1_leastToRing 3 = .ok (.iload 4, 2) := by decide +kernel
theorem dX1_leastToRing_5 : decode cX1_leastToRing 5 = .ok (.bipush 20, 2) := by decide +kernel
theorem dX1_leastToRing_7 : decode cX1_leastToRing 7 = .ok (.if_icmp .gt 61, 3) := by decide +kernel
theorem dX1_leastToRing_10 : decode cX1_leastToRing 10 = .ok (.aload_n 0, 1) := by decide +kernel
theorem dX1_leastToRing_11 : decode cX1_leastToRing 11 = .ok (.getfield 12, 3) := by decide +kernel
theorem dX1_leastToRing_14 : decode cX1_leastToRing 14 = .ok (.aload_n 1, 1) := by decide +kernel
theorem dX1_leastToRing_15 : decode cX1_leastToRing 15 = .ok (.invokevirtual 39, 3) := by decide +kernel
theorem dX1_leastToRing_18 : decode cX1_leastToRing 18 = .ok (.aload_n 0, 1) := by decide +kernel
theorem dX1_leastToRing_19 : decode cX1_leastToRing 19 = .ok (.getfield 12, 3) := by decide +kernel
theorem dX1_leastToRing_22 : decode cX1_leastToRing 22 = .ok (.getfield 78, 3) := by decide +kernel
theorem dX1_leastToRing_25 : decode cX1_leastToRing 25 = .ok (.iload_n 2, 1) := by decide +kernel
theorem dX1_leastToRing_26 : decode cX1_leastToRing 26 = .ok (.iload_n 3, 1) := by decide +kernel
theorem dX1_leastToRing_27 : decode cX1_leastToRing 27 = .ok (.invokestatic 81, 3) := by decide +kernel
theorem dX1_leastToRing_30 : decode cX1_leastToRing 30 = .ok (.iload 4, 2) := by decide +kernel
theorem dX1_leastToRing_32 : decode cX1_leastToRing 32 = .ok (.iastore, 1) := by decide +kernel
theorem dX1_leastToRing_33 : decode cX1_leastToRing 33 = .ok (.aload_n 0, 1) := by decide +kernel
theorem dX1_leastToRing_34 : decode cX1_leastToRing 34 = .ok (.getfield 35, 3) := by decide +kernel
theorem dX1_leastToRing_37 : decode cX1_leastToRing 37 = .ok (.aload_n 0, 1) := by decide +kernel
theorem dX1_leastToRing_38 : decode cX1_leastToRing 38 = .ok (.getfield 12, 3) := by decide +kernel
theorem dX1_leastToRing_41 : decode cX1_leastToRing 41 = .ok (.iconst 0, 1) := by decide +kernel
theorem dX1_leastToRing_42 : decode cX1_leastToRing 42 = .ok (.invokevirtual 43, 3) := by decide +kernel
theorem dX1_leastToRing_45 : decode cX1_leastToRing 45 = .ok (.pop, 1) := by decide +kernel
theorem dX1_leastToRing_46 : decode cX1_leastToRing 46 = .ok (.aload_n 0, 1) := by decide +kernel
theorem dX1_leastToRing_47 : decode cX1_leastToRing 47 = .ok (.getfield 35, 3) := by decide +kernel
theorem dX1_leastToRing_50 : decode cX1_leastToRing 50 = .ok (.getfield 85, 3) := by decide +kernel
theorem dX1_leastToRing_53 : decode cX1_leastToRing 53 = .ok (.iload_n 3, 1) := by decide +kernel
theorem dX1_leastToRing_54 : decode cX1_leastToRing 54 = .ok (.iaload, 1) := by decide +kernel
theorem dX1_leastToRing_55 : decode cX1_leastToRing 55 = .ok (.iload_n 2, 1) := by decide +kernel
theorem dX1_leastToRing_56 : decode cX1_leastToRing 56 = .ok (.if_icmp .ne 6, 3) := by decide +kernel
theorem dX1_leastToRing_59 : decode cX1_leastToRing 59 = .ok (.iload 4, 2) := by decide +kernel
theorem dX1_leastToRing_61 : decode cX1_leastToRing 61 = .ok (.ireturn, 1) := by decide +kernel
theorem dX1_leastToRing_62 : decode cX1_leastToRing 62 = .ok (.iinc 4 1, 3) := by decide +kernel
theorem dX1_leastToRing_65 : decode cX1_leastToRing 65 = .ok (.goto (-62), 3) := by decide +kernel
theorem dX1_leastToRing_68 : decode cX1_leastToRing 68 = .ok (.iconst (-1), 1) := by decide +kernel
theorem dX1_leastToRing_69 : decode cX1_leastToRing 69 = .ok (.ireturn, 1) := by decide +kernel
theorem dX1_daysToNothing_0 : decode cX1_daysToNothing 0 = .ok (.aload_n 0, 1) := by decide +kernel
theorem dX1_daysToNothing_1 : decode cX1_daysToNothing 1 = .ok (.getfield 12, 3) := by decide +kernel
theorem dX1_daysToNothing_4 : decode cX1_daysToNothing 4 = .ok (.aload_n 1, 1) := by decide +kernel
theorem dX1_daysToNothing_5 : decode cX1_daysToNothing 5 = .ok (.invokevirtual 39, 3) := by decide +kernel
theorem dX1_daysToNothing_8 : decode cX1_daysToNothing 8 = .ok (.iconst 0, 1) := by decide +kernel
theorem dX1_daysToNothing_9 : decode cX1_daysToNothing 9 = .ok (.istore_n 3, 1) := by decide +kernel
theorem dX1_daysToNothing_10 : decode cX1_daysToNothing 10 = .ok (.iload_n 3, 1) := by decide +kernel
theorem dX1_daysToNothing_11 : decode cX1_daysToNothing 11 = .ok (.bipush 60, 2) := by decide +kernel
theorem dX1_daysToNothing_13 : decode cX1_daysToNothing 13 = .ok (.if_icmp .gt 36, 3) := by decide +kernel
theorem dX1_daysToNothing_16 : decode cX1_daysToNothing 16 = .ok (.aload_n 0, 1) := by decide +kernel
theorem dX1_daysToNothing_17 : decode cX1_daysToNothing 17 = .ok (.getfield 12, 3) := by decide +kernel
theorem dX1_daysToNothing_20 : decode cX1_daysToNothing 20 = .ok (.getfield 88, 3) := by decide +kernel
theorem dX1_daysToNothing_23 : decode cX1_daysToNothing 23 = .ok (.iload_n 2, 1) := by decide +kernel
theorem dX1_daysToNothing_24 : decode cX1_daysToNothing 24 = .ok (.iaload, 1) := by decide +kernel
theorem dX1_daysToNothing_25 : decode cX1_daysToNothing 25 = .ok (.ifCond .ne 5, 3) := by decide +kernel
theorem dX1_daysToNothing_28 : decode cX1_daysToNothing 28 = .ok (.iload_n 3, 1) := by decide +kernel
theorem dX1_daysToNothing_29 : decode cX1_daysToNothing 29 = .ok (.ireturn, 1) := by decide +kernel
theorem dX1_daysToNothing_30 : decode cX1_daysToNothing 30 = .ok (.aload_n 0, 1) := by decide +kernel
theorem dX1_daysToNothing_31 : decode cX1_daysToNothing 31 = .ok (.getfield 35, 3) := by decide +kernel
theorem dX1_daysToNothing_34 : decode cX1_daysToNothing 34 = .ok (.aload_n 0, 1) := by decide +kernel
theorem dX1_daysToNothing_35 : decode cX1_daysToNothing 35 = .ok (.getfield 12, 3) := by decide +kernel
theorem dX1_daysToNothing_38 : decode cX1_daysToNothing 38 = .ok (.iconst 0, 1) := by decide +kernel
theorem dX1_daysToNothing_39 : decode cX1_daysToNothing 39 = .ok (.invokevirtual 43, 3) := by decide +kernel
theorem dX1_daysToNothing_42 : decode cX1_daysToNothing 42 = .ok (.pop, 1) := by decide +kernel
theorem dX1_daysToNothing_43 : decode cX1_daysToNothing 43 = .ok (.iinc 3 1, 3) := by decide +kernel
theorem dX1_daysToNothing_46 : decode cX1_daysToNothing 46 = .ok (.goto (-36), 3) := by decide +kernel
theorem dX1_daysToNothing_49 : decode cX1_daysToNothing 49 = .ok (.iconst (-1), 1) := by decide +kernel
theorem dX1_daysToNothing_50 : decode cX1_daysToNothing 50 = .ok (.ireturn, 1) := by decide +kernel
theorem dX1_daysToSilence_0 : decode cX1_daysToSilence 0 = .ok (.aload_n 0, 1) := by decide +kernel
theorem dX1_daysToSilence_1 : decode cX1_daysToSilence 1 = .ok (.getfield 12, 3) := by decide +kernel
theorem dX1_daysToSilence_4 : decode cX1_daysToSilence 4 = .ok (.aload_n 1, 1) := by decide +kernel
theorem dX1_daysToSilence_5 : decode cX1_daysToSilence 5 = .ok (.invokevirtual 39, 3) := by decide +kernel
theorem dX1_daysToSilence_8 : decode cX1_daysToSilence 8 = .ok (.iconst 1, 1) := by decide +kernel
theorem dX1_daysToSilence_9 : decode cX1_daysToSilence 9 = .ok (.istore_n 3, 1) := by decide +kernel
theorem dX1_daysToSilence_10 : decode cX1_daysToSilence 10 = .ok (.iload_n 3, 1) := by decide +kernel
theorem dX1_daysToSilence_11 : decode cX1_daysToSilence 11 = .ok (.bipush 60, 2) := by decide +kernel
theorem dX1_daysToSilence_13 : decode cX1_daysToSilence 13 = .ok (.if_icmp .gt 37, 3) := by decide +kernel
theorem dX1_daysToSilence_16 : decode cX1_daysToSilence 16 = .ok (.aload_n 0, 1) := by decide +kernel
theorem dX1_daysToSilence_17 : decode cX1_daysToSilence 17 = .ok (.getfield 35, 3) := by decide +kernel
theorem dX1_daysToSilence_20 : decode cX1_daysToSilence 20 = .ok (.aload_n 0, 1) := by decide +kernel
theorem dX1_daysToSilence_21 : decode cX1_daysToSilence 21 = .ok (.getfield 12, 3) := by decide +kernel
theorem dX1_daysToSilence_24 : decode cX1_daysToSilence 24 = .ok (.iconst 0, 1) := by decide +kernel
theorem dX1_daysToSilence_25 : decode cX1_daysToSilence 25 = .ok (.invokevirtual 43, 3) := by decide +kernel
theorem dX1_daysToSilence_28 : decode cX1_daysToSilence 28 = .ok (.pop, 1) := by decide +kernel
theorem dX1_daysToSilence_29 : decode cX1_daysToSilence 29 = .ok (.aload_n 0, 1) := by decide +kernel
theorem dX1_daysToSilence_30 : decode cX1_daysToSilence 30 = .ok (.getfield 35, 3) := by decide +kernel
theorem dX1_daysToSilence_33 : decode cX1_daysToSilence 33 = .ok (.getfield 85, 3) := by decide +kernel
theorem dX1_daysToSilence_36 : decode cX1_daysToSilence 36 = .ok (.iload_n 2, 1) := by decide +kernel
theorem dX1_daysToSilence_37 : decode cX1_daysToSilence 37 = .ok (.iaload, 1) := by decide +kernel
theorem dX1_daysToSilence_38 : decode cX1_daysToSilence 38 = .ok (.iconst (-1), 1) := by decide +kernel
theorem dX1_daysToSilence_39 : decode cX1_daysToSilence 39 = .ok (.if_icmp .ne 5, 3) := by decide +kernel
theorem dX1_daysToSilence_42 : decode cX1_daysToSilence 42 = .ok (.iload_n 3, 1) := by decide +kernel
theorem dX1_daysToSilence_43 : decode cX1_daysToSilence 43 = .ok (.ireturn, 1) := by decide +kernel
theorem dX1_daysToSilence_44 : decode cX1_daysToSilence 44 = .ok (.iinc 3 1, 3) := by decide +kernel
theorem dX1_daysToSilence_47 : decode cX1_daysToSilence 47 = .ok (.goto (-37), 3) := by decide +kernel
theorem dX1_daysToSilence_50 : decode cX1_daysToSilence 50 = .ok (.iconst (-1), 1) := by decide +kernel
theorem dX1_daysToSilence_51 : decode cX1_daysToSilence 51 = .ok (.ireturn, 1) := by decide +kernel
theorem dX1_idleFor_0 : decode cX1_idleFor 0 = .ok (.aload_n 0, 1) := by decide +kernel
theorem dX1_idleFor_1 : decode cX1_idleFor 1 = .ok (.getfield 12, 3) := by decide +kernel
theorem dX1_idleFor_4 : decode cX1_idleFor 4 = .ok (.aload_n 1, 1) := by decide +kernel
theorem dX1_idleFor_5 : decode cX1_idleFor 5 = .ok (.invokevirtual 39, 3) := by decide +kernel
theorem dX1_idleFor_8 : decode cX1_idleFor 8 = .ok (.aload_n 1, 1) := by decide +kernel
theorem dX1_idleFor_9 : decode cX1_idleFor 9 = .ok (.getfield 49, 3) := by decide +kernel
theorem dX1_idleFor_12 : decode cX1_idleFor 12 = .ok (.istore_n 3, 1) := by decide +kernel
theorem dX1_idleFor_13 : decode cX1_idleFor 13 = .ok (.iconst 0, 1) := by decide +kernel
theorem dX1_idleFor_14 : decode cX1_idleFor 14 = .ok (.istore 4, 2) := by decide +kernel
theorem dX1_idleFor_16 : decode cX1_idleFor 16 = .ok (.iload 4, 2) := by decide +kernel
theorem dX1_idleFor_18 : decode cX1_idleFor 18 = .ok (.iload_n 2, 1) := by decide +kernel
theorem dX1_idleFor_19 : decode cX1_idleFor 19 = .ok (.if_icmp .ge 74, 3) := by decide +kernel
theorem dX1_idleFor_22 : decode cX1_idleFor 22 = .ok (.aload_n 0, 1) := by decide +kernel
theorem dX1_idleFor_23 : decode cX1_idleFor 23 = .ok (.getfield 35, 3) := by decide +kernel
theorem dX1_idleFor_26 : decode cX1_idleFor 26 = .ok (.aload_n 0, 1) := by decide +kernel
theorem dX1_idleFor_27 : decode cX1_idleFor 27 = .ok (.getfield 12, 3) := by decide +kernel
theorem dX1_idleFor_30 : decode cX1_idleFor 30 = .ok (.iconst 0, 1) := by decide +kernel
theorem dX1_idleFor_31 : decode cX1_idleFor 31 = .ok (.invokevirtual 43, 3) := by decide +kernel
theorem dX1_idleFor_34 : decode cX1_idleFor 34 = .ok (.pop, 1) := by decide +kernel
theorem dX1_idleFor_35 : decode cX1_idleFor 35 = .ok (.iconst 0, 1) := by decide +kernel
theorem dX1_idleFor_36 : decode cX1_idleFor 36 = .ok (.istore 5, 2) := by decide +kernel
theorem dX1_idleFor_38 : decode cX1_idleFor 38 = .ok (.iload 5, 2) := by decide +kernel
theorem dX1_idleFor_40 : decode cX1_idleFor 40 = .ok (.aload_n 0, 1) := by decide +kernel
theorem dX1_idleFor_41 : decode cX1_idleFor 41 = .ok (.getfield 31, 3) := by decide +kernel
theorem dX1_idleFor_44 : decode cX1_idleFor 44 = .ok (.getfield 71, 3) := by decide +kernel
theorem dX1_idleFor_47 : decode cX1_idleFor 47 = .ok (.if_icmp .ge 40, 3) := by decide +kernel
theorem dX1_idleFor_50 : decode cX1_idleFor 50 = .ok (.aload_n 0, 1) := by decide +kernel
theorem dX1_idleFor_51 : decode cX1_idleFor 51 = .ok (.getfield 35, 3) := by decide +kernel
theorem dX1_idleFor_54 : decode cX1_idleFor 54 = .ok (.getfield 85, 3) := by decide +kernel
theorem dX1_idleFor_57 : decode cX1_idleFor 57 = .ok (.iload 5, 2) := by decide +kernel
theorem dX1_idleFor_59 : decode cX1_idleFor 59 = .ok (.iaload, 1) := by decide +kernel
theorem dX1_idleFor_60 : decode cX1_idleFor 60 = .ok (.iconst (-1), 1) := by decide +kernel
theorem dX1_idleFor_61 : decode cX1_idleFor 61 = .ok (.if_icmp .eq 20, 3) := by decide +kernel
theorem dX1_idleFor_64 : decode cX1_idleFor 64 = .ok (.iload_n 3, 1) := by decide +kernel
theorem dX1_idleFor_65 : decode cX1_idleFor 65 = .ok (.iconst 1, 1) := by decide +kernel
theorem dX1_idleFor_66 : decode cX1_idleFor 66 = .ok (.aload_n 0, 1) := by decide +kernel
theorem dX1_idleFor_67 : decode cX1_idleFor 67 = .ok (.getfield 35, 3) := by decide +kernel
theorem dX1_idleFor_70 : decode cX1_idleFor 70 = .ok (.getfield 85, 3) := by decide +kernel
theorem dX1_idleFor_73 : decode cX1_idleFor 73 = .ok (.iload 5, 2) := by decide +kernel
theorem dX1_idleFor_75 : decode cX1_idleFor 75 = .ok (.iaload, 1) := by decide +kernel
theorem dX1_idleFor_76 : decode cX1_idleFor 76 = .ok (.ishl, 1) := by decide +kernel
theorem dX1_idleFor_77 : decode cX1_idleFor 77 = .ok (.iconst (-1), 1) := by decide +kernel
theorem dX1_idleFor_78 : decode cX1_idleFor 78 = .ok (.ixor, 1) := by decide +kernel
theorem dX1_idleFor_79 : decode cX1_idleFor 79 = .ok (.iand, 1) := by decide +kernel
theorem dX1_idleFor_80 : decode cX1_idleFor 80 = .ok (.istore_n 3, 1) := by decide +kernel
theorem dX1_idleFor_81 : decode cX1_idleFor 81 = .ok (.iinc 5 1, 3) := by decide +kernel
theorem dX1_idleFor_84 : decode cX1_idleFor 84 = .ok (.goto (-46), 3) := by decide +kernel
theorem dX1_idleFor_87 : decode cX1_idleFor 87 = .ok (.iinc 4 1, 3) := by decide +kernel
theorem dX1_idleFor_90 : decode cX1_idleFor 90 = .ok (.goto (-74), 3) := by decide +kernel
theorem dX1_idleFor_93 : decode cX1_idleFor 93 = .ok (.iload_n 3, 1) := by decide +kernel
theorem dX1_idleFor_94 : decode cX1_idleFor 94 = .ok (.ireturn, 1) := by decide +kernel
theorem dX1_rungIfAllLose_0 : decode cX1_rungIfAllLose 0 = .ok (.aload_n 0, 1) := by decide +kernel
theorem dX1_rungIfAllLose_1 : decode cX1_rungIfAllLose 1 = .ok (.getfield 12, 3) := by decide +kernel
theorem dX1_rungIfAllLose_4 : decode cX1_rungIfAllLose 4 = .ok (.aload_n 1, 1) := by decide +kernel
theorem dX1_rungIfAllLose_5 : decode cX1_rungIfAllLose 5 = .ok (.invokevirtual 39, 3) := by decide +kernel
theorem dX1_rungIfAllLose_8 : decode cX1_rungIfAllLose 8 = .ok (.iconst 0, 1) := by decide +kernel
theorem dX1_rungIfAllLose_9 : decode cX1_rungIfAllLose 9 = .ok (.istore_n 3, 1) := by decide +kernel
theorem dX1_rungIfAllLose_10 : decode cX1_rungIfAllLose 10 = .ok (.iload_n 3, 1) := by decide +kernel
theorem dX1_rungIfAllLose_11 : decode cX1_rungIfAllLose 11 = .ok (.bipush 30, 2) := by decide +kernel
theorem dX1_rungIfAllLose_13 : decode cX1_rungIfAllLose 13 = .ok (.if_icmp .ge 31, 3) := by decide +kernel
theorem dX1_rungIfAllLose_16 : decode cX1_rungIfAllLose 16 = .ok (.aload_n 0, 1) := by decide +kernel
theorem dX1_rungIfAllLose_17 : decode cX1_rungIfAllLose 17 = .ok (.getfield 12, 3) := by decide +kernel
theorem dX1_rungIfAllLose_20 : decode cX1_rungIfAllLose 20 = .ok (.getfield 78, 3) := by decide +kernel
theorem dX1_rungIfAllLose_23 : decode cX1_rungIfAllLose 23 = .ok (.iload_n 3, 1) := by decide +kernel
theorem dX1_rungIfAllLose_24 : decode cX1_rungIfAllLose 24 = .ok (.iaload, 1) := by decide +kernel
theorem dX1_rungIfAllLose_25 : decode cX1_rungIfAllLose 25 = .ok (.ifCond .le 13, 3) := by decide +kernel
theorem dX1_rungIfAllLose_28 : decode cX1_rungIfAllLose 28 = .ok (.aload_n 0, 1) := by decide +kernel
theorem dX1_rungIfAllLose_29 : decode cX1_rungIfAllLose 29 = .ok (.getfield 12, 3) := by decide +kernel
theorem dX1_rungIfAllLose_32 : decode cX1_rungIfAllLose 32 = .ok (.getfield 78, 3) := by decide +kernel
theorem dX1_rungIfAllLose_35 : decode cX1_rungIfAllLose 35 = .ok (.iload_n 3, 1) := by decide +kernel
theorem dX1_rungIfAllLose_36 : decode cX1_rungIfAllLose 36 = .ok (.iload_n 2, 1) := by decide +kernel
theorem dX1_rungIfAllLose_37 : decode cX1_rungIfAllLose 37 = .ok (.iastore, 1) := by decide +kernel
theorem dX1_rungIfAllLose_38 : decode cX1_rungIfAllLose 38 = .ok (.iinc 3 1, 3) := by decide +kernel
theorem dX1_rungIfAllLose_41 : decode cX1_rungIfAllLose 41 = .ok (.goto (-31), 3) := by decide +kernel
theorem dX1_rungIfAllLose_44 : decode cX1_rungIfAllLose 44 = .ok (.aload_n 0, 1) := by decide +kernel
theorem dX1_rungIfAllLose_45 : decode cX1_rungIfAllLose 45 = .ok (.getfield 35, 3) := by decide +kernel
theorem dX1_rungIfAllLose_48 : decode cX1_rungIfAllLose 48 = .ok (.aload_n 0, 1) := by decide +kernel
theorem dX1_rungIfAllLose_49 : decode cX1_rungIfAllLose 49 = .ok (.getfield 12, 3) := by decide +kernel
theorem dX1_rungIfAllLose_52 : decode cX1_rungIfAllLose 52 = .ok (.iconst 0, 1) := by decide +kernel
theorem dX1_rungIfAllLose_53 : decode cX1_rungIfAllLose 53 = .ok (.invokevirtual 43, 3) := by decide +kernel
theorem dX1_rungIfAllLose_56 : decode cX1_rungIfAllLose 56 = .ok (.pop, 1) := by decide +kernel
theorem dX1_rungIfAllLose_57 : decode cX1_rungIfAllLose 57 = .ok (.aload_n 0, 1) := by decide +kernel
theorem dX1_rungIfAllLose_58 : decode cX1_rungIfAllLose 58 = .ok (.getfield 31, 3) := by decide +kernel
theorem dX1_rungIfAllLose_61 : decode cX1_rungIfAllLose 61 = .ok (.getfield 71, 3) := by decide +kernel
theorem dX1_rungIfAllLose_64 : decode cX1_rungIfAllLose 64 = .ok (.aload_n 0, 1) := by decide +kernel
theorem dX1_rungIfAllLose_65 : decode cX1_rungIfAllLose 65 = .ok (.getfield 35, 3) := by decide +kernel
theorem dX1_rungIfAllLose_68 : decode cX1_rungIfAllLose 68 = .ok (.iconst (-1), 1) := by decide +kernel
theorem dX1_rungIfAllLose_69 : decode cX1_rungIfAllLose 69 = .ok (.invokevirtual 57, 3) := by decide +kernel
theorem dX1_rungIfAllLose_72 : decode cX1_rungIfAllLose 72 = .ok (.invokestatic 66, 3) := by decide +kernel
theorem dX1_rungIfAllLose_75 : decode cX1_rungIfAllLose 75 = .ok (.isub, 1) := by decide +kernel
theorem dX1_rungIfAllLose_76 : decode cX1_rungIfAllLose 76 = .ok (.ireturn, 1) := by decide +kernel
theorem dX1_hiddenBehind_0 : decode cX1_hiddenBehind 0 = .ok (.aload_n 0, 1) := by decide +kernel
theorem dX1_hiddenBehind_1 : decode cX1_hiddenBehind 1 = .ok (.aload_n 1, 1) := by decide +kernel
theorem dX1_hiddenBehind_2 : decode cX1_hiddenBehind 2 = .ok (.iconst 0, 1) := by decide +kernel
theorem dX1_hiddenBehind_3 : decode cX1_hiddenBehind 3 = .ok (.invokevirtual 53, 3) := by decide +kernel
theorem dX1_hiddenBehind_6 : decode cX1_hiddenBehind 6 = .ok (.pop, 1) := by decide +kernel
theorem dX1_hiddenBehind_7 : decode cX1_hiddenBehind 7 = .ok (.iconst 0, 1) := by decide +kernel
theorem dX1_hiddenBehind_8 : decode cX1_hiddenBehind 8 = .ok (.istore_n 3, 1) := by decide +kernel
theorem dX1_hiddenBehind_9 : decode cX1_hiddenBehind 9 = .ok (.iload_n 3, 1) := by decide +kernel
theorem dX1_hiddenBehind_10 : decode cX1_hiddenBehind 10 = .ok (.aload_n 0, 1) := by decide +kernel
theorem dX1_hiddenBehind_11 : decode cX1_hiddenBehind 11 = .ok (.getfield 31, 3) := by decide +kernel
theorem dX1_hiddenBehind_14 : decode cX1_hiddenBehind 14 = .ok (.getfield 61, 3) := by decide +kernel
theorem dX1_hiddenBehind_17 : decode cX1_hiddenBehind 17 = .ok (.if_icmp .ge 23, 3) := by decide +kernel
theorem dX1_hiddenBehind_20 : decode cX1_hiddenBehind 20 = .ok (.aload_n 0, 1) := by decide +kernel
theorem dX1_hiddenBehind_21 : decode cX1_hiddenBehind 21 = .ok (.getfield 18, 3) := by decide +kernel
theorem dX1_hiddenBehind_24 : decode cX1_hiddenBehind 24 = .ok (.iload_n 3, 1) := by decide +kernel
theorem dX1_hiddenBehind_25 : decode cX1_hiddenBehind 25 = .ok (.aload_n 0, 1) := by decide +kernel
theorem dX1_hiddenBehind_26 : decode cX1_hiddenBehind 26 = .ok (.getfield 35, 3) := by decide +kernel
theorem dX1_hiddenBehind_29 : decode cX1_hiddenBehind 29 = .ok (.iload_n 3, 1) := by decide +kernel
theorem dX1_hiddenBehind_30 : decode cX1_hiddenBehind 30 = .ok (.invokevirtual 57, 3) := by decide +kernel
theorem dX1_hiddenBehind_33 : decode cX1_hiddenBehind 33 = .ok (.iastore, 1) := by decide +kernel
theorem dX1_hiddenBehind_34 : decode cX1_hiddenBehind 34 = .ok (.iinc 3 1, 3) := by decide +kernel
theorem dX1_hiddenBehind_37 : decode cX1_hiddenBehind 37 = .ok (.goto (-28), 3) := by decide +kernel
theorem dX1_hiddenBehind_40 : decode cX1_hiddenBehind 40 = .ok (.aload_n 0, 1) := by decide +kernel
theorem dX1_hiddenBehind_41 : decode cX1_hiddenBehind 41 = .ok (.aload_n 1, 1) := by decide +kernel
theorem dX1_hiddenBehind_42 : decode cX1_hiddenBehind 42 = .ok (.iconst 1, 1) := by decide +kernel
theorem dX1_hiddenBehind_43 : decode cX1_hiddenBehind 43 = .ok (.iload_n 2, 1) := by decide +kernel
theorem dX1_hiddenBehind_44 : decode cX1_hiddenBehind 44 = .ok (.ishl, 1) := by decide +kernel
theorem dX1_hiddenBehind_45 : decode cX1_hiddenBehind 45 = .ok (.invokevirtual 53, 3) := by decide +kernel
theorem dX1_hiddenBehind_48 : decode cX1_hiddenBehind 48 = .ok (.pop, 1) := by decide +kernel
theorem dX1_hiddenBehind_49 : decode cX1_hiddenBehind 49 = .ok (.iconst 0, 1) := by decide +kernel
theorem dX1_hiddenBehind_50 : decode cX1_hiddenBehind 50 = .ok (.istore_n 3, 1) := by decide +kernel
theorem dX1_hiddenBehind_51 : decode cX1_hiddenBehind 51 = .ok (.iconst 0, 1) := by decide +kernel
theorem dX1_hiddenBehind_52 : decode cX1_hiddenBehind 52 = .ok (.istore 4, 2) := by decide +kernel
theorem dX1_hiddenBehind_54 : decode cX1_hiddenBehind 54 = .ok (.iload 4, 2) := by decide +kernel
theorem dX1_hiddenBehind_56 : decode cX1_hiddenBehind 56 = .ok (.aload_n 0, 1) := by decide +kernel
theorem dX1_hiddenBehind_57 : decode cX1_hiddenBehind 57 = .ok (.getfield 31, 3) := by decide +kernel
theorem dX1_hiddenBehind_60 : decode cX1_hiddenBehind 60 = .ok (.getfield 61, 3) := by decide +kernel
theorem dX1_hiddenBehind_63 : decode cX1_hiddenBehind 63 = .ok (.if_icmp .ge 38, 3) := by decide +kernel
theorem dX1_hiddenBehind_66 : decode cX1_hiddenBehind 66 = .ok (.aload_n 0, 1) := by decide +kernel
theorem dX1_hiddenBehind_67 : decode cX1_hiddenBehind 67 = .ok (.getfield 35, 3) := by decide +kernel
theorem dX1_hiddenBehind_70 : decode cX1_hiddenBehind 70 = .ok (.iload 4, 2) := by decide +kernel
theorem dX1_hiddenBehind_72 : decode cX1_hiddenBehind 72 = .ok (.invokevirtual 57, 3) := by decide +kernel
theorem dX1_hiddenBehind_75 : decode cX1_hiddenBehind 75 = .ok (.aload_n 0, 1) := by decide +kernel
theorem dX1_hiddenBehind_76 : decode cX1_hiddenBehind 76 = .ok (.getfield 18, 3) := by decide +kernel
theorem dX1_hiddenBehind_79 : decode cX1_hiddenBehind 79 = .ok (.iload 4, 2) := by decide +kernel
theorem dX1_hiddenBehind_81 : decode cX1_hiddenBehind 81 = .ok (.iaload, 1) := by decide +kernel
theorem dX1_hiddenBehind_82 : decode cX1_hiddenBehind 82 = .ok (.iconst (-1), 1) := by decide +kernel
theorem dX1_hiddenBehind_83 : decode cX1_hiddenBehind 83 = .ok (.ixor, 1) := by decide +kernel
theorem dX1_hiddenBehind_84 : decode cX1_hiddenBehind 84 = .ok (.iand, 1) := by decide +kernel
theorem dX1_hiddenBehind_85 : decode cX1_hiddenBehind 85 = .ok (.ifCond .eq 10, 3) := by decide +kernel
theorem dX1_hiddenBehind_88 : decode cX1_hiddenBehind 88 = .ok (.iload_n 3, 1) := by decide +kernel
theorem dX1_hiddenBehind_89 : decode cX1_hiddenBehind 89 = .ok (.iconst 1, 1) := by decide +kernel
theorem dX1_hiddenBehind_90 : decode cX1_hiddenBehind 90 = .ok (.iload 4, 2) := by decide +kernel
theorem dX1_hiddenBehind_92 : decode cX1_hiddenBehind 92 = .ok (.ishl, 1) := by decide +kernel
theorem dX1_hiddenBehind_93 : decode cX1_hiddenBehind 93 = .ok (.ior, 1) := by decide +kernel
theorem dX1_hiddenBehind_94 : decode cX1_hiddenBehind 94 = .ok (.istore_n 3, 1) := by decide +kernel
theorem dX1_hiddenBehind_95 : decode cX1_hiddenBehind 95 = .ok (.iinc 4 1, 3) := by decide +kernel
theorem dX1_hiddenBehind_98 : decode cX1_hiddenBehind 98 = .ok (.goto (-44), 3) := by decide +kernel
theorem dX1_hiddenBehind_101 : decode cX1_hiddenBehind 101 = .ok (.iload_n 3, 1) := by decide +kernel
theorem dX1_hiddenBehind_102 : decode cX1_hiddenBehind 102 = .ok (.ireturn, 1) := by decide +kernel
theorem dX1_restsOfTwo_0 : decode cX1_restsOfTwo 0 = .ok (.iconst 0, 1) := by decide +kernel
theorem dX1_restsOfTwo_1 : decode cX1_restsOfTwo 1 = .ok (.istore 4, 2) := by decide +kernel
theorem dX1_restsOfTwo_3 : decode cX1_restsOfTwo 3 = .ok (.iload 4, 2) := by decide +kernel
theorem dX1_restsOfTwo_5 : decode cX1_restsOfTwo 5 = .ok (.iconst 4, 1) := by decide +kernel
theorem dX1_restsOfTwo_6 : decode cX1_restsOfTwo 6 = .ok (.if_icmp .ge 78, 3) := by decide +kernel
theorem dX1_restsOfTwo_9 : decode cX1_restsOfTwo 9 = .ok (.iload 4, 2) := by decide +kernel
theorem dX1_restsOfTwo_11 : decode cX1_restsOfTwo 11 = .ok (.iconst 2, 1) := by decide +kernel
theorem dX1_restsOfTwo_12 : decode cX1_restsOfTwo 12 = .ok (.iand, 1) := by decide +kernel
theorem dX1_restsOfTwo_13 : decode cX1_restsOfTwo 13 = .ok (.ifCond .ne 9, 3) := by decide +kernel
theorem dX1_restsOfTwo_16 : decode cX1_restsOfTwo 16 = .ok (.iconst 1, 1) := by decide +kernel
theorem dX1_restsOfTwo_17 : decode cX1_restsOfTwo 17 = .ok (.iload_n 2, 1) := by decide +kernel
theorem dX1_restsOfTwo_18 : decode cX1_restsOfTwo 18 = .ok (.ishl, 1) := by decide +kernel
theorem dX1_restsOfTwo_19 : decode cX1_restsOfTwo 19 = .ok (.goto 4, 3) := by decide +kernel
theorem dX1_restsOfTwo_22 : decode cX1_restsOfTwo 22 = .ok (.iconst 0, 1) := by decide +kernel
theorem dX1_restsOfTwo_23 : decode cX1_restsOfTwo 23 = .ok (.istore 5, 2) := by decide +kernel
theorem dX1_restsOfTwo_25 : decode cX1_restsOfTwo 25 = .ok (.iload 5, 2) := by decide +kernel
theorem dX1_restsOfTwo_27 : decode cX1_restsOfTwo 27 = .ok (.iload 4, 2) := by decide +kernel
theorem dX1_restsOfTwo_29 : decode cX1_restsOfTwo 29 = .ok (.iconst 1, 1) := by decide +kernel
theorem dX1_restsOfTwo_30 : decode cX1_restsOfTwo 30 = .ok (.iand, 1) := by decide +kernel
theorem dX1_restsOfTwo_31 : decode cX1_restsOfTwo 31 = .ok (.ifCond .ne 9, 3) := by decide +kernel
theorem dX1_restsOfTwo_34 : decode cX1_restsOfTwo 34 = .ok (.iconst 1, 1) := by decide +kernel
theorem dX1_restsOfTwo_35 : decode cX1_restsOfTwo 35 = .ok (.iload_n 3, 1) := by decide +kernel
theorem dX1_restsOfTwo_36 : decode cX1_restsOfTwo 36 = .ok (.ishl, 1) := by decide +kernel
theorem dX1_restsOfTwo_37 : decode cX1_restsOfTwo 37 = .ok (.goto 4, 3) := by decide +kernel
theorem dX1_restsOfTwo_40 : decode cX1_restsOfTwo 40 = .ok (.iconst 0, 1) := by decide +kernel
theorem dX1_restsOfTwo_41 : decode cX1_restsOfTwo 41 = .ok (.ior, 1) := by decide +kernel
theorem dX1_restsOfTwo_42 : decode cX1_restsOfTwo 42 = .ok (.istore 5, 2) := by decide +kernel
theorem dX1_restsOfTwo_44 : decode cX1_restsOfTwo 44 = .ok (.aload_n 0, 1) := by decide +kernel
theorem dX1_restsOfTwo_45 : decode cX1_restsOfTwo 45 = .ok (.aload_n 1, 1) := by decide +kernel
theorem dX1_restsOfTwo_46 : decode cX1_restsOfTwo 46 = .ok (.iload 5, 2) := by decide +kernel
theorem dX1_restsOfTwo_48 : decode cX1_restsOfTwo 48 = .ok (.invokevirtual 53, 3) := by decide +kernel
theorem dX1_restsOfTwo_51 : decode cX1_restsOfTwo 51 = .ok (.pop, 1) := by decide +kernel
theorem dX1_restsOfTwo_52 : decode cX1_restsOfTwo 52 = .ok (.aload_n 0, 1) := by decide +kernel
theorem dX1_restsOfTwo_53 : decode cX1_restsOfTwo 53 = .ok (.getfield 22, 3) := by decide +kernel
theorem dX1_restsOfTwo_56 : decode cX1_restsOfTwo 56 = .ok (.iload 4, 2) := by decide +kernel
theorem dX1_restsOfTwo_58 : decode cX1_restsOfTwo 58 = .ok (.aload_n 0, 1) := by decide +kernel
theorem dX1_restsOfTwo_59 : decode cX1_restsOfTwo 59 = .ok (.aload_n 1, 1) := by decide +kernel
theorem dX1_restsOfTwo_60 : decode cX1_restsOfTwo 60 = .ok (.iload_n 2, 1) := by decide +kernel
theorem dX1_restsOfTwo_61 : decode cX1_restsOfTwo 61 = .ok (.invokevirtual 91, 3) := by decide +kernel
theorem dX1_restsOfTwo_64 : decode cX1_restsOfTwo 64 = .ok (.iastore, 1) := by decide +kernel
theorem dX1_restsOfTwo_65 : decode cX1_restsOfTwo 65 = .ok (.aload_n 0, 1) := by decide +kernel
theorem dX1_restsOfTwo_66 : decode cX1_restsOfTwo 66 = .ok (.getfield 25, 3) := by decide +kernel
theorem dX1_restsOfTwo_69 : decode cX1_restsOfTwo 69 = .ok (.iload 4, 2) := by decide +kernel
theorem dX1_restsOfTwo_71 : decode cX1_restsOfTwo 71 = .ok (.aload_n 0, 1) := by decide +kernel
theorem dX1_restsOfTwo_72 : decode cX1_restsOfTwo 72 = .ok (.aload_n 1, 1) := by decide +kernel
theorem dX1_restsOfTwo_73 : decode cX1_restsOfTwo 73 = .ok (.iload_n 3, 1) := by decide +kernel
theorem dX1_restsOfTwo_74 : decode cX1_restsOfTwo 74 = .ok (.invokevirtual 91, 3) := by decide +kernel
theorem dX1_restsOfTwo_77 : decode cX1_restsOfTwo 77 = .ok (.iastore, 1) := by decide +kernel
theorem dX1_restsOfTwo_78 : decode cX1_restsOfTwo 78 = .ok (.iinc 4 1, 3) := by decide +kernel
theorem dX1_restsOfTwo_81 : decode cX1_restsOfTwo 81 = .ok (.goto (-78), 3) := by decide +kernel
theorem dX1_restsOfTwo_84 : decode cX1_restsOfTwo 84 = .ok (.iconst 0, 1) := by decide +kernel
theorem dX1_restsOfTwo_85 : decode cX1_restsOfTwo 85 = .ok (.istore 4, 2) := by decide +kernel
theorem dX1_restsOfTwo_87 : decode cX1_restsOfTwo 87 = .ok (.iconst 3, 1) := by decide +kernel
theorem dX1_restsOfTwo_88 : decode cX1_restsOfTwo 88 = .ok (.istore 5, 2) := by decide +kernel
theorem dX1_restsOfTwo_90 : decode cX1_restsOfTwo 90 = .ok (.iload 5, 2) := by decide +kernel
theorem dX1_restsOfTwo_92 : decode cX1_restsOfTwo 92 = .ok (.ifCond .lt 94, 3) := by decide +kernel
theorem dX1_restsOfTwo_95 : decode cX1_restsOfTwo 95 = .ok (.aload_n 0, 1) := by decide +kernel
theorem dX1_restsOfTwo_96 : decode cX1_restsOfTwo 96 = .ok (.getfield 22, 3) := by decide +kernel
theorem dX1_restsOfTwo_99 : decode cX1_restsOfTwo 99 = .ok (.iload 5, 2) := by decide +kernel
theorem dX1_restsOfTwo_101 : decode cX1_restsOfTwo 101 = .ok (.iconst 2, 1) := by decide +kernel
theorem dX1_restsOfTwo_102 : decode cX1_restsOfTwo 102 = .ok (.ixor, 1) := by decide +kernel
theorem dX1_restsOfTwo_103 : decode cX1_restsOfTwo 103 = .ok (.iaload, 1) := by decide +kernel
theorem dX1_restsOfTwo_104 : decode cX1_restsOfTwo 104 = .ok (.aload_n 0, 1) := by decide +kernel
theorem dX1_restsOfTwo_105 : decode cX1_restsOfTwo 105 = .ok (.getfield 22, 3) := by decide +kernel
theorem dX1_restsOfTwo_108 : decode cX1_restsOfTwo 108 = .ok (.iload 5, 2) := by decide +kernel
theorem dX1_restsOfTwo_110 : decode cX1_restsOfTwo 110 = .ok (.iaload, 1) := by decide +kernel
theorem dX1_restsOfTwo_111 : decode cX1_restsOfTwo 111 = .ok (.if_icmp .lt 7, 3) := by decide +kernel
theorem dX1_restsOfTwo_114 : decode cX1_restsOfTwo 114 = .ok (.iconst 1, 1) := by decide +kernel
theorem dX1_restsOfTwo_115 : decode cX1_restsOfTwo 115 = .ok (.goto 4, 3) := by decide +kernel
theorem dX1_restsOfTwo_118 : decode cX1_restsOfTwo 118 = .ok (.iconst 0, 1) := by decide +kernel
theorem dX1_restsOfTwo_119 : decode cX1_restsOfTwo 119 = .ok (.istore 6, 2) := by decide +kernel
theorem dX1_restsOfTwo_121 : decode cX1_restsOfTwo 121 = .ok (.aload_n 0, 1) := by decide +kernel
theorem dX1_restsOfTwo_122 : decode cX1_restsOfTwo 122 = .ok (.getfield 25, 3) := by decide +kernel
theorem dX1_restsOfTwo_125 : decode cX1_restsOfTwo 125 = .ok (.iload 5, 2) := by decide +kernel
theorem dX1_restsOfTwo_127 : decode cX1_restsOfTwo 127 = .ok (.iconst 1, 1) := by decide +kernel
theorem dX1_restsOfTwo_128 : decode cX1_restsOfTwo 128 = .ok (.ixor, 1) := by decide +kernel
theorem dX1_restsOfTwo_129 : decode cX1_restsOfTwo 129 = .ok (.iaload, 1) := by decide +kernel
theorem dX1_restsOfTwo_130 : decode cX1_restsOfTwo 130 = .ok (.aload_n 0, 1) := by decide +kernel
theorem dX1_restsOfTwo_131 : decode cX1_restsOfTwo 131 = .ok (.getfield 25, 3) := by decide +kernel
theorem dX1_restsOfTwo_134 : decode cX1_restsOfTwo 134 = .ok (.iload 5, 2) := by decide +kernel
theorem dX1_restsOfTwo_136 : decode cX1_restsOfTwo 136 = .ok (.iaload, 1) := by decide +kernel
theorem dX1_restsOfTwo_137 : decode cX1_restsOfTwo 137 = .ok (.if_icmp .lt 7, 3) := by decide +kernel
theorem dX1_restsOfTwo_140 : decode cX1_restsOfTwo 140 = .ok (.iconst 1, 1) := by decide +kernel
theorem dX1_restsOfTwo_141 : decode cX1_restsOfTwo 141 = .ok (.goto 4, 3) := by decide +kernel
theorem dX1_restsOfTwo_144 : decode cX1_restsOfTwo 144 = .ok (.iconst 0, 1) := by decide +kernel
theorem dX1_restsOfTwo_145 : decode cX1_restsOfTwo 145 = .ok (.istore 7, 2) := by decide +kernel
theorem dX1_restsOfTwo_147 : decode cX1_restsOfTwo 147 = .ok (.iload 6, 2) := by decide +kernel
theorem dX1_restsOfTwo_149 : decode cX1_restsOfTwo 149 = .ok (.ifCond .eq 31, 3) := by decide +kernel
theorem dX1_restsOfTwo_152 : decode cX1_restsOfTwo 152 = .ok (.iload 7, 2) := by decide +kernel
theorem dX1_restsOfTwo_154 : decode cX1_restsOfTwo 154 = .ok (.ifCond .eq 26, 3) := by decide +kernel
theorem dX1_restsOfTwo_157 : decode cX1_restsOfTwo 157 = .ok (.iinc 4 1, 3) := by decide +kernel
theorem dX1_restsOfTwo_160 : decode cX1_restsOfTwo 160 = .ok (.aload_n 0, 1) := by decide +kernel
theorem dX1_restsOfTwo_161 : decode cX1_restsOfTwo 161 = .ok (.getfield 28, 3) := by decide +kernel
theorem dX1_restsOfTwo_164 : decode cX1_restsOfTwo 164 = .ok (.iconst 0, 1) := by decide +kernel
theorem dX1_restsOfTwo_165 : decode cX1_restsOfTwo 165 = .ok (.iload 5, 2) := by decide +kernel
theorem dX1_restsOfTwo_167 : decode cX1_restsOfTwo 167 = .ok (.iconst 1, 1) := by decide +kernel
theorem dX1_restsOfTwo_168 : decode cX1_restsOfTwo 168 = .ok (.ishr, 1) := by decide +kernel
theorem dX1_restsOfTwo_169 : decode cX1_restsOfTwo 169 = .ok (.iastore, 1) := by decide +kernel
theorem dX1_restsOfTwo_170 : decode cX1_restsOfTwo 170 = .ok (.aload_n 0, 1) := by decide +kernel
theorem dX1_restsOfTwo_171 : decode cX1_restsOfTwo 171 = .ok (.getfield 28, 3) := by decide +kernel
theorem dX1_restsOfTwo_174 : decode cX1_restsOfTwo 174 = .ok (.iconst 1, 1) := by decide +kernel
theorem dX1_restsOfTwo_175 : decode cX1_restsOfTwo 175 = .ok (.iload 5, 2) := by decide +kernel
theorem dX1_restsOfTwo_177 : decode cX1_restsOfTwo 177 = .ok (.iconst 1, 1) := by decide +kernel
theorem dX1_restsOfTwo_178 : decode cX1_restsOfTwo 178 = .ok (.iand, 1) := by decide +kernel
theorem dX1_restsOfTwo_179 : decode cX1_restsOfTwo 179 = .ok (.iastore, 1) := by decide +kernel
theorem dX1_restsOfTwo_180 : decode cX1_restsOfTwo 180 = .ok (.iinc 5 (-1), 3) := by decide +kernel
theorem dX1_restsOfTwo_183 : decode cX1_restsOfTwo 183 = .ok (.goto (-93), 3) := by decide +kernel
theorem dX1_restsOfTwo_186 : decode cX1_restsOfTwo 186 = .ok (.iload 4, 2) := by decide +kernel
theorem dX1_restsOfTwo_188 : decode cX1_restsOfTwo 188 = .ok (.ireturn, 1) := by decide +kernel
theorem dX1_lostBy_0 : decode cX1_lostBy 0 = .ok (.aload_n 0, 1) := by decide +kernel
theorem dX1_lostBy_1 : decode cX1_lostBy 1 = .ok (.getfield 12, 3) := by decide +kernel
theorem dX1_lostBy_4 : decode cX1_lostBy 4 = .ok (.iload_n 2, 1) := by decide +kernel
theorem dX1_lostBy_5 : decode cX1_lostBy 5 = .ok (.invokevirtual 74, 3) := by decide +kernel
theorem dX1_lostBy_8 : decode cX1_lostBy 8 = .ok (.ifCond .eq 22, 3) := by decide +kernel
theorem dX1_lostBy_11 : decode cX1_lostBy 11 = .ok (.aload_n 1, 1) := by decide +kernel
theorem dX1_lostBy_12 : decode cX1_lostBy 12 = .ok (.getfield 88, 3) := by decide +kernel
theorem dX1_lostBy_15 : decode cX1_lostBy 15 = .ok (.iload_n 2, 1) := by decide +kernel
theorem dX1_lostBy_16 : decode cX1_lostBy 16 = .ok (.iaload, 1) := by decide +kernel
theorem dX1_lostBy_17 : decode cX1_lostBy 17 = .ok (.aload_n 0, 1) := by decide +kernel
theorem dX1_lostBy_18 : decode cX1_lostBy 18 = .ok (.getfield 12, 3) := by decide +kernel
theorem dX1_lostBy_21 : decode cX1_lostBy 21 = .ok (.getfield 88, 3) := by decide +kernel
theorem dX1_lostBy_24 : decode cX1_lostBy 24 = .ok (.iload_n 2, 1) := by decide +kernel
theorem dX1_lostBy_25 : decode cX1_lostBy 25 = .ok (.iaload, 1) := by decide +kernel
theorem dX1_lostBy_26 : decode cX1_lostBy 26 = .ok (.isub, 1) := by decide +kernel
theorem dX1_lostBy_27 : decode cX1_lostBy 27 = .ok (.goto 4, 3) := by decide +kernel
theorem dX1_lostBy_30 : decode cX1_lostBy 30 = .ok (.iconst 3, 1) := by decide +kernel
theorem dX1_lostBy_31 : decode cX1_lostBy 31 = .ok (.ireturn, 1) := by decide +kernel
theorem dX2_init_0 : decode cX2_init 0 = .ok (.aload_n 0, 1) := by decide +kernel
theorem dX2_init_1 : decode cX2_init 1 = .ok (.invokespecial 3, 3) := by decide +kernel
theorem dX2_init_4 : decode cX2_init 4 = .ok (.aload_n 0, 1) := by decide +kernel
theorem dX2_init_5 : decode cX2_init 5 = .ok (.sipush 300, 3) := by decide +kernel
theorem dX2_init_8 : decode cX2_init 8 = .ok (.newarray .int, 2) := by decide +kernel
theorem dX2_init_10 : decode cX2_init 10 = .ok (.putfield 9, 3) := by decide +kernel
theorem dX2_init_13 : decode cX2_init 13 = .ok (.aload_n 0, 1) := by decide +kernel
theorem dX2_init_14 : decode cX2_init 14 = .ok (.bipush 30, 2) := by decide +kernel
theorem dX2_init_16 : decode cX2_init 16 = .ok (.newarray .int, 2) := by decide +kernel
theorem dX2_init_18 : decode cX2_init 18 = .ok (.putfield 15, 3) := by decide +kernel
theorem dX2_init_21 : decode cX2_init 21 = .ok (.aload_n 0, 1) := by decide +kernel
theorem dX2_init_22 : decode cX2_init 22 = .ok (.bipush 6, 2) := by decide +kernel
theorem dX2_init_24 : decode cX2_init 24 = .ok (.newarray .int, 2) := by decide +kernel
theorem dX2_init_26 : decode cX2_init 26 = .ok (.putfield 18, 3) := by decide +kernel
theorem dX2_init_29 : decode cX2_init 29 = .ok (.aload_n 0, 1) := by decide +kernel
theorem dX2_init_30 : decode cX2_init 30 = .ok (.iconst 0, 1) := by decide +kernel
theorem dX2_init_31 : decode cX2_init 31 = .ok (.putfield 21, 3) := by decide +kernel
theorem dX2_init_34 : decode cX2_init 34 = .ok (.aload_n 0, 1) := by decide +kernel
theorem dX2_init_35 : decode cX2_init 35 = .ok (.iconst 0, 1) := by decide +kernel
theorem dX2_init_36 : decode cX2_init 36 = .ok (.putfield 25, 3) := by decide +kernel
theorem dX2_init_39 : decode cX2_init 39 = .ok (.return_, 1) := by decide +kernel
theorem dX2_clear_0 : decode cX2_clear 0 = .ok (.aload_n 0, 1) := by decide +kernel
theorem dX2_clear_1 : decode cX2_clear 1 = .ok (.iconst 0, 1) := by decide +kernel
theorem dX2_clear_2 : decode cX2_clear 2 = .ok (.putfield 21, 3) := by decide +kernel
theorem dX2_clear_5 : decode cX2_clear 5 = .ok (.aload_n 0, 1) := by decide +kernel
theorem dX2_clear_6 : decode cX2_clear 6 = .ok (.iconst 0, 1) := by decide +kernel
theorem dX2_clear_7 : decode cX2_clear 7 = .ok (.putfield 25, 3) := by decide +kernel
theorem dX2_clear_10 : decode cX2_clear 10 = .ok (.return_, 1) := by decide +kernel
theorem dX2_add_0 : decode cX2_add 0 = .ok (.aload_n 0, 1) := by decide +kernel
theorem dX2_add_1 : decode cX2_add 1 = .ok (.getfield 21, 3) := by decide +kernel
theorem dX2_add_4 : decode cX2_add 4 = .ok (.aload_n 0, 1) := by decide +kernel
theorem dX2_add_5 : decode cX2_add 5 = .ok (.getfield 9, 3) := by decide +kernel
theorem dX2_add_8 : decode cX2_add 8 = .ok (.arraylength, 1) := by decide +kernel
theorem dX2_add_9 : decode cX2_add 9 = .ok (.if_icmp .ge 23, 3) := by decide +kernel
theorem dX2_add_12 : decode cX2_add 12 = .ok (.aload_n 0, 1) := by decide +kernel
theorem dX2_add_13 : decode cX2_add 13 = .ok (.getfield 9, 3) := by decide +kernel
theorem dX2_add_16 : decode cX2_add 16 = .ok (.aload_n 0, 1) := by decide +kernel
theorem dX2_add_17 : decode cX2_add 17 = .ok (.getfield 21, 3) := by decide +kernel
theorem dX2_add_20 : decode cX2_add 20 = .ok (.iload_n 1, 1) := by decide +kernel
theorem dX2_add_21 : decode cX2_add 21 = .ok (.iastore, 1) := by decide +kernel
theorem dX2_add_22 : decode cX2_add 22 = .ok (.aload_n 0, 1) := by decide +kernel
theorem dX2_add_23 : decode cX2_add 23 = .ok (.dup, 1) := by decide +kernel
theorem dX2_add_24 : decode cX2_add 24 = .ok (.getfield 21, 3) := by decide +kernel
theorem dX2_add_27 : decode cX2_add 27 = .ok (.iconst 1, 1) := by decide +kernel
theorem dX2_add_28 : decode cX2_add 28 = .ok (.iadd, 1) := by decide +kernel
theorem dX2_add_29 : decode cX2_add 29 = .ok (.putfield 21, 3) := by decide +kernel
theorem dX2_add_32 : decode cX2_add 32 = .ok (.return_, 1) := by decide +kernel
theorem dX2_copyFrom_0 : decode cX2_copyFrom 0 = .ok (.aload_n 1, 1) := by decide +kernel
theorem dX2_copyFrom_1 : decode cX2_copyFrom 1 = .ok (.getfield 9, 3) := by decide +kernel
theorem dX2_copyFrom_4 : decode cX2_copyFrom 4 = .ok (.iconst 0, 1) := by decide +kernel
theorem dX2_copyFrom_5 : decode cX2_copyFrom 5 = .ok (.aload_n 0, 1) := by decide +kernel
theorem dX2_copyFrom_6 : decode cX2_copyFrom 6 = .ok (.getfield 9, 3) := by decide +kernel
theorem dX2_copyFrom_9 : decode cX2_copyFrom 9 = .ok (.iconst 0, 1) := by decide +kernel
theorem dX2_copyFrom_10 : decode cX2_copyFrom 10 = .ok (.aload_n 0, 1) := by decide +kernel
theorem dX2_copyFrom_11 : decode cX2_copyFrom 11 = .ok (.getfield 9, 3) := by decide +kernel
theorem dX2_copyFrom_14 : decode cX2_copyFrom 14 = .ok (.arraylength, 1) := by decide +kernel
theorem dX2_copyFrom_15 : decode cX2_copyFrom 15 = .ok (.invokestatic 28, 3) := by decide +kernel
theorem dX2_copyFrom_18 : decode cX2_copyFrom 18 = .ok (.aload_n 0, 1) := by decide +kernel
theorem dX2_copyFrom_19 : decode cX2_copyFrom 19 = .ok (.aload_n 1, 1) := by decide +kernel
theorem dX2_copyFrom_20 : decode cX2_copyFrom 20 = .ok (.getfield 21, 3) := by decide +kernel
theorem dX2_copyFrom_23 : decode cX2_copyFrom 23 = .ok (.putfield 21, 3) := by decide +kernel
theorem dX2_copyFrom_26 : decode cX2_copyFrom 26 = .ok (.aload_n 0, 1) := by decide +kernel
theorem dX2_copyFrom_27 : decode cX2_copyFrom 27 = .ok (.aload_n 1, 1) := by decide +kernel
theorem dX2_copyFrom_28 : decode cX2_copyFrom 28 = .ok (.getfield 25, 3) := by decide +kernel
theorem dX2_copyFrom_31 : decode cX2_copyFrom 31 = .ok (.putfield 25, 3) := by decide +kernel
theorem dX2_copyFrom_34 : decode cX2_copyFrom 34 = .ok (.return_, 1) := by decide +kernel
theorem dX2_comesTo_0 : decode cX2_comesTo 0 = .ok (.aload_n 1, 1) := by decide +kernel
theorem dX2_comesTo_1 : decode cX2_comesTo 1 = .ok (.getfield 34, 3) := by decide +kernel
theorem dX2_comesTo_4 : decode cX2_comesTo 4 = .ok (.iload_n 2, 1) := by decide +kernel
theorem dX2_comesTo_5 : decode cX2_comesTo 5 = .ok (.iload_n 3, 1) := by decide +kernel
theorem dX2_comesTo_6 : decode cX2_comesTo 6 = .ok (.invokestatic 39, 3) := by decide +kernel
theorem dX2_comesTo_9 : decode cX2_comesTo 9 = .ok (.iaload, 1) := by decide +kernel
theorem dX2_comesTo_10 : decode cX2_comesTo 10 = .ok (.istore 5, 2) := by decide +kernel
theorem dX2_comesTo_12 : decode cX2_comesTo 12 = .ok (.aload_n 0, 1) := by decide +kernel
theorem dX2_comesTo_13 : decode cX2_comesTo 13 = .ok (.getfield 21, 3) := by decide +kernel
theorem dX2_comesTo_16 : decode cX2_comesTo 16 = .ok (.ifCond .ne 13, 3) := by decide +kernel
theorem dX2_comesTo_19 : decode cX2_comesTo 19 = .ok (.iload 5, 2) := by decide +kernel
theorem dX2_comesTo_21 : decode cX2_comesTo 21 = .ok (.aload_n 1, 1) := by decide +kernel
theorem dX2_comesTo_22 : decode cX2_comesTo 22 = .ok (.getfield 43, 3) := by decide +kernel
theorem dX2_comesTo_25 : decode cX2_comesTo 25 = .ok (.iload_n 2, 1) := by decide +kernel
theorem dX2_comesTo_26 : decode cX2_comesTo 26 = .ok (.iaload, 1) := by decide +kernel
theorem dX2_comesTo_27 : decode cX2_comesTo 27 = .ok (.isub, 1) := by decide +kernel
theorem dX2_comesTo_28 : decode cX2_comesTo 28 = .ok (.ireturn, 1) := by decide +kernel
theorem dX2_comesTo_29 : decode cX2_comesTo 29 = .ok (.aload_n 0, 1) := by decide +kernel
theorem dX2_comesTo_30 : decode cX2_comesTo 30 = .ok (.getfield 18, 3) := by decide +kernel
theorem dX2_comesTo_33 : decode cX2_comesTo 33 = .ok (.iconst 0, 1) := by decide +kernel
theorem dX2_comesTo_34 : decode cX2_comesTo 34 = .ok (.aload_n 1, 1) := by decide +kernel
theorem dX2_comesTo_35 : decode cX2_comesTo 35 = .ok (.getfield 46, 3) := by decide +kernel
theorem dX2_comesTo_38 : decode cX2_comesTo 38 = .ok (.iload_n 2, 1) := by decide +kernel
theorem dX2_comesTo_39 : decode cX2_comesTo 39 = .ok (.iaload, 1) := by decide +kernel
theorem dX2_comesTo_40 : decode cX2_comesTo 40 = .ok (.iastore, 1) := by decide +kernel
theorem dX2_comesTo_41 : decode cX2_comesTo 41 = .ok (.aload_n 0, 1) := by decide +kernel
theorem dX2_comesTo_42 : decode cX2_comesTo 42 = .ok (.getfield 18, 3) := by decide +kernel
theorem dX2_comesTo_45 : decode cX2_comesTo 45 = .ok (.iconst 1, 1) := by decide +kernel
theorem dX2_comesTo_46 : decode cX2_comesTo 46 = .ok (.iload 4, 2) := by decide +kernel
theorem dX2_comesTo_48 : decode cX2_comesTo 48 = .ok (.iastore, 1) := by decide +kernel
theorem dX2_comesTo_49 : decode cX2_comesTo 49 = .ok (.aload_n 0, 1) := by decide +kernel
theorem dX2_comesTo_50 : decode cX2_comesTo 50 = .ok (.getfield 18, 3) := by decide +kernel
theorem dX2_comesTo_53 : decode cX2_comesTo 53 = .ok (.iconst 2, 1) := by decide +kernel
theorem dX2_comesTo_54 : decode cX2_comesTo 54 = .ok (.iload 5, 2) := by decide +kernel
theorem dX2_comesTo_56 : decode cX2_comesTo 56 = .ok (.iastore, 1) := by decide +kernel
theorem dX2_comesTo_57 : decode cX2_comesTo 57 = .ok (.aload_n 0, 1) := by decide +kernel
theorem dX2_comesTo_58 : decode cX2_comesTo 58 = .ok (.getfield 18, 3) := by decide +kernel
theorem dX2_comesTo_61 : decode cX2_comesTo 61 = .ok (.iconst 3, 1) := by decide +kernel
theorem dX2_comesTo_62 : decode cX2_comesTo 62 = .ok (.aload_n 1, 1) := by decide +kernel
theorem dX2_comesTo_63 : decode cX2_comesTo 63 = .ok (.getfield 43, 3) := by decide +kernel
theorem dX2_comesTo_66 : decode cX2_comesTo 66 = .ok (.iload_n 2, 1) := by decide +kernel
theorem dX2_comesTo_67 : decode cX2_comesTo 67 = .ok (.iaload, 1) := by decide +kernel
theorem dX2_comesTo_68 : decode cX2_comesTo 68 = .ok (.iastore, 1) := by decide +kernel
theorem dX2_comesTo_69 : decode cX2_comesTo 69 = .ok (.aload_n 0, 1) := by decide +kernel
theorem dX2_comesTo_70 : decode cX2_comesTo 70 = .ok (.getfield 18, 3) := by decide +kernel
theorem dX2_comesTo_73 : decode cX2_comesTo 73 = .ok (.iconst 4, 1) := by decide +kernel
theorem dX2_comesTo_74 : decode cX2_comesTo 74 = .ok (.aload_n 1, 1) := by decide +kernel
theorem dX2_comesTo_75 : decode cX2_comesTo 75 = .ok (.getfield 49, 3) := by decide +kernel
theorem dX2_comesTo_78 : decode cX2_comesTo 78 = .ok (.invokestatic 52, 3) := by decide +kernel
theorem dX2_comesTo_81 : decode cX2_comesTo 81 = .ok (.iastore, 1) := by decide +kernel
theorem dX2_comesTo_82 : decode cX2_comesTo 82 = .ok (.aload_n 0, 1) := by decide +kernel
theorem dX2_comesTo_83 : decode cX2_comesTo 83 = .ok (.getfield 18, 3) := by decide +kernel
theorem dX2_comesTo_86 : decode cX2_comesTo 86 = .ok (.iconst 5, 1) := by decide +kernel
theorem dX2_comesTo_87 : decode cX2_comesTo 87 = .ok (.aload_n 1, 1) := by decide +kernel
theorem dX2_comesTo_88 : decode cX2_comesTo 88 = .ok (.getfield 58, 3) := by decide +kernel
theorem dX2_comesTo_91 : decode cX2_comesTo 91 = .ok (.iastore, 1) := by decide +kernel
theorem dX2_comesTo_92 : decode cX2_comesTo 92 = .ok (.iconst 0, 1) := by decide +kernel
theorem dX2_comesTo_93 : decode cX2_comesTo 93 = .ok (.istore 6, 2) := by decide +kernel
theorem dX2_comesTo_95 : decode cX2_comesTo 95 = .ok (.iconst 0, 1) := by decide +kernel
theorem dX2_comesTo_96 : decode cX2_comesTo 96 = .ok (.istore 7, 2) := by decide +kernel
theorem dX2_comesTo_98 : decode cX2_comesTo 98 = .ok (.iload 7, 2) := by decide +kernel
theorem dX2_comesTo_100 : decode cX2_comesTo 100 = .ok (.aload_n 0, 1) := by decide +kernel
theorem dX2_comesTo_101 : decode cX2_comesTo 101 = .ok (.getfield 21, 3) := by decide +kernel
theorem dX2_comesTo_104 : decode cX2_comesTo 104 = .ok (.if_icmp .ge 158, 3) := by decide +kernel
theorem dX2_comesTo_107 : decode cX2_comesTo 107 = .ok (.aload_n 0, 1) := by decide +kernel
theorem dX2_comesTo_108 : decode cX2_comesTo 108 = .ok (.getfield 9, 3) := by decide +kernel
theorem dX2_comesTo_111 : decode cX2_comesTo 111 = .ok (.iload 7, 2) := by decide +kernel
theorem dX2_comesTo_113 : decode cX2_comesTo 113 = .ok (.iaload, 1) := by decide +kernel
theorem dX2_comesTo_114 : decode cX2_comesTo 114 = .ok (.istore 8, 2) := by decide +kernel
theorem dX2_comesTo_116 : decode cX2_comesTo 116 = .ok (.iload 8, 2) := by decide +kernel
theorem dX2_comesTo_118 : decode cX2_comesTo 118 = .ok (.sipush (-214), 3) := by decide +kernel
theorem dX2_comesTo_121 : decode cX2_comesTo 121 = .ok (.if_icmp .ne 37, 3) := by decide +kernel
theorem dX2_comesTo_124 : decode cX2_comesTo 124 = .ok (.iload 6, 2) := by decide +kernel
theorem dX2_comesTo_126 : decode cX2_comesTo 126 = .ok (.ifCond .le 130, 3) := by decide +kernel
theorem dX2_comesTo_129 : decode cX2_comesTo 129 = .ok (.aload_n 0, 1) := by decide +kernel
theorem dX2_comesTo_130 : decode cX2_comesTo 130 = .ok (.getfield 15, 3) := by decide +kernel
theorem dX2_comesTo_133 : decode cX2_comesTo 133 = .ok (.iload 6, 2) := by decide +kernel
theorem dX2_comesTo_135 : decode cX2_comesTo 135 = .ok (.iconst 1, 1) := by decide +kernel
theorem dX2_comesTo_136 : decode cX2_comesTo 136 = .ok (.isub, 1) := by decide +kernel
theorem dX2_comesTo_137 : decode cX2_comesTo 137 = .ok (.aload_n 0, 1) := by decide +kernel
theorem dX2_comesTo_138 : decode cX2_comesTo 138 = .ok (.getfield 15, 3) := by decide +kernel
theorem dX2_comesTo_141 : decode cX2_comesTo 141 = .ok (.iload 6, 2) := by decide +kernel
theorem dX2_comesTo_143 : decode cX2_comesTo 143 = .ok (.iconst 1, 1) := by decide +kernel
theorem dX2_comesTo_144 : decode cX2_comesTo 144 = .ok (.isub, 1) := by decide +kernel
theorem dX2_comesTo_145 : decode cX2_comesTo 145 = .ok (.iaload, 1) := by decide +kernel
theorem dX2_comesTo_146 : decode cX2_comesTo 146 = .ok (.ifCond .ne 7, 3) := by decide +kernel
theorem dX2_comesTo_149 : decode cX2_comesTo 149 = .ok (.iconst 1, 1) := by decide +kernel
theorem dX2_comesTo_150 : decode cX2_comesTo 150 = .ok (.goto 4, 3) := by decide +kernel
theorem dX2_comesTo_153 : decode cX2_comesTo 153 = .ok (.iconst 0, 1) := by decide +kernel
theorem dX2_comesTo_154 : decode cX2_comesTo 154 = .ok (.iastore, 1) := by decide +kernel
theorem dX2_comesTo_155 : decode cX2_comesTo 155 = .ok (.goto 101, 3) := by decide +kernel
theorem dX2_comesTo_158 : decode cX2_comesTo 158 = .ok (.iload 8, 2) := by decide +kernel
theorem dX2_comesTo_160 : decode cX2_comesTo 160 = .ok (.ifCond .ge 12, 3) := by decide +kernel
theorem dX2_comesTo_163 : decode cX2_comesTo 163 = .ok (.iload 8, 2) := by decide +kernel
theorem dX2_comesTo_165 : decode cX2_comesTo 165 = .ok (.ineg, 1) := by decide +kernel
theorem dX2_comesTo_166 : decode cX2_comesTo 166 = .ok (.invokestatic 61, 3) := by decide +kernel
theorem dX2_comesTo_169 : decode cX2_comesTo 169 = .ok (.ifCond .eq 48, 3) := by decide +kernel
theorem dX2_comesTo_172 : decode cX2_comesTo 172 = .ok (.iload 6, 2) := by decide +kernel
theorem dX2_comesTo_174 : decode cX2_comesTo 174 = .ok (.aload_n 0, 1) := by decide +kernel
theorem dX2_comesTo_175 : decode cX2_comesTo 175 = .ok (.getfield 15, 3) := by decide +kernel
theorem dX2_comesTo_178 : decode cX2_comesTo 178 = .ok (.arraylength, 1) := by decide +kernel
theorem dX2_comesTo_179 : decode cX2_comesTo 179 = .ok (.if_icmp .ge 77, 3) := by decide +kernel
theorem dX2_comesTo_182 : decode cX2_comesTo 182 = .ok (.aload_n 0, 1) := by decide +kernel
theorem dX2_comesTo_183 : decode cX2_comesTo 183 = .ok (.getfield 15, 3) := by decide +kernel
theorem dX2_comesTo_186 : decode cX2_comesTo 186 = .ok (.iload 6, 2) := by decide +kernel
theorem dX2_comesTo_188 : decode cX2_comesTo 188 = .ok (.iload 8, 2) := by decide +kernel
theorem dX2_comesTo_190 : decode cX2_comesTo 190 = .ok (.ifCond .lt 8, 3) := by decide +kernel
theorem dX2_comesTo_193 : decode cX2_comesTo 193 = .ok (.iload 8, 2) := by decide +kernel
theorem dX2_comesTo_195 : decode cX2_comesTo 195 = .ok (.goto 15, 3) := by decide +kernel
theorem dX2_comesTo_198 : decode cX2_comesTo 198 = .ok (.aload_n 0, 1) := by decide +kernel
theorem dX2_comesTo_199 : decode cX2_comesTo 199 = .ok (.getfield 18, 3) := by decide +kernel
theorem dX2_comesTo_202 : decode cX2_comesTo 202 = .ok (.iload 8, 2) := by decide +kernel
theorem dX2_comesTo_204 : decode cX2_comesTo 204 = .ok (.ineg, 1) := by decide +kernel
theorem dX2_comesTo_205 : decode cX2_comesTo 205 = .ok (.sipush 206, 3) := by decide +kernel
theorem dX2_comesTo_208 : decode cX2_comesTo 208 = .ok (.isub, 1) := by decide +kernel
theorem dX2_comesTo_209 : decode cX2_comesTo 209 = .ok (.iaload, 1) := by decide +kernel
theorem dX2_comesTo_210 : decode cX2_comesTo 210 = .ok (.iastore, 1) := by decide +kernel
theorem dX2_comesTo_211 : decode cX2_comesTo 211 = .ok (.iinc 6 1, 3) := by decide +kernel
theorem dX2_comesTo_214 : decode cX2_comesTo 214 = .ok (.goto 42, 3) := by decide +kernel
theorem dX2_comesTo_217 : decode cX2_comesTo 217 = .ok (.iload 6, 2) := by decide +kernel
theorem dX2_comesTo_219 : decode cX2_comesTo 219 = .ok (.iconst 1, 1) := by decide +kernel
theorem dX2_comesTo_220 : decode cX2_comesTo 220 = .ok (.if_icmp .le 36, 3) := by decide +kernel
theorem dX2_comesTo_223 : decode cX2_comesTo 223 = .ok (.iinc 6 (-1), 3) := by decide +kernel
theorem dX2_comesTo_226 : decode cX2_comesTo 226 = .ok (.aload_n 0, 1) := by decide +kernel
theorem dX2_comesTo_227 : decode cX2_comesTo 227 = .ok (.getfield 15, 3) := by decide +kernel
theorem dX2_comesTo_230 : decode cX2_comesTo 230 = .ok (.iload 6, 2) := by decide +kernel
theorem dX2_comesTo_232 : decode cX2_comesTo 232 = .ok (.iconst 1, 1) := by decide +kernel
theorem dX2_comesTo_233 : decode cX2_comesTo 233 = .ok (.isub, 1) := by decide +kernel
theorem dX2_comesTo_234 : decode cX2_comesTo 234 = .ok (.iload 8, 2) := by decide +kernel
theorem dX2_comesTo_236 : decode cX2_comesTo 236 = .ok (.aload_n 0, 1) := by decide +kernel
theorem dX2_comesTo_237 : decode cX2_comesTo 237 = .ok (.getfield 15, 3) := by decide +kernel
theorem dX2_comesTo_240 : decode cX2_comesTo 240 = .ok (.iload 6, 2) := by decide +kernel
theorem dX2_comesTo_242 : decode cX2_comesTo 242 = .ok (.iconst 1, 1) := by decide +kernel
theorem dX2_comesTo_243 : decode cX2_comesTo 243 = .ok (.isub, 1) := by decide +kernel
theorem dX2_comesTo_244 : decode cX2_comesTo 244 = .ok (.iaload, 1) := by decide +kernel
theorem dX2_comesTo_245 : decode cX2_comesTo 245 = .ok (.aload_n 0, 1) := by decide +kernel
theorem dX2_comesTo_246 : decode cX2_comesTo 246 = .ok (.getfield 15, 3) := by decide +kernel
theorem dX2_comesTo_249 : decode cX2_comesTo 249 = .ok (.iload 6, 2) := by decide +kernel
theorem dX2_comesTo_251 : decode cX2_comesTo 251 = .ok (.iaload, 1) := by decide +kernel
theorem dX2_comesTo_252 : decode cX2_comesTo 252 = .ok (.invokestatic 65, 3) := by decide +kernel
theorem dX2_comesTo_255 : decode cX2_comesTo 255 = .ok (.iastore, 1) := by decide +kernel
theorem dX2_comesTo_256 : decode cX2_comesTo 256 = .ok (.iinc 7 1, 3) := by decide +kernel
theorem dX2_comesTo_259 : decode cX2_comesTo 259 = .ok (.goto (-161), 3) := by decide +kernel
theorem dX2_comesTo_262 : decode cX2_comesTo 262 = .ok (.aload_n 0, 1) := by decide +kernel
theorem dX2_comesTo_263 : decode cX2_comesTo 263 = .ok (.getfield 15, 3) := by decide +kernel
theorem dX2_comesTo_266 : decode cX2_comesTo 266 = .ok (.iconst 0, 1) := by decide +kernel
theorem dX2_comesTo_267 : decode cX2_comesTo 267 = .ok (.iaload, 1) := by decide +kernel
theorem dX2_comesTo_268 : decode cX2_comesTo 268 = .ok (.ireturn, 1) := by decide +kernel
theorem dX2_isValue_0 : decode cX2_isValue 0 = .ok (.iload_n 0, 1) := by decide +kernel
theorem dX2_isValue_1 : decode cX2_isValue 1 = .ok (.sipush 206, 3) := by decide +kernel
theorem dX2_isValue_4 : decode cX2_isValue 4 = .ok (.if_icmp .lt 14, 3) := by decide +kernel
theorem dX2_isValue_7 : decode cX2_isValue 7 = .ok (.iload_n 0, 1) := by decide +kernel
theorem dX2_isValue_8 : decode cX2_isValue 8 = .ok (.sipush 211, 3) := by decide +kernel
theorem dX2_isValue_11 : decode cX2_isValue 11 = .ok (.if_icmp .gt 7, 3) := by decide +kernel
theorem dX2_isValue_14 : decode cX2_isValue 14 = .ok (.iconst 1, 1) := by decide +kernel
theorem dX2_isValue_15 : decode cX2_isValue 15 = .ok (.goto 4, 3) := by decide +kernel
theorem dX2_isValue_18 : decode cX2_isValue 18 = .ok (.iconst 0, 1) := by decide +kernel
theorem dX2_isValue_19 : decode cX2_isValue 19 = .ok (.ireturn, 1) := by decide +kernel
theorem dX2_joined_0 : decode cX2_joined 0 = .ok (.iload_n 0, 1) := by decide +kernel
theorem dX2_joined_1 : decode cX2_joined 1 = .ok (.lookupswitch 208 #[(-213, 107), (-212, 91), (-62, 136), (-61, 149), (-60, 123), (-47, 180), (-45, 168), (-43, 162), (-42, 174), (-37, 194)], 91) := by decide +kernel
theorem dX2_joined_92 : decode cX2_joined 92 = .ok (.iload_n 1, 1) := by decide +kernel
theorem dX2_joined_93 : decode cX2_joined 93 = .ok (.ifCond .ne 7, 3) := by decide +kernel
theorem dX2_joined_96 : decode cX2_joined 96 = .ok (.iload_n 2, 1) := by decide +kernel
theorem dX2_joined_97 : decode cX2_joined 97 = .ok (.ifCond .eq 7, 3) := by decide +kernel
theorem dX2_joined_100 : decode cX2_joined 100 = .ok (.iconst 1, 1) := by decide +kernel
theorem dX2_joined_101 : decode cX2_joined 101 = .ok (.goto 109, 3) := by decide +kernel
theorem dX2_joined_104 : decode cX2_joined 104 = .ok (.iconst 0, 1) := by decide +kernel
theorem dX2_joined_105 : decode cX2_joined 105 = .ok (.goto 105, 3) := by decide +kernel
theorem dX2_joined_108 : decode cX2_joined 108 = .ok (.iload_n 1, 1) := by decide +kernel
theorem dX2_joined_109 : decode cX2_joined 109 = .ok (.ifCond .eq 11, 3) := by decide +kernel
theorem dX2_joined_112 : decode cX2_joined 112 = .ok (.iload_n 2, 1) := by decide +kernel
theorem dX2_joined_113 : decode cX2_joined 113 = .ok (.ifCond .eq 7, 3) := by decide +kernel
theorem dX2_joined_116 : decode cX2_joined 116 = .ok (.iconst 1, 1) := by decide +kernel
theorem dX2_joined_117 : decode cX2_joined 117 = .ok (.goto 93, 3) := by decide +kernel
theorem dX2_joined_120 : decode cX2_joined 120 = .ok (.iconst 0, 1) := by decide +kernel
theorem dX2_joined_121 : decode cX2_joined 121 = .ok (.goto 89, 3) := by decide +kernel
theorem dX2_joined_124 : decode cX2_joined 124 = .ok (.iload_n 1, 1) := by decide +kernel
theorem dX2_joined_125 : decode cX2_joined 125 = .ok (.iload_n 2, 1) := by decide +kernel
theorem dX2_joined_126 : decode cX2_joined 126 = .ok (.if_icmp .ge 7, 3) := by decide +kernel
theorem dX2_joined_129 : decode cX2_joined 129 = .ok (.iconst 1, 1) := by decide +kernel
theorem dX2_joined_130 : decode cX2_joined 130 = .ok (.goto 80, 3) := by decide +kernel
theorem dX2_joined_133 : decode cX2_joined 133 = .ok (.iconst 0, 1) := by decide +kernel
theorem dX2_joined_134 : decode cX2_joined 134 = .ok (.goto 76, 3) := by decide +kernel
theorem dX2_joined_137 : decode cX2_joined 137 = .ok (.iload_n 1, 1) := by decide +kernel
theorem dX2_joined_138 : decode cX2_joined 138 = .ok (.iload_n 2, 1) := by decide +kernel
theorem dX2_joined_139 : decode cX2_joined 139 = .ok (.if_icmp .le 7, 3) := by decide +kernel
theorem dX2_joined_142 : decode cX2_joined 142 = .ok (.iconst 1, 1) := by decide +kernel
theorem dX2_joined_143 : decode cX2_joined 143 = .ok (.goto 67, 3) := by decide +kernel
theorem dX2_joined_146 : decode cX2_joined 146 = .ok (.iconst 0, 1) := by decide +kernel
theorem dX2_joined_147 : decode cX2_joined 147 = .ok (.goto 63, 3) := by decide +kernel
theorem dX2_joined_150 : decode cX2_joined 150 = .ok (.iload_n 1, 1) := by decide +kernel
theorem dX2_joined_151 : decode cX2_joined 151 = .ok (.iload_n 2, 1) := by decide +kernel
theorem dX2_joined_152 : decode cX2_joined 152 = .ok (.if_icmp .ne 7, 3) := by decide +kernel
theorem dX2_joined_155 : decode cX2_joined 155 = .ok (.iconst 1, 1) := by decide +kernel
theorem dX2_joined_156 : decode cX2_joined 156 = .ok (.goto 54, 3) := by decide +kernel
theorem dX2_joined_159 : decode cX2_joined 159 = .ok (.iconst 0, 1) := by decide +kernel
theorem dX2_joined_160 : decode cX2_joined 160 = .ok (.goto 50, 3) := by decide +kernel
theorem dX2_joined_163 : decode cX2_joined 163 = .ok (.iload_n 1, 1) := by decide +kernel
theorem dX2_joined_164 : decode cX2_joined 164 = .ok (.iload_n 2, 1) := by decide +kernel
theorem dX2_joined_165 : decode cX2_joined 165 = .ok (.iadd, 1) := by decide +kernel
theorem dX2_joined_166 : decode cX2_joined 166 = .ok (.goto 44, 3) := by decide +kernel
theorem dX2_joined_169 : decode cX2_joined 169 = .ok (.iload_n 1, 1) := by decide +kernel
theorem dX2_joined_170 : decode cX2_joined 170 = .ok (.iload_n 2, 1) := by decide +kernel
theorem dX2_joined_171 : decode cX2_joined 171 = .ok (.isub, 1) := by decide +kernel
theorem dX2_joined_172 : decode cX2_joined 172 = .ok (.goto 38, 3) := by decide +kernel
theorem dX2_joined_175 : decode cX2_joined 175 = .ok (.iload_n 1, 1) := by decide +kernel
theorem dX2_joined_176 : decode cX2_joined 176 = .ok (.iload_n 2, 1) := by decide +kernel
theorem dX2_joined_177 : decode cX2_joined 177 = .ok (.imul, 1) := by decide +kernel
theorem dX2_joined_178 : decode cX2_joined 178 = .ok (.goto 32, 3) := by decide +kernel
theorem dX2_joined_181 : decode cX2_joined 181 = .ok (.iload_n 2, 1) := by decide +kernel
theorem dX2_joined_182 : decode cX2_joined 182 = .ok (.ifCond .ne 7, 3) := by decide +kernel
theorem dX2_joined_185 : decode cX2_joined 185 = .ok (.iconst 0, 1) := by decide +kernel
theorem dX2_joined_186 : decode cX2_joined 186 = .ok (.goto 24, 3) := by decide +kernel
theorem dX2_joined_189 : decode cX2_joined 189 = .ok (.iload_n 1, 1) := by decide +kernel
theorem dX2_joined_190 : decode cX2_joined 190 = .ok (.iload_n 2, 1) := by decide +kernel
theorem dX2_joined_191 : decode cX2_joined 191 = .ok (.idiv, 1) := by decide +kernel
theorem dX2_joined_192 : decode cX2_joined 192 = .ok (.goto 18, 3) := by decide +kernel
theorem dX2_joined_195 : decode cX2_joined 195 = .ok (.iload_n 2, 1) := by decide +kernel
theorem dX2_joined_196 : decode cX2_joined 196 = .ok (.ifCond .ne 7, 3) := by decide +kernel
theorem dX2_joined_199 : decode cX2_joined 199 = .ok (.iconst 0, 1) := by decide +kernel
theorem dX2_joined_200 : decode cX2_joined 200 = .ok (.goto 10, 3) := by decide +kernel
theorem dX2_joined_203 : decode cX2_joined 203 = .ok (.iload_n 1, 1) := by decide +kernel
theorem dX2_joined_204 : decode cX2_joined 204 = .ok (.iload_n 2, 1) := by decide +kernel
theorem dX2_joined_205 : decode cX2_joined 205 = .ok (.irem, 1) := by decide +kernel
theorem dX2_joined_206 : decode cX2_joined 206 = .ok (.goto 4, 3) := by decide +kernel
theorem dX2_joined_209 : decode cX2_joined 209 = .ok (.iconst 0, 1) := by decide +kernel
theorem dX2_joined_210 : decode cX2_joined 210 = .ok (.ireturn, 1) := by decide +kernel
theorem dX3_init_0 : decode cX3_init 0 = .ok (.aload_n 0, 1) := by decide +kernel
theorem dX3_init_1 : decode cX3_init 1 = .ok (.invokespecial 3, 3) := by decide +kernel
theorem dX3_init_4 : decode cX3_init 4 = .ok (.aload_n 0, 1) := by decide +kernel
theorem dX3_init_5 : decode cX3_init 5 = .ok (.new 9, 3) := by decide +kernel
theorem dX3_init_8 : decode cX3_init 8 = .ok (.dup, 1) := by decide +kernel
theorem dX3_init_9 : decode cX3_init 9 = .ok (.invokespecial 11, 3) := by decide +kernel
theorem dX3_init_12 : decode cX3_init 12 = .ok (.putfield 12, 3) := by decide +kernel
theorem dX3_init_15 : decode cX3_init 15 = .ok (.aload_n 0, 1) := by decide +kernel
theorem dX3_init_16 : decode cX3_init 16 = .ok (.bipush 6, 2) := by decide +kernel
theorem dX3_init_18 : decode cX3_init 18 = .ok (.newarray .int, 2) := by decide +kernel
theorem dX3_init_20 : decode cX3_init 20 = .ok (.putfield 18, 3) := by decide +kernel
theorem dX3_init_23 : decode cX3_init 23 = .ok (.aload_n 0, 1) := by decide +kernel
theorem dX3_init_24 : decode cX3_init 24 = .ok (.bipush 6, 2) := by decide +kernel
theorem dX3_init_26 : decode cX3_init 26 = .ok (.newarray .int, 2) := by decide +kernel
theorem dX3_init_28 : decode cX3_init 28 = .ok (.putfield 22, 3) := by decide +kernel
theorem dX3_init_31 : decode cX3_init 31 = .ok (.aload_n 0, 1) := by decide +kernel
theorem dX3_init_32 : decode cX3_init 32 = .ok (.iconst 0, 1) := by decide +kernel
theorem dX3_init_33 : decode cX3_init 33 = .ok (.putfield 25, 3) := by decide +kernel
theorem dX3_init_36 : decode cX3_init 36 = .ok (.aload_n 0, 1) := by decide +kernel
theorem dX3_init_37 : decode cX3_init 37 = .ok (.iconst 0, 1) := by decide +kernel
theorem dX3_init_38 : decode cX3_init 38 = .ok (.putfield 29, 3) := by decide +kernel
theorem dX3_init_41 : decode cX3_init 41 = .ok (.aload_n 0, 1) := by decide +kernel
theorem dX3_init_42 : decode cX3_init 42 = .ok (.aload_n 1, 1) := by decide +kernel
theorem dX3_init_43 : decode cX3_init 43 = .ok (.putfield 32, 3) := by decide +kernel
theorem dX3_init_46 : decode cX3_init 46 = .ok (.aload_n 0, 1) := by decide +kernel
theorem dX3_init_47 : decode cX3_init 47 = .ok (.aload_n 2, 1) := by decide +kernel
theorem dX3_init_48 : decode cX3_init 48 = .ok (.putfield 36, 3) := by decide +kernel
theorem dX3_init_51 : decode cX3_init 51 = .ok (.return_, 1) := by decide +kernel
theorem dX3_bestOrder_0 : decode cX3_bestOrder 0 = .ok (.iconst 0, 1) := by decide +kernel
theorem dX3_bestOrder_1 : decode cX3_bestOrder 1 = .ok (.istore_n 2, 1) := by decide +kernel
theorem dX3_bestOrder_2 : decode cX3_bestOrder 2 = .ok (.iload_n 2, 1) := by decide +kernel
theorem dX3_bestOrder_3 : decode cX3_bestOrder 3 = .ok (.aload_n 0, 1) := by decide +kernel
theorem dX3_bestOrder_4 : decode cX3_bestOrder 4 = .ok (.getfield 32, 3) := by decide +kernel
theorem dX3_bestOrder_7 : decode cX3_bestOrder 7 = .ok (.getfield 40, 3) := by decide +kernel
theorem dX3_bestOrder_10 : decode cX3_bestOrder 10 = .ok (.if_icmp .ge 16, 3) := by decide +kernel
theorem dX3_bestOrder_13 : decode cX3_bestOrder 13 = .ok (.aload_n 0, 1) := by decide +kernel
theorem dX3_bestOrder_14 : decode cX3_bestOrder 14 = .ok (.getfield 18, 3) := by decide +kernel
theorem dX3_bestOrder_17 : decode cX3_bestOrder 17 = .ok (.iload_n 2, 1) := by decide +kernel
theorem dX3_bestOrder_18 : decode cX3_bestOrder 18 = .ok (.iload_n 2, 1) := by decide +kernel
theorem dX3_bestOrder_19 : decode cX3_bestOrder 19 = .ok (.iastore, 1) := by decide +kernel
theorem dX3_bestOrder_20 : decode cX3_bestOrder 20 = .ok (.iinc 2 1, 3) := by decide +kernel
theorem dX3_bestOrder_23 : decode cX3_bestOrder 23 = .ok (.goto (-21), 3) := by decide +kernel
theorem dX3_bestOrder_26 : decode cX3_bestOrder 26 = .ok (.iconst 1, 1) := by decide +kernel
theorem dX3_bestOrder_27 : decode cX3_bestOrder 27 = .ok (.istore_n 2, 1) := by decide +kernel
theorem dX3_bestOrder_28 : decode cX3_bestOrder 28 = .ok (.iconst 2, 1) := by decide +kernel
theorem dX3_bestOrder_29 : decode cX3_bestOrder 29 = .ok (.istore_n 3, 1) := by decide +kernel
theorem dX3_bestOrder_30 : decode cX3_bestOrder 30 = .ok (.iload_n 3, 1) := by decide +kernel
theorem dX3_bestOrder_31 : decode cX3_bestOrder 31 = .ok (.aload_n 0, 1) := by decide +kernel
theorem dX3_bestOrder_32 : decode cX3_bestOrder 32 = .ok (.getfield 32, 3) := by decide +kernel
theorem dX3_bestOrder_35 : decode cX3_bestOrder 35 = .ok (.getfield 40, 3) := by decide +kernel
theorem dX3_bestOrder_38 : decode cX3_bestOrder 38 = .ok (.if_icmp .gt 13, 3) := by decide +kernel
theorem dX3_bestOrder_41 : decode cX3_bestOrder 41 = .ok (.iload_n 2, 1) := by decide +kernel
theorem dX3_bestOrder_42 : decode cX3_bestOrder 42 = .ok (.iload_n 3, 1) := by decide +kernel
theorem dX3_bestOrder_43 : decode cX3_bestOrder 43 = .ok (.imul, 1) := by decide +kernel
theorem dX3_bestOrder_44 : decode cX3_bestOrder 44 = .ok (.istore_n 2, 1) := by decide +kernel
theorem dX3_bestOrder_45 : decode cX3_bestOrder 45 = .ok (.iinc 3 1, 3) := by decide +kernel
theorem dX3_bestOrder_48 : decode cX3_bestOrder 48 = .ok (.goto (-18), 3) := by decide +kernel
theorem dX3_bestOrder_51 : decode cX3_bestOrder 51 = .ok (.ldc 47, 2) := by decide +kernel
theorem dX3_bestOrder_53 : decode cX3_bestOrder 53 = .ok (.istore_n 3, 1) := by decide +kernel
theorem dX3_bestOrder_54 : decode cX3_bestOrder 54 = .ok (.iconst 0, 1) := by decide +kernel
theorem dX3_bestOrder_55 : decode cX3_bestOrder 55 = .ok (.istore 4, 2) := by decide +kernel
theorem dX3_bestOrder_57 : decode cX3_bestOrder 57 = .ok (.iload 4, 2) := by decide +kernel
theorem dX3_bestOrder_59 : decode cX3_bestOrder 59 = .ok (.iload_n 2, 1) := by decide +kernel
theorem dX3_bestOrder_60 : decode cX3_bestOrder 60 = .ok (.if_icmp .ge 49, 3) := by decide +kernel
theorem dX3_bestOrder_63 : decode cX3_bestOrder 63 = .ok (.aload_n 0, 1) := by decide +kernel
theorem dX3_bestOrder_64 : decode cX3_bestOrder 64 = .ok (.aload_n 1, 1) := by decide +kernel
theorem dX3_bestOrder_65 : decode cX3_bestOrder 65 = .ok (.invokevirtual 48, 3) := by decide +kernel
theorem dX3_bestOrder_68 : decode cX3_bestOrder 68 = .ok (.istore 5, 2) := by decide +kernel
theorem dX3_bestOrder_70 : decode cX3_bestOrder 70 = .ok (.iload 5, 2) := by decide +kernel
theorem dX3_bestOrder_72 : decode cX3_bestOrder 72 = .ok (.iload_n 3, 1) := by decide +kernel
theorem dX3_bestOrder_73 : decode cX3_bestOrder 73 = .ok (.if_icmp .ge 26, 3) := by decide +kernel
theorem dX3_bestOrder_76 : decode cX3_bestOrder 76 = .ok (.iload 5, 2) := by decide +kernel
theorem dX3_bestOrder_78 : decode cX3_bestOrder 78 = .ok (.istore_n 3, 1) := by decide +kernel
theorem dX3_bestOrder_79 : decode cX3_bestOrder 79 = .ok (.aload_n 0, 1) := by decide +kernel
theorem dX3_bestOrder_80 : decode cX3_bestOrder 80 = .ok (.getfield 18, 3) := by decide +kernel
theorem dX3_bestOrder_83 : decode cX3_bestOrder 83 = .ok (.iconst 0, 1) := by decide +kernel
theorem dX3_bestOrder_84 : decode cX3_bestOrder 84 = .ok (.aload_n 0, 1) := by decide +kernel
theorem dX3_bestOrder_85 : decode cX3_bestOrder 85 = .ok (.getfield 22, 3) := by decide +kernel
theorem dX3_bestOrder_88 : decode cX3_bestOrder 88 = .ok (.iconst 0, 1) := by decide +kernel
theorem dX3_bestOrder_89 : decode cX3_bestOrder 89 = .ok (.aload_n 0, 1) := by decide +kernel
theorem dX3_bestOrder_90 : decode cX3_bestOrder 90 = .ok (.getfield 32, 3) := by decide +kernel
theorem dX3_bestOrder_93 : decode cX3_bestOrder 93 = .ok (.getfield 40, 3) := by decide +kernel
theorem dX3_bestOrder_96 : decode cX3_bestOrder 96 = .ok (.invokestatic 52, 3) := by decide +kernel
theorem dX3_bestOrder_99 : decode cX3_bestOrder 99 = .ok (.aload_n 0, 1) := by decide +kernel
theorem dX3_bestOrder_100 : decode cX3_bestOrder 100 = .ok (.invokevirtual 58, 3) := by decide +kernel
theorem dX3_bestOrder_103 : decode cX3_bestOrder 103 = .ok (.iinc 4 1, 3) := by decide +kernel
theorem dX3_bestOrder_106 : decode cX3_bestOrder 106 = .ok (.goto (-49), 3) := by decide +kernel
theorem dX3_bestOrder_109 : decode cX3_bestOrder 109 = .ok (.iload_n 3, 1) := by decide +kernel
theorem dX3_bestOrder_110 : decode cX3_bestOrder 110 = .ok (.ireturn, 1) := by decide +kernel
theorem dX3_lostByTried_0 : decode cX3_lostByTried 0 = .ok (.aload_n 0, 1) := by decide +kernel
theorem dX3_lostByTried_1 : decode cX3_lostByTried 1 = .ok (.getfield 12, 3) := by decide +kernel
theorem dX3_lostByTried_4 : decode cX3_lostByTried 4 = .ok (.aload_n 1, 1) := by decide +kernel
theorem dX3_lostByTried_5 : decode cX3_lostByTried 5 = .ok (.invokevirtual 61, 3) := by decide +kernel
theorem dX3_lostByTried_8 : decode cX3_lostByTried 8 = .ok (.iconst 0, 1) := by decide +kernel
theorem dX3_lostByTried_9 : decode cX3_lostByTried 9 = .ok (.istore_n 2, 1) := by decide +kernel
theorem dX3_lostByTried_10 : decode cX3_lostByTried 10 = .ok (.iconst 0, 1) := by decide +kernel
theorem dX3_lostByTried_11 : decode cX3_lostByTried 11 = .ok (.istore_n 3, 1) := by decide +kernel
theorem dX3_lostByTried_12 : decode cX3_lostByTried 12 = .ok (.iload_n 3, 1) := by decide +kernel
theorem dX3_lostByTried_13 : decode cX3_lostByTried 13 = .ok (.aload_n 0, 1) := by decide +kernel
theorem dX3_lostByTried_14 : decode cX3_lostByTried 14 = .ok (.getfield 32, 3) := by decide +kernel
theorem dX3_lostByTried_17 : decode cX3_lostByTried 17 = .ok (.getfield 40, 3) := by decide +kernel
theorem dX3_lostByTried_20 : decode cX3_lostByTried 20 = .ok (.if_icmp .ge 30, 3) := by decide +kernel
theorem dX3_lostByTried_23 : decode cX3_lostByTried 23 = .ok (.iload_n 2, 1) := by decide +kernel
theorem dX3_lostByTried_24 : decode cX3_lostByTried 24 = .ok (.aload_n 0, 1) := by decide +kernel
theorem dX3_lostByTried_25 : decode cX3_lostByTried 25 = .ok (.getfield 36, 3) := by decide +kernel
theorem dX3_lostByTried_28 : decode cX3_lostByTried 28 = .ok (.aload_n 0, 1) := by decide +kernel
theorem dX3_lostByTried_29 : decode cX3_lostByTried 29 = .ok (.getfield 12, 3) := by decide +kernel
theorem dX3_lostByTried_32 : decode cX3_lostByTried 32 = .ok (.aload_n 0, 1) := by decide +kernel
theorem dX3_lostByTried_33 : decode cX3_lostByTried 33 = .ok (.getfield 18, 3) := by decide +kernel
theorem dX3_lostByTried_36 : decode cX3_lostByTried 36 = .ok (.iload_n 3, 1) := by decide +kernel
theorem dX3_lostByTried_37 : decode cX3_lostByTried 37 = .ok (.iaload, 1) := by decide +kernel
theorem dX3_lostByTried_38 : decode cX3_lostByTried 38 = .ok (.iconst 0, 1) := by decide +kernel
theorem dX3_lostByTried_39 : decode cX3_lostByTried 39 = .ok (.invokevirtual 65, 3) := by decide +kernel
theorem dX3_lostByTried_42 : decode cX3_lostByTried 42 = .ok (.iadd, 1) := by decide +kernel
theorem dX3_lostByTried_43 : decode cX3_lostByTried 43 = .ok (.istore_n 2, 1) := by decide +kernel
theorem dX3_lostByTried_44 : decode cX3_lostByTried 44 = .ok (.iinc 3 1, 3) := by decide +kernel
theorem dX3_lostByTried_47 : decode cX3_lostByTried 47 = .ok (.goto (-35), 3) := by decide +kernel
theorem dX3_lostByTried_50 : decode cX3_lostByTried 50 = .ok (.iload_n 2, 1) := by decide +kernel
theorem dX3_lostByTried_51 : decode cX3_lostByTried 51 = .ok (.ireturn, 1) := by decide +kernel
theorem dX3_nextOrder_0 : decode cX3_nextOrder 0 = .ok (.aload_n 0, 1) := by decide +kernel
theorem dX3_nextOrder_1 : decode cX3_nextOrder 1 = .ok (.getfield 32, 3) := by decide +kernel
theorem dX3_nextOrder_4 : decode cX3_nextOrder 4 = .ok (.getfield 40, 3) := by decide +kernel
theorem dX3_nextOrder_7 : decode cX3_nextOrder 7 = .ok (.iconst 2, 1) := by decide +kernel
theorem dX3_nextOrder_8 : decode cX3_nextOrder 8 = .ok (.isub, 1) := by decide +kernel
theorem dX3_nextOrder_9 : decode cX3_nextOrder 9 = .ok (.istore_n 1, 1) := by decide +kernel
theorem dX3_nextOrder_10 : decode cX3_nextOrder 10 = .ok (.iload_n 1, 1) := by decide +kernel
theorem dX3_nextOrder_11 : decode cX3_nextOrder 11 = .ok (.ifCond .lt 26, 3) := by decide +kernel
theorem dX3_nextOrder_14 : decode cX3_nextOrder 14 = .ok (.aload_n 0, 1) := by decide +kernel
theorem dX3_nextOrder_15 : decode cX3_nextOrder 15 = .ok (.getfield 18, 3) := by decide +kernel
theorem dX3_nextOrder_18 : decode cX3_nextOrder 18 = .ok (.iload_n 1, 1) := by decide +kernel
theorem dX3_nextOrder_19 : decode cX3_nextOrder 19 = .ok (.iaload, 1) := by decide +kernel
theorem dX3_nextOrder_20 : decode cX3_nextOrder 20 = .ok (.aload_n 0, 1) := by decide +kernel
theorem dX3_nextOrder_21 : decode cX3_nextOrder 21 = .ok (.getfield 18, 3) := by decide +kernel
theorem dX3_nextOrder_24 : decode cX3_nextOrder 24 = .ok (.iload_n 1, 1) := by decide +kernel
theorem dX3_nextOrder_25 : decode cX3_nextOrder 25 = .ok (.iconst 1, 1) := by decide +kernel
theorem dX3_nextOrder_26 : decode cX3_nextOrder 26 = .ok (.iadd, 1) := by decide +kernel
theorem dX3_nextOrder_27 : decode cX3_nextOrder 27 = .ok (.iaload, 1) := by decide +kernel
theorem dX3_nextOrder_28 : decode cX3_nextOrder 28 = .ok (.if_icmp .le 9, 3) := by decide +kernel
theorem dX3_nextOrder_31 : decode cX3_nextOrder 31 = .ok (.iinc 1 (-1), 3) := by decide +kernel
theorem dX3_nextOrder_34 : decode cX3_nextOrder 34 = .ok (.goto (-24), 3) := by decide +kernel
theorem dX3_nextOrder_37 : decode cX3_nextOrder 37 = .ok (.iload_n 1, 1) := by decide +kernel
theorem dX3_nextOrder_38 : decode cX3_nextOrder 38 = .ok (.ifCond .lt 45, 3) := by decide +kernel
theorem dX3_nextOrder_41 : decode cX3_nextOrder 41 = .ok (.aload_n 0, 1) := by decide +kernel
theorem dX3_nextOrder_42 : decode cX3_nextOrder 42 = .ok (.getfield 32, 3) := by decide +kernel
theorem dX3_nextOrder_45 : decode cX3_nextOrder 45 = .ok (.getfield 40, 3) := by decide +kernel
theorem dX3_nextOrder_48 : decode cX3_nextOrder 48 = .ok (.iconst 1, 1) := by decide +kernel
theorem dX3_nextOrder_49 : decode cX3_nextOrder 49 = .ok (.isub, 1) := by decide +kernel
theorem dX3_nextOrder_50 : decode cX3_nextOrder 50 = .ok (.istore_n 2, 1) := by decide +kernel
theorem dX3_nextOrder_51 : decode cX3_nextOrder 51 = .ok (.iload_n 2, 1) := by decide +kernel
theorem dX3_nextOrder_52 : decode cX3_nextOrder 52 = .ok (.iload_n 1, 1) := by decide +kernel
theorem dX3_nextOrder_53 : decode cX3_nextOrder 53 = .ok (.if_icmp .le 24, 3) := by decide +kernel
theorem dX3_nextOrder_56 : decode cX3_nextOrder 56 = .ok (.aload_n 0, 1) := by decide +kernel
theorem dX3_nextOrder_57 : decode cX3_nextOrder 57 = .ok (.getfield 18, 3) := by decide +kernel
theorem dX3_nextOrder_60 : decode cX3_nextOrder 60 = .ok (.iload_n 2, 1) := by decide +kernel
theorem dX3_nextOrder_61 : decode cX3_nextOrder 61 = .ok (.iaload, 1) := by decide +kernel
theorem dX3_nextOrder_62 : decode cX3_nextOrder 62 = .ok (.aload_n 0, 1) := by decide +kernel
theorem dX3_nextOrder_63 : decode cX3_nextOrder 63 = .ok (.getfield 18, 3) := by decide +kernel
theorem dX3_nextOrder_66 : decode cX3_nextOrder 66 = .ok (.iload_n 1, 1) := by decide +kernel
