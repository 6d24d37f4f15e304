theorem dX11_end_4 : decode cX11_end 4 = .ok (.iload_n 1, 1) := by decide +kernel
theorem dX11_end_5 : decode cX11_end 5 = .ok (.aload_n 0, 1) := by decide +kernel
theorem dX11_end_6 : decode cX11_end 6 = .ok (.getfield 12, 3) := by decide +kernel
theorem dX11_end_9 : decode cX11_end 9 = .ok (.getfield 99, 3) := by decide +kernel
theorem dX11_end_12 : decode cX11_end 12 = .ok (.if_icmp .le 5, 3) := by decide +kernel
theorem dX11_end_15 : decode cX11_end 15 = .ok (.iconst (-1), 1) := by decide +kernel
theorem dX11_end_16 : decode cX11_end 16 = .ok (.ireturn, 1) := by decide +kernel
theorem dX11_end_17 : decode cX11_end 17 = .ok (.aload_n 0, 1) := by decide +kernel
theorem dX11_end_18 : decode cX11_end 18 = .ok (.getfield 12, 3) := by decide +kernel
theorem dX11_end_21 : decode cX11_end 21 = .ok (.iload_n 1, 1) := by decide +kernel
theorem dX11_end_22 : decode cX11_end 22 = .ok (.putfield 99, 3) := by decide +kernel
theorem dX11_end_25 : decode cX11_end 25 = .ok (.iload_n 1, 1) := by decide +kernel
theorem dX11_end_26 : decode cX11_end 26 = .ok (.ireturn, 1) := by decide +kernel
theorem dX11_village_0 : decode cX11_village 0 = .ok (.aload_n 0, 1) := by decide +kernel
theorem dX11_village_1 : decode cX11_village 1 = .ok (.getfield 28, 3) := by decide +kernel
theorem dX11_village_4 : decode cX11_village 4 = .ok (.invokevirtual 106, 3) := by decide +kernel
theorem dX11_village_7 : decode cX11_village 7 = .ok (.istore_n 1, 1) := by decide +kernel
theorem dX11_village_8 : decode cX11_village 8 = .ok (.aload_n 0, 1) := by decide +kernel
theorem dX11_village_9 : decode cX11_village 9 = .ok (.getfield 12, 3) := by decide +kernel
theorem dX11_village_12 : decode cX11_village 12 = .ok (.iconst 0, 1) := by decide +kernel
theorem dX11_village_13 : decode cX11_village 13 = .ok (.putfield 99, 3) := by decide +kernel
theorem dX11_village_16 : decode cX11_village 16 = .ok (.aload_n 0, 1) := by decide +kernel
theorem dX11_village_17 : decode cX11_village 17 = .ok (.aload_n 0, 1) := by decide +kernel
theorem dX11_village_18 : decode cX11_village 18 = .ok (.getfield 28, 3) := by decide +kernel
theorem dX11_village_21 : decode cX11_village 21 = .ok (.getfield 110, 3) := by decide +kernel
theorem dX11_village_24 : decode cX11_village 24 = .ok (.putfield 93, 3) := by decide +kernel
theorem dX11_village_27 : decode cX11_village 27 = .ok (.aload_n 0, 1) := by decide +kernel
theorem dX11_village_28 : decode cX11_village 28 = .ok (.aload_n 0, 1) := by decide +kernel
theorem dX11_village_29 : decode cX11_village 29 = .ok (.getfield 28, 3) := by decide +kernel
theorem dX11_village_32 : decode cX11_village 32 = .ok (.getfield 111, 3) := by decide +kernel
theorem dX11_village_35 : decode cX11_village 35 = .ok (.putfield 96, 3) := by decide +kernel
theorem dX11_village_38 : decode cX11_village 38 = .ok (.iload_n 1, 1) := by decide +kernel
theorem dX11_village_39 : decode cX11_village 39 = .ok (.ifCond .ne 5, 3) := by decide +kernel
theorem dX11_village_42 : decode cX11_village 42 = .ok (.iconst (-1), 1) := by decide +kernel
theorem dX11_village_43 : decode cX11_village 43 = .ok (.ireturn, 1) := by decide +kernel
theorem dX11_village_44 : decode cX11_village 44 = .ok (.aload_n 0, 1) := by decide +kernel
theorem dX11_village_45 : decode cX11_village 45 = .ok (.getfield 19, 3) := by decide +kernel
theorem dX11_village_48 : decode cX11_village 48 = .ok (.aload_n 0, 1) := by decide +kernel
theorem dX11_village_49 : decode cX11_village 49 = .ok (.getfield 28, 3) := by decide +kernel
theorem dX11_village_52 : decode cX11_village 52 = .ok (.getfield 112, 3) := by decide +kernel
theorem dX11_village_55 : decode cX11_village 55 = .ok (.invokevirtual 115, 3) := by decide +kernel
theorem dX11_village_58 : decode cX11_village 58 = .ok (.aload_n 0, 1) := by decide +kernel
theorem dX11_village_59 : decode cX11_village 59 = .ok (.getfield 19, 3) := by decide +kernel
theorem dX11_village_62 : decode cX11_village 62 = .ok (.aload_n 0, 1) := by decide +kernel
theorem dX11_village_63 : decode cX11_village 63 = .ok (.getfield 89, 3) := by decide +kernel
theorem dX11_village_66 : decode cX11_village 66 = .ok (.invokevirtual 118, 3) := by decide +kernel
theorem dX11_village_69 : decode cX11_village 69 = .ok (.aload_n 0, 1) := by decide +kernel
theorem dX11_village_70 : decode cX11_village 70 = .ok (.getfield 67, 3) := by decide +kernel
theorem dX11_village_73 : decode cX11_village 73 = .ok (.invokevirtual 122, 3) := by decide +kernel
theorem dX11_village_76 : decode cX11_village 76 = .ok (.aload_n 0, 1) := by decide +kernel
theorem dX11_village_77 : decode cX11_village 77 = .ok (.getfield 60, 3) := by decide +kernel
theorem dX11_village_80 : decode cX11_village 80 = .ok (.invokevirtual 125, 3) := by decide +kernel
theorem dX11_village_83 : decode cX11_village 83 = .ok (.aload_n 0, 1) := by decide +kernel
theorem dX11_village_84 : decode cX11_village 84 = .ok (.iconst 0, 1) := by decide +kernel
theorem dX11_village_85 : decode cX11_village 85 = .ok (.putfield 75, 3) := by decide +kernel
theorem dX11_village_88 : decode cX11_village 88 = .ok (.aload_n 0, 1) := by decide +kernel
theorem dX11_village_89 : decode cX11_village 89 = .ok (.iconst 0, 1) := by decide +kernel
theorem dX11_village_90 : decode cX11_village 90 = .ok (.putfield 85, 3) := by decide +kernel
theorem dX11_village_93 : decode cX11_village 93 = .ok (.aload_n 0, 1) := by decide +kernel
theorem dX11_village_94 : decode cX11_village 94 = .ok (.getfield 19, 3) := by decide +kernel
theorem dX11_village_97 : decode cX11_village 97 = .ok (.getfield 126, 3) := by decide +kernel
theorem dX11_village_100 : decode cX11_village 100 = .ok (.ireturn, 1) := by decide +kernel
theorem dX11_fault_0 : decode cX11_fault 0 = .ok (.iload_n 1, 1) := by decide +kernel
theorem dX11_fault_1 : decode cX11_fault 1 = .ok (.lookupswitch 41 #[(0, 27), (1, 34)], 27) := by decide +kernel
theorem dX11_fault_28 : decode cX11_fault 28 = .ok (.aload_n 0, 1) := by decide +kernel
theorem dX11_fault_29 : decode cX11_fault 29 = .ok (.getfield 93, 3) := by decide +kernel
theorem dX11_fault_32 : decode cX11_fault 32 = .ok (.goto 11, 3) := by decide +kernel
theorem dX11_fault_35 : decode cX11_fault 35 = .ok (.aload_n 0, 1) := by decide +kernel
theorem dX11_fault_36 : decode cX11_fault 36 = .ok (.getfield 96, 3) := by decide +kernel
theorem dX11_fault_39 : decode cX11_fault 39 = .ok (.goto 4, 3) := by decide +kernel
theorem dX11_fault_42 : decode cX11_fault 42 = .ok (.iconst (-1), 1) := by decide +kernel
theorem dX11_fault_43 : decode cX11_fault 43 = .ok (.ireturn, 1) := by decide +kernel
theorem dX11_person_0 : decode cX11_person 0 = .ok (.aload_n 0, 1) := by decide +kernel
theorem dX11_person_1 : decode cX11_person 1 = .ok (.getfield 19, 3) := by decide +kernel
theorem dX11_person_4 : decode cX11_person 4 = .ok (.iload_n 1, 1) := by decide +kernel
theorem dX11_person_5 : decode cX11_person 5 = .ok (.invokevirtual 129, 3) := by decide +kernel
theorem dX11_person_8 : decode cX11_person 8 = .ok (.ifCond .ne 5, 3) := by decide +kernel
theorem dX11_person_11 : decode cX11_person 11 = .ok (.iconst (-1), 1) := by decide +kernel
theorem dX11_person_12 : decode cX11_person 12 = .ok (.ireturn, 1) := by decide +kernel
theorem dX11_person_13 : decode cX11_person 13 = .ok (.iload_n 2, 1) := by decide +kernel
theorem dX11_person_14 : decode cX11_person 14 = .ok (.tableswitch 98 0 4 #[34, 46, 58, 72, 83], 34) := by decide +kernel
theorem dX11_person_48 : decode cX11_person 48 = .ok (.aload_n 0, 1) := by decide +kernel
theorem dX11_person_49 : decode cX11_person 49 = .ok (.getfield 89, 3) := by decide +kernel
theorem dX11_person_52 : decode cX11_person 52 = .ok (.getfield 133, 3) := by decide +kernel
theorem dX11_person_55 : decode cX11_person 55 = .ok (.iload_n 1, 1) := by decide +kernel
theorem dX11_person_56 : decode cX11_person 56 = .ok (.iaload, 1) := by decide +kernel
theorem dX11_person_57 : decode cX11_person 57 = .ok (.goto 56, 3) := by decide +kernel
theorem dX11_person_60 : decode cX11_person 60 = .ok (.aload_n 0, 1) := by decide +kernel
theorem dX11_person_61 : decode cX11_person 61 = .ok (.getfield 89, 3) := by decide +kernel
theorem dX11_person_64 : decode cX11_person 64 = .ok (.getfield 136, 3) := by decide +kernel
theorem dX11_person_67 : decode cX11_person 67 = .ok (.iload_n 1, 1) := by decide +kernel
theorem dX11_person_68 : decode cX11_person 68 = .ok (.iaload, 1) := by decide +kernel
theorem dX11_person_69 : decode cX11_person 69 = .ok (.goto 44, 3) := by decide +kernel
theorem dX11_person_72 : decode cX11_person 72 = .ok (.aload_n 0, 1) := by decide +kernel
theorem dX11_person_73 : decode cX11_person 73 = .ok (.getfield 89, 3) := by decide +kernel
theorem dX11_person_76 : decode cX11_person 76 = .ok (.getfield 139, 3) := by decide +kernel
theorem dX11_person_79 : decode cX11_person 79 = .ok (.iload_n 1, 1) := by decide +kernel
theorem dX11_person_80 : decode cX11_person 80 = .ok (.ishr, 1) := by decide +kernel
theorem dX11_person_81 : decode cX11_person 81 = .ok (.iconst 1, 1) := by decide +kernel
theorem dX11_person_82 : decode cX11_person 82 = .ok (.iand, 1) := by decide +kernel
theorem dX11_person_83 : decode cX11_person 83 = .ok (.goto 30, 3) := by decide +kernel
theorem dX11_person_86 : decode cX11_person 86 = .ok (.aload_n 0, 1) := by decide +kernel
theorem dX11_person_87 : decode cX11_person 87 = .ok (.getfield 89, 3) := by decide +kernel
theorem dX11_person_90 : decode cX11_person 90 = .ok (.iload_n 1, 1) := by decide +kernel
theorem dX11_person_91 : decode cX11_person 91 = .ok (.invokevirtual 142, 3) := by decide +kernel
theorem dX11_person_94 : decode cX11_person 94 = .ok (.goto 19, 3) := by decide +kernel
theorem dX11_person_97 : decode cX11_person 97 = .ok (.aload_n 0, 1) := by decide +kernel
theorem dX11_person_98 : decode cX11_person 98 = .ok (.getfield 46, 3) := by decide +kernel
theorem dX11_person_101 : decode cX11_person 101 = .ok (.aload_n 0, 1) := by decide +kernel
theorem dX11_person_102 : decode cX11_person 102 = .ok (.getfield 89, 3) := by decide +kernel
theorem dX11_person_105 : decode cX11_person 105 = .ok (.iload_n 1, 1) := by decide +kernel
theorem dX11_person_106 : decode cX11_person 106 = .ok (.invokevirtual 146, 3) := by decide +kernel
theorem dX11_person_109 : decode cX11_person 109 = .ok (.goto 4, 3) := by decide +kernel
theorem dX11_person_112 : decode cX11_person 112 = .ok (.iconst (-1), 1) := by decide +kernel
theorem dX11_person_113 : decode cX11_person 113 = .ok (.ireturn, 1) := by decide +kernel
theorem dX11_loss_0 : decode cX11_loss 0 = .ok (.aload_n 0, 1) := by decide +kernel
theorem dX11_loss_1 : decode cX11_loss 1 = .ok (.getfield 19, 3) := by decide +kernel
theorem dX11_loss_4 : decode cX11_loss 4 = .ok (.iload_n 1, 1) := by decide +kernel
theorem dX11_loss_5 : decode cX11_loss 5 = .ok (.iload_n 2, 1) := by decide +kernel
theorem dX11_loss_6 : decode cX11_loss 6 = .ok (.invokevirtual 150, 3) := by decide +kernel
theorem dX11_loss_9 : decode cX11_loss 9 = .ok (.ifCond .eq 19, 3) := by decide +kernel
theorem dX11_loss_12 : decode cX11_loss 12 = .ok (.aload_n 0, 1) := by decide +kernel
theorem dX11_loss_13 : decode cX11_loss 13 = .ok (.getfield 89, 3) := by decide +kernel
theorem dX11_loss_16 : decode cX11_loss 16 = .ok (.getfield 154, 3) := by decide +kernel
theorem dX11_loss_19 : decode cX11_loss 19 = .ok (.iload_n 1, 1) := by decide +kernel
theorem dX11_loss_20 : decode cX11_loss 20 = .ok (.iload_n 2, 1) := by decide +kernel
theorem dX11_loss_21 : decode cX11_loss 21 = .ok (.invokestatic 157, 3) := by decide +kernel
theorem dX11_loss_24 : decode cX11_loss 24 = .ok (.iaload, 1) := by decide +kernel
theorem dX11_loss_25 : decode cX11_loss 25 = .ok (.goto 4, 3) := by decide +kernel
theorem dX11_loss_28 : decode cX11_loss 28 = .ok (.iconst (-1), 1) := by decide +kernel
theorem dX11_loss_29 : decode cX11_loss 29 = .ok (.ireturn, 1) := by decide +kernel
theorem dX11_weight_0 : decode cX11_weight 0 = .ok (.aload_n 0, 1) := by decide +kernel
theorem dX11_weight_1 : decode cX11_weight 1 = .ok (.getfield 19, 3) := by decide +kernel
theorem dX11_weight_4 : decode cX11_weight 4 = .ok (.iload_n 1, 1) := by decide +kernel
theorem dX11_weight_5 : decode cX11_weight 5 = .ok (.iload_n 2, 1) := by decide +kernel
theorem dX11_weight_6 : decode cX11_weight 6 = .ok (.invokevirtual 150, 3) := by decide +kernel
theorem dX11_weight_9 : decode cX11_weight 9 = .ok (.ifCond .ne 6, 3) := by decide +kernel
theorem dX11_weight_12 : decode cX11_weight 12 = .ok (.ldc 161, 2) := by decide +kernel
theorem dX11_weight_14 : decode cX11_weight 14 = .ok (.ireturn, 1) := by decide +kernel
theorem dX11_weight_15 : decode cX11_weight 15 = .ok (.aload_n 0, 1) := by decide +kernel
theorem dX11_weight_16 : decode cX11_weight 16 = .ok (.getfield 19, 3) := by decide +kernel
theorem dX11_weight_19 : decode cX11_weight 19 = .ok (.getfield 162, 3) := by decide +kernel
theorem dX11_weight_22 : decode cX11_weight 22 = .ok (.aload_n 0, 1) := by decide +kernel
theorem dX11_weight_23 : decode cX11_weight 23 = .ok (.getfield 89, 3) := by decide +kernel
theorem dX11_weight_26 : decode cX11_weight 26 = .ok (.iload_n 1, 1) := by decide +kernel
theorem dX11_weight_27 : decode cX11_weight 27 = .ok (.iload_n 2, 1) := by decide +kernel
theorem dX11_weight_28 : decode cX11_weight 28 = .ok (.aload_n 0, 1) := by decide +kernel
theorem dX11_weight_29 : decode cX11_weight 29 = .ok (.getfield 19, 3) := by decide +kernel
theorem dX11_weight_32 : decode cX11_weight 32 = .ok (.getfield 166, 3) := by decide +kernel
theorem dX11_weight_35 : decode cX11_weight 35 = .ok (.iload_n 2, 1) := by decide +kernel
theorem dX11_weight_36 : decode cX11_weight 36 = .ok (.iaload, 1) := by decide +kernel
theorem dX11_weight_37 : decode cX11_weight 37 = .ok (.invokevirtual 169, 3) := by decide +kernel
theorem dX11_weight_40 : decode cX11_weight 40 = .ok (.ireturn, 1) := by decide +kernel
theorem dX11_ringer_0 : decode cX11_ringer 0 = .ok (.aload_n 0, 1) := by decide +kernel
theorem dX11_ringer_1 : decode cX11_ringer 1 = .ok (.getfield 19, 3) := by decide +kernel
theorem dX11_ringer_4 : decode cX11_ringer 4 = .ok (.iload_n 1, 1) := by decide +kernel
theorem dX11_ringer_5 : decode cX11_ringer 5 = .ok (.invokevirtual 175, 3) := by decide +kernel
theorem dX11_ringer_8 : decode cX11_ringer 8 = .ok (.ifCond .eq 18, 3) := by decide +kernel
theorem dX11_ringer_11 : decode cX11_ringer 11 = .ok (.aload_n 0, 1) := by decide +kernel
theorem dX11_ringer_12 : decode cX11_ringer 12 = .ok (.getfield 37, 3) := by decide +kernel
theorem dX11_ringer_15 : decode cX11_ringer 15 = .ok (.aload_n 0, 1) := by decide +kernel
theorem dX11_ringer_16 : decode cX11_ringer 16 = .ok (.getfield 89, 3) := by decide +kernel
theorem dX11_ringer_19 : decode cX11_ringer 19 = .ok (.iload_n 1, 1) := by decide +kernel
theorem dX11_ringer_20 : decode cX11_ringer 20 = .ok (.invokevirtual 178, 3) := by decide +kernel
theorem dX11_ringer_23 : decode cX11_ringer 23 = .ok (.goto 5, 3) := by decide +kernel
theorem dX11_ringer_26 : decode cX11_ringer 26 = .ok (.bipush (-2), 2) := by decide +kernel
theorem dX11_ringer_28 : decode cX11_ringer 28 = .ok (.ireturn, 1) := by decide +kernel
theorem dX11_hour_0 : decode cX11_hour 0 = .ok (.aload_n 0, 1) := by decide +kernel
theorem dX11_hour_1 : decode cX11_hour 1 = .ok (.getfield 19, 3) := by decide +kernel
theorem dX11_hour_4 : decode cX11_hour 4 = .ok (.iload_n 1, 1) := by decide +kernel
theorem dX11_hour_5 : decode cX11_hour 5 = .ok (.invokevirtual 175, 3) := by decide +kernel
theorem dX11_hour_8 : decode cX11_hour 8 = .ok (.ifCond .eq 15, 3) := by decide +kernel
theorem dX11_hour_11 : decode cX11_hour 11 = .ok (.aload_n 0, 1) := by decide +kernel
theorem dX11_hour_12 : decode cX11_hour 12 = .ok (.getfield 19, 3) := by decide +kernel
theorem dX11_hour_15 : decode cX11_hour 15 = .ok (.getfield 166, 3) := by decide +kernel
theorem dX11_hour_18 : decode cX11_hour 18 = .ok (.iload_n 1, 1) := by decide +kernel
theorem dX11_hour_19 : decode cX11_hour 19 = .ok (.iaload, 1) := by decide +kernel
theorem dX11_hour_20 : decode cX11_hour 20 = .ok (.goto 4, 3) := by decide +kernel
theorem dX11_hour_23 : decode cX11_hour 23 = .ok (.iconst (-1), 1) := by decide +kernel
theorem dX11_hour_24 : decode cX11_hour 24 = .ok (.ireturn, 1) := by decide +kernel
theorem dX11_day_0 : decode cX11_day 0 = .ok (.aload_n 0, 1) := by decide +kernel
theorem dX11_day_1 : decode cX11_day 1 = .ok (.getfield 89, 3) := by decide +kernel
theorem dX11_day_4 : decode cX11_day 4 = .ok (.getfield 181, 3) := by decide +kernel
theorem dX11_day_7 : decode cX11_day 7 = .ok (.sipush 999, 3) := by decide +kernel
theorem dX11_day_10 : decode cX11_day 10 = .ok (.if_icmp .lt 5, 3) := by decide +kernel
theorem dX11_day_13 : decode cX11_day 13 = .ok (.iconst (-1), 1) := by decide +kernel
theorem dX11_day_14 : decode cX11_day 14 = .ok (.ireturn, 1) := by decide +kernel
theorem dX11_day_15 : decode cX11_day 15 = .ok (.aload_n 0, 1) := by decide +kernel
theorem dX11_day_16 : decode cX11_day 16 = .ok (.getfield 67, 3) := by decide +kernel
theorem dX11_day_19 : decode cX11_day 19 = .ok (.aload_n 0, 1) := by decide +kernel
theorem dX11_day_20 : decode cX11_day 20 = .ok (.getfield 89, 3) := by decide +kernel
theorem dX11_day_23 : decode cX11_day 23 = .ok (.invokevirtual 184, 3) := by decide +kernel
theorem dX11_day_26 : decode cX11_day 26 = .ok (.aload_n 0, 1) := by decide +kernel
theorem dX11_day_27 : decode cX11_day 27 = .ok (.getfield 37, 3) := by decide +kernel
theorem dX11_day_30 : decode cX11_day 30 = .ok (.aload_n 0, 1) := by decide +kernel
theorem dX11_day_31 : decode cX11_day 31 = .ok (.getfield 89, 3) := by decide +kernel
theorem dX11_day_34 : decode cX11_day 34 = .ok (.iconst 1, 1) := by decide +kernel
theorem dX11_day_35 : decode cX11_day 35 = .ok (.invokevirtual 187, 3) := by decide +kernel
theorem dX11_day_38 : decode cX11_day 38 = .ok (.ireturn, 1) := by decide +kernel
theorem dX11_want_0 : decode cX11_want 0 = .ok (.aload_n 0, 1) := by decide +kernel
theorem dX11_want_1 : decode cX11_want 1 = .ok (.getfield 19, 3) := by decide +kernel
theorem dX11_want_4 : decode cX11_want 4 = .ok (.iload_n 1, 1) := by decide +kernel
theorem dX11_want_5 : decode cX11_want 5 = .ok (.iload_n 2, 1) := by decide +kernel
theorem dX11_want_6 : decode cX11_want 6 = .ok (.invokevirtual 150, 3) := by decide +kernel
theorem dX11_want_9 : decode cX11_want 9 = .ok (.ifCond .eq 13, 3) := by decide +kernel
theorem dX11_want_12 : decode cX11_want 12 = .ok (.iload_n 3, 1) := by decide +kernel
theorem dX11_want_13 : decode cX11_want 13 = .ok (.iconst 0, 1) := by decide +kernel
theorem dX11_want_14 : decode cX11_want 14 = .ok (.bipush 20, 2) := by decide +kernel
theorem dX11_want_16 : decode cX11_want 16 = .ok (.invokestatic 191, 3) := by decide +kernel
theorem dX11_want_19 : decode cX11_want 19 = .ok (.ifCond .ne 5, 3) := by decide +kernel
theorem dX11_want_22 : decode cX11_want 22 = .ok (.iconst (-1), 1) := by decide +kernel
theorem dX11_want_23 : decode cX11_want 23 = .ok (.ireturn, 1) := by decide +kernel
theorem dX11_want_24 : decode cX11_want 24 = .ok (.aload_n 0, 1) := by decide +kernel
theorem dX11_want_25 : decode cX11_want 25 = .ok (.getfield 89, 3) := by decide +kernel
theorem dX11_want_28 : decode cX11_want 28 = .ok (.getfield 154, 3) := by decide +kernel
theorem dX11_want_31 : decode cX11_want 31 = .ok (.iload_n 1, 1) := by decide +kernel
theorem dX11_want_32 : decode cX11_want 32 = .ok (.iload_n 2, 1) := by decide +kernel
theorem dX11_want_33 : decode cX11_want 33 = .ok (.invokestatic 157, 3) := by decide +kernel
theorem dX11_want_36 : decode cX11_want 36 = .ok (.iaload, 1) := by decide +kernel
theorem dX11_want_37 : decode cX11_want 37 = .ok (.istore 4, 2) := by decide +kernel
theorem dX11_want_39 : decode cX11_want 39 = .ok (.iload 4, 2) := by decide +kernel
theorem dX11_want_41 : decode cX11_want 41 = .ok (.iload_n 3, 1) := by decide +kernel
theorem dX11_want_42 : decode cX11_want 42 = .ok (.if_icmp .ne 5, 3) := by decide +kernel
theorem dX11_want_45 : decode cX11_want 45 = .ok (.iconst (-1), 1) := by decide +kernel
theorem dX11_want_46 : decode cX11_want 46 = .ok (.ireturn, 1) := by decide +kernel
theorem dX11_want_47 : decode cX11_want 47 = .ok (.aload_n 0, 1) := by decide +kernel
theorem dX11_want_48 : decode cX11_want 48 = .ok (.getfield 67, 3) := by decide +kernel
theorem dX11_want_51 : decode cX11_want 51 = .ok (.aload_n 0, 1) := by decide +kernel
theorem dX11_want_52 : decode cX11_want 52 = .ok (.getfield 89, 3) := by decide +kernel
theorem dX11_want_55 : decode cX11_want 55 = .ok (.invokevirtual 184, 3) := by decide +kernel
theorem dX11_want_58 : decode cX11_want 58 = .ok (.aload_n 0, 1) := by decide +kernel
theorem dX11_want_59 : decode cX11_want 59 = .ok (.getfield 89, 3) := by decide +kernel
theorem dX11_want_62 : decode cX11_want 62 = .ok (.getfield 154, 3) := by decide +kernel
theorem dX11_want_65 : decode cX11_want 65 = .ok (.iload_n 1, 1) := by decide +kernel
theorem dX11_want_66 : decode cX11_want 66 = .ok (.iload_n 2, 1) := by decide +kernel
theorem dX11_want_67 : decode cX11_want 67 = .ok (.invokestatic 157, 3) := by decide +kernel
theorem dX11_want_70 : decode cX11_want 70 = .ok (.iload_n 3, 1) := by decide +kernel
theorem dX11_want_71 : decode cX11_want 71 = .ok (.iastore, 1) := by decide +kernel
theorem dX11_want_72 : decode cX11_want 72 = .ok (.iload 4, 2) := by decide +kernel
theorem dX11_want_74 : decode cX11_want 74 = .ok (.ireturn, 1) := by decide +kernel
theorem dX11_leave_0 : decode cX11_leave 0 = .ok (.aload_n 0, 1) := by decide +kernel
theorem dX11_leave_1 : decode cX11_leave 1 = .ok (.getfield 19, 3) := by decide +kernel
theorem dX11_leave_4 : decode cX11_leave 4 = .ok (.iload_n 1, 1) := by decide +kernel
theorem dX11_leave_5 : decode cX11_leave 5 = .ok (.invokevirtual 129, 3) := by decide +kernel
theorem dX11_leave_8 : decode cX11_leave 8 = .ok (.ifCond .eq 14, 3) := by decide +kernel
theorem dX11_leave_11 : decode cX11_leave 11 = .ok (.aload_n 0, 1) := by decide +kernel
theorem dX11_leave_12 : decode cX11_leave 12 = .ok (.getfield 89, 3) := by decide +kernel
theorem dX11_leave_15 : decode cX11_leave 15 = .ok (.iload_n 1, 1) := by decide +kernel
theorem dX11_leave_16 : decode cX11_leave 16 = .ok (.invokevirtual 195, 3) := by decide +kernel
theorem dX11_leave_19 : decode cX11_leave 19 = .ok (.ifCond .ne 5, 3) := by decide +kernel
theorem dX11_leave_22 : decode cX11_leave 22 = .ok (.iconst (-1), 1) := by decide +kernel
theorem dX11_leave_23 : decode cX11_leave 23 = .ok (.ireturn, 1) := by decide +kernel
theorem dX11_leave_24 : decode cX11_leave 24 = .ok (.aload_n 0, 1) := by decide +kernel
theorem dX11_leave_25 : decode cX11_leave 25 = .ok (.getfield 67, 3) := by decide +kernel
theorem dX11_leave_28 : decode cX11_leave 28 = .ok (.aload_n 0, 1) := by decide +kernel
theorem dX11_leave_29 : decode cX11_leave 29 = .ok (.getfield 89, 3) := by decide +kernel
theorem dX11_leave_32 : decode cX11_leave 32 = .ok (.invokevirtual 184, 3) := by decide +kernel
theorem dX11_leave_35 : decode cX11_leave 35 = .ok (.aload_n 0, 1) := by decide +kernel
theorem dX11_leave_36 : decode cX11_leave 36 = .ok (.getfield 89, 3) := by decide +kernel
theorem dX11_leave_39 : decode cX11_leave 39 = .ok (.dup, 1) := by decide +kernel
theorem dX11_leave_40 : decode cX11_leave 40 = .ok (.getfield 139, 3) := by decide +kernel
theorem dX11_leave_43 : decode cX11_leave 43 = .ok (.iconst 1, 1) := by decide +kernel
theorem dX11_leave_44 : decode cX11_leave 44 = .ok (.iload_n 1, 1) := by decide +kernel
theorem dX11_leave_45 : decode cX11_leave 45 = .ok (.ishl, 1) := by decide +kernel
theorem dX11_leave_46 : decode cX11_leave 46 = .ok (.iconst (-1), 1) := by decide +kernel
theorem dX11_leave_47 : decode cX11_leave 47 = .ok (.ixor, 1) := by decide +kernel
theorem dX11_leave_48 : decode cX11_leave 48 = .ok (.iand, 1) := by decide +kernel
theorem dX11_leave_49 : decode cX11_leave 49 = .ok (.putfield 139, 3) := by decide +kernel
theorem dX11_leave_52 : decode cX11_leave 52 = .ok (.aload_n 0, 1) := by decide +kernel
theorem dX11_leave_53 : decode cX11_leave 53 = .ok (.getfield 89, 3) := by decide +kernel
theorem dX11_leave_56 : decode cX11_leave 56 = .ok (.getfield 139, 3) := by decide +kernel
theorem dX11_leave_59 : decode cX11_leave 59 = .ok (.invokestatic 198, 3) := by decide +kernel
theorem dX11_leave_62 : decode cX11_leave 62 = .ok (.ireturn, 1) := by decide +kernel
theorem dX11_come_0 : decode cX11_come 0 = .ok (.aload_n 0, 1) := by decide +kernel
theorem dX11_come_1 : decode cX11_come 1 = .ok (.getfield 19, 3) := by decide +kernel
theorem dX11_come_4 : decode cX11_come 4 = .ok (.iload_n 1, 1) := by decide +kernel
theorem dX11_come_5 : decode cX11_come 5 = .ok (.invokevirtual 129, 3) := by decide +kernel
theorem dX11_come_8 : decode cX11_come 8 = .ok (.ifCond .eq 14, 3) := by decide +kernel
theorem dX11_come_11 : decode cX11_come 11 = .ok (.aload_n 0, 1) := by decide +kernel
theorem dX11_come_12 : decode cX11_come 12 = .ok (.getfield 89, 3) := by decide +kernel
theorem dX11_come_15 : decode cX11_come 15 = .ok (.iload_n 1, 1) := by decide +kernel
theorem dX11_come_16 : decode cX11_come 16 = .ok (.invokevirtual 195, 3) := by decide +kernel
theorem dX11_come_19 : decode cX11_come 19 = .ok (.ifCond .eq 5, 3) := by decide +kernel
theorem dX11_come_22 : decode cX11_come 22 = .ok (.iconst (-1), 1) := by decide +kernel
theorem dX11_come_23 : decode cX11_come 23 = .ok (.ireturn, 1) := by decide +kernel
theorem dX11_come_24 : decode cX11_come 24 = .ok (.aload_n 0, 1) := by decide +kernel
theorem dX11_come_25 : decode cX11_come 25 = .ok (.getfield 67, 3) := by decide +kernel
theorem dX11_come_28 : decode cX11_come 28 = .ok (.aload_n 0, 1) := by decide +kernel
theorem dX11_come_29 : decode cX11_come 29 = .ok (.getfield 89, 3) := by decide +kernel
theorem dX11_come_32 : decode cX11_come 32 = .ok (.invokevirtual 184, 3) := by decide +kernel
theorem dX11_come_35 : decode cX11_come 35 = .ok (.aload_n 0, 1) := by decide +kernel
theorem dX11_come_36 : decode cX11_come 36 = .ok (.getfield 89, 3) := by decide +kernel
theorem dX11_come_39 : decode cX11_come 39 = .ok (.dup, 1) := by decide +kernel
theorem dX11_come_40 : decode cX11_come 40 = .ok (.getfield 139, 3) := by decide +kernel
theorem dX11_come_43 : decode cX11_come 43 = .ok (.iconst 1, 1) := by decide +kernel
theorem dX11_come_44 : decode cX11_come 44 = .ok (.iload_n 1, 1) := by decide +kernel
theorem dX11_come_45 : decode cX11_come 45 = .ok (.ishl, 1) := by decide +kernel
theorem dX11_come_46 : decode cX11_come 46 = .ok (.ior, 1) := by decide +kernel
theorem dX11_come_47 : decode cX11_come 47 = .ok (.putfield 139, 3) := by decide +kernel
theorem dX11_come_50 : decode cX11_come 50 = .ok (.aload_n 0, 1) := by decide +kernel
theorem dX11_come_51 : decode cX11_come 51 = .ok (.getfield 89, 3) := by decide +kernel
theorem dX11_come_54 : decode cX11_come 54 = .ok (.getfield 139, 3) := by decide +kernel
theorem dX11_come_57 : decode cX11_come 57 = .ok (.invokestatic 198, 3) := by decide +kernel
theorem dX11_come_60 : decode cX11_come 60 = .ok (.ireturn, 1) := by decide +kernel
theorem dX11_gift_0 : decode cX11_gift 0 = .ok (.aload_n 0, 1) := by decide +kernel
theorem dX11_gift_1 : decode cX11_gift 1 = .ok (.getfield 19, 3) := by decide +kernel
theorem dX11_gift_4 : decode cX11_gift 4 = .ok (.iload_n 1, 1) := by decide +kernel
theorem dX11_gift_5 : decode cX11_gift 5 = .ok (.invokevirtual 129, 3) := by decide +kernel
theorem dX11_gift_8 : decode cX11_gift 8 = .ok (.ifCond .eq 28, 3) := by decide +kernel
theorem dX11_gift_11 : decode cX11_gift 11 = .ok (.iload_n 2, 1) := by decide +kernel
theorem dX11_gift_12 : decode cX11_gift 12 = .ok (.iconst 1, 1) := by decide +kernel
theorem dX11_gift_13 : decode cX11_gift 13 = .ok (.bipush 99, 2) := by decide +kernel
theorem dX11_gift_15 : decode cX11_gift 15 = .ok (.invokestatic 191, 3) := by decide +kernel
theorem dX11_gift_18 : decode cX11_gift 18 = .ok (.ifCond .eq 18, 3) := by decide +kernel
theorem dX11_gift_21 : decode cX11_gift 21 = .ok (.aload_n 0, 1) := by decide +kernel
theorem dX11_gift_22 : decode cX11_gift 22 = .ok (.getfield 89, 3) := by decide +kernel
theorem dX11_gift_25 : decode cX11_gift 25 = .ok (.getfield 133, 3) := by decide +kernel
theorem dX11_gift_28 : decode cX11_gift 28 = .ok (.iload_n 1, 1) := by decide +kernel
theorem dX11_gift_29 : decode cX11_gift 29 = .ok (.iaload, 1) := by decide +kernel
theorem dX11_gift_30 : decode cX11_gift 30 = .ok (.sipush 999, 3) := by decide +kernel
theorem dX11_gift_33 : decode cX11_gift 33 = .ok (.if_icmp .lt 5, 3) := by decide +kernel
theorem dX11_gift_36 : decode cX11_gift 36 = .ok (.iconst (-1), 1) := by decide +kernel
theorem dX11_gift_37 : decode cX11_gift 37 = .ok (.ireturn, 1) := by decide +kernel
theorem dX11_gift_38 : decode cX11_gift 38 = .ok (.aload_n 0, 1) := by decide +kernel
theorem dX11_gift_39 : decode cX11_gift 39 = .ok (.getfield 67, 3) := by decide +kernel
theorem dX11_gift_42 : decode cX11_gift 42 = .ok (.aload_n 0, 1) := by decide +kernel
theorem dX11_gift_43 : decode cX11_gift 43 = .ok (.getfield 89, 3) := by decide +kernel
theorem dX11_gift_46 : decode cX11_gift 46 = .ok (.invokevirtual 184, 3) := by decide +kernel
theorem dX11_gift_49 : decode cX11_gift 49 = .ok (.aload_n 0, 1) := by decide +kernel
theorem dX11_gift_50 : decode cX11_gift 50 = .ok (.getfield 89, 3) := by decide +kernel
theorem dX11_gift_53 : decode cX11_gift 53 = .ok (.getfield 133, 3) := by decide +kernel
theorem dX11_gift_56 : decode cX11_gift 56 = .ok (.iload_n 1, 1) := by decide +kernel
theorem dX11_gift_57 : decode cX11_gift 57 = .ok (.sipush 999, 3) := by decide +kernel
theorem dX11_gift_60 : decode cX11_gift 60 = .ok (.aload_n 0, 1) := by decide +kernel
theorem dX11_gift_61 : decode cX11_gift 61 = .ok (.getfield 89, 3) := by decide +kernel
theorem dX11_gift_64 : decode cX11_gift 64 = .ok (.getfield 133, 3) := by decide +kernel
theorem dX11_gift_67 : decode cX11_gift 67 = .ok (.iload_n 1, 1) := by decide +kernel
theorem dX11_gift_68 : decode cX11_gift 68 = .ok (.iaload, 1) := by decide +kernel
theorem dX11_gift_69 : decode cX11_gift 69 = .ok (.iload_n 2, 1) := by decide +kernel
theorem dX11_gift_70 : decode cX11_gift 70 = .ok (.iadd, 1) := by decide +kernel
theorem dX11_gift_71 : decode cX11_gift 71 = .ok (.invokestatic 203, 3) := by decide +kernel
theorem dX11_gift_74 : decode cX11_gift 74 = .ok (.iastore, 1) := by decide +kernel
theorem dX11_gift_75 : decode cX11_gift 75 = .ok (.aload_n 0, 1) := by decide +kernel
theorem dX11_gift_76 : decode cX11_gift 76 = .ok (.getfield 89, 3) := by decide +kernel
theorem dX11_gift_79 : decode cX11_gift 79 = .ok (.getfield 133, 3) := by decide +kernel
theorem dX11_gift_82 : decode cX11_gift 82 = .ok (.iload_n 1, 1) := by decide +kernel
theorem dX11_gift_83 : decode cX11_gift 83 = .ok (.iaload, 1) := by decide +kernel
theorem dX11_gift_84 : decode cX11_gift 84 = .ok (.ireturn, 1) := by decide +kernel
theorem dX11_undo_0 : decode cX11_undo 0 = .ok (.aload_n 0, 1) := by decide +kernel
theorem dX11_undo_1 : decode cX11_undo 1 = .ok (.getfield 67, 3) := by decide +kernel
theorem dX11_undo_4 : decode cX11_undo 4 = .ok (.aload_n 0, 1) := by decide +kernel
theorem dX11_undo_5 : decode cX11_undo 5 = .ok (.getfield 89, 3) := by decide +kernel
theorem dX11_undo_8 : decode cX11_undo 8 = .ok (.invokevirtual 208, 3) := by decide +kernel
theorem dX11_undo_11 : decode cX11_undo 11 = .ok (.astore_n 1, 1) := by decide +kernel
theorem dX11_undo_12 : decode cX11_undo 12 = .ok (.aload_n 1, 1) := by decide +kernel
theorem dX11_undo_13 : decode cX11_undo 13 = .ok (.ifnonnull 5, 3) := by decide +kernel
theorem dX11_undo_16 : decode cX11_undo 16 = .ok (.iconst 0, 1) := by decide +kernel
theorem dX11_undo_17 : decode cX11_undo 17 = .ok (.ireturn, 1) := by decide +kernel
theorem dX11_undo_18 : decode cX11_undo 18 = .ok (.aload_n 0, 1) := by decide +kernel
theorem dX11_undo_19 : decode cX11_undo 19 = .ok (.aload_n 1, 1) := by decide +kernel
theorem dX11_undo_20 : decode cX11_undo 20 = .ok (.putfield 89, 3) := by decide +kernel
theorem dX11_undo_23 : decode cX11_undo 23 = .ok (.iconst 1, 1) := by decide +kernel
theorem dX11_undo_24 : decode cX11_undo 24 = .ok (.ireturn, 1) := by decide +kernel
theorem dX11_redo_0 : decode cX11_redo 0 = .ok (.aload_n 0, 1) := by decide +kernel
theorem dX11_redo_1 : decode cX11_redo 1 = .ok (.getfield 67, 3) := by decide +kernel
theorem dX11_redo_4 : decode cX11_redo 4 = .ok (.aload_n 0, 1) := by decide +kernel
theorem dX11_redo_5 : decode cX11_redo 5 = .ok (.getfield 89, 3) := by decide +kernel
theorem dX11_redo_8 : decode cX11_redo 8 = .ok (.invokevirtual 212, 3) := by decide +kernel
theorem dX11_redo_11 : decode cX11_redo 11 = .ok (.astore_n 1, 1) := by decide +kernel
theorem dX11_redo_12 : decode cX11_redo 12 = .ok (.aload_n 1, 1) := by decide +kernel
theorem dX11_redo_13 : decode cX11_redo 13 = .ok (.ifnonnull 5, 3) := by decide +kernel
theorem dX11_redo_16 : decode cX11_redo 16 = .ok (.iconst 0, 1) := by decide +kernel
theorem dX11_redo_17 : decode cX11_redo 17 = .ok (.ireturn, 1) := by decide +kernel
theorem dX11_redo_18 : decode cX11_redo 18 = .ok (.aload_n 0, 1) := by decide +kernel
theorem dX11_redo_19 : decode cX11_redo 19 = .ok (.aload_n 1, 1) := by decide +kernel
theorem dX11_redo_20 : decode cX11_redo 20 = .ok (.putfield 89, 3) := by decide +kernel
theorem dX11_redo_23 : decode cX11_redo 23 = .ok (.iconst 1, 1) := by decide +kernel
theorem dX11_redo_24 : decode cX11_redo 24 = .ok (.ireturn, 1) := by decide +kernel
theorem dX11_will_0 : decode cX11_will 0 = .ok (.aload_n 0, 1) := by decide +kernel
theorem dX11_will_1 : decode cX11_will 1 = .ok (.getfield 19, 3) := by decide +kernel
theorem dX11_will_4 : decode cX11_will 4 = .ok (.iload_n 1, 1) := by decide +kernel
theorem dX11_will_5 : decode cX11_will 5 = .ok (.invokevirtual 175, 3) := by decide +kernel
theorem dX11_will_8 : decode cX11_will 8 = .ok (.ifCond .eq 22, 3) := by decide +kernel
theorem dX11_will_11 : decode cX11_will 11 = .ok (.iload_n 2, 1) := by decide +kernel
theorem dX11_will_12 : decode cX11_will 12 = .ok (.iconst 1, 1) := by decide +kernel
theorem dX11_will_13 : decode cX11_will 13 = .ok (.bipush 60, 2) := by decide +kernel
theorem dX11_will_15 : decode cX11_will 15 = .ok (.invokestatic 191, 3) := by decide +kernel
theorem dX11_will_18 : decode cX11_will 18 = .ok (.ifCond .eq 12, 3) := by decide +kernel
theorem dX11_will_21 : decode cX11_will 21 = .ok (.iload_n 3, 1) := by decide +kernel
theorem dX11_will_22 : decode cX11_will 22 = .ok (.iconst 0, 1) := by decide +kernel
theorem dX11_will_23 : decode cX11_will 23 = .ok (.iconst 1, 1) := by decide +kernel
theorem dX11_will_24 : decode cX11_will 24 = .ok (.invokestatic 191, 3) := by decide +kernel
theorem dX11_will_27 : decode cX11_will 27 = .ok (.ifCond .ne 6, 3) := by decide +kernel
theorem dX11_will_30 : decode cX11_will 30 = .ok (.bipush (-2), 2) := by decide +kernel
theorem dX11_will_32 : decode cX11_will 32 = .ok (.ireturn, 1) := by decide +kernel
theorem dX11_will_33 : decode cX11_will 33 = .ok (.aload_n 0, 1) := by decide +kernel
theorem dX11_will_34 : decode cX11_will 34 = .ok (.getfield 46, 3) := by decide +kernel
theorem dX11_will_37 : decode cX11_will 37 = .ok (.aload_n 0, 1) := by decide +kernel
theorem dX11_will_38 : decode cX11_will 38 = .ok (.getfield 89, 3) := by decide +kernel
theorem dX11_will_41 : decode cX11_will 41 = .ok (.iload_n 2, 1) := by decide +kernel
theorem dX11_will_42 : decode cX11_will 42 = .ok (.iload_n 3, 1) := by decide +kernel
theorem dX11_will_43 : decode cX11_will 43 = .ok (.iconst 1, 1) := by decide +kernel
theorem dX11_will_44 : decode cX11_will 44 = .ok (.if_icmp .ne 7, 3) := by decide +kernel
theorem dX11_will_47 : decode cX11_will 47 = .ok (.iconst 1, 1) := by decide +kernel
theorem dX11_will_48 : decode cX11_will 48 = .ok (.goto 4, 3) := by decide +kernel
theorem dX11_will_51 : decode cX11_will 51 = .ok (.iconst 0, 1) := by decide +kernel
theorem dX11_will_52 : decode cX11_will 52 = .ok (.invokevirtual 215, 3) := by decide +kernel
theorem dX11_will_55 : decode cX11_will 55 = .ok (.pop, 1) := by decide +kernel
theorem dX11_will_56 : decode cX11_will 56 = .ok (.aload_n 0, 1) := by decide +kernel
theorem dX11_will_57 : decode cX11_will 57 = .ok (.getfield 37, 3) := by decide +kernel
theorem dX11_will_60 : decode cX11_will 60 = .ok (.getfield 219, 3) := by decide +kernel
theorem dX11_will_63 : decode cX11_will 63 = .ok (.iload_n 1, 1) := by decide +kernel
theorem dX11_will_64 : decode cX11_will 64 = .ok (.iaload, 1) := by decide +kernel
theorem dX11_will_65 : decode cX11_will 65 = .ok (.ireturn, 1) := by decide +kernel
theorem dX11_purse_0 : decode cX11_purse 0 = .ok (.aload_n 0, 1) := by decide +kernel
theorem dX11_purse_1 : decode cX11_purse 1 = .ok (.getfield 19, 3) := by decide +kernel
theorem dX11_purse_4 : decode cX11_purse 4 = .ok (.iload_n 1, 1) := by decide +kernel
theorem dX11_purse_5 : decode cX11_purse 5 = .ok (.invokevirtual 129, 3) := by decide +kernel
theorem dX11_purse_8 : decode cX11_purse 8 = .ok (.ifCond .eq 13, 3) := by decide +kernel
theorem dX11_purse_11 : decode cX11_purse 11 = .ok (.iload_n 2, 1) := by decide +kernel
theorem dX11_purse_12 : decode cX11_purse 12 = .ok (.iconst 0, 1) := by decide +kernel
theorem dX11_purse_13 : decode cX11_purse 13 = .ok (.bipush 60, 2) := by decide +kernel
theorem dX11_purse_15 : decode cX11_purse 15 = .ok (.invokestatic 191, 3) := by decide +kernel
theorem dX11_purse_18 : decode cX11_purse 18 = .ok (.ifCond .ne 5, 3) := by decide +kernel
theorem dX11_purse_21 : decode cX11_purse 21 = .ok (.iconst (-1), 1) := by decide +kernel
theorem dX11_purse_22 : decode cX11_purse 22 = .ok (.ireturn, 1) := by decide +kernel
theorem dX11_purse_23 : decode cX11_purse 23 = .ok (.aload_n 0, 1) := by decide +kernel
theorem dX11_purse_24 : decode cX11_purse 24 = .ok (.getfield 46, 3) := by decide +kernel
theorem dX11_purse_27 : decode cX11_purse 27 = .ok (.aload_n 0, 1) := by decide +kernel
theorem dX11_purse_28 : decode cX11_purse 28 = .ok (.getfield 89, 3) := by decide +kernel
theorem dX11_purse_31 : decode cX11_purse 31 = .ok (.iload_n 2, 1) := by decide +kernel
theorem dX11_purse_32 : decode cX11_purse 32 = .ok (.iconst 0, 1) := by decide +kernel
theorem dX11_purse_33 : decode cX11_purse 33 = .ok (.invokevirtual 215, 3) := by decide +kernel
theorem dX11_purse_36 : decode cX11_purse 36 = .ok (.pop, 1) := by decide +kernel
theorem dX11_purse_37 : decode cX11_purse 37 = .ok (.aload_n 0, 1) := by decide +kernel
theorem dX11_purse_38 : decode cX11_purse 38 = .ok (.getfield 46, 3) := by decide +kernel
theorem dX11_purse_41 : decode cX11_purse 41 = .ok (.getfield 222, 3) := by decide +kernel
theorem dX11_purse_44 : decode cX11_purse 44 = .ok (.getfield 133, 3) := by decide +kernel
theorem dX11_purse_47 : decode cX11_purse 47 = .ok (.iload_n 1, 1) := by decide +kernel
theorem dX11_purse_48 : decode cX11_purse 48 = .ok (.iaload, 1) := by decide +kernel
theorem dX11_purse_49 : decode cX11_purse 49 = .ok (.ireturn, 1) := by decide +kernel
theorem dX11_cost_0 : decode cX11_cost 0 = .ok (.iload_n 1, 1) := by decide +kernel
theorem dX11_cost_1 : decode cX11_cost 1 = .ok (.iconst 0, 1) := by decide +kernel
theorem dX11_cost_2 : decode cX11_cost 2 = .ok (.bipush 60, 2) := by decide +kernel
theorem dX11_cost_4 : decode cX11_cost 4 = .ok (.invokestatic 191, 3) := by decide +kernel
theorem dX11_cost_7 : decode cX11_cost 7 = .ok (.ifCond .eq 19, 3) := by decide +kernel
theorem dX11_cost_10 : decode cX11_cost 10 = .ok (.aload_n 0, 1) := by decide +kernel
theorem dX11_cost_11 : decode cX11_cost 11 = .ok (.getfield 46, 3) := by decide +kernel
theorem dX11_cost_14 : decode cX11_cost 14 = .ok (.aload_n 0, 1) := by decide +kernel
theorem dX11_cost_15 : decode cX11_cost 15 = .ok (.getfield 89, 3) := by decide +kernel
theorem dX11_cost_18 : decode cX11_cost 18 = .ok (.iload_n 1, 1) := by decide +kernel
theorem dX11_cost_19 : decode cX11_cost 19 = .ok (.iconst 0, 1) := by decide +kernel
theorem dX11_cost_20 : decode cX11_cost 20 = .ok (.invokevirtual 215, 3) := by decide +kernel
theorem dX11_cost_23 : decode cX11_cost 23 = .ok (.goto 4, 3) := by decide +kernel
theorem dX11_cost_26 : decode cX11_cost 26 = .ok (.iconst (-1), 1) := by decide +kernel
theorem dX11_cost_27 : decode cX11_cost 27 = .ok (.ireturn, 1) := by decide +kernel
theorem dX11_order_0 : decode cX11_order 0 = .ok (.aload_n 0, 1) := by decide +kernel
theorem dX11_order_1 : decode cX11_order 1 = .ok (.getfield 53, 3) := by decide +kernel
theorem dX11_order_4 : decode cX11_order 4 = .ok (.aload_n 0, 1) := by decide +kernel
theorem dX11_order_5 : decode cX11_order 5 = .ok (.getfield 89, 3) := by decide +kernel
theorem dX11_order_8 : decode cX11_order 8 = .ok (.invokevirtual 225, 3) := by decide +kernel
theorem dX11_order_11 : decode cX11_order 11 = .ok (.istore_n 1, 1) := by decide +kernel
theorem dX11_order_12 : decode cX11_order 12 = .ok (.aload_n 0, 1) := by decide +kernel
theorem dX11_order_13 : decode cX11_order 13 = .ok (.aload_n 0, 1) := by decide +kernel
theorem dX11_order_14 : decode cX11_order 14 = .ok (.getfield 53, 3) := by decide +kernel
theorem dX11_order_17 : decode cX11_order 17 = .ok (.getfield 229, 3) := by decide +kernel
theorem dX11_order_20 : decode cX11_order 20 = .ok (.aload_n 0, 1) := by decide +kernel
theorem dX11_order_21 : decode cX11_order 21 = .ok (.getfield 19, 3) := by decide +kernel
theorem dX11_order_24 : decode cX11_order 24 = .ok (.getfield 232, 3) := by decide +kernel
theorem dX11_order_27 : decode cX11_order 27 = .ok (.invokevirtual 235, 3) := by decide +kernel
theorem dX11_order_30 : decode cX11_order 30 = .ok (.iload_n 1, 1) := by decide +kernel
theorem dX11_order_31 : decode cX11_order 31 = .ok (.ireturn, 1) := by decide +kernel
theorem dX11_duties_0 : decode cX11_duties 0 = .ok (.iload_n 1, 1) := by decide +kernel
theorem dX11_duties_1 : decode cX11_duties 1 = .ok (.iconst 0, 1) := by decide +kernel
theorem dX11_duties_2 : decode cX11_duties 2 = .ok (.iconst 1, 1) := by decide +kernel
theorem dX11_duties_3 : decode cX11_duties 3 = .ok (.invokestatic 191, 3) := by decide +kernel
theorem dX11_duties_6 : decode cX11_duties 6 = .ok (.ifCond .ne 5, 3) := by decide +kernel
theorem dX11_duties_9 : decode cX11_duties 9 = .ok (.iconst (-1), 1) := by decide +kernel
theorem dX11_duties_10 : decode cX11_duties 10 = .ok (.ireturn, 1) := by decide +kernel
theorem dX11_duties_11 : decode cX11_duties 11 = .ok (.aload_n 0, 1) := by decide +kernel
theorem dX11_duties_12 : decode cX11_duties 12 = .ok (.getfield 53, 3) := by decide +kernel
theorem dX11_duties_15 : decode cX11_duties 15 = .ok (.aload_n 0, 1) := by decide +kernel
theorem dX11_duties_16 : decode cX11_duties 16 = .ok (.getfield 89, 3) := by decide +kernel
theorem dX11_duties_19 : decode cX11_duties 19 = .ok (.invokevirtual 239, 3) := by decide +kernel
theorem dX11_duties_22 : decode cX11_duties 22 = .ok (.aload_n 0, 1) := by decide +kernel
theorem dX11_duties_23 : decode cX11_duties 23 = .ok (.aload_n 0, 1) := by decide +kernel
theorem dX11_duties_24 : decode cX11_duties 24 = .ok (.getfield 53, 3) := by decide +kernel
theorem dX11_duties_27 : decode cX11_duties 27 = .ok (.getfield 229, 3) := by decide +kernel
theorem dX11_duties_30 : decode cX11_duties 30 = .ok (.aload_n 0, 1) := by decide +kernel
theorem dX11_duties_31 : decode cX11_duties 31 = .ok (.getfield 19, 3) := by decide +kernel
theorem dX11_duties_34 : decode cX11_duties 34 = .ok (.getfield 232, 3) := by decide +kernel
theorem dX11_duties_37 : decode cX11_duties 37 = .ok (.invokevirtual 235, 3) := by decide +kernel
theorem dX11_duties_40 : decode cX11_duties 40 = .ok (.iload_n 1, 1) := by decide +kernel
theorem dX11_duties_41 : decode cX11_duties 41 = .ok (.ifCond .ne 13, 3) := by decide +kernel
theorem dX11_duties_44 : decode cX11_duties 44 = .ok (.aload_n 0, 1) := by decide +kernel
theorem dX11_duties_45 : decode cX11_duties 45 = .ok (.getfield 53, 3) := by decide +kernel
theorem dX11_duties_48 : decode cX11_duties 48 = .ok (.getfield 242, 3) := by decide +kernel
theorem dX11_duties_51 : decode cX11_duties 51 = .ok (.goto 10, 3) := by decide +kernel
theorem dX11_duties_54 : decode cX11_duties 54 = .ok (.aload_n 0, 1) := by decide +kernel
theorem dX11_duties_55 : decode cX11_duties 55 = .ok (.getfield 53, 3) := by decide +kernel
theorem dX11_duties_58 : decode cX11_duties 58 = .ok (.getfield 245, 3) := by decide +kernel
theorem dX11_duties_61 : decode cX11_duties 61 = .ok (.ireturn, 1) := by decide +kernel
theorem dX11_hush_0 : decode cX11_hush 0 = .ok (.iload_n 1, 1) := by decide +kernel
theorem dX11_hush_1 : decode cX11_hush 1 = .ok (.iconst 0, 1) := by decide +kernel
theorem dX11_hush_2 : decode cX11_hush 2 = .ok (.iconst 1, 1) := by decide +kernel
theorem dX11_hush_3 : decode cX11_hush 3 = .ok (.invokestatic 191, 3) := by decide +kernel
theorem dX11_hush_6 : decode cX11_hush 6 = .ok (.ifCond .ne 5, 3) := by decide +kernel
theorem dX11_hush_9 : decode cX11_hush 9 = .ok (.iconst (-1), 1) := by decide +kernel
theorem dX11_hush_10 : decode cX11_hush 10 = .ok (.ireturn, 1) := by decide +kernel
theorem dX11_hush_11 : decode cX11_hush 11 = .ok (.aload_n 0, 1) := by decide +kernel
theorem dX11_hush_12 : decode cX11_hush 12 = .ok (.getfield 46, 3) := by decide +kernel
theorem dX11_hush_15 : decode cX11_hush 15 = .ok (.aload_n 0, 1) := by decide +kernel
theorem dX11_hush_16 : decode cX11_hush 16 = .ok (.getfield 89, 3) := by decide +kernel
theorem dX11_hush_19 : decode cX11_hush 19 = .ok (.invokevirtual 248, 3) := by decide +kernel
theorem dX11_hush_22 : decode cX11_hush 22 = .ok (.istore_n 2, 1) := by decide +kernel
theorem dX11_hush_23 : decode cX11_hush 23 = .ok (.iload_n 1, 1) := by decide +kernel
theorem dX11_hush_24 : decode cX11_hush 24 = .ok (.ifCond .ne 10, 3) := by decide +kernel
theorem dX11_hush_27 : decode cX11_hush 27 = .ok (.iload_n 2, 1) := by decide +kernel
theorem dX11_hush_28 : decode cX11_hush 28 = .ok (.invokestatic 198, 3) := by decide +kernel
theorem dX11_hush_31 : decode cX11_hush 31 = .ok (.goto 4, 3) := by decide +kernel
theorem dX11_hush_34 : decode cX11_hush 34 = .ok (.iload_n 2, 1) := by decide +kernel
theorem dX11_hush_35 : decode cX11_hush 35 = .ok (.ireturn, 1) := by decide +kernel
theorem dX11_spare_0 : decode cX11_spare 0 = .ok (.iload_n 1, 1) := by decide +kernel
theorem dX11_spare_1 : decode cX11_spare 1 = .ok (.iconst 0, 1) := by decide +kernel
theorem dX11_spare_2 : decode cX11_spare 2 = .ok (.iconst 1, 1) := by decide +kernel
theorem dX11_spare_3 : decode cX11_spare 3 = .ok (.invokestatic 191, 3) := by decide +kernel
theorem dX11_spare_6 : decode cX11_spare 6 = .ok (.ifCond .ne 5, 3) := by decide +kernel
theorem dX11_spare_9 : decode cX11_spare 9 = .ok (.iconst (-1), 1) := by decide +kernel
theorem dX11_spare_10 : decode cX11_spare 10 = .ok (.ireturn, 1) := by decide +kernel
theorem dX11_spare_11 : decode cX11_spare 11 = .ok (.aload_n 0, 1) := by decide +kernel
theorem dX11_spare_12 : decode cX11_spare 12 = .ok (.getfield 46, 3) := by decide +kernel
theorem dX11_spare_15 : decode cX11_spare 15 = .ok (.aload_n 0, 1) := by decide +kernel
theorem dX11_spare_16 : decode cX11_spare 16 = .ok (.getfield 89, 3) := by decide +kernel
theorem dX11_spare_19 : decode cX11_spare 19 = .ok (.invokevirtual 251, 3) := by decide +kernel
theorem dX11_spare_22 : decode cX11_spare 22 = .ok (.istore_n 2, 1) := by decide +kernel
theorem dX11_spare_23 : decode cX11_spare 23 = .ok (.iload_n 1, 1) := by decide +kernel
theorem dX11_spare_24 : decode cX11_spare 24 = .ok (.ifCond .eq 8, 3) := by decide +kernel
theorem dX11_spare_27 : decode cX11_spare 27 = .ok (.iload_n 2, 1) := by decide +kernel
theorem dX11_spare_28 : decode cX11_spare 28 = .ok (.iconst (-1), 1) := by decide +kernel
theorem dX11_spare_29 : decode cX11_spare 29 = .ok (.if_icmp .ne 7, 3) := by decide +kernel
theorem dX11_spare_32 : decode cX11_spare 32 = .ok (.iload_n 2, 1) := by decide +kernel
theorem dX11_spare_33 : decode cX11_spare 33 = .ok (.goto 17, 3) := by decide +kernel
theorem dX11_spare_36 : decode cX11_spare 36 = .ok (.aload_n 0, 1) := by decide +kernel
theorem dX11_spare_37 : decode cX11_spare 37 = .ok (.getfield 46, 3) := by decide +kernel
theorem dX11_spare_40 : decode cX11_spare 40 = .ok (.aload_n 0, 1) := by decide +kernel
theorem dX11_spare_41 : decode cX11_spare 41 = .ok (.getfield 89, 3) := by decide +kernel
theorem dX11_spare_44 : decode cX11_spare 44 = .ok (.iconst 1, 1) := by decide +kernel
theorem dX11_spare_45 : decode cX11_spare 45 = .ok (.iload_n 2, 1) := by decide +kernel
theorem dX11_spare_46 : decode cX11_spare 46 = .ok (.ishl, 1) := by decide +kernel
theorem dX11_spare_47 : decode cX11_spare 47 = .ok (.invokevirtual 254, 3) := by decide +kernel
theorem dX11_spare_50 : decode cX11_spare 50 = .ok (.ireturn, 1) := by decide +kernel
theorem dX11_chorus_0 : decode cX11_chorus 0 = .ok (.iload_n 1, 1) := by decide +kernel
theorem dX11_chorus_1 : decode cX11_chorus 1 = .ok (.iconst 0, 1) := by decide +kernel
theorem dX11_chorus_2 : decode cX11_chorus 2 = .ok (.iconst 1, 1) := by decide +kernel
theorem dX11_chorus_3 : decode cX11_chorus 3 = .ok (.invokestatic 191, 3) := by decide +kernel
theorem dX11_chorus_6 : decode cX11_chorus 6 = .ok (.ifCond .ne 5, 3) := by decide +kernel
theorem dX11_chorus_9 : decode cX11_chorus 9 = .ok (.iconst (-1), 1) := by decide +kernel
theorem dX11_chorus_10 : decode cX11_chorus 10 = .ok (.ireturn, 1) := by decide +kernel
theorem dX11_chorus_11 : decode cX11_chorus 11 = .ok (.aload_n 0, 1) := by decide +kernel
theorem dX11_chorus_12 : decode cX11_chorus 12 = .ok (.getfield 53, 3) := by decide +kernel
theorem dX11_chorus_15 : decode cX11_chorus 15 = .ok (.aload_n 0, 1) := by decide +kernel
theorem dX11_chorus_16 : decode cX11_chorus 16 = .ok (.getfield 89, 3) := by decide +kernel
theorem dX11_chorus_19 : decode cX11_chorus 19 = .ok (.invokevirtual 257, 3) := by decide +kernel
theorem dX11_chorus_22 : decode cX11_chorus 22 = .ok (.istore_n 2, 1) := by decide +kernel
theorem dX11_chorus_23 : decode cX11_chorus 23 = .ok (.iload_n 1, 1) := by decide +kernel
theorem dX11_chorus_24 : decode cX11_chorus 24 = .ok (.ifCond .ne 10, 3) := by decide +kernel
theorem dX11_chorus_27 : decode cX11_chorus 27 = .ok (.iload_n 2, 1) := by decide +kernel
theorem dX11_chorus_28 : decode cX11_chorus 28 = .ok (.invokestatic 198, 3) := by decide +kernel
theorem dX11_chorus_31 : decode cX11_chorus 31 = .ok (.goto 4, 3) := by decide +kernel
theorem dX11_chorus_34 : decode cX11_chorus 34 = .ok (.iload_n 2, 1) := by decide +kernel
theorem dX11_chorus_35 : decode cX11_chorus 35 = .ok (.ireturn, 1) := by decide +kernel
theorem dX11_wish_0 : decode cX11_wish 0 = .ok (.aload_n 0, 1) := by decide +kernel
theorem dX11_wish_1 : decode cX11_wish 1 = .ok (.getfield 19, 3) := by decide +kernel
theorem dX11_wish_4 : decode cX11_wish 4 = .ok (.iload_n 1, 1) := by decide +kernel
theorem dX11_wish_5 : decode cX11_wish 5 = .ok (.iload_n 2, 1) := by decide +kernel
theorem dX11_wish_6 : decode cX11_wish 6 = .ok (.invokevirtual 150, 3) := by decide +kernel
theorem dX11_wish_9 : decode cX11_wish 9 = .ok (.ifCond .eq 14, 3) := by decide +kernel
theorem dX11_wish_12 : decode cX11_wish 12 = .ok (.aload_n 0, 1) := by decide +kernel
theorem dX11_wish_13 : decode cX11_wish 13 = .ok (.getfield 89, 3) := by decide +kernel
theorem dX11_wish_16 : decode cX11_wish 16 = .ok (.iload_n 1, 1) := by decide +kernel
theorem dX11_wish_17 : decode cX11_wish 17 = .ok (.invokevirtual 195, 3) := by decide +kernel
theorem dX11_wish_20 : decode cX11_wish 20 = .ok (.ifCond .ne 5, 3) := by decide +kernel
theorem dX11_wish_23 : decode cX11_wish 23 = .ok (.iconst (-1), 1) := by decide +kernel
theorem dX11_wish_24 : decode cX11_wish 24 = .ok (.ireturn, 1) := by decide +kernel
theorem dX11_wish_25 : decode cX11_wish 25 = .ok (.aload_n 0, 1) := by decide +kernel
theorem dX11_wish_26 : decode cX11_wish 26 = .ok (.getfield 46, 3) := by decide +kernel
theorem dX11_wish_29 : decode cX11_wish 29 = .ok (.aload_n 0, 1) := by decide +kernel
theorem dX11_wish_30 : decode cX11_wish 30 = .ok (.getfield 89, 3) := by decide +kernel
theorem dX11_wish_33 : decode cX11_wish 33 = .ok (.iload_n 1, 1) := by decide +kernel
theorem dX11_wish_34 : decode cX11_wish 34 = .ok (.iload_n 2, 1) := by decide +kernel
theorem dX11_wish_35 : decode cX11_wish 35 = .ok (.invokevirtual 260, 3) := by decide +kernel
theorem dX11_wish_38 : decode cX11_wish 38 = .ok (.ireturn, 1) := by decide +kernel
theorem dX11_ruin_0 : decode cX11_ruin 0 = .ok (.aload_n 0, 1) := by decide +kernel
theorem dX11_ruin_1 : decode cX11_ruin 1 = .ok (.getfield 19, 3) := by decide +kernel
theorem dX11_ruin_4 : decode cX11_ruin 4 = .ok (.iload_n 1, 1) := by decide +kernel
theorem dX11_ruin_5 : decode cX11_ruin 5 = .ok (.invokevirtual 129, 3) := by decide +kernel
theorem dX11_ruin_8 : decode cX11_ruin 8 = .ok (.ifCond .eq 18, 3) := by decide +kernel
theorem dX11_ruin_11 : decode cX11_ruin 11 = .ok (.aload_n 0, 1) := by decide +kernel
theorem dX11_ruin_12 : decode cX11_ruin 12 = .ok (.getfield 46, 3) := by decide +kernel
theorem dX11_ruin_15 : decode cX11_ruin 15 = .ok (.aload_n 0, 1) := by decide +kernel
theorem dX11_ruin_16 : decode cX11_ruin 16 = .ok (.getfield 89, 3) := by decide +kernel
theorem dX11_ruin_19 : decode cX11_ruin 19 = .ok (.iload_n 1, 1) := by decide +kernel
theorem dX11_ruin_20 : decode cX11_ruin 20 = .ok (.invokevirtual 264, 3) := by decide +kernel
theorem dX11_ruin_23 : decode cX11_ruin 23 = .ok (.goto 4, 3) := by decide +kernel
theorem dX11_ruin_26 : decode cX11_ruin 26 = .ok (.iconst (-1), 1) := by decide +kernel
theorem dX11_ruin_27 : decode cX11_ruin 27 = .ok (.ireturn, 1) := by decide +kernel
theorem dX11_hides_0 : decode cX11_hides 0 = .ok (.aload_n 0, 1) := by decide +kernel
theorem dX11_hides_1 : decode cX11_hides 1 = .ok (.getfield 19, 3) := by decide +kernel
theorem dX11_hides_4 : decode cX11_hides 4 = .ok (.iload_n 1, 1) := by decide +kernel
theorem dX11_hides_5 : decode cX11_hides 5 = .ok (.invokevirtual 129, 3) := by decide +kernel
theorem dX11_hides_8 : decode cX11_hides 8 = .ok (.ifCond .eq 14, 3) := by decide +kernel
theorem dX11_hides_11 : decode cX11_hides 11 = .ok (.aload_n 0, 1) := by decide +kernel
theorem dX11_hides_12 : decode cX11_hides 12 = .ok (.getfield 89, 3) := by decide +kernel
theorem dX11_hides_15 : decode cX11_hides 15 = .ok (.iload_n 1, 1) := by decide +kernel
theorem dX11_hides_16 : decode cX11_hides 16 = .ok (.invokevirtual 195, 3) := by decide +kernel
theorem dX11_hides_19 : decode cX11_hides 19 = .ok (.ifCond .ne 5, 3) := by decide +kernel
theorem dX11_hides_22 : decode cX11_hides 22 = .ok (.iconst (-1), 1) := by decide +kernel
theorem dX11_hides_23 : decode cX11_hides 23 = .ok (.ireturn, 1) := by decide +kernel
theorem dX11_hides_24 : decode cX11_hides 24 = .ok (.aload_n 0, 1) := by decide +kernel
theorem dX11_hides_25 : decode cX11_hides 25 = .ok (.getfield 46, 3) := by decide +kernel
theorem dX11_hides_28 : decode cX11_hides 28 = .ok (.aload_n 0, 1) := by decide +kernel
theorem dX11_hides_29 : decode cX11_hides 29 = .ok (.getfield 89, 3) := by decide +kernel
theorem dX11_hides_32 : decode cX11_hides 32 = .ok (.iload_n 1, 1) := by decide +kernel
theorem dX11_hides_33 : decode cX11_hides 33 = .ok (.invokevirtual 267, 3) := by decide +kernel
theorem dX11_hides_36 : decode cX11_hides 36 = .ok (.ireturn, 1) := by decide +kernel
theorem dX11_staying_0 : decode cX11_staying 0 = .ok (.aload_n 0, 1) := by decide +kernel
theorem dX11_staying_1 : decode cX11_staying 1 = .ok (.iconst 0, 1) := by decide +kernel
theorem dX11_staying_2 : decode cX11_staying 2 = .ok (.putfield 75, 3) := by decide +kernel
theorem dX11_staying_5 : decode cX11_staying 5 = .ok (.aload_n 0, 1) := by decide +kernel
theorem dX11_staying_6 : decode cX11_staying 6 = .ok (.getfield 19, 3) := by decide +kernel
theorem dX11_staying_9 : decode cX11_staying 9 = .ok (.iload_n 1, 1) := by decide +kernel
theorem dX11_staying_10 : decode cX11_staying 10 = .ok (.invokevirtual 129, 3) := by decide +kernel
theorem dX11_staying_13 : decode cX11_staying 13 = .ok (.ifCond .eq 19, 3) := by decide +kernel
theorem dX11_staying_16 : decode cX11_staying 16 = .ok (.aload_n 0, 1) := by decide +kernel
theorem dX11_staying_17 : decode cX11_staying 17 = .ok (.getfield 19, 3) := by decide +kernel
theorem dX11_staying_20 : decode cX11_staying 20 = .ok (.iload_n 2, 1) := by decide +kernel
theorem dX11_staying_21 : decode cX11_staying 21 = .ok (.invokevirtual 129, 3) := by decide +kernel
theorem dX11_staying_24 : decode cX11_staying 24 = .ok (.ifCond .eq 8, 3) := by decide +kernel
theorem dX11_staying_27 : decode cX11_staying 27 = .ok (.iload_n 1, 1) := by decide +kernel
theorem dX11_staying_28 : decode cX11_staying 28 = .ok (.iload_n 2, 1) := by decide +kernel
theorem dX11_staying_29 : decode cX11_staying 29 = .ok (.if_icmp .ne 5, 3) := by decide +kernel
theorem dX11_staying_32 : decode cX11_staying 32 = .ok (.iconst (-1), 1) := by decide +kernel
theorem dX11_staying_33 : decode cX11_staying 33 = .ok (.ireturn, 1) := by decide +kernel
theorem dX11_staying_34 : decode cX11_staying 34 = .ok (.aload_n 0, 1) := by decide +kernel
theorem dX11_staying_35 : decode cX11_staying 35 = .ok (.getfield 89, 3) := by decide +kernel
theorem dX11_staying_38 : decode cX11_staying 38 = .ok (.iload_n 1, 1) := by decide +kernel
theorem dX11_staying_39 : decode cX11_staying 39 = .ok (.invokevirtual 195, 3) := by decide +kernel
theorem dX11_staying_42 : decode cX11_staying 42 = .ok (.ifCond .eq 14, 3) := by decide +kernel
theorem dX11_staying_45 : decode cX11_staying 45 = .ok (.aload_n 0, 1) := by decide +kernel
theorem dX11_staying_46 : decode cX11_staying 46 = .ok (.getfield 89, 3) := by decide +kernel
theorem dX11_staying_49 : decode cX11_staying 49 = .ok (.iload_n 2, 1) := by decide +kernel
theorem dX11_staying_50 : decode cX11_staying 50 = .ok (.invokevirtual 195, 3) := by decide +kernel
theorem dX11_staying_53 : decode cX11_staying 53 = .ok (.ifCond .ne 5, 3) := by decide +kernel
theorem dX11_staying_56 : decode cX11_staying 56 = .ok (.iconst (-1), 1) := by decide +kernel
theorem dX11_staying_57 : decode cX11_staying 57 = .ok (.ireturn, 1) := by decide +kernel
theorem dX11_staying_58 : decode cX11_staying 58 = .ok (.aload_n 0, 1) := by decide +kernel
theorem dX11_staying_59 : decode cX11_staying 59 = .ok (.getfield 46, 3) := by decide +kernel
theorem dX11_staying_62 : decode cX11_staying 62 = .ok (.aload_n 0, 1) := by decide +kernel
theorem dX11_staying_63 : decode cX11_staying 63 = .ok (.getfield 89, 3) := by decide +kernel
theorem dX11_staying_66 : decode cX11_staying 66 = .ok (.iload_n 1, 1) := by decide +kernel
theorem dX11_staying_67 : decode cX11_staying 67 = .ok (.iload_n 2, 1) := by decide +kernel
theorem dX11_staying_68 : decode cX11_staying 68 = .ok (.invokevirtual 270, 3) := by decide +kernel
theorem dX11_staying_71 : decode cX11_staying 71 = .ok (.istore_n 3, 1) := by decide +kernel
theorem dX11_staying_72 : decode cX11_staying 72 = .ok (.iload_n 3, 1) := by decide +kernel
theorem dX11_staying_73 : decode cX11_staying 73 = .ok (.ifCond .le 15, 3) := by decide +kernel
theorem dX11_staying_76 : decode cX11_staying 76 = .ok (.aload_n 0, 1) := by decide +kernel
theorem dX11_staying_77 : decode cX11_staying 77 = .ok (.aload_n 0, 1) := by decide +kernel
theorem dX11_staying_78 : decode cX11_staying 78 = .ok (.getfield 46, 3) := by decide +kernel
theorem dX11_staying_81 : decode cX11_staying 81 = .ok (.getfield 273, 3) := by decide +kernel
theorem dX11_staying_84 : decode cX11_staying 84 = .ok (.iconst 2, 1) := by decide +kernel
theorem dX11_staying_85 : decode cX11_staying 85 = .ok (.invokevirtual 235, 3) := by decide +kernel
theorem dX11_staying_88 : decode cX11_staying 88 = .ok (.iload_n 3, 1) := by decide +kernel
theorem dX11_staying_89 : decode cX11_staying 89 = .ok (.ireturn, 1) := by decide +kernel
theorem dX11_slight_0 : decode cX11_slight 0 = .ok (.iload_n 1, 1) := by decide +kernel
theorem dX11_slight_1 : decode cX11_slight 1 = .ok (.iconst 0, 1) := by decide +kernel
theorem dX11_slight_2 : decode cX11_slight 2 = .ok (.bipush 60, 2) := by decide +kernel
theorem dX11_slight_4 : decode cX11_slight 4 = .ok (.invokestatic 191, 3) := by decide +kernel
theorem dX11_slight_7 : decode cX11_slight 7 = .ok (.ifCond .eq 18, 3) := by decide +kernel
theorem dX11_slight_10 : decode cX11_slight 10 = .ok (.aload_n 0, 1) := by decide +kernel
theorem dX11_slight_11 : decode cX11_slight 11 = .ok (.getfield 46, 3) := by decide +kernel
theorem dX11_slight_14 : decode cX11_slight 14 = .ok (.aload_n 0, 1) := by decide +kernel
theorem dX11_slight_15 : decode cX11_slight 15 = .ok (.getfield 89, 3) := by decide +kernel
theorem dX11_slight_18 : decode cX11_slight 18 = .ok (.iload_n 1, 1) := by decide +kernel
theorem dX11_slight_19 : decode cX11_slight 19 = .ok (.invokevirtual 276, 3) := by decide +kernel
theorem dX11_slight_22 : decode cX11_slight 22 = .ok (.goto 4, 3) := by decide +kernel
theorem dX11_slight_25 : decode cX11_slight 25 = .ok (.iconst (-1), 1) := by decide +kernel
theorem dX11_slight_26 : decode cX11_slight 26 = .ok (.ireturn, 1) := by decide +kernel
theorem dX11_list_0 : decode cX11_list 0 = .ok (.aload_n 0, 1) := by decide +kernel
theorem dX11_list_1 : decode cX11_list 1 = .ok (.getfield 53, 3) := by decide +kernel
theorem dX11_list_4 : decode cX11_list 4 = .ok (.aload_n 0, 1) := by decide +kernel
theorem dX11_list_5 : decode cX11_list 5 = .ok (.getfield 89, 3) := by decide +kernel
theorem dX11_list_8 : decode cX11_list 8 = .ok (.invokevirtual 279, 3) := by decide +kernel
theorem dX11_list_11 : decode cX11_list 11 = .ok (.aload_n 0, 1) := by decide +kernel
theorem dX11_list_12 : decode cX11_list 12 = .ok (.aload_n 0, 1) := by decide +kernel
theorem dX11_list_13 : decode cX11_list 13 = .ok (.getfield 53, 3) := by decide +kernel
theorem dX11_list_16 : decode cX11_list 16 = .ok (.getfield 229, 3) := by decide +kernel
theorem dX11_list_19 : decode cX11_list 19 = .ok (.aload_n 0, 1) := by decide +kernel
theorem dX11_list_20 : decode cX11_list 20 = .ok (.getfield 19, 3) := by decide +kernel
theorem dX11_list_23 : decode cX11_list 23 = .ok (.getfield 126, 3) := by decide +kernel
theorem dX11_list_26 : decode cX11_list 26 = .ok (.invokevirtual 235, 3) := by decide +kernel
theorem dX11_list_29 : decode cX11_list 29 = .ok (.aload_n 0, 1) := by decide +kernel
theorem dX11_list_30 : decode cX11_list 30 = .ok (.getfield 19, 3) := by decide +kernel
theorem dX11_list_33 : decode cX11_list 33 = .ok (.getfield 126, 3) := by decide +kernel
theorem dX11_list_36 : decode cX11_list 36 = .ok (.ireturn, 1) := by decide +kernel
theorem dX11_silent_0 : decode cX11_silent 0 = .ok (.aload_n 0, 1) := by decide +kernel
theorem dX11_silent_1 : decode cX11_silent 1 = .ok (.getfield 46, 3) := by decide +kernel
theorem dX11_silent_4 : decode cX11_silent 4 = .ok (.aload_n 0, 1) := by decide +kernel
theorem dX11_silent_5 : decode cX11_silent 5 = .ok (.getfield 89, 3) := by decide +kernel
theorem dX11_silent_8 : decode cX11_silent 8 = .ok (.invokevirtual 282, 3) := by decide +kernel
theorem dX11_silent_11 : decode cX11_silent 11 = .ok (.ireturn, 1) := by decide +kernel
theorem dX11_dreaded_0 : decode cX11_dreaded 0 = .ok (.aload_n 0, 1) := by decide +kernel
theorem dX11_dreaded_1 : decode cX11_dreaded 1 = .ok (.getfield 53, 3) := by decide +kernel
theorem dX11_dreaded_4 : decode cX11_dreaded 4 = .ok (.aload_n 0, 1) := by decide +kernel
theorem dX11_dreaded_5 : decode cX11_dreaded 5 = .ok (.getfield 89, 3) := by decide +kernel
theorem dX11_dreaded_8 : decode cX11_dreaded 8 = .ok (.invokevirtual 285, 3) := by decide +kernel
theorem dX11_dreaded_11 : decode cX11_dreaded 11 = .ok (.ireturn, 1) := by decide +kernel
theorem dX11_untouched_0 : decode cX11_untouched 0 = .ok (.iconst 0, 1) := by decide +kernel
theorem dX11_untouched_1 : decode cX11_untouched 1 = .ok (.istore_n 1, 1) := by decide +kernel
theorem dX11_untouched_2 : decode cX11_untouched 2 = .ok (.iconst 0, 1) := by decide +kernel
theorem dX11_untouched_3 : decode cX11_untouched 3 = .ok (.istore_n 2, 1) := by decide +kernel
theorem dX11_untouched_4 : decode cX11_untouched 4 = .ok (.iload_n 2, 1) := by decide +kernel
theorem dX11_untouched_5 : decode cX11_untouched 5 = .ok (.aload_n 0, 1) := by decide +kernel
theorem dX11_untouched_6 : decode cX11_untouched 6 = .ok (.getfield 19, 3) := by decide +kernel
theorem dX11_untouched_9 : decode cX11_untouched 9 = .ok (.getfield 126, 3) := by decide +kernel
theorem dX11_untouched_12 : decode cX11_untouched 12 = .ok (.if_icmp .ge 26, 3) := by decide +kernel
theorem dX11_untouched_15 : decode cX11_untouched 15 = .ok (.aload_n 0, 1) := by decide +kernel
theorem dX11_untouched_16 : decode cX11_untouched 16 = .ok (.getfield 89, 3) := by decide +kernel
theorem dX11_untouched_19 : decode cX11_untouched 19 = .ok (.iload_n 2, 1) := by decide +kernel
theorem dX11_untouched_20 : decode cX11_untouched 20 = .ok (.invokevirtual 142, 3) := by decide +kernel
theorem dX11_untouched_23 : decode cX11_untouched 23 = .ok (.ifCond .ne 9, 3) := by decide +kernel
theorem dX11_untouched_26 : decode cX11_untouched 26 = .ok (.iload_n 1, 1) := by decide +kernel
theorem dX11_untouched_27 : decode cX11_untouched 27 = .ok (.iconst 1, 1) := by decide +kernel
theorem dX11_untouched_28 : decode cX11_untouched 28 = .ok (.iload_n 2, 1) := by decide +kernel
theorem dX11_untouched_29 : decode cX11_untouched 29 = .ok (.ishl, 1) := by decide +kernel
theorem dX11_untouched_30 : decode cX11_untouched 30 = .ok (.ior, 1) := by decide +kernel
theorem dX11_untouched_31 : decode cX11_untouched 31 = .ok (.istore_n 1, 1) := by decide +kernel
theorem dX11_untouched_32 : decode cX11_untouched 32 = .ok (.iinc 2 1, 3) := by decide +kernel
theorem dX11_untouched_35 : decode cX11_untouched 35 = .ok (.goto (-31), 3) := by decide +kernel
theorem dX11_untouched_38 : decode cX11_untouched 38 = .ok (.iload_n 1, 1) := by decide +kernel
theorem dX11_untouched_39 : decode cX11_untouched 39 = .ok (.ireturn, 1) := by decide +kernel
theorem dX11_richest_0 : decode cX11_richest 0 = .ok (.iconst (-1), 1) := by decide +kernel
theorem dX11_richest_1 : decode cX11_richest 1 = .ok (.istore_n 1, 1) := by decide +kernel
theorem dX11_richest_2 : decode cX11_richest 2 = .ok (.iconst 0, 1) := by decide +kernel
theorem dX11_richest_3 : decode cX11_richest 3 = .ok (.istore_n 2, 1) := by decide +kernel
theorem dX11_richest_4 : decode cX11_richest 4 = .ok (.iload_n 2, 1) := by decide +kernel
theorem dX11_richest_5 : decode cX11_richest 5 = .ok (.aload_n 0, 1) := by decide +kernel
theorem dX11_richest_6 : decode cX11_richest 6 = .ok (.getfield 19, 3) := by decide +kernel
theorem dX11_richest_9 : decode cX11_richest 9 = .ok (.getfield 126, 3) := by decide +kernel
theorem dX11_richest_12 : decode cX11_richest 12 = .ok (.if_icmp .ge 37, 3) := by decide +kernel
theorem dX11_richest_15 : decode cX11_richest 15 = .ok (.iload_n 1, 1) := by decide +kernel
theorem dX11_richest_16 : decode cX11_richest 16 = .ok (.iconst (-1), 1) := by decide +kernel
theorem dX11_richest_17 : decode cX11_richest 17 = .ok (.if_icmp .eq 24, 3) := by decide +kernel
theorem dX11_richest_20 : decode cX11_richest 20 = .ok (.aload_n 0, 1) := by decide +kernel
theorem dX11_richest_21 : decode cX11_richest 21 = .ok (.getfield 89, 3) := by decide +kernel
theorem dX11_richest_24 : decode cX11_richest 24 = .ok (.getfield 133, 3) := by decide +kernel
theorem dX11_richest_27 : decode cX11_richest 27 = .ok (.iload_n 2, 1) := by decide +kernel
theorem dX11_richest_28 : decode cX11_richest 28 = .ok (.iaload, 1) := by decide +kernel
theorem dX11_richest_29 : decode cX11_richest 29 = .ok (.aload_n 0, 1) := by decide +kernel
theorem dX11_richest_30 : decode cX11_richest 30 = .ok (.getfield 89, 3) := by decide +kernel
theorem dX11_richest_33 : decode cX11_richest 33 = .ok (.getfield 133, 3) := by decide +kernel
theorem dX11_richest_36 : decode cX11_richest 36 = .ok (.iload_n 1, 1) := by decide +kernel
theorem dX11_richest_37 : decode cX11_richest 37 = .ok (.iaload, 1) := by decide +kernel
theorem dX11_richest_38 : decode cX11_richest 38 = .ok (.if_icmp .le 5, 3) := by decide +kernel
theorem dX11_richest_41 : decode cX11_richest 41 = .ok (.iload_n 2, 1) := by decide +kernel
theorem dX11_richest_42 : decode cX11_richest 42 = .ok (.istore_n 1, 1) := by decide +kernel
theorem dX11_richest_43 : decode cX11_richest 43 = .ok (.iinc 2 1, 3) := by decide +kernel
theorem dX11_richest_46 : decode cX11_richest 46 = .ok (.goto (-42), 3) := by decide +kernel
theorem dX11_richest_49 : decode cX11_richest 49 = .ok (.iload_n 1, 1) := by decide +kernel
theorem dX11_richest_50 : decode cX11_richest 50 = .ok (.ireturn, 1) := by decide +kernel
theorem dX11_busiest_0 : decode cX11_busiest 0 = .ok (.aload_n 0, 1) := by decide +kernel
theorem dX11_busiest_1 : decode cX11_busiest 1 = .ok (.getfield 46, 3) := by decide +kernel
theorem dX11_busiest_4 : decode cX11_busiest 4 = .ok (.aload_n 0, 1) := by decide +kernel
theorem dX11_busiest_5 : decode cX11_busiest 5 = .ok (.getfield 89, 3) := by decide +kernel
theorem dX11_busiest_8 : decode cX11_busiest 8 = .ok (.invokevirtual 288, 3) := by decide +kernel
theorem dX11_busiest_11 : decode cX11_busiest 11 = .ok (.ireturn, 1) := by decide +kernel
theorem dX11_law_0 : decode cX11_law 0 = .ok (.iload_n 1, 1) := by decide +kernel
theorem dX11_law_1 : decode cX11_law 1 = .ok (.iconst 0, 1) := by decide +kernel
theorem dX11_law_2 : decode cX11_law 2 = .ok (.bipush 20, 2) := by decide +kernel
theorem dX11_law_4 : decode cX11_law 4 = .ok (.invokestatic 191, 3) := by decide +kernel
theorem dX11_law_7 : decode cX11_law 7 = .ok (.ifCond .eq 18, 3) := by decide +kernel
theorem dX11_law_10 : decode cX11_law 10 = .ok (.aload_n 0, 1) := by decide +kernel
theorem dX11_law_11 : decode cX11_law 11 = .ok (.getfield 46, 3) := by decide +kernel
theorem dX11_law_14 : decode cX11_law 14 = .ok (.aload_n 0, 1) := by decide +kernel
theorem dX11_law_15 : decode cX11_law 15 = .ok (.getfield 89, 3) := by decide +kernel
theorem dX11_law_18 : decode cX11_law 18 = .ok (.iload_n 1, 1) := by decide +kernel
theorem dX11_law_19 : decode cX11_law 19 = .ok (.invokevirtual 291, 3) := by decide +kernel
theorem dX11_law_22 : decode cX11_law 22 = .ok (.goto 4, 3) := by decide +kernel
theorem dX11_law_25 : decode cX11_law 25 = .ok (.iconst (-1), 1) := by decide +kernel
theorem dX11_law_26 : decode cX11_law 26 = .ok (.ireturn, 1) := by decide +kernel
theorem dX11_hushed_0 : decode cX11_hushed 0 = .ok (.aload_n 0, 1) := by decide +kernel
theorem dX11_hushed_1 : decode cX11_hushed 1 = .ok (.getfield 19, 3) := by decide +kernel
theorem dX11_hushed_4 : decode cX11_hushed 4 = .ok (.iload_n 1, 1) := by decide +kernel
theorem dX11_hushed_5 : decode cX11_hushed 5 = .ok (.invokevirtual 175, 3) := by decide +kernel
theorem dX11_hushed_8 : decode cX11_hushed 8 = .ok (.ifCond .eq 18, 3) := by decide +kernel
theorem dX11_hushed_11 : decode cX11_hushed 11 = .ok (.aload_n 0, 1) := by decide +kernel
theorem dX11_hushed_12 : decode cX11_hushed 12 = .ok (.getfield 46, 3) := by decide +kernel
theorem dX11_hushed_15 : decode cX11_hushed 15 = .ok (.aload_n 0, 1) := by decide +kernel
theorem dX11_hushed_16 : decode cX11_hushed 16 = .ok (.getfield 89, 3) := by decide +kernel
theorem dX11_hushed_19 : decode cX11_hushed 19 = .ok (.iload_n 1, 1) := by decide +kernel
theorem dX11_hushed_20 : decode cX11_hushed 20 = .ok (.invokevirtual 294, 3) := by decide +kernel
theorem dX11_hushed_23 : decode cX11_hushed 23 = .ok (.goto 4, 3) := by decide +kernel
theorem dX11_hushed_26 : decode cX11_hushed 26 = .ok (.iconst (-1), 1) := by decide +kernel
theorem dX11_hushed_27 : decode cX11_hushed 27 = .ok (.ireturn, 1) := by decide +kernel
theorem dX11_odds_0 : decode cX11_odds 0 = .ok (.iload_n 1, 1) := by decide +kernel
theorem dX11_odds_1 : decode cX11_odds 1 = .ok (.iconst 0, 1) := by decide +kernel
theorem dX11_odds_2 : decode cX11_odds 2 = .ok (.iconst 4, 1) := by decide +kernel
theorem dX11_odds_3 : decode cX11_odds 3 = .ok (.invokestatic 191, 3) := by decide +kernel
theorem dX11_odds_6 : decode cX11_odds 6 = .ok (.ifCond .eq 12, 3) := by decide +kernel
theorem dX11_odds_9 : decode cX11_odds 9 = .ok (.iload_n 2, 1) := by decide +kernel
theorem dX11_odds_10 : decode cX11_odds 10 = .ok (.iconst 0, 1) := by decide +kernel
theorem dX11_odds_11 : decode cX11_odds 11 = .ok (.iconst 1, 1) := by decide +kernel
theorem dX11_odds_12 : decode cX11_odds 12 = .ok (.invokestatic 191, 3) := by decide +kernel
theorem dX11_odds_15 : decode cX11_odds 15 = .ok (.ifCond .ne 5, 3) := by decide +kernel
theorem dX11_odds_18 : decode cX11_odds 18 = .ok (.iconst (-1), 1) := by decide +kernel
theorem dX11_odds_19 : decode cX11_odds 19 = .ok (.ireturn, 1) := by decide +kernel
theorem dX11_odds_20 : decode cX11_odds 20 = .ok (.bipush 100, 2) := by decide +kernel
theorem dX11_odds_22 : decode cX11_odds 22 = .ok (.aload_n 0, 1) := by decide +kernel
theorem dX11_odds_23 : decode cX11_odds 23 = .ok (.getfield 19, 3) := by decide +kernel
theorem dX11_odds_26 : decode cX11_odds 26 = .ok (.getfield 297, 3) := by decide +kernel
theorem dX11_odds_29 : decode cX11_odds 29 = .ok (.isub, 1) := by decide +kernel
theorem dX11_odds_30 : decode cX11_odds 30 = .ok (.bipush 100, 2) := by decide +kernel
theorem dX11_odds_32 : decode cX11_odds 32 = .ok (.invokestatic 300, 3) := by decide +kernel
theorem dX11_odds_35 : decode cX11_odds 35 = .ok (.istore_n 3, 1) := by decide +kernel
theorem dX11_odds_36 : decode cX11_odds 36 = .ok (.iload_n 2, 1) := by decide +kernel
theorem dX11_odds_37 : decode cX11_odds 37 = .ok (.ifCond .ne 16, 3) := by decide +kernel
theorem dX11_odds_40 : decode cX11_odds 40 = .ok (.bipush 100, 2) := by decide +kernel
theorem dX11_odds_42 : decode cX11_odds 42 = .ok (.aload_n 0, 1) := by decide +kernel
theorem dX11_odds_43 : decode cX11_odds 43 = .ok (.getfield 19, 3) := by decide +kernel
theorem dX11_odds_46 : decode cX11_odds 46 = .ok (.getfield 297, 3) := by decide +kernel
theorem dX11_odds_49 : decode cX11_odds 49 = .ok (.isub, 1) := by decide +kernel
theorem dX11_odds_50 : decode cX11_odds 50 = .ok (.goto 5, 3) := by decide +kernel
theorem dX11_odds_53 : decode cX11_odds 53 = .ok (.bipush 100, 2) := by decide +kernel
theorem dX11_odds_55 : decode cX11_odds 55 = .ok (.iload_n 3, 1) := by decide +kernel
theorem dX11_odds_56 : decode cX11_odds 56 = .ok (.idiv, 1) := by decide +kernel
theorem dX11_odds_57 : decode cX11_odds 57 = .ok (.istore 4, 2) := by decide +kernel
theorem dX11_odds_59 : decode cX11_odds 59 = .ok (.iconst 1, 1) := by decide +kernel
theorem dX11_odds_60 : decode cX11_odds 60 = .ok (.istore 5, 2) := by decide +kernel
theorem dX11_odds_62 : decode cX11_odds 62 = .ok (.iconst 0, 1) := by decide +kernel
theorem dX11_odds_63 : decode cX11_odds 63 = .ok (.istore 6, 2) := by decide +kernel
theorem dX11_odds_65 : decode cX11_odds 65 = .ok (.iload 6, 2) := by decide +kernel
theorem dX11_odds_67 : decode cX11_odds 67 = .ok (.iload_n 1, 1) := by decide +kernel
theorem dX11_odds_68 : decode cX11_odds 68 = .ok (.if_icmp .ge 16, 3) := by decide +kernel
theorem dX11_odds_71 : decode cX11_odds 71 = .ok (.iload 5, 2) := by decide +kernel
theorem dX11_odds_73 : decode cX11_odds 73 = .ok (.iload 4, 2) := by decide +kernel
theorem dX11_odds_75 : decode cX11_odds 75 = .ok (.imul, 1) := by decide +kernel
theorem dX11_odds_76 : decode cX11_odds 76 = .ok (.istore 5, 2) := by decide +kernel
theorem dX11_odds_78 : decode cX11_odds 78 = .ok (.iinc 6 1, 3) := by decide +kernel
theorem dX11_odds_81 : decode cX11_odds 81 = .ok (.goto (-16), 3) := by decide +kernel
theorem dX11_odds_84 : decode cX11_odds 84 = .ok (.iload 5, 2) := by decide +kernel
theorem dX11_odds_86 : decode cX11_odds 86 = .ok (.ireturn, 1) := by decide +kernel
theorem dX11_lies_0 : decode cX11_lies 0 = .ok (.iload_n 1, 1) := by decide +kernel
theorem dX11_lies_1 : decode cX11_lies 1 = .ok (.ifCond .lt 20, 3) := by decide +kernel
theorem dX11_lies_4 : decode cX11_lies 4 = .ok (.iload_n 1, 1) := by decide +kernel
theorem dX11_lies_5 : decode cX11_lies 5 = .ok (.aload_n 0, 1) := by decide +kernel
theorem dX11_lies_6 : decode cX11_lies 6 = .ok (.getfield 75, 3) := by decide +kernel
theorem dX11_lies_9 : decode cX11_lies 9 = .ok (.if_icmp .ge 12, 3) := by decide +kernel
theorem dX11_lies_12 : decode cX11_lies 12 = .ok (.aload_n 0, 1) := by decide +kernel
theorem dX11_lies_13 : decode cX11_lies 13 = .ok (.getfield 71, 3) := by decide +kernel
theorem dX11_lies_16 : decode cX11_lies 16 = .ok (.iload_n 1, 1) := by decide +kernel
theorem dX11_lies_17 : decode cX11_lies 17 = .ok (.iaload, 1) := by decide +kernel
theorem dX11_lies_18 : decode cX11_lies 18 = .ok (.goto 5, 3) := by decide +kernel
theorem dX11_lies_21 : decode cX11_lies 21 = .ok (.bipush (-2), 2) := by decide +kernel
theorem dX11_lies_23 : decode cX11_lies 23 = .ok (.ireturn, 1) := by decide +kernel
theorem dX11_seen_0 : decode cX11_seen 0 = .ok (.iload_n 1, 1) := by decide +kernel
theorem dX11_seen_1 : decode cX11_seen 1 = .ok (.iconst 1, 1) := by decide +kernel
theorem dX11_seen_2 : decode cX11_seen 2 = .ok (.bipush 12, 2) := by decide +kernel
theorem dX11_seen_4 : decode cX11_seen 4 = .ok (.invokestatic 191, 3) := by decide +kernel
theorem dX11_seen_7 : decode cX11_seen 7 = .ok (.ifCond .eq 25, 3) := by decide +kernel
theorem dX11_seen_10 : decode cX11_seen 10 = .ok (.aload_n 0, 1) := by decide +kernel
theorem dX11_seen_11 : decode cX11_seen 11 = .ok (.getfield 19, 3) := by decide +kernel
theorem dX11_seen_14 : decode cX11_seen 14 = .ok (.iload_n 3, 1) := by decide +kernel
theorem dX11_seen_15 : decode cX11_seen 15 = .ok (.iload_n 2, 1) := by decide +kernel
theorem dX11_seen_16 : decode cX11_seen 16 = .ok (.invokevirtual 150, 3) := by decide +kernel
theorem dX11_seen_19 : decode cX11_seen 19 = .ok (.ifCond .eq 13, 3) := by decide +kernel
theorem dX11_seen_22 : decode cX11_seen 22 = .ok (.aload_n 0, 1) := by decide +kernel
theorem dX11_seen_23 : decode cX11_seen 23 = .ok (.getfield 19, 3) := by decide +kernel
theorem dX11_seen_26 : decode cX11_seen 26 = .ok (.getfield 303, 3) := by decide +kernel
theorem dX11_seen_29 : decode cX11_seen 29 = .ok (.ifCond .ne 5, 3) := by decide +kernel
theorem dX11_seen_32 : decode cX11_seen 32 = .ok (.iconst (-1), 1) := by decide +kernel
theorem dX11_seen_33 : decode cX11_seen 33 = .ok (.ireturn, 1) := by decide +kernel
theorem dX11_seen_34 : decode cX11_seen 34 = .ok (.aload_n 0, 1) := by decide +kernel
theorem dX11_seen_35 : decode cX11_seen 35 = .ok (.getfield 60, 3) := by decide +kernel
theorem dX11_seen_38 : decode cX11_seen 38 = .ok (.iload_n 1, 1) := by decide +kernel
theorem dX11_seen_39 : decode cX11_seen 39 = .ok (.iload_n 2, 1) := by decide +kernel
theorem dX11_seen_40 : decode cX11_seen 40 = .ok (.iload_n 3, 1) := by decide +kernel
theorem dX11_seen_41 : decode cX11_seen 41 = .ok (.iload 4, 2) := by decide +kernel
theorem dX11_seen_43 : decode cX11_seen 43 = .ok (.invokevirtual 306, 3) := by decide +kernel
theorem dX11_seen_46 : decode cX11_seen 46 = .ok (.ireturn, 1) := by decide +kernel
theorem dX11_untell_0 : decode cX11_untell 0 = .ok (.aload_n 0, 1) := by decide +kernel
theorem dX11_untell_1 : decode cX11_untell 1 = .ok (.getfield 60, 3) := by decide +kernel
theorem dX11_untell_4 : decode cX11_untell 4 = .ok (.iload_n 1, 1) := by decide +kernel
theorem dX11_untell_5 : decode cX11_untell 5 = .ok (.invokevirtual 310, 3) := by decide +kernel
theorem dX11_untell_8 : decode cX11_untell 8 = .ok (.ireturn, 1) := by decide +kernel
theorem dX11_later_0 : decode cX11_later 0 = .ok (.iload_n 1, 1) := by decide +kernel
theorem dX11_later_1 : decode cX11_later 1 = .ok (.iconst 0, 1) := by decide +kernel
theorem dX11_later_2 : decode cX11_later 2 = .ok (.sipush 1000, 3) := by decide +kernel
theorem dX11_later_5 : decode cX11_later 5 = .ok (.invokestatic 191, 3) := by decide +kernel
theorem dX11_later_8 : decode cX11_later 8 = .ok (.ifCond .eq 18, 3) := by decide +kernel
theorem dX11_later_11 : decode cX11_later 11 = .ok (.aload_n 0, 1) := by decide +kernel
theorem dX11_later_12 : decode cX11_later 12 = .ok (.getfield 60, 3) := by decide +kernel
theorem dX11_later_15 : decode cX11_later 15 = .ok (.getfield 313, 3) := by decide +kernel
theorem dX11_later_18 : decode cX11_later 18 = .ok (.iload_n 1, 1) := by decide +kernel
theorem dX11_later_19 : decode cX11_later 19 = .ok (.iadd, 1) := by decide +kernel
theorem dX11_later_20 : decode cX11_later 20 = .ok (.ldc_w 316, 3) := by decide +kernel
theorem dX11_later_23 : decode cX11_later 23 = .ok (.if_icmp .le 5, 3) := by decide +kernel
theorem dX11_later_26 : decode cX11_later 26 = .ok (.iconst (-1), 1) := by decide +kernel
theorem dX11_later_27 : decode cX11_later 27 = .ok (.ireturn, 1) := by decide +kernel
theorem dX11_later_28 : decode cX11_later 28 = .ok (.aload_n 0, 1) := by decide +kernel
theorem dX11_later_29 : decode cX11_later 29 = .ok (.getfield 60, 3) := by decide +kernel
theorem dX11_later_32 : decode cX11_later 32 = .ok (.dup, 1) := by decide +kernel
theorem dX11_later_33 : decode cX11_later 33 = .ok (.getfield 313, 3) := by decide +kernel
theorem dX11_later_36 : decode cX11_later 36 = .ok (.iload_n 1, 1) := by decide +kernel
theorem dX11_later_37 : decode cX11_later 37 = .ok (.iadd, 1) := by decide +kernel
theorem dX11_later_38 : decode cX11_later 38 = .ok (.putfield 313, 3) := by decide +kernel
theorem dX11_later_41 : decode cX11_later 41 = .ok (.aload_n 0, 1) := by decide +kernel
theorem dX11_later_42 : decode cX11_later 42 = .ok (.getfield 60, 3) := by decide +kernel
theorem dX11_later_45 : decode cX11_later 45 = .ok (.getfield 313, 3) := by decide +kernel
theorem dX11_later_48 : decode cX11_later 48 = .ok (.ireturn, 1) := by decide +kernel
theorem dX11_fits_0 : decode cX11_fits 0 = .ok (.aload_n 0, 1) := by decide +kernel
theorem dX11_fits_1 : decode cX11_fits 1 = .ok (.getfield 60, 3) := by decide +kernel
theorem dX11_fits_4 : decode cX11_fits 4 = .ok (.iload_n 1, 1) := by decide +kernel
theorem dX11_fits_5 : decode cX11_fits 5 = .ok (.invokevirtual 317, 3) := by decide +kernel
theorem dX11_fits_8 : decode cX11_fits 8 = .ok (.invokestatic 198, 3) := by decide +kernel
theorem dX11_fits_11 : decode cX11_fits 11 = .ok (.ireturn, 1) := by decide +kernel
theorem dX11_sure_0 : decode cX11_sure 0 = .ok (.iload_n 1, 1) := by decide +kernel
theorem dX11_sure_1 : decode cX11_sure 1 = .ok (.iconst 0, 1) := by decide +kernel
theorem dX11_sure_2 : decode cX11_sure 2 = .ok (.iconst 1, 1) := by decide +kernel
theorem dX11_sure_3 : decode cX11_sure 3 = .ok (.invokestatic 191, 3) := by decide +kernel
theorem dX11_sure_6 : decode cX11_sure 6 = .ok (.ifCond .ne 5, 3) := by decide +kernel
theorem dX11_sure_9 : decode cX11_sure 9 = .ok (.iconst (-1), 1) := by decide +kernel
theorem dX11_sure_10 : decode cX11_sure 10 = .ok (.ireturn, 1) := by decide +kernel
theorem dX11_sure_11 : decode cX11_sure 11 = .ok (.aload_n 0, 1) := by decide +kernel
theorem dX11_sure_12 : decode cX11_sure 12 = .ok (.getfield 60, 3) := by decide +kernel
theorem dX11_sure_15 : decode cX11_sure 15 = .ok (.iload_n 2, 1) := by decide +kernel
theorem dX11_sure_16 : decode cX11_sure 16 = .ok (.invokevirtual 317, 3) := by decide +kernel
theorem dX11_sure_19 : decode cX11_sure 19 = .ok (.istore_n 3, 1) := by decide +kernel
theorem dX11_sure_20 : decode cX11_sure 20 = .ok (.iload_n 3, 1) := by decide +kernel
theorem dX11_sure_21 : decode cX11_sure 21 = .ok (.ifCond .ne 5, 3) := by decide +kernel
theorem dX11_sure_24 : decode cX11_sure 24 = .ok (.iconst (-1), 1) := by decide +kernel
theorem dX11_sure_25 : decode cX11_sure 25 = .ok (.ireturn, 1) := by decide +kernel
theorem dX11_sure_26 : decode cX11_sure 26 = .ok (.iload_n 1, 1) := by decide +kernel
theorem dX11_sure_27 : decode cX11_sure 27 = .ok (.ifCond .ne 14, 3) := by decide +kernel
theorem dX11_sure_30 : decode cX11_sure 30 = .ok (.aload_n 0, 1) := by decide +kernel
theorem dX11_sure_31 : decode cX11_sure 31 = .ok (.getfield 60, 3) := by decide +kernel
theorem dX11_sure_34 : decode cX11_sure 34 = .ok (.iload_n 3, 1) := by decide +kernel
theorem dX11_sure_35 : decode cX11_sure 35 = .ok (.invokevirtual 320, 3) := by decide +kernel
theorem dX11_sure_38 : decode cX11_sure 38 = .ok (.goto 11, 3) := by decide +kernel
theorem dX11_sure_41 : decode cX11_sure 41 = .ok (.aload_n 0, 1) := by decide +kernel
theorem dX11_sure_42 : decode cX11_sure 42 = .ok (.getfield 60, 3) := by decide +kernel
theorem dX11_sure_45 : decode cX11_sure 45 = .ok (.iload_n 3, 1) := by decide +kernel
theorem dX11_sure_46 : decode cX11_sure 46 = .ok (.invokevirtual 323, 3) := by decide +kernel
theorem dX11_sure_49 : decode cX11_sure 49 = .ok (.ireturn, 1) := by decide +kernel
theorem dX11_ask_0 : decode cX11_ask 0 = .ok (.iload_n 1, 1) := by decide +kernel
theorem dX11_ask_1 : decode cX11_ask 1 = .ok (.iconst 1, 1) := by decide +kernel
theorem dX11_ask_2 : decode cX11_ask 2 = .ok (.bipush 12, 2) := by decide +kernel
theorem dX11_ask_4 : decode cX11_ask 4 = .ok (.invokestatic 191, 3) := by decide +kernel
theorem dX11_ask_7 : decode cX11_ask 7 = .ok (.ifCond .eq 12, 3) := by decide +kernel
theorem dX11_ask_10 : decode cX11_ask 10 = .ok (.iload_n 2, 1) := by decide +kernel
theorem dX11_ask_11 : decode cX11_ask 11 = .ok (.iconst 0, 1) := by decide +kernel
theorem dX11_ask_12 : decode cX11_ask 12 = .ok (.iconst 1, 1) := by decide +kernel
theorem dX11_ask_13 : decode cX11_ask 13 = .ok (.invokestatic 191, 3) := by decide +kernel
theorem dX11_ask_16 : decode cX11_ask 16 = .ok (.ifCond .ne 5, 3) := by decide +kernel
theorem dX11_ask_19 : decode cX11_ask 19 = .ok (.iconst (-1), 1) := by decide +kernel
theorem dX11_ask_20 : decode cX11_ask 20 = .ok (.ireturn, 1) := by decide +kernel
theorem dX11_ask_21 : decode cX11_ask 21 = .ok (.aload_n 0, 1) := by decide +kernel
theorem dX11_ask_22 : decode cX11_ask 22 = .ok (.getfield 60, 3) := by decide +kernel
theorem dX11_ask_25 : decode cX11_ask 25 = .ok (.iload_n 3, 1) := by decide +kernel
theorem dX11_ask_26 : decode cX11_ask 26 = .ok (.invokevirtual 317, 3) := by decide +kernel
theorem dX11_ask_29 : decode cX11_ask 29 = .ok (.istore 4, 2) := by decide +kernel
theorem dX11_ask_31 : decode cX11_ask 31 = .ok (.iload 4, 2) := by decide +kernel
theorem dX11_ask_33 : decode cX11_ask 33 = .ok (.ifCond .ne 5, 3) := by decide +kernel
theorem dX11_ask_36 : decode cX11_ask 36 = .ok (.iconst (-1), 1) := by decide +kernel
theorem dX11_ask_37 : decode cX11_ask 37 = .ok (.ireturn, 1) := by decide +kernel
theorem dX11_ask_38 : decode cX11_ask 38 = .ok (.aload_n 0, 1) := by decide +kernel
theorem dX11_ask_39 : decode cX11_ask 39 = .ok (.getfield 60, 3) := by decide +kernel
theorem dX11_ask_42 : decode cX11_ask 42 = .ok (.iload_n 1, 1) := by decide +kernel
theorem dX11_ask_43 : decode cX11_ask 43 = .ok (.iload 4, 2) := by decide +kernel
theorem dX11_ask_45 : decode cX11_ask 45 = .ok (.invokevirtual 326, 3) := by decide +kernel
theorem dX11_ask_48 : decode cX11_ask 48 = .ok (.aload_n 0, 1) := by decide +kernel
theorem dX11_ask_49 : decode cX11_ask 49 = .ok (.getfield 60, 3) := by decide +kernel
theorem dX11_ask_52 : decode cX11_ask 52 = .ok (.invokevirtual 330, 3) := by decide +kernel
theorem dX11_ask_55 : decode cX11_ask 55 = .ok (.istore 5, 2) := by decide +kernel
theorem dX11_ask_57 : decode cX11_ask 57 = .ok (.iload_n 2, 1) := by decide +kernel
theorem dX11_ask_58 : decode cX11_ask 58 = .ok (.ifCond .eq 9, 3) := by decide +kernel
theorem dX11_ask_61 : decode cX11_ask 61 = .ok (.iload 5, 2) := by decide +kernel
theorem dX11_ask_63 : decode cX11_ask 63 = .ok (.iconst (-1), 1) := by decide +kernel
theorem dX11_ask_64 : decode cX11_ask 64 = .ok (.if_icmp .ne 8, 3) := by decide +kernel
theorem dX11_ask_67 : decode cX11_ask 67 = .ok (.iload 5, 2) := by decide +kernel
theorem dX11_ask_69 : decode cX11_ask 69 = .ok (.goto 12, 3) := by decide +kernel
theorem dX11_ask_72 : decode cX11_ask 72 = .ok (.aload_n 0, 1) := by decide +kernel
theorem dX11_ask_73 : decode cX11_ask 73 = .ok (.getfield 60, 3) := by decide +kernel
theorem dX11_ask_76 : decode cX11_ask 76 = .ok (.iload 5, 2) := by decide +kernel
theorem dX11_ask_78 : decode cX11_ask 78 = .ok (.invokevirtual 334, 3) := by decide +kernel
theorem dX11_ask_81 : decode cX11_ask 81 = .ok (.ireturn, 1) := by decide +kernel
theorem dX11_image_0 : decode cX11_image 0 = .ok (.iload_n 1, 1) := by decide +kernel
theorem dX11_image_1 : decode cX11_image 1 = .ok (.iconst 0, 1) := by decide +kernel
theorem dX11_image_2 : decode cX11_image 2 = .ok (.iconst 2, 1) := by decide +kernel
theorem dX11_image_3 : decode cX11_image 3 = .ok (.invokestatic 191, 3) := by decide +kernel
theorem dX11_image_6 : decode cX11_image 6 = .ok (.ifCond .ne 5, 3) := by decide +kernel
theorem dX11_image_9 : decode cX11_image 9 = .ok (.iconst (-1), 1) := by decide +kernel
theorem dX11_image_10 : decode cX11_image 10 = .ok (.ireturn, 1) := by decide +kernel
theorem dX11_image_11 : decode cX11_image 11 = .ok (.aload_n 0, 1) := by decide +kernel
theorem dX11_image_12 : decode cX11_image 12 = .ok (.getfield 81, 3) := by decide +kernel
theorem dX11_image_15 : decode cX11_image 15 = .ok (.iload_n 1, 1) := by decide +kernel
theorem dX11_image_16 : decode cX11_image 16 = .ok (.aaload, 1) := by decide +kernel
theorem dX11_image_17 : decode cX11_image 17 = .ok (.aload_n 0, 1) := by decide +kernel
theorem dX11_image_18 : decode cX11_image 18 = .ok (.getfield 89, 3) := by decide +kernel
theorem dX11_image_21 : decode cX11_image 21 = .ok (.invokevirtual 337, 3) := by decide +kernel
theorem dX11_image_24 : decode cX11_image 24 = .ok (.aload_n 0, 1) := by decide +kernel
theorem dX11_image_25 : decode cX11_image 25 = .ok (.dup, 1) := by decide +kernel
theorem dX11_image_26 : decode cX11_image 26 = .ok (.getfield 85, 3) := by decide +kernel
theorem dX11_image_29 : decode cX11_image 29 = .ok (.iconst 1, 1) := by decide +kernel
theorem dX11_image_30 : decode cX11_image 30 = .ok (.iload_n 1, 1) := by decide +kernel
theorem dX11_image_31 : decode cX11_image 31 = .ok (.ishl, 1) := by decide +kernel
theorem dX11_image_32 : decode cX11_image 32 = .ok (.ior, 1) := by decide +kernel
theorem dX11_image_33 : decode cX11_image 33 = .ok (.putfield 85, 3) := by decide +kernel
theorem dX11_image_36 : decode cX11_image 36 = .ok (.aload_n 0, 1) := by decide +kernel
theorem dX11_image_37 : decode cX11_image 37 = .ok (.getfield 89, 3) := by decide +kernel
theorem dX11_image_40 : decode cX11_image 40 = .ok (.getfield 181, 3) := by decide +kernel
theorem dX11_image_43 : decode cX11_image 43 = .ok (.ireturn, 1) := by decide +kernel
theorem dX11_back_0 : decode cX11_back 0 = .ok (.iload_n 1, 1) := by decide +kernel
theorem dX11_back_1 : decode cX11_back 1 = .ok (.iconst 0, 1) := by decide +kernel
theorem dX11_back_2 : decode cX11_back 2 = .ok (.iconst 2, 1) := by decide +kernel
theorem dX11_back_3 : decode cX11_back 3 = .ok (.invokestatic 191, 3) := by decide +kernel
theorem dX11_back_6 : decode cX11_back 6 = .ok (.ifCond .eq 14, 3) := by decide +kernel
theorem dX11_back_9 : decode cX11_back 9 = .ok (.aload_n 0, 1) := by decide +kernel
theorem dX11_back_10 : decode cX11_back 10 = .ok (.getfield 85, 3) := by decide +kernel
theorem dX11_back_13 : decode cX11_back 13 = .ok (.iload_n 1, 1) := by decide +kernel
theorem dX11_back_14 : decode cX11_back 14 = .ok (.ishr, 1) := by decide +kernel
theorem dX11_back_15 : decode cX11_back 15 = .ok (.iconst 1, 1) := by decide +kernel
theorem dX11_back_16 : decode cX11_back 16 = .ok (.iand, 1) := by decide +kernel
theorem dX11_back_17 : decode cX11_back 17 = .ok (.ifCond .ne 5, 3) := by decide +kernel
theorem dX11_back_20 : decode cX11_back 20 = .ok (.iconst (-1), 1) := by decide +kernel
theorem dX11_back_21 : decode cX11_back 21 = .ok (.ireturn, 1) := by decide +kernel
theorem dX11_back_22 : decode cX11_back 22 = .ok (.aload_n 0, 1) := by decide +kernel
theorem dX11_back_23 : decode cX11_back 23 = .ok (.getfield 89, 3) := by decide +kernel
theorem dX11_back_26 : decode cX11_back 26 = .ok (.aload_n 0, 1) := by decide +kernel
theorem dX11_back_27 : decode cX11_back 27 = .ok (.getfield 81, 3) := by decide +kernel
theorem dX11_back_30 : decode cX11_back 30 = .ok (.iload_n 1, 1) := by decide +kernel
theorem dX11_back_31 : decode cX11_back 31 = .ok (.aaload, 1) := by decide +kernel
theorem dX11_back_32 : decode cX11_back 32 = .ok (.invokevirtual 337, 3) := by decide +kernel
theorem dX11_back_35 : decode cX11_back 35 = .ok (.aload_n 0, 1) := by decide +kernel
theorem dX11_back_36 : decode cX11_back 36 = .ok (.getfield 67, 3) := by decide +kernel
theorem dX11_back_39 : decode cX11_back 39 = .ok (.invokevirtual 122, 3) := by decide +kernel
theorem dX11_back_42 : decode cX11_back 42 = .ok (.aload_n 0, 1) := by decide +kernel
theorem dX11_back_43 : decode cX11_back 43 = .ok (.getfield 89, 3) := by decide +kernel
theorem dX11_back_46 : decode cX11_back 46 = .ok (.getfield 181, 3) := by decide +kernel
theorem dX11_back_49 : decode cX11_back 49 = .ok (.ireturn, 1) := by decide +kernel
theorem dX11_about_0 : decode cX11_about 0 = .ok (.iload_n 1, 1) := by decide +kernel
theorem dX11_about_1 : decode cX11_about 1 = .ok (.tableswitch 219 0 13 #[71, 81, 91, 101, 111, 121, 131, 141, 159, 169, 179, 189, 202, 209], 71) := by decide +kernel
theorem dX11_about_72 : decode cX11_about 72 = .ok (.aload_n 0, 1) := by decide +kernel
theorem dX11_about_73 : decode cX11_about 73 = .ok (.getfield 19, 3) := by decide +kernel
theorem dX11_about_76 : decode cX11_about 76 = .ok (.getfield 126, 3) := by decide +kernel
theorem dX11_about_79 : decode cX11_about 79 = .ok (.goto 142, 3) := by decide +kernel
theorem dX11_about_82 : decode cX11_about 82 = .ok (.aload_n 0, 1) := by decide +kernel
theorem dX11_about_83 : decode cX11_about 83 = .ok (.getfield 19, 3) := by decide +kernel
theorem dX11_about_86 : decode cX11_about 86 = .ok (.getfield 232, 3) := by decide +kernel
theorem dX11_about_89 : decode cX11_about 89 = .ok (.goto 132, 3) := by decide +kernel
theorem dX11_about_92 : decode cX11_about 92 = .ok (.aload_n 0, 1) := by decide +kernel
theorem dX11_about_93 : decode cX11_about 93 = .ok (.getfield 19, 3) := by decide +kernel
theorem dX11_about_96 : decode cX11_about 96 = .ok (.getfield 303, 3) := by decide +kernel
theorem dX11_about_99 : decode cX11_about 99 = .ok (.goto 122, 3) := by decide +kernel
theorem dX11_about_102 : decode cX11_about 102 = .ok (.aload_n 0, 1) := by decide +kernel
theorem dX11_about_103 : decode cX11_about 103 = .ok (.getfield 89, 3) := by decide +kernel
theorem dX11_about_106 : decode cX11_about 106 = .ok (.getfield 139, 3) := by decide +kernel
theorem dX11_about_109 : decode cX11_about 109 = .ok (.goto 112, 3) := by decide +kernel
theorem dX11_about_112 : decode cX11_about 112 = .ok (.aload_n 0, 1) := by decide +kernel
theorem dX11_about_113 : decode cX11_about 113 = .ok (.getfield 89, 3) := by decide +kernel
theorem dX11_about_116 : decode cX11_about 116 = .ok (.getfield 181, 3) := by decide +kernel
theorem dX11_about_119 : decode cX11_about 119 = .ok (.goto 102, 3) := by decide +kernel
theorem dX11_about_122 : decode cX11_about 122 = .ok (.aload_n 0, 1) := by decide +kernel
theorem dX11_about_123 : decode cX11_about 123 = .ok (.getfield 89, 3) := by decide +kernel
theorem dX11_about_126 : decode cX11_about 126 = .ok (.getfield 339, 3) := by decide +kernel
theorem dX11_about_129 : decode cX11_about 129 = .ok (.goto 92, 3) := by decide +kernel
theorem dX11_about_132 : decode cX11_about 132 = .ok (.aload_n 0, 1) := by decide +kernel
theorem dX11_about_133 : decode cX11_about 133 = .ok (.getfield 67, 3) := by decide +kernel
theorem dX11_about_136 : decode cX11_about 136 = .ok (.getfield 342, 3) := by decide +kernel
theorem dX11_about_139 : decode cX11_about 139 = .ok (.goto 82, 3) := by decide +kernel
theorem dX11_about_142 : decode cX11_about 142 = .ok (.aload_n 0, 1) := by decide +kernel
theorem dX11_about_143 : decode cX11_about 143 = .ok (.getfield 67, 3) := by decide +kernel
theorem dX11_about_146 : decode cX11_about 146 = .ok (.getfield 345, 3) := by decide +kernel
theorem dX11_about_149 : decode cX11_about 149 = .ok (.aload_n 0, 1) := by decide +kernel
theorem dX11_about_150 : decode cX11_about 150 = .ok (.getfield 67, 3) := by decide +kernel
theorem dX11_about_153 : decode cX11_about 153 = .ok (.getfield 342, 3) := by decide +kernel
theorem dX11_about_156 : decode cX11_about 156 = .ok (.isub, 1) := by decide +kernel
theorem dX11_about_157 : decode cX11_about 157 = .ok (.goto 64, 3) := by decide +kernel
theorem dX11_about_160 : decode cX11_about 160 = .ok (.aload_n 0, 1) := by decide +kernel
theorem dX11_about_161 : decode cX11_about 161 = .ok (.getfield 60, 3) := by decide +kernel
theorem dX11_about_164 : decode cX11_about 164 = .ok (.getfield 348, 3) := by decide +kernel
theorem dX11_about_167 : decode cX11_about 167 = .ok (.goto 54, 3) := by decide +kernel
theorem dX11_about_170 : decode cX11_about 170 = .ok (.aload_n 0, 1) := by decide +kernel
theorem dX11_about_171 : decode cX11_about 171 = .ok (.getfield 60, 3) := by decide +kernel
theorem dX11_about_174 : decode cX11_about 174 = .ok (.getfield 313, 3) := by decide +kernel
theorem dX11_about_177 : decode cX11_about 177 = .ok (.goto 44, 3) := by decide +kernel
theorem dX11_about_180 : decode cX11_about 180 = .ok (.aload_n 0, 1) := by decide +kernel
theorem dX11_about_181 : decode cX11_about 181 = .ok (.getfield 12, 3) := by decide +kernel
theorem dX11_about_184 : decode cX11_about 184 = .ok (.getfield 99, 3) := by decide +kernel
theorem dX11_about_187 : decode cX11_about 187 = .ok (.goto 34, 3) := by decide +kernel
theorem dX11_about_190 : decode cX11_about 190 = .ok (.aload_n 0, 1) := by decide +kernel
theorem dX11_about_191 : decode cX11_about 191 = .ok (.getfield 19, 3) := by decide +kernel
theorem dX11_about_194 : decode cX11_about 194 = .ok (.getfield 162, 3) := by decide +kernel
theorem dX11_about_197 : decode cX11_about 197 = .ok (.getfield 351, 3) := by decide +kernel
theorem dX11_about_200 : decode cX11_about 200 = .ok (.goto 21, 3) := by decide +kernel
theorem dX11_about_203 : decode cX11_about 203 = .ok (.aload_n 0, 1) := by decide +kernel
theorem dX11_about_204 : decode cX11_about 204 = .ok (.getfield 75, 3) := by decide +kernel
theorem dX11_about_207 : decode cX11_about 207 = .ok (.goto 14, 3) := by decide +kernel
theorem dX11_about_210 : decode cX11_about 210 = .ok (.aload_n 0, 1) := by decide +kernel
theorem dX11_about_211 : decode cX11_about 211 = .ok (.getfield 19, 3) := by decide +kernel
theorem dX11_about_214 : decode cX11_about 214 = .ok (.getfield 297, 3) := by decide +kernel
theorem dX11_about_217 : decode cX11_about 217 = .ok (.goto 4, 3) := by decide +kernel
theorem dX11_about_220 : decode cX11_about 220 = .ok (.iconst (-1), 1) := by decide +kernel
theorem dX11_about_221 : decode cX11_about 221 = .ok (.ireturn, 1) := by decide +kernel
theorem dX11_layDown_0 : decode cX11_layDown 0 = .ok (.aload_n 0, 1) := by decide +kernel
theorem dX11_layDown_1 : decode cX11_layDown 1 = .ok (.iload_n 2, 1) := by decide +kernel
theorem dX11_layDown_2 : decode cX11_layDown 2 = .ok (.aload_n 0, 1) := by decide +kernel
theorem dX11_layDown_3 : decode cX11_layDown 3 = .ok (.getfield 71, 3) := by decide +kernel
theorem dX11_layDown_6 : decode cX11_layDown 6 = .ok (.arraylength, 1) := by decide +kernel
theorem dX11_layDown_7 : decode cX11_layDown 7 = .ok (.aload_n 1, 1) := by decide +kernel
theorem dX11_layDown_8 : decode cX11_layDown 8 = .ok (.arraylength, 1) := by decide +kernel
theorem dX11_layDown_9 : decode cX11_layDown 9 = .ok (.invokestatic 203, 3) := by decide +kernel
theorem dX11_layDown_12 : decode cX11_layDown 12 = .ok (.invokestatic 203, 3) := by decide +kernel
theorem dX11_layDown_15 : decode cX11_layDown 15 = .ok (.putfield 75, 3) := by decide +kernel
theorem dX11_layDown_18 : decode cX11_layDown 18 = .ok (.aload_n 1, 1) := by decide +kernel
theorem dX11_layDown_19 : decode cX11_layDown 19 = .ok (.iconst 0, 1) := by decide +kernel
theorem dX11_layDown_20 : decode cX11_layDown 20 = .ok (.aload_n 0, 1) := by decide +kernel
theorem dX11_layDown_21 : decode cX11_layDown 21 = .ok (.getfield 71, 3) := by decide +kernel
theorem dX11_layDown_24 : decode cX11_layDown 24 = .ok (.iconst 0, 1) := by decide +kernel
theorem dX11_layDown_25 : decode cX11_layDown 25 = .ok (.aload_n 0, 1) := by decide +kernel
theorem dX11_layDown_26 : decode cX11_layDown 26 = .ok (.getfield 75, 3) := by decide +kernel
theorem dX11_layDown_29 : decode cX11_layDown 29 = .ok (.invokestatic 354, 3) := by decide +kernel
theorem dX11_layDown_32 : decode cX11_layDown 32 = .ok (.return_, 1) := by decide +kernel
theorem dX11_within_0 : decode cX11_within 0 = .ok (.iload_n 0, 1) := by decide +kernel
theorem dX11_within_1 : decode cX11_within 1 = .ok (.iload_n 1, 1) := by decide +kernel
theorem dX11_within_2 : decode cX11_within 2 = .ok (.if_icmp .lt 12, 3) := by decide +kernel
theorem dX11_within_5 : decode cX11_within 5 = .ok (.iload_n 0, 1) := by decide +kernel
theorem dX11_within_6 : decode cX11_within 6 = .ok (.iload_n 2, 1) := by decide +kernel
theorem dX11_within_7 : decode cX11_within 7 = .ok (.if_icmp .gt 7, 3) := by decide +kernel
theorem dX11_within_10 : decode cX11_within 10 = .ok (.iconst 1, 1) := by decide +kernel
theorem dX11_within_11 : decode cX11_within 11 = .ok (.goto 4, 3) := by decide +kernel
theorem dX11_within_14 : decode cX11_within 14 = .ok (.iconst 0, 1) := by decide +kernel
theorem dX11_within_15 : decode cX11_within 15 = .ok (.ireturn, 1) := by decide +kernel
theorem dX11_cell_0 : decode cX11_cell 0 = .ok (.iload_n 0, 1) := by decide +kernel
theorem dX11_cell_1 : decode cX11_cell 1 = .ok (.iconst 5, 1) := by decide +kernel
theorem dX11_cell_2 : decode cX11_cell 2 = .ok (.imul, 1) := by decide +kernel
theorem dX11_cell_3 : decode cX11_cell 3 = .ok (.iload_n 1, 1) := by decide +kernel
theorem dX11_cell_4 : decode cX11_cell 4 = .ok (.iadd, 1) := by decide +kernel
theorem dX11_cell_5 : decode cX11_cell 5 = .ok (.ireturn, 1) := by decide +kernel
theorem dX11_commonDivisor_0 : decode cX11_commonDivisor 0 = .ok (.iload_n 1, 1) := by decide +kernel
theorem dX11_commonDivisor_1 : decode cX11_commonDivisor 1 = .ok (.istore_n 2, 1) := by decide +kernel
theorem dX11_commonDivisor_2 : decode cX11_commonDivisor 2 = .ok (.iload_n 0, 1) := by decide +kernel
theorem dX11_commonDivisor_3 : decode cX11_commonDivisor 3 = .ok (.istore_n 3, 1) := by decide +kernel
theorem dX11_commonDivisor_4 : decode cX11_commonDivisor 4 = .ok (.iconst 0, 1) := by decide +kernel
theorem dX11_commonDivisor_5 : decode cX11_commonDivisor 5 = .ok (.istore 4, 2) := by decide +kernel
theorem dX11_commonDivisor_7 : decode cX11_commonDivisor 7 = .ok (.iload 4, 2) := by decide +kernel
theorem dX11_commonDivisor_9 : decode cX11_commonDivisor 9 = .ok (.bipush 100, 2) := by decide +kernel
theorem dX11_commonDivisor_11 : decode cX11_commonDivisor 11 = .ok (.if_icmp .ge 23, 3) := by decide +kernel
theorem dX11_commonDivisor_14 : decode cX11_commonDivisor 14 = .ok (.iload_n 3, 1) := by decide +kernel
theorem dX11_commonDivisor_15 : decode cX11_commonDivisor 15 = .ok (.ifCond .le 19, 3) := by decide +kernel
theorem dX11_commonDivisor_18 : decode cX11_commonDivisor 18 = .ok (.iload_n 2, 1) := by decide +kernel
theorem dX11_commonDivisor_19 : decode cX11_commonDivisor 19 = .ok (.iload_n 3, 1) := by decide +kernel
theorem dX11_commonDivisor_20 : decode cX11_commonDivisor 20 = .ok (.irem, 1) := by decide +kernel
theorem dX11_commonDivisor_21 : decode cX11_commonDivisor 21 = .ok (.istore 5, 2) := by decide +kernel
theorem dX11_commonDivisor_23 : decode cX11_commonDivisor 23 = .ok (.iload_n 3, 1) := by decide +kernel
theorem dX11_commonDivisor_24 : decode cX11_commonDivisor 24 = .ok (.istore_n 2, 1) := by decide +kernel
theorem dX11_commonDivisor_25 : decode cX11_commonDivisor 25 = .ok (.iload 5, 2) := by decide +kernel
theorem dX11_commonDivisor_27 : decode cX11_commonDivisor 27 = .ok (.istore_n 3, 1) := by decide +kernel
theorem dX11_commonDivisor_28 : decode cX11_commonDivisor 28 = .ok (.iinc 4 1, 3) := by decide +kernel
theorem dX11_commonDivisor_31 : decode cX11_commonDivisor 31 = .ok (.goto (-24), 3) := by decide +kernel
theorem dX11_commonDivisor_34 : decode cX11_commonDivisor 34 = .ok (.iconst 1, 1) := by decide +kernel
theorem dX11_commonDivisor_35 : decode cX11_commonDivisor 35 = .ok (.iload_n 2, 1) := by decide +kernel
theorem dX11_commonDivisor_36 : decode cX11_commonDivisor 36 = .ok (.invokestatic 360, 3) := by decide +kernel
theorem dX11_commonDivisor_39 : decode cX11_commonDivisor 39 = .ok (.ireturn, 1) := by decide +kernel
theorem dX12_init_0 : decode cX12_init 0 = .ok (.aload_n 0, 1) := by decide +kernel
theorem dX12_init_1 : decode cX12_init 1 = .ok (.invokespecial 1, 3) := by decide +kernel
theorem dX12_init_4 : decode cX12_init 4 = .ok (.aload_n 0, 1) := by decide +kernel
theorem dX12_init_5 : decode cX12_init 5 = .ok (.sipush 1600, 3) := by decide +kernel
theorem dX12_init_8 : decode cX12_init 8 = .ok (.newarray .int, 2) := by decide +kernel
theorem dX12_init_10 : decode cX12_init 10 = .ok (.putfield 7, 3) := by decide +kernel
theorem dX12_init_13 : decode cX12_init 13 = .ok (.aload_n 0, 1) := by decide +kernel
theorem dX12_init_14 : decode cX12_init 14 = .ok (.iconst (-1), 1) := by decide +kernel
theorem dX12_init_15 : decode cX12_init 15 = .ok (.putfield 13, 3) := by decide +kernel
theorem dX12_init_18 : decode cX12_init 18 = .ok (.aload_n 0, 1) := by decide +kernel
theorem dX12_init_19 : decode cX12_init 19 = .ok (.bipush 11, 2) := by decide +kernel
theorem dX12_init_21 : decode cX12_init 21 = .ok (.newarray .long, 2) := by decide +kernel
theorem dX12_init_23 : decode cX12_init 23 = .ok (.putfield 17, 3) := by decide +kernel
theorem dX12_init_26 : decode cX12_init 26 = .ok (.aload_n 0, 1) := by decide +kernel
theorem dX12_init_27 : decode cX12_init 27 = .ok (.sipush 320, 3) := by decide +kernel
theorem dX12_init_30 : decode cX12_init 30 = .ok (.newarray .int, 2) := by decide +kernel
theorem dX12_init_32 : decode cX12_init 32 = .ok (.putfield 21, 3) := by decide +kernel
theorem dX12_init_35 : decode cX12_init 35 = .ok (.aload_n 0, 1) := by decide +kernel
theorem dX12_init_36 : decode cX12_init 36 = .ok (.sipush 320, 3) := by decide +kernel
theorem dX12_init_39 : decode cX12_init 39 = .ok (.newarray .int, 2) := by decide +kernel
theorem dX12_init_41 : decode cX12_init 41 = .ok (.putfield 24, 3) := by decide +kernel
theorem dX12_init_44 : decode cX12_init 44 = .ok (.aload_n 0, 1) := by decide +kernel
theorem dX12_init_45 : decode cX12_init 45 = .ok (.sipush 320, 3) := by decide +kernel
theorem dX12_init_48 : decode cX12_init 48 = .ok (.newarray .int, 2) := by decide +kernel
theorem dX12_init_50 : decode cX12_init 50 = .ok (.putfield 27, 3) := by decide +kernel
theorem dX12_init_53 : decode cX12_init 53 = .ok (.aload_n 0, 1) := by decide +kernel
theorem dX12_init_54 : decode cX12_init 54 = .ok (.sipush 320, 3) := by decide +kernel
theorem dX12_init_57 : decode cX12_init 57 = .ok (.newarray .int, 2) := by decide +kernel
