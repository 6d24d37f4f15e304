theorem dX12_layStays_83 : decode cX12_layStays 83 = .ok (.isub, 1) := by decide +kernel
theorem dX12_layStays_84 : decode cX12_layStays 84 = .ok (.iastore, 1) := by decide +kernel
theorem dX12_layStays_85 : decode cX12_layStays 85 = .ok (.iinc 3 1, 3) := by decide +kernel
theorem dX12_layStays_88 : decode cX12_layStays 88 = .ok (.goto (-86), 3) := by decide +kernel
theorem dX12_layStays_91 : decode cX12_layStays 91 = .ok (.return_, 1) := by decide +kernel
theorem dX12_staying_0 : decode cX12_staying 0 = .ok (.aload_n 0, 1) := by decide +kernel
theorem dX12_staying_1 : decode cX12_staying 1 = .ok (.iconst 0, 1) := by decide +kernel
theorem dX12_staying_2 : decode cX12_staying 2 = .ok (.putfield 381, 3) := by decide +kernel
theorem dX12_staying_5 : decode cX12_staying 5 = .ok (.aload_n 0, 1) := by decide +kernel
theorem dX12_staying_6 : decode cX12_staying 6 = .ok (.iload_n 1, 1) := by decide +kernel
theorem dX12_staying_7 : decode cX12_staying 7 = .ok (.invokevirtual 408, 3) := by decide +kernel
theorem dX12_staying_10 : decode cX12_staying 10 = .ok (.ifCond .eq 32, 3) := by decide +kernel
theorem dX12_staying_13 : decode cX12_staying 13 = .ok (.aload_n 0, 1) := by decide +kernel
theorem dX12_staying_14 : decode cX12_staying 14 = .ok (.iload_n 2, 1) := by decide +kernel
theorem dX12_staying_15 : decode cX12_staying 15 = .ok (.invokevirtual 408, 3) := by decide +kernel
theorem dX12_staying_18 : decode cX12_staying 18 = .ok (.ifCond .eq 24, 3) := by decide +kernel
theorem dX12_staying_21 : decode cX12_staying 21 = .ok (.iload_n 1, 1) := by decide +kernel
theorem dX12_staying_22 : decode cX12_staying 22 = .ok (.iload_n 2, 1) := by decide +kernel
theorem dX12_staying_23 : decode cX12_staying 23 = .ok (.if_icmp .eq 19, 3) := by decide +kernel
theorem dX12_staying_26 : decode cX12_staying 26 = .ok (.aload_n 0, 1) := by decide +kernel
theorem dX12_staying_27 : decode cX12_staying 27 = .ok (.iload_n 1, 1) := by decide +kernel
theorem dX12_staying_28 : decode cX12_staying 28 = .ok (.invokevirtual 430, 3) := by decide +kernel
theorem dX12_staying_31 : decode cX12_staying 31 = .ok (.ifCond .eq 11, 3) := by decide +kernel
theorem dX12_staying_34 : decode cX12_staying 34 = .ok (.aload_n 0, 1) := by decide +kernel
theorem dX12_staying_35 : decode cX12_staying 35 = .ok (.iload_n 2, 1) := by decide +kernel
theorem dX12_staying_36 : decode cX12_staying 36 = .ok (.invokevirtual 430, 3) := by decide +kernel
theorem dX12_staying_39 : decode cX12_staying 39 = .ok (.ifCond .ne 5, 3) := by decide +kernel
theorem dX12_staying_42 : decode cX12_staying 42 = .ok (.iconst (-1), 1) := by decide +kernel
theorem dX12_staying_43 : decode cX12_staying 43 = .ok (.ireturn, 1) := by decide +kernel
theorem dX12_staying_44 : decode cX12_staying 44 = .ok (.aload_n 0, 1) := by decide +kernel
theorem dX12_staying_45 : decode cX12_staying 45 = .ok (.iload_n 1, 1) := by decide +kernel
theorem dX12_staying_46 : decode cX12_staying 46 = .ok (.iload_n 2, 1) := by decide +kernel
theorem dX12_staying_47 : decode cX12_staying 47 = .ok (.invokevirtual 467, 3) := by decide +kernel
theorem dX12_staying_50 : decode cX12_staying 50 = .ok (.iconst 0, 1) := by decide +kernel
theorem dX12_staying_51 : decode cX12_staying 51 = .ok (.istore_n 3, 1) := by decide +kernel
theorem dX12_staying_52 : decode cX12_staying 52 = .ok (.iconst 0, 1) := by decide +kernel
theorem dX12_staying_53 : decode cX12_staying 53 = .ok (.istore 4, 2) := by decide +kernel
theorem dX12_staying_55 : decode cX12_staying 55 = .ok (.iload 4, 2) := by decide +kernel
theorem dX12_staying_57 : decode cX12_staying 57 = .ok (.iconst 4, 1) := by decide +kernel
theorem dX12_staying_58 : decode cX12_staying 58 = .ok (.if_icmp .ge 93, 3) := by decide +kernel
theorem dX12_staying_61 : decode cX12_staying 61 = .ok (.aload_n 0, 1) := by decide +kernel
theorem dX12_staying_62 : decode cX12_staying 62 = .ok (.getfield 81, 3) := by decide +kernel
theorem dX12_staying_65 : decode cX12_staying 65 = .ok (.iload 4, 2) := by decide +kernel
theorem dX12_staying_67 : decode cX12_staying 67 = .ok (.iconst 2, 1) := by decide +kernel
theorem dX12_staying_68 : decode cX12_staying 68 = .ok (.iadd, 1) := by decide +kernel
theorem dX12_staying_69 : decode cX12_staying 69 = .ok (.iconst 4, 1) := by decide +kernel
theorem dX12_staying_70 : decode cX12_staying 70 = .ok (.irem, 1) := by decide +kernel
theorem dX12_staying_71 : decode cX12_staying 71 = .ok (.iaload, 1) := by decide +kernel
theorem dX12_staying_72 : decode cX12_staying 72 = .ok (.aload_n 0, 1) := by decide +kernel
theorem dX12_staying_73 : decode cX12_staying 73 = .ok (.getfield 81, 3) := by decide +kernel
theorem dX12_staying_76 : decode cX12_staying 76 = .ok (.iload 4, 2) := by decide +kernel
theorem dX12_staying_78 : decode cX12_staying 78 = .ok (.iaload, 1) := by decide +kernel
theorem dX12_staying_79 : decode cX12_staying 79 = .ok (.if_icmp .lt 66, 3) := by decide +kernel
theorem dX12_staying_82 : decode cX12_staying 82 = .ok (.aload_n 0, 1) := by decide +kernel
theorem dX12_staying_83 : decode cX12_staying 83 = .ok (.getfield 84, 3) := by decide +kernel
theorem dX12_staying_86 : decode cX12_staying 86 = .ok (.iload 4, 2) := by decide +kernel
theorem dX12_staying_88 : decode cX12_staying 88 = .ok (.iconst 2, 1) := by decide +kernel
theorem dX12_staying_89 : decode cX12_staying 89 = .ok (.idiv, 1) := by decide +kernel
theorem dX12_staying_90 : decode cX12_staying 90 = .ok (.iconst 2, 1) := by decide +kernel
theorem dX12_staying_91 : decode cX12_staying 91 = .ok (.imul, 1) := by decide +kernel
theorem dX12_staying_92 : decode cX12_staying 92 = .ok (.iconst 1, 1) := by decide +kernel
theorem dX12_staying_93 : decode cX12_staying 93 = .ok (.iadd, 1) := by decide +kernel
theorem dX12_staying_94 : decode cX12_staying 94 = .ok (.iload 4, 2) := by decide +kernel
theorem dX12_staying_96 : decode cX12_staying 96 = .ok (.iconst 2, 1) := by decide +kernel
theorem dX12_staying_97 : decode cX12_staying 97 = .ok (.irem, 1) := by decide +kernel
theorem dX12_staying_98 : decode cX12_staying 98 = .ok (.isub, 1) := by decide +kernel
theorem dX12_staying_99 : decode cX12_staying 99 = .ok (.iaload, 1) := by decide +kernel
theorem dX12_staying_100 : decode cX12_staying 100 = .ok (.aload_n 0, 1) := by decide +kernel
theorem dX12_staying_101 : decode cX12_staying 101 = .ok (.getfield 84, 3) := by decide +kernel
theorem dX12_staying_104 : decode cX12_staying 104 = .ok (.iload 4, 2) := by decide +kernel
theorem dX12_staying_106 : decode cX12_staying 106 = .ok (.iaload, 1) := by decide +kernel
theorem dX12_staying_107 : decode cX12_staying 107 = .ok (.if_icmp .ge 6, 3) := by decide +kernel
theorem dX12_staying_110 : decode cX12_staying 110 = .ok (.goto 35, 3) := by decide +kernel
theorem dX12_staying_113 : decode cX12_staying 113 = .ok (.iload_n 3, 1) := by decide +kernel
theorem dX12_staying_114 : decode cX12_staying 114 = .ok (.ifCond .ne 28, 3) := by decide +kernel
theorem dX12_staying_117 : decode cX12_staying 117 = .ok (.aload_n 0, 1) := by decide +kernel
theorem dX12_staying_118 : decode cX12_staying 118 = .ok (.getfield 72, 3) := by decide +kernel
theorem dX12_staying_121 : decode cX12_staying 121 = .ok (.iconst 0, 1) := by decide +kernel
theorem dX12_staying_122 : decode cX12_staying 122 = .ok (.iload 4, 2) := by decide +kernel
theorem dX12_staying_124 : decode cX12_staying 124 = .ok (.iconst 2, 1) := by decide +kernel
theorem dX12_staying_125 : decode cX12_staying 125 = .ok (.idiv, 1) := by decide +kernel
theorem dX12_staying_126 : decode cX12_staying 126 = .ok (.iastore, 1) := by decide +kernel
theorem dX12_staying_127 : decode cX12_staying 127 = .ok (.aload_n 0, 1) := by decide +kernel
theorem dX12_staying_128 : decode cX12_staying 128 = .ok (.getfield 72, 3) := by decide +kernel
theorem dX12_staying_131 : decode cX12_staying 131 = .ok (.iconst 1, 1) := by decide +kernel
theorem dX12_staying_132 : decode cX12_staying 132 = .ok (.iload 4, 2) := by decide +kernel
theorem dX12_staying_134 : decode cX12_staying 134 = .ok (.iconst 2, 1) := by decide +kernel
theorem dX12_staying_135 : decode cX12_staying 135 = .ok (.irem, 1) := by decide +kernel
theorem dX12_staying_136 : decode cX12_staying 136 = .ok (.iastore, 1) := by decide +kernel
theorem dX12_staying_137 : decode cX12_staying 137 = .ok (.aload_n 0, 1) := by decide +kernel
theorem dX12_staying_138 : decode cX12_staying 138 = .ok (.iconst 2, 1) := by decide +kernel
theorem dX12_staying_139 : decode cX12_staying 139 = .ok (.putfield 381, 3) := by decide +kernel
theorem dX12_staying_142 : decode cX12_staying 142 = .ok (.iinc 3 1, 3) := by decide +kernel
theorem dX12_staying_145 : decode cX12_staying 145 = .ok (.iinc 4 1, 3) := by decide +kernel
theorem dX12_staying_148 : decode cX12_staying 148 = .ok (.goto (-93), 3) := by decide +kernel
theorem dX12_staying_151 : decode cX12_staying 151 = .ok (.iload_n 3, 1) := by decide +kernel
theorem dX12_staying_152 : decode cX12_staying 152 = .ok (.ireturn, 1) := by decide +kernel
theorem dX12_list_0 : decode cX12_list 0 = .ok (.iconst 0, 1) := by decide +kernel
theorem dX12_list_1 : decode cX12_list 1 = .ok (.istore_n 1, 1) := by decide +kernel
theorem dX12_list_2 : decode cX12_list 2 = .ok (.iconst 0, 1) := by decide +kernel
theorem dX12_list_3 : decode cX12_list 3 = .ok (.istore_n 2, 1) := by decide +kernel
theorem dX12_list_4 : decode cX12_list 4 = .ok (.iload_n 2, 1) := by decide +kernel
theorem dX12_list_5 : decode cX12_list 5 = .ok (.aload_n 0, 1) := by decide +kernel
theorem dX12_list_6 : decode cX12_list 6 = .ok (.getfield 348, 3) := by decide +kernel
theorem dX12_list_9 : decode cX12_list 9 = .ok (.if_icmp .ge 80, 3) := by decide +kernel
theorem dX12_list_12 : decode cX12_list 12 = .ok (.iconst (-1), 1) := by decide +kernel
theorem dX12_list_13 : decode cX12_list 13 = .ok (.istore_n 3, 1) := by decide +kernel
theorem dX12_list_14 : decode cX12_list 14 = .ok (.iconst 0, 1) := by decide +kernel
theorem dX12_list_15 : decode cX12_list 15 = .ok (.istore 4, 2) := by decide +kernel
theorem dX12_list_17 : decode cX12_list 17 = .ok (.iload 4, 2) := by decide +kernel
theorem dX12_list_19 : decode cX12_list 19 = .ok (.aload_n 0, 1) := by decide +kernel
theorem dX12_list_20 : decode cX12_list 20 = .ok (.getfield 348, 3) := by decide +kernel
theorem dX12_list_23 : decode cX12_list 23 = .ok (.if_icmp .ge 47, 3) := by decide +kernel
theorem dX12_list_26 : decode cX12_list 26 = .ok (.iload_n 1, 1) := by decide +kernel
theorem dX12_list_27 : decode cX12_list 27 = .ok (.iload 4, 2) := by decide +kernel
theorem dX12_list_29 : decode cX12_list 29 = .ok (.ishr, 1) := by decide +kernel
theorem dX12_list_30 : decode cX12_list 30 = .ok (.iconst 1, 1) := by decide +kernel
theorem dX12_list_31 : decode cX12_list 31 = .ok (.iand, 1) := by decide +kernel
theorem dX12_list_32 : decode cX12_list 32 = .ok (.ifCond .ne 32, 3) := by decide +kernel
theorem dX12_list_35 : decode cX12_list 35 = .ok (.iload_n 3, 1) := by decide +kernel
theorem dX12_list_36 : decode cX12_list 36 = .ok (.ifCond .lt 25, 3) := by decide +kernel
theorem dX12_list_39 : decode cX12_list 39 = .ok (.aload_n 0, 1) := by decide +kernel
theorem dX12_list_40 : decode cX12_list 40 = .ok (.getfield 60, 3) := by decide +kernel
theorem dX12_list_43 : decode cX12_list 43 = .ok (.bipush 6, 2) := by decide +kernel
theorem dX12_list_45 : decode cX12_list 45 = .ok (.iload 4, 2) := by decide +kernel
theorem dX12_list_47 : decode cX12_list 47 = .ok (.iadd, 1) := by decide +kernel
theorem dX12_list_48 : decode cX12_list 48 = .ok (.iaload, 1) := by decide +kernel
theorem dX12_list_49 : decode cX12_list 49 = .ok (.aload_n 0, 1) := by decide +kernel
theorem dX12_list_50 : decode cX12_list 50 = .ok (.getfield 60, 3) := by decide +kernel
theorem dX12_list_53 : decode cX12_list 53 = .ok (.bipush 6, 2) := by decide +kernel
theorem dX12_list_55 : decode cX12_list 55 = .ok (.iload_n 3, 1) := by decide +kernel
theorem dX12_list_56 : decode cX12_list 56 = .ok (.iadd, 1) := by decide +kernel
theorem dX12_list_57 : decode cX12_list 57 = .ok (.iaload, 1) := by decide +kernel
theorem dX12_list_58 : decode cX12_list 58 = .ok (.if_icmp .le 6, 3) := by decide +kernel
theorem dX12_list_61 : decode cX12_list 61 = .ok (.iload 4, 2) := by decide +kernel
theorem dX12_list_63 : decode cX12_list 63 = .ok (.istore_n 3, 1) := by decide +kernel
theorem dX12_list_64 : decode cX12_list 64 = .ok (.iinc 4 1, 3) := by decide +kernel
theorem dX12_list_67 : decode cX12_list 67 = .ok (.goto (-50), 3) := by decide +kernel
theorem dX12_list_70 : decode cX12_list 70 = .ok (.iload_n 1, 1) := by decide +kernel
theorem dX12_list_71 : decode cX12_list 71 = .ok (.iconst 1, 1) := by decide +kernel
theorem dX12_list_72 : decode cX12_list 72 = .ok (.iload_n 3, 1) := by decide +kernel
theorem dX12_list_73 : decode cX12_list 73 = .ok (.ishl, 1) := by decide +kernel
theorem dX12_list_74 : decode cX12_list 74 = .ok (.ior, 1) := by decide +kernel
theorem dX12_list_75 : decode cX12_list 75 = .ok (.istore_n 1, 1) := by decide +kernel
theorem dX12_list_76 : decode cX12_list 76 = .ok (.aload_n 0, 1) := by decide +kernel
theorem dX12_list_77 : decode cX12_list 77 = .ok (.getfield 72, 3) := by decide +kernel
theorem dX12_list_80 : decode cX12_list 80 = .ok (.iload_n 2, 1) := by decide +kernel
theorem dX12_list_81 : decode cX12_list 81 = .ok (.iload_n 3, 1) := by decide +kernel
theorem dX12_list_82 : decode cX12_list 82 = .ok (.iastore, 1) := by decide +kernel
theorem dX12_list_83 : decode cX12_list 83 = .ok (.iinc 2 1, 3) := by decide +kernel
theorem dX12_list_86 : decode cX12_list 86 = .ok (.goto (-82), 3) := by decide +kernel
theorem dX12_list_89 : decode cX12_list 89 = .ok (.aload_n 0, 1) := by decide +kernel
theorem dX12_list_90 : decode cX12_list 90 = .ok (.aload_n 0, 1) := by decide +kernel
theorem dX12_list_91 : decode cX12_list 91 = .ok (.getfield 348, 3) := by decide +kernel
theorem dX12_list_94 : decode cX12_list 94 = .ok (.putfield 381, 3) := by decide +kernel
theorem dX12_list_97 : decode cX12_list 97 = .ok (.aload_n 0, 1) := by decide +kernel
theorem dX12_list_98 : decode cX12_list 98 = .ok (.getfield 348, 3) := by decide +kernel
theorem dX12_list_101 : decode cX12_list 101 = .ok (.ireturn, 1) := by decide +kernel
theorem dX12_dreadOf_0 : decode cX12_dreadOf 0 = .ok (.iconst 0, 1) := by decide +kernel
theorem dX12_dreadOf_1 : decode cX12_dreadOf 1 = .ok (.istore_n 2, 1) := by decide +kernel
theorem dX12_dreadOf_2 : decode cX12_dreadOf 2 = .ok (.iconst 0, 1) := by decide +kernel
theorem dX12_dreadOf_3 : decode cX12_dreadOf 3 = .ok (.istore_n 3, 1) := by decide +kernel
theorem dX12_dreadOf_4 : decode cX12_dreadOf 4 = .ok (.iload_n 3, 1) := by decide +kernel
theorem dX12_dreadOf_5 : decode cX12_dreadOf 5 = .ok (.aload_n 0, 1) := by decide +kernel
theorem dX12_dreadOf_6 : decode cX12_dreadOf 6 = .ok (.getfield 348, 3) := by decide +kernel
theorem dX12_dreadOf_9 : decode cX12_dreadOf 9 = .ok (.if_icmp .ge 37, 3) := by decide +kernel
theorem dX12_dreadOf_12 : decode cX12_dreadOf 12 = .ok (.iload_n 2, 1) := by decide +kernel
theorem dX12_dreadOf_13 : decode cX12_dreadOf 13 = .ok (.aload_n 0, 1) := by decide +kernel
theorem dX12_dreadOf_14 : decode cX12_dreadOf 14 = .ok (.iload_n 3, 1) := by decide +kernel
theorem dX12_dreadOf_15 : decode cX12_dreadOf 15 = .ok (.invokevirtual 388, 3) := by decide +kernel
theorem dX12_dreadOf_18 : decode cX12_dreadOf 18 = .ok (.ifCond .eq 19, 3) := by decide +kernel
theorem dX12_dreadOf_21 : decode cX12_dreadOf 21 = .ok (.aload_n 0, 1) := by decide +kernel
theorem dX12_dreadOf_22 : decode cX12_dreadOf 22 = .ok (.getfield 63, 3) := by decide +kernel
theorem dX12_dreadOf_25 : decode cX12_dreadOf 25 = .ok (.bipush 13, 2) := by decide +kernel
theorem dX12_dreadOf_27 : decode cX12_dreadOf 27 = .ok (.iconst 5, 1) := by decide +kernel
theorem dX12_dreadOf_28 : decode cX12_dreadOf 28 = .ok (.iload_n 3, 1) := by decide +kernel
theorem dX12_dreadOf_29 : decode cX12_dreadOf 29 = .ok (.imul, 1) := by decide +kernel
theorem dX12_dreadOf_30 : decode cX12_dreadOf 30 = .ok (.iadd, 1) := by decide +kernel
theorem dX12_dreadOf_31 : decode cX12_dreadOf 31 = .ok (.iload_n 1, 1) := by decide +kernel
theorem dX12_dreadOf_32 : decode cX12_dreadOf 32 = .ok (.iadd, 1) := by decide +kernel
theorem dX12_dreadOf_33 : decode cX12_dreadOf 33 = .ok (.iaload, 1) := by decide +kernel
theorem dX12_dreadOf_34 : decode cX12_dreadOf 34 = .ok (.goto 4, 3) := by decide +kernel
theorem dX12_dreadOf_37 : decode cX12_dreadOf 37 = .ok (.iconst 0, 1) := by decide +kernel
theorem dX12_dreadOf_38 : decode cX12_dreadOf 38 = .ok (.iadd, 1) := by decide +kernel
theorem dX12_dreadOf_39 : decode cX12_dreadOf 39 = .ok (.istore_n 2, 1) := by decide +kernel
theorem dX12_dreadOf_40 : decode cX12_dreadOf 40 = .ok (.iinc 3 1, 3) := by decide +kernel
theorem dX12_dreadOf_43 : decode cX12_dreadOf 43 = .ok (.goto (-39), 3) := by decide +kernel
theorem dX12_dreadOf_46 : decode cX12_dreadOf 46 = .ok (.iload_n 2, 1) := by decide +kernel
theorem dX12_dreadOf_47 : decode cX12_dreadOf 47 = .ok (.ireturn, 1) := by decide +kernel
theorem dX12_dreaded_0 : decode cX12_dreaded 0 = .ok (.aload_n 0, 1) := by decide +kernel
theorem dX12_dreaded_1 : decode cX12_dreaded 1 = .ok (.invokevirtual 411, 3) := by decide +kernel
theorem dX12_dreaded_4 : decode cX12_dreaded 4 = .ok (.iconst (-1), 1) := by decide +kernel
theorem dX12_dreaded_5 : decode cX12_dreaded 5 = .ok (.istore_n 1, 1) := by decide +kernel
theorem dX12_dreaded_6 : decode cX12_dreaded 6 = .ok (.iconst 0, 1) := by decide +kernel
theorem dX12_dreaded_7 : decode cX12_dreaded 7 = .ok (.istore_n 2, 1) := by decide +kernel
theorem dX12_dreaded_8 : decode cX12_dreaded 8 = .ok (.iload_n 2, 1) := by decide +kernel
theorem dX12_dreaded_9 : decode cX12_dreaded 9 = .ok (.aload_n 0, 1) := by decide +kernel
theorem dX12_dreaded_10 : decode cX12_dreaded 10 = .ok (.getfield 351, 3) := by decide +kernel
theorem dX12_dreaded_13 : decode cX12_dreaded 13 = .ok (.if_icmp .ge 28, 3) := by decide +kernel
theorem dX12_dreaded_16 : decode cX12_dreaded 16 = .ok (.iload_n 1, 1) := by decide +kernel
theorem dX12_dreaded_17 : decode cX12_dreaded 17 = .ok (.ifCond .lt 16, 3) := by decide +kernel
theorem dX12_dreaded_20 : decode cX12_dreaded 20 = .ok (.aload_n 0, 1) := by decide +kernel
theorem dX12_dreaded_21 : decode cX12_dreaded 21 = .ok (.iload_n 2, 1) := by decide +kernel
theorem dX12_dreaded_22 : decode cX12_dreaded 22 = .ok (.invokevirtual 470, 3) := by decide +kernel
theorem dX12_dreaded_25 : decode cX12_dreaded 25 = .ok (.aload_n 0, 1) := by decide +kernel
theorem dX12_dreaded_26 : decode cX12_dreaded 26 = .ok (.iload_n 1, 1) := by decide +kernel
theorem dX12_dreaded_27 : decode cX12_dreaded 27 = .ok (.invokevirtual 470, 3) := by decide +kernel
theorem dX12_dreaded_30 : decode cX12_dreaded 30 = .ok (.if_icmp .le 5, 3) := by decide +kernel
theorem dX12_dreaded_33 : decode cX12_dreaded 33 = .ok (.iload_n 2, 1) := by decide +kernel
theorem dX12_dreaded_34 : decode cX12_dreaded 34 = .ok (.istore_n 1, 1) := by decide +kernel
theorem dX12_dreaded_35 : decode cX12_dreaded 35 = .ok (.iinc 2 1, 3) := by decide +kernel
theorem dX12_dreaded_38 : decode cX12_dreaded 38 = .ok (.goto (-30), 3) := by decide +kernel
theorem dX12_dreaded_41 : decode cX12_dreaded 41 = .ok (.iload_n 1, 1) := by decide +kernel
theorem dX12_dreaded_42 : decode cX12_dreaded 42 = .ok (.ireturn, 1) := by decide +kernel
theorem dX12_untouched_0 : decode cX12_untouched 0 = .ok (.aload_n 0, 1) := by decide +kernel
theorem dX12_untouched_1 : decode cX12_untouched 1 = .ok (.invokevirtual 411, 3) := by decide +kernel
theorem dX12_untouched_4 : decode cX12_untouched 4 = .ok (.iconst 0, 1) := by decide +kernel
theorem dX12_untouched_5 : decode cX12_untouched 5 = .ok (.istore_n 1, 1) := by decide +kernel
theorem dX12_untouched_6 : decode cX12_untouched 6 = .ok (.iconst 0, 1) := by decide +kernel
theorem dX12_untouched_7 : decode cX12_untouched 7 = .ok (.istore_n 2, 1) := by decide +kernel
theorem dX12_untouched_8 : decode cX12_untouched 8 = .ok (.iload_n 2, 1) := by decide +kernel
theorem dX12_untouched_9 : decode cX12_untouched 9 = .ok (.aload_n 0, 1) := by decide +kernel
theorem dX12_untouched_10 : decode cX12_untouched 10 = .ok (.getfield 348, 3) := by decide +kernel
theorem dX12_untouched_13 : decode cX12_untouched 13 = .ok (.if_icmp .ge 30, 3) := by decide +kernel
theorem dX12_untouched_16 : decode cX12_untouched 16 = .ok (.iload_n 1, 1) := by decide +kernel
theorem dX12_untouched_17 : decode cX12_untouched 17 = .ok (.aload_n 0, 1) := by decide +kernel
theorem dX12_untouched_18 : decode cX12_untouched 18 = .ok (.iload_n 2, 1) := by decide +kernel
theorem dX12_untouched_19 : decode cX12_untouched 19 = .ok (.invokevirtual 414, 3) := by decide +kernel
theorem dX12_untouched_22 : decode cX12_untouched 22 = .ok (.ifCond .ne 7, 3) := by decide +kernel
theorem dX12_untouched_25 : decode cX12_untouched 25 = .ok (.iconst 1, 1) := by decide +kernel
theorem dX12_untouched_26 : decode cX12_untouched 26 = .ok (.goto 4, 3) := by decide +kernel
theorem dX12_untouched_29 : decode cX12_untouched 29 = .ok (.iconst 0, 1) := by decide +kernel
theorem dX12_untouched_30 : decode cX12_untouched 30 = .ok (.invokestatic 279, 3) := by decide +kernel
theorem dX12_untouched_33 : decode cX12_untouched 33 = .ok (.iload_n 2, 1) := by decide +kernel
theorem dX12_untouched_34 : decode cX12_untouched 34 = .ok (.ishl, 1) := by decide +kernel
theorem dX12_untouched_35 : decode cX12_untouched 35 = .ok (.ior, 1) := by decide +kernel
theorem dX12_untouched_36 : decode cX12_untouched 36 = .ok (.istore_n 1, 1) := by decide +kernel
theorem dX12_untouched_37 : decode cX12_untouched 37 = .ok (.iinc 2 1, 3) := by decide +kernel
theorem dX12_untouched_40 : decode cX12_untouched 40 = .ok (.goto (-32), 3) := by decide +kernel
theorem dX12_untouched_43 : decode cX12_untouched 43 = .ok (.iload_n 1, 1) := by decide +kernel
theorem dX12_untouched_44 : decode cX12_untouched 44 = .ok (.ireturn, 1) := by decide +kernel
theorem dX12_richest_0 : decode cX12_richest 0 = .ok (.iconst (-1), 1) := by decide +kernel
theorem dX12_richest_1 : decode cX12_richest 1 = .ok (.istore_n 1, 1) := by decide +kernel
theorem dX12_richest_2 : decode cX12_richest 2 = .ok (.iconst 0, 1) := by decide +kernel
theorem dX12_richest_3 : decode cX12_richest 3 = .ok (.istore_n 2, 1) := by decide +kernel
theorem dX12_richest_4 : decode cX12_richest 4 = .ok (.iload_n 2, 1) := by decide +kernel
theorem dX12_richest_5 : decode cX12_richest 5 = .ok (.aload_n 0, 1) := by decide +kernel
theorem dX12_richest_6 : decode cX12_richest 6 = .ok (.getfield 348, 3) := by decide +kernel
theorem dX12_richest_9 : decode cX12_richest 9 = .ok (.if_icmp .ge 30, 3) := by decide +kernel
theorem dX12_richest_12 : decode cX12_richest 12 = .ok (.iload_n 1, 1) := by decide +kernel
theorem dX12_richest_13 : decode cX12_richest 13 = .ok (.ifCond .lt 18, 3) := by decide +kernel
theorem dX12_richest_16 : decode cX12_richest 16 = .ok (.aload_n 0, 1) := by decide +kernel
theorem dX12_richest_17 : decode cX12_richest 17 = .ok (.getfield 60, 3) := by decide +kernel
theorem dX12_richest_20 : decode cX12_richest 20 = .ok (.iload_n 2, 1) := by decide +kernel
theorem dX12_richest_21 : decode cX12_richest 21 = .ok (.iaload, 1) := by decide +kernel
theorem dX12_richest_22 : decode cX12_richest 22 = .ok (.aload_n 0, 1) := by decide +kernel
theorem dX12_richest_23 : decode cX12_richest 23 = .ok (.getfield 60, 3) := by decide +kernel
theorem dX12_richest_26 : decode cX12_richest 26 = .ok (.iload_n 1, 1) := by decide +kernel
theorem dX12_richest_27 : decode cX12_richest 27 = .ok (.iaload, 1) := by decide +kernel
theorem dX12_richest_28 : decode cX12_richest 28 = .ok (.if_icmp .le 5, 3) := by decide +kernel
theorem dX12_richest_31 : decode cX12_richest 31 = .ok (.iload_n 2, 1) := by decide +kernel
theorem dX12_richest_32 : decode cX12_richest 32 = .ok (.istore_n 1, 1) := by decide +kernel
theorem dX12_richest_33 : decode cX12_richest 33 = .ok (.iinc 2 1, 3) := by decide +kernel
theorem dX12_richest_36 : decode cX12_richest 36 = .ok (.goto (-32), 3) := by decide +kernel
theorem dX12_richest_39 : decode cX12_richest 39 = .ok (.iload_n 1, 1) := by decide +kernel
theorem dX12_richest_40 : decode cX12_richest 40 = .ok (.ireturn, 1) := by decide +kernel
theorem dX12_busiest_0 : decode cX12_busiest 0 = .ok (.aload_n 0, 1) := by decide +kernel
theorem dX12_busiest_1 : decode cX12_busiest 1 = .ok (.iconst 0, 1) := by decide +kernel
theorem dX12_busiest_2 : decode cX12_busiest 2 = .ok (.invokevirtual 439, 3) := by decide +kernel
theorem dX12_busiest_5 : decode cX12_busiest 5 = .ok (.pop, 1) := by decide +kernel
theorem dX12_busiest_6 : decode cX12_busiest 6 = .ok (.iconst (-1), 1) := by decide +kernel
theorem dX12_busiest_7 : decode cX12_busiest 7 = .ok (.istore_n 1, 1) := by decide +kernel
theorem dX12_busiest_8 : decode cX12_busiest 8 = .ok (.iconst 0, 1) := by decide +kernel
theorem dX12_busiest_9 : decode cX12_busiest 9 = .ok (.istore_n 2, 1) := by decide +kernel
theorem dX12_busiest_10 : decode cX12_busiest 10 = .ok (.iconst 0, 1) := by decide +kernel
theorem dX12_busiest_11 : decode cX12_busiest 11 = .ok (.istore_n 3, 1) := by decide +kernel
theorem dX12_busiest_12 : decode cX12_busiest 12 = .ok (.iload_n 3, 1) := by decide +kernel
theorem dX12_busiest_13 : decode cX12_busiest 13 = .ok (.aload_n 0, 1) := by decide +kernel
theorem dX12_busiest_14 : decode cX12_busiest 14 = .ok (.getfield 348, 3) := by decide +kernel
theorem dX12_busiest_17 : decode cX12_busiest 17 = .ok (.if_icmp .ge 35, 3) := by decide +kernel
theorem dX12_busiest_20 : decode cX12_busiest 20 = .ok (.aload_n 0, 1) := by decide +kernel
theorem dX12_busiest_21 : decode cX12_busiest 21 = .ok (.iload_n 3, 1) := by decide +kernel
theorem dX12_busiest_22 : decode cX12_busiest 22 = .ok (.invokevirtual 420, 3) := by decide +kernel
theorem dX12_busiest_25 : decode cX12_busiest 25 = .ok (.invokestatic 283, 3) := by decide +kernel
theorem dX12_busiest_28 : decode cX12_busiest 28 = .ok (.iload_n 2, 1) := by decide +kernel
theorem dX12_busiest_29 : decode cX12_busiest 29 = .ok (.if_icmp .gt 6, 3) := by decide +kernel
theorem dX12_busiest_32 : decode cX12_busiest 32 = .ok (.goto 14, 3) := by decide +kernel
theorem dX12_busiest_35 : decode cX12_busiest 35 = .ok (.iload_n 3, 1) := by decide +kernel
theorem dX12_busiest_36 : decode cX12_busiest 36 = .ok (.istore_n 1, 1) := by decide +kernel
theorem dX12_busiest_37 : decode cX12_busiest 37 = .ok (.aload_n 0, 1) := by decide +kernel
theorem dX12_busiest_38 : decode cX12_busiest 38 = .ok (.iload_n 3, 1) := by decide +kernel
theorem dX12_busiest_39 : decode cX12_busiest 39 = .ok (.invokevirtual 420, 3) := by decide +kernel
theorem dX12_busiest_42 : decode cX12_busiest 42 = .ok (.invokestatic 283, 3) := by decide +kernel
theorem dX12_busiest_45 : decode cX12_busiest 45 = .ok (.istore_n 2, 1) := by decide +kernel
theorem dX12_busiest_46 : decode cX12_busiest 46 = .ok (.iinc 3 1, 3) := by decide +kernel
theorem dX12_busiest_49 : decode cX12_busiest 49 = .ok (.goto (-37), 3) := by decide +kernel
theorem dX12_busiest_52 : decode cX12_busiest 52 = .ok (.iload_n 1, 1) := by decide +kernel
theorem dX12_busiest_53 : decode cX12_busiest 53 = .ok (.ireturn, 1) := by decide +kernel
theorem dX12_law_0 : decode cX12_law 0 = .ok (.iload_n 1, 1) := by decide +kernel
theorem dX12_law_1 : decode cX12_law 1 = .ok (.iconst 0, 1) := by decide +kernel
theorem dX12_law_2 : decode cX12_law 2 = .ok (.bipush 20, 2) := by decide +kernel
theorem dX12_law_4 : decode cX12_law 4 = .ok (.invokestatic 384, 3) := by decide +kernel
theorem dX12_law_7 : decode cX12_law 7 = .ok (.ifCond .ne 5, 3) := by decide +kernel
theorem dX12_law_10 : decode cX12_law 10 = .ok (.iconst (-1), 1) := by decide +kernel
theorem dX12_law_11 : decode cX12_law 11 = .ok (.ireturn, 1) := by decide +kernel
theorem dX12_law_12 : decode cX12_law 12 = .ok (.aload_n 0, 1) := by decide +kernel
theorem dX12_law_13 : decode cX12_law 13 = .ok (.invokevirtual 411, 3) := by decide +kernel
theorem dX12_law_16 : decode cX12_law 16 = .ok (.iconst 0, 1) := by decide +kernel
theorem dX12_law_17 : decode cX12_law 17 = .ok (.istore_n 2, 1) := by decide +kernel
theorem dX12_law_18 : decode cX12_law 18 = .ok (.iload_n 2, 1) := by decide +kernel
theorem dX12_law_19 : decode cX12_law 19 = .ok (.bipush 30, 2) := by decide +kernel
theorem dX12_law_21 : decode cX12_law 21 = .ok (.if_icmp .ge 35, 3) := by decide +kernel
theorem dX12_law_24 : decode cX12_law 24 = .ok (.aload_n 0, 1) := by decide +kernel
theorem dX12_law_25 : decode cX12_law 25 = .ok (.getfield 63, 3) := by decide +kernel
theorem dX12_law_28 : decode cX12_law 28 = .ok (.bipush 13, 2) := by decide +kernel
theorem dX12_law_30 : decode cX12_law 30 = .ok (.iload_n 2, 1) := by decide +kernel
theorem dX12_law_31 : decode cX12_law 31 = .ok (.iadd, 1) := by decide +kernel
theorem dX12_law_32 : decode cX12_law 32 = .ok (.aload_n 0, 1) := by decide +kernel
theorem dX12_law_33 : decode cX12_law 33 = .ok (.getfield 63, 3) := by decide +kernel
theorem dX12_law_36 : decode cX12_law 36 = .ok (.bipush 13, 2) := by decide +kernel
theorem dX12_law_38 : decode cX12_law 38 = .ok (.iload_n 2, 1) := by decide +kernel
theorem dX12_law_39 : decode cX12_law 39 = .ok (.iadd, 1) := by decide +kernel
theorem dX12_law_40 : decode cX12_law 40 = .ok (.iaload, 1) := by decide +kernel
theorem dX12_law_41 : decode cX12_law 41 = .ok (.ifCond .le 7, 3) := by decide +kernel
theorem dX12_law_44 : decode cX12_law 44 = .ok (.iload_n 1, 1) := by decide +kernel
theorem dX12_law_45 : decode cX12_law 45 = .ok (.goto 4, 3) := by decide +kernel
theorem dX12_law_48 : decode cX12_law 48 = .ok (.iconst 0, 1) := by decide +kernel
theorem dX12_law_49 : decode cX12_law 49 = .ok (.iastore, 1) := by decide +kernel
theorem dX12_law_50 : decode cX12_law 50 = .ok (.iinc 2 1, 3) := by decide +kernel
theorem dX12_law_53 : decode cX12_law 53 = .ok (.goto (-35), 3) := by decide +kernel
theorem dX12_law_56 : decode cX12_law 56 = .ok (.aload_n 0, 1) := by decide +kernel
theorem dX12_law_57 : decode cX12_law 57 = .ok (.iconst 0, 1) := by decide +kernel
theorem dX12_law_58 : decode cX12_law 58 = .ok (.invokevirtual 417, 3) := by decide +kernel
theorem dX12_law_61 : decode cX12_law 61 = .ok (.pop, 1) := by decide +kernel
theorem dX12_law_62 : decode cX12_law 62 = .ok (.aload_n 0, 1) := by decide +kernel
theorem dX12_law_63 : decode cX12_law 63 = .ok (.getfield 351, 3) := by decide +kernel
theorem dX12_law_66 : decode cX12_law 66 = .ok (.aload_n 0, 1) := by decide +kernel
theorem dX12_law_67 : decode cX12_law 67 = .ok (.invokevirtual 442, 3) := by decide +kernel
theorem dX12_law_70 : decode cX12_law 70 = .ok (.invokestatic 283, 3) := by decide +kernel
theorem dX12_law_73 : decode cX12_law 73 = .ok (.isub, 1) := by decide +kernel
theorem dX12_law_74 : decode cX12_law 74 = .ok (.ireturn, 1) := by decide +kernel
theorem dX12_divisor_0 : decode cX12_divisor 0 = .ok (.iload_n 0, 1) := by decide +kernel
theorem dX12_divisor_1 : decode cX12_divisor 1 = .ok (.istore_n 2, 1) := by decide +kernel
theorem dX12_divisor_2 : decode cX12_divisor 2 = .ok (.iload_n 1, 1) := by decide +kernel
theorem dX12_divisor_3 : decode cX12_divisor 3 = .ok (.istore_n 3, 1) := by decide +kernel
theorem dX12_divisor_4 : decode cX12_divisor 4 = .ok (.iload_n 3, 1) := by decide +kernel
theorem dX12_divisor_5 : decode cX12_divisor 5 = .ok (.ifCond .le 16, 3) := by decide +kernel
theorem dX12_divisor_8 : decode cX12_divisor 8 = .ok (.iload_n 2, 1) := by decide +kernel
theorem dX12_divisor_9 : decode cX12_divisor 9 = .ok (.iload_n 3, 1) := by decide +kernel
theorem dX12_divisor_10 : decode cX12_divisor 10 = .ok (.irem, 1) := by decide +kernel
theorem dX12_divisor_11 : decode cX12_divisor 11 = .ok (.istore 4, 2) := by decide +kernel
theorem dX12_divisor_13 : decode cX12_divisor 13 = .ok (.iload_n 3, 1) := by decide +kernel
theorem dX12_divisor_14 : decode cX12_divisor 14 = .ok (.istore_n 2, 1) := by decide +kernel
theorem dX12_divisor_15 : decode cX12_divisor 15 = .ok (.iload 4, 2) := by decide +kernel
theorem dX12_divisor_17 : decode cX12_divisor 17 = .ok (.istore_n 3, 1) := by decide +kernel
theorem dX12_divisor_18 : decode cX12_divisor 18 = .ok (.goto (-14), 3) := by decide +kernel
theorem dX12_divisor_21 : decode cX12_divisor 21 = .ok (.iload_n 2, 1) := by decide +kernel
theorem dX12_divisor_22 : decode cX12_divisor 22 = .ok (.ireturn, 1) := by decide +kernel
theorem dX12_odds_0 : decode cX12_odds 0 = .ok (.iload_n 1, 1) := by decide +kernel
theorem dX12_odds_1 : decode cX12_odds 1 = .ok (.iconst 0, 1) := by decide +kernel
theorem dX12_odds_2 : decode cX12_odds 2 = .ok (.iconst 4, 1) := by decide +kernel
theorem dX12_odds_3 : decode cX12_odds 3 = .ok (.invokestatic 384, 3) := by decide +kernel
theorem dX12_odds_6 : decode cX12_odds 6 = .ok (.ifCond .eq 12, 3) := by decide +kernel
theorem dX12_odds_9 : decode cX12_odds 9 = .ok (.iload_n 2, 1) := by decide +kernel
theorem dX12_odds_10 : decode cX12_odds 10 = .ok (.iconst 0, 1) := by decide +kernel
theorem dX12_odds_11 : decode cX12_odds 11 = .ok (.iconst 1, 1) := by decide +kernel
theorem dX12_odds_12 : decode cX12_odds 12 = .ok (.invokestatic 384, 3) := by decide +kernel
theorem dX12_odds_15 : decode cX12_odds 15 = .ok (.ifCond .ne 5, 3) := by decide +kernel
theorem dX12_odds_18 : decode cX12_odds 18 = .ok (.iconst (-1), 1) := by decide +kernel
theorem dX12_odds_19 : decode cX12_odds 19 = .ok (.ireturn, 1) := by decide +kernel
theorem dX12_odds_20 : decode cX12_odds 20 = .ok (.bipush 100, 2) := by decide +kernel
theorem dX12_odds_22 : decode cX12_odds 22 = .ok (.aload_n 0, 1) := by decide +kernel
theorem dX12_odds_23 : decode cX12_odds 23 = .ok (.getfield 360, 3) := by decide +kernel
theorem dX12_odds_26 : decode cX12_odds 26 = .ok (.isub, 1) := by decide +kernel
theorem dX12_odds_27 : decode cX12_odds 27 = .ok (.iload_n 1, 1) := by decide +kernel
theorem dX12_odds_28 : decode cX12_odds 28 = .ok (.invokestatic 452, 3) := by decide +kernel
theorem dX12_odds_31 : decode cX12_odds 31 = .ok (.istore_n 3, 1) := by decide +kernel
theorem dX12_odds_32 : decode cX12_odds 32 = .ok (.bipush 100, 2) := by decide +kernel
theorem dX12_odds_34 : decode cX12_odds 34 = .ok (.iload_n 1, 1) := by decide +kernel
theorem dX12_odds_35 : decode cX12_odds 35 = .ok (.invokestatic 452, 3) := by decide +kernel
theorem dX12_odds_38 : decode cX12_odds 38 = .ok (.istore 4, 2) := by decide +kernel
theorem dX12_odds_40 : decode cX12_odds 40 = .ok (.iload 4, 2) := by decide +kernel
theorem dX12_odds_42 : decode cX12_odds 42 = .ok (.iload_n 3, 1) := by decide +kernel
theorem dX12_odds_43 : decode cX12_odds 43 = .ok (.invokestatic 473, 3) := by decide +kernel
theorem dX12_odds_46 : decode cX12_odds 46 = .ok (.istore 5, 2) := by decide +kernel
theorem dX12_odds_48 : decode cX12_odds 48 = .ok (.iload_n 2, 1) := by decide +kernel
theorem dX12_odds_49 : decode cX12_odds 49 = .ok (.ifCond .ne 10, 3) := by decide +kernel
theorem dX12_odds_52 : decode cX12_odds 52 = .ok (.iload_n 3, 1) := by decide +kernel
theorem dX12_odds_53 : decode cX12_odds 53 = .ok (.iload 5, 2) := by decide +kernel
theorem dX12_odds_55 : decode cX12_odds 55 = .ok (.idiv, 1) := by decide +kernel
theorem dX12_odds_56 : decode cX12_odds 56 = .ok (.goto 8, 3) := by decide +kernel
theorem dX12_odds_59 : decode cX12_odds 59 = .ok (.iload 4, 2) := by decide +kernel
theorem dX12_odds_61 : decode cX12_odds 61 = .ok (.iload 5, 2) := by decide +kernel
theorem dX12_odds_63 : decode cX12_odds 63 = .ok (.idiv, 1) := by decide +kernel
theorem dX12_odds_64 : decode cX12_odds 64 = .ok (.ireturn, 1) := by decide +kernel
theorem dX12_lies_0 : decode cX12_lies 0 = .ok (.iload_n 1, 1) := by decide +kernel
theorem dX12_lies_1 : decode cX12_lies 1 = .ok (.iconst 0, 1) := by decide +kernel
theorem dX12_lies_2 : decode cX12_lies 2 = .ok (.aload_n 0, 1) := by decide +kernel
theorem dX12_lies_3 : decode cX12_lies 3 = .ok (.getfield 381, 3) := by decide +kernel
theorem dX12_lies_6 : decode cX12_lies 6 = .ok (.iconst 1, 1) := by decide +kernel
theorem dX12_lies_7 : decode cX12_lies 7 = .ok (.isub, 1) := by decide +kernel
theorem dX12_lies_8 : decode cX12_lies 8 = .ok (.invokestatic 384, 3) := by decide +kernel
theorem dX12_lies_11 : decode cX12_lies 11 = .ok (.ifCond .eq 12, 3) := by decide +kernel
theorem dX12_lies_14 : decode cX12_lies 14 = .ok (.aload_n 0, 1) := by decide +kernel
theorem dX12_lies_15 : decode cX12_lies 15 = .ok (.getfield 72, 3) := by decide +kernel
theorem dX12_lies_18 : decode cX12_lies 18 = .ok (.iload_n 1, 1) := by decide +kernel
theorem dX12_lies_19 : decode cX12_lies 19 = .ok (.iaload, 1) := by decide +kernel
theorem dX12_lies_20 : decode cX12_lies 20 = .ok (.goto 5, 3) := by decide +kernel
theorem dX12_lies_23 : decode cX12_lies 23 = .ok (.bipush (-2), 2) := by decide +kernel
theorem dX12_lies_25 : decode cX12_lies 25 = .ok (.ireturn, 1) := by decide +kernel
theorem dX12_seen_0 : decode cX12_seen 0 = .ok (.iload_n 1, 1) := by decide +kernel
theorem dX12_seen_1 : decode cX12_seen 1 = .ok (.iconst 1, 1) := by decide +kernel
theorem dX12_seen_2 : decode cX12_seen 2 = .ok (.bipush 12, 2) := by decide +kernel
theorem dX12_seen_4 : decode cX12_seen 4 = .ok (.invokestatic 384, 3) := by decide +kernel
theorem dX12_seen_7 : decode cX12_seen 7 = .ok (.ifCond .eq 35, 3) := by decide +kernel
theorem dX12_seen_10 : decode cX12_seen 10 = .ok (.aload_n 0, 1) := by decide +kernel
theorem dX12_seen_11 : decode cX12_seen 11 = .ok (.iload_n 2, 1) := by decide +kernel
theorem dX12_seen_12 : decode cX12_seen 12 = .ok (.invokevirtual 423, 3) := by decide +kernel
theorem dX12_seen_15 : decode cX12_seen 15 = .ok (.ifCond .eq 27, 3) := by decide +kernel
theorem dX12_seen_18 : decode cX12_seen 18 = .ok (.aload_n 0, 1) := by decide +kernel
theorem dX12_seen_19 : decode cX12_seen 19 = .ok (.iload_n 3, 1) := by decide +kernel
theorem dX12_seen_20 : decode cX12_seen 20 = .ok (.invokevirtual 408, 3) := by decide +kernel
theorem dX12_seen_23 : decode cX12_seen 23 = .ok (.ifCond .eq 19, 3) := by decide +kernel
theorem dX12_seen_26 : decode cX12_seen 26 = .ok (.aload_n 0, 1) := by decide +kernel
theorem dX12_seen_27 : decode cX12_seen 27 = .ok (.getfield 354, 3) := by decide +kernel
theorem dX12_seen_30 : decode cX12_seen 30 = .ok (.ifCond .eq 12, 3) := by decide +kernel
theorem dX12_seen_33 : decode cX12_seen 33 = .ok (.aload_n 0, 1) := by decide +kernel
theorem dX12_seen_34 : decode cX12_seen 34 = .ok (.getfield 378, 3) := by decide +kernel
theorem dX12_seen_37 : decode cX12_seen 37 = .ok (.bipush 30, 2) := by decide +kernel
theorem dX12_seen_39 : decode cX12_seen 39 = .ok (.if_icmp .ne 5, 3) := by decide +kernel
theorem dX12_seen_42 : decode cX12_seen 42 = .ok (.iconst (-1), 1) := by decide +kernel
theorem dX12_seen_43 : decode cX12_seen 43 = .ok (.ireturn, 1) := by decide +kernel
theorem dX12_seen_44 : decode cX12_seen 44 = .ok (.aload_n 0, 1) := by decide +kernel
theorem dX12_seen_45 : decode cX12_seen 45 = .ok (.getfield 87, 3) := by decide +kernel
theorem dX12_seen_48 : decode cX12_seen 48 = .ok (.aload_n 0, 1) := by decide +kernel
theorem dX12_seen_49 : decode cX12_seen 49 = .ok (.getfield 378, 3) := by decide +kernel
theorem dX12_seen_52 : decode cX12_seen 52 = .ok (.iload_n 1, 1) := by decide +kernel
theorem dX12_seen_53 : decode cX12_seen 53 = .ok (.iastore, 1) := by decide +kernel
theorem dX12_seen_54 : decode cX12_seen 54 = .ok (.aload_n 0, 1) := by decide +kernel
theorem dX12_seen_55 : decode cX12_seen 55 = .ok (.getfield 90, 3) := by decide +kernel
theorem dX12_seen_58 : decode cX12_seen 58 = .ok (.aload_n 0, 1) := by decide +kernel
theorem dX12_seen_59 : decode cX12_seen 59 = .ok (.getfield 378, 3) := by decide +kernel
theorem dX12_seen_62 : decode cX12_seen 62 = .ok (.iload_n 2, 1) := by decide +kernel
theorem dX12_seen_63 : decode cX12_seen 63 = .ok (.iastore, 1) := by decide +kernel
theorem dX12_seen_64 : decode cX12_seen 64 = .ok (.aload_n 0, 1) := by decide +kernel
theorem dX12_seen_65 : decode cX12_seen 65 = .ok (.getfield 93, 3) := by decide +kernel
theorem dX12_seen_68 : decode cX12_seen 68 = .ok (.aload_n 0, 1) := by decide +kernel
theorem dX12_seen_69 : decode cX12_seen 69 = .ok (.getfield 378, 3) := by decide +kernel
theorem dX12_seen_72 : decode cX12_seen 72 = .ok (.iload_n 3, 1) := by decide +kernel
theorem dX12_seen_73 : decode cX12_seen 73 = .ok (.iastore, 1) := by decide +kernel
theorem dX12_seen_74 : decode cX12_seen 74 = .ok (.aload_n 0, 1) := by decide +kernel
theorem dX12_seen_75 : decode cX12_seen 75 = .ok (.getfield 102, 3) := by decide +kernel
theorem dX12_seen_78 : decode cX12_seen 78 = .ok (.aload_n 0, 1) := by decide +kernel
theorem dX12_seen_79 : decode cX12_seen 79 = .ok (.getfield 378, 3) := by decide +kernel
theorem dX12_seen_82 : decode cX12_seen 82 = .ok (.iload 4, 2) := by decide +kernel
theorem dX12_seen_84 : decode cX12_seen 84 = .ok (.bastore, 1) := by decide +kernel
theorem dX12_seen_85 : decode cX12_seen 85 = .ok (.aload_n 0, 1) := by decide +kernel
theorem dX12_seen_86 : decode cX12_seen 86 = .ok (.getfield 96, 3) := by decide +kernel
theorem dX12_seen_89 : decode cX12_seen 89 = .ok (.aload_n 0, 1) := by decide +kernel
theorem dX12_seen_90 : decode cX12_seen 90 = .ok (.getfield 378, 3) := by decide +kernel
theorem dX12_seen_93 : decode cX12_seen 93 = .ok (.aload_n 0, 1) := by decide +kernel
theorem dX12_seen_94 : decode cX12_seen 94 = .ok (.getfield 476, 3) := by decide +kernel
theorem dX12_seen_97 : decode cX12_seen 97 = .ok (.iastore, 1) := by decide +kernel
theorem dX12_seen_98 : decode cX12_seen 98 = .ok (.aload_n 0, 1) := by decide +kernel
theorem dX12_seen_99 : decode cX12_seen 99 = .ok (.getfield 99, 3) := by decide +kernel
theorem dX12_seen_102 : decode cX12_seen 102 = .ok (.aload_n 0, 1) := by decide +kernel
theorem dX12_seen_103 : decode cX12_seen 103 = .ok (.getfield 378, 3) := by decide +kernel
theorem dX12_seen_106 : decode cX12_seen 106 = .ok (.iconst (-1), 1) := by decide +kernel
theorem dX12_seen_107 : decode cX12_seen 107 = .ok (.iastore, 1) := by decide +kernel
theorem dX12_seen_108 : decode cX12_seen 108 = .ok (.aload_n 0, 1) := by decide +kernel
theorem dX12_seen_109 : decode cX12_seen 109 = .ok (.dup, 1) := by decide +kernel
theorem dX12_seen_110 : decode cX12_seen 110 = .ok (.getfield 378, 3) := by decide +kernel
theorem dX12_seen_113 : decode cX12_seen 113 = .ok (.iconst 1, 1) := by decide +kernel
theorem dX12_seen_114 : decode cX12_seen 114 = .ok (.iadd, 1) := by decide +kernel
theorem dX12_seen_115 : decode cX12_seen 115 = .ok (.putfield 378, 3) := by decide +kernel
theorem dX12_seen_118 : decode cX12_seen 118 = .ok (.aload_n 0, 1) := by decide +kernel
theorem dX12_seen_119 : decode cX12_seen 119 = .ok (.getfield 378, 3) := by decide +kernel
theorem dX12_seen_122 : decode cX12_seen 122 = .ok (.iconst 1, 1) := by decide +kernel
theorem dX12_seen_123 : decode cX12_seen 123 = .ok (.isub, 1) := by decide +kernel
theorem dX12_seen_124 : decode cX12_seen 124 = .ok (.ireturn, 1) := by decide +kernel
theorem dX12_untell_0 : decode cX12_untell 0 = .ok (.iload_n 1, 1) := by decide +kernel
theorem dX12_untell_1 : decode cX12_untell 1 = .ok (.iconst 0, 1) := by decide +kernel
theorem dX12_untell_2 : decode cX12_untell 2 = .ok (.aload_n 0, 1) := by decide +kernel
theorem dX12_untell_3 : decode cX12_untell 3 = .ok (.getfield 378, 3) := by decide +kernel
theorem dX12_untell_6 : decode cX12_untell 6 = .ok (.iconst 1, 1) := by decide +kernel
theorem dX12_untell_7 : decode cX12_untell 7 = .ok (.isub, 1) := by decide +kernel
theorem dX12_untell_8 : decode cX12_untell 8 = .ok (.invokestatic 384, 3) := by decide +kernel
theorem dX12_untell_11 : decode cX12_untell 11 = .ok (.ifCond .eq 12, 3) := by decide +kernel
theorem dX12_untell_14 : decode cX12_untell 14 = .ok (.aload_n 0, 1) := by decide +kernel
theorem dX12_untell_15 : decode cX12_untell 15 = .ok (.getfield 99, 3) := by decide +kernel
theorem dX12_untell_18 : decode cX12_untell 18 = .ok (.iload_n 1, 1) := by decide +kernel
theorem dX12_untell_19 : decode cX12_untell 19 = .ok (.iaload, 1) := by decide +kernel
theorem dX12_untell_20 : decode cX12_untell 20 = .ok (.ifCond .lt 5, 3) := by decide +kernel
theorem dX12_untell_23 : decode cX12_untell 23 = .ok (.iconst 0, 1) := by decide +kernel
theorem dX12_untell_24 : decode cX12_untell 24 = .ok (.ireturn, 1) := by decide +kernel
theorem dX12_untell_25 : decode cX12_untell 25 = .ok (.aload_n 0, 1) := by decide +kernel
theorem dX12_untell_26 : decode cX12_untell 26 = .ok (.getfield 99, 3) := by decide +kernel
theorem dX12_untell_29 : decode cX12_untell 29 = .ok (.iload_n 1, 1) := by decide +kernel
theorem dX12_untell_30 : decode cX12_untell 30 = .ok (.aload_n 0, 1) := by decide +kernel
theorem dX12_untell_31 : decode cX12_untell 31 = .ok (.getfield 476, 3) := by decide +kernel
theorem dX12_untell_34 : decode cX12_untell 34 = .ok (.iastore, 1) := by decide +kernel
theorem dX12_untell_35 : decode cX12_untell 35 = .ok (.iconst 1, 1) := by decide +kernel
theorem dX12_untell_36 : decode cX12_untell 36 = .ok (.ireturn, 1) := by decide +kernel
theorem dX12_later_0 : decode cX12_later 0 = .ok (.iload_n 1, 1) := by decide +kernel
theorem dX12_later_1 : decode cX12_later 1 = .ok (.ifCond .lt 22, 3) := by decide +kernel
theorem dX12_later_4 : decode cX12_later 4 = .ok (.iload_n 1, 1) := by decide +kernel
theorem dX12_later_5 : decode cX12_later 5 = .ok (.sipush 1000, 3) := by decide +kernel
theorem dX12_later_8 : decode cX12_later 8 = .ok (.if_icmp .gt 15, 3) := by decide +kernel
theorem dX12_later_11 : decode cX12_later 11 = .ok (.aload_n 0, 1) := by decide +kernel
theorem dX12_later_12 : decode cX12_later 12 = .ok (.getfield 476, 3) := by decide +kernel
theorem dX12_later_15 : decode cX12_later 15 = .ok (.iload_n 1, 1) := by decide +kernel
theorem dX12_later_16 : decode cX12_later 16 = .ok (.iadd, 1) := by decide +kernel
theorem dX12_later_17 : decode cX12_later 17 = .ok (.ldc_w 479, 3) := by decide +kernel
theorem dX12_later_20 : decode cX12_later 20 = .ok (.if_icmp .le 5, 3) := by decide +kernel
theorem dX12_later_23 : decode cX12_later 23 = .ok (.iconst (-1), 1) := by decide +kernel
theorem dX12_later_24 : decode cX12_later 24 = .ok (.ireturn, 1) := by decide +kernel
theorem dX12_later_25 : decode cX12_later 25 = .ok (.aload_n 0, 1) := by decide +kernel
theorem dX12_later_26 : decode cX12_later 26 = .ok (.dup, 1) := by decide +kernel
theorem dX12_later_27 : decode cX12_later 27 = .ok (.getfield 476, 3) := by decide +kernel
theorem dX12_later_30 : decode cX12_later 30 = .ok (.iload_n 1, 1) := by decide +kernel
theorem dX12_later_31 : decode cX12_later 31 = .ok (.iadd, 1) := by decide +kernel
theorem dX12_later_32 : decode cX12_later 32 = .ok (.putfield 476, 3) := by decide +kernel
theorem dX12_later_35 : decode cX12_later 35 = .ok (.aload_n 0, 1) := by decide +kernel
theorem dX12_later_36 : decode cX12_later 36 = .ok (.getfield 476, 3) := by decide +kernel
theorem dX12_later_39 : decode cX12_later 39 = .ok (.ireturn, 1) := by decide +kernel
theorem dX12_wasAt_0 : decode cX12_wasAt 0 = .ok (.aload_n 0, 1) := by decide +kernel
theorem dX12_wasAt_1 : decode cX12_wasAt 1 = .ok (.getfield 106, 3) := by decide +kernel
theorem dX12_wasAt_4 : decode cX12_wasAt 4 = .ok (.bipush 60, 2) := by decide +kernel
theorem dX12_wasAt_6 : decode cX12_wasAt 6 = .ok (.iload_n 1, 1) := by decide +kernel
theorem dX12_wasAt_7 : decode cX12_wasAt 7 = .ok (.imul, 1) := by decide +kernel
theorem dX12_wasAt_8 : decode cX12_wasAt 8 = .ok (.iconst 5, 1) := by decide +kernel
theorem dX12_wasAt_9 : decode cX12_wasAt 9 = .ok (.iload_n 2, 1) := by decide +kernel
theorem dX12_wasAt_10 : decode cX12_wasAt 10 = .ok (.iconst 1, 1) := by decide +kernel
theorem dX12_wasAt_11 : decode cX12_wasAt 11 = .ok (.isub, 1) := by decide +kernel
theorem dX12_wasAt_12 : decode cX12_wasAt 12 = .ok (.imul, 1) := by decide +kernel
theorem dX12_wasAt_13 : decode cX12_wasAt 13 = .ok (.iadd, 1) := by decide +kernel
theorem dX12_wasAt_14 : decode cX12_wasAt 14 = .ok (.iload_n 3, 1) := by decide +kernel
theorem dX12_wasAt_15 : decode cX12_wasAt 15 = .ok (.iadd, 1) := by decide +kernel
theorem dX12_wasAt_16 : decode cX12_wasAt 16 = .ok (.iaload, 1) := by decide +kernel
theorem dX12_wasAt_17 : decode cX12_wasAt 17 = .ok (.ireturn, 1) := by decide +kernel
theorem dX12_fitsLoss_0 : decode cX12_fitsLoss 0 = .ok (.iconst 1, 1) := by decide +kernel
theorem dX12_fitsLoss_1 : decode cX12_fitsLoss 1 = .ok (.istore_n 3, 1) := by decide +kernel
theorem dX12_fitsLoss_2 : decode cX12_fitsLoss 2 = .ok (.iconst 0, 1) := by decide +kernel
theorem dX12_fitsLoss_3 : decode cX12_fitsLoss 3 = .ok (.istore 4, 2) := by decide +kernel
theorem dX12_fitsLoss_5 : decode cX12_fitsLoss 5 = .ok (.iload 4, 2) := by decide +kernel
theorem dX12_fitsLoss_7 : decode cX12_fitsLoss 7 = .ok (.aload_n 0, 1) := by decide +kernel
theorem dX12_fitsLoss_8 : decode cX12_fitsLoss 8 = .ok (.getfield 378, 3) := by decide +kernel
theorem dX12_fitsLoss_11 : decode cX12_fitsLoss 11 = .ok (.if_icmp .ge 98, 3) := by decide +kernel
theorem dX12_fitsLoss_14 : decode cX12_fitsLoss 14 = .ok (.iload_n 3, 1) := by decide +kernel
theorem dX12_fitsLoss_15 : decode cX12_fitsLoss 15 = .ok (.ifCond .eq 94, 3) := by decide +kernel
theorem dX12_fitsLoss_18 : decode cX12_fitsLoss 18 = .ok (.aload_n 0, 1) := by decide +kernel
theorem dX12_fitsLoss_19 : decode cX12_fitsLoss 19 = .ok (.getfield 96, 3) := by decide +kernel
theorem dX12_fitsLoss_22 : decode cX12_fitsLoss 22 = .ok (.iload 4, 2) := by decide +kernel
theorem dX12_fitsLoss_24 : decode cX12_fitsLoss 24 = .ok (.iaload, 1) := by decide +kernel
theorem dX12_fitsLoss_25 : decode cX12_fitsLoss 25 = .ok (.iload_n 2, 1) := by decide +kernel
theorem dX12_fitsLoss_26 : decode cX12_fitsLoss 26 = .ok (.if_icmp .gt 77, 3) := by decide +kernel
theorem dX12_fitsLoss_29 : decode cX12_fitsLoss 29 = .ok (.aload_n 0, 1) := by decide +kernel
theorem dX12_fitsLoss_30 : decode cX12_fitsLoss 30 = .ok (.getfield 99, 3) := by decide +kernel
theorem dX12_fitsLoss_33 : decode cX12_fitsLoss 33 = .ok (.iload 4, 2) := by decide +kernel
theorem dX12_fitsLoss_35 : decode cX12_fitsLoss 35 = .ok (.iaload, 1) := by decide +kernel
theorem dX12_fitsLoss_36 : decode cX12_fitsLoss 36 = .ok (.ifCond .lt 17, 3) := by decide +kernel
theorem dX12_fitsLoss_39 : decode cX12_fitsLoss 39 = .ok (.aload_n 0, 1) := by decide +kernel
theorem dX12_fitsLoss_40 : decode cX12_fitsLoss 40 = .ok (.getfield 99, 3) := by decide +kernel
theorem dX12_fitsLoss_43 : decode cX12_fitsLoss 43 = .ok (.iload 4, 2) := by decide +kernel
theorem dX12_fitsLoss_45 : decode cX12_fitsLoss 45 = .ok (.iaload, 1) := by decide +kernel
theorem dX12_fitsLoss_46 : decode cX12_fitsLoss 46 = .ok (.iload_n 2, 1) := by decide +kernel
theorem dX12_fitsLoss_47 : decode cX12_fitsLoss 47 = .ok (.if_icmp .gt 6, 3) := by decide +kernel
theorem dX12_fitsLoss_50 : decode cX12_fitsLoss 50 = .ok (.goto 53, 3) := by decide +kernel
theorem dX12_fitsLoss_53 : decode cX12_fitsLoss 53 = .ok (.aload_n 0, 1) := by decide +kernel
theorem dX12_fitsLoss_54 : decode cX12_fitsLoss 54 = .ok (.iload_n 1, 1) := by decide +kernel
theorem dX12_fitsLoss_55 : decode cX12_fitsLoss 55 = .ok (.aload_n 0, 1) := by decide +kernel
theorem dX12_fitsLoss_56 : decode cX12_fitsLoss 56 = .ok (.getfield 87, 3) := by decide +kernel
theorem dX12_fitsLoss_59 : decode cX12_fitsLoss 59 = .ok (.iload 4, 2) := by decide +kernel
theorem dX12_fitsLoss_61 : decode cX12_fitsLoss 61 = .ok (.iaload, 1) := by decide +kernel
theorem dX12_fitsLoss_62 : decode cX12_fitsLoss 62 = .ok (.aload_n 0, 1) := by decide +kernel
theorem dX12_fitsLoss_63 : decode cX12_fitsLoss 63 = .ok (.getfield 90, 3) := by decide +kernel
theorem dX12_fitsLoss_66 : decode cX12_fitsLoss 66 = .ok (.iload 4, 2) := by decide +kernel
theorem dX12_fitsLoss_68 : decode cX12_fitsLoss 68 = .ok (.iaload, 1) := by decide +kernel
theorem dX12_fitsLoss_69 : decode cX12_fitsLoss 69 = .ok (.invokevirtual 480, 3) := by decide +kernel
theorem dX12_fitsLoss_72 : decode cX12_fitsLoss 72 = .ok (.aload_n 0, 1) := by decide +kernel
theorem dX12_fitsLoss_73 : decode cX12_fitsLoss 73 = .ok (.getfield 93, 3) := by decide +kernel
theorem dX12_fitsLoss_76 : decode cX12_fitsLoss 76 = .ok (.iload 4, 2) := by decide +kernel
theorem dX12_fitsLoss_78 : decode cX12_fitsLoss 78 = .ok (.iaload, 1) := by decide +kernel
theorem dX12_fitsLoss_79 : decode cX12_fitsLoss 79 = .ok (.if_icmp .ne 7, 3) := by decide +kernel
theorem dX12_fitsLoss_82 : decode cX12_fitsLoss 82 = .ok (.iconst 1, 1) := by decide +kernel
theorem dX12_fitsLoss_83 : decode cX12_fitsLoss 83 = .ok (.goto 4, 3) := by decide +kernel
theorem dX12_fitsLoss_86 : decode cX12_fitsLoss 86 = .ok (.iconst 0, 1) := by decide +kernel
theorem dX12_fitsLoss_87 : decode cX12_fitsLoss 87 = .ok (.aload_n 0, 1) := by decide +kernel
theorem dX12_fitsLoss_88 : decode cX12_fitsLoss 88 = .ok (.getfield 102, 3) := by decide +kernel
theorem dX12_fitsLoss_91 : decode cX12_fitsLoss 91 = .ok (.iload 4, 2) := by decide +kernel
theorem dX12_fitsLoss_93 : decode cX12_fitsLoss 93 = .ok (.baload, 1) := by decide +kernel
theorem dX12_fitsLoss_94 : decode cX12_fitsLoss 94 = .ok (.if_icmp .ne 7, 3) := by decide +kernel
theorem dX12_fitsLoss_97 : decode cX12_fitsLoss 97 = .ok (.iconst 1, 1) := by decide +kernel
theorem dX12_fitsLoss_98 : decode cX12_fitsLoss 98 = .ok (.goto 4, 3) := by decide +kernel
theorem dX12_fitsLoss_101 : decode cX12_fitsLoss 101 = .ok (.iconst 0, 1) := by decide +kernel
theorem dX12_fitsLoss_102 : decode cX12_fitsLoss 102 = .ok (.istore_n 3, 1) := by decide +kernel
theorem dX12_fitsLoss_103 : decode cX12_fitsLoss 103 = .ok (.iinc 4 1, 3) := by decide +kernel
theorem dX12_fitsLoss_106 : decode cX12_fitsLoss 106 = .ok (.goto (-101), 3) := by decide +kernel
theorem dX12_fitsLoss_109 : decode cX12_fitsLoss 109 = .ok (.iload_n 3, 1) := by decide +kernel
theorem dX12_fitsLoss_110 : decode cX12_fitsLoss 110 = .ok (.ireturn, 1) := by decide +kernel
theorem dX12_layFits_0 : decode cX12_layFits 0 = .ok (.iconst 0, 1) := by decide +kernel
theorem dX12_layFits_1 : decode cX12_layFits 1 = .ok (.istore_n 2, 1) := by decide +kernel
theorem dX12_layFits_2 : decode cX12_layFits 2 = .ok (.iconst 0, 1) := by decide +kernel
theorem dX12_layFits_3 : decode cX12_layFits 3 = .ok (.istore_n 3, 1) := by decide +kernel
theorem dX12_layFits_4 : decode cX12_layFits 4 = .ok (.iload_n 3, 1) := by decide +kernel
theorem dX12_layFits_5 : decode cX12_layFits 5 = .ok (.bipush 20, 2) := by decide +kernel
theorem dX12_layFits_7 : decode cX12_layFits 7 = .ok (.if_icmp .gt 121, 3) := by decide +kernel
theorem dX12_layFits_10 : decode cX12_layFits 10 = .ok (.aload_n 0, 1) := by decide +kernel
theorem dX12_layFits_11 : decode cX12_layFits 11 = .ok (.getfield 354, 3) := by decide +kernel
theorem dX12_layFits_14 : decode cX12_layFits 14 = .ok (.ifCond .le 114, 3) := by decide +kernel
theorem dX12_layFits_17 : decode cX12_layFits 17 = .ok (.aload_n 0, 1) := by decide +kernel
theorem dX12_layFits_18 : decode cX12_layFits 18 = .ok (.invokevirtual 366, 3) := by decide +kernel
theorem dX12_layFits_21 : decode cX12_layFits 21 = .ok (.aload_n 0, 1) := by decide +kernel
theorem dX12_layFits_22 : decode cX12_layFits 22 = .ok (.getfield 63, 3) := by decide +kernel
theorem dX12_layFits_25 : decode cX12_layFits 25 = .ok (.bipush 13, 2) := by decide +kernel
theorem dX12_layFits_27 : decode cX12_layFits 27 = .ok (.aload_n 0, 1) := by decide +kernel
theorem dX12_layFits_28 : decode cX12_layFits 28 = .ok (.getfield 357, 3) := by decide +kernel
theorem dX12_layFits_31 : decode cX12_layFits 31 = .ok (.iadd, 1) := by decide +kernel
theorem dX12_layFits_32 : decode cX12_layFits 32 = .ok (.iload_n 3, 1) := by decide +kernel
theorem dX12_layFits_33 : decode cX12_layFits 33 = .ok (.iastore, 1) := by decide +kernel
theorem dX12_layFits_34 : decode cX12_layFits 34 = .ok (.iconst 0, 1) := by decide +kernel
theorem dX12_layFits_35 : decode cX12_layFits 35 = .ok (.istore 4, 2) := by decide +kernel
theorem dX12_layFits_37 : decode cX12_layFits 37 = .ok (.iload 4, 2) := by decide +kernel
theorem dX12_layFits_39 : decode cX12_layFits 39 = .ok (.bipush 12, 2) := by decide +kernel
theorem dX12_layFits_41 : decode cX12_layFits 41 = .ok (.if_icmp .ge 57, 3) := by decide +kernel
theorem dX12_layFits_44 : decode cX12_layFits 44 = .ok (.aload_n 0, 1) := by decide +kernel
theorem dX12_layFits_45 : decode cX12_layFits 45 = .ok (.iconst 0, 1) := by decide +kernel
theorem dX12_layFits_46 : decode cX12_layFits 46 = .ok (.invokevirtual 417, 3) := by decide +kernel
theorem dX12_layFits_49 : decode cX12_layFits 49 = .ok (.pop, 1) := by decide +kernel
theorem dX12_layFits_50 : decode cX12_layFits 50 = .ok (.iconst 0, 1) := by decide +kernel
theorem dX12_layFits_51 : decode cX12_layFits 51 = .ok (.istore 5, 2) := by decide +kernel
theorem dX12_layFits_53 : decode cX12_layFits 53 = .ok (.iload 5, 2) := by decide +kernel
theorem dX12_layFits_55 : decode cX12_layFits 55 = .ok (.aload_n 0, 1) := by decide +kernel
theorem dX12_layFits_56 : decode cX12_layFits 56 = .ok (.getfield 351, 3) := by decide +kernel
theorem dX12_layFits_59 : decode cX12_layFits 59 = .ok (.if_icmp .ge 33, 3) := by decide +kernel
theorem dX12_layFits_62 : decode cX12_layFits 62 = .ok (.aload_n 0, 1) := by decide +kernel
theorem dX12_layFits_63 : decode cX12_layFits 63 = .ok (.getfield 106, 3) := by decide +kernel
theorem dX12_layFits_66 : decode cX12_layFits 66 = .ok (.bipush 60, 2) := by decide +kernel
theorem dX12_layFits_68 : decode cX12_layFits 68 = .ok (.iload_n 3, 1) := by decide +kernel
theorem dX12_layFits_69 : decode cX12_layFits 69 = .ok (.imul, 1) := by decide +kernel
theorem dX12_layFits_70 : decode cX12_layFits 70 = .ok (.iconst 5, 1) := by decide +kernel
theorem dX12_layFits_71 : decode cX12_layFits 71 = .ok (.iload 4, 2) := by decide +kernel
theorem dX12_layFits_73 : decode cX12_layFits 73 = .ok (.imul, 1) := by decide +kernel
theorem dX12_layFits_74 : decode cX12_layFits 74 = .ok (.iadd, 1) := by decide +kernel
theorem dX12_layFits_75 : decode cX12_layFits 75 = .ok (.iload 5, 2) := by decide +kernel
theorem dX12_layFits_77 : decode cX12_layFits 77 = .ok (.iadd, 1) := by decide +kernel
theorem dX12_layFits_78 : decode cX12_layFits 78 = .ok (.aload_n 0, 1) := by decide +kernel
theorem dX12_layFits_79 : decode cX12_layFits 79 = .ok (.getfield 66, 3) := by decide +kernel
theorem dX12_layFits_82 : decode cX12_layFits 82 = .ok (.iload 5, 2) := by decide +kernel
theorem dX12_layFits_84 : decode cX12_layFits 84 = .ok (.iaload, 1) := by decide +kernel
theorem dX12_layFits_85 : decode cX12_layFits 85 = .ok (.iastore, 1) := by decide +kernel
theorem dX12_layFits_86 : decode cX12_layFits 86 = .ok (.iinc 5 1, 3) := by decide +kernel
theorem dX12_layFits_89 : decode cX12_layFits 89 = .ok (.goto (-36), 3) := by decide +kernel
theorem dX12_layFits_92 : decode cX12_layFits 92 = .ok (.iinc 4 1, 3) := by decide +kernel
theorem dX12_layFits_95 : decode cX12_layFits 95 = .ok (.goto (-58), 3) := by decide +kernel
theorem dX12_layFits_98 : decode cX12_layFits 98 = .ok (.aload_n 0, 1) := by decide +kernel
theorem dX12_layFits_99 : decode cX12_layFits 99 = .ok (.getfield 112, 3) := by decide +kernel
theorem dX12_layFits_102 : decode cX12_layFits 102 = .ok (.iload_n 3, 1) := by decide +kernel
theorem dX12_layFits_103 : decode cX12_layFits 103 = .ok (.aload_n 0, 1) := by decide +kernel
theorem dX12_layFits_104 : decode cX12_layFits 104 = .ok (.iload_n 3, 1) := by decide +kernel
theorem dX12_layFits_105 : decode cX12_layFits 105 = .ok (.iload_n 1, 1) := by decide +kernel
theorem dX12_layFits_106 : decode cX12_layFits 106 = .ok (.invokevirtual 483, 3) := by decide +kernel
theorem dX12_layFits_109 : decode cX12_layFits 109 = .ok (.bastore, 1) := by decide +kernel
theorem dX12_layFits_110 : decode cX12_layFits 110 = .ok (.iload_n 2, 1) := by decide +kernel
theorem dX12_layFits_111 : decode cX12_layFits 111 = .ok (.aload_n 0, 1) := by decide +kernel
theorem dX12_layFits_112 : decode cX12_layFits 112 = .ok (.getfield 112, 3) := by decide +kernel
theorem dX12_layFits_115 : decode cX12_layFits 115 = .ok (.iload_n 3, 1) := by decide +kernel
theorem dX12_layFits_116 : decode cX12_layFits 116 = .ok (.baload, 1) := by decide +kernel
theorem dX12_layFits_117 : decode cX12_layFits 117 = .ok (.invokestatic 279, 3) := by decide +kernel
theorem dX12_layFits_120 : decode cX12_layFits 120 = .ok (.iadd, 1) := by decide +kernel
theorem dX12_layFits_121 : decode cX12_layFits 121 = .ok (.istore_n 2, 1) := by decide +kernel
theorem dX12_layFits_122 : decode cX12_layFits 122 = .ok (.iinc 3 1, 3) := by decide +kernel
theorem dX12_layFits_125 : decode cX12_layFits 125 = .ok (.goto (-121), 3) := by decide +kernel
theorem dX12_layFits_128 : decode cX12_layFits 128 = .ok (.iload_n 2, 1) := by decide +kernel
theorem dX12_layFits_129 : decode cX12_layFits 129 = .ok (.ireturn, 1) := by decide +kernel
theorem dX12_fits_0 : decode cX12_fits 0 = .ok (.aload_n 0, 1) := by decide +kernel
theorem dX12_fits_1 : decode cX12_fits 1 = .ok (.iload_n 1, 1) := by decide +kernel
theorem dX12_fits_2 : decode cX12_fits 2 = .ok (.invokevirtual 486, 3) := by decide +kernel
theorem dX12_fits_5 : decode cX12_fits 5 = .ok (.ireturn, 1) := by decide +kernel
theorem dX12_sure_0 : decode cX12_sure 0 = .ok (.iload_n 1, 1) := by decide +kernel
theorem dX12_sure_1 : decode cX12_sure 1 = .ok (.iconst 0, 1) := by decide +kernel
theorem dX12_sure_2 : decode cX12_sure 2 = .ok (.iconst 1, 1) := by decide +kernel
theorem dX12_sure_3 : decode cX12_sure 3 = .ok (.invokestatic 384, 3) := by decide +kernel
theorem dX12_sure_6 : decode cX12_sure 6 = .ok (.ifCond .eq 11, 3) := by decide +kernel
theorem dX12_sure_9 : decode cX12_sure 9 = .ok (.aload_n 0, 1) := by decide +kernel
theorem dX12_sure_10 : decode cX12_sure 10 = .ok (.iload_n 2, 1) := by decide +kernel
theorem dX12_sure_11 : decode cX12_sure 11 = .ok (.invokevirtual 486, 3) := by decide +kernel
theorem dX12_sure_14 : decode cX12_sure 14 = .ok (.ifCond .ne 5, 3) := by decide +kernel
theorem dX12_sure_17 : decode cX12_sure 17 = .ok (.iconst (-1), 1) := by decide +kernel
theorem dX12_sure_18 : decode cX12_sure 18 = .ok (.ireturn, 1) := by decide +kernel
theorem dX12_sure_19 : decode cX12_sure 19 = .ok (.iconst (-1), 1) := by decide +kernel
theorem dX12_sure_20 : decode cX12_sure 20 = .ok (.istore_n 3, 1) := by decide +kernel
theorem dX12_sure_21 : decode cX12_sure 21 = .ok (.iconst 0, 1) := by decide +kernel
theorem dX12_sure_22 : decode cX12_sure 22 = .ok (.istore 4, 2) := by decide +kernel
theorem dX12_sure_24 : decode cX12_sure 24 = .ok (.iload 4, 2) := by decide +kernel
theorem dX12_sure_26 : decode cX12_sure 26 = .ok (.bipush 20, 2) := by decide +kernel
theorem dX12_sure_28 : decode cX12_sure 28 = .ok (.if_icmp .gt 31, 3) := by decide +kernel
theorem dX12_sure_31 : decode cX12_sure 31 = .ok (.aload_n 0, 1) := by decide +kernel
theorem dX12_sure_32 : decode cX12_sure 32 = .ok (.getfield 112, 3) := by decide +kernel
theorem dX12_sure_35 : decode cX12_sure 35 = .ok (.iload 4, 2) := by decide +kernel
theorem dX12_sure_37 : decode cX12_sure 37 = .ok (.baload, 1) := by decide +kernel
theorem dX12_sure_38 : decode cX12_sure 38 = .ok (.ifCond .eq 15, 3) := by decide +kernel
theorem dX12_sure_41 : decode cX12_sure 41 = .ok (.iload_n 3, 1) := by decide +kernel
theorem dX12_sure_42 : decode cX12_sure 42 = .ok (.ifCond .lt 8, 3) := by decide +kernel
theorem dX12_sure_45 : decode cX12_sure 45 = .ok (.iload_n 1, 1) := by decide +kernel
theorem dX12_sure_46 : decode cX12_sure 46 = .ok (.iconst 1, 1) := by decide +kernel
theorem dX12_sure_47 : decode cX12_sure 47 = .ok (.if_icmp .ne 6, 3) := by decide +kernel
theorem dX12_sure_50 : decode cX12_sure 50 = .ok (.iload 4, 2) := by decide +kernel
theorem dX12_sure_52 : decode cX12_sure 52 = .ok (.istore_n 3, 1) := by decide +kernel
theorem dX12_sure_53 : decode cX12_sure 53 = .ok (.iinc 4 1, 3) := by decide +kernel
theorem dX12_sure_56 : decode cX12_sure 56 = .ok (.goto (-32), 3) := by decide +kernel
theorem dX12_sure_59 : decode cX12_sure 59 = .ok (.iload_n 3, 1) := by decide +kernel
theorem dX12_sure_60 : decode cX12_sure 60 = .ok (.ireturn, 1) := by decide +kernel
theorem dX12_leftBy_0 : decode cX12_leftBy 0 = .ok (.iconst 0, 1) := by decide +kernel
theorem dX12_leftBy_1 : decode cX12_leftBy 1 = .ok (.istore_n 3, 1) := by decide +kernel
theorem dX12_leftBy_2 : decode cX12_leftBy 2 = .ok (.iload_n 3, 1) := by decide +kernel
theorem dX12_leftBy_3 : decode cX12_leftBy 3 = .ok (.bipush 7, 2) := by decide +kernel
theorem dX12_leftBy_5 : decode cX12_leftBy 5 = .ok (.if_icmp .ge 16, 3) := by decide +kernel
theorem dX12_leftBy_8 : decode cX12_leftBy 8 = .ok (.aload_n 0, 1) := by decide +kernel
theorem dX12_leftBy_9 : decode cX12_leftBy 9 = .ok (.getfield 109, 3) := by decide +kernel
theorem dX12_leftBy_12 : decode cX12_leftBy 12 = .ok (.iload_n 3, 1) := by decide +kernel
theorem dX12_leftBy_13 : decode cX12_leftBy 13 = .ok (.iconst 0, 1) := by decide +kernel
theorem dX12_leftBy_14 : decode cX12_leftBy 14 = .ok (.iastore, 1) := by decide +kernel
theorem dX12_leftBy_15 : decode cX12_leftBy 15 = .ok (.iinc 3 1, 3) := by decide +kernel
theorem dX12_leftBy_18 : decode cX12_leftBy 18 = .ok (.goto (-16), 3) := by decide +kernel
theorem dX12_leftBy_21 : decode cX12_leftBy 21 = .ok (.iconst 0, 1) := by decide +kernel
theorem dX12_leftBy_22 : decode cX12_leftBy 22 = .ok (.istore_n 3, 1) := by decide +kernel
theorem dX12_leftBy_23 : decode cX12_leftBy 23 = .ok (.iconst 0, 1) := by decide +kernel
theorem dX12_leftBy_24 : decode cX12_leftBy 24 = .ok (.istore 4, 2) := by decide +kernel
theorem dX12_leftBy_26 : decode cX12_leftBy 26 = .ok (.iload 4, 2) := by decide +kernel
theorem dX12_leftBy_28 : decode cX12_leftBy 28 = .ok (.bipush 20, 2) := by decide +kernel
theorem dX12_leftBy_30 : decode cX12_leftBy 30 = .ok (.if_icmp .gt 68, 3) := by decide +kernel
theorem dX12_leftBy_33 : decode cX12_leftBy 33 = .ok (.aload_n 0, 1) := by decide +kernel
theorem dX12_leftBy_34 : decode cX12_leftBy 34 = .ok (.getfield 112, 3) := by decide +kernel
theorem dX12_leftBy_37 : decode cX12_leftBy 37 = .ok (.iload 4, 2) := by decide +kernel
theorem dX12_leftBy_39 : decode cX12_leftBy 39 = .ok (.baload, 1) := by decide +kernel
theorem dX12_leftBy_40 : decode cX12_leftBy 40 = .ok (.ifCond .ne 6, 3) := by decide +kernel
theorem dX12_leftBy_43 : decode cX12_leftBy 43 = .ok (.goto 49, 3) := by decide +kernel
theorem dX12_leftBy_46 : decode cX12_leftBy 46 = .ok (.aload_n 0, 1) := by decide +kernel
theorem dX12_leftBy_47 : decode cX12_leftBy 47 = .ok (.iload 4, 2) := by decide +kernel
theorem dX12_leftBy_49 : decode cX12_leftBy 49 = .ok (.iload_n 1, 1) := by decide +kernel
theorem dX12_leftBy_50 : decode cX12_leftBy 50 = .ok (.iload_n 2, 1) := by decide +kernel
theorem dX12_leftBy_51 : decode cX12_leftBy 51 = .ok (.invokevirtual 480, 3) := by decide +kernel
theorem dX12_leftBy_54 : decode cX12_leftBy 54 = .ok (.iconst 1, 1) := by decide +kernel
theorem dX12_leftBy_55 : decode cX12_leftBy 55 = .ok (.iadd, 1) := by decide +kernel
theorem dX12_leftBy_56 : decode cX12_leftBy 56 = .ok (.istore 5, 2) := by decide +kernel
theorem dX12_leftBy_58 : decode cX12_leftBy 58 = .ok (.aload_n 0, 1) := by decide +kernel
theorem dX12_leftBy_59 : decode cX12_leftBy 59 = .ok (.getfield 109, 3) := by decide +kernel
theorem dX12_leftBy_62 : decode cX12_leftBy 62 = .ok (.iload 5, 2) := by decide +kernel
theorem dX12_leftBy_64 : decode cX12_leftBy 64 = .ok (.dup2, 1) := by decide +kernel
theorem dX12_leftBy_65 : decode cX12_leftBy 65 = .ok (.iaload, 1) := by decide +kernel
theorem dX12_leftBy_66 : decode cX12_leftBy 66 = .ok (.iconst 1, 1) := by decide +kernel
theorem dX12_leftBy_67 : decode cX12_leftBy 67 = .ok (.iadd, 1) := by decide +kernel
theorem dX12_leftBy_68 : decode cX12_leftBy 68 = .ok (.iastore, 1) := by decide +kernel
theorem dX12_leftBy_69 : decode cX12_leftBy 69 = .ok (.aload_n 0, 1) := by decide +kernel
theorem dX12_leftBy_70 : decode cX12_leftBy 70 = .ok (.getfield 109, 3) := by decide +kernel
theorem dX12_leftBy_73 : decode cX12_leftBy 73 = .ok (.iload 5, 2) := by decide +kernel
theorem dX12_leftBy_75 : decode cX12_leftBy 75 = .ok (.iaload, 1) := by decide +kernel
theorem dX12_leftBy_76 : decode cX12_leftBy 76 = .ok (.iload_n 3, 1) := by decide +kernel
theorem dX12_leftBy_77 : decode cX12_leftBy 77 = .ok (.if_icmp .le 13, 3) := by decide +kernel
theorem dX12_leftBy_80 : decode cX12_leftBy 80 = .ok (.aload_n 0, 1) := by decide +kernel
theorem dX12_leftBy_81 : decode cX12_leftBy 81 = .ok (.getfield 109, 3) := by decide +kernel
theorem dX12_leftBy_84 : decode cX12_leftBy 84 = .ok (.iload 5, 2) := by decide +kernel
theorem dX12_leftBy_86 : decode cX12_leftBy 86 = .ok (.iaload, 1) := by decide +kernel
theorem dX12_leftBy_87 : decode cX12_leftBy 87 = .ok (.goto 4, 3) := by decide +kernel
theorem dX12_leftBy_90 : decode cX12_leftBy 90 = .ok (.iload_n 3, 1) := by decide +kernel
theorem dX12_leftBy_91 : decode cX12_leftBy 91 = .ok (.istore_n 3, 1) := by decide +kernel
theorem dX12_leftBy_92 : decode cX12_leftBy 92 = .ok (.iinc 4 1, 3) := by decide +kernel
theorem dX12_leftBy_95 : decode cX12_leftBy 95 = .ok (.goto (-69), 3) := by decide +kernel
theorem dX12_leftBy_98 : decode cX12_leftBy 98 = .ok (.iload_n 3, 1) := by decide +kernel
theorem dX12_leftBy_99 : decode cX12_leftBy 99 = .ok (.ireturn, 1) := by decide +kernel
theorem dX12_ask_0 : decode cX12_ask 0 = .ok (.iload_n 1, 1) := by decide +kernel
theorem dX12_ask_1 : decode cX12_ask 1 = .ok (.iconst 1, 1) := by decide +kernel
theorem dX12_ask_2 : decode cX12_ask 2 = .ok (.bipush 12, 2) := by decide +kernel
theorem dX12_ask_4 : decode cX12_ask 4 = .ok (.invokestatic 384, 3) := by decide +kernel
theorem dX12_ask_7 : decode cX12_ask 7 = .ok (.ifCond .eq 20, 3) := by decide +kernel
theorem dX12_ask_10 : decode cX12_ask 10 = .ok (.iload_n 2, 1) := by decide +kernel
theorem dX12_ask_11 : decode cX12_ask 11 = .ok (.iconst 0, 1) := by decide +kernel
theorem dX12_ask_12 : decode cX12_ask 12 = .ok (.iconst 1, 1) := by decide +kernel
theorem dX12_ask_13 : decode cX12_ask 13 = .ok (.invokestatic 384, 3) := by decide +kernel
theorem dX12_ask_16 : decode cX12_ask 16 = .ok (.ifCond .eq 11, 3) := by decide +kernel
theorem dX12_ask_19 : decode cX12_ask 19 = .ok (.aload_n 0, 1) := by decide +kernel
theorem dX12_ask_20 : decode cX12_ask 20 = .ok (.iload_n 3, 1) := by decide +kernel
theorem dX12_ask_21 : decode cX12_ask 21 = .ok (.invokevirtual 486, 3) := by decide +kernel
theorem dX12_ask_24 : decode cX12_ask 24 = .ok (.ifCond .ne 5, 3) := by decide +kernel
theorem dX12_ask_27 : decode cX12_ask 27 = .ok (.iconst (-1), 1) := by decide +kernel
theorem dX12_ask_28 : decode cX12_ask 28 = .ok (.ireturn, 1) := by decide +kernel
theorem dX12_ask_29 : decode cX12_ask 29 = .ok (.iconst 0, 1) := by decide +kernel
theorem dX12_ask_30 : decode cX12_ask 30 = .ok (.istore 4, 2) := by decide +kernel
theorem dX12_ask_32 : decode cX12_ask 32 = .ok (.iconst 1, 1) := by decide +kernel
theorem dX12_ask_33 : decode cX12_ask 33 = .ok (.istore 5, 2) := by decide +kernel
theorem dX12_ask_35 : decode cX12_ask 35 = .ok (.iload 5, 2) := by decide +kernel
theorem dX12_ask_37 : decode cX12_ask 37 = .ok (.aload_n 0, 1) := by decide +kernel
theorem dX12_ask_38 : decode cX12_ask 38 = .ok (.getfield 351, 3) := by decide +kernel
theorem dX12_ask_41 : decode cX12_ask 41 = .ok (.if_icmp .ge 35, 3) := by decide +kernel
theorem dX12_ask_44 : decode cX12_ask 44 = .ok (.aload_n 0, 1) := by decide +kernel
theorem dX12_ask_45 : decode cX12_ask 45 = .ok (.iload_n 1, 1) := by decide +kernel
theorem dX12_ask_46 : decode cX12_ask 46 = .ok (.iload 5, 2) := by decide +kernel
theorem dX12_ask_48 : decode cX12_ask 48 = .ok (.invokevirtual 489, 3) := by decide +kernel
theorem dX12_ask_51 : decode cX12_ask 51 = .ok (.aload_n 0, 1) := by decide +kernel
theorem dX12_ask_52 : decode cX12_ask 52 = .ok (.iload_n 1, 1) := by decide +kernel
theorem dX12_ask_53 : decode cX12_ask 53 = .ok (.iload 4, 2) := by decide +kernel
theorem dX12_ask_55 : decode cX12_ask 55 = .ok (.invokevirtual 489, 3) := by decide +kernel
theorem dX12_ask_58 : decode cX12_ask 58 = .ok (.if_icmp .ge 8, 3) := by decide +kernel
theorem dX12_ask_61 : decode cX12_ask 61 = .ok (.iload 5, 2) := by decide +kernel
theorem dX12_ask_63 : decode cX12_ask 63 = .ok (.goto 5, 3) := by decide +kernel
theorem dX12_ask_66 : decode cX12_ask 66 = .ok (.iload 4, 2) := by decide +kernel
theorem dX12_ask_68 : decode cX12_ask 68 = .ok (.istore 4, 2) := by decide +kernel
theorem dX12_ask_70 : decode cX12_ask 70 = .ok (.iinc 5 1, 3) := by decide +kernel
theorem dX12_ask_73 : decode cX12_ask 73 = .ok (.goto (-38), 3) := by decide +kernel
theorem dX12_ask_76 : decode cX12_ask 76 = .ok (.iload_n 2, 1) := by decide +kernel
theorem dX12_ask_77 : decode cX12_ask 77 = .ok (.ifCond .ne 8, 3) := by decide +kernel
theorem dX12_ask_80 : decode cX12_ask 80 = .ok (.iload 4, 2) := by decide +kernel
theorem dX12_ask_82 : decode cX12_ask 82 = .ok (.goto 10, 3) := by decide +kernel
theorem dX12_ask_85 : decode cX12_ask 85 = .ok (.aload_n 0, 1) := by decide +kernel
theorem dX12_ask_86 : decode cX12_ask 86 = .ok (.iload_n 1, 1) := by decide +kernel
theorem dX12_ask_87 : decode cX12_ask 87 = .ok (.iload 4, 2) := by decide +kernel
theorem dX12_ask_89 : decode cX12_ask 89 = .ok (.invokevirtual 489, 3) := by decide +kernel
theorem dX12_ask_92 : decode cX12_ask 92 = .ok (.ireturn, 1) := by decide +kernel
theorem dX12_isBox_0 : decode cX12_isBox 0 = .ok (.iload_n 0, 1) := by decide +kernel
theorem dX12_isBox_1 : decode cX12_isBox 1 = .ok (.ifCond .lt 12, 3) := by decide +kernel
theorem dX12_isBox_4 : decode cX12_isBox 4 = .ok (.iload_n 0, 1) := by decide +kernel
theorem dX12_isBox_5 : decode cX12_isBox 5 = .ok (.iconst 3, 1) := by decide +kernel
theorem dX12_isBox_6 : decode cX12_isBox 6 = .ok (.if_icmp .ge 7, 3) := by decide +kernel
theorem dX12_isBox_9 : decode cX12_isBox 9 = .ok (.iconst 1, 1) := by decide +kernel
theorem dX12_isBox_10 : decode cX12_isBox 10 = .ok (.goto 4, 3) := by decide +kernel
theorem dX12_isBox_13 : decode cX12_isBox 13 = .ok (.iconst 0, 1) := by decide +kernel
theorem dX12_isBox_14 : decode cX12_isBox 14 = .ok (.ireturn, 1) := by decide +kernel
theorem dX12_image_0 : decode cX12_image 0 = .ok (.iload_n 1, 1) := by decide +kernel
theorem dX12_image_1 : decode cX12_image 1 = .ok (.invokestatic 492, 3) := by decide +kernel
theorem dX12_image_4 : decode cX12_image 4 = .ok (.ifCond .ne 5, 3) := by decide +kernel
theorem dX12_image_7 : decode cX12_image 7 = .ok (.iconst (-1), 1) := by decide +kernel
theorem dX12_image_8 : decode cX12_image 8 = .ok (.ireturn, 1) := by decide +kernel
theorem dX12_image_9 : decode cX12_image 9 = .ok (.aload_n 0, 1) := by decide +kernel
theorem dX12_image_10 : decode cX12_image 10 = .ok (.getfield 115, 3) := by decide +kernel
theorem dX12_image_13 : decode cX12_image 13 = .ok (.iload_n 1, 1) := by decide +kernel
theorem dX12_image_14 : decode cX12_image 14 = .ok (.iconst 1, 1) := by decide +kernel
theorem dX12_image_15 : decode cX12_image 15 = .ok (.bastore, 1) := by decide +kernel
theorem dX12_image_16 : decode cX12_image 16 = .ok (.iconst 0, 1) := by decide +kernel
theorem dX12_image_17 : decode cX12_image 17 = .ok (.istore_n 2, 1) := by decide +kernel
theorem dX12_image_18 : decode cX12_image 18 = .ok (.iload_n 2, 1) := by decide +kernel
theorem dX12_image_19 : decode cX12_image 19 = .ok (.bipush 45, 2) := by decide +kernel
theorem dX12_image_21 : decode cX12_image 21 = .ok (.if_icmp .ge 26, 3) := by decide +kernel
theorem dX12_image_24 : decode cX12_image 24 = .ok (.aload_n 0, 1) := by decide +kernel
theorem dX12_image_25 : decode cX12_image 25 = .ok (.getfield 118, 3) := by decide +kernel
theorem dX12_image_28 : decode cX12_image 28 = .ok (.bipush 45, 2) := by decide +kernel
theorem dX12_image_30 : decode cX12_image 30 = .ok (.iload_n 1, 1) := by decide +kernel
theorem dX12_image_31 : decode cX12_image 31 = .ok (.imul, 1) := by decide +kernel
theorem dX12_image_32 : decode cX12_image 32 = .ok (.iload_n 2, 1) := by decide +kernel
theorem dX12_image_33 : decode cX12_image 33 = .ok (.iadd, 1) := by decide +kernel
theorem dX12_image_34 : decode cX12_image 34 = .ok (.aload_n 0, 1) := by decide +kernel
theorem dX12_image_35 : decode cX12_image 35 = .ok (.getfield 60, 3) := by decide +kernel
theorem dX12_image_38 : decode cX12_image 38 = .ok (.iload_n 2, 1) := by decide +kernel
theorem dX12_image_39 : decode cX12_image 39 = .ok (.iaload, 1) := by decide +kernel
theorem dX12_image_40 : decode cX12_image 40 = .ok (.iastore, 1) := by decide +kernel
theorem dX12_image_41 : decode cX12_image 41 = .ok (.iinc 2 1, 3) := by decide +kernel
theorem dX12_image_44 : decode cX12_image 44 = .ok (.goto (-26), 3) := by decide +kernel
theorem dX12_image_47 : decode cX12_image 47 = .ok (.aload_n 0, 1) := by decide +kernel
theorem dX12_image_48 : decode cX12_image 48 = .ok (.getfield 60, 3) := by decide +kernel
theorem dX12_image_51 : decode cX12_image 51 = .ok (.bipush 43, 2) := by decide +kernel
theorem dX12_image_53 : decode cX12_image 53 = .ok (.iaload, 1) := by decide +kernel
theorem dX12_image_54 : decode cX12_image 54 = .ok (.ireturn, 1) := by decide +kernel
theorem dX12_back_0 : decode cX12_back 0 = .ok (.iload_n 1, 1) := by decide +kernel
theorem dX12_back_1 : decode cX12_back 1 = .ok (.invokestatic 492, 3) := by decide +kernel
theorem dX12_back_4 : decode cX12_back 4 = .ok (.ifCond .eq 12, 3) := by decide +kernel
theorem dX12_back_7 : decode cX12_back 7 = .ok (.aload_n 0, 1) := by decide +kernel
theorem dX12_back_8 : decode cX12_back 8 = .ok (.getfield 115, 3) := by decide +kernel
theorem dX12_back_11 : decode cX12_back 11 = .ok (.iload_n 1, 1) := by decide +kernel
theorem dX12_back_12 : decode cX12_back 12 = .ok (.baload, 1) := by decide +kernel
theorem dX12_back_13 : decode cX12_back 13 = .ok (.ifCond .ne 5, 3) := by decide +kernel
theorem dX12_back_16 : decode cX12_back 16 = .ok (.iconst (-1), 1) := by decide +kernel
theorem dX12_back_17 : decode cX12_back 17 = .ok (.ireturn, 1) := by decide +kernel
theorem dX12_back_18 : decode cX12_back 18 = .ok (.iconst 0, 1) := by decide +kernel
theorem dX12_back_19 : decode cX12_back 19 = .ok (.istore_n 2, 1) := by decide +kernel
theorem dX12_back_20 : decode cX12_back 20 = .ok (.iload_n 2, 1) := by decide +kernel
theorem dX12_back_21 : decode cX12_back 21 = .ok (.bipush 45, 2) := by decide +kernel
theorem dX12_back_23 : decode cX12_back 23 = .ok (.if_icmp .ge 26, 3) := by decide +kernel
theorem dX12_back_26 : decode cX12_back 26 = .ok (.aload_n 0, 1) := by decide +kernel
theorem dX12_back_27 : decode cX12_back 27 = .ok (.getfield 60, 3) := by decide +kernel
theorem dX12_back_30 : decode cX12_back 30 = .ok (.iload_n 2, 1) := by decide +kernel
theorem dX12_back_31 : decode cX12_back 31 = .ok (.aload_n 0, 1) := by decide +kernel
theorem dX12_back_32 : decode cX12_back 32 = .ok (.getfield 118, 3) := by decide +kernel
theorem dX12_back_35 : decode cX12_back 35 = .ok (.bipush 45, 2) := by decide +kernel
theorem dX12_back_37 : decode cX12_back 37 = .ok (.iload_n 1, 1) := by decide +kernel
theorem dX12_back_38 : decode cX12_back 38 = .ok (.imul, 1) := by decide +kernel
theorem dX12_back_39 : decode cX12_back 39 = .ok (.iload_n 2, 1) := by decide +kernel
theorem dX12_back_40 : decode cX12_back 40 = .ok (.iadd, 1) := by decide +kernel
theorem dX12_back_41 : decode cX12_back 41 = .ok (.iaload, 1) := by decide +kernel
theorem dX12_back_42 : decode cX12_back 42 = .ok (.iastore, 1) := by decide +kernel
theorem dX12_back_43 : decode cX12_back 43 = .ok (.iinc 2 1, 3) := by decide +kernel
theorem dX12_back_46 : decode cX12_back 46 = .ok (.goto (-26), 3) := by decide +kernel
theorem dX12_back_49 : decode cX12_back 49 = .ok (.aload_n 0, 1) := by decide +kernel
theorem dX12_back_50 : decode cX12_back 50 = .ok (.iconst 0, 1) := by decide +kernel
theorem dX12_back_51 : decode cX12_back 51 = .ok (.putfield 372, 3) := by decide +kernel
theorem dX12_back_54 : decode cX12_back 54 = .ok (.aload_n 0, 1) := by decide +kernel
theorem dX12_back_55 : decode cX12_back 55 = .ok (.iconst 0, 1) := by decide +kernel
theorem dX12_back_56 : decode cX12_back 56 = .ok (.putfield 375, 3) := by decide +kernel
theorem dX12_back_59 : decode cX12_back 59 = .ok (.aload_n 0, 1) := by decide +kernel
theorem dX12_back_60 : decode cX12_back 60 = .ok (.getfield 60, 3) := by decide +kernel
theorem dX12_back_63 : decode cX12_back 63 = .ok (.bipush 43, 2) := by decide +kernel
theorem dX12_back_65 : decode cX12_back 65 = .ok (.iaload, 1) := by decide +kernel
theorem dX12_back_66 : decode cX12_back 66 = .ok (.ireturn, 1) := by decide +kernel
theorem dX12_about_0 : decode cX12_about 0 = .ok (.iload_n 1, 1) := by decide +kernel
theorem dX12_about_1 : decode cX12_about 1 = .ok (.tableswitch 150 0 13 #[71, 76, 81, 86, 94, 102, 110, 115, 120, 125, 130, 135, 140, 145], 71) := by decide +kernel
theorem dX12_about_72 : decode cX12_about 72 = .ok (.aload_n 0, 1) := by decide +kernel
theorem dX12_about_73 : decode cX12_about 73 = .ok (.getfield 348, 3) := by decide +kernel
theorem dX12_about_76 : decode cX12_about 76 = .ok (.ireturn, 1) := by decide +kernel
theorem dX12_about_77 : decode cX12_about 77 = .ok (.aload_n 0, 1) := by decide +kernel
theorem dX12_about_78 : decode cX12_about 78 = .ok (.getfield 351, 3) := by decide +kernel
theorem dX12_about_81 : decode cX12_about 81 = .ok (.ireturn, 1) := by decide +kernel
theorem dX12_about_82 : decode cX12_about 82 = .ok (.aload_n 0, 1) := by decide +kernel
theorem dX12_about_83 : decode cX12_about 83 = .ok (.getfield 354, 3) := by decide +kernel
theorem dX12_about_86 : decode cX12_about 86 = .ok (.ireturn, 1) := by decide +kernel
theorem dX12_about_87 : decode cX12_about 87 = .ok (.aload_n 0, 1) := by decide +kernel
theorem dX12_about_88 : decode cX12_about 88 = .ok (.getfield 60, 3) := by decide +kernel
theorem dX12_about_91 : decode cX12_about 91 = .ok (.bipush 12, 2) := by decide +kernel
theorem dX12_about_93 : decode cX12_about 93 = .ok (.iaload, 1) := by decide +kernel
theorem dX12_about_94 : decode cX12_about 94 = .ok (.ireturn, 1) := by decide +kernel
theorem dX12_about_95 : decode cX12_about 95 = .ok (.aload_n 0, 1) := by decide +kernel
theorem dX12_about_96 : decode cX12_about 96 = .ok (.getfield 60, 3) := by decide +kernel
theorem dX12_about_99 : decode cX12_about 99 = .ok (.bipush 43, 2) := by decide +kernel
theorem dX12_about_101 : decode cX12_about 101 = .ok (.iaload, 1) := by decide +kernel
theorem dX12_about_102 : decode cX12_about 102 = .ok (.ireturn, 1) := by decide +kernel
theorem dX12_about_103 : decode cX12_about 103 = .ok (.aload_n 0, 1) := by decide +kernel
theorem dX12_about_104 : decode cX12_about 104 = .ok (.getfield 60, 3) := by decide +kernel
theorem dX12_about_107 : decode cX12_about 107 = .ok (.bipush 44, 2) := by decide +kernel
theorem dX12_about_109 : decode cX12_about 109 = .ok (.iaload, 1) := by decide +kernel
theorem dX12_about_110 : decode cX12_about 110 = .ok (.ireturn, 1) := by decide +kernel
theorem dX12_about_111 : decode cX12_about 111 = .ok (.aload_n 0, 1) := by decide +kernel
theorem dX12_about_112 : decode cX12_about 112 = .ok (.getfield 372, 3) := by decide +kernel
theorem dX12_about_115 : decode cX12_about 115 = .ok (.ireturn, 1) := by decide +kernel
theorem dX12_about_116 : decode cX12_about 116 = .ok (.aload_n 0, 1) := by decide +kernel
theorem dX12_about_117 : decode cX12_about 117 = .ok (.getfield 375, 3) := by decide +kernel
theorem dX12_about_120 : decode cX12_about 120 = .ok (.ireturn, 1) := by decide +kernel
theorem dX12_about_121 : decode cX12_about 121 = .ok (.aload_n 0, 1) := by decide +kernel
theorem dX12_about_122 : decode cX12_about 122 = .ok (.getfield 378, 3) := by decide +kernel
theorem dX12_about_125 : decode cX12_about 125 = .ok (.ireturn, 1) := by decide +kernel
theorem dX12_about_126 : decode cX12_about 126 = .ok (.aload_n 0, 1) := by decide +kernel
theorem dX12_about_127 : decode cX12_about 127 = .ok (.getfield 476, 3) := by decide +kernel
theorem dX12_about_130 : decode cX12_about 130 = .ok (.ireturn, 1) := by decide +kernel
theorem dX12_about_131 : decode cX12_about 131 = .ok (.aload_n 0, 1) := by decide +kernel
theorem dX12_about_132 : decode cX12_about 132 = .ok (.getfield 121, 3) := by decide +kernel
theorem dX12_about_135 : decode cX12_about 135 = .ok (.ireturn, 1) := by decide +kernel
theorem dX12_about_136 : decode cX12_about 136 = .ok (.aload_n 0, 1) := by decide +kernel
theorem dX12_about_137 : decode cX12_about 137 = .ok (.getfield 363, 3) := by decide +kernel
theorem dX12_about_140 : decode cX12_about 140 = .ok (.ireturn, 1) := by decide +kernel
theorem dX12_about_141 : decode cX12_about 141 = .ok (.aload_n 0, 1) := by decide +kernel
theorem dX12_about_142 : decode cX12_about 142 = .ok (.getfield 381, 3) := by decide +kernel
theorem dX12_about_145 : decode cX12_about 145 = .ok (.ireturn, 1) := by decide +kernel
theorem dX12_about_146 : decode cX12_about 146 = .ok (.aload_n 0, 1) := by decide +kernel
theorem dX12_about_147 : decode cX12_about 147 = .ok (.getfield 360, 3) := by decide +kernel
theorem dX12_about_150 : decode cX12_about 150 = .ok (.ireturn, 1) := by decide +kernel
theorem dX12_about_151 : decode cX12_about 151 = .ok (.iconst (-1), 1) := by decide +kernel
theorem dX12_about_152 : decode cX12_about 152 = .ok (.ireturn, 1) := by decide +kernel
theorem dJ6_bitCount_0f7a4_0 : decode cJ6_bitCount_0f7a4 0 = .ok (.iload_n 0, 1) := by decide +kernel
theorem dJ6_bitCount_0f7a4_1 : decode cJ6_bitCount_0f7a4 1 = .ok (.iload_n 0, 1) := by decide +kernel
theorem dJ6_bitCount_0f7a4_2 : decode cJ6_bitCount_0f7a4 2 = .ok (.iconst 1, 1) := by decide +kernel
theorem dJ6_bitCount_0f7a4_3 : decode cJ6_bitCount_0f7a4 3 = .ok (.iushr, 1) := by decide +kernel
theorem dJ6_bitCount_0f7a4_4 : decode cJ6_bitCount_0f7a4 4 = .ok (.ldc_w 265, 3) := by decide +kernel
theorem dJ6_bitCount_0f7a4_7 : decode cJ6_bitCount_0f7a4 7 = .ok (.iand, 1) := by decide +kernel
theorem dJ6_bitCount_0f7a4_8 : decode cJ6_bitCount_0f7a4 8 = .ok (.isub, 1) := by decide +kernel
theorem dJ6_bitCount_0f7a4_9 : decode cJ6_bitCount_0f7a4 9 = .ok (.istore_n 0, 1) := by decide +kernel
theorem dJ6_bitCount_0f7a4_10 : decode cJ6_bitCount_0f7a4 10 = .ok (.iload_n 0, 1) := by decide +kernel
theorem dJ6_bitCount_0f7a4_11 : decode cJ6_bitCount_0f7a4 11 = .ok (.ldc_w 266, 3) := by decide +kernel
theorem dJ6_bitCount_0f7a4_14 : decode cJ6_bitCount_0f7a4 14 = .ok (.iand, 1) := by decide +kernel
theorem dJ6_bitCount_0f7a4_15 : decode cJ6_bitCount_0f7a4 15 = .ok (.iload_n 0, 1) := by decide +kernel
theorem dJ6_bitCount_0f7a4_16 : decode cJ6_bitCount_0f7a4 16 = .ok (.iconst 2, 1) := by decide +kernel
theorem dJ6_bitCount_0f7a4_17 : decode cJ6_bitCount_0f7a4 17 = .ok (.iushr, 1) := by decide +kernel
theorem dJ6_bitCount_0f7a4_18 : decode cJ6_bitCount_0f7a4 18 = .ok (.ldc_w 266, 3) := by decide +kernel
theorem dJ6_bitCount_0f7a4_21 : decode cJ6_bitCount_0f7a4 21 = .ok (.iand, 1) := by decide +kernel
theorem dJ6_bitCount_0f7a4_22 : decode cJ6_bitCount_0f7a4 22 = .ok (.iadd, 1) := by decide +kernel
theorem dJ6_bitCount_0f7a4_23 : decode cJ6_bitCount_0f7a4 23 = .ok (.istore_n 0, 1) := by decide +kernel
theorem dJ6_bitCount_0f7a4_24 : decode cJ6_bitCount_0f7a4 24 = .ok (.iload_n 0, 1) := by decide +kernel
theorem dJ6_bitCount_0f7a4_25 : decode cJ6_bitCount_0f7a4 25 = .ok (.iload_n 0, 1) := by decide +kernel
theorem dJ6_bitCount_0f7a4_26 : decode cJ6_bitCount_0f7a4 26 = .ok (.iconst 4, 1) := by decide +kernel
theorem dJ6_bitCount_0f7a4_27 : decode cJ6_bitCount_0f7a4 27 = .ok (.iushr, 1) := by decide +kernel
theorem dJ6_bitCount_0f7a4_28 : decode cJ6_bitCount_0f7a4 28 = .ok (.iadd, 1) := by decide +kernel
theorem dJ6_bitCount_0f7a4_29 : decode cJ6_bitCount_0f7a4 29 = .ok (.ldc_w 267, 3) := by decide +kernel
theorem dJ6_bitCount_0f7a4_32 : decode cJ6_bitCount_0f7a4 32 = .ok (.iand, 1) := by decide +kernel
theorem dJ6_bitCount_0f7a4_33 : decode cJ6_bitCount_0f7a4 33 = .ok (.istore_n 0, 1) := by decide +kernel
theorem dJ6_bitCount_0f7a4_34 : decode cJ6_bitCount_0f7a4 34 = .ok (.iload_n 0, 1) := by decide +kernel
theorem dJ6_bitCount_0f7a4_35 : decode cJ6_bitCount_0f7a4 35 = .ok (.iload_n 0, 1) := by decide +kernel
theorem dJ6_bitCount_0f7a4_36 : decode cJ6_bitCount_0f7a4 36 = .ok (.bipush 8, 2) := by decide +kernel
theorem dJ6_bitCount_0f7a4_38 : decode cJ6_bitCount_0f7a4 38 = .ok (.iushr, 1) := by decide +kernel
theorem dJ6_bitCount_0f7a4_39 : decode cJ6_bitCount_0f7a4 39 = .ok (.iadd, 1) := by decide +kernel
theorem dJ6_bitCount_0f7a4_40 : decode cJ6_bitCount_0f7a4 40 = .ok (.istore_n 0, 1) := by decide +kernel
theorem dJ6_bitCount_0f7a4_41 : decode cJ6_bitCount_0f7a4 41 = .ok (.iload_n 0, 1) := by decide +kernel
theorem dJ6_bitCount_0f7a4_42 : decode cJ6_bitCount_0f7a4 42 = .ok (.iload_n 0, 1) := by decide +kernel
theorem dJ6_bitCount_0f7a4_43 : decode cJ6_bitCount_0f7a4 43 = .ok (.bipush 16, 2) := by decide +kernel
theorem dJ6_bitCount_0f7a4_45 : decode cJ6_bitCount_0f7a4 45 = .ok (.iushr, 1) := by decide +kernel
theorem dJ6_bitCount_0f7a4_46 : decode cJ6_bitCount_0f7a4 46 = .ok (.iadd, 1) := by decide +kernel
theorem dJ6_bitCount_0f7a4_47 : decode cJ6_bitCount_0f7a4 47 = .ok (.istore_n 0, 1) := by decide +kernel
theorem dJ6_bitCount_0f7a4_48 : decode cJ6_bitCount_0f7a4 48 = .ok (.iload_n 0, 1) := by decide +kernel
theorem dJ6_bitCount_0f7a4_49 : decode cJ6_bitCount_0f7a4 49 = .ok (.bipush 63, 2) := by decide +kernel
theorem dJ6_bitCount_0f7a4_51 : decode cJ6_bitCount_0f7a4 51 = .ok (.iand, 1) := by decide +kernel
theorem dJ6_bitCount_0f7a4_52 : decode cJ6_bitCount_0f7a4 52 = .ok (.ireturn, 1) := by decide +kernel
theorem dJ9_max_7cf53_0 : decode cJ9_max_7cf53 0 = .ok (.iload_n 0, 1) := by decide +kernel
theorem dJ9_max_7cf53_1 : decode cJ9_max_7cf53 1 = .ok (.iload_n 1, 1) := by decide +kernel
theorem dJ9_max_7cf53_2 : decode cJ9_max_7cf53 2 = .ok (.if_icmp .lt 7, 3) := by decide +kernel
theorem dJ9_max_7cf53_5 : decode cJ9_max_7cf53 5 = .ok (.iload_n 0, 1) := by decide +kernel
theorem dJ9_max_7cf53_6 : decode cJ9_max_7cf53 6 = .ok (.goto 4, 3) := by decide +kernel
theorem dJ9_max_7cf53_9 : decode cJ9_max_7cf53 9 = .ok (.iload_n 1, 1) := by decide +kernel
theorem dJ9_max_7cf53_10 : decode cJ9_max_7cf53 10 = .ok (.ireturn, 1) := by decide +kernel
theorem dJ9_min_7cf53_0 : decode cJ9_min_7cf53 0 = .ok (.iload_n 0, 1) := by decide +kernel
theorem dJ9_min_7cf53_1 : decode cJ9_min_7cf53 1 = .ok (.iload_n 1, 1) := by decide +kernel
theorem dJ9_min_7cf53_2 : decode cJ9_min_7cf53 2 = .ok (.if_icmp .gt 7, 3) := by decide +kernel
theorem dJ9_min_7cf53_5 : decode cJ9_min_7cf53 5 = .ok (.iload_n 0, 1) := by decide +kernel
theorem dJ9_min_7cf53_6 : decode cJ9_min_7cf53 6 = .ok (.goto 4, 3) := by decide +kernel
theorem dJ9_min_7cf53_9 : decode cJ9_min_7cf53 9 = .ok (.iload_n 1, 1) := by decide +kernel
theorem dJ9_min_7cf53_10 : decode cJ9_min_7cf53 10 = .ok (.ireturn, 1) := by decide +kernel
theorem dJ7_fill_53178_0 : decode cJ7_fill_53178 0 = .ok (.iconst 0, 1) := by decide +kernel
theorem dJ7_fill_53178_1 : decode cJ7_fill_53178 1 = .ok (.istore_n 2, 1) := by decide +kernel
theorem dJ7_fill_53178_2 : decode cJ7_fill_53178 2 = .ok (.aload_n 0, 1) := by decide +kernel
theorem dJ7_fill_53178_3 : decode cJ7_fill_53178 3 = .ok (.arraylength, 1) := by decide +kernel
theorem dJ7_fill_53178_4 : decode cJ7_fill_53178 4 = .ok (.istore_n 3, 1) := by decide +kernel
theorem dJ7_fill_53178_5 : decode cJ7_fill_53178 5 = .ok (.iload_n 2, 1) := by decide +kernel
theorem dJ7_fill_53178_6 : decode cJ7_fill_53178 6 = .ok (.iload_n 3, 1) := by decide +kernel
theorem dJ7_fill_53178_7 : decode cJ7_fill_53178 7 = .ok (.if_icmp .ge 13, 3) := by decide +kernel
theorem dJ7_fill_53178_10 : decode cJ7_fill_53178 10 = .ok (.aload_n 0, 1) := by decide +kernel
theorem dJ7_fill_53178_11 : decode cJ7_fill_53178 11 = .ok (.iload_n 2, 1) := by decide +kernel
theorem dJ7_fill_53178_12 : decode cJ7_fill_53178 12 = .ok (.iload_n 1, 1) := by decide +kernel
theorem dJ7_fill_53178_13 : decode cJ7_fill_53178 13 = .ok (.iastore, 1) := by decide +kernel
theorem dJ7_fill_53178_14 : decode cJ7_fill_53178 14 = .ok (.iinc 2 1, 3) := by decide +kernel
theorem dJ7_fill_53178_17 : decode cJ7_fill_53178 17 = .ok (.goto (-12), 3) := by decide +kernel
theorem dJ7_fill_53178_20 : decode cJ7_fill_53178 20 = .ok (.return_, 1) := by decide +kernel
theorem dL_law_0 : decode cL_law 0 = .ok (.new 7, 3) := by decide +kernel
theorem dL_law_3 : decode cL_law 3 = .ok (.dup, 1) := by decide +kernel
theorem dL_law_4 : decode cL_law 4 = .ok (.invokespecial 9, 3) := by decide +kernel
theorem dL_law_7 : decode cL_law 7 = .ok (.astore_n 1, 1) := by decide +kernel
theorem dL_law_8 : decode cL_law 8 = .ok (.new 10, 3) := by decide +kernel
theorem dL_law_11 : decode cL_law 11 = .ok (.dup, 1) := by decide +kernel
theorem dL_law_12 : decode cL_law 12 = .ok (.invokespecial 12, 3) := by decide +kernel
theorem dL_law_15 : decode cL_law 15 = .ok (.astore_n 2, 1) := by decide +kernel
theorem dL_law_16 : decode cL_law 16 = .ok (.iconst 0, 1) := by decide +kernel
theorem dL_law_17 : decode cL_law 17 = .ok (.istore_n 3, 1) := by decide +kernel
theorem dL_law_18 : decode cL_law 18 = .ok (.iload_n 3, 1) := by decide +kernel
theorem dL_law_19 : decode cL_law 19 = .ok (.aload_n 0, 1) := by decide +kernel
theorem dL_law_20 : decode cL_law 20 = .ok (.arraylength, 1) := by decide +kernel
theorem dL_law_21 : decode cL_law 21 = .ok (.bipush 6, 2) := by decide +kernel
theorem dL_law_23 : decode cL_law 23 = .ok (.isub, 1) := by decide +kernel
theorem dL_law_24 : decode cL_law 24 = .ok (.if_icmp .gt 1452, 3) := by decide +kernel
theorem dL_law_27 : decode cL_law 27 = .ok (.aload_n 0, 1) := by decide +kernel
theorem dL_law_28 : decode cL_law 28 = .ok (.iload_n 3, 1) := by decide +kernel
theorem dL_law_29 : decode cL_law 29 = .ok (.iaload, 1) := by decide +kernel
theorem dL_law_30 : decode cL_law 30 = .ok (.bipush 63, 2) := by decide +kernel
theorem dL_law_32 : decode cL_law 32 = .ok (.iand, 1) := by decide +kernel
theorem dL_law_33 : decode cL_law 33 = .ok (.tableswitch 1437 0 47 #[207, 270, 293, 306, 329, 362, 395, 428, 451, 474, 487, 530, 553, 576, 609, 622, 635, 678, 711, 734, 747, 770, 793, 816, 839, 872, 895, 918, 951, 974, 987, 1000, 1013, 1026, 1039, 1052, 1075, 1098, 1131, 1154, 1223, 1246, 1269, 1292, 1325, 1368, 1391, 1414], 207) := by decide +kernel
theorem dL_law_240 : decode cL_law 240 = .ok (.aload_n 1, 1) := by decide +kernel
theorem dL_law_241 : decode cL_law 241 = .ok (.aload_n 0, 1) := by decide +kernel
theorem dL_law_242 : decode cL_law 242 = .ok (.iload_n 3, 1) := by decide +kernel
theorem dL_law_243 : decode cL_law 243 = .ok (.iconst 1, 1) := by decide +kernel
theorem dL_law_244 : decode cL_law 244 = .ok (.iadd, 1) := by decide +kernel
theorem dL_law_245 : decode cL_law 245 = .ok (.iaload, 1) := by decide +kernel
theorem dL_law_246 : decode cL_law 246 = .ok (.aload_n 0, 1) := by decide +kernel
theorem dL_law_247 : decode cL_law 247 = .ok (.iload_n 3, 1) := by decide +kernel
theorem dL_law_248 : decode cL_law 248 = .ok (.iconst 2, 1) := by decide +kernel
theorem dL_law_249 : decode cL_law 249 = .ok (.iadd, 1) := by decide +kernel
theorem dL_law_250 : decode cL_law 250 = .ok (.iaload, 1) := by decide +kernel
theorem dL_law_251 : decode cL_law 251 = .ok (.aload_n 0, 1) := by decide +kernel
theorem dL_law_252 : decode cL_law 252 = .ok (.iload_n 3, 1) := by decide +kernel
theorem dL_law_253 : decode cL_law 253 = .ok (.iconst 3, 1) := by decide +kernel
theorem dL_law_254 : decode cL_law 254 = .ok (.iadd, 1) := by decide +kernel
theorem dL_law_255 : decode cL_law 255 = .ok (.iaload, 1) := by decide +kernel
theorem dL_law_256 : decode cL_law 256 = .ok (.aload_n 0, 1) := by decide +kernel
theorem dL_law_257 : decode cL_law 257 = .ok (.iload_n 3, 1) := by decide +kernel
theorem dL_law_258 : decode cL_law 258 = .ok (.iconst 4, 1) := by decide +kernel
theorem dL_law_259 : decode cL_law 259 = .ok (.iadd, 1) := by decide +kernel
theorem dL_law_260 : decode cL_law 260 = .ok (.iaload, 1) := by decide +kernel
theorem dL_law_261 : decode cL_law 261 = .ok (.aload_n 0, 1) := by decide +kernel
theorem dL_law_262 : decode cL_law 262 = .ok (.iload_n 3, 1) := by decide +kernel
theorem dL_law_263 : decode cL_law 263 = .ok (.iconst 5, 1) := by decide +kernel
theorem dL_law_264 : decode cL_law 264 = .ok (.iadd, 1) := by decide +kernel
theorem dL_law_265 : decode cL_law 265 = .ok (.iaload, 1) := by decide +kernel
theorem dL_law_266 : decode cL_law 266 = .ok (.invokevirtual 13, 3) := by decide +kernel
theorem dL_law_269 : decode cL_law 269 = .ok (.aload_n 2, 1) := by decide +kernel
theorem dL_law_270 : decode cL_law 270 = .ok (.aload_n 0, 1) := by decide +kernel
theorem dL_law_271 : decode cL_law 271 = .ok (.iload_n 3, 1) := by decide +kernel
theorem dL_law_272 : decode cL_law 272 = .ok (.iconst 1, 1) := by decide +kernel
theorem dL_law_273 : decode cL_law 273 = .ok (.iadd, 1) := by decide +kernel
theorem dL_law_274 : decode cL_law 274 = .ok (.iaload, 1) := by decide +kernel
theorem dL_law_275 : decode cL_law 275 = .ok (.aload_n 0, 1) := by decide +kernel
theorem dL_law_276 : decode cL_law 276 = .ok (.iload_n 3, 1) := by decide +kernel
theorem dL_law_277 : decode cL_law 277 = .ok (.iconst 2, 1) := by decide +kernel
theorem dL_law_278 : decode cL_law 278 = .ok (.iadd, 1) := by decide +kernel
theorem dL_law_279 : decode cL_law 279 = .ok (.iaload, 1) := by decide +kernel
theorem dL_law_280 : decode cL_law 280 = .ok (.aload_n 0, 1) := by decide +kernel
theorem dL_law_281 : decode cL_law 281 = .ok (.iload_n 3, 1) := by decide +kernel
theorem dL_law_282 : decode cL_law 282 = .ok (.iconst 3, 1) := by decide +kernel
theorem dL_law_283 : decode cL_law 283 = .ok (.iadd, 1) := by decide +kernel
theorem dL_law_284 : decode cL_law 284 = .ok (.iaload, 1) := by decide +kernel
theorem dL_law_285 : decode cL_law 285 = .ok (.aload_n 0, 1) := by decide +kernel
theorem dL_law_286 : decode cL_law 286 = .ok (.iload_n 3, 1) := by decide +kernel
theorem dL_law_287 : decode cL_law 287 = .ok (.iconst 4, 1) := by decide +kernel
theorem dL_law_288 : decode cL_law 288 = .ok (.iadd, 1) := by decide +kernel
theorem dL_law_289 : decode cL_law 289 = .ok (.iaload, 1) := by decide +kernel
theorem dL_law_290 : decode cL_law 290 = .ok (.aload_n 0, 1) := by decide +kernel
theorem dL_law_291 : decode cL_law 291 = .ok (.iload_n 3, 1) := by decide +kernel
theorem dL_law_292 : decode cL_law 292 = .ok (.iconst 5, 1) := by decide +kernel
theorem dL_law_293 : decode cL_law 293 = .ok (.iadd, 1) := by decide +kernel
theorem dL_law_294 : decode cL_law 294 = .ok (.iaload, 1) := by decide +kernel
theorem dL_law_295 : decode cL_law 295 = .ok (.invokevirtual 17, 3) := by decide +kernel
theorem dL_law_298 : decode cL_law 298 = .ok (.if_icmp .eq 1172, 3) := by decide +kernel
theorem dL_law_301 : decode cL_law 301 = .ok (.iconst 0, 1) := by decide +kernel
theorem dL_law_302 : decode cL_law 302 = .ok (.ireturn, 1) := by decide +kernel
theorem dL_law_303 : decode cL_law 303 = .ok (.aload_n 1, 1) := by decide +kernel
theorem dL_law_304 : decode cL_law 304 = .ok (.aload_n 0, 1) := by decide +kernel
theorem dL_law_305 : decode cL_law 305 = .ok (.iload_n 3, 1) := by decide +kernel
theorem dL_law_306 : decode cL_law 306 = .ok (.iconst 1, 1) := by decide +kernel
theorem dL_law_307 : decode cL_law 307 = .ok (.iadd, 1) := by decide +kernel
theorem dL_law_308 : decode cL_law 308 = .ok (.iaload, 1) := by decide +kernel
theorem dL_law_309 : decode cL_law 309 = .ok (.invokevirtual 18, 3) := by decide +kernel
theorem dL_law_312 : decode cL_law 312 = .ok (.aload_n 2, 1) := by decide +kernel
theorem dL_law_313 : decode cL_law 313 = .ok (.aload_n 0, 1) := by decide +kernel
theorem dL_law_314 : decode cL_law 314 = .ok (.iload_n 3, 1) := by decide +kernel
theorem dL_law_315 : decode cL_law 315 = .ok (.iconst 1, 1) := by decide +kernel
theorem dL_law_316 : decode cL_law 316 = .ok (.iadd, 1) := by decide +kernel
theorem dL_law_317 : decode cL_law 317 = .ok (.iaload, 1) := by decide +kernel
theorem dL_law_318 : decode cL_law 318 = .ok (.invokevirtual 22, 3) := by decide +kernel
theorem dL_law_321 : decode cL_law 321 = .ok (.if_icmp .eq 1149, 3) := by decide +kernel
theorem dL_law_324 : decode cL_law 324 = .ok (.iconst 0, 1) := by decide +kernel
theorem dL_law_325 : decode cL_law 325 = .ok (.ireturn, 1) := by decide +kernel
theorem dL_law_326 : decode cL_law 326 = .ok (.aload_n 1, 1) := by decide +kernel
theorem dL_law_327 : decode cL_law 327 = .ok (.invokevirtual 23, 3) := by decide +kernel
theorem dL_law_330 : decode cL_law 330 = .ok (.aload_n 2, 1) := by decide +kernel
theorem dL_law_331 : decode cL_law 331 = .ok (.invokevirtual 27, 3) := by decide +kernel
theorem dL_law_334 : decode cL_law 334 = .ok (.if_icmp .eq 1136, 3) := by decide +kernel
theorem dL_law_337 : decode cL_law 337 = .ok (.iconst 0, 1) := by decide +kernel
theorem dL_law_338 : decode cL_law 338 = .ok (.ireturn, 1) := by decide +kernel
theorem dL_law_339 : decode cL_law 339 = .ok (.aload_n 1, 1) := by decide +kernel
theorem dL_law_340 : decode cL_law 340 = .ok (.aload_n 0, 1) := by decide +kernel
theorem dL_law_341 : decode cL_law 341 = .ok (.iload_n 3, 1) := by decide +kernel
theorem dL_law_342 : decode cL_law 342 = .ok (.iconst 1, 1) := by decide +kernel
theorem dL_law_343 : decode cL_law 343 = .ok (.iadd, 1) := by decide +kernel
theorem dL_law_344 : decode cL_law 344 = .ok (.iaload, 1) := by decide +kernel
theorem dL_law_345 : decode cL_law 345 = .ok (.invokevirtual 28, 3) := by decide +kernel
theorem dL_law_348 : decode cL_law 348 = .ok (.aload_n 2, 1) := by decide +kernel
theorem dL_law_349 : decode cL_law 349 = .ok (.aload_n 0, 1) := by decide +kernel
theorem dL_law_350 : decode cL_law 350 = .ok (.iload_n 3, 1) := by decide +kernel
theorem dL_law_351 : decode cL_law 351 = .ok (.iconst 1, 1) := by decide +kernel
theorem dL_law_352 : decode cL_law 352 = .ok (.iadd, 1) := by decide +kernel
theorem dL_law_353 : decode cL_law 353 = .ok (.iaload, 1) := by decide +kernel
theorem dL_law_354 : decode cL_law 354 = .ok (.invokevirtual 31, 3) := by decide +kernel
theorem dL_law_357 : decode cL_law 357 = .ok (.if_icmp .eq 1113, 3) := by decide +kernel
theorem dL_law_360 : decode cL_law 360 = .ok (.iconst 0, 1) := by decide +kernel
theorem dL_law_361 : decode cL_law 361 = .ok (.ireturn, 1) := by decide +kernel
theorem dL_law_362 : decode cL_law 362 = .ok (.aload_n 1, 1) := by decide +kernel
theorem dL_law_363 : decode cL_law 363 = .ok (.aload_n 0, 1) := by decide +kernel
theorem dL_law_364 : decode cL_law 364 = .ok (.iload_n 3, 1) := by decide +kernel
theorem dL_law_365 : decode cL_law 365 = .ok (.iconst 1, 1) := by decide +kernel
theorem dL_law_366 : decode cL_law 366 = .ok (.iadd, 1) := by decide +kernel
theorem dL_law_367 : decode cL_law 367 = .ok (.iaload, 1) := by decide +kernel
theorem dL_law_368 : decode cL_law 368 = .ok (.aload_n 0, 1) := by decide +kernel
theorem dL_law_369 : decode cL_law 369 = .ok (.iload_n 3, 1) := by decide +kernel
theorem dL_law_370 : decode cL_law 370 = .ok (.iconst 2, 1) := by decide +kernel
theorem dL_law_371 : decode cL_law 371 = .ok (.iadd, 1) := by decide +kernel
theorem dL_law_372 : decode cL_law 372 = .ok (.iaload, 1) := by decide +kernel
theorem dL_law_373 : decode cL_law 373 = .ok (.invokevirtual 32, 3) := by decide +kernel
theorem dL_law_376 : decode cL_law 376 = .ok (.aload_n 2, 1) := by decide +kernel
theorem dL_law_377 : decode cL_law 377 = .ok (.aload_n 0, 1) := by decide +kernel
theorem dL_law_378 : decode cL_law 378 = .ok (.iload_n 3, 1) := by decide +kernel
theorem dL_law_379 : decode cL_law 379 = .ok (.iconst 1, 1) := by decide +kernel
theorem dL_law_380 : decode cL_law 380 = .ok (.iadd, 1) := by decide +kernel
theorem dL_law_381 : decode cL_law 381 = .ok (.iaload, 1) := by decide +kernel
theorem dL_law_382 : decode cL_law 382 = .ok (.aload_n 0, 1) := by decide +kernel
theorem dL_law_383 : decode cL_law 383 = .ok (.iload_n 3, 1) := by decide +kernel
theorem dL_law_384 : decode cL_law 384 = .ok (.iconst 2, 1) := by decide +kernel
theorem dL_law_385 : decode cL_law 385 = .ok (.iadd, 1) := by decide +kernel
theorem dL_law_386 : decode cL_law 386 = .ok (.iaload, 1) := by decide +kernel
theorem dL_law_387 : decode cL_law 387 = .ok (.invokevirtual 36, 3) := by decide +kernel
theorem dL_law_390 : decode cL_law 390 = .ok (.if_icmp .eq 1080, 3) := by decide +kernel
theorem dL_law_393 : decode cL_law 393 = .ok (.iconst 0, 1) := by decide +kernel
theorem dL_law_394 : decode cL_law 394 = .ok (.ireturn, 1) := by decide +kernel
theorem dL_law_395 : decode cL_law 395 = .ok (.aload_n 1, 1) := by decide +kernel
theorem dL_law_396 : decode cL_law 396 = .ok (.aload_n 0, 1) := by decide +kernel
theorem dL_law_397 : decode cL_law 397 = .ok (.iload_n 3, 1) := by decide +kernel
theorem dL_law_398 : decode cL_law 398 = .ok (.iconst 1, 1) := by decide +kernel
theorem dL_law_399 : decode cL_law 399 = .ok (.iadd, 1) := by decide +kernel
theorem dL_law_400 : decode cL_law 400 = .ok (.iaload, 1) := by decide +kernel
theorem dL_law_401 : decode cL_law 401 = .ok (.aload_n 0, 1) := by decide +kernel
theorem dL_law_402 : decode cL_law 402 = .ok (.iload_n 3, 1) := by decide +kernel
theorem dL_law_403 : decode cL_law 403 = .ok (.iconst 2, 1) := by decide +kernel
theorem dL_law_404 : decode cL_law 404 = .ok (.iadd, 1) := by decide +kernel
theorem dL_law_405 : decode cL_law 405 = .ok (.iaload, 1) := by decide +kernel
theorem dL_law_406 : decode cL_law 406 = .ok (.invokevirtual 37, 3) := by decide +kernel
theorem dL_law_409 : decode cL_law 409 = .ok (.aload_n 2, 1) := by decide +kernel
theorem dL_law_410 : decode cL_law 410 = .ok (.aload_n 0, 1) := by decide +kernel
theorem dL_law_411 : decode cL_law 411 = .ok (.iload_n 3, 1) := by decide +kernel
theorem dL_law_412 : decode cL_law 412 = .ok (.iconst 1, 1) := by decide +kernel
theorem dL_law_413 : decode cL_law 413 = .ok (.iadd, 1) := by decide +kernel
theorem dL_law_414 : decode cL_law 414 = .ok (.iaload, 1) := by decide +kernel
theorem dL_law_415 : decode cL_law 415 = .ok (.aload_n 0, 1) := by decide +kernel
theorem dL_law_416 : decode cL_law 416 = .ok (.iload_n 3, 1) := by decide +kernel
theorem dL_law_417 : decode cL_law 417 = .ok (.iconst 2, 1) := by decide +kernel
theorem dL_law_418 : decode cL_law 418 = .ok (.iadd, 1) := by decide +kernel
theorem dL_law_419 : decode cL_law 419 = .ok (.iaload, 1) := by decide +kernel
theorem dL_law_420 : decode cL_law 420 = .ok (.invokevirtual 40, 3) := by decide +kernel
theorem dL_law_423 : decode cL_law 423 = .ok (.if_icmp .eq 1047, 3) := by decide +kernel
theorem dL_law_426 : decode cL_law 426 = .ok (.iconst 0, 1) := by decide +kernel
theorem dL_law_427 : decode cL_law 427 = .ok (.ireturn, 1) := by decide +kernel
theorem dL_law_428 : decode cL_law 428 = .ok (.aload_n 1, 1) := by decide +kernel
