theorem dX3_nextOrder_67 : decode cX3_nextOrder 67 = .ok (.iaload, 1) := by decide +kernel
theorem dX3_nextOrder_68 : decode cX3_nextOrder 68 = .ok (.if_icmp .ge 9, 3) := by decide +kernel
theorem dX3_nextOrder_71 : decode cX3_nextOrder 71 = .ok (.iinc 2 (-1), 3) := by decide +kernel
theorem dX3_nextOrder_74 : decode cX3_nextOrder 74 = .ok (.goto (-23), 3) := by decide +kernel
theorem dX3_nextOrder_77 : decode cX3_nextOrder 77 = .ok (.aload_n 0, 1) := by decide +kernel
theorem dX3_nextOrder_78 : decode cX3_nextOrder 78 = .ok (.iload_n 1, 1) := by decide +kernel
theorem dX3_nextOrder_79 : decode cX3_nextOrder 79 = .ok (.iload_n 2, 1) := by decide +kernel
theorem dX3_nextOrder_80 : decode cX3_nextOrder 80 = .ok (.invokevirtual 71, 3) := by decide +kernel
theorem dX3_nextOrder_83 : decode cX3_nextOrder 83 = .ok (.iload_n 1, 1) := by decide +kernel
theorem dX3_nextOrder_84 : decode cX3_nextOrder 84 = .ok (.iconst 1, 1) := by decide +kernel
theorem dX3_nextOrder_85 : decode cX3_nextOrder 85 = .ok (.iadd, 1) := by decide +kernel
theorem dX3_nextOrder_86 : decode cX3_nextOrder 86 = .ok (.istore_n 2, 1) := by decide +kernel
theorem dX3_nextOrder_87 : decode cX3_nextOrder 87 = .ok (.aload_n 0, 1) := by decide +kernel
theorem dX3_nextOrder_88 : decode cX3_nextOrder 88 = .ok (.getfield 32, 3) := by decide +kernel
theorem dX3_nextOrder_91 : decode cX3_nextOrder 91 = .ok (.getfield 40, 3) := by decide +kernel
theorem dX3_nextOrder_94 : decode cX3_nextOrder 94 = .ok (.iconst 1, 1) := by decide +kernel
theorem dX3_nextOrder_95 : decode cX3_nextOrder 95 = .ok (.isub, 1) := by decide +kernel
theorem dX3_nextOrder_96 : decode cX3_nextOrder 96 = .ok (.istore_n 3, 1) := by decide +kernel
theorem dX3_nextOrder_97 : decode cX3_nextOrder 97 = .ok (.iload_n 3, 1) := by decide +kernel
theorem dX3_nextOrder_98 : decode cX3_nextOrder 98 = .ok (.iload_n 2, 1) := by decide +kernel
theorem dX3_nextOrder_99 : decode cX3_nextOrder 99 = .ok (.if_icmp .le 18, 3) := by decide +kernel
theorem dX3_nextOrder_102 : decode cX3_nextOrder 102 = .ok (.aload_n 0, 1) := by decide +kernel
theorem dX3_nextOrder_103 : decode cX3_nextOrder 103 = .ok (.iload_n 2, 1) := by decide +kernel
theorem dX3_nextOrder_104 : decode cX3_nextOrder 104 = .ok (.iload_n 3, 1) := by decide +kernel
theorem dX3_nextOrder_105 : decode cX3_nextOrder 105 = .ok (.invokevirtual 71, 3) := by decide +kernel
theorem dX3_nextOrder_108 : decode cX3_nextOrder 108 = .ok (.iinc 2 1, 3) := by decide +kernel
theorem dX3_nextOrder_111 : decode cX3_nextOrder 111 = .ok (.iinc 3 (-1), 3) := by decide +kernel
theorem dX3_nextOrder_114 : decode cX3_nextOrder 114 = .ok (.goto (-17), 3) := by decide +kernel
theorem dX3_nextOrder_117 : decode cX3_nextOrder 117 = .ok (.return_, 1) := by decide +kernel
theorem dX3_swapTried_0 : decode cX3_swapTried 0 = .ok (.aload_n 0, 1) := by decide +kernel
theorem dX3_swapTried_1 : decode cX3_swapTried 1 = .ok (.getfield 18, 3) := by decide +kernel
theorem dX3_swapTried_4 : decode cX3_swapTried 4 = .ok (.iload_n 1, 1) := by decide +kernel
theorem dX3_swapTried_5 : decode cX3_swapTried 5 = .ok (.iaload, 1) := by decide +kernel
theorem dX3_swapTried_6 : decode cX3_swapTried 6 = .ok (.istore_n 3, 1) := by decide +kernel
theorem dX3_swapTried_7 : decode cX3_swapTried 7 = .ok (.aload_n 0, 1) := by decide +kernel
theorem dX3_swapTried_8 : decode cX3_swapTried 8 = .ok (.getfield 18, 3) := by decide +kernel
theorem dX3_swapTried_11 : decode cX3_swapTried 11 = .ok (.iload_n 1, 1) := by decide +kernel
theorem dX3_swapTried_12 : decode cX3_swapTried 12 = .ok (.aload_n 0, 1) := by decide +kernel
theorem dX3_swapTried_13 : decode cX3_swapTried 13 = .ok (.getfield 18, 3) := by decide +kernel
theorem dX3_swapTried_16 : decode cX3_swapTried 16 = .ok (.iload_n 2, 1) := by decide +kernel
theorem dX3_swapTried_17 : decode cX3_swapTried 17 = .ok (.iaload, 1) := by decide +kernel
theorem dX3_swapTried_18 : decode cX3_swapTried 18 = .ok (.iastore, 1) := by decide +kernel
theorem dX3_swapTried_19 : decode cX3_swapTried 19 = .ok (.aload_n 0, 1) := by decide +kernel
theorem dX3_swapTried_20 : decode cX3_swapTried 20 = .ok (.getfield 18, 3) := by decide +kernel
theorem dX3_swapTried_23 : decode cX3_swapTried 23 = .ok (.iload_n 2, 1) := by decide +kernel
theorem dX3_swapTried_24 : decode cX3_swapTried 24 = .ok (.iload_n 3, 1) := by decide +kernel
theorem dX3_swapTried_25 : decode cX3_swapTried 25 = .ok (.iastore, 1) := by decide +kernel
theorem dX3_swapTried_26 : decode cX3_swapTried 26 = .ok (.return_, 1) := by decide +kernel
theorem dX3_shareOut_0 : decode cX3_shareOut 0 = .ok (.aload_n 0, 1) := by decide +kernel
theorem dX3_shareOut_1 : decode cX3_shareOut 1 = .ok (.iconst (-1), 1) := by decide +kernel
theorem dX3_shareOut_2 : decode cX3_shareOut 2 = .ok (.putfield 25, 3) := by decide +kernel
theorem dX3_shareOut_5 : decode cX3_shareOut 5 = .ok (.aload_n 0, 1) := by decide +kernel
theorem dX3_shareOut_6 : decode cX3_shareOut 6 = .ok (.iconst 0, 1) := by decide +kernel
theorem dX3_shareOut_7 : decode cX3_shareOut 7 = .ok (.putfield 29, 3) := by decide +kernel
theorem dX3_shareOut_10 : decode cX3_shareOut 10 = .ok (.aload_n 0, 1) := by decide +kernel
theorem dX3_shareOut_11 : decode cX3_shareOut 11 = .ok (.aload_n 1, 1) := by decide +kernel
theorem dX3_shareOut_12 : decode cX3_shareOut 12 = .ok (.iconst 0, 1) := by decide +kernel
theorem dX3_shareOut_13 : decode cX3_shareOut 13 = .ok (.aload_n 1, 1) := by decide +kernel
theorem dX3_shareOut_14 : decode cX3_shareOut 14 = .ok (.getfield 75, 3) := by decide +kernel
theorem dX3_shareOut_17 : decode cX3_shareOut 17 = .ok (.iconst 0, 1) := by decide +kernel
theorem dX3_shareOut_18 : decode cX3_shareOut 18 = .ok (.iconst 0, 1) := by decide +kernel
theorem dX3_shareOut_19 : decode cX3_shareOut 19 = .ok (.invokevirtual 78, 3) := by decide +kernel
theorem dX3_shareOut_22 : decode cX3_shareOut 22 = .ok (.return_, 1) := by decide +kernel
theorem dX3_shareFrom_0 : decode cX3_shareFrom 0 = .ok (.iload_n 2, 1) := by decide +kernel
theorem dX3_shareFrom_1 : decode cX3_shareFrom 1 = .ok (.aload_n 0, 1) := by decide +kernel
theorem dX3_shareFrom_2 : decode cX3_shareFrom 2 = .ok (.getfield 32, 3) := by decide +kernel
theorem dX3_shareFrom_5 : decode cX3_shareFrom 5 = .ok (.getfield 40, 3) := by decide +kernel
theorem dX3_shareFrom_8 : decode cX3_shareFrom 8 = .ok (.if_icmp .lt 63, 3) := by decide +kernel
theorem dX3_shareFrom_11 : decode cX3_shareFrom 11 = .ok (.iload 4, 2) := by decide +kernel
theorem dX3_shareFrom_13 : decode cX3_shareFrom 13 = .ok (.aload_n 0, 1) := by decide +kernel
theorem dX3_shareFrom_14 : decode cX3_shareFrom 14 = .ok (.getfield 25, 3) := by decide +kernel
theorem dX3_shareFrom_17 : decode cX3_shareFrom 17 = .ok (.if_icmp .gt 21, 3) := by decide +kernel
theorem dX3_shareFrom_20 : decode cX3_shareFrom 20 = .ok (.iload 4, 2) := by decide +kernel
theorem dX3_shareFrom_22 : decode cX3_shareFrom 22 = .ok (.aload_n 0, 1) := by decide +kernel
theorem dX3_shareFrom_23 : decode cX3_shareFrom 23 = .ok (.getfield 25, 3) := by decide +kernel
theorem dX3_shareFrom_26 : decode cX3_shareFrom 26 = .ok (.if_icmp .ne 44, 3) := by decide +kernel
theorem dX3_shareFrom_29 : decode cX3_shareFrom 29 = .ok (.iload 5, 2) := by decide +kernel
theorem dX3_shareFrom_31 : decode cX3_shareFrom 31 = .ok (.aload_n 0, 1) := by decide +kernel
theorem dX3_shareFrom_32 : decode cX3_shareFrom 32 = .ok (.getfield 29, 3) := by decide +kernel
theorem dX3_shareFrom_35 : decode cX3_shareFrom 35 = .ok (.if_icmp .ge 35, 3) := by decide +kernel
theorem dX3_shareFrom_38 : decode cX3_shareFrom 38 = .ok (.aload_n 0, 1) := by decide +kernel
theorem dX3_shareFrom_39 : decode cX3_shareFrom 39 = .ok (.iload 4, 2) := by decide +kernel
theorem dX3_shareFrom_41 : decode cX3_shareFrom 41 = .ok (.putfield 25, 3) := by decide +kernel
theorem dX3_shareFrom_44 : decode cX3_shareFrom 44 = .ok (.aload_n 0, 1) := by decide +kernel
theorem dX3_shareFrom_45 : decode cX3_shareFrom 45 = .ok (.iload 5, 2) := by decide +kernel
theorem dX3_shareFrom_47 : decode cX3_shareFrom 47 = .ok (.putfield 29, 3) := by decide +kernel
theorem dX3_shareFrom_50 : decode cX3_shareFrom 50 = .ok (.aload_n 0, 1) := by decide +kernel
theorem dX3_shareFrom_51 : decode cX3_shareFrom 51 = .ok (.getfield 18, 3) := by decide +kernel
theorem dX3_shareFrom_54 : decode cX3_shareFrom 54 = .ok (.iconst 0, 1) := by decide +kernel
theorem dX3_shareFrom_55 : decode cX3_shareFrom 55 = .ok (.aload_n 0, 1) := by decide +kernel
theorem dX3_shareFrom_56 : decode cX3_shareFrom 56 = .ok (.getfield 22, 3) := by decide +kernel
theorem dX3_shareFrom_59 : decode cX3_shareFrom 59 = .ok (.iconst 0, 1) := by decide +kernel
theorem dX3_shareFrom_60 : decode cX3_shareFrom 60 = .ok (.aload_n 0, 1) := by decide +kernel
theorem dX3_shareFrom_61 : decode cX3_shareFrom 61 = .ok (.getfield 32, 3) := by decide +kernel
theorem dX3_shareFrom_64 : decode cX3_shareFrom 64 = .ok (.getfield 40, 3) := by decide +kernel
theorem dX3_shareFrom_67 : decode cX3_shareFrom 67 = .ok (.invokestatic 52, 3) := by decide +kernel
theorem dX3_shareFrom_70 : decode cX3_shareFrom 70 = .ok (.return_, 1) := by decide +kernel
theorem dX3_shareFrom_71 : decode cX3_shareFrom 71 = .ok (.iconst 0, 1) := by decide +kernel
theorem dX3_shareFrom_72 : decode cX3_shareFrom 72 = .ok (.istore 6, 2) := by decide +kernel
theorem dX3_shareFrom_74 : decode cX3_shareFrom 74 = .ok (.iload 6, 2) := by decide +kernel
theorem dX3_shareFrom_76 : decode cX3_shareFrom 76 = .ok (.aload_n 0, 1) := by decide +kernel
theorem dX3_shareFrom_77 : decode cX3_shareFrom 77 = .ok (.getfield 32, 3) := by decide +kernel
theorem dX3_shareFrom_80 : decode cX3_shareFrom 80 = .ok (.getfield 82, 3) := by decide +kernel
theorem dX3_shareFrom_83 : decode cX3_shareFrom 83 = .ok (.if_icmp .ge 70, 3) := by decide +kernel
theorem dX3_shareFrom_86 : decode cX3_shareFrom 86 = .ok (.aload_n 1, 1) := by decide +kernel
theorem dX3_shareFrom_87 : decode cX3_shareFrom 87 = .ok (.getfield 85, 3) := by decide +kernel
theorem dX3_shareFrom_90 : decode cX3_shareFrom 90 = .ok (.iload 6, 2) := by decide +kernel
theorem dX3_shareFrom_92 : decode cX3_shareFrom 92 = .ok (.iload_n 2, 1) := by decide +kernel
theorem dX3_shareFrom_93 : decode cX3_shareFrom 93 = .ok (.invokestatic 88, 3) := by decide +kernel
theorem dX3_shareFrom_96 : decode cX3_shareFrom 96 = .ok (.iaload, 1) := by decide +kernel
theorem dX3_shareFrom_97 : decode cX3_shareFrom 97 = .ok (.istore 7, 2) := by decide +kernel
theorem dX3_shareFrom_99 : decode cX3_shareFrom 99 = .ok (.iload_n 3, 1) := by decide +kernel
theorem dX3_shareFrom_100 : decode cX3_shareFrom 100 = .ok (.iload 6, 2) := by decide +kernel
theorem dX3_shareFrom_102 : decode cX3_shareFrom 102 = .ok (.ishr, 1) := by decide +kernel
theorem dX3_shareFrom_103 : decode cX3_shareFrom 103 = .ok (.iconst 1, 1) := by decide +kernel
theorem dX3_shareFrom_104 : decode cX3_shareFrom 104 = .ok (.iand, 1) := by decide +kernel
theorem dX3_shareFrom_105 : decode cX3_shareFrom 105 = .ok (.iconst 1, 1) := by decide +kernel
theorem dX3_shareFrom_106 : decode cX3_shareFrom 106 = .ok (.if_icmp .ne 41, 3) := by decide +kernel
theorem dX3_shareFrom_109 : decode cX3_shareFrom 109 = .ok (.iload 7, 2) := by decide +kernel
theorem dX3_shareFrom_111 : decode cX3_shareFrom 111 = .ok (.ifCond .le 36, 3) := by decide +kernel
theorem dX3_shareFrom_114 : decode cX3_shareFrom 114 = .ok (.aload_n 0, 1) := by decide +kernel
theorem dX3_shareFrom_115 : decode cX3_shareFrom 115 = .ok (.getfield 18, 3) := by decide +kernel
theorem dX3_shareFrom_118 : decode cX3_shareFrom 118 = .ok (.iload_n 2, 1) := by decide +kernel
theorem dX3_shareFrom_119 : decode cX3_shareFrom 119 = .ok (.iload 6, 2) := by decide +kernel
theorem dX3_shareFrom_121 : decode cX3_shareFrom 121 = .ok (.iastore, 1) := by decide +kernel
theorem dX3_shareFrom_122 : decode cX3_shareFrom 122 = .ok (.aload_n 0, 1) := by decide +kernel
theorem dX3_shareFrom_123 : decode cX3_shareFrom 123 = .ok (.aload_n 1, 1) := by decide +kernel
theorem dX3_shareFrom_124 : decode cX3_shareFrom 124 = .ok (.iload_n 2, 1) := by decide +kernel
theorem dX3_shareFrom_125 : decode cX3_shareFrom 125 = .ok (.iconst 1, 1) := by decide +kernel
theorem dX3_shareFrom_126 : decode cX3_shareFrom 126 = .ok (.iadd, 1) := by decide +kernel
theorem dX3_shareFrom_127 : decode cX3_shareFrom 127 = .ok (.iload_n 3, 1) := by decide +kernel
theorem dX3_shareFrom_128 : decode cX3_shareFrom 128 = .ok (.iconst 1, 1) := by decide +kernel
theorem dX3_shareFrom_129 : decode cX3_shareFrom 129 = .ok (.iload 6, 2) := by decide +kernel
theorem dX3_shareFrom_131 : decode cX3_shareFrom 131 = .ok (.ishl, 1) := by decide +kernel
theorem dX3_shareFrom_132 : decode cX3_shareFrom 132 = .ok (.iconst (-1), 1) := by decide +kernel
theorem dX3_shareFrom_133 : decode cX3_shareFrom 133 = .ok (.ixor, 1) := by decide +kernel
theorem dX3_shareFrom_134 : decode cX3_shareFrom 134 = .ok (.iand, 1) := by decide +kernel
theorem dX3_shareFrom_135 : decode cX3_shareFrom 135 = .ok (.iload 4, 2) := by decide +kernel
theorem dX3_shareFrom_137 : decode cX3_shareFrom 137 = .ok (.iconst 1, 1) := by decide +kernel
theorem dX3_shareFrom_138 : decode cX3_shareFrom 138 = .ok (.iadd, 1) := by decide +kernel
theorem dX3_shareFrom_139 : decode cX3_shareFrom 139 = .ok (.iload 5, 2) := by decide +kernel
theorem dX3_shareFrom_141 : decode cX3_shareFrom 141 = .ok (.iload 7, 2) := by decide +kernel
theorem dX3_shareFrom_143 : decode cX3_shareFrom 143 = .ok (.iadd, 1) := by decide +kernel
theorem dX3_shareFrom_144 : decode cX3_shareFrom 144 = .ok (.invokevirtual 78, 3) := by decide +kernel
theorem dX3_shareFrom_147 : decode cX3_shareFrom 147 = .ok (.iinc 6 1, 3) := by decide +kernel
theorem dX3_shareFrom_150 : decode cX3_shareFrom 150 = .ok (.goto (-76), 3) := by decide +kernel
theorem dX3_shareFrom_153 : decode cX3_shareFrom 153 = .ok (.aload_n 0, 1) := by decide +kernel
theorem dX3_shareFrom_154 : decode cX3_shareFrom 154 = .ok (.getfield 18, 3) := by decide +kernel
theorem dX3_shareFrom_157 : decode cX3_shareFrom 157 = .ok (.iload_n 2, 1) := by decide +kernel
theorem dX3_shareFrom_158 : decode cX3_shareFrom 158 = .ok (.iconst (-1), 1) := by decide +kernel
theorem dX3_shareFrom_159 : decode cX3_shareFrom 159 = .ok (.iastore, 1) := by decide +kernel
theorem dX3_shareFrom_160 : decode cX3_shareFrom 160 = .ok (.aload_n 0, 1) := by decide +kernel
theorem dX3_shareFrom_161 : decode cX3_shareFrom 161 = .ok (.aload_n 1, 1) := by decide +kernel
theorem dX3_shareFrom_162 : decode cX3_shareFrom 162 = .ok (.iload_n 2, 1) := by decide +kernel
theorem dX3_shareFrom_163 : decode cX3_shareFrom 163 = .ok (.iconst 1, 1) := by decide +kernel
theorem dX3_shareFrom_164 : decode cX3_shareFrom 164 = .ok (.iadd, 1) := by decide +kernel
theorem dX3_shareFrom_165 : decode cX3_shareFrom 165 = .ok (.iload_n 3, 1) := by decide +kernel
theorem dX3_shareFrom_166 : decode cX3_shareFrom 166 = .ok (.iload 4, 2) := by decide +kernel
theorem dX3_shareFrom_168 : decode cX3_shareFrom 168 = .ok (.iload 5, 2) := by decide +kernel
theorem dX3_shareFrom_170 : decode cX3_shareFrom 170 = .ok (.invokevirtual 78, 3) := by decide +kernel
theorem dX3_shareFrom_173 : decode cX3_shareFrom 173 = .ok (.return_, 1) := by decide +kernel
theorem dX3_fewestForAll_0 : decode cX3_fewestForAll 0 = .ok (.aload_n 0, 1) := by decide +kernel
theorem dX3_fewestForAll_1 : decode cX3_fewestForAll 1 = .ok (.aload_n 1, 1) := by decide +kernel
theorem dX3_fewestForAll_2 : decode cX3_fewestForAll 2 = .ok (.aload_n 1, 1) := by decide +kernel
theorem dX3_fewestForAll_3 : decode cX3_fewestForAll 3 = .ok (.getfield 75, 3) := by decide +kernel
theorem dX3_fewestForAll_6 : decode cX3_fewestForAll 6 = .ok (.invokevirtual 92, 3) := by decide +kernel
theorem dX3_fewestForAll_9 : decode cX3_fewestForAll 9 = .ok (.istore_n 2, 1) := by decide +kernel
theorem dX3_fewestForAll_10 : decode cX3_fewestForAll 10 = .ok (.aload_n 1, 1) := by decide +kernel
theorem dX3_fewestForAll_11 : decode cX3_fewestForAll 11 = .ok (.getfield 75, 3) := by decide +kernel
theorem dX3_fewestForAll_14 : decode cX3_fewestForAll 14 = .ok (.istore_n 3, 1) := by decide +kernel
theorem dX3_fewestForAll_15 : decode cX3_fewestForAll 15 = .ok (.iconst 0, 1) := by decide +kernel
theorem dX3_fewestForAll_16 : decode cX3_fewestForAll 16 = .ok (.istore 4, 2) := by decide +kernel
theorem dX3_fewestForAll_18 : decode cX3_fewestForAll 18 = .ok (.iload 4, 2) := by decide +kernel
theorem dX3_fewestForAll_20 : decode cX3_fewestForAll 20 = .ok (.iconst 1, 1) := by decide +kernel
theorem dX3_fewestForAll_21 : decode cX3_fewestForAll 21 = .ok (.aload_n 0, 1) := by decide +kernel
theorem dX3_fewestForAll_22 : decode cX3_fewestForAll 22 = .ok (.getfield 32, 3) := by decide +kernel
theorem dX3_fewestForAll_25 : decode cX3_fewestForAll 25 = .ok (.getfield 82, 3) := by decide +kernel
theorem dX3_fewestForAll_28 : decode cX3_fewestForAll 28 = .ok (.ishl, 1) := by decide +kernel
theorem dX3_fewestForAll_29 : decode cX3_fewestForAll 29 = .ok (.if_icmp .ge 59, 3) := by decide +kernel
theorem dX3_fewestForAll_32 : decode cX3_fewestForAll 32 = .ok (.iload 4, 2) := by decide +kernel
theorem dX3_fewestForAll_34 : decode cX3_fewestForAll 34 = .ok (.invokestatic 96, 3) := by decide +kernel
theorem dX3_fewestForAll_37 : decode cX3_fewestForAll 37 = .ok (.iload_n 3, 1) := by decide +kernel
theorem dX3_fewestForAll_38 : decode cX3_fewestForAll 38 = .ok (.invokestatic 96, 3) := by decide +kernel
theorem dX3_fewestForAll_41 : decode cX3_fewestForAll 41 = .ok (.if_icmp .ge 7, 3) := by decide +kernel
theorem dX3_fewestForAll_44 : decode cX3_fewestForAll 44 = .ok (.iconst 1, 1) := by decide +kernel
theorem dX3_fewestForAll_45 : decode cX3_fewestForAll 45 = .ok (.goto 4, 3) := by decide +kernel
theorem dX3_fewestForAll_48 : decode cX3_fewestForAll 48 = .ok (.iconst 0, 1) := by decide +kernel
theorem dX3_fewestForAll_49 : decode cX3_fewestForAll 49 = .ok (.istore 5, 2) := by decide +kernel
theorem dX3_fewestForAll_51 : decode cX3_fewestForAll 51 = .ok (.iload 5, 2) := by decide +kernel
theorem dX3_fewestForAll_53 : decode cX3_fewestForAll 53 = .ok (.ifCond .eq 29, 3) := by decide +kernel
theorem dX3_fewestForAll_56 : decode cX3_fewestForAll 56 = .ok (.iload 4, 2) := by decide +kernel
theorem dX3_fewestForAll_58 : decode cX3_fewestForAll 58 = .ok (.aload_n 1, 1) := by decide +kernel
theorem dX3_fewestForAll_59 : decode cX3_fewestForAll 59 = .ok (.getfield 75, 3) := by decide +kernel
theorem dX3_fewestForAll_62 : decode cX3_fewestForAll 62 = .ok (.iconst (-1), 1) := by decide +kernel
theorem dX3_fewestForAll_63 : decode cX3_fewestForAll 63 = .ok (.ixor, 1) := by decide +kernel
theorem dX3_fewestForAll_64 : decode cX3_fewestForAll 64 = .ok (.iand, 1) := by decide +kernel
theorem dX3_fewestForAll_65 : decode cX3_fewestForAll 65 = .ok (.ifCond .ne 17, 3) := by decide +kernel
theorem dX3_fewestForAll_68 : decode cX3_fewestForAll 68 = .ok (.aload_n 0, 1) := by decide +kernel
theorem dX3_fewestForAll_69 : decode cX3_fewestForAll 69 = .ok (.aload_n 1, 1) := by decide +kernel
theorem dX3_fewestForAll_70 : decode cX3_fewestForAll 70 = .ok (.iload 4, 2) := by decide +kernel
theorem dX3_fewestForAll_72 : decode cX3_fewestForAll 72 = .ok (.invokevirtual 92, 3) := by decide +kernel
theorem dX3_fewestForAll_75 : decode cX3_fewestForAll 75 = .ok (.iload_n 2, 1) := by decide +kernel
theorem dX3_fewestForAll_76 : decode cX3_fewestForAll 76 = .ok (.if_icmp .ne 6, 3) := by decide +kernel
theorem dX3_fewestForAll_79 : decode cX3_fewestForAll 79 = .ok (.iload 4, 2) := by decide +kernel
theorem dX3_fewestForAll_81 : decode cX3_fewestForAll 81 = .ok (.istore_n 3, 1) := by decide +kernel
theorem dX3_fewestForAll_82 : decode cX3_fewestForAll 82 = .ok (.iinc 4 1, 3) := by decide +kernel
theorem dX3_fewestForAll_85 : decode cX3_fewestForAll 85 = .ok (.goto (-67), 3) := by decide +kernel
theorem dX3_fewestForAll_88 : decode cX3_fewestForAll 88 = .ok (.iload_n 3, 1) := by decide +kernel
theorem dX3_fewestForAll_89 : decode cX3_fewestForAll 89 = .ok (.ireturn, 1) := by decide +kernel
theorem dX3_fearedBy_0 : decode cX3_fearedBy 0 = .ok (.iconst 0, 1) := by decide +kernel
theorem dX3_fearedBy_1 : decode cX3_fearedBy 1 = .ok (.istore_n 3, 1) := by decide +kernel
theorem dX3_fearedBy_2 : decode cX3_fearedBy 2 = .ok (.iconst 0, 1) := by decide +kernel
theorem dX3_fearedBy_3 : decode cX3_fearedBy 3 = .ok (.istore 4, 2) := by decide +kernel
theorem dX3_fearedBy_5 : decode cX3_fearedBy 5 = .ok (.iload 4, 2) := by decide +kernel
theorem dX3_fearedBy_7 : decode cX3_fearedBy 7 = .ok (.aload_n 0, 1) := by decide +kernel
theorem dX3_fearedBy_8 : decode cX3_fearedBy 8 = .ok (.getfield 32, 3) := by decide +kernel
theorem dX3_fearedBy_11 : decode cX3_fearedBy 11 = .ok (.getfield 82, 3) := by decide +kernel
theorem dX3_fearedBy_14 : decode cX3_fearedBy 14 = .ok (.if_icmp .ge 28, 3) := by decide +kernel
theorem dX3_fearedBy_17 : decode cX3_fearedBy 17 = .ok (.iload_n 2, 1) := by decide +kernel
theorem dX3_fearedBy_18 : decode cX3_fearedBy 18 = .ok (.iload 4, 2) := by decide +kernel
theorem dX3_fearedBy_20 : decode cX3_fearedBy 20 = .ok (.ishr, 1) := by decide +kernel
theorem dX3_fearedBy_21 : decode cX3_fearedBy 21 = .ok (.iconst 1, 1) := by decide +kernel
theorem dX3_fearedBy_22 : decode cX3_fearedBy 22 = .ok (.iand, 1) := by decide +kernel
theorem dX3_fearedBy_23 : decode cX3_fearedBy 23 = .ok (.iconst 1, 1) := by decide +kernel
theorem dX3_fearedBy_24 : decode cX3_fearedBy 24 = .ok (.if_icmp .ne 12, 3) := by decide +kernel
theorem dX3_fearedBy_27 : decode cX3_fearedBy 27 = .ok (.iload_n 3, 1) := by decide +kernel
theorem dX3_fearedBy_28 : decode cX3_fearedBy 28 = .ok (.aload_n 1, 1) := by decide +kernel
theorem dX3_fearedBy_29 : decode cX3_fearedBy 29 = .ok (.iload 4, 2) := by decide +kernel
theorem dX3_fearedBy_31 : decode cX3_fearedBy 31 = .ok (.invokevirtual 100, 3) := by decide +kernel
theorem dX3_fearedBy_34 : decode cX3_fearedBy 34 = .ok (.ior, 1) := by decide +kernel
theorem dX3_fearedBy_35 : decode cX3_fearedBy 35 = .ok (.istore_n 3, 1) := by decide +kernel
theorem dX3_fearedBy_36 : decode cX3_fearedBy 36 = .ok (.iinc 4 1, 3) := by decide +kernel
theorem dX3_fearedBy_39 : decode cX3_fearedBy 39 = .ok (.goto (-34), 3) := by decide +kernel
theorem dX3_fearedBy_42 : decode cX3_fearedBy 42 = .ok (.iload_n 3, 1) := by decide +kernel
theorem dX3_fearedBy_43 : decode cX3_fearedBy 43 = .ok (.ireturn, 1) := by decide +kernel
theorem dX3_mostFeared_0 : decode cX3_mostFeared 0 = .ok (.iconst (-1), 1) := by decide +kernel
theorem dX3_mostFeared_1 : decode cX3_mostFeared 1 = .ok (.istore_n 2, 1) := by decide +kernel
theorem dX3_mostFeared_2 : decode cX3_mostFeared 2 = .ok (.iconst 0, 1) := by decide +kernel
theorem dX3_mostFeared_3 : decode cX3_mostFeared 3 = .ok (.istore_n 3, 1) := by decide +kernel
theorem dX3_mostFeared_4 : decode cX3_mostFeared 4 = .ok (.iconst 0, 1) := by decide +kernel
theorem dX3_mostFeared_5 : decode cX3_mostFeared 5 = .ok (.istore 4, 2) := by decide +kernel
theorem dX3_mostFeared_7 : decode cX3_mostFeared 7 = .ok (.iload 4, 2) := by decide +kernel
theorem dX3_mostFeared_9 : decode cX3_mostFeared 9 = .ok (.aload_n 0, 1) := by decide +kernel
theorem dX3_mostFeared_10 : decode cX3_mostFeared 10 = .ok (.getfield 32, 3) := by decide +kernel
theorem dX3_mostFeared_13 : decode cX3_mostFeared 13 = .ok (.getfield 40, 3) := by decide +kernel
theorem dX3_mostFeared_16 : decode cX3_mostFeared 16 = .ok (.if_icmp .ge 76, 3) := by decide +kernel
theorem dX3_mostFeared_19 : decode cX3_mostFeared 19 = .ok (.iconst 0, 1) := by decide +kernel
theorem dX3_mostFeared_20 : decode cX3_mostFeared 20 = .ok (.istore 5, 2) := by decide +kernel
theorem dX3_mostFeared_22 : decode cX3_mostFeared 22 = .ok (.iconst 0, 1) := by decide +kernel
theorem dX3_mostFeared_23 : decode cX3_mostFeared 23 = .ok (.istore 6, 2) := by decide +kernel
theorem dX3_mostFeared_25 : decode cX3_mostFeared 25 = .ok (.iload 6, 2) := by decide +kernel
theorem dX3_mostFeared_27 : decode cX3_mostFeared 27 = .ok (.aload_n 0, 1) := by decide +kernel
theorem dX3_mostFeared_28 : decode cX3_mostFeared 28 = .ok (.getfield 32, 3) := by decide +kernel
theorem dX3_mostFeared_31 : decode cX3_mostFeared 31 = .ok (.getfield 82, 3) := by decide +kernel
theorem dX3_mostFeared_34 : decode cX3_mostFeared 34 = .ok (.if_icmp .ge 35, 3) := by decide +kernel
theorem dX3_mostFeared_37 : decode cX3_mostFeared 37 = .ok (.aload_n 1, 1) := by decide +kernel
theorem dX3_mostFeared_38 : decode cX3_mostFeared 38 = .ok (.iload 6, 2) := by decide +kernel
theorem dX3_mostFeared_40 : decode cX3_mostFeared 40 = .ok (.invokevirtual 103, 3) := by decide +kernel
theorem dX3_mostFeared_43 : decode cX3_mostFeared 43 = .ok (.ifCond .eq 20, 3) := by decide +kernel
theorem dX3_mostFeared_46 : decode cX3_mostFeared 46 = .ok (.iload 5, 2) := by decide +kernel
theorem dX3_mostFeared_48 : decode cX3_mostFeared 48 = .ok (.aload_n 1, 1) := by decide +kernel
theorem dX3_mostFeared_49 : decode cX3_mostFeared 49 = .ok (.getfield 85, 3) := by decide +kernel
theorem dX3_mostFeared_52 : decode cX3_mostFeared 52 = .ok (.iload 6, 2) := by decide +kernel
theorem dX3_mostFeared_54 : decode cX3_mostFeared 54 = .ok (.iload 4, 2) := by decide +kernel
theorem dX3_mostFeared_56 : decode cX3_mostFeared 56 = .ok (.invokestatic 88, 3) := by decide +kernel
theorem dX3_mostFeared_59 : decode cX3_mostFeared 59 = .ok (.iaload, 1) := by decide +kernel
theorem dX3_mostFeared_60 : decode cX3_mostFeared 60 = .ok (.iadd, 1) := by decide +kernel
theorem dX3_mostFeared_61 : decode cX3_mostFeared 61 = .ok (.istore 5, 2) := by decide +kernel
theorem dX3_mostFeared_63 : decode cX3_mostFeared 63 = .ok (.iinc 6 1, 3) := by decide +kernel
theorem dX3_mostFeared_66 : decode cX3_mostFeared 66 = .ok (.goto (-41), 3) := by decide +kernel
theorem dX3_mostFeared_69 : decode cX3_mostFeared 69 = .ok (.iload_n 2, 1) := by decide +kernel
theorem dX3_mostFeared_70 : decode cX3_mostFeared 70 = .ok (.iconst (-1), 1) := by decide +kernel
theorem dX3_mostFeared_71 : decode cX3_mostFeared 71 = .ok (.if_icmp .eq 9, 3) := by decide +kernel
theorem dX3_mostFeared_74 : decode cX3_mostFeared 74 = .ok (.iload 5, 2) := by decide +kernel
theorem dX3_mostFeared_76 : decode cX3_mostFeared 76 = .ok (.iload_n 3, 1) := by decide +kernel
theorem dX3_mostFeared_77 : decode cX3_mostFeared 77 = .ok (.if_icmp .le 9, 3) := by decide +kernel
theorem dX3_mostFeared_80 : decode cX3_mostFeared 80 = .ok (.iload 4, 2) := by decide +kernel
theorem dX3_mostFeared_82 : decode cX3_mostFeared 82 = .ok (.istore_n 2, 1) := by decide +kernel
theorem dX3_mostFeared_83 : decode cX3_mostFeared 83 = .ok (.iload 5, 2) := by decide +kernel
theorem dX3_mostFeared_85 : decode cX3_mostFeared 85 = .ok (.istore_n 3, 1) := by decide +kernel
theorem dX3_mostFeared_86 : decode cX3_mostFeared 86 = .ok (.iinc 4 1, 3) := by decide +kernel
theorem dX3_mostFeared_89 : decode cX3_mostFeared 89 = .ok (.goto (-82), 3) := by decide +kernel
theorem dX3_mostFeared_92 : decode cX3_mostFeared 92 = .ok (.iload_n 2, 1) := by decide +kernel
theorem dX3_mostFeared_93 : decode cX3_mostFeared 93 = .ok (.ireturn, 1) := by decide +kernel
theorem dX3_greatList_0 : decode cX3_greatList 0 = .ok (.iconst 0, 1) := by decide +kernel
theorem dX3_greatList_1 : decode cX3_greatList 1 = .ok (.istore_n 2, 1) := by decide +kernel
theorem dX3_greatList_2 : decode cX3_greatList 2 = .ok (.iload_n 2, 1) := by decide +kernel
theorem dX3_greatList_3 : decode cX3_greatList 3 = .ok (.aload_n 0, 1) := by decide +kernel
theorem dX3_greatList_4 : decode cX3_greatList 4 = .ok (.getfield 32, 3) := by decide +kernel
theorem dX3_greatList_7 : decode cX3_greatList 7 = .ok (.getfield 82, 3) := by decide +kernel
theorem dX3_greatList_10 : decode cX3_greatList 10 = .ok (.if_icmp .ge 64, 3) := by decide +kernel
theorem dX3_greatList_13 : decode cX3_greatList 13 = .ok (.iload_n 2, 1) := by decide +kernel
theorem dX3_greatList_14 : decode cX3_greatList 14 = .ok (.istore_n 3, 1) := by decide +kernel
theorem dX3_greatList_15 : decode cX3_greatList 15 = .ok (.iload_n 3, 1) := by decide +kernel
theorem dX3_greatList_16 : decode cX3_greatList 16 = .ok (.ifCond .le 45, 3) := by decide +kernel
theorem dX3_greatList_19 : decode cX3_greatList 19 = .ok (.aload_n 1, 1) := by decide +kernel
theorem dX3_greatList_20 : decode cX3_greatList 20 = .ok (.getfield 107, 3) := by decide +kernel
theorem dX3_greatList_23 : decode cX3_greatList 23 = .ok (.aload_n 0, 1) := by decide +kernel
theorem dX3_greatList_24 : decode cX3_greatList 24 = .ok (.getfield 22, 3) := by decide +kernel
theorem dX3_greatList_27 : decode cX3_greatList 27 = .ok (.iload_n 3, 1) := by decide +kernel
theorem dX3_greatList_28 : decode cX3_greatList 28 = .ok (.iconst 1, 1) := by decide +kernel
theorem dX3_greatList_29 : decode cX3_greatList 29 = .ok (.isub, 1) := by decide +kernel
theorem dX3_greatList_30 : decode cX3_greatList 30 = .ok (.iaload, 1) := by decide +kernel
theorem dX3_greatList_31 : decode cX3_greatList 31 = .ok (.iaload, 1) := by decide +kernel
theorem dX3_greatList_32 : decode cX3_greatList 32 = .ok (.aload_n 1, 1) := by decide +kernel
theorem dX3_greatList_33 : decode cX3_greatList 33 = .ok (.getfield 107, 3) := by decide +kernel
theorem dX3_greatList_36 : decode cX3_greatList 36 = .ok (.iload_n 2, 1) := by decide +kernel
theorem dX3_greatList_37 : decode cX3_greatList 37 = .ok (.iaload, 1) := by decide +kernel
theorem dX3_greatList_38 : decode cX3_greatList 38 = .ok (.if_icmp .ge 23, 3) := by decide +kernel
theorem dX3_greatList_41 : decode cX3_greatList 41 = .ok (.aload_n 0, 1) := by decide +kernel
theorem dX3_greatList_42 : decode cX3_greatList 42 = .ok (.getfield 22, 3) := by decide +kernel
theorem dX3_greatList_45 : decode cX3_greatList 45 = .ok (.iload_n 3, 1) := by decide +kernel
theorem dX3_greatList_46 : decode cX3_greatList 46 = .ok (.aload_n 0, 1) := by decide +kernel
theorem dX3_greatList_47 : decode cX3_greatList 47 = .ok (.getfield 22, 3) := by decide +kernel
theorem dX3_greatList_50 : decode cX3_greatList 50 = .ok (.iload_n 3, 1) := by decide +kernel
theorem dX3_greatList_51 : decode cX3_greatList 51 = .ok (.iconst 1, 1) := by decide +kernel
theorem dX3_greatList_52 : decode cX3_greatList 52 = .ok (.isub, 1) := by decide +kernel
theorem dX3_greatList_53 : decode cX3_greatList 53 = .ok (.iaload, 1) := by decide +kernel
theorem dX3_greatList_54 : decode cX3_greatList 54 = .ok (.iastore, 1) := by decide +kernel
theorem dX3_greatList_55 : decode cX3_greatList 55 = .ok (.iinc 3 (-1), 3) := by decide +kernel
theorem dX3_greatList_58 : decode cX3_greatList 58 = .ok (.goto (-43), 3) := by decide +kernel
theorem dX3_greatList_61 : decode cX3_greatList 61 = .ok (.aload_n 0, 1) := by decide +kernel
theorem dX3_greatList_62 : decode cX3_greatList 62 = .ok (.getfield 22, 3) := by decide +kernel
theorem dX3_greatList_65 : decode cX3_greatList 65 = .ok (.iload_n 3, 1) := by decide +kernel
theorem dX3_greatList_66 : decode cX3_greatList 66 = .ok (.iload_n 2, 1) := by decide +kernel
theorem dX3_greatList_67 : decode cX3_greatList 67 = .ok (.iastore, 1) := by decide +kernel
theorem dX3_greatList_68 : decode cX3_greatList 68 = .ok (.iinc 2 1, 3) := by decide +kernel
theorem dX3_greatList_71 : decode cX3_greatList 71 = .ok (.goto (-69), 3) := by decide +kernel
theorem dX3_greatList_74 : decode cX3_greatList 74 = .ok (.return_, 1) := by decide +kernel
theorem dX4_init_0 : decode cX4_init 0 = .ok (.aload_n 0, 1) := by decide +kernel
theorem dX4_init_1 : decode cX4_init 1 = .ok (.invokespecial 3, 3) := by decide +kernel
theorem dX4_init_4 : decode cX4_init 4 = .ok (.aload_n 0, 1) := by decide +kernel
theorem dX4_init_5 : decode cX4_init 5 = .ok (.bipush 6, 2) := by decide +kernel
theorem dX4_init_7 : decode cX4_init 7 = .ok (.newarray .long, 2) := by decide +kernel
theorem dX4_init_9 : decode cX4_init 9 = .ok (.putfield 9, 3) := by decide +kernel
theorem dX4_init_12 : decode cX4_init 12 = .ok (.aload_n 0, 1) := by decide +kernel
theorem dX4_init_13 : decode cX4_init 13 = .ok (.iconst 5, 1) := by decide +kernel
theorem dX4_init_14 : decode cX4_init 14 = .ok (.newarray .long, 2) := by decide +kernel
theorem dX4_init_16 : decode cX4_init 16 = .ok (.putfield 15, 3) := by decide +kernel
theorem dX4_init_19 : decode cX4_init 19 = .ok (.aload_n 0, 1) := by decide +kernel
theorem dX4_init_20 : decode cX4_init 20 = .ok (.iconst 0, 1) := by decide +kernel
theorem dX4_init_21 : decode cX4_init 21 = .ok (.putfield 18, 3) := by decide +kernel
theorem dX4_init_24 : decode cX4_init 24 = .ok (.aload_n 0, 1) := by decide +kernel
theorem dX4_init_25 : decode cX4_init 25 = .ok (.iconst 0, 1) := by decide +kernel
theorem dX4_init_26 : decode cX4_init 26 = .ok (.putfield 22, 3) := by decide +kernel
theorem dX4_init_29 : decode cX4_init 29 = .ok (.aload_n 0, 1) := by decide +kernel
theorem dX4_init_30 : decode cX4_init 30 = .ok (.iconst 0, 1) := by decide +kernel
theorem dX4_init_31 : decode cX4_init 31 = .ok (.putfield 25, 3) := by decide +kernel
theorem dX4_init_34 : decode cX4_init 34 = .ok (.aload_n 0, 1) := by decide +kernel
theorem dX4_init_35 : decode cX4_init 35 = .ok (.iconst 0, 1) := by decide +kernel
theorem dX4_init_36 : decode cX4_init 36 = .ok (.putfield 28, 3) := by decide +kernel
theorem dX4_init_39 : decode cX4_init 39 = .ok (.aload_n 0, 1) := by decide +kernel
theorem dX4_init_40 : decode cX4_init 40 = .ok (.new 32, 3) := by decide +kernel
theorem dX4_init_43 : decode cX4_init 43 = .ok (.dup, 1) := by decide +kernel
theorem dX4_init_44 : decode cX4_init 44 = .ok (.invokespecial 34, 3) := by decide +kernel
theorem dX4_init_47 : decode cX4_init 47 = .ok (.putfield 35, 3) := by decide +kernel
theorem dX4_init_50 : decode cX4_init 50 = .ok (.aload_n 0, 1) := by decide +kernel
theorem dX4_init_51 : decode cX4_init 51 = .ok (.iconst 0, 1) := by decide +kernel
theorem dX4_init_52 : decode cX4_init 52 = .ok (.putfield 39, 3) := by decide +kernel
theorem dX4_init_55 : decode cX4_init 55 = .ok (.aload_n 0, 1) := by decide +kernel
theorem dX4_init_56 : decode cX4_init 56 = .ok (.iconst (-1), 1) := by decide +kernel
theorem dX4_init_57 : decode cX4_init 57 = .ok (.putfield 42, 3) := by decide +kernel
theorem dX4_init_60 : decode cX4_init 60 = .ok (.aload_n 0, 1) := by decide +kernel
theorem dX4_init_61 : decode cX4_init 61 = .ok (.new 45, 3) := by decide +kernel
theorem dX4_init_64 : decode cX4_init 64 = .ok (.dup, 1) := by decide +kernel
theorem dX4_init_65 : decode cX4_init 65 = .ok (.aload_n 1, 1) := by decide +kernel
theorem dX4_init_66 : decode cX4_init 66 = .ok (.invokespecial 47, 3) := by decide +kernel
theorem dX4_init_69 : decode cX4_init 69 = .ok (.putfield 50, 3) := by decide +kernel
theorem dX4_init_72 : decode cX4_init 72 = .ok (.return_, 1) := by decide +kernel
theorem dX4_readsAll_0 : decode cX4_readsAll 0 = .ok (.aload_n 0, 1) := by decide +kernel
theorem dX4_readsAll_1 : decode cX4_readsAll 1 = .ok (.invokevirtual 54, 3) := by decide +kernel
theorem dX4_readsAll_4 : decode cX4_readsAll 4 = .ok (.iconst 1, 1) := by decide +kernel
theorem dX4_readsAll_5 : decode cX4_readsAll 5 = .ok (.istore_n 1, 1) := by decide +kernel
theorem dX4_readsAll_6 : decode cX4_readsAll 6 = .ok (.iconst 0, 1) := by decide +kernel
theorem dX4_readsAll_7 : decode cX4_readsAll 7 = .ok (.istore_n 2, 1) := by decide +kernel
theorem dX4_readsAll_8 : decode cX4_readsAll 8 = .ok (.iload_n 2, 1) := by decide +kernel
theorem dX4_readsAll_9 : decode cX4_readsAll 9 = .ok (.sipush 1600, 3) := by decide +kernel
theorem dX4_readsAll_12 : decode cX4_readsAll 12 = .ok (.if_icmp .ge 137, 3) := by decide +kernel
theorem dX4_readsAll_15 : decode cX4_readsAll 15 = .ok (.iload_n 1, 1) := by decide +kernel
theorem dX4_readsAll_16 : decode cX4_readsAll 16 = .ok (.ifCond .eq 133, 3) := by decide +kernel
theorem dX4_readsAll_19 : decode cX4_readsAll 19 = .ok (.aload_n 0, 1) := by decide +kernel
theorem dX4_readsAll_20 : decode cX4_readsAll 20 = .ok (.getfield 50, 3) := by decide +kernel
theorem dX4_readsAll_23 : decode cX4_readsAll 23 = .ok (.getfield 57, 3) := by decide +kernel
theorem dX4_readsAll_26 : decode cX4_readsAll 26 = .ok (.ifCond .eq 123, 3) := by decide +kernel
theorem dX4_readsAll_29 : decode cX4_readsAll 29 = .ok (.aload_n 0, 1) := by decide +kernel
theorem dX4_readsAll_30 : decode cX4_readsAll 30 = .ok (.getfield 50, 3) := by decide +kernel
theorem dX4_readsAll_33 : decode cX4_readsAll 33 = .ok (.getfield 57, 3) := by decide +kernel
theorem dX4_readsAll_36 : decode cX4_readsAll 36 = .ok (.tableswitch 82 200 205 #[40, 47, 54, 61, 68, 75], 40) := by decide +kernel
theorem dX4_readsAll_76 : decode cX4_readsAll 76 = .ok (.aload_n 0, 1) := by decide +kernel
theorem dX4_readsAll_77 : decode cX4_readsAll 77 = .ok (.invokevirtual 60, 3) := by decide +kernel
theorem dX4_readsAll_80 : decode cX4_readsAll 80 = .ok (.goto 43, 3) := by decide +kernel
theorem dX4_readsAll_83 : decode cX4_readsAll 83 = .ok (.aload_n 0, 1) := by decide +kernel
theorem dX4_readsAll_84 : decode cX4_readsAll 84 = .ok (.invokevirtual 64, 3) := by decide +kernel
theorem dX4_readsAll_87 : decode cX4_readsAll 87 = .ok (.goto 36, 3) := by decide +kernel
theorem dX4_readsAll_90 : decode cX4_readsAll 90 = .ok (.aload_n 0, 1) := by decide +kernel
theorem dX4_readsAll_91 : decode cX4_readsAll 91 = .ok (.invokevirtual 67, 3) := by decide +kernel
theorem dX4_readsAll_94 : decode cX4_readsAll 94 = .ok (.goto 29, 3) := by decide +kernel
theorem dX4_readsAll_97 : decode cX4_readsAll 97 = .ok (.aload_n 0, 1) := by decide +kernel
theorem dX4_readsAll_98 : decode cX4_readsAll 98 = .ok (.invokevirtual 70, 3) := by decide +kernel
theorem dX4_readsAll_101 : decode cX4_readsAll 101 = .ok (.goto 22, 3) := by decide +kernel
theorem dX4_readsAll_104 : decode cX4_readsAll 104 = .ok (.aload_n 0, 1) := by decide +kernel
theorem dX4_readsAll_105 : decode cX4_readsAll 105 = .ok (.invokevirtual 73, 3) := by decide +kernel
theorem dX4_readsAll_108 : decode cX4_readsAll 108 = .ok (.goto 15, 3) := by decide +kernel
theorem dX4_readsAll_111 : decode cX4_readsAll 111 = .ok (.aload_n 0, 1) := by decide +kernel
theorem dX4_readsAll_112 : decode cX4_readsAll 112 = .ok (.invokevirtual 76, 3) := by decide +kernel
theorem dX4_readsAll_115 : decode cX4_readsAll 115 = .ok (.goto 8, 3) := by decide +kernel
theorem dX4_readsAll_118 : decode cX4_readsAll 118 = .ok (.aload_n 0, 1) := by decide +kernel
theorem dX4_readsAll_119 : decode cX4_readsAll 119 = .ok (.iconst 2, 1) := by decide +kernel
theorem dX4_readsAll_120 : decode cX4_readsAll 120 = .ok (.invokevirtual 79, 3) := by decide +kernel
theorem dX4_readsAll_123 : decode cX4_readsAll 123 = .ok (.istore_n 1, 1) := by decide +kernel
theorem dX4_readsAll_124 : decode cX4_readsAll 124 = .ok (.iload_n 1, 1) := by decide +kernel
theorem dX4_readsAll_125 : decode cX4_readsAll 125 = .ok (.ifCond .eq 16, 3) := by decide +kernel
theorem dX4_readsAll_128 : decode cX4_readsAll 128 = .ok (.aload_n 0, 1) := by decide +kernel
theorem dX4_readsAll_129 : decode cX4_readsAll 129 = .ok (.bipush 59, 2) := by decide +kernel
theorem dX4_readsAll_131 : decode cX4_readsAll 131 = .ok (.invokevirtual 83, 3) := by decide +kernel
theorem dX4_readsAll_134 : decode cX4_readsAll 134 = .ok (.ifCond .eq 7, 3) := by decide +kernel
theorem dX4_readsAll_137 : decode cX4_readsAll 137 = .ok (.iconst 1, 1) := by decide +kernel
theorem dX4_readsAll_138 : decode cX4_readsAll 138 = .ok (.goto 4, 3) := by decide +kernel
theorem dX4_readsAll_141 : decode cX4_readsAll 141 = .ok (.iconst 0, 1) := by decide +kernel
theorem dX4_readsAll_142 : decode cX4_readsAll 142 = .ok (.istore_n 1, 1) := by decide +kernel
theorem dX4_readsAll_143 : decode cX4_readsAll 143 = .ok (.iinc 2 1, 3) := by decide +kernel
theorem dX4_readsAll_146 : decode cX4_readsAll 146 = .ok (.goto (-138), 3) := by decide +kernel
theorem dX4_readsAll_149 : decode cX4_readsAll 149 = .ok (.iload_n 1, 1) := by decide +kernel
theorem dX4_readsAll_150 : decode cX4_readsAll 150 = .ok (.ireturn, 1) := by decide +kernel
theorem dX4_clear_0 : decode cX4_clear 0 = .ok (.aload_n 0, 1) := by decide +kernel
theorem dX4_clear_1 : decode cX4_clear 1 = .ok (.getfield 35, 3) := by decide +kernel
theorem dX4_clear_4 : decode cX4_clear 4 = .ok (.invokevirtual 86, 3) := by decide +kernel
theorem dX4_clear_7 : decode cX4_clear 7 = .ok (.aload_n 0, 1) := by decide +kernel
theorem dX4_clear_8 : decode cX4_clear 8 = .ok (.iconst 0, 1) := by decide +kernel
theorem dX4_clear_9 : decode cX4_clear 9 = .ok (.putfield 18, 3) := by decide +kernel
theorem dX4_clear_12 : decode cX4_clear 12 = .ok (.aload_n 0, 1) := by decide +kernel
theorem dX4_clear_13 : decode cX4_clear 13 = .ok (.iconst 0, 1) := by decide +kernel
theorem dX4_clear_14 : decode cX4_clear 14 = .ok (.putfield 22, 3) := by decide +kernel
theorem dX4_clear_17 : decode cX4_clear 17 = .ok (.aload_n 0, 1) := by decide +kernel
theorem dX4_clear_18 : decode cX4_clear 18 = .ok (.iconst 0, 1) := by decide +kernel
theorem dX4_clear_19 : decode cX4_clear 19 = .ok (.putfield 25, 3) := by decide +kernel
theorem dX4_clear_22 : decode cX4_clear 22 = .ok (.aload_n 0, 1) := by decide +kernel
theorem dX4_clear_23 : decode cX4_clear 23 = .ok (.iconst 0, 1) := by decide +kernel
theorem dX4_clear_24 : decode cX4_clear 24 = .ok (.putfield 39, 3) := by decide +kernel
theorem dX4_clear_27 : decode cX4_clear 27 = .ok (.aload_n 0, 1) := by decide +kernel
theorem dX4_clear_28 : decode cX4_clear 28 = .ok (.iconst (-1), 1) := by decide +kernel
theorem dX4_clear_29 : decode cX4_clear 29 = .ok (.putfield 42, 3) := by decide +kernel
theorem dX4_clear_32 : decode cX4_clear 32 = .ok (.aload_n 0, 1) := by decide +kernel
theorem dX4_clear_33 : decode cX4_clear 33 = .ok (.getfield 50, 3) := by decide +kernel
theorem dX4_clear_36 : decode cX4_clear 36 = .ok (.invokevirtual 87, 3) := by decide +kernel
theorem dX4_clear_39 : decode cX4_clear 39 = .ok (.return_, 1) := by decide +kernel
theorem dX4_readsPerson_0 : decode cX4_readsPerson 0 = .ok (.aload_n 0, 1) := by decide +kernel
theorem dX4_readsPerson_1 : decode cX4_readsPerson 1 = .ok (.getfield 35, 3) := by decide +kernel
theorem dX4_readsPerson_4 : decode cX4_readsPerson 4 = .ok (.getfield 90, 3) := by decide +kernel
theorem dX4_readsPerson_7 : decode cX4_readsPerson 7 = .ok (.bipush 6, 2) := by decide +kernel
theorem dX4_readsPerson_9 : decode cX4_readsPerson 9 = .ok (.if_icmp .lt 9, 3) := by decide +kernel
theorem dX4_readsPerson_12 : decode cX4_readsPerson 12 = .ok (.aload_n 0, 1) := by decide +kernel
theorem dX4_readsPerson_13 : decode cX4_readsPerson 13 = .ok (.iconst 2, 1) := by decide +kernel
theorem dX4_readsPerson_14 : decode cX4_readsPerson 14 = .ok (.invokevirtual 79, 3) := by decide +kernel
theorem dX4_readsPerson_17 : decode cX4_readsPerson 17 = .ok (.ireturn, 1) := by decide +kernel
theorem dX4_readsPerson_18 : decode cX4_readsPerson 18 = .ok (.aload_n 0, 1) := by decide +kernel
theorem dX4_readsPerson_19 : decode cX4_readsPerson 19 = .ok (.getfield 50, 3) := by decide +kernel
theorem dX4_readsPerson_22 : decode cX4_readsPerson 22 = .ok (.invokevirtual 93, 3) := by decide +kernel
theorem dX4_readsPerson_25 : decode cX4_readsPerson 25 = .ok (.aload_n 0, 1) := by decide +kernel
theorem dX4_readsPerson_26 : decode cX4_readsPerson 26 = .ok (.aload_n 0, 1) := by decide +kernel
theorem dX4_readsPerson_27 : decode cX4_readsPerson 27 = .ok (.getfield 9, 3) := by decide +kernel
theorem dX4_readsPerson_30 : decode cX4_readsPerson 30 = .ok (.aload_n 0, 1) := by decide +kernel
theorem dX4_readsPerson_31 : decode cX4_readsPerson 31 = .ok (.getfield 35, 3) := by decide +kernel
theorem dX4_readsPerson_34 : decode cX4_readsPerson 34 = .ok (.getfield 90, 3) := by decide +kernel
theorem dX4_readsPerson_37 : decode cX4_readsPerson 37 = .ok (.invokevirtual 96, 3) := by decide +kernel
theorem dX4_readsPerson_40 : decode cX4_readsPerson 40 = .ok (.ifCond .eq 24, 3) := by decide +kernel
theorem dX4_readsPerson_43 : decode cX4_readsPerson 43 = .ok (.aload_n 0, 1) := by decide +kernel
theorem dX4_readsPerson_44 : decode cX4_readsPerson 44 = .ok (.sipush 206, 3) := by decide +kernel
theorem dX4_readsPerson_47 : decode cX4_readsPerson 47 = .ok (.invokevirtual 83, 3) := by decide +kernel
theorem dX4_readsPerson_50 : decode cX4_readsPerson 50 = .ok (.ifCond .eq 14, 3) := by decide +kernel
theorem dX4_readsPerson_53 : decode cX4_readsPerson 53 = .ok (.aload_n 0, 1) := by decide +kernel
theorem dX4_readsPerson_54 : decode cX4_readsPerson 54 = .ok (.iconst 0, 1) := by decide +kernel
theorem dX4_readsPerson_55 : decode cX4_readsPerson 55 = .ok (.sipush 999, 3) := by decide +kernel
theorem dX4_readsPerson_58 : decode cX4_readsPerson 58 = .ok (.invokevirtual 100, 3) := by decide +kernel
theorem dX4_readsPerson_61 : decode cX4_readsPerson 61 = .ok (.ifCond .ne 5, 3) := by decide +kernel
theorem dX4_readsPerson_64 : decode cX4_readsPerson 64 = .ok (.iconst 0, 1) := by decide +kernel
theorem dX4_readsPerson_65 : decode cX4_readsPerson 65 = .ok (.ireturn, 1) := by decide +kernel
theorem dX4_readsPerson_66 : decode cX4_readsPerson 66 = .ok (.aload_n 0, 1) := by decide +kernel
theorem dX4_readsPerson_67 : decode cX4_readsPerson 67 = .ok (.getfield 35, 3) := by decide +kernel
theorem dX4_readsPerson_70 : decode cX4_readsPerson 70 = .ok (.getfield 104, 3) := by decide +kernel
theorem dX4_readsPerson_73 : decode cX4_readsPerson 73 = .ok (.aload_n 0, 1) := by decide +kernel
theorem dX4_readsPerson_74 : decode cX4_readsPerson 74 = .ok (.getfield 35, 3) := by decide +kernel
theorem dX4_readsPerson_77 : decode cX4_readsPerson 77 = .ok (.getfield 90, 3) := by decide +kernel
theorem dX4_readsPerson_80 : decode cX4_readsPerson 80 = .ok (.aload_n 0, 1) := by decide +kernel
theorem dX4_readsPerson_81 : decode cX4_readsPerson 81 = .ok (.getfield 28, 3) := by decide +kernel
theorem dX4_readsPerson_84 : decode cX4_readsPerson 84 = .ok (.iastore, 1) := by decide +kernel
theorem dX4_readsPerson_85 : decode cX4_readsPerson 85 = .ok (.aload_n 0, 1) := by decide +kernel
theorem dX4_readsPerson_86 : decode cX4_readsPerson 86 = .ok (.getfield 35, 3) := by decide +kernel
theorem dX4_readsPerson_89 : decode cX4_readsPerson 89 = .ok (.dup, 1) := by decide +kernel
theorem dX4_readsPerson_90 : decode cX4_readsPerson 90 = .ok (.getfield 90, 3) := by decide +kernel
theorem dX4_readsPerson_93 : decode cX4_readsPerson 93 = .ok (.iconst 1, 1) := by decide +kernel
theorem dX4_readsPerson_94 : decode cX4_readsPerson 94 = .ok (.iadd, 1) := by decide +kernel
theorem dX4_readsPerson_95 : decode cX4_readsPerson 95 = .ok (.putfield 90, 3) := by decide +kernel
theorem dX4_readsPerson_98 : decode cX4_readsPerson 98 = .ok (.iconst 1, 1) := by decide +kernel
theorem dX4_readsPerson_99 : decode cX4_readsPerson 99 = .ok (.ireturn, 1) := by decide +kernel
theorem dX4_readsBell_0 : decode cX4_readsBell 0 = .ok (.aload_n 0, 1) := by decide +kernel
theorem dX4_readsBell_1 : decode cX4_readsBell 1 = .ok (.getfield 35, 3) := by decide +kernel
theorem dX4_readsBell_4 : decode cX4_readsBell 4 = .ok (.getfield 108, 3) := by decide +kernel
theorem dX4_readsBell_7 : decode cX4_readsBell 7 = .ok (.iconst 5, 1) := by decide +kernel
theorem dX4_readsBell_8 : decode cX4_readsBell 8 = .ok (.if_icmp .lt 9, 3) := by decide +kernel
theorem dX4_readsBell_11 : decode cX4_readsBell 11 = .ok (.aload_n 0, 1) := by decide +kernel
theorem dX4_readsBell_12 : decode cX4_readsBell 12 = .ok (.iconst 2, 1) := by decide +kernel
theorem dX4_readsBell_13 : decode cX4_readsBell 13 = .ok (.invokevirtual 79, 3) := by decide +kernel
theorem dX4_readsBell_16 : decode cX4_readsBell 16 = .ok (.ireturn, 1) := by decide +kernel
theorem dX4_readsBell_17 : decode cX4_readsBell 17 = .ok (.aload_n 0, 1) := by decide +kernel
theorem dX4_readsBell_18 : decode cX4_readsBell 18 = .ok (.getfield 50, 3) := by decide +kernel
theorem dX4_readsBell_21 : decode cX4_readsBell 21 = .ok (.invokevirtual 93, 3) := by decide +kernel
theorem dX4_readsBell_24 : decode cX4_readsBell 24 = .ok (.aload_n 0, 1) := by decide +kernel
theorem dX4_readsBell_25 : decode cX4_readsBell 25 = .ok (.aload_n 0, 1) := by decide +kernel
theorem dX4_readsBell_26 : decode cX4_readsBell 26 = .ok (.getfield 15, 3) := by decide +kernel
theorem dX4_readsBell_29 : decode cX4_readsBell 29 = .ok (.aload_n 0, 1) := by decide +kernel
theorem dX4_readsBell_30 : decode cX4_readsBell 30 = .ok (.getfield 35, 3) := by decide +kernel
theorem dX4_readsBell_33 : decode cX4_readsBell 33 = .ok (.getfield 108, 3) := by decide +kernel
theorem dX4_readsBell_36 : decode cX4_readsBell 36 = .ok (.invokevirtual 96, 3) := by decide +kernel
theorem dX4_readsBell_39 : decode cX4_readsBell 39 = .ok (.ifCond .eq 23, 3) := by decide +kernel
theorem dX4_readsBell_42 : decode cX4_readsBell 42 = .ok (.aload_n 0, 1) := by decide +kernel
theorem dX4_readsBell_43 : decode cX4_readsBell 43 = .ok (.sipush 207, 3) := by decide +kernel
theorem dX4_readsBell_46 : decode cX4_readsBell 46 = .ok (.invokevirtual 83, 3) := by decide +kernel
theorem dX4_readsBell_49 : decode cX4_readsBell 49 = .ok (.ifCond .eq 13, 3) := by decide +kernel
theorem dX4_readsBell_52 : decode cX4_readsBell 52 = .ok (.aload_n 0, 1) := by decide +kernel
theorem dX4_readsBell_53 : decode cX4_readsBell 53 = .ok (.iconst 0, 1) := by decide +kernel
theorem dX4_readsBell_54 : decode cX4_readsBell 54 = .ok (.bipush 23, 2) := by decide +kernel
theorem dX4_readsBell_56 : decode cX4_readsBell 56 = .ok (.invokevirtual 100, 3) := by decide +kernel
theorem dX4_readsBell_59 : decode cX4_readsBell 59 = .ok (.ifCond .ne 5, 3) := by decide +kernel
theorem dX4_readsBell_62 : decode cX4_readsBell 62 = .ok (.iconst 0, 1) := by decide +kernel
theorem dX4_readsBell_63 : decode cX4_readsBell 63 = .ok (.ireturn, 1) := by decide +kernel
theorem dX4_readsBell_64 : decode cX4_readsBell 64 = .ok (.aload_n 0, 1) := by decide +kernel
theorem dX4_readsBell_65 : decode cX4_readsBell 65 = .ok (.getfield 35, 3) := by decide +kernel
theorem dX4_readsBell_68 : decode cX4_readsBell 68 = .ok (.getfield 111, 3) := by decide +kernel
theorem dX4_readsBell_71 : decode cX4_readsBell 71 = .ok (.aload_n 0, 1) := by decide +kernel
theorem dX4_readsBell_72 : decode cX4_readsBell 72 = .ok (.getfield 35, 3) := by decide +kernel
theorem dX4_readsBell_75 : decode cX4_readsBell 75 = .ok (.getfield 108, 3) := by decide +kernel
theorem dX4_readsBell_78 : decode cX4_readsBell 78 = .ok (.aload_n 0, 1) := by decide +kernel
theorem dX4_readsBell_79 : decode cX4_readsBell 79 = .ok (.getfield 28, 3) := by decide +kernel
theorem dX4_readsBell_82 : decode cX4_readsBell 82 = .ok (.iastore, 1) := by decide +kernel
theorem dX4_readsBell_83 : decode cX4_readsBell 83 = .ok (.aload_n 0, 1) := by decide +kernel
theorem dX4_readsBell_84 : decode cX4_readsBell 84 = .ok (.getfield 35, 3) := by decide +kernel
theorem dX4_readsBell_87 : decode cX4_readsBell 87 = .ok (.dup, 1) := by decide +kernel
theorem dX4_readsBell_88 : decode cX4_readsBell 88 = .ok (.getfield 108, 3) := by decide +kernel
theorem dX4_readsBell_91 : decode cX4_readsBell 91 = .ok (.iconst 1, 1) := by decide +kernel
theorem dX4_readsBell_92 : decode cX4_readsBell 92 = .ok (.iadd, 1) := by decide +kernel
theorem dX4_readsBell_93 : decode cX4_readsBell 93 = .ok (.putfield 108, 3) := by decide +kernel
theorem dX4_readsBell_96 : decode cX4_readsBell 96 = .ok (.iconst 1, 1) := by decide +kernel
theorem dX4_readsBell_97 : decode cX4_readsBell 97 = .ok (.ireturn, 1) := by decide +kernel
theorem dX4_readsLoses_0 : decode cX4_readsLoses 0 = .ok (.aload_n 0, 1) := by decide +kernel
theorem dX4_readsLoses_1 : decode cX4_readsLoses 1 = .ok (.getfield 35, 3) := by decide +kernel
theorem dX4_readsLoses_4 : decode cX4_readsLoses 4 = .ok (.getfield 114, 3) := by decide +kernel
theorem dX4_readsLoses_7 : decode cX4_readsLoses 7 = .ok (.bipush 20, 2) := by decide +kernel
theorem dX4_readsLoses_9 : decode cX4_readsLoses 9 = .ok (.if_icmp .lt 9, 3) := by decide +kernel
theorem dX4_readsLoses_12 : decode cX4_readsLoses 12 = .ok (.aload_n 0, 1) := by decide +kernel
theorem dX4_readsLoses_13 : decode cX4_readsLoses 13 = .ok (.iconst 2, 1) := by decide +kernel
theorem dX4_readsLoses_14 : decode cX4_readsLoses 14 = .ok (.invokevirtual 79, 3) := by decide +kernel
theorem dX4_readsLoses_17 : decode cX4_readsLoses 17 = .ok (.ireturn, 1) := by decide +kernel
theorem dX4_readsLoses_18 : decode cX4_readsLoses 18 = .ok (.aload_n 0, 1) := by decide +kernel
theorem dX4_readsLoses_19 : decode cX4_readsLoses 19 = .ok (.getfield 50, 3) := by decide +kernel
theorem dX4_readsLoses_22 : decode cX4_readsLoses 22 = .ok (.invokevirtual 93, 3) := by decide +kernel
theorem dX4_readsLoses_25 : decode cX4_readsLoses 25 = .ok (.aload_n 0, 1) := by decide +kernel
theorem dX4_readsLoses_26 : decode cX4_readsLoses 26 = .ok (.aload_n 0, 1) := by decide +kernel
theorem dX4_readsLoses_27 : decode cX4_readsLoses 27 = .ok (.getfield 9, 3) := by decide +kernel
theorem dX4_readsLoses_30 : decode cX4_readsLoses 30 = .ok (.aload_n 0, 1) := by decide +kernel
theorem dX4_readsLoses_31 : decode cX4_readsLoses 31 = .ok (.getfield 35, 3) := by decide +kernel
theorem dX4_readsLoses_34 : decode cX4_readsLoses 34 = .ok (.getfield 90, 3) := by decide +kernel
theorem dX4_readsLoses_37 : decode cX4_readsLoses 37 = .ok (.invokevirtual 117, 3) := by decide +kernel
theorem dX4_readsLoses_40 : decode cX4_readsLoses 40 = .ok (.istore_n 1, 1) := by decide +kernel
theorem dX4_readsLoses_41 : decode cX4_readsLoses 41 = .ok (.iload_n 1, 1) := by decide +kernel
theorem dX4_readsLoses_42 : decode cX4_readsLoses 42 = .ok (.iconst (-1), 1) := by decide +kernel
theorem dX4_readsLoses_43 : decode cX4_readsLoses 43 = .ok (.if_icmp .ne 5, 3) := by decide +kernel
theorem dX4_readsLoses_46 : decode cX4_readsLoses 46 = .ok (.iconst 0, 1) := by decide +kernel
theorem dX4_readsLoses_47 : decode cX4_readsLoses 47 = .ok (.ireturn, 1) := by decide +kernel
theorem dX4_readsLoses_48 : decode cX4_readsLoses 48 = .ok (.aload_n 0, 1) := by decide +kernel
theorem dX4_readsLoses_49 : decode cX4_readsLoses 49 = .ok (.getfield 50, 3) := by decide +kernel
theorem dX4_readsLoses_52 : decode cX4_readsLoses 52 = .ok (.invokevirtual 93, 3) := by decide +kernel
theorem dX4_readsLoses_55 : decode cX4_readsLoses 55 = .ok (.aload_n 0, 1) := by decide +kernel
theorem dX4_readsLoses_56 : decode cX4_readsLoses 56 = .ok (.aload_n 0, 1) := by decide +kernel
theorem dX4_readsLoses_57 : decode cX4_readsLoses 57 = .ok (.getfield 15, 3) := by decide +kernel
theorem dX4_readsLoses_60 : decode cX4_readsLoses 60 = .ok (.aload_n 0, 1) := by decide +kernel
theorem dX4_readsLoses_61 : decode cX4_readsLoses 61 = .ok (.getfield 35, 3) := by decide +kernel
theorem dX4_readsLoses_64 : decode cX4_readsLoses 64 = .ok (.getfield 108, 3) := by decide +kernel
theorem dX4_readsLoses_67 : decode cX4_readsLoses 67 = .ok (.invokevirtual 117, 3) := by decide +kernel
theorem dX4_readsLoses_70 : decode cX4_readsLoses 70 = .ok (.istore_n 2, 1) := by decide +kernel
theorem dX4_readsLoses_71 : decode cX4_readsLoses 71 = .ok (.iload_n 2, 1) := by decide +kernel
theorem dX4_readsLoses_72 : decode cX4_readsLoses 72 = .ok (.iconst (-1), 1) := by decide +kernel
theorem dX4_readsLoses_73 : decode cX4_readsLoses 73 = .ok (.if_icmp .ne 5, 3) := by decide +kernel
theorem dX4_readsLoses_76 : decode cX4_readsLoses 76 = .ok (.iconst 0, 1) := by decide +kernel
theorem dX4_readsLoses_77 : decode cX4_readsLoses 77 = .ok (.ireturn, 1) := by decide +kernel
theorem dX4_readsLoses_78 : decode cX4_readsLoses 78 = .ok (.iload_n 1, 1) := by decide +kernel
theorem dX4_readsLoses_79 : decode cX4_readsLoses 79 = .ok (.iload_n 2, 1) := by decide +kernel
theorem dX4_readsLoses_80 : decode cX4_readsLoses 80 = .ok (.invokestatic 121, 3) := by decide +kernel
theorem dX4_readsLoses_83 : decode cX4_readsLoses 83 = .ok (.istore_n 3, 1) := by decide +kernel
theorem dX4_readsLoses_84 : decode cX4_readsLoses 84 = .ok (.aload_n 0, 1) := by decide +kernel
theorem dX4_readsLoses_85 : decode cX4_readsLoses 85 = .ok (.getfield 35, 3) := by decide +kernel
theorem dX4_readsLoses_88 : decode cX4_readsLoses 88 = .ok (.getfield 125, 3) := by decide +kernel
theorem dX4_readsLoses_91 : decode cX4_readsLoses 91 = .ok (.iload_n 3, 1) := by decide +kernel
theorem dX4_readsLoses_92 : decode cX4_readsLoses 92 = .ok (.iaload, 1) := by decide +kernel
theorem dX4_readsLoses_93 : decode cX4_readsLoses 93 = .ok (.ifCond .le 9, 3) := by decide +kernel
theorem dX4_readsLoses_96 : decode cX4_readsLoses 96 = .ok (.aload_n 0, 1) := by decide +kernel
theorem dX4_readsLoses_97 : decode cX4_readsLoses 97 = .ok (.iconst 3, 1) := by decide +kernel
theorem dX4_readsLoses_98 : decode cX4_readsLoses 98 = .ok (.invokevirtual 79, 3) := by decide +kernel
theorem dX4_readsLoses_101 : decode cX4_readsLoses 101 = .ok (.ireturn, 1) := by decide +kernel
theorem dX4_readsLoses_102 : decode cX4_readsLoses 102 = .ok (.aload_n 0, 1) := by decide +kernel
theorem dX4_readsLoses_103 : decode cX4_readsLoses 103 = .ok (.getfield 50, 3) := by decide +kernel
theorem dX4_readsLoses_106 : decode cX4_readsLoses 106 = .ok (.invokevirtual 93, 3) := by decide +kernel
theorem dX4_readsLoses_109 : decode cX4_readsLoses 109 = .ok (.aload_n 0, 1) := by decide +kernel
theorem dX4_readsLoses_110 : decode cX4_readsLoses 110 = .ok (.iconst 1, 1) := by decide +kernel
theorem dX4_readsLoses_111 : decode cX4_readsLoses 111 = .ok (.bipush 20, 2) := by decide +kernel
theorem dX4_readsLoses_113 : decode cX4_readsLoses 113 = .ok (.invokevirtual 100, 3) := by decide +kernel
theorem dX4_readsLoses_116 : decode cX4_readsLoses 116 = .ok (.ifCond .ne 5, 3) := by decide +kernel
theorem dX4_readsLoses_119 : decode cX4_readsLoses 119 = .ok (.iconst 0, 1) := by decide +kernel
theorem dX4_readsLoses_120 : decode cX4_readsLoses 120 = .ok (.ireturn, 1) := by decide +kernel
theorem dX4_readsLoses_121 : decode cX4_readsLoses 121 = .ok (.aload_n 0, 1) := by decide +kernel
theorem dX4_readsLoses_122 : decode cX4_readsLoses 122 = .ok (.getfield 35, 3) := by decide +kernel
theorem dX4_readsLoses_125 : decode cX4_readsLoses 125 = .ok (.getfield 125, 3) := by decide +kernel
theorem dX4_readsLoses_128 : decode cX4_readsLoses 128 = .ok (.iload_n 3, 1) := by decide +kernel
theorem dX4_readsLoses_129 : decode cX4_readsLoses 129 = .ok (.aload_n 0, 1) := by decide +kernel
theorem dX4_readsLoses_130 : decode cX4_readsLoses 130 = .ok (.getfield 28, 3) := by decide +kernel
theorem dX4_readsLoses_133 : decode cX4_readsLoses 133 = .ok (.iastore, 1) := by decide +kernel
theorem dX4_readsLoses_134 : decode cX4_readsLoses 134 = .ok (.aload_n 0, 1) := by decide +kernel
theorem dX4_readsLoses_135 : decode cX4_readsLoses 135 = .ok (.getfield 35, 3) := by decide +kernel
theorem dX4_readsLoses_138 : decode cX4_readsLoses 138 = .ok (.iload_n 3, 1) := by decide +kernel
theorem dX4_readsLoses_139 : decode cX4_readsLoses 139 = .ok (.putfield 128, 3) := by decide +kernel
theorem dX4_readsLoses_142 : decode cX4_readsLoses 142 = .ok (.aload_n 0, 1) := by decide +kernel
theorem dX4_readsLoses_143 : decode cX4_readsLoses 143 = .ok (.getfield 35, 3) := by decide +kernel
theorem dX4_readsLoses_146 : decode cX4_readsLoses 146 = .ok (.dup, 1) := by decide +kernel
theorem dX4_readsLoses_147 : decode cX4_readsLoses 147 = .ok (.getfield 114, 3) := by decide +kernel
theorem dX4_readsLoses_150 : decode cX4_readsLoses 150 = .ok (.iconst 1, 1) := by decide +kernel
theorem dX4_readsLoses_151 : decode cX4_readsLoses 151 = .ok (.iadd, 1) := by decide +kernel
theorem dX4_readsLoses_152 : decode cX4_readsLoses 152 = .ok (.putfield 114, 3) := by decide +kernel
theorem dX4_readsLoses_155 : decode cX4_readsLoses 155 = .ok (.iconst 1, 1) := by decide +kernel
theorem dX4_readsLoses_156 : decode cX4_readsLoses 156 = .ok (.ireturn, 1) := by decide +kernel
theorem dX4_readsWeighs_0 : decode cX4_readsWeighs 0 = .ok (.aload_n 0, 1) := by decide +kernel
theorem dX4_readsWeighs_1 : decode cX4_readsWeighs 1 = .ok (.getfield 18, 3) := by decide +kernel
theorem dX4_readsWeighs_4 : decode cX4_readsWeighs 4 = .ok (.ifCond .eq 9, 3) := by decide +kernel
theorem dX4_readsWeighs_7 : decode cX4_readsWeighs 7 = .ok (.aload_n 0, 1) := by decide +kernel
theorem dX4_readsWeighs_8 : decode cX4_readsWeighs 8 = .ok (.iconst 2, 1) := by decide +kernel
theorem dX4_readsWeighs_9 : decode cX4_readsWeighs 9 = .ok (.invokevirtual 79, 3) := by decide +kernel
theorem dX4_readsWeighs_12 : decode cX4_readsWeighs 12 = .ok (.ireturn, 1) := by decide +kernel
theorem dX4_readsWeighs_13 : decode cX4_readsWeighs 13 = .ok (.aload_n 0, 1) := by decide +kernel
theorem dX4_readsWeighs_14 : decode cX4_readsWeighs 14 = .ok (.iconst 1, 1) := by decide +kernel
theorem dX4_readsWeighs_15 : decode cX4_readsWeighs 15 = .ok (.putfield 18, 3) := by decide +kernel
theorem dX4_readsWeighs_18 : decode cX4_readsWeighs 18 = .ok (.aload_n 0, 1) := by decide +kernel
theorem dX4_readsWeighs_19 : decode cX4_readsWeighs 19 = .ok (.getfield 50, 3) := by decide +kernel
theorem dX4_readsWeighs_22 : decode cX4_readsWeighs 22 = .ok (.invokevirtual 93, 3) := by decide +kernel
theorem dX4_readsWeighs_25 : decode cX4_readsWeighs 25 = .ok (.aload_n 0, 1) := by decide +kernel
theorem dX4_readsWeighs_26 : decode cX4_readsWeighs 26 = .ok (.iconst 0, 1) := by decide +kernel
theorem dX4_readsWeighs_27 : decode cX4_readsWeighs 27 = .ok (.iconst 0, 1) := by decide +kernel
theorem dX4_readsWeighs_28 : decode cX4_readsWeighs 28 = .ok (.invokevirtual 131, 3) := by decide +kernel
theorem dX4_readsWeighs_31 : decode cX4_readsWeighs 31 = .ok (.ireturn, 1) := by decide +kernel
theorem dX4_readsFaces_0 : decode cX4_readsFaces 0 = .ok (.aload_n 0, 1) := by decide +kernel
theorem dX4_readsFaces_1 : decode cX4_readsFaces 1 = .ok (.getfield 22, 3) := by decide +kernel
theorem dX4_readsFaces_4 : decode cX4_readsFaces 4 = .ok (.ifCond .eq 9, 3) := by decide +kernel
theorem dX4_readsFaces_7 : decode cX4_readsFaces 7 = .ok (.aload_n 0, 1) := by decide +kernel
theorem dX4_readsFaces_8 : decode cX4_readsFaces 8 = .ok (.iconst 2, 1) := by decide +kernel
theorem dX4_readsFaces_9 : decode cX4_readsFaces 9 = .ok (.invokevirtual 79, 3) := by decide +kernel
theorem dX4_readsFaces_12 : decode cX4_readsFaces 12 = .ok (.ireturn, 1) := by decide +kernel
theorem dX4_readsFaces_13 : decode cX4_readsFaces 13 = .ok (.aload_n 0, 1) := by decide +kernel
theorem dX4_readsFaces_14 : decode cX4_readsFaces 14 = .ok (.iconst 1, 1) := by decide +kernel
theorem dX4_readsFaces_15 : decode cX4_readsFaces 15 = .ok (.putfield 22, 3) := by decide +kernel
theorem dX4_readsFaces_18 : decode cX4_readsFaces 18 = .ok (.aload_n 0, 1) := by decide +kernel
theorem dX4_readsFaces_19 : decode cX4_readsFaces 19 = .ok (.getfield 50, 3) := by decide +kernel
theorem dX4_readsFaces_22 : decode cX4_readsFaces 22 = .ok (.invokevirtual 93, 3) := by decide +kernel
theorem dX4_readsFaces_25 : decode cX4_readsFaces 25 = .ok (.aload_n 0, 1) := by decide +kernel
theorem dX4_readsFaces_26 : decode cX4_readsFaces 26 = .ok (.iconst 0, 1) := by decide +kernel
theorem dX4_readsFaces_27 : decode cX4_readsFaces 27 = .ok (.bipush 100, 2) := by decide +kernel
theorem dX4_readsFaces_29 : decode cX4_readsFaces 29 = .ok (.invokevirtual 100, 3) := by decide +kernel
theorem dX4_readsFaces_32 : decode cX4_readsFaces 32 = .ok (.ifCond .ne 5, 3) := by decide +kernel
theorem dX4_readsFaces_35 : decode cX4_readsFaces 35 = .ok (.iconst 0, 1) := by decide +kernel
theorem dX4_readsFaces_36 : decode cX4_readsFaces 36 = .ok (.ireturn, 1) := by decide +kernel
theorem dX4_readsFaces_37 : decode cX4_readsFaces 37 = .ok (.aload_n 0, 1) := by decide +kernel
theorem dX4_readsFaces_38 : decode cX4_readsFaces 38 = .ok (.getfield 35, 3) := by decide +kernel
theorem dX4_readsFaces_41 : decode cX4_readsFaces 41 = .ok (.aload_n 0, 1) := by decide +kernel
theorem dX4_readsFaces_42 : decode cX4_readsFaces 42 = .ok (.getfield 28, 3) := by decide +kernel
theorem dX4_readsFaces_45 : decode cX4_readsFaces 45 = .ok (.putfield 134, 3) := by decide +kernel
theorem dX4_readsFaces_48 : decode cX4_readsFaces 48 = .ok (.iconst 1, 1) := by decide +kernel
theorem dX4_readsFaces_49 : decode cX4_readsFaces 49 = .ok (.ireturn, 1) := by decide +kernel
theorem dX4_readsDraw_0 : decode cX4_readsDraw 0 = .ok (.aload_n 0, 1) := by decide +kernel
theorem dX4_readsDraw_1 : decode cX4_readsDraw 1 = .ok (.getfield 25, 3) := by decide +kernel
theorem dX4_readsDraw_4 : decode cX4_readsDraw 4 = .ok (.ifCond .eq 9, 3) := by decide +kernel
theorem dX4_readsDraw_7 : decode cX4_readsDraw 7 = .ok (.aload_n 0, 1) := by decide +kernel
theorem dX4_readsDraw_8 : decode cX4_readsDraw 8 = .ok (.iconst 2, 1) := by decide +kernel
theorem dX4_readsDraw_9 : decode cX4_readsDraw 9 = .ok (.invokevirtual 79, 3) := by decide +kernel
theorem dX4_readsDraw_12 : decode cX4_readsDraw 12 = .ok (.ireturn, 1) := by decide +kernel
theorem dX4_readsDraw_13 : decode cX4_readsDraw 13 = .ok (.aload_n 0, 1) := by decide +kernel
theorem dX4_readsDraw_14 : decode cX4_readsDraw 14 = .ok (.iconst 1, 1) := by decide +kernel
theorem dX4_readsDraw_15 : decode cX4_readsDraw 15 = .ok (.putfield 25, 3) := by decide +kernel
theorem dX4_readsDraw_18 : decode cX4_readsDraw 18 = .ok (.aload_n 0, 1) := by decide +kernel
theorem dX4_readsDraw_19 : decode cX4_readsDraw 19 = .ok (.getfield 50, 3) := by decide +kernel
theorem dX4_readsDraw_22 : decode cX4_readsDraw 22 = .ok (.invokevirtual 93, 3) := by decide +kernel
theorem dX4_readsDraw_25 : decode cX4_readsDraw 25 = .ok (.aload_n 0, 1) := by decide +kernel
theorem dX4_readsDraw_26 : decode cX4_readsDraw 26 = .ok (.iconst 0, 1) := by decide +kernel
theorem dX4_readsDraw_27 : decode cX4_readsDraw 27 = .ok (.sipush 999, 3) := by decide +kernel
theorem dX4_readsDraw_30 : decode cX4_readsDraw 30 = .ok (.invokevirtual 100, 3) := by decide +kernel
theorem dX4_readsDraw_33 : decode cX4_readsDraw 33 = .ok (.ifCond .ne 5, 3) := by decide +kernel
theorem dX4_readsDraw_36 : decode cX4_readsDraw 36 = .ok (.iconst 0, 1) := by decide +kernel
theorem dX4_readsDraw_37 : decode cX4_readsDraw 37 = .ok (.ireturn, 1) := by decide +kernel
theorem dX4_readsDraw_38 : decode cX4_readsDraw 38 = .ok (.aload_n 0, 1) := by decide +kernel
theorem dX4_readsDraw_39 : decode cX4_readsDraw 39 = .ok (.getfield 35, 3) := by decide +kernel
theorem dX4_readsDraw_42 : decode cX4_readsDraw 42 = .ok (.aload_n 0, 1) := by decide +kernel
theorem dX4_readsDraw_43 : decode cX4_readsDraw 43 = .ok (.getfield 28, 3) := by decide +kernel
theorem dX4_readsDraw_46 : decode cX4_readsDraw 46 = .ok (.putfield 137, 3) := by decide +kernel
theorem dX4_readsDraw_49 : decode cX4_readsDraw 49 = .ok (.iconst 1, 1) := by decide +kernel
theorem dX4_readsDraw_50 : decode cX4_readsDraw 50 = .ok (.ireturn, 1) := by decide +kernel
theorem dX4_readsLevel_0 : decode cX4_readsLevel 0 = .ok (.iload_n 1, 1) := by decide +kernel
theorem dX4_readsLevel_1 : decode cX4_readsLevel 1 = .ok (.iconst 4, 1) := by decide +kernel
theorem dX4_readsLevel_2 : decode cX4_readsLevel 2 = .ok (.if_icmp .le 9, 3) := by decide +kernel
theorem dX4_readsLevel_5 : decode cX4_readsLevel 5 = .ok (.aload_n 0, 1) := by decide +kernel
theorem dX4_readsLevel_6 : decode cX4_readsLevel 6 = .ok (.iload_n 2, 1) := by decide +kernel
theorem dX4_readsLevel_7 : decode cX4_readsLevel 7 = .ok (.invokevirtual 140, 3) := by decide +kernel
theorem dX4_readsLevel_10 : decode cX4_readsLevel 10 = .ok (.ireturn, 1) := by decide +kernel
theorem dX4_readsLevel_11 : decode cX4_readsLevel 11 = .ok (.iload_n 1, 1) := by decide +kernel
theorem dX4_readsLevel_12 : decode cX4_readsLevel 12 = .ok (.iconst 2, 1) := by decide +kernel
theorem dX4_readsLevel_13 : decode cX4_readsLevel 13 = .ok (.if_icmp .ne 22, 3) := by decide +kernel
theorem dX4_readsLevel_16 : decode cX4_readsLevel 16 = .ok (.aload_n 0, 1) := by decide +kernel
theorem dX4_readsLevel_17 : decode cX4_readsLevel 17 = .ok (.getfield 50, 3) := by decide +kernel
theorem dX4_readsLevel_20 : decode cX4_readsLevel 20 = .ok (.getfield 57, 3) := by decide +kernel
theorem dX4_readsLevel_23 : decode cX4_readsLevel 23 = .ok (.sipush 214, 3) := by decide +kernel
theorem dX4_readsLevel_26 : decode cX4_readsLevel 26 = .ok (.if_icmp .ne 9, 3) := by decide +kernel
theorem dX4_readsLevel_29 : decode cX4_readsLevel 29 = .ok (.aload_n 0, 1) := by decide +kernel
theorem dX4_readsLevel_30 : decode cX4_readsLevel 30 = .ok (.iload_n 2, 1) := by decide +kernel
theorem dX4_readsLevel_31 : decode cX4_readsLevel 31 = .ok (.invokevirtual 143, 3) := by decide +kernel
theorem dX4_readsLevel_34 : decode cX4_readsLevel 34 = .ok (.ireturn, 1) := by decide +kernel
theorem dX4_readsLevel_35 : decode cX4_readsLevel 35 = .ok (.aload_n 0, 1) := by decide +kernel
theorem dX4_readsLevel_36 : decode cX4_readsLevel 36 = .ok (.iload_n 1, 1) := by decide +kernel
theorem dX4_readsLevel_37 : decode cX4_readsLevel 37 = .ok (.iconst 1, 1) := by decide +kernel
theorem dX4_readsLevel_38 : decode cX4_readsLevel 38 = .ok (.iadd, 1) := by decide +kernel
theorem dX4_readsLevel_39 : decode cX4_readsLevel 39 = .ok (.iload_n 2, 1) := by decide +kernel
theorem dX4_readsLevel_40 : decode cX4_readsLevel 40 = .ok (.invokevirtual 131, 3) := by decide +kernel
theorem dX4_readsLevel_43 : decode cX4_readsLevel 43 = .ok (.istore_n 3, 1) := by decide +kernel
theorem dX4_readsLevel_44 : decode cX4_readsLevel 44 = .ok (.iload_n 1, 1) := by decide +kernel
theorem dX4_readsLevel_45 : decode cX4_readsLevel 45 = .ok (.iconst 2, 1) := by decide +kernel
theorem dX4_readsLevel_46 : decode cX4_readsLevel 46 = .ok (.if_icmp .ne 7, 3) := by decide +kernel
theorem dX4_readsLevel_49 : decode cX4_readsLevel 49 = .ok (.iconst 1, 1) := by decide +kernel
theorem dX4_readsLevel_50 : decode cX4_readsLevel 50 = .ok (.goto 5, 3) := by decide +kernel
theorem dX4_readsLevel_53 : decode cX4_readsLevel 53 = .ok (.bipush 30, 2) := by decide +kernel
theorem dX4_readsLevel_55 : decode cX4_readsLevel 55 = .ok (.istore 4, 2) := by decide +kernel
theorem dX4_readsLevel_57 : decode cX4_readsLevel 57 = .ok (.iconst 0, 1) := by decide +kernel
theorem dX4_readsLevel_58 : decode cX4_readsLevel 58 = .ok (.istore 5, 2) := by decide +kernel
theorem dX4_readsLevel_60 : decode cX4_readsLevel 60 = .ok (.iload 5, 2) := by decide +kernel
theorem dX4_readsLevel_62 : decode cX4_readsLevel 62 = .ok (.iload 4, 2) := by decide +kernel
theorem dX4_readsLevel_64 : decode cX4_readsLevel 64 = .ok (.if_icmp .ge 65, 3) := by decide +kernel
theorem dX4_readsLevel_67 : decode cX4_readsLevel 67 = .ok (.iload_n 3, 1) := by decide +kernel
theorem dX4_readsLevel_68 : decode cX4_readsLevel 68 = .ok (.ifCond .eq 61, 3) := by decide +kernel
theorem dX4_readsLevel_71 : decode cX4_readsLevel 71 = .ok (.aload_n 0, 1) := by decide +kernel
theorem dX4_readsLevel_72 : decode cX4_readsLevel 72 = .ok (.getfield 50, 3) := by decide +kernel
theorem dX4_readsLevel_75 : decode cX4_readsLevel 75 = .ok (.getfield 57, 3) := by decide +kernel
theorem dX4_readsLevel_78 : decode cX4_readsLevel 78 = .ok (.invokestatic 146, 3) := by decide +kernel
theorem dX4_readsLevel_81 : decode cX4_readsLevel 81 = .ok (.iload_n 1, 1) := by decide +kernel
theorem dX4_readsLevel_82 : decode cX4_readsLevel 82 = .ok (.if_icmp .ne 47, 3) := by decide +kernel
theorem dX4_readsLevel_85 : decode cX4_readsLevel 85 = .ok (.aload_n 0, 1) := by decide +kernel
theorem dX4_readsLevel_86 : decode cX4_readsLevel 86 = .ok (.getfield 50, 3) := by decide +kernel
theorem dX4_readsLevel_89 : decode cX4_readsLevel 89 = .ok (.getfield 57, 3) := by decide +kernel
theorem dX4_readsLevel_92 : decode cX4_readsLevel 92 = .ok (.istore 6, 2) := by decide +kernel
theorem dX4_readsLevel_94 : decode cX4_readsLevel 94 = .ok (.aload_n 0, 1) := by decide +kernel
theorem dX4_readsLevel_95 : decode cX4_readsLevel 95 = .ok (.getfield 50, 3) := by decide +kernel
theorem dX4_readsLevel_98 : decode cX4_readsLevel 98 = .ok (.invokevirtual 93, 3) := by decide +kernel
theorem dX4_readsLevel_101 : decode cX4_readsLevel 101 = .ok (.aload_n 0, 1) := by decide +kernel
theorem dX4_readsLevel_102 : decode cX4_readsLevel 102 = .ok (.iload_n 1, 1) := by decide +kernel
theorem dX4_readsLevel_103 : decode cX4_readsLevel 103 = .ok (.iconst 1, 1) := by decide +kernel
theorem dX4_readsLevel_104 : decode cX4_readsLevel 104 = .ok (.iadd, 1) := by decide +kernel
theorem dX4_readsLevel_105 : decode cX4_readsLevel 105 = .ok (.iload_n 2, 1) := by decide +kernel
theorem dX4_readsLevel_106 : decode cX4_readsLevel 106 = .ok (.invokevirtual 131, 3) := by decide +kernel
theorem dX4_readsLevel_109 : decode cX4_readsLevel 109 = .ok (.istore_n 3, 1) := by decide +kernel
theorem dX4_readsLevel_110 : decode cX4_readsLevel 110 = .ok (.aload_n 0, 1) := by decide +kernel
theorem dX4_readsLevel_111 : decode cX4_readsLevel 111 = .ok (.getfield 35, 3) := by decide +kernel
theorem dX4_readsLevel_114 : decode cX4_readsLevel 114 = .ok (.getfield 150, 3) := by decide +kernel
theorem dX4_readsLevel_117 : decode cX4_readsLevel 117 = .ok (.iload 6, 2) := by decide +kernel
theorem dX4_readsLevel_119 : decode cX4_readsLevel 119 = .ok (.ineg, 1) := by decide +kernel
theorem dX4_readsLevel_120 : decode cX4_readsLevel 120 = .ok (.invokevirtual 154, 3) := by decide +kernel
theorem dX4_readsLevel_123 : decode cX4_readsLevel 123 = .ok (.iinc 5 1, 3) := by decide +kernel
theorem dX4_readsLevel_126 : decode cX4_readsLevel 126 = .ok (.goto (-66), 3) := by decide +kernel
theorem dX4_readsLevel_129 : decode cX4_readsLevel 129 = .ok (.iload_n 3, 1) := by decide +kernel
theorem dX4_readsLevel_130 : decode cX4_readsLevel 130 = .ok (.ireturn, 1) := by decide +kernel
theorem dX4_levelOf_0 : decode cX4_levelOf 0 = .ok (.iload_n 0, 1) := by decide +kernel
theorem dX4_levelOf_1 : decode cX4_levelOf 1 = .ok (.lookupswitch 111 #[(37, 107), (42, 107), (43, 103), (45, 103), (47, 107), (60, 99), (61, 99), (62, 99), (212, 91), (213, 95)], 91) := by decide +kernel
theorem dX4_levelOf_92 : decode cX4_levelOf 92 = .ok (.iconst 0, 1) := by decide +kernel
theorem dX4_levelOf_93 : decode cX4_levelOf 93 = .ok (.goto 20, 3) := by decide +kernel
theorem dX4_levelOf_96 : decode cX4_levelOf 96 = .ok (.iconst 1, 1) := by decide +kernel
theorem dX4_levelOf_97 : decode cX4_levelOf 97 = .ok (.goto 16, 3) := by decide +kernel
theorem dX4_levelOf_100 : decode cX4_levelOf 100 = .ok (.iconst 2, 1) := by decide +kernel
theorem dX4_levelOf_101 : decode cX4_levelOf 101 = .ok (.goto 12, 3) := by decide +kernel
theorem dX4_levelOf_104 : decode cX4_levelOf 104 = .ok (.iconst 3, 1) := by decide +kernel
theorem dX4_levelOf_105 : decode cX4_levelOf 105 = .ok (.goto 8, 3) := by decide +kernel
theorem dX4_levelOf_108 : decode cX4_levelOf 108 = .ok (.iconst 4, 1) := by decide +kernel
theorem dX4_levelOf_109 : decode cX4_levelOf 109 = .ok (.goto 4, 3) := by decide +kernel
theorem dX4_levelOf_112 : decode cX4_levelOf 112 = .ok (.iconst (-1), 1) := by decide +kernel
theorem dX4_levelOf_113 : decode cX4_levelOf 113 = .ok (.ireturn, 1) := by decide +kernel
theorem dX4_readsNot_0 : decode cX4_readsNot 0 = .ok (.iload_n 1, 1) := by decide +kernel
theorem dX4_readsNot_1 : decode cX4_readsNot 1 = .ok (.bipush 7, 2) := by decide +kernel
theorem dX4_readsNot_3 : decode cX4_readsNot 3 = .ok (.if_icmp .lt 9, 3) := by decide +kernel
theorem dX4_readsNot_6 : decode cX4_readsNot 6 = .ok (.aload_n 0, 1) := by decide +kernel
theorem dX4_readsNot_7 : decode cX4_readsNot 7 = .ok (.iconst 2, 1) := by decide +kernel
theorem dX4_readsNot_8 : decode cX4_readsNot 8 = .ok (.invokevirtual 79, 3) := by decide +kernel
theorem dX4_readsNot_11 : decode cX4_readsNot 11 = .ok (.ireturn, 1) := by decide +kernel
theorem dX4_readsNot_12 : decode cX4_readsNot 12 = .ok (.aload_n 0, 1) := by decide +kernel
theorem dX4_readsNot_13 : decode cX4_readsNot 13 = .ok (.getfield 50, 3) := by decide +kernel
theorem dX4_readsNot_16 : decode cX4_readsNot 16 = .ok (.invokevirtual 93, 3) := by decide +kernel
theorem dX4_readsNot_19 : decode cX4_readsNot 19 = .ok (.aload_n 0, 1) := by decide +kernel
theorem dX4_readsNot_20 : decode cX4_readsNot 20 = .ok (.iconst 2, 1) := by decide +kernel
theorem dX4_readsNot_21 : decode cX4_readsNot 21 = .ok (.iload_n 1, 1) := by decide +kernel
theorem dX4_readsNot_22 : decode cX4_readsNot 22 = .ok (.iconst 1, 1) := by decide +kernel
theorem dX4_readsNot_23 : decode cX4_readsNot 23 = .ok (.iadd, 1) := by decide +kernel
theorem dX4_readsNot_24 : decode cX4_readsNot 24 = .ok (.invokevirtual 131, 3) := by decide +kernel
theorem dX4_readsNot_27 : decode cX4_readsNot 27 = .ok (.istore_n 2, 1) := by decide +kernel
theorem dX4_readsNot_28 : decode cX4_readsNot 28 = .ok (.aload_n 0, 1) := by decide +kernel
theorem dX4_readsNot_29 : decode cX4_readsNot 29 = .ok (.getfield 35, 3) := by decide +kernel
theorem dX4_readsNot_32 : decode cX4_readsNot 32 = .ok (.getfield 150, 3) := by decide +kernel
theorem dX4_readsNot_35 : decode cX4_readsNot 35 = .ok (.sipush (-214), 3) := by decide +kernel
theorem dX4_readsNot_38 : decode cX4_readsNot 38 = .ok (.invokevirtual 154, 3) := by decide +kernel
theorem dX4_readsNot_41 : decode cX4_readsNot 41 = .ok (.iload_n 2, 1) := by decide +kernel
theorem dX4_readsNot_42 : decode cX4_readsNot 42 = .ok (.ireturn, 1) := by decide +kernel
theorem dX4_readsUnit_0 : decode cX4_readsUnit 0 = .ok (.aload_n 0, 1) := by decide +kernel
theorem dX4_readsUnit_1 : decode cX4_readsUnit 1 = .ok (.getfield 50, 3) := by decide +kernel
theorem dX4_readsUnit_4 : decode cX4_readsUnit 4 = .ok (.getfield 57, 3) := by decide +kernel
theorem dX4_readsUnit_7 : decode cX4_readsUnit 7 = .ok (.istore_n 2, 1) := by decide +kernel
theorem dX4_readsUnit_8 : decode cX4_readsUnit 8 = .ok (.iload_n 2, 1) := by decide +kernel
theorem dX4_readsUnit_9 : decode cX4_readsUnit 9 = .ok (.bipush 40, 2) := by decide +kernel
theorem dX4_readsUnit_11 : decode cX4_readsUnit 11 = .ok (.if_icmp .ne 7, 3) := by decide +kernel
theorem dX4_readsUnit_14 : decode cX4_readsUnit 14 = .ok (.iconst 1, 1) := by decide +kernel
theorem dX4_readsUnit_15 : decode cX4_readsUnit 15 = .ok (.goto 4, 3) := by decide +kernel
theorem dX4_readsUnit_18 : decode cX4_readsUnit 18 = .ok (.iconst 0, 1) := by decide +kernel
theorem dX4_readsUnit_19 : decode cX4_readsUnit 19 = .ok (.istore_n 3, 1) := by decide +kernel
theorem dX4_readsUnit_20 : decode cX4_readsUnit 20 = .ok (.iload_n 2, 1) := by decide +kernel
theorem dX4_readsUnit_21 : decode cX4_readsUnit 21 = .ok (.iconst 3, 1) := by decide +kernel
theorem dX4_readsUnit_22 : decode cX4_readsUnit 22 = .ok (.if_icmp .eq 10, 3) := by decide +kernel
theorem dX4_readsUnit_25 : decode cX4_readsUnit 25 = .ok (.iload_n 2, 1) := by decide +kernel
theorem dX4_readsUnit_26 : decode cX4_readsUnit 26 = .ok (.invokestatic 160, 3) := by decide +kernel
theorem dX4_readsUnit_29 : decode cX4_readsUnit 29 = .ok (.ifCond .eq 7, 3) := by decide +kernel
theorem dX4_readsUnit_32 : decode cX4_readsUnit 32 = .ok (.iconst 1, 1) := by decide +kernel
theorem dX4_readsUnit_33 : decode cX4_readsUnit 33 = .ok (.goto 4, 3) := by decide +kernel
theorem dX4_readsUnit_36 : decode cX4_readsUnit 36 = .ok (.iconst 0, 1) := by decide +kernel
theorem dX4_readsUnit_37 : decode cX4_readsUnit 37 = .ok (.istore 4, 2) := by decide +kernel
theorem dX4_readsUnit_39 : decode cX4_readsUnit 39 = .ok (.aload_n 0, 1) := by decide +kernel
theorem dX4_readsUnit_40 : decode cX4_readsUnit 40 = .ok (.getfield 35, 3) := by decide +kernel
theorem dX4_readsUnit_43 : decode cX4_readsUnit 43 = .ok (.getfield 150, 3) := by decide +kernel
theorem dX4_readsUnit_46 : decode cX4_readsUnit 46 = .ok (.getfield 163, 3) := by decide +kernel
theorem dX4_readsUnit_49 : decode cX4_readsUnit 49 = .ok (.bipush 30, 2) := by decide +kernel
theorem dX4_readsUnit_51 : decode cX4_readsUnit 51 = .ok (.if_icmp .ge 22, 3) := by decide +kernel
theorem dX4_readsUnit_54 : decode cX4_readsUnit 54 = .ok (.iload_n 3, 1) := by decide +kernel
theorem dX4_readsUnit_55 : decode cX4_readsUnit 55 = .ok (.ifCond .ne 8, 3) := by decide +kernel
theorem dX4_readsUnit_58 : decode cX4_readsUnit 58 = .ok (.iload 4, 2) := by decide +kernel
theorem dX4_readsUnit_60 : decode cX4_readsUnit 60 = .ok (.ifCond .eq 13, 3) := by decide +kernel
theorem dX4_readsUnit_63 : decode cX4_readsUnit 63 = .ok (.iload_n 3, 1) := by decide +kernel
theorem dX4_readsUnit_64 : decode cX4_readsUnit 64 = .ok (.ifCond .eq 15, 3) := by decide +kernel
theorem dX4_readsUnit_67 : decode cX4_readsUnit 67 = .ok (.iload_n 1, 1) := by decide +kernel
theorem dX4_readsUnit_68 : decode cX4_readsUnit 68 = .ok (.bipush 7, 2) := by decide +kernel
theorem dX4_readsUnit_70 : decode cX4_readsUnit 70 = .ok (.if_icmp .lt 9, 3) := by decide +kernel
theorem dX4_readsUnit_73 : decode cX4_readsUnit 73 = .ok (.aload_n 0, 1) := by decide +kernel
theorem dX4_readsUnit_74 : decode cX4_readsUnit 74 = .ok (.iconst 2, 1) := by decide +kernel
theorem dX4_readsUnit_75 : decode cX4_readsUnit 75 = .ok (.invokevirtual 79, 3) := by decide +kernel
theorem dX4_readsUnit_78 : decode cX4_readsUnit 78 = .ok (.ireturn, 1) := by decide +kernel
theorem dX4_readsUnit_79 : decode cX4_readsUnit 79 = .ok (.aload_n 0, 1) := by decide +kernel
theorem dX4_readsUnit_80 : decode cX4_readsUnit 80 = .ok (.getfield 35, 3) := by decide +kernel
theorem dX4_readsUnit_83 : decode cX4_readsUnit 83 = .ok (.getfield 150, 3) := by decide +kernel
theorem dX4_readsUnit_86 : decode cX4_readsUnit 86 = .ok (.dup, 1) := by decide +kernel
theorem dX4_readsUnit_87 : decode cX4_readsUnit 87 = .ok (.getfield 163, 3) := by decide +kernel
theorem dX4_readsUnit_90 : decode cX4_readsUnit 90 = .ok (.iconst 1, 1) := by decide +kernel
theorem dX4_readsUnit_91 : decode cX4_readsUnit 91 = .ok (.iadd, 1) := by decide +kernel
theorem dX4_readsUnit_92 : decode cX4_readsUnit 92 = .ok (.putfield 163, 3) := by decide +kernel
theorem dX4_readsUnit_95 : decode cX4_readsUnit 95 = .ok (.iload 4, 2) := by decide +kernel
theorem dX4_readsUnit_97 : decode cX4_readsUnit 97 = .ok (.ifCond .eq 30, 3) := by decide +kernel
theorem dX4_readsUnit_100 : decode cX4_readsUnit 100 = .ok (.aload_n 0, 1) := by decide +kernel
theorem dX4_readsUnit_101 : decode cX4_readsUnit 101 = .ok (.getfield 35, 3) := by decide +kernel
theorem dX4_readsUnit_104 : decode cX4_readsUnit 104 = .ok (.getfield 150, 3) := by decide +kernel
theorem dX4_readsUnit_107 : decode cX4_readsUnit 107 = .ok (.iload_n 2, 1) := by decide +kernel
theorem dX4_readsUnit_108 : decode cX4_readsUnit 108 = .ok (.iconst 3, 1) := by decide +kernel
theorem dX4_readsUnit_109 : decode cX4_readsUnit 109 = .ok (.if_icmp .ne 13, 3) := by decide +kernel
theorem dX4_readsUnit_112 : decode cX4_readsUnit 112 = .ok (.aload_n 0, 1) := by decide +kernel
theorem dX4_readsUnit_113 : decode cX4_readsUnit 113 = .ok (.getfield 50, 3) := by decide +kernel
theorem dX4_readsUnit_116 : decode cX4_readsUnit 116 = .ok (.getfield 166, 3) := by decide +kernel
theorem dX4_readsUnit_119 : decode cX4_readsUnit 119 = .ok (.goto 5, 3) := by decide +kernel
theorem dX4_readsUnit_122 : decode cX4_readsUnit 122 = .ok (.iload_n 2, 1) := by decide +kernel
theorem dX4_readsUnit_123 : decode cX4_readsUnit 123 = .ok (.ineg, 1) := by decide +kernel
theorem dX4_readsUnit_124 : decode cX4_readsUnit 124 = .ok (.invokevirtual 154, 3) := by decide +kernel
theorem dX4_readsUnit_127 : decode cX4_readsUnit 127 = .ok (.aload_n 0, 1) := by decide +kernel
theorem dX4_readsUnit_128 : decode cX4_readsUnit 128 = .ok (.getfield 50, 3) := by decide +kernel
theorem dX4_readsUnit_131 : decode cX4_readsUnit 131 = .ok (.invokevirtual 93, 3) := by decide +kernel
theorem dX4_readsUnit_134 : decode cX4_readsUnit 134 = .ok (.iload 4, 2) := by decide +kernel
theorem dX4_readsUnit_136 : decode cX4_readsUnit 136 = .ok (.ifCond .ne 23, 3) := by decide +kernel
theorem dX4_readsUnit_139 : decode cX4_readsUnit 139 = .ok (.aload_n 0, 1) := by decide +kernel
theorem dX4_readsUnit_140 : decode cX4_readsUnit 140 = .ok (.iconst 0, 1) := by decide +kernel
theorem dX4_readsUnit_141 : decode cX4_readsUnit 141 = .ok (.iload_n 1, 1) := by decide +kernel
theorem dX4_readsUnit_142 : decode cX4_readsUnit 142 = .ok (.iconst 1, 1) := by decide +kernel
theorem dX4_readsUnit_143 : decode cX4_readsUnit 143 = .ok (.iadd, 1) := by decide +kernel
theorem dX4_readsUnit_144 : decode cX4_readsUnit 144 = .ok (.invokevirtual 131, 3) := by decide +kernel
theorem dX4_readsUnit_147 : decode cX4_readsUnit 147 = .ok (.ifCond .eq 16, 3) := by decide +kernel
theorem dX4_readsUnit_150 : decode cX4_readsUnit 150 = .ok (.aload_n 0, 1) := by decide +kernel
theorem dX4_readsUnit_151 : decode cX4_readsUnit 151 = .ok (.bipush 41, 2) := by decide +kernel
theorem dX4_readsUnit_153 : decode cX4_readsUnit 153 = .ok (.invokevirtual 83, 3) := by decide +kernel
theorem dX4_readsUnit_156 : decode cX4_readsUnit 156 = .ok (.ifCond .eq 7, 3) := by decide +kernel
theorem dX4_readsUnit_159 : decode cX4_readsUnit 159 = .ok (.iconst 1, 1) := by decide +kernel
theorem dX4_readsUnit_160 : decode cX4_readsUnit 160 = .ok (.goto 4, 3) := by decide +kernel
theorem dX4_readsUnit_163 : decode cX4_readsUnit 163 = .ok (.iconst 0, 1) := by decide +kernel
theorem dX4_readsUnit_164 : decode cX4_readsUnit 164 = .ok (.ireturn, 1) := by decide +kernel
theorem dX4_takes_0 : decode cX4_takes 0 = .ok (.aload_n 0, 1) := by decide +kernel
theorem dX4_takes_1 : decode cX4_takes 1 = .ok (.getfield 50, 3) := by decide +kernel
theorem dX4_takes_4 : decode cX4_takes 4 = .ok (.getfield 57, 3) := by decide +kernel
theorem dX4_takes_7 : decode cX4_takes 7 = .ok (.iload_n 1, 1) := by decide +kernel
theorem dX4_takes_8 : decode cX4_takes 8 = .ok (.if_icmp .eq 9, 3) := by decide +kernel
theorem dX4_takes_11 : decode cX4_takes 11 = .ok (.aload_n 0, 1) := by decide +kernel
theorem dX4_takes_12 : decode cX4_takes 12 = .ok (.iconst 2, 1) := by decide +kernel
theorem dX4_takes_13 : decode cX4_takes 13 = .ok (.invokevirtual 79, 3) := by decide +kernel
theorem dX4_takes_16 : decode cX4_takes 16 = .ok (.ireturn, 1) := by decide +kernel
theorem dX4_takes_17 : decode cX4_takes 17 = .ok (.aload_n 0, 1) := by decide +kernel
theorem dX4_takes_18 : decode cX4_takes 18 = .ok (.getfield 50, 3) := by decide +kernel
theorem dX4_takes_21 : decode cX4_takes 21 = .ok (.invokevirtual 93, 3) := by decide +kernel
theorem dX4_takes_24 : decode cX4_takes 24 = .ok (.iconst 1, 1) := by decide +kernel
theorem dX4_takes_25 : decode cX4_takes 25 = .ok (.ireturn, 1) := by decide +kernel
theorem dX4_takesNumber_0 : decode cX4_takesNumber 0 = .ok (.aload_n 0, 1) := by decide +kernel
theorem dX4_takesNumber_1 : decode cX4_takesNumber 1 = .ok (.getfield 50, 3) := by decide +kernel
theorem dX4_takesNumber_4 : decode cX4_takesNumber 4 = .ok (.getfield 57, 3) := by decide +kernel
theorem dX4_takesNumber_7 : decode cX4_takesNumber 7 = .ok (.iconst 3, 1) := by decide +kernel
theorem dX4_takesNumber_8 : decode cX4_takesNumber 8 = .ok (.if_icmp .eq 9, 3) := by decide +kernel
theorem dX4_takesNumber_11 : decode cX4_takesNumber 11 = .ok (.aload_n 0, 1) := by decide +kernel
theorem dX4_takesNumber_12 : decode cX4_takesNumber 12 = .ok (.iconst 2, 1) := by decide +kernel
theorem dX4_takesNumber_13 : decode cX4_takesNumber 13 = .ok (.invokevirtual 79, 3) := by decide +kernel
theorem dX4_takesNumber_16 : decode cX4_takesNumber 16 = .ok (.ireturn, 1) := by decide +kernel
theorem dX4_takesNumber_17 : decode cX4_takesNumber 17 = .ok (.aload_n 0, 1) := by decide +kernel
theorem dX4_takesNumber_18 : decode cX4_takesNumber 18 = .ok (.getfield 50, 3) := by decide +kernel
theorem dX4_takesNumber_21 : decode cX4_takesNumber 21 = .ok (.getfield 166, 3) := by decide +kernel
theorem dX4_takesNumber_24 : decode cX4_takesNumber 24 = .ok (.iload_n 1, 1) := by decide +kernel
theorem dX4_takesNumber_25 : decode cX4_takesNumber 25 = .ok (.iload_n 2, 1) := by decide +kernel
theorem dX4_takesNumber_26 : decode cX4_takesNumber 26 = .ok (.invokestatic 169, 3) := by decide +kernel
theorem dX4_takesNumber_29 : decode cX4_takesNumber 29 = .ok (.ifCond .ne 9, 3) := by decide +kernel
theorem dX4_takesNumber_32 : decode cX4_takesNumber 32 = .ok (.aload_n 0, 1) := by decide +kernel
theorem dX4_takesNumber_33 : decode cX4_takesNumber 33 = .ok (.iconst 4, 1) := by decide +kernel
theorem dX4_takesNumber_34 : decode cX4_takesNumber 34 = .ok (.invokevirtual 79, 3) := by decide +kernel
theorem dX4_takesNumber_37 : decode cX4_takesNumber 37 = .ok (.ireturn, 1) := by decide +kernel
theorem dX4_takesNumber_38 : decode cX4_takesNumber 38 = .ok (.aload_n 0, 1) := by decide +kernel
theorem dX4_takesNumber_39 : decode cX4_takesNumber 39 = .ok (.aload_n 0, 1) := by decide +kernel
theorem dX4_takesNumber_40 : decode cX4_takesNumber 40 = .ok (.getfield 50, 3) := by decide +kernel
theorem dX4_takesNumber_43 : decode cX4_takesNumber 43 = .ok (.getfield 166, 3) := by decide +kernel
theorem dX4_takesNumber_46 : decode cX4_takesNumber 46 = .ok (.putfield 28, 3) := by decide +kernel
theorem dX4_takesNumber_49 : decode cX4_takesNumber 49 = .ok (.aload_n 0, 1) := by decide +kernel
theorem dX4_takesNumber_50 : decode cX4_takesNumber 50 = .ok (.getfield 50, 3) := by decide +kernel
theorem dX4_takesNumber_53 : decode cX4_takesNumber 53 = .ok (.invokevirtual 93, 3) := by decide +kernel
theorem dX4_takesNumber_56 : decode cX4_takesNumber 56 = .ok (.iconst 1, 1) := by decide +kernel
theorem dX4_takesNumber_57 : decode cX4_takesNumber 57 = .ok (.ireturn, 1) := by decide +kernel
theorem dX4_takesNewName_0 : decode cX4_takesNewName 0 = .ok (.aload_n 0, 1) := by decide +kernel
theorem dX4_takesNewName_1 : decode cX4_takesNewName 1 = .ok (.getfield 50, 3) := by decide +kernel
theorem dX4_takesNewName_4 : decode cX4_takesNewName 4 = .ok (.getfield 57, 3) := by decide +kernel
theorem dX4_takesNewName_7 : decode cX4_takesNewName 7 = .ok (.iconst 2, 1) := by decide +kernel
theorem dX4_takesNewName_8 : decode cX4_takesNewName 8 = .ok (.if_icmp .eq 9, 3) := by decide +kernel
theorem dX4_takesNewName_11 : decode cX4_takesNewName 11 = .ok (.aload_n 0, 1) := by decide +kernel
theorem dX4_takesNewName_12 : decode cX4_takesNewName 12 = .ok (.iconst 2, 1) := by decide +kernel
theorem dX4_takesNewName_13 : decode cX4_takesNewName 13 = .ok (.invokevirtual 79, 3) := by decide +kernel
theorem dX4_takesNewName_16 : decode cX4_takesNewName 16 = .ok (.ireturn, 1) := by decide +kernel
theorem dX4_takesNewName_17 : decode cX4_takesNewName 17 = .ok (.aload_n 0, 1) := by decide +kernel
theorem dX4_takesNewName_18 : decode cX4_takesNewName 18 = .ok (.aload_n 1, 1) := by decide +kernel
theorem dX4_takesNewName_19 : decode cX4_takesNewName 19 = .ok (.iload_n 2, 1) := by decide +kernel
theorem dX4_takesNewName_20 : decode cX4_takesNewName 20 = .ok (.invokevirtual 173, 3) := by decide +kernel
theorem dX4_takesNewName_23 : decode cX4_takesNewName 23 = .ok (.iconst (-1), 1) := by decide +kernel
theorem dX4_takesNewName_24 : decode cX4_takesNewName 24 = .ok (.if_icmp .eq 9, 3) := by decide +kernel
theorem dX4_takesNewName_27 : decode cX4_takesNewName 27 = .ok (.aload_n 0, 1) := by decide +kernel
theorem dX4_takesNewName_28 : decode cX4_takesNewName 28 = .ok (.iconst 3, 1) := by decide +kernel
theorem dX4_takesNewName_29 : decode cX4_takesNewName 29 = .ok (.invokevirtual 79, 3) := by decide +kernel
theorem dX4_takesNewName_32 : decode cX4_takesNewName 32 = .ok (.ireturn, 1) := by decide +kernel
theorem dX4_takesNewName_33 : decode cX4_takesNewName 33 = .ok (.iload_n 2, 1) := by decide +kernel
theorem dX4_takesNewName_34 : decode cX4_takesNewName 34 = .ok (.aload_n 1, 1) := by decide +kernel
theorem dX4_takesNewName_35 : decode cX4_takesNewName 35 = .ok (.arraylength, 1) := by decide +kernel
theorem dX4_takesNewName_36 : decode cX4_takesNewName 36 = .ok (.if_icmp .ge 13, 3) := by decide +kernel
theorem dX4_takesNewName_39 : decode cX4_takesNewName 39 = .ok (.aload_n 1, 1) := by decide +kernel
theorem dX4_takesNewName_40 : decode cX4_takesNewName 40 = .ok (.iload_n 2, 1) := by decide +kernel
theorem dX4_takesNewName_41 : decode cX4_takesNewName 41 = .ok (.aload_n 0, 1) := by decide +kernel
theorem dX4_takesNewName_42 : decode cX4_takesNewName 42 = .ok (.getfield 50, 3) := by decide +kernel
theorem dX4_takesNewName_45 : decode cX4_takesNewName 45 = .ok (.getfield 176, 3) := by decide +kernel
theorem dX4_takesNewName_48 : decode cX4_takesNewName 48 = .ok (.lastore, 1) := by decide +kernel
theorem dX4_takesNewName_49 : decode cX4_takesNewName 49 = .ok (.aload_n 0, 1) := by decide +kernel
theorem dX4_takesNewName_50 : decode cX4_takesNewName 50 = .ok (.getfield 50, 3) := by decide +kernel
theorem dX4_takesNewName_53 : decode cX4_takesNewName 53 = .ok (.invokevirtual 93, 3) := by decide +kernel
theorem dX4_takesNewName_56 : decode cX4_takesNewName 56 = .ok (.iconst 1, 1) := by decide +kernel
theorem dX4_takesNewName_57 : decode cX4_takesNewName 57 = .ok (.ireturn, 1) := by decide +kernel
theorem dX4_knownName_0 : decode cX4_knownName 0 = .ok (.aload_n 0, 1) := by decide +kernel
theorem dX4_knownName_1 : decode cX4_knownName 1 = .ok (.getfield 50, 3) := by decide +kernel
theorem dX4_knownName_4 : decode cX4_knownName 4 = .ok (.getfield 57, 3) := by decide +kernel
theorem dX4_knownName_7 : decode cX4_knownName 7 = .ok (.iconst 2, 1) := by decide +kernel
theorem dX4_knownName_8 : decode cX4_knownName 8 = .ok (.if_icmp .eq 11, 3) := by decide +kernel
theorem dX4_knownName_11 : decode cX4_knownName 11 = .ok (.aload_n 0, 1) := by decide +kernel
theorem dX4_knownName_12 : decode cX4_knownName 12 = .ok (.iconst 2, 1) := by decide +kernel
theorem dX4_knownName_13 : decode cX4_knownName 13 = .ok (.invokevirtual 79, 3) := by decide +kernel
theorem dX4_knownName_16 : decode cX4_knownName 16 = .ok (.pop, 1) := by decide +kernel
theorem dX4_knownName_17 : decode cX4_knownName 17 = .ok (.iconst (-1), 1) := by decide +kernel
theorem dX4_knownName_18 : decode cX4_knownName 18 = .ok (.ireturn, 1) := by decide +kernel
theorem dX4_knownName_19 : decode cX4_knownName 19 = .ok (.aload_n 0, 1) := by decide +kernel
theorem dX4_knownName_20 : decode cX4_knownName 20 = .ok (.aload_n 1, 1) := by decide +kernel
theorem dX4_knownName_21 : decode cX4_knownName 21 = .ok (.iload_n 2, 1) := by decide +kernel
theorem dX4_knownName_22 : decode cX4_knownName 22 = .ok (.invokevirtual 173, 3) := by decide +kernel
theorem dX4_knownName_25 : decode cX4_knownName 25 = .ok (.istore_n 3, 1) := by decide +kernel
theorem dX4_knownName_26 : decode cX4_knownName 26 = .ok (.iload_n 3, 1) := by decide +kernel
theorem dX4_knownName_27 : decode cX4_knownName 27 = .ok (.iconst (-1), 1) := by decide +kernel
theorem dX4_knownName_28 : decode cX4_knownName 28 = .ok (.if_icmp .ne 9, 3) := by decide +kernel
theorem dX4_knownName_31 : decode cX4_knownName 31 = .ok (.aload_n 0, 1) := by decide +kernel
theorem dX4_knownName_32 : decode cX4_knownName 32 = .ok (.iconst 5, 1) := by decide +kernel
theorem dX4_knownName_33 : decode cX4_knownName 33 = .ok (.invokevirtual 79, 3) := by decide +kernel
theorem dX4_knownName_36 : decode cX4_knownName 36 = .ok (.pop, 1) := by decide +kernel
theorem dX4_knownName_37 : decode cX4_knownName 37 = .ok (.iload_n 3, 1) := by decide +kernel
theorem dX4_knownName_38 : decode cX4_knownName 38 = .ok (.ireturn, 1) := by decide +kernel
theorem dX4_numberOfName_0 : decode cX4_numberOfName 0 = .ok (.iconst 0, 1) := by decide +kernel
theorem dX4_numberOfName_1 : decode cX4_numberOfName 1 = .ok (.istore_n 3, 1) := by decide +kernel
theorem dX4_numberOfName_2 : decode cX4_numberOfName 2 = .ok (.iload_n 3, 1) := by decide +kernel
theorem dX4_numberOfName_3 : decode cX4_numberOfName 3 = .ok (.iload_n 2, 1) := by decide +kernel
theorem dX4_numberOfName_4 : decode cX4_numberOfName 4 = .ok (.if_icmp .ge 31, 3) := by decide +kernel
theorem dX4_numberOfName_7 : decode cX4_numberOfName 7 = .ok (.iload_n 3, 1) := by decide +kernel
theorem dX4_numberOfName_8 : decode cX4_numberOfName 8 = .ok (.aload_n 1, 1) := by decide +kernel
theorem dX4_numberOfName_9 : decode cX4_numberOfName 9 = .ok (.arraylength, 1) := by decide +kernel
theorem dX4_numberOfName_10 : decode cX4_numberOfName 10 = .ok (.if_icmp .ge 25, 3) := by decide +kernel
theorem dX4_numberOfName_13 : decode cX4_numberOfName 13 = .ok (.aload_n 1, 1) := by decide +kernel
theorem dX4_numberOfName_14 : decode cX4_numberOfName 14 = .ok (.iload_n 3, 1) := by decide +kernel
theorem dX4_numberOfName_15 : decode cX4_numberOfName 15 = .ok (.laload, 1) := by decide +kernel
theorem dX4_numberOfName_16 : decode cX4_numberOfName 16 = .ok (.aload_n 0, 1) := by decide +kernel
theorem dX4_numberOfName_17 : decode cX4_numberOfName 17 = .ok (.getfield 50, 3) := by decide +kernel
theorem dX4_numberOfName_20 : decode cX4_numberOfName 20 = .ok (.getfield 176, 3) := by decide +kernel
theorem dX4_numberOfName_23 : decode cX4_numberOfName 23 = .ok (.lcmp, 1) := by decide +kernel
theorem dX4_numberOfName_24 : decode cX4_numberOfName 24 = .ok (.ifCond .ne 5, 3) := by decide +kernel
theorem dX4_numberOfName_27 : decode cX4_numberOfName 27 = .ok (.iload_n 3, 1) := by decide +kernel
theorem dX4_numberOfName_28 : decode cX4_numberOfName 28 = .ok (.ireturn, 1) := by decide +kernel
theorem dX4_numberOfName_29 : decode cX4_numberOfName 29 = .ok (.iinc 3 1, 3) := by decide +kernel
theorem dX4_numberOfName_32 : decode cX4_numberOfName 32 = .ok (.goto (-30), 3) := by decide +kernel
theorem dX4_numberOfName_35 : decode cX4_numberOfName 35 = .ok (.iconst (-1), 1) := by decide +kernel
theorem dX4_numberOfName_36 : decode cX4_numberOfName 36 = .ok (.ireturn, 1) := by decide +kernel
theorem dX4_refuses_0 : decode cX4_refuses 0 = .ok (.aload_n 0, 1) := by decide +kernel
theorem dX4_refuses_1 : decode cX4_refuses 1 = .ok (.aload_n 0, 1) := by decide +kernel
theorem dX4_refuses_2 : decode cX4_refuses 2 = .ok (.getfield 50, 3) := by decide +kernel
theorem dX4_refuses_5 : decode cX4_refuses 5 = .ok (.getfield 57, 3) := by decide +kernel
theorem dX4_refuses_8 : decode cX4_refuses 8 = .ok (.iconst 1, 1) := by decide +kernel
theorem dX4_refuses_9 : decode cX4_refuses 9 = .ok (.if_icmp .ne 7, 3) := by decide +kernel
theorem dX4_refuses_12 : decode cX4_refuses 12 = .ok (.iconst 1, 1) := by decide +kernel
theorem dX4_refuses_13 : decode cX4_refuses 13 = .ok (.goto 4, 3) := by decide +kernel
theorem dX4_refuses_16 : decode cX4_refuses 16 = .ok (.iload_n 1, 1) := by decide +kernel
theorem dX4_refuses_17 : decode cX4_refuses 17 = .ok (.putfield 39, 3) := by decide +kernel
theorem dX4_refuses_20 : decode cX4_refuses 20 = .ok (.aload_n 0, 1) := by decide +kernel
theorem dX4_refuses_21 : decode cX4_refuses 21 = .ok (.aload_n 0, 1) := by decide +kernel
theorem dX4_refuses_22 : decode cX4_refuses 22 = .ok (.getfield 50, 3) := by decide +kernel
theorem dX4_refuses_25 : decode cX4_refuses 25 = .ok (.getfield 180, 3) := by decide +kernel
theorem dX4_refuses_28 : decode cX4_refuses 28 = .ok (.putfield 42, 3) := by decide +kernel
theorem dX4_refuses_31 : decode cX4_refuses 31 = .ok (.iconst 0, 1) := by decide +kernel
theorem dX4_refuses_32 : decode cX4_refuses 32 = .ok (.ireturn, 1) := by decide +kernel
theorem dX5_init_0 : decode cX5_init 0 = .ok (.aload_n 0, 1) := by decide +kernel
theorem dX5_init_1 : decode cX5_init 1 = .ok (.invokespecial 3, 3) := by decide +kernel
theorem dX5_init_4 : decode cX5_init 4 = .ok (.aload_n 0, 1) := by decide +kernel
theorem dX5_init_5 : decode cX5_init 5 = .ok (.iconst 5, 1) := by decide +kernel
theorem dX5_init_6 : decode cX5_init 6 = .ok (.newarray .int, 2) := by decide +kernel
theorem dX5_init_8 : decode cX5_init 8 = .ok (.putfield 9, 3) := by decide +kernel
theorem dX5_init_11 : decode cX5_init 11 = .ok (.aload_n 0, 1) := by decide +kernel
theorem dX5_init_12 : decode cX5_init 12 = .ok (.aload_n 1, 1) := by decide +kernel
theorem dX5_init_13 : decode cX5_init 13 = .ok (.putfield 15, 3) := by decide +kernel
theorem dX5_init_16 : decode cX5_init 16 = .ok (.return_, 1) := by decide +kernel
theorem dX5_chosen_0 : decode cX5_chosen 0 = .ok (.iconst (-1), 1) := by decide +kernel
theorem dX5_chosen_1 : decode cX5_chosen 1 = .ok (.istore_n 3, 1) := by decide +kernel
theorem dX5_chosen_2 : decode cX5_chosen 2 = .ok (.iconst 0, 1) := by decide +kernel
theorem dX5_chosen_3 : decode cX5_chosen 3 = .ok (.istore 4, 2) := by decide +kernel
theorem dX5_chosen_5 : decode cX5_chosen 5 = .ok (.iconst 0, 1) := by decide +kernel
theorem dX5_chosen_6 : decode cX5_chosen 6 = .ok (.istore 5, 2) := by decide +kernel
theorem dX5_chosen_8 : decode cX5_chosen 8 = .ok (.iload 5, 2) := by decide +kernel
theorem dX5_chosen_10 : decode cX5_chosen 10 = .ok (.aload_n 0, 1) := by decide +kernel
theorem dX5_chosen_11 : decode cX5_chosen 11 = .ok (.getfield 15, 3) := by decide +kernel
theorem dX5_chosen_14 : decode cX5_chosen 14 = .ok (.getfield 19, 3) := by decide +kernel
theorem dX5_chosen_17 : decode cX5_chosen 17 = .ok (.if_icmp .ge 71, 3) := by decide +kernel
theorem dX5_chosen_20 : decode cX5_chosen 20 = .ok (.aload_n 1, 1) := by decide +kernel
theorem dX5_chosen_21 : decode cX5_chosen 21 = .ok (.iload 5, 2) := by decide +kernel
theorem dX5_chosen_23 : decode cX5_chosen 23 = .ok (.invokevirtual 25, 3) := by decide +kernel
theorem dX5_chosen_26 : decode cX5_chosen 26 = .ok (.ifCond .eq 56, 3) := by decide +kernel
theorem dX5_chosen_29 : decode cX5_chosen 29 = .ok (.aload_n 1, 1) := by decide +kernel
theorem dX5_chosen_30 : decode cX5_chosen 30 = .ok (.getfield 31, 3) := by decide +kernel
theorem dX5_chosen_33 : decode cX5_chosen 33 = .ok (.iload 5, 2) := by decide +kernel
theorem dX5_chosen_35 : decode cX5_chosen 35 = .ok (.iload_n 2, 1) := by decide +kernel
theorem dX5_chosen_36 : decode cX5_chosen 36 = .ok (.invokestatic 34, 3) := by decide +kernel
theorem dX5_chosen_39 : decode cX5_chosen 39 = .ok (.iaload, 1) := by decide +kernel
theorem dX5_chosen_40 : decode cX5_chosen 40 = .ok (.ifCond .le 42, 3) := by decide +kernel
theorem dX5_chosen_43 : decode cX5_chosen 43 = .ok (.aload_n 0, 1) := by decide +kernel
theorem dX5_chosen_44 : decode cX5_chosen 44 = .ok (.getfield 15, 3) := by decide +kernel
theorem dX5_chosen_47 : decode cX5_chosen 47 = .ok (.getfield 38, 3) := by decide +kernel
theorem dX5_chosen_50 : decode cX5_chosen 50 = .ok (.aload_n 1, 1) := by decide +kernel
theorem dX5_chosen_51 : decode cX5_chosen 51 = .ok (.iload 5, 2) := by decide +kernel
theorem dX5_chosen_53 : decode cX5_chosen 53 = .ok (.iload_n 2, 1) := by decide +kernel
theorem dX5_chosen_54 : decode cX5_chosen 54 = .ok (.aload_n 0, 1) := by decide +kernel
theorem dX5_chosen_55 : decode cX5_chosen 55 = .ok (.getfield 15, 3) := by decide +kernel
theorem dX5_chosen_58 : decode cX5_chosen 58 = .ok (.getfield 42, 3) := by decide +kernel
theorem dX5_chosen_61 : decode cX5_chosen 61 = .ok (.iload_n 2, 1) := by decide +kernel
theorem dX5_chosen_62 : decode cX5_chosen 62 = .ok (.iaload, 1) := by decide +kernel
theorem dX5_chosen_63 : decode cX5_chosen 63 = .ok (.invokevirtual 45, 3) := by decide +kernel
theorem dX5_chosen_66 : decode cX5_chosen 66 = .ok (.istore 6, 2) := by decide +kernel
theorem dX5_chosen_68 : decode cX5_chosen 68 = .ok (.iload 6, 2) := by decide +kernel
theorem dX5_chosen_70 : decode cX5_chosen 70 = .ok (.iload 4, 2) := by decide +kernel
theorem dX5_chosen_72 : decode cX5_chosen 72 = .ok (.if_icmp .le 10, 3) := by decide +kernel
theorem dX5_chosen_75 : decode cX5_chosen 75 = .ok (.iload 5, 2) := by decide +kernel
theorem dX5_chosen_77 : decode cX5_chosen 77 = .ok (.istore_n 3, 1) := by decide +kernel
theorem dX5_chosen_78 : decode cX5_chosen 78 = .ok (.iload 6, 2) := by decide +kernel
theorem dX5_chosen_80 : decode cX5_chosen 80 = .ok (.istore 4, 2) := by decide +kernel
theorem dX5_chosen_82 : decode cX5_chosen 82 = .ok (.iinc 5 1, 3) := by decide +kernel
theorem dX5_chosen_85 : decode cX5_chosen 85 = .ok (.goto (-77), 3) := by decide +kernel
theorem dX5_chosen_88 : decode cX5_chosen 88 = .ok (.iload_n 3, 1) := by decide +kernel
theorem dX5_chosen_89 : decode cX5_chosen 89 = .ok (.ireturn, 1) := by decide +kernel
theorem dX5_ringBell_0 : decode cX5_ringBell 0 = .ok (.aload_n 0, 1) := by decide +kernel
theorem dX5_ringBell_1 : decode cX5_ringBell 1 = .ok (.aload_n 1, 1) := by decide +kernel
theorem dX5_ringBell_2 : decode cX5_ringBell 2 = .ok (.iload_n 2, 1) := by decide +kernel
theorem dX5_ringBell_3 : decode cX5_ringBell 3 = .ok (.invokevirtual 51, 3) := by decide +kernel
theorem dX5_ringBell_6 : decode cX5_ringBell 6 = .ok (.istore 4, 2) := by decide +kernel
theorem dX5_ringBell_8 : decode cX5_ringBell 8 = .ok (.aload_n 0, 1) := by decide +kernel
theorem dX5_ringBell_9 : decode cX5_ringBell 9 = .ok (.getfield 9, 3) := by decide +kernel
theorem dX5_ringBell_12 : decode cX5_ringBell 12 = .ok (.iload_n 2, 1) := by decide +kernel
theorem dX5_ringBell_13 : decode cX5_ringBell 13 = .ok (.iload 4, 2) := by decide +kernel
theorem dX5_ringBell_15 : decode cX5_ringBell 15 = .ok (.iastore, 1) := by decide +kernel
theorem dX5_ringBell_16 : decode cX5_ringBell 16 = .ok (.iload 4, 2) := by decide +kernel
theorem dX5_ringBell_18 : decode cX5_ringBell 18 = .ok (.iconst (-1), 1) := by decide +kernel
theorem dX5_ringBell_19 : decode cX5_ringBell 19 = .ok (.if_icmp .ne 5, 3) := by decide +kernel
theorem dX5_ringBell_22 : decode cX5_ringBell 22 = .ok (.iconst 0, 1) := by decide +kernel
theorem dX5_ringBell_23 : decode cX5_ringBell 23 = .ok (.ireturn, 1) := by decide +kernel
theorem dX5_ringBell_24 : decode cX5_ringBell 24 = .ok (.aload_n 1, 1) := by decide +kernel
theorem dX5_ringBell_25 : decode cX5_ringBell 25 = .ok (.getfield 55, 3) := by decide +kernel
theorem dX5_ringBell_28 : decode cX5_ringBell 28 = .ok (.iload 4, 2) := by decide +kernel
theorem dX5_ringBell_30 : decode cX5_ringBell 30 = .ok (.iaload, 1) := by decide +kernel
theorem dX5_ringBell_31 : decode cX5_ringBell 31 = .ok (.aload_n 1, 1) := by decide +kernel
theorem dX5_ringBell_32 : decode cX5_ringBell 32 = .ok (.getfield 31, 3) := by decide +kernel
theorem dX5_ringBell_35 : decode cX5_ringBell 35 = .ok (.iload 4, 2) := by decide +kernel
theorem dX5_ringBell_37 : decode cX5_ringBell 37 = .ok (.iload_n 2, 1) := by decide +kernel
theorem dX5_ringBell_38 : decode cX5_ringBell 38 = .ok (.invokestatic 34, 3) := by decide +kernel
theorem dX5_ringBell_41 : decode cX5_ringBell 41 = .ok (.iaload, 1) := by decide +kernel
theorem dX5_ringBell_42 : decode cX5_ringBell 42 = .ok (.invokestatic 58, 3) := by decide +kernel
theorem dX5_ringBell_45 : decode cX5_ringBell 45 = .ok (.istore 5, 2) := by decide +kernel
theorem dX5_ringBell_47 : decode cX5_ringBell 47 = .ok (.aload_n 1, 1) := by decide +kernel
theorem dX5_ringBell_48 : decode cX5_ringBell 48 = .ok (.getfield 63, 3) := by decide +kernel
theorem dX5_ringBell_51 : decode cX5_ringBell 51 = .ok (.iload 4, 2) := by decide +kernel
theorem dX5_ringBell_53 : decode cX5_ringBell 53 = .ok (.sipush 999, 3) := by decide +kernel
theorem dX5_ringBell_56 : decode cX5_ringBell 56 = .ok (.aload_n 1, 1) := by decide +kernel
theorem dX5_ringBell_57 : decode cX5_ringBell 57 = .ok (.getfield 63, 3) := by decide +kernel
theorem dX5_ringBell_60 : decode cX5_ringBell 60 = .ok (.iload 4, 2) := by decide +kernel
theorem dX5_ringBell_62 : decode cX5_ringBell 62 = .ok (.iaload, 1) := by decide +kernel
theorem dX5_ringBell_63 : decode cX5_ringBell 63 = .ok (.iconst 1, 1) := by decide +kernel
theorem dX5_ringBell_64 : decode cX5_ringBell 64 = .ok (.iadd, 1) := by decide +kernel
theorem dX5_ringBell_65 : decode cX5_ringBell 65 = .ok (.invokestatic 58, 3) := by decide +kernel
theorem dX5_ringBell_68 : decode cX5_ringBell 68 = .ok (.iastore, 1) := by decide +kernel
theorem dX5_ringBell_69 : decode cX5_ringBell 69 = .ok (.aload_n 1, 1) := by decide +kernel
theorem dX5_ringBell_70 : decode cX5_ringBell 70 = .ok (.getfield 55, 3) := by decide +kernel
theorem dX5_ringBell_73 : decode cX5_ringBell 73 = .ok (.iload 4, 2) := by decide +kernel
theorem dX5_ringBell_75 : decode cX5_ringBell 75 = .ok (.dup2, 1) := by decide +kernel
theorem dX5_ringBell_76 : decode cX5_ringBell 76 = .ok (.iaload, 1) := by decide +kernel
theorem dX5_ringBell_77 : decode cX5_ringBell 77 = .ok (.iload 5, 2) := by decide +kernel
theorem dX5_ringBell_79 : decode cX5_ringBell 79 = .ok (.isub, 1) := by decide +kernel
theorem dX5_ringBell_80 : decode cX5_ringBell 80 = .ok (.iastore, 1) := by decide +kernel
theorem dX5_ringBell_81 : decode cX5_ringBell 81 = .ok (.iload_n 3, 1) := by decide +kernel
theorem dX5_ringBell_82 : decode cX5_ringBell 82 = .ok (.ifCond .eq 51, 3) := by decide +kernel
theorem dX5_ringBell_85 : decode cX5_ringBell 85 = .ok (.aload_n 1, 1) := by decide +kernel
theorem dX5_ringBell_86 : decode cX5_ringBell 86 = .ok (.aload_n 1, 1) := by decide +kernel
theorem dX5_ringBell_87 : decode cX5_ringBell 87 = .ok (.getfield 66, 3) := by decide +kernel
theorem dX5_ringBell_90 : decode cX5_ringBell 90 = .ok (.sipush 137, 3) := by decide +kernel
theorem dX5_ringBell_93 : decode cX5_ringBell 93 = .ok (.imul, 1) := by decide +kernel
theorem dX5_ringBell_94 : decode cX5_ringBell 94 = .ok (.bipush 71, 2) := by decide +kernel
theorem dX5_ringBell_96 : decode cX5_ringBell 96 = .ok (.iadd, 1) := by decide +kernel
theorem dX5_ringBell_97 : decode cX5_ringBell 97 = .ok (.sipush 1000, 3) := by decide +kernel
theorem dX5_ringBell_100 : decode cX5_ringBell 100 = .ok (.irem, 1) := by decide +kernel
theorem dX5_ringBell_101 : decode cX5_ringBell 101 = .ok (.putfield 66, 3) := by decide +kernel
theorem dX5_ringBell_104 : decode cX5_ringBell 104 = .ok (.aload_n 1, 1) := by decide +kernel
theorem dX5_ringBell_105 : decode cX5_ringBell 105 = .ok (.getfield 66, 3) := by decide +kernel
theorem dX5_ringBell_108 : decode cX5_ringBell 108 = .ok (.bipush 100, 2) := by decide +kernel
theorem dX5_ringBell_110 : decode cX5_ringBell 110 = .ok (.irem, 1) := by decide +kernel
theorem dX5_ringBell_111 : decode cX5_ringBell 111 = .ok (.aload_n 0, 1) := by decide +kernel
theorem dX5_ringBell_112 : decode cX5_ringBell 112 = .ok (.getfield 15, 3) := by decide +kernel
theorem dX5_ringBell_115 : decode cX5_ringBell 115 = .ok (.getfield 69, 3) := by decide +kernel
theorem dX5_ringBell_118 : decode cX5_ringBell 118 = .ok (.if_icmp .ge 15, 3) := by decide +kernel
theorem dX5_ringBell_121 : decode cX5_ringBell 121 = .ok (.aload_n 1, 1) := by decide +kernel
theorem dX5_ringBell_122 : decode cX5_ringBell 122 = .ok (.getfield 31, 3) := by decide +kernel
theorem dX5_ringBell_125 : decode cX5_ringBell 125 = .ok (.iload 4, 2) := by decide +kernel
theorem dX5_ringBell_127 : decode cX5_ringBell 127 = .ok (.iload_n 2, 1) := by decide +kernel
theorem dX5_ringBell_128 : decode cX5_ringBell 128 = .ok (.invokestatic 34, 3) := by decide +kernel
theorem dX5_ringBell_131 : decode cX5_ringBell 131 = .ok (.iconst 0, 1) := by decide +kernel
theorem dX5_ringBell_132 : decode cX5_ringBell 132 = .ok (.iastore, 1) := by decide +kernel
theorem dX5_ringBell_133 : decode cX5_ringBell 133 = .ok (.iload 5, 2) := by decide +kernel
theorem dX5_ringBell_135 : decode cX5_ringBell 135 = .ok (.ireturn, 1) := by decide +kernel
theorem dX5_passDay_0 : decode cX5_passDay 0 = .ok (.iconst 0, 1) := by decide +kernel
theorem dX5_passDay_1 : decode cX5_passDay 1 = .ok (.istore_n 3, 1) := by decide +kernel
theorem dX5_passDay_2 : decode cX5_passDay 2 = .ok (.iconst 0, 1) := by decide +kernel
theorem dX5_passDay_3 : decode cX5_passDay 3 = .ok (.istore 4, 2) := by decide +kernel
theorem dX5_passDay_5 : decode cX5_passDay 5 = .ok (.iload 4, 2) := by decide +kernel
theorem dX5_passDay_7 : decode cX5_passDay 7 = .ok (.aload_n 0, 1) := by decide +kernel
theorem dX5_passDay_8 : decode cX5_passDay 8 = .ok (.getfield 15, 3) := by decide +kernel
theorem dX5_passDay_11 : decode cX5_passDay 11 = .ok (.getfield 72, 3) := by decide +kernel
theorem dX5_passDay_14 : decode cX5_passDay 14 = .ok (.if_icmp .ge 20, 3) := by decide +kernel
theorem dX5_passDay_17 : decode cX5_passDay 17 = .ok (.iload_n 3, 1) := by decide +kernel
theorem dX5_passDay_18 : decode cX5_passDay 18 = .ok (.aload_n 0, 1) := by decide +kernel
theorem dX5_passDay_19 : decode cX5_passDay 19 = .ok (.aload_n 1, 1) := by decide +kernel
theorem dX5_passDay_20 : decode cX5_passDay 20 = .ok (.iload 4, 2) := by decide +kernel
theorem dX5_passDay_22 : decode cX5_passDay 22 = .ok (.iload_n 2, 1) := by decide +kernel
theorem dX5_passDay_23 : decode cX5_passDay 23 = .ok (.invokevirtual 75, 3) := by decide +kernel
theorem dX5_passDay_26 : decode cX5_passDay 26 = .ok (.iadd, 1) := by decide +kernel
theorem dX5_passDay_27 : decode cX5_passDay 27 = .ok (.istore_n 3, 1) := by decide +kernel
theorem dX5_passDay_28 : decode cX5_passDay 28 = .ok (.iinc 4 1, 3) := by decide +kernel
theorem dX5_passDay_31 : decode cX5_passDay 31 = .ok (.goto (-26), 3) := by decide +kernel
theorem dX5_passDay_34 : decode cX5_passDay 34 = .ok (.aload_n 1, 1) := by decide +kernel
theorem dX5_passDay_35 : decode cX5_passDay 35 = .ok (.dup, 1) := by decide +kernel
theorem dX5_passDay_36 : decode cX5_passDay 36 = .ok (.getfield 79, 3) := by decide +kernel
theorem dX5_passDay_39 : decode cX5_passDay 39 = .ok (.iconst 1, 1) := by decide +kernel
theorem dX5_passDay_40 : decode cX5_passDay 40 = .ok (.iadd, 1) := by decide +kernel
theorem dX5_passDay_41 : decode cX5_passDay 41 = .ok (.putfield 79, 3) := by decide +kernel
theorem dX5_passDay_44 : decode cX5_passDay 44 = .ok (.iload_n 3, 1) := by decide +kernel
theorem dX5_passDay_45 : decode cX5_passDay 45 = .ok (.ireturn, 1) := by decide +kernel
theorem dX5_rungBy_0 : decode cX5_rungBy 0 = .ok (.iconst 0, 1) := by decide +kernel
theorem dX5_rungBy_1 : decode cX5_rungBy 1 = .ok (.istore_n 2, 1) := by decide +kernel
theorem dX5_rungBy_2 : decode cX5_rungBy 2 = .ok (.iconst 0, 1) := by decide +kernel
theorem dX5_rungBy_3 : decode cX5_rungBy 3 = .ok (.istore_n 3, 1) := by decide +kernel
theorem dX5_rungBy_4 : decode cX5_rungBy 4 = .ok (.iload_n 3, 1) := by decide +kernel
theorem dX5_rungBy_5 : decode cX5_rungBy 5 = .ok (.aload_n 0, 1) := by decide +kernel
