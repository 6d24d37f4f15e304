theorem dX12_done_145 : decode cX12_done 145 = .ok (.ifCond .ne 7, 3) := by decide +kernel
theorem dX12_done_148 : decode cX12_done 148 = .ok (.iconst 0, 1) := by decide +kernel
theorem dX12_done_149 : decode cX12_done 149 = .ok (.goto 6, 3) := by decide +kernel
theorem dX12_done_152 : decode cX12_done 152 = .ok (.iload_n 1, 1) := by decide +kernel
theorem dX12_done_153 : decode cX12_done 153 = .ok (.iload_n 2, 1) := by decide +kernel
theorem dX12_done_154 : decode cX12_done 154 = .ok (.irem, 1) := by decide +kernel
theorem dX12_done_155 : decode cX12_done 155 = .ok (.ireturn, 1) := by decide +kernel
theorem dX12_done_156 : decode cX12_done 156 = .ok (.iload_n 1, 1) := by decide +kernel
theorem dX12_done_157 : decode cX12_done 157 = .ok (.iload_n 2, 1) := by decide +kernel
theorem dX12_done_158 : decode cX12_done 158 = .ok (.if_icmp .ge 7, 3) := by decide +kernel
theorem dX12_done_161 : decode cX12_done 161 = .ok (.iconst 1, 1) := by decide +kernel
theorem dX12_done_162 : decode cX12_done 162 = .ok (.goto 4, 3) := by decide +kernel
theorem dX12_done_165 : decode cX12_done 165 = .ok (.iconst 0, 1) := by decide +kernel
theorem dX12_done_166 : decode cX12_done 166 = .ok (.invokestatic 279, 3) := by decide +kernel
theorem dX12_done_169 : decode cX12_done 169 = .ok (.ireturn, 1) := by decide +kernel
theorem dX12_done_170 : decode cX12_done 170 = .ok (.iload_n 1, 1) := by decide +kernel
theorem dX12_done_171 : decode cX12_done 171 = .ok (.iload_n 2, 1) := by decide +kernel
theorem dX12_done_172 : decode cX12_done 172 = .ok (.if_icmp .le 7, 3) := by decide +kernel
theorem dX12_done_175 : decode cX12_done 175 = .ok (.iconst 1, 1) := by decide +kernel
theorem dX12_done_176 : decode cX12_done 176 = .ok (.goto 4, 3) := by decide +kernel
theorem dX12_done_179 : decode cX12_done 179 = .ok (.iconst 0, 1) := by decide +kernel
theorem dX12_done_180 : decode cX12_done 180 = .ok (.invokestatic 279, 3) := by decide +kernel
theorem dX12_done_183 : decode cX12_done 183 = .ok (.ireturn, 1) := by decide +kernel
theorem dX12_done_184 : decode cX12_done 184 = .ok (.iload_n 1, 1) := by decide +kernel
theorem dX12_done_185 : decode cX12_done 185 = .ok (.iload_n 2, 1) := by decide +kernel
theorem dX12_done_186 : decode cX12_done 186 = .ok (.if_icmp .ne 7, 3) := by decide +kernel
theorem dX12_done_189 : decode cX12_done 189 = .ok (.iconst 1, 1) := by decide +kernel
theorem dX12_done_190 : decode cX12_done 190 = .ok (.goto 4, 3) := by decide +kernel
theorem dX12_done_193 : decode cX12_done 193 = .ok (.iconst 0, 1) := by decide +kernel
theorem dX12_done_194 : decode cX12_done 194 = .ok (.invokestatic 279, 3) := by decide +kernel
theorem dX12_done_197 : decode cX12_done 197 = .ok (.ireturn, 1) := by decide +kernel
theorem dX12_done_198 : decode cX12_done 198 = .ok (.iload_n 1, 1) := by decide +kernel
theorem dX12_done_199 : decode cX12_done 199 = .ok (.ifCond .eq 11, 3) := by decide +kernel
theorem dX12_done_202 : decode cX12_done 202 = .ok (.iload_n 2, 1) := by decide +kernel
theorem dX12_done_203 : decode cX12_done 203 = .ok (.ifCond .eq 7, 3) := by decide +kernel
theorem dX12_done_206 : decode cX12_done 206 = .ok (.iconst 1, 1) := by decide +kernel
theorem dX12_done_207 : decode cX12_done 207 = .ok (.goto 4, 3) := by decide +kernel
theorem dX12_done_210 : decode cX12_done 210 = .ok (.iconst 0, 1) := by decide +kernel
theorem dX12_done_211 : decode cX12_done 211 = .ok (.invokestatic 279, 3) := by decide +kernel
theorem dX12_done_214 : decode cX12_done 214 = .ok (.ireturn, 1) := by decide +kernel
theorem dX12_done_215 : decode cX12_done 215 = .ok (.iload_n 1, 1) := by decide +kernel
theorem dX12_done_216 : decode cX12_done 216 = .ok (.ifCond .ne 7, 3) := by decide +kernel
theorem dX12_done_219 : decode cX12_done 219 = .ok (.iload_n 2, 1) := by decide +kernel
theorem dX12_done_220 : decode cX12_done 220 = .ok (.ifCond .eq 7, 3) := by decide +kernel
theorem dX12_done_223 : decode cX12_done 223 = .ok (.iconst 1, 1) := by decide +kernel
theorem dX12_done_224 : decode cX12_done 224 = .ok (.goto 4, 3) := by decide +kernel
theorem dX12_done_227 : decode cX12_done 227 = .ok (.iconst 0, 1) := by decide +kernel
theorem dX12_done_228 : decode cX12_done 228 = .ok (.invokestatic 279, 3) := by decide +kernel
theorem dX12_done_231 : decode cX12_done 231 = .ok (.ireturn, 1) := by decide +kernel
theorem dX12_lesser_0 : decode cX12_lesser 0 = .ok (.iload_n 0, 1) := by decide +kernel
theorem dX12_lesser_1 : decode cX12_lesser 1 = .ok (.iload_n 1, 1) := by decide +kernel
theorem dX12_lesser_2 : decode cX12_lesser 2 = .ok (.if_icmp .ge 7, 3) := by decide +kernel
theorem dX12_lesser_5 : decode cX12_lesser 5 = .ok (.iload_n 0, 1) := by decide +kernel
theorem dX12_lesser_6 : decode cX12_lesser 6 = .ok (.goto 4, 3) := by decide +kernel
theorem dX12_lesser_9 : decode cX12_lesser 9 = .ok (.iload_n 1, 1) := by decide +kernel
theorem dX12_lesser_10 : decode cX12_lesser 10 = .ok (.ireturn, 1) := by decide +kernel
theorem dX12_members_0 : decode cX12_members 0 = .ok (.iconst 0, 1) := by decide +kernel
theorem dX12_members_1 : decode cX12_members 1 = .ok (.istore_n 1, 1) := by decide +kernel
theorem dX12_members_2 : decode cX12_members 2 = .ok (.iconst 0, 1) := by decide +kernel
theorem dX12_members_3 : decode cX12_members 3 = .ok (.istore_n 2, 1) := by decide +kernel
theorem dX12_members_4 : decode cX12_members 4 = .ok (.iload_n 2, 1) := by decide +kernel
theorem dX12_members_5 : decode cX12_members 5 = .ok (.bipush 6, 2) := by decide +kernel
theorem dX12_members_7 : decode cX12_members 7 = .ok (.if_icmp .ge 17, 3) := by decide +kernel
theorem dX12_members_10 : decode cX12_members 10 = .ok (.iload_n 1, 1) := by decide +kernel
theorem dX12_members_11 : decode cX12_members 11 = .ok (.iload_n 0, 1) := by decide +kernel
theorem dX12_members_12 : decode cX12_members 12 = .ok (.iload_n 2, 1) := by decide +kernel
theorem dX12_members_13 : decode cX12_members 13 = .ok (.ishr, 1) := by decide +kernel
theorem dX12_members_14 : decode cX12_members 14 = .ok (.iconst 1, 1) := by decide +kernel
theorem dX12_members_15 : decode cX12_members 15 = .ok (.iand, 1) := by decide +kernel
theorem dX12_members_16 : decode cX12_members 16 = .ok (.iadd, 1) := by decide +kernel
theorem dX12_members_17 : decode cX12_members 17 = .ok (.istore_n 1, 1) := by decide +kernel
theorem dX12_members_18 : decode cX12_members 18 = .ok (.iinc 2 1, 3) := by decide +kernel
theorem dX12_members_21 : decode cX12_members 21 = .ok (.goto (-17), 3) := by decide +kernel
theorem dX12_members_24 : decode cX12_members 24 = .ok (.iload_n 1, 1) := by decide +kernel
theorem dX12_members_25 : decode cX12_members 25 = .ok (.ireturn, 1) := by decide +kernel
theorem dX12_weightOf_0 : decode cX12_weightOf 0 = .ok (.aload_n 0, 1) := by decide +kernel
theorem dX12_weightOf_1 : decode cX12_weightOf 1 = .ok (.getfield 39, 3) := by decide +kernel
theorem dX12_weightOf_4 : decode cX12_weightOf 4 = .ok (.iconst 0, 1) := by decide +kernel
theorem dX12_weightOf_5 : decode cX12_weightOf 5 = .ok (.aload_n 0, 1) := by decide +kernel
theorem dX12_weightOf_6 : decode cX12_weightOf 6 = .ok (.getfield 63, 3) := by decide +kernel
theorem dX12_weightOf_9 : decode cX12_weightOf 9 = .ok (.bipush 13, 2) := by decide +kernel
theorem dX12_weightOf_11 : decode cX12_weightOf 11 = .ok (.iconst 5, 1) := by decide +kernel
theorem dX12_weightOf_12 : decode cX12_weightOf 12 = .ok (.iload_n 1, 1) := by decide +kernel
theorem dX12_weightOf_13 : decode cX12_weightOf 13 = .ok (.imul, 1) := by decide +kernel
theorem dX12_weightOf_14 : decode cX12_weightOf 14 = .ok (.iadd, 1) := by decide +kernel
theorem dX12_weightOf_15 : decode cX12_weightOf 15 = .ok (.iload_n 2, 1) := by decide +kernel
theorem dX12_weightOf_16 : decode cX12_weightOf 16 = .ok (.iadd, 1) := by decide +kernel
theorem dX12_weightOf_17 : decode cX12_weightOf 17 = .ok (.iaload, 1) := by decide +kernel
theorem dX12_weightOf_18 : decode cX12_weightOf 18 = .ok (.iastore, 1) := by decide +kernel
theorem dX12_weightOf_19 : decode cX12_weightOf 19 = .ok (.aload_n 0, 1) := by decide +kernel
theorem dX12_weightOf_20 : decode cX12_weightOf 20 = .ok (.getfield 39, 3) := by decide +kernel
theorem dX12_weightOf_23 : decode cX12_weightOf 23 = .ok (.iconst 1, 1) := by decide +kernel
theorem dX12_weightOf_24 : decode cX12_weightOf 24 = .ok (.aload_n 0, 1) := by decide +kernel
theorem dX12_weightOf_25 : decode cX12_weightOf 25 = .ok (.getfield 63, 3) := by decide +kernel
theorem dX12_weightOf_28 : decode cX12_weightOf 28 = .ok (.iload_n 1, 1) := by decide +kernel
theorem dX12_weightOf_29 : decode cX12_weightOf 29 = .ok (.iaload, 1) := by decide +kernel
theorem dX12_weightOf_30 : decode cX12_weightOf 30 = .ok (.iastore, 1) := by decide +kernel
theorem dX12_weightOf_31 : decode cX12_weightOf 31 = .ok (.aload_n 0, 1) := by decide +kernel
theorem dX12_weightOf_32 : decode cX12_weightOf 32 = .ok (.getfield 39, 3) := by decide +kernel
theorem dX12_weightOf_35 : decode cX12_weightOf 35 = .ok (.iconst 2, 1) := by decide +kernel
theorem dX12_weightOf_36 : decode cX12_weightOf 36 = .ok (.aload_n 0, 1) := by decide +kernel
theorem dX12_weightOf_37 : decode cX12_weightOf 37 = .ok (.getfield 63, 3) := by decide +kernel
theorem dX12_weightOf_40 : decode cX12_weightOf 40 = .ok (.bipush 6, 2) := by decide +kernel
theorem dX12_weightOf_42 : decode cX12_weightOf 42 = .ok (.iload_n 1, 1) := by decide +kernel
theorem dX12_weightOf_43 : decode cX12_weightOf 43 = .ok (.iadd, 1) := by decide +kernel
theorem dX12_weightOf_44 : decode cX12_weightOf 44 = .ok (.iaload, 1) := by decide +kernel
theorem dX12_weightOf_45 : decode cX12_weightOf 45 = .ok (.iastore, 1) := by decide +kernel
theorem dX12_weightOf_46 : decode cX12_weightOf 46 = .ok (.aload_n 0, 1) := by decide +kernel
theorem dX12_weightOf_47 : decode cX12_weightOf 47 = .ok (.getfield 39, 3) := by decide +kernel
theorem dX12_weightOf_50 : decode cX12_weightOf 50 = .ok (.iconst 3, 1) := by decide +kernel
theorem dX12_weightOf_51 : decode cX12_weightOf 51 = .ok (.aload_n 0, 1) := by decide +kernel
theorem dX12_weightOf_52 : decode cX12_weightOf 52 = .ok (.getfield 54, 3) := by decide +kernel
theorem dX12_weightOf_55 : decode cX12_weightOf 55 = .ok (.iload_n 2, 1) := by decide +kernel
theorem dX12_weightOf_56 : decode cX12_weightOf 56 = .ok (.iaload, 1) := by decide +kernel
theorem dX12_weightOf_57 : decode cX12_weightOf 57 = .ok (.iastore, 1) := by decide +kernel
theorem dX12_weightOf_58 : decode cX12_weightOf 58 = .ok (.aload_n 0, 1) := by decide +kernel
theorem dX12_weightOf_59 : decode cX12_weightOf 59 = .ok (.getfield 39, 3) := by decide +kernel
theorem dX12_weightOf_62 : decode cX12_weightOf 62 = .ok (.iconst 4, 1) := by decide +kernel
theorem dX12_weightOf_63 : decode cX12_weightOf 63 = .ok (.aload_n 0, 1) := by decide +kernel
theorem dX12_weightOf_64 : decode cX12_weightOf 64 = .ok (.getfield 63, 3) := by decide +kernel
theorem dX12_weightOf_67 : decode cX12_weightOf 67 = .ok (.bipush 12, 2) := by decide +kernel
theorem dX12_weightOf_69 : decode cX12_weightOf 69 = .ok (.iaload, 1) := by decide +kernel
theorem dX12_weightOf_70 : decode cX12_weightOf 70 = .ok (.invokestatic 283, 3) := by decide +kernel
theorem dX12_weightOf_73 : decode cX12_weightOf 73 = .ok (.iastore, 1) := by decide +kernel
theorem dX12_weightOf_74 : decode cX12_weightOf 74 = .ok (.aload_n 0, 1) := by decide +kernel
theorem dX12_weightOf_75 : decode cX12_weightOf 75 = .ok (.getfield 39, 3) := by decide +kernel
theorem dX12_weightOf_78 : decode cX12_weightOf 78 = .ok (.iconst 5, 1) := by decide +kernel
theorem dX12_weightOf_79 : decode cX12_weightOf 79 = .ok (.aload_n 0, 1) := by decide +kernel
theorem dX12_weightOf_80 : decode cX12_weightOf 80 = .ok (.getfield 63, 3) := by decide +kernel
theorem dX12_weightOf_83 : decode cX12_weightOf 83 = .ok (.bipush 43, 2) := by decide +kernel
theorem dX12_weightOf_85 : decode cX12_weightOf 85 = .ok (.iaload, 1) := by decide +kernel
theorem dX12_weightOf_86 : decode cX12_weightOf 86 = .ok (.iastore, 1) := by decide +kernel
theorem dX12_weightOf_87 : decode cX12_weightOf 87 = .ok (.aload_n 0, 1) := by decide +kernel
theorem dX12_weightOf_88 : decode cX12_weightOf 88 = .ok (.getfield 286, 3) := by decide +kernel
theorem dX12_weightOf_91 : decode cX12_weightOf 91 = .ok (.ifCond .ne 17, 3) := by decide +kernel
theorem dX12_weightOf_94 : decode cX12_weightOf 94 = .ok (.aload_n 0, 1) := by decide +kernel
theorem dX12_weightOf_95 : decode cX12_weightOf 95 = .ok (.getfield 39, 3) := by decide +kernel
theorem dX12_weightOf_98 : decode cX12_weightOf 98 = .ok (.iconst 0, 1) := by decide +kernel
theorem dX12_weightOf_99 : decode cX12_weightOf 99 = .ok (.iaload, 1) := by decide +kernel
theorem dX12_weightOf_100 : decode cX12_weightOf 100 = .ok (.aload_n 0, 1) := by decide +kernel
theorem dX12_weightOf_101 : decode cX12_weightOf 101 = .ok (.getfield 39, 3) := by decide +kernel
theorem dX12_weightOf_104 : decode cX12_weightOf 104 = .ok (.iconst 2, 1) := by decide +kernel
theorem dX12_weightOf_105 : decode cX12_weightOf 105 = .ok (.iaload, 1) := by decide +kernel
theorem dX12_weightOf_106 : decode cX12_weightOf 106 = .ok (.isub, 1) := by decide +kernel
theorem dX12_weightOf_107 : decode cX12_weightOf 107 = .ok (.ireturn, 1) := by decide +kernel
theorem dX12_weightOf_108 : decode cX12_weightOf 108 = .ok (.iconst 0, 1) := by decide +kernel
theorem dX12_weightOf_109 : decode cX12_weightOf 109 = .ok (.istore_n 3, 1) := by decide +kernel
theorem dX12_weightOf_110 : decode cX12_weightOf 110 = .ok (.iconst 0, 1) := by decide +kernel
theorem dX12_weightOf_111 : decode cX12_weightOf 111 = .ok (.istore 4, 2) := by decide +kernel
theorem dX12_weightOf_113 : decode cX12_weightOf 113 = .ok (.iload 4, 2) := by decide +kernel
theorem dX12_weightOf_115 : decode cX12_weightOf 115 = .ok (.aload_n 0, 1) := by decide +kernel
theorem dX12_weightOf_116 : decode cX12_weightOf 116 = .ok (.getfield 289, 3) := by decide +kernel
theorem dX12_weightOf_119 : decode cX12_weightOf 119 = .ok (.if_icmp .ge 150, 3) := by decide +kernel
theorem dX12_weightOf_122 : decode cX12_weightOf 122 = .ok (.aload_n 0, 1) := by decide +kernel
theorem dX12_weightOf_123 : decode cX12_weightOf 123 = .ok (.getfield 27, 3) := by decide +kernel
theorem dX12_weightOf_126 : decode cX12_weightOf 126 = .ok (.iload 4, 2) := by decide +kernel
theorem dX12_weightOf_128 : decode cX12_weightOf 128 = .ok (.iaload, 1) := by decide +kernel
theorem dX12_weightOf_129 : decode cX12_weightOf 129 = .ok (.ifCond .eq 14, 3) := by decide +kernel
theorem dX12_weightOf_132 : decode cX12_weightOf 132 = .ok (.aload_n 0, 1) := by decide +kernel
theorem dX12_weightOf_133 : decode cX12_weightOf 133 = .ok (.getfield 27, 3) := by decide +kernel
theorem dX12_weightOf_136 : decode cX12_weightOf 136 = .ok (.iload 4, 2) := by decide +kernel
theorem dX12_weightOf_138 : decode cX12_weightOf 138 = .ok (.iaload, 1) := by decide +kernel
theorem dX12_weightOf_139 : decode cX12_weightOf 139 = .ok (.iconst 1, 1) := by decide +kernel
theorem dX12_weightOf_140 : decode cX12_weightOf 140 = .ok (.if_icmp .ne 47, 3) := by decide +kernel
theorem dX12_weightOf_143 : decode cX12_weightOf 143 = .ok (.aload_n 0, 1) := by decide +kernel
theorem dX12_weightOf_144 : decode cX12_weightOf 144 = .ok (.getfield 36, 3) := by decide +kernel
theorem dX12_weightOf_147 : decode cX12_weightOf 147 = .ok (.iload_n 3, 1) := by decide +kernel
theorem dX12_weightOf_148 : decode cX12_weightOf 148 = .ok (.aload_n 0, 1) := by decide +kernel
theorem dX12_weightOf_149 : decode cX12_weightOf 149 = .ok (.getfield 27, 3) := by decide +kernel
theorem dX12_weightOf_152 : decode cX12_weightOf 152 = .ok (.iload 4, 2) := by decide +kernel
theorem dX12_weightOf_154 : decode cX12_weightOf 154 = .ok (.iaload, 1) := by decide +kernel
theorem dX12_weightOf_155 : decode cX12_weightOf 155 = .ok (.ifCond .ne 13, 3) := by decide +kernel
theorem dX12_weightOf_158 : decode cX12_weightOf 158 = .ok (.aload_n 0, 1) := by decide +kernel
theorem dX12_weightOf_159 : decode cX12_weightOf 159 = .ok (.getfield 30, 3) := by decide +kernel
theorem dX12_weightOf_162 : decode cX12_weightOf 162 = .ok (.iload 4, 2) := by decide +kernel
theorem dX12_weightOf_164 : decode cX12_weightOf 164 = .ok (.iaload, 1) := by decide +kernel
theorem dX12_weightOf_165 : decode cX12_weightOf 165 = .ok (.goto 15, 3) := by decide +kernel
theorem dX12_weightOf_168 : decode cX12_weightOf 168 = .ok (.aload_n 0, 1) := by decide +kernel
theorem dX12_weightOf_169 : decode cX12_weightOf 169 = .ok (.getfield 39, 3) := by decide +kernel
theorem dX12_weightOf_172 : decode cX12_weightOf 172 = .ok (.aload_n 0, 1) := by decide +kernel
theorem dX12_weightOf_173 : decode cX12_weightOf 173 = .ok (.getfield 30, 3) := by decide +kernel
theorem dX12_weightOf_176 : decode cX12_weightOf 176 = .ok (.iload 4, 2) := by decide +kernel
theorem dX12_weightOf_178 : decode cX12_weightOf 178 = .ok (.iaload, 1) := by decide +kernel
theorem dX12_weightOf_179 : decode cX12_weightOf 179 = .ok (.iaload, 1) := by decide +kernel
theorem dX12_weightOf_180 : decode cX12_weightOf 180 = .ok (.iastore, 1) := by decide +kernel
theorem dX12_weightOf_181 : decode cX12_weightOf 181 = .ok (.iinc 3 1, 3) := by decide +kernel
theorem dX12_weightOf_184 : decode cX12_weightOf 184 = .ok (.goto 79, 3) := by decide +kernel
theorem dX12_weightOf_187 : decode cX12_weightOf 187 = .ok (.aload_n 0, 1) := by decide +kernel
theorem dX12_weightOf_188 : decode cX12_weightOf 188 = .ok (.getfield 27, 3) := by decide +kernel
theorem dX12_weightOf_191 : decode cX12_weightOf 191 = .ok (.iload 4, 2) := by decide +kernel
theorem dX12_weightOf_193 : decode cX12_weightOf 193 = .ok (.iaload, 1) := by decide +kernel
theorem dX12_weightOf_194 : decode cX12_weightOf 194 = .ok (.iconst 2, 1) := by decide +kernel
theorem dX12_weightOf_195 : decode cX12_weightOf 195 = .ok (.if_icmp .ne 33, 3) := by decide +kernel
theorem dX12_weightOf_198 : decode cX12_weightOf 198 = .ok (.aload_n 0, 1) := by decide +kernel
theorem dX12_weightOf_199 : decode cX12_weightOf 199 = .ok (.getfield 36, 3) := by decide +kernel
theorem dX12_weightOf_202 : decode cX12_weightOf 202 = .ok (.iload_n 3, 1) := by decide +kernel
theorem dX12_weightOf_203 : decode cX12_weightOf 203 = .ok (.iconst 1, 1) := by decide +kernel
theorem dX12_weightOf_204 : decode cX12_weightOf 204 = .ok (.isub, 1) := by decide +kernel
theorem dX12_weightOf_205 : decode cX12_weightOf 205 = .ok (.aload_n 0, 1) := by decide +kernel
theorem dX12_weightOf_206 : decode cX12_weightOf 206 = .ok (.getfield 36, 3) := by decide +kernel
theorem dX12_weightOf_209 : decode cX12_weightOf 209 = .ok (.iload_n 3, 1) := by decide +kernel
theorem dX12_weightOf_210 : decode cX12_weightOf 210 = .ok (.iconst 1, 1) := by decide +kernel
theorem dX12_weightOf_211 : decode cX12_weightOf 211 = .ok (.isub, 1) := by decide +kernel
theorem dX12_weightOf_212 : decode cX12_weightOf 212 = .ok (.iaload, 1) := by decide +kernel
theorem dX12_weightOf_213 : decode cX12_weightOf 213 = .ok (.ifCond .ne 7, 3) := by decide +kernel
theorem dX12_weightOf_216 : decode cX12_weightOf 216 = .ok (.iconst 1, 1) := by decide +kernel
theorem dX12_weightOf_217 : decode cX12_weightOf 217 = .ok (.goto 4, 3) := by decide +kernel
theorem dX12_weightOf_220 : decode cX12_weightOf 220 = .ok (.iconst 0, 1) := by decide +kernel
theorem dX12_weightOf_221 : decode cX12_weightOf 221 = .ok (.invokestatic 279, 3) := by decide +kernel
theorem dX12_weightOf_224 : decode cX12_weightOf 224 = .ok (.iastore, 1) := by decide +kernel
theorem dX12_weightOf_225 : decode cX12_weightOf 225 = .ok (.goto 38, 3) := by decide +kernel
theorem dX12_weightOf_228 : decode cX12_weightOf 228 = .ok (.iinc 3 (-1), 3) := by decide +kernel
theorem dX12_weightOf_231 : decode cX12_weightOf 231 = .ok (.aload_n 0, 1) := by decide +kernel
theorem dX12_weightOf_232 : decode cX12_weightOf 232 = .ok (.getfield 36, 3) := by decide +kernel
theorem dX12_weightOf_235 : decode cX12_weightOf 235 = .ok (.iload_n 3, 1) := by decide +kernel
theorem dX12_weightOf_236 : decode cX12_weightOf 236 = .ok (.iconst 1, 1) := by decide +kernel
theorem dX12_weightOf_237 : decode cX12_weightOf 237 = .ok (.isub, 1) := by decide +kernel
theorem dX12_weightOf_238 : decode cX12_weightOf 238 = .ok (.aload_n 0, 1) := by decide +kernel
theorem dX12_weightOf_239 : decode cX12_weightOf 239 = .ok (.getfield 30, 3) := by decide +kernel
theorem dX12_weightOf_242 : decode cX12_weightOf 242 = .ok (.iload 4, 2) := by decide +kernel
theorem dX12_weightOf_244 : decode cX12_weightOf 244 = .ok (.iaload, 1) := by decide +kernel
theorem dX12_weightOf_245 : decode cX12_weightOf 245 = .ok (.aload_n 0, 1) := by decide +kernel
theorem dX12_weightOf_246 : decode cX12_weightOf 246 = .ok (.getfield 36, 3) := by decide +kernel
theorem dX12_weightOf_249 : decode cX12_weightOf 249 = .ok (.iload_n 3, 1) := by decide +kernel
theorem dX12_weightOf_250 : decode cX12_weightOf 250 = .ok (.iconst 1, 1) := by decide +kernel
theorem dX12_weightOf_251 : decode cX12_weightOf 251 = .ok (.isub, 1) := by decide +kernel
theorem dX12_weightOf_252 : decode cX12_weightOf 252 = .ok (.iaload, 1) := by decide +kernel
theorem dX12_weightOf_253 : decode cX12_weightOf 253 = .ok (.aload_n 0, 1) := by decide +kernel
theorem dX12_weightOf_254 : decode cX12_weightOf 254 = .ok (.getfield 36, 3) := by decide +kernel
theorem dX12_weightOf_257 : decode cX12_weightOf 257 = .ok (.iload_n 3, 1) := by decide +kernel
theorem dX12_weightOf_258 : decode cX12_weightOf 258 = .ok (.iaload, 1) := by decide +kernel
theorem dX12_weightOf_259 : decode cX12_weightOf 259 = .ok (.invokestatic 292, 3) := by decide +kernel
theorem dX12_weightOf_262 : decode cX12_weightOf 262 = .ok (.iastore, 1) := by decide +kernel
theorem dX12_weightOf_263 : decode cX12_weightOf 263 = .ok (.iinc 4 1, 3) := by decide +kernel
theorem dX12_weightOf_266 : decode cX12_weightOf 266 = .ok (.goto (-153), 3) := by decide +kernel
theorem dX12_weightOf_269 : decode cX12_weightOf 269 = .ok (.aload_n 0, 1) := by decide +kernel
theorem dX12_weightOf_270 : decode cX12_weightOf 270 = .ok (.getfield 36, 3) := by decide +kernel
theorem dX12_weightOf_273 : decode cX12_weightOf 273 = .ok (.iconst 0, 1) := by decide +kernel
theorem dX12_weightOf_274 : decode cX12_weightOf 274 = .ok (.iaload, 1) := by decide +kernel
theorem dX12_weightOf_275 : decode cX12_weightOf 275 = .ok (.ireturn, 1) := by decide +kernel
theorem dX12_readPerson_0 : decode cX12_readPerson 0 = .ok (.aload_n 0, 1) := by decide +kernel
theorem dX12_readPerson_1 : decode cX12_readPerson 1 = .ok (.iconst 0, 1) := by decide +kernel
theorem dX12_readPerson_2 : decode cX12_readPerson 2 = .ok (.aload_n 0, 1) := by decide +kernel
theorem dX12_readPerson_3 : decode cX12_readPerson 3 = .ok (.getfield 296, 3) := by decide +kernel
theorem dX12_readPerson_6 : decode cX12_readPerson 6 = .ok (.invokevirtual 299, 3) := by decide +kernel
theorem dX12_readPerson_9 : decode cX12_readPerson 9 = .ok (.aload_n 0, 1) := by decide +kernel
theorem dX12_readPerson_10 : decode cX12_readPerson 10 = .ok (.getfield 42, 3) := by decide +kernel
theorem dX12_readPerson_13 : decode cX12_readPerson 13 = .ok (.aload_n 0, 1) := by decide +kernel
theorem dX12_readPerson_14 : decode cX12_readPerson 14 = .ok (.getfield 296, 3) := by decide +kernel
theorem dX12_readPerson_17 : decode cX12_readPerson 17 = .ok (.aload_n 0, 1) := by decide +kernel
theorem dX12_readPerson_18 : decode cX12_readPerson 18 = .ok (.ldc2_w 166, 3) := by decide +kernel
theorem dX12_readPerson_21 : decode cX12_readPerson 21 = .ok (.iconst 0, 1) := by decide +kernel
theorem dX12_readPerson_22 : decode cX12_readPerson 22 = .ok (.sipush 999, 3) := by decide +kernel
theorem dX12_readPerson_25 : decode cX12_readPerson 25 = .ok (.invokevirtual 302, 3) := by decide +kernel
theorem dX12_readPerson_28 : decode cX12_readPerson 28 = .ok (.iastore, 1) := by decide +kernel
theorem dX12_readPerson_29 : decode cX12_readPerson 29 = .ok (.aload_n 0, 1) := by decide +kernel
theorem dX12_readPerson_30 : decode cX12_readPerson 30 = .ok (.getfield 161, 3) := by decide +kernel
theorem dX12_readPerson_33 : decode cX12_readPerson 33 = .ok (.ifCond .ne 13, 3) := by decide +kernel
theorem dX12_readPerson_36 : decode cX12_readPerson 36 = .ok (.aload_n 0, 1) := by decide +kernel
theorem dX12_readPerson_37 : decode cX12_readPerson 37 = .ok (.dup, 1) := by decide +kernel
theorem dX12_readPerson_38 : decode cX12_readPerson 38 = .ok (.getfield 296, 3) := by decide +kernel
theorem dX12_readPerson_41 : decode cX12_readPerson 41 = .ok (.iconst 1, 1) := by decide +kernel
theorem dX12_readPerson_42 : decode cX12_readPerson 42 = .ok (.iadd, 1) := by decide +kernel
theorem dX12_readPerson_43 : decode cX12_readPerson 43 = .ok (.putfield 296, 3) := by decide +kernel
theorem dX12_readPerson_46 : decode cX12_readPerson 46 = .ok (.return_, 1) := by decide +kernel
theorem dX12_readBell_0 : decode cX12_readBell 0 = .ok (.aload_n 0, 1) := by decide +kernel
theorem dX12_readBell_1 : decode cX12_readBell 1 = .ok (.bipush 6, 2) := by decide +kernel
theorem dX12_readBell_3 : decode cX12_readBell 3 = .ok (.aload_n 0, 1) := by decide +kernel
theorem dX12_readBell_4 : decode cX12_readBell 4 = .ok (.getfield 306, 3) := by decide +kernel
theorem dX12_readBell_7 : decode cX12_readBell 7 = .ok (.invokevirtual 299, 3) := by decide +kernel
theorem dX12_readBell_10 : decode cX12_readBell 10 = .ok (.aload_n 0, 1) := by decide +kernel
theorem dX12_readBell_11 : decode cX12_readBell 11 = .ok (.getfield 45, 3) := by decide +kernel
theorem dX12_readBell_14 : decode cX12_readBell 14 = .ok (.aload_n 0, 1) := by decide +kernel
theorem dX12_readBell_15 : decode cX12_readBell 15 = .ok (.getfield 306, 3) := by decide +kernel
theorem dX12_readBell_18 : decode cX12_readBell 18 = .ok (.aload_n 0, 1) := by decide +kernel
theorem dX12_readBell_19 : decode cX12_readBell 19 = .ok (.ldc2_w 170, 3) := by decide +kernel
theorem dX12_readBell_22 : decode cX12_readBell 22 = .ok (.iconst 0, 1) := by decide +kernel
theorem dX12_readBell_23 : decode cX12_readBell 23 = .ok (.bipush 23, 2) := by decide +kernel
theorem dX12_readBell_25 : decode cX12_readBell 25 = .ok (.invokevirtual 302, 3) := by decide +kernel
theorem dX12_readBell_28 : decode cX12_readBell 28 = .ok (.iastore, 1) := by decide +kernel
theorem dX12_readBell_29 : decode cX12_readBell 29 = .ok (.aload_n 0, 1) := by decide +kernel
theorem dX12_readBell_30 : decode cX12_readBell 30 = .ok (.getfield 161, 3) := by decide +kernel
theorem dX12_readBell_33 : decode cX12_readBell 33 = .ok (.ifCond .ne 13, 3) := by decide +kernel
theorem dX12_readBell_36 : decode cX12_readBell 36 = .ok (.aload_n 0, 1) := by decide +kernel
theorem dX12_readBell_37 : decode cX12_readBell 37 = .ok (.dup, 1) := by decide +kernel
theorem dX12_readBell_38 : decode cX12_readBell 38 = .ok (.getfield 306, 3) := by decide +kernel
theorem dX12_readBell_41 : decode cX12_readBell 41 = .ok (.iconst 1, 1) := by decide +kernel
theorem dX12_readBell_42 : decode cX12_readBell 42 = .ok (.iadd, 1) := by decide +kernel
theorem dX12_readBell_43 : decode cX12_readBell 43 = .ok (.putfield 306, 3) := by decide +kernel
theorem dX12_readBell_46 : decode cX12_readBell 46 = .ok (.return_, 1) := by decide +kernel
theorem dX12_readLoses_0 : decode cX12_readLoses 0 = .ok (.aload_n 0, 1) := by decide +kernel
theorem dX12_readLoses_1 : decode cX12_readLoses 1 = .ok (.invokevirtual 205, 3) := by decide +kernel
theorem dX12_readLoses_4 : decode cX12_readLoses 4 = .ok (.aload_n 0, 1) := by decide +kernel
theorem dX12_readLoses_5 : decode cX12_readLoses 5 = .ok (.iconst 0, 1) := by decide +kernel
theorem dX12_readLoses_6 : decode cX12_readLoses 6 = .ok (.aload_n 0, 1) := by decide +kernel
theorem dX12_readLoses_7 : decode cX12_readLoses 7 = .ok (.getfield 296, 3) := by decide +kernel
theorem dX12_readLoses_10 : decode cX12_readLoses 10 = .ok (.invokevirtual 309, 3) := by decide +kernel
theorem dX12_readLoses_13 : decode cX12_readLoses 13 = .ok (.istore_n 1, 1) := by decide +kernel
theorem dX12_readLoses_14 : decode cX12_readLoses 14 = .ok (.aload_n 0, 1) := by decide +kernel
theorem dX12_readLoses_15 : decode cX12_readLoses 15 = .ok (.getfield 161, 3) := by decide +kernel
theorem dX12_readLoses_18 : decode cX12_readLoses 18 = .ok (.ifCond .ne 7, 3) := by decide +kernel
theorem dX12_readLoses_21 : decode cX12_readLoses 21 = .ok (.aload_n 0, 1) := by decide +kernel
theorem dX12_readLoses_22 : decode cX12_readLoses 22 = .ok (.invokevirtual 205, 3) := by decide +kernel
theorem dX12_readLoses_25 : decode cX12_readLoses 25 = .ok (.aload_n 0, 1) := by decide +kernel
theorem dX12_readLoses_26 : decode cX12_readLoses 26 = .ok (.bipush 6, 2) := by decide +kernel
theorem dX12_readLoses_28 : decode cX12_readLoses 28 = .ok (.aload_n 0, 1) := by decide +kernel
theorem dX12_readLoses_29 : decode cX12_readLoses 29 = .ok (.getfield 306, 3) := by decide +kernel
theorem dX12_readLoses_32 : decode cX12_readLoses 32 = .ok (.invokevirtual 309, 3) := by decide +kernel
theorem dX12_readLoses_35 : decode cX12_readLoses 35 = .ok (.istore_n 2, 1) := by decide +kernel
theorem dX12_readLoses_36 : decode cX12_readLoses 36 = .ok (.aload_n 0, 1) := by decide +kernel
theorem dX12_readLoses_37 : decode cX12_readLoses 37 = .ok (.getfield 161, 3) := by decide +kernel
theorem dX12_readLoses_40 : decode cX12_readLoses 40 = .ok (.ifCond .ne 21, 3) := by decide +kernel
theorem dX12_readLoses_43 : decode cX12_readLoses 43 = .ok (.aload_n 0, 1) := by decide +kernel
theorem dX12_readLoses_44 : decode cX12_readLoses 44 = .ok (.getfield 48, 3) := by decide +kernel
theorem dX12_readLoses_47 : decode cX12_readLoses 47 = .ok (.iconst 5, 1) := by decide +kernel
theorem dX12_readLoses_48 : decode cX12_readLoses 48 = .ok (.iload_n 1, 1) := by decide +kernel
theorem dX12_readLoses_49 : decode cX12_readLoses 49 = .ok (.imul, 1) := by decide +kernel
theorem dX12_readLoses_50 : decode cX12_readLoses 50 = .ok (.iload_n 2, 1) := by decide +kernel
theorem dX12_readLoses_51 : decode cX12_readLoses 51 = .ok (.iadd, 1) := by decide +kernel
theorem dX12_readLoses_52 : decode cX12_readLoses 52 = .ok (.iaload, 1) := by decide +kernel
theorem dX12_readLoses_53 : decode cX12_readLoses 53 = .ok (.ifCond .le 8, 3) := by decide +kernel
theorem dX12_readLoses_56 : decode cX12_readLoses 56 = .ok (.aload_n 0, 1) := by decide +kernel
theorem dX12_readLoses_57 : decode cX12_readLoses 57 = .ok (.iconst 3, 1) := by decide +kernel
theorem dX12_readLoses_58 : decode cX12_readLoses 58 = .ok (.invokevirtual 202, 3) := by decide +kernel
theorem dX12_readLoses_61 : decode cX12_readLoses 61 = .ok (.aload_n 0, 1) := by decide +kernel
theorem dX12_readLoses_62 : decode cX12_readLoses 62 = .ok (.getfield 161, 3) := by decide +kernel
theorem dX12_readLoses_65 : decode cX12_readLoses 65 = .ok (.ifCond .ne 7, 3) := by decide +kernel
theorem dX12_readLoses_68 : decode cX12_readLoses 68 = .ok (.aload_n 0, 1) := by decide +kernel
theorem dX12_readLoses_69 : decode cX12_readLoses 69 = .ok (.invokevirtual 205, 3) := by decide +kernel
theorem dX12_readLoses_72 : decode cX12_readLoses 72 = .ok (.aload_n 0, 1) := by decide +kernel
theorem dX12_readLoses_73 : decode cX12_readLoses 73 = .ok (.iconst 1, 1) := by decide +kernel
theorem dX12_readLoses_74 : decode cX12_readLoses 74 = .ok (.bipush 20, 2) := by decide +kernel
theorem dX12_readLoses_76 : decode cX12_readLoses 76 = .ok (.invokevirtual 212, 3) := by decide +kernel
theorem dX12_readLoses_79 : decode cX12_readLoses 79 = .ok (.istore_n 3, 1) := by decide +kernel
theorem dX12_readLoses_80 : decode cX12_readLoses 80 = .ok (.aload_n 0, 1) := by decide +kernel
theorem dX12_readLoses_81 : decode cX12_readLoses 81 = .ok (.getfield 161, 3) := by decide +kernel
theorem dX12_readLoses_84 : decode cX12_readLoses 84 = .ok (.ifCond .le 4, 3) := by decide +kernel
theorem dX12_readLoses_87 : decode cX12_readLoses 87 = .ok (.return_, 1) := by decide +kernel
theorem dX12_readLoses_88 : decode cX12_readLoses 88 = .ok (.aload_n 0, 1) := by decide +kernel
theorem dX12_readLoses_89 : decode cX12_readLoses 89 = .ok (.getfield 48, 3) := by decide +kernel
theorem dX12_readLoses_92 : decode cX12_readLoses 92 = .ok (.iconst 5, 1) := by decide +kernel
theorem dX12_readLoses_93 : decode cX12_readLoses 93 = .ok (.iload_n 1, 1) := by decide +kernel
theorem dX12_readLoses_94 : decode cX12_readLoses 94 = .ok (.imul, 1) := by decide +kernel
theorem dX12_readLoses_95 : decode cX12_readLoses 95 = .ok (.iload_n 2, 1) := by decide +kernel
theorem dX12_readLoses_96 : decode cX12_readLoses 96 = .ok (.iadd, 1) := by decide +kernel
theorem dX12_readLoses_97 : decode cX12_readLoses 97 = .ok (.iload_n 3, 1) := by decide +kernel
theorem dX12_readLoses_98 : decode cX12_readLoses 98 = .ok (.iastore, 1) := by decide +kernel
theorem dX12_readLoses_99 : decode cX12_readLoses 99 = .ok (.aload_n 0, 1) := by decide +kernel
theorem dX12_readLoses_100 : decode cX12_readLoses 100 = .ok (.iconst 5, 1) := by decide +kernel
theorem dX12_readLoses_101 : decode cX12_readLoses 101 = .ok (.iload_n 1, 1) := by decide +kernel
theorem dX12_readLoses_102 : decode cX12_readLoses 102 = .ok (.imul, 1) := by decide +kernel
theorem dX12_readLoses_103 : decode cX12_readLoses 103 = .ok (.iload_n 2, 1) := by decide +kernel
theorem dX12_readLoses_104 : decode cX12_readLoses 104 = .ok (.iadd, 1) := by decide +kernel
theorem dX12_readLoses_105 : decode cX12_readLoses 105 = .ok (.putfield 312, 3) := by decide +kernel
theorem dX12_readLoses_108 : decode cX12_readLoses 108 = .ok (.aload_n 0, 1) := by decide +kernel
theorem dX12_readLoses_109 : decode cX12_readLoses 109 = .ok (.dup, 1) := by decide +kernel
theorem dX12_readLoses_110 : decode cX12_readLoses 110 = .ok (.getfield 315, 3) := by decide +kernel
theorem dX12_readLoses_113 : decode cX12_readLoses 113 = .ok (.iconst 1, 1) := by decide +kernel
theorem dX12_readLoses_114 : decode cX12_readLoses 114 = .ok (.iadd, 1) := by decide +kernel
theorem dX12_readLoses_115 : decode cX12_readLoses 115 = .ok (.putfield 315, 3) := by decide +kernel
theorem dX12_readLoses_118 : decode cX12_readLoses 118 = .ok (.return_, 1) := by decide +kernel
theorem dX12_readLine_0 : decode cX12_readLine 0 = .ok (.aload_n 0, 1) := by decide +kernel
theorem dX12_readLine_1 : decode cX12_readLine 1 = .ok (.ldc2_w 164, 3) := by decide +kernel
theorem dX12_readLine_4 : decode cX12_readLine 4 = .ok (.invokevirtual 198, 3) := by decide +kernel
theorem dX12_readLine_7 : decode cX12_readLine 7 = .ok (.ifCond .eq 19, 3) := by decide +kernel
theorem dX12_readLine_10 : decode cX12_readLine 10 = .ok (.aload_n 0, 1) := by decide +kernel
theorem dX12_readLine_11 : decode cX12_readLine 11 = .ok (.getfield 296, 3) := by decide +kernel
theorem dX12_readLine_14 : decode cX12_readLine 14 = .ok (.bipush 6, 2) := by decide +kernel
theorem dX12_readLine_16 : decode cX12_readLine 16 = .ok (.if_icmp .ge 10, 3) := by decide +kernel
theorem dX12_readLine_19 : decode cX12_readLine 19 = .ok (.aload_n 0, 1) := by decide +kernel
theorem dX12_readLine_20 : decode cX12_readLine 20 = .ok (.invokevirtual 318, 3) := by decide +kernel
theorem dX12_readLine_23 : decode cX12_readLine 23 = .ok (.goto 162, 3) := by decide +kernel
theorem dX12_readLine_26 : decode cX12_readLine 26 = .ok (.aload_n 0, 1) := by decide +kernel
theorem dX12_readLine_27 : decode cX12_readLine 27 = .ok (.ldc2_w 168, 3) := by decide +kernel
theorem dX12_readLine_30 : decode cX12_readLine 30 = .ok (.invokevirtual 198, 3) := by decide +kernel
theorem dX12_readLine_33 : decode cX12_readLine 33 = .ok (.ifCond .eq 18, 3) := by decide +kernel
theorem dX12_readLine_36 : decode cX12_readLine 36 = .ok (.aload_n 0, 1) := by decide +kernel
theorem dX12_readLine_37 : decode cX12_readLine 37 = .ok (.getfield 306, 3) := by decide +kernel
theorem dX12_readLine_40 : decode cX12_readLine 40 = .ok (.iconst 5, 1) := by decide +kernel
theorem dX12_readLine_41 : decode cX12_readLine 41 = .ok (.if_icmp .ge 10, 3) := by decide +kernel
theorem dX12_readLine_44 : decode cX12_readLine 44 = .ok (.aload_n 0, 1) := by decide +kernel
theorem dX12_readLine_45 : decode cX12_readLine 45 = .ok (.invokevirtual 321, 3) := by decide +kernel
theorem dX12_readLine_48 : decode cX12_readLine 48 = .ok (.goto 137, 3) := by decide +kernel
theorem dX12_readLine_51 : decode cX12_readLine 51 = .ok (.aload_n 0, 1) := by decide +kernel
theorem dX12_readLine_52 : decode cX12_readLine 52 = .ok (.ldc2_w 172, 3) := by decide +kernel
theorem dX12_readLine_55 : decode cX12_readLine 55 = .ok (.invokevirtual 198, 3) := by decide +kernel
theorem dX12_readLine_58 : decode cX12_readLine 58 = .ok (.ifCond .eq 19, 3) := by decide +kernel
theorem dX12_readLine_61 : decode cX12_readLine 61 = .ok (.aload_n 0, 1) := by decide +kernel
theorem dX12_readLine_62 : decode cX12_readLine 62 = .ok (.getfield 315, 3) := by decide +kernel
theorem dX12_readLine_65 : decode cX12_readLine 65 = .ok (.bipush 20, 2) := by decide +kernel
theorem dX12_readLine_67 : decode cX12_readLine 67 = .ok (.if_icmp .ge 10, 3) := by decide +kernel
theorem dX12_readLine_70 : decode cX12_readLine 70 = .ok (.aload_n 0, 1) := by decide +kernel
theorem dX12_readLine_71 : decode cX12_readLine 71 = .ok (.invokevirtual 324, 3) := by decide +kernel
theorem dX12_readLine_74 : decode cX12_readLine 74 = .ok (.goto 111, 3) := by decide +kernel
theorem dX12_readLine_77 : decode cX12_readLine 77 = .ok (.aload_n 0, 1) := by decide +kernel
theorem dX12_readLine_78 : decode cX12_readLine 78 = .ok (.ldc2_w 174, 3) := by decide +kernel
theorem dX12_readLine_81 : decode cX12_readLine 81 = .ok (.invokevirtual 198, 3) := by decide +kernel
theorem dX12_readLine_84 : decode cX12_readLine 84 = .ok (.ifCond .eq 17, 3) := by decide +kernel
theorem dX12_readLine_87 : decode cX12_readLine 87 = .ok (.aload_n 0, 1) := by decide +kernel
theorem dX12_readLine_88 : decode cX12_readLine 88 = .ok (.getfield 260, 3) := by decide +kernel
theorem dX12_readLine_91 : decode cX12_readLine 91 = .ok (.ifCond .ne 10, 3) := by decide +kernel
theorem dX12_readLine_94 : decode cX12_readLine 94 = .ok (.aload_n 0, 1) := by decide +kernel
theorem dX12_readLine_95 : decode cX12_readLine 95 = .ok (.invokevirtual 327, 3) := by decide +kernel
theorem dX12_readLine_98 : decode cX12_readLine 98 = .ok (.goto 87, 3) := by decide +kernel
theorem dX12_readLine_101 : decode cX12_readLine 101 = .ok (.aload_n 0, 1) := by decide +kernel
theorem dX12_readLine_102 : decode cX12_readLine 102 = .ok (.ldc2_w 176, 3) := by decide +kernel
theorem dX12_readLine_105 : decode cX12_readLine 105 = .ok (.invokevirtual 198, 3) := by decide +kernel
theorem dX12_readLine_108 : decode cX12_readLine 108 = .ok (.ifCond .eq 32, 3) := by decide +kernel
theorem dX12_readLine_111 : decode cX12_readLine 111 = .ok (.aload_n 0, 1) := by decide +kernel
theorem dX12_readLine_112 : decode cX12_readLine 112 = .ok (.getfield 330, 3) := by decide +kernel
theorem dX12_readLine_115 : decode cX12_readLine 115 = .ok (.ifCond .ne 25, 3) := by decide +kernel
theorem dX12_readLine_118 : decode cX12_readLine 118 = .ok (.aload_n 0, 1) := by decide +kernel
theorem dX12_readLine_119 : decode cX12_readLine 119 = .ok (.iconst 1, 1) := by decide +kernel
theorem dX12_readLine_120 : decode cX12_readLine 120 = .ok (.putfield 330, 3) := by decide +kernel
theorem dX12_readLine_123 : decode cX12_readLine 123 = .ok (.aload_n 0, 1) := by decide +kernel
theorem dX12_readLine_124 : decode cX12_readLine 124 = .ok (.aload_n 0, 1) := by decide +kernel
theorem dX12_readLine_125 : decode cX12_readLine 125 = .ok (.ldc2_w 176, 3) := by decide +kernel
theorem dX12_readLine_128 : decode cX12_readLine 128 = .ok (.iconst 0, 1) := by decide +kernel
theorem dX12_readLine_129 : decode cX12_readLine 129 = .ok (.bipush 100, 2) := by decide +kernel
theorem dX12_readLine_131 : decode cX12_readLine 131 = .ok (.invokevirtual 302, 3) := by decide +kernel
theorem dX12_readLine_134 : decode cX12_readLine 134 = .ok (.putfield 333, 3) := by decide +kernel
theorem dX12_readLine_137 : decode cX12_readLine 137 = .ok (.goto 48, 3) := by decide +kernel
theorem dX12_readLine_140 : decode cX12_readLine 140 = .ok (.aload_n 0, 1) := by decide +kernel
theorem dX12_readLine_141 : decode cX12_readLine 141 = .ok (.ldc2_w 178, 3) := by decide +kernel
theorem dX12_readLine_144 : decode cX12_readLine 144 = .ok (.invokevirtual 198, 3) := by decide +kernel
theorem dX12_readLine_147 : decode cX12_readLine 147 = .ok (.ifCond .eq 33, 3) := by decide +kernel
theorem dX12_readLine_150 : decode cX12_readLine 150 = .ok (.aload_n 0, 1) := by decide +kernel
theorem dX12_readLine_151 : decode cX12_readLine 151 = .ok (.getfield 336, 3) := by decide +kernel
theorem dX12_readLine_154 : decode cX12_readLine 154 = .ok (.ifCond .ne 26, 3) := by decide +kernel
theorem dX12_readLine_157 : decode cX12_readLine 157 = .ok (.aload_n 0, 1) := by decide +kernel
theorem dX12_readLine_158 : decode cX12_readLine 158 = .ok (.iconst 1, 1) := by decide +kernel
theorem dX12_readLine_159 : decode cX12_readLine 159 = .ok (.putfield 336, 3) := by decide +kernel
theorem dX12_readLine_162 : decode cX12_readLine 162 = .ok (.aload_n 0, 1) := by decide +kernel
theorem dX12_readLine_163 : decode cX12_readLine 163 = .ok (.aload_n 0, 1) := by decide +kernel
theorem dX12_readLine_164 : decode cX12_readLine 164 = .ok (.ldc2_w 178, 3) := by decide +kernel
theorem dX12_readLine_167 : decode cX12_readLine 167 = .ok (.iconst 0, 1) := by decide +kernel
theorem dX12_readLine_168 : decode cX12_readLine 168 = .ok (.sipush 999, 3) := by decide +kernel
theorem dX12_readLine_171 : decode cX12_readLine 171 = .ok (.invokevirtual 302, 3) := by decide +kernel
theorem dX12_readLine_174 : decode cX12_readLine 174 = .ok (.putfield 339, 3) := by decide +kernel
theorem dX12_readLine_177 : decode cX12_readLine 177 = .ok (.goto 8, 3) := by decide +kernel
theorem dX12_readLine_180 : decode cX12_readLine 180 = .ok (.aload_n 0, 1) := by decide +kernel
theorem dX12_readLine_181 : decode cX12_readLine 181 = .ok (.iconst 2, 1) := by decide +kernel
theorem dX12_readLine_182 : decode cX12_readLine 182 = .ok (.invokevirtual 202, 3) := by decide +kernel
theorem dX12_readLine_185 : decode cX12_readLine 185 = .ok (.aload_n 0, 1) := by decide +kernel
theorem dX12_readLine_186 : decode cX12_readLine 186 = .ok (.getfield 161, 3) := by decide +kernel
theorem dX12_readLine_189 : decode cX12_readLine 189 = .ok (.ifCond .ne 17, 3) := by decide +kernel
theorem dX12_readLine_192 : decode cX12_readLine 192 = .ok (.aload_n 0, 1) := by decide +kernel
theorem dX12_readLine_193 : decode cX12_readLine 193 = .ok (.getfield 148, 3) := by decide +kernel
theorem dX12_readLine_196 : decode cX12_readLine 196 = .ok (.bipush 59, 2) := by decide +kernel
theorem dX12_readLine_198 : decode cX12_readLine 198 = .ok (.if_icmp .eq 8, 3) := by decide +kernel
theorem dX12_readLine_201 : decode cX12_readLine 201 = .ok (.aload_n 0, 1) := by decide +kernel
theorem dX12_readLine_202 : decode cX12_readLine 202 = .ok (.iconst 2, 1) := by decide +kernel
theorem dX12_readLine_203 : decode cX12_readLine 203 = .ok (.invokevirtual 202, 3) := by decide +kernel
theorem dX12_readLine_206 : decode cX12_readLine 206 = .ok (.aload_n 0, 1) := by decide +kernel
theorem dX12_readLine_207 : decode cX12_readLine 207 = .ok (.getfield 161, 3) := by decide +kernel
theorem dX12_readLine_210 : decode cX12_readLine 210 = .ok (.ifCond .ne 7, 3) := by decide +kernel
theorem dX12_readLine_213 : decode cX12_readLine 213 = .ok (.aload_n 0, 1) := by decide +kernel
theorem dX12_readLine_214 : decode cX12_readLine 214 = .ok (.invokevirtual 205, 3) := by decide +kernel
theorem dX12_readLine_217 : decode cX12_readLine 217 = .ok (.return_, 1) := by decide +kernel
theorem dX12_readAll_0 : decode cX12_readAll 0 = .ok (.aload_n 0, 1) := by decide +kernel
theorem dX12_readAll_1 : decode cX12_readAll 1 = .ok (.aload_n 0, 1) := by decide +kernel
theorem dX12_readAll_2 : decode cX12_readAll 2 = .ok (.getfield 121, 3) := by decide +kernel
theorem dX12_readAll_5 : decode cX12_readAll 5 = .ok (.putfield 131, 3) := by decide +kernel
theorem dX12_readAll_8 : decode cX12_readAll 8 = .ok (.aload_n 0, 1) := by decide +kernel
theorem dX12_readAll_9 : decode cX12_readAll 9 = .ok (.iconst 0, 1) := by decide +kernel
theorem dX12_readAll_10 : decode cX12_readAll 10 = .ok (.putfield 121, 3) := by decide +kernel
theorem dX12_readAll_13 : decode cX12_readAll 13 = .ok (.aload_n 0, 1) := by decide +kernel
theorem dX12_readAll_14 : decode cX12_readAll 14 = .ok (.iconst 0, 1) := by decide +kernel
theorem dX12_readAll_15 : decode cX12_readAll 15 = .ok (.putfield 128, 3) := by decide +kernel
theorem dX12_readAll_18 : decode cX12_readAll 18 = .ok (.aload_n 0, 1) := by decide +kernel
theorem dX12_readAll_19 : decode cX12_readAll 19 = .ok (.iconst 0, 1) := by decide +kernel
theorem dX12_readAll_20 : decode cX12_readAll 20 = .ok (.putfield 161, 3) := by decide +kernel
theorem dX12_readAll_23 : decode cX12_readAll 23 = .ok (.aload_n 0, 1) := by decide +kernel
theorem dX12_readAll_24 : decode cX12_readAll 24 = .ok (.iconst (-1), 1) := by decide +kernel
theorem dX12_readAll_25 : decode cX12_readAll 25 = .ok (.putfield 13, 3) := by decide +kernel
theorem dX12_readAll_28 : decode cX12_readAll 28 = .ok (.aload_n 0, 1) := by decide +kernel
theorem dX12_readAll_29 : decode cX12_readAll 29 = .ok (.iconst 0, 1) := by decide +kernel
theorem dX12_readAll_30 : decode cX12_readAll 30 = .ok (.putfield 296, 3) := by decide +kernel
theorem dX12_readAll_33 : decode cX12_readAll 33 = .ok (.aload_n 0, 1) := by decide +kernel
theorem dX12_readAll_34 : decode cX12_readAll 34 = .ok (.iconst 0, 1) := by decide +kernel
theorem dX12_readAll_35 : decode cX12_readAll 35 = .ok (.putfield 306, 3) := by decide +kernel
theorem dX12_readAll_38 : decode cX12_readAll 38 = .ok (.aload_n 0, 1) := by decide +kernel
theorem dX12_readAll_39 : decode cX12_readAll 39 = .ok (.iconst 0, 1) := by decide +kernel
theorem dX12_readAll_40 : decode cX12_readAll 40 = .ok (.putfield 315, 3) := by decide +kernel
theorem dX12_readAll_43 : decode cX12_readAll 43 = .ok (.aload_n 0, 1) := by decide +kernel
theorem dX12_readAll_44 : decode cX12_readAll 44 = .ok (.iconst 0, 1) := by decide +kernel
theorem dX12_readAll_45 : decode cX12_readAll 45 = .ok (.putfield 312, 3) := by decide +kernel
theorem dX12_readAll_48 : decode cX12_readAll 48 = .ok (.aload_n 0, 1) := by decide +kernel
theorem dX12_readAll_49 : decode cX12_readAll 49 = .ok (.iconst 0, 1) := by decide +kernel
theorem dX12_readAll_50 : decode cX12_readAll 50 = .ok (.putfield 333, 3) := by decide +kernel
theorem dX12_readAll_53 : decode cX12_readAll 53 = .ok (.aload_n 0, 1) := by decide +kernel
theorem dX12_readAll_54 : decode cX12_readAll 54 = .ok (.iconst 0, 1) := by decide +kernel
theorem dX12_readAll_55 : decode cX12_readAll 55 = .ok (.putfield 339, 3) := by decide +kernel
theorem dX12_readAll_58 : decode cX12_readAll 58 = .ok (.aload_n 0, 1) := by decide +kernel
theorem dX12_readAll_59 : decode cX12_readAll 59 = .ok (.iconst 0, 1) := by decide +kernel
theorem dX12_readAll_60 : decode cX12_readAll 60 = .ok (.putfield 330, 3) := by decide +kernel
theorem dX12_readAll_63 : decode cX12_readAll 63 = .ok (.aload_n 0, 1) := by decide +kernel
theorem dX12_readAll_64 : decode cX12_readAll 64 = .ok (.iconst 0, 1) := by decide +kernel
theorem dX12_readAll_65 : decode cX12_readAll 65 = .ok (.putfield 336, 3) := by decide +kernel
theorem dX12_readAll_68 : decode cX12_readAll 68 = .ok (.aload_n 0, 1) := by decide +kernel
theorem dX12_readAll_69 : decode cX12_readAll 69 = .ok (.iconst 0, 1) := by decide +kernel
theorem dX12_readAll_70 : decode cX12_readAll 70 = .ok (.putfield 260, 3) := by decide +kernel
theorem dX12_readAll_73 : decode cX12_readAll 73 = .ok (.aload_n 0, 1) := by decide +kernel
theorem dX12_readAll_74 : decode cX12_readAll 74 = .ok (.iconst 0, 1) := by decide +kernel
theorem dX12_readAll_75 : decode cX12_readAll 75 = .ok (.putfield 238, 3) := by decide +kernel
theorem dX12_readAll_78 : decode cX12_readAll 78 = .ok (.iconst 0, 1) := by decide +kernel
theorem dX12_readAll_79 : decode cX12_readAll 79 = .ok (.istore_n 1, 1) := by decide +kernel
theorem dX12_readAll_80 : decode cX12_readAll 80 = .ok (.iload_n 1, 1) := by decide +kernel
theorem dX12_readAll_81 : decode cX12_readAll 81 = .ok (.bipush 30, 2) := by decide +kernel
theorem dX12_readAll_83 : decode cX12_readAll 83 = .ok (.if_icmp .ge 16, 3) := by decide +kernel
theorem dX12_readAll_86 : decode cX12_readAll 86 = .ok (.aload_n 0, 1) := by decide +kernel
theorem dX12_readAll_87 : decode cX12_readAll 87 = .ok (.getfield 48, 3) := by decide +kernel
theorem dX12_readAll_90 : decode cX12_readAll 90 = .ok (.iload_n 1, 1) := by decide +kernel
theorem dX12_readAll_91 : decode cX12_readAll 91 = .ok (.iconst 0, 1) := by decide +kernel
theorem dX12_readAll_92 : decode cX12_readAll 92 = .ok (.iastore, 1) := by decide +kernel
theorem dX12_readAll_93 : decode cX12_readAll 93 = .ok (.iinc 1 1, 3) := by decide +kernel
theorem dX12_readAll_96 : decode cX12_readAll 96 = .ok (.goto (-16), 3) := by decide +kernel
theorem dX12_readAll_99 : decode cX12_readAll 99 = .ok (.aload_n 0, 1) := by decide +kernel
theorem dX12_readAll_100 : decode cX12_readAll 100 = .ok (.invokevirtual 205, 3) := by decide +kernel
theorem dX12_readAll_103 : decode cX12_readAll 103 = .ok (.aload_n 0, 1) := by decide +kernel
theorem dX12_readAll_104 : decode cX12_readAll 104 = .ok (.getfield 161, 3) := by decide +kernel
theorem dX12_readAll_107 : decode cX12_readAll 107 = .ok (.ifCond .ne 17, 3) := by decide +kernel
theorem dX12_readAll_110 : decode cX12_readAll 110 = .ok (.aload_n 0, 1) := by decide +kernel
theorem dX12_readAll_111 : decode cX12_readAll 111 = .ok (.getfield 148, 3) := by decide +kernel
theorem dX12_readAll_114 : decode cX12_readAll 114 = .ok (.ifCond .eq 10, 3) := by decide +kernel
theorem dX12_readAll_117 : decode cX12_readAll 117 = .ok (.aload_n 0, 1) := by decide +kernel
theorem dX12_readAll_118 : decode cX12_readAll 118 = .ok (.invokevirtual 342, 3) := by decide +kernel
theorem dX12_readAll_121 : decode cX12_readAll 121 = .ok (.goto (-18), 3) := by decide +kernel
theorem dX12_readAll_124 : decode cX12_readAll 124 = .ok (.return_, 1) := by decide +kernel
theorem dX12_village_0 : decode cX12_village 0 = .ok (.aload_n 0, 1) := by decide +kernel
theorem dX12_village_1 : decode cX12_village 1 = .ok (.invokevirtual 345, 3) := by decide +kernel
theorem dX12_village_4 : decode cX12_village 4 = .ok (.aload_n 0, 1) := by decide +kernel
theorem dX12_village_5 : decode cX12_village 5 = .ok (.getfield 161, 3) := by decide +kernel
theorem dX12_village_8 : decode cX12_village 8 = .ok (.ifCond .le 5, 3) := by decide +kernel
theorem dX12_village_11 : decode cX12_village 11 = .ok (.iconst (-1), 1) := by decide +kernel
theorem dX12_village_12 : decode cX12_village 12 = .ok (.ireturn, 1) := by decide +kernel
theorem dX12_village_13 : decode cX12_village 13 = .ok (.aload_n 0, 1) := by decide +kernel
theorem dX12_village_14 : decode cX12_village 14 = .ok (.aload_n 0, 1) := by decide +kernel
theorem dX12_village_15 : decode cX12_village 15 = .ok (.getfield 296, 3) := by decide +kernel
theorem dX12_village_18 : decode cX12_village 18 = .ok (.putfield 348, 3) := by decide +kernel
theorem dX12_village_21 : decode cX12_village 21 = .ok (.aload_n 0, 1) := by decide +kernel
theorem dX12_village_22 : decode cX12_village 22 = .ok (.aload_n 0, 1) := by decide +kernel
theorem dX12_village_23 : decode cX12_village 23 = .ok (.getfield 306, 3) := by decide +kernel
theorem dX12_village_26 : decode cX12_village 26 = .ok (.putfield 351, 3) := by decide +kernel
theorem dX12_village_29 : decode cX12_village 29 = .ok (.aload_n 0, 1) := by decide +kernel
theorem dX12_village_30 : decode cX12_village 30 = .ok (.aload_n 0, 1) := by decide +kernel
theorem dX12_village_31 : decode cX12_village 31 = .ok (.getfield 315, 3) := by decide +kernel
theorem dX12_village_34 : decode cX12_village 34 = .ok (.putfield 354, 3) := by decide +kernel
theorem dX12_village_37 : decode cX12_village 37 = .ok (.aload_n 0, 1) := by decide +kernel
theorem dX12_village_38 : decode cX12_village 38 = .ok (.aload_n 0, 1) := by decide +kernel
theorem dX12_village_39 : decode cX12_village 39 = .ok (.getfield 312, 3) := by decide +kernel
theorem dX12_village_42 : decode cX12_village 42 = .ok (.putfield 357, 3) := by decide +kernel
theorem dX12_village_45 : decode cX12_village 45 = .ok (.aload_n 0, 1) := by decide +kernel
theorem dX12_village_46 : decode cX12_village 46 = .ok (.aload_n 0, 1) := by decide +kernel
theorem dX12_village_47 : decode cX12_village 47 = .ok (.getfield 333, 3) := by decide +kernel
theorem dX12_village_50 : decode cX12_village 50 = .ok (.putfield 360, 3) := by decide +kernel
theorem dX12_village_53 : decode cX12_village 53 = .ok (.aload_n 0, 1) := by decide +kernel
theorem dX12_village_54 : decode cX12_village 54 = .ok (.aload_n 0, 1) := by decide +kernel
theorem dX12_village_55 : decode cX12_village 55 = .ok (.getfield 238, 3) := by decide +kernel
theorem dX12_village_58 : decode cX12_village 58 = .ok (.putfield 363, 3) := by decide +kernel
theorem dX12_village_61 : decode cX12_village 61 = .ok (.aload_n 0, 1) := by decide +kernel
theorem dX12_village_62 : decode cX12_village 62 = .ok (.aload_n 0, 1) := by decide +kernel
theorem dX12_village_63 : decode cX12_village 63 = .ok (.getfield 260, 3) := by decide +kernel
theorem dX12_village_66 : decode cX12_village 66 = .ok (.putfield 286, 3) := by decide +kernel
theorem dX12_village_69 : decode cX12_village 69 = .ok (.aload_n 0, 1) := by decide +kernel
theorem dX12_village_70 : decode cX12_village 70 = .ok (.aload_n 0, 1) := by decide +kernel
theorem dX12_village_71 : decode cX12_village 71 = .ok (.getfield 260, 3) := by decide +kernel
theorem dX12_village_74 : decode cX12_village 74 = .ok (.ifCond .eq 10, 3) := by decide +kernel
theorem dX12_village_77 : decode cX12_village 77 = .ok (.aload_n 0, 1) := by decide +kernel
theorem dX12_village_78 : decode cX12_village 78 = .ok (.getfield 222, 3) := by decide +kernel
theorem dX12_village_81 : decode cX12_village 81 = .ok (.goto 4, 3) := by decide +kernel
theorem dX12_village_84 : decode cX12_village 84 = .ok (.iconst 0, 1) := by decide +kernel
theorem dX12_village_85 : decode cX12_village 85 = .ok (.putfield 289, 3) := by decide +kernel
theorem dX12_village_88 : decode cX12_village 88 = .ok (.iconst 0, 1) := by decide +kernel
theorem dX12_village_89 : decode cX12_village 89 = .ok (.istore_n 1, 1) := by decide +kernel
theorem dX12_village_90 : decode cX12_village 90 = .ok (.iload_n 1, 1) := by decide +kernel
theorem dX12_village_91 : decode cX12_village 91 = .ok (.aload_n 0, 1) := by decide +kernel
theorem dX12_village_92 : decode cX12_village 92 = .ok (.getfield 289, 3) := by decide +kernel
theorem dX12_village_95 : decode cX12_village 95 = .ok (.if_icmp .ge 33, 3) := by decide +kernel
theorem dX12_village_98 : decode cX12_village 98 = .ok (.aload_n 0, 1) := by decide +kernel
theorem dX12_village_99 : decode cX12_village 99 = .ok (.getfield 27, 3) := by decide +kernel
theorem dX12_village_102 : decode cX12_village 102 = .ok (.iload_n 1, 1) := by decide +kernel
theorem dX12_village_103 : decode cX12_village 103 = .ok (.aload_n 0, 1) := by decide +kernel
theorem dX12_village_104 : decode cX12_village 104 = .ok (.getfield 21, 3) := by decide +kernel
theorem dX12_village_107 : decode cX12_village 107 = .ok (.iload_n 1, 1) := by decide +kernel
theorem dX12_village_108 : decode cX12_village 108 = .ok (.iaload, 1) := by decide +kernel
theorem dX12_village_109 : decode cX12_village 109 = .ok (.iastore, 1) := by decide +kernel
theorem dX12_village_110 : decode cX12_village 110 = .ok (.aload_n 0, 1) := by decide +kernel
theorem dX12_village_111 : decode cX12_village 111 = .ok (.getfield 30, 3) := by decide +kernel
theorem dX12_village_114 : decode cX12_village 114 = .ok (.iload_n 1, 1) := by decide +kernel
theorem dX12_village_115 : decode cX12_village 115 = .ok (.aload_n 0, 1) := by decide +kernel
theorem dX12_village_116 : decode cX12_village 116 = .ok (.getfield 24, 3) := by decide +kernel
theorem dX12_village_119 : decode cX12_village 119 = .ok (.iload_n 1, 1) := by decide +kernel
theorem dX12_village_120 : decode cX12_village 120 = .ok (.iaload, 1) := by decide +kernel
theorem dX12_village_121 : decode cX12_village 121 = .ok (.iastore, 1) := by decide +kernel
theorem dX12_village_122 : decode cX12_village 122 = .ok (.iinc 1 1, 3) := by decide +kernel
theorem dX12_village_125 : decode cX12_village 125 = .ok (.goto (-35), 3) := by decide +kernel
theorem dX12_village_128 : decode cX12_village 128 = .ok (.iconst 0, 1) := by decide +kernel
theorem dX12_village_129 : decode cX12_village 129 = .ok (.istore_n 1, 1) := by decide +kernel
theorem dX12_village_130 : decode cX12_village 130 = .ok (.iload_n 1, 1) := by decide +kernel
theorem dX12_village_131 : decode cX12_village 131 = .ok (.aload_n 0, 1) := by decide +kernel
theorem dX12_village_132 : decode cX12_village 132 = .ok (.getfield 348, 3) := by decide +kernel
theorem dX12_village_135 : decode cX12_village 135 = .ok (.if_icmp .ge 21, 3) := by decide +kernel
theorem dX12_village_138 : decode cX12_village 138 = .ok (.aload_n 0, 1) := by decide +kernel
theorem dX12_village_139 : decode cX12_village 139 = .ok (.getfield 51, 3) := by decide +kernel
theorem dX12_village_142 : decode cX12_village 142 = .ok (.iload_n 1, 1) := by decide +kernel
theorem dX12_village_143 : decode cX12_village 143 = .ok (.aload_n 0, 1) := by decide +kernel
theorem dX12_village_144 : decode cX12_village 144 = .ok (.getfield 42, 3) := by decide +kernel
theorem dX12_village_147 : decode cX12_village 147 = .ok (.iload_n 1, 1) := by decide +kernel
theorem dX12_village_148 : decode cX12_village 148 = .ok (.iaload, 1) := by decide +kernel
theorem dX12_village_149 : decode cX12_village 149 = .ok (.iastore, 1) := by decide +kernel
theorem dX12_village_150 : decode cX12_village 150 = .ok (.iinc 1 1, 3) := by decide +kernel
theorem dX12_village_153 : decode cX12_village 153 = .ok (.goto (-23), 3) := by decide +kernel
theorem dX12_village_156 : decode cX12_village 156 = .ok (.iconst 0, 1) := by decide +kernel
theorem dX12_village_157 : decode cX12_village 157 = .ok (.istore_n 1, 1) := by decide +kernel
theorem dX12_village_158 : decode cX12_village 158 = .ok (.iload_n 1, 1) := by decide +kernel
theorem dX12_village_159 : decode cX12_village 159 = .ok (.aload_n 0, 1) := by decide +kernel
theorem dX12_village_160 : decode cX12_village 160 = .ok (.getfield 351, 3) := by decide +kernel
theorem dX12_village_163 : decode cX12_village 163 = .ok (.if_icmp .ge 21, 3) := by decide +kernel
theorem dX12_village_166 : decode cX12_village 166 = .ok (.aload_n 0, 1) := by decide +kernel
theorem dX12_village_167 : decode cX12_village 167 = .ok (.getfield 54, 3) := by decide +kernel
theorem dX12_village_170 : decode cX12_village 170 = .ok (.iload_n 1, 1) := by decide +kernel
theorem dX12_village_171 : decode cX12_village 171 = .ok (.aload_n 0, 1) := by decide +kernel
theorem dX12_village_172 : decode cX12_village 172 = .ok (.getfield 45, 3) := by decide +kernel
theorem dX12_village_175 : decode cX12_village 175 = .ok (.iload_n 1, 1) := by decide +kernel
theorem dX12_village_176 : decode cX12_village 176 = .ok (.iaload, 1) := by decide +kernel
theorem dX12_village_177 : decode cX12_village 177 = .ok (.iastore, 1) := by decide +kernel
theorem dX12_village_178 : decode cX12_village 178 = .ok (.iinc 1 1, 3) := by decide +kernel
theorem dX12_village_181 : decode cX12_village 181 = .ok (.goto (-23), 3) := by decide +kernel
theorem dX12_village_184 : decode cX12_village 184 = .ok (.iconst 0, 1) := by decide +kernel
theorem dX12_village_185 : decode cX12_village 185 = .ok (.istore_n 1, 1) := by decide +kernel
theorem dX12_village_186 : decode cX12_village 186 = .ok (.iload_n 1, 1) := by decide +kernel
theorem dX12_village_187 : decode cX12_village 187 = .ok (.bipush 30, 2) := by decide +kernel
theorem dX12_village_189 : decode cX12_village 189 = .ok (.if_icmp .ge 21, 3) := by decide +kernel
theorem dX12_village_192 : decode cX12_village 192 = .ok (.aload_n 0, 1) := by decide +kernel
theorem dX12_village_193 : decode cX12_village 193 = .ok (.getfield 57, 3) := by decide +kernel
theorem dX12_village_196 : decode cX12_village 196 = .ok (.iload_n 1, 1) := by decide +kernel
theorem dX12_village_197 : decode cX12_village 197 = .ok (.aload_n 0, 1) := by decide +kernel
theorem dX12_village_198 : decode cX12_village 198 = .ok (.getfield 48, 3) := by decide +kernel
theorem dX12_village_201 : decode cX12_village 201 = .ok (.iload_n 1, 1) := by decide +kernel
theorem dX12_village_202 : decode cX12_village 202 = .ok (.iaload, 1) := by decide +kernel
theorem dX12_village_203 : decode cX12_village 203 = .ok (.iastore, 1) := by decide +kernel
theorem dX12_village_204 : decode cX12_village 204 = .ok (.iinc 1 1, 3) := by decide +kernel
theorem dX12_village_207 : decode cX12_village 207 = .ok (.goto (-21), 3) := by decide +kernel
theorem dX12_village_210 : decode cX12_village 210 = .ok (.aload_n 0, 1) := by decide +kernel
theorem dX12_village_211 : decode cX12_village 211 = .ok (.invokevirtual 366, 3) := by decide +kernel
theorem dX12_village_214 : decode cX12_village 214 = .ok (.aload_n 0, 1) := by decide +kernel
theorem dX12_village_215 : decode cX12_village 215 = .ok (.getfield 63, 3) := by decide +kernel
theorem dX12_village_218 : decode cX12_village 218 = .ok (.bipush 44, 2) := by decide +kernel
theorem dX12_village_220 : decode cX12_village 220 = .ok (.aload_n 0, 1) := by decide +kernel
theorem dX12_village_221 : decode cX12_village 221 = .ok (.getfield 339, 3) := by decide +kernel
theorem dX12_village_224 : decode cX12_village 224 = .ok (.iastore, 1) := by decide +kernel
theorem dX12_village_225 : decode cX12_village 225 = .ok (.aload_n 0, 1) := by decide +kernel
theorem dX12_village_226 : decode cX12_village 226 = .ok (.invokevirtual 369, 3) := by decide +kernel
theorem dX12_village_229 : decode cX12_village 229 = .ok (.aload_n 0, 1) := by decide +kernel
theorem dX12_village_230 : decode cX12_village 230 = .ok (.iconst 0, 1) := by decide +kernel
theorem dX12_village_231 : decode cX12_village 231 = .ok (.putfield 372, 3) := by decide +kernel
theorem dX12_village_234 : decode cX12_village 234 = .ok (.aload_n 0, 1) := by decide +kernel
theorem dX12_village_235 : decode cX12_village 235 = .ok (.iconst 0, 1) := by decide +kernel
theorem dX12_village_236 : decode cX12_village 236 = .ok (.putfield 375, 3) := by decide +kernel
theorem dX12_village_239 : decode cX12_village 239 = .ok (.aload_n 0, 1) := by decide +kernel
theorem dX12_village_240 : decode cX12_village 240 = .ok (.iconst 0, 1) := by decide +kernel
theorem dX12_village_241 : decode cX12_village 241 = .ok (.putfield 378, 3) := by decide +kernel
theorem dX12_village_244 : decode cX12_village 244 = .ok (.aload_n 0, 1) := by decide +kernel
theorem dX12_village_245 : decode cX12_village 245 = .ok (.iconst 0, 1) := by decide +kernel
theorem dX12_village_246 : decode cX12_village 246 = .ok (.putfield 381, 3) := by decide +kernel
theorem dX12_village_249 : decode cX12_village 249 = .ok (.iconst 0, 1) := by decide +kernel
theorem dX12_village_250 : decode cX12_village 250 = .ok (.istore_n 1, 1) := by decide +kernel
theorem dX12_village_251 : decode cX12_village 251 = .ok (.iload_n 1, 1) := by decide +kernel
theorem dX12_village_252 : decode cX12_village 252 = .ok (.iconst 3, 1) := by decide +kernel
theorem dX12_village_253 : decode cX12_village 253 = .ok (.if_icmp .ge 16, 3) := by decide +kernel
theorem dX12_village_256 : decode cX12_village 256 = .ok (.aload_n 0, 1) := by decide +kernel
theorem dX12_village_257 : decode cX12_village 257 = .ok (.getfield 115, 3) := by decide +kernel
theorem dX12_village_260 : decode cX12_village 260 = .ok (.iload_n 1, 1) := by decide +kernel
theorem dX12_village_261 : decode cX12_village 261 = .ok (.iconst 0, 1) := by decide +kernel
theorem dX12_village_262 : decode cX12_village 262 = .ok (.bastore, 1) := by decide +kernel
theorem dX12_village_263 : decode cX12_village 263 = .ok (.iinc 1 1, 3) := by decide +kernel
theorem dX12_village_266 : decode cX12_village 266 = .ok (.goto (-15), 3) := by decide +kernel
theorem dX12_village_269 : decode cX12_village 269 = .ok (.aload_n 0, 1) := by decide +kernel
theorem dX12_village_270 : decode cX12_village 270 = .ok (.getfield 348, 3) := by decide +kernel
theorem dX12_village_273 : decode cX12_village 273 = .ok (.ireturn, 1) := by decide +kernel
theorem dX12_fault_0 : decode cX12_fault 0 = .ok (.iload_n 1, 1) := by decide +kernel
theorem dX12_fault_1 : decode cX12_fault 1 = .ok (.ifCond .ne 10, 3) := by decide +kernel
theorem dX12_fault_4 : decode cX12_fault 4 = .ok (.aload_n 0, 1) := by decide +kernel
theorem dX12_fault_5 : decode cX12_fault 5 = .ok (.getfield 161, 3) := by decide +kernel
theorem dX12_fault_8 : decode cX12_fault 8 = .ok (.goto 16, 3) := by decide +kernel
theorem dX12_fault_11 : decode cX12_fault 11 = .ok (.iload_n 1, 1) := by decide +kernel
theorem dX12_fault_12 : decode cX12_fault 12 = .ok (.iconst 1, 1) := by decide +kernel
theorem dX12_fault_13 : decode cX12_fault 13 = .ok (.if_icmp .ne 10, 3) := by decide +kernel
theorem dX12_fault_16 : decode cX12_fault 16 = .ok (.aload_n 0, 1) := by decide +kernel
theorem dX12_fault_17 : decode cX12_fault 17 = .ok (.getfield 13, 3) := by decide +kernel
theorem dX12_fault_20 : decode cX12_fault 20 = .ok (.goto 4, 3) := by decide +kernel
theorem dX12_fault_23 : decode cX12_fault 23 = .ok (.iconst (-1), 1) := by decide +kernel
theorem dX12_fault_24 : decode cX12_fault 24 = .ok (.ireturn, 1) := by decide +kernel
theorem dX12_isIn_0 : decode cX12_isIn 0 = .ok (.iload_n 0, 1) := by decide +kernel
theorem dX12_isIn_1 : decode cX12_isIn 1 = .ok (.iload_n 1, 1) := by decide +kernel
theorem dX12_isIn_2 : decode cX12_isIn 2 = .ok (.if_icmp .lt 12, 3) := by decide +kernel
theorem dX12_isIn_5 : decode cX12_isIn 5 = .ok (.iload_n 0, 1) := by decide +kernel
theorem dX12_isIn_6 : decode cX12_isIn 6 = .ok (.iload_n 2, 1) := by decide +kernel
theorem dX12_isIn_7 : decode cX12_isIn 7 = .ok (.if_icmp .gt 7, 3) := by decide +kernel
theorem dX12_isIn_10 : decode cX12_isIn 10 = .ok (.iconst 1, 1) := by decide +kernel
theorem dX12_isIn_11 : decode cX12_isIn 11 = .ok (.goto 4, 3) := by decide +kernel
theorem dX12_isIn_14 : decode cX12_isIn 14 = .ok (.iconst 0, 1) := by decide +kernel
theorem dX12_isIn_15 : decode cX12_isIn 15 = .ok (.ireturn, 1) := by decide +kernel
theorem dX12_isPerson_0 : decode cX12_isPerson 0 = .ok (.iload_n 1, 1) := by decide +kernel
theorem dX12_isPerson_1 : decode cX12_isPerson 1 = .ok (.iconst 0, 1) := by decide +kernel
theorem dX12_isPerson_2 : decode cX12_isPerson 2 = .ok (.aload_n 0, 1) := by decide +kernel
theorem dX12_isPerson_3 : decode cX12_isPerson 3 = .ok (.getfield 348, 3) := by decide +kernel
theorem dX12_isPerson_6 : decode cX12_isPerson 6 = .ok (.iconst 1, 1) := by decide +kernel
theorem dX12_isPerson_7 : decode cX12_isPerson 7 = .ok (.isub, 1) := by decide +kernel
theorem dX12_isPerson_8 : decode cX12_isPerson 8 = .ok (.invokestatic 384, 3) := by decide +kernel
theorem dX12_isPerson_11 : decode cX12_isPerson 11 = .ok (.ireturn, 1) := by decide +kernel
theorem dX12_isBell_0 : decode cX12_isBell 0 = .ok (.iload_n 1, 1) := by decide +kernel
theorem dX12_isBell_1 : decode cX12_isBell 1 = .ok (.iconst 0, 1) := by decide +kernel
theorem dX12_isBell_2 : decode cX12_isBell 2 = .ok (.aload_n 0, 1) := by decide +kernel
theorem dX12_isBell_3 : decode cX12_isBell 3 = .ok (.getfield 351, 3) := by decide +kernel
theorem dX12_isBell_6 : decode cX12_isBell 6 = .ok (.iconst 1, 1) := by decide +kernel
theorem dX12_isBell_7 : decode cX12_isBell 7 = .ok (.isub, 1) := by decide +kernel
theorem dX12_isBell_8 : decode cX12_isBell 8 = .ok (.invokestatic 384, 3) := by decide +kernel
theorem dX12_isBell_11 : decode cX12_isBell 11 = .ok (.ireturn, 1) := by decide +kernel
theorem dX12_fill_0 : decode cX12_fill 0 = .ok (.iconst 0, 1) := by decide +kernel
theorem dX12_fill_1 : decode cX12_fill 1 = .ok (.istore_n 1, 1) := by decide +kernel
theorem dX12_fill_2 : decode cX12_fill 2 = .ok (.iload_n 1, 1) := by decide +kernel
theorem dX12_fill_3 : decode cX12_fill 3 = .ok (.bipush 45, 2) := by decide +kernel
theorem dX12_fill_5 : decode cX12_fill 5 = .ok (.if_icmp .ge 21, 3) := by decide +kernel
theorem dX12_fill_8 : decode cX12_fill 8 = .ok (.aload_n 0, 1) := by decide +kernel
theorem dX12_fill_9 : decode cX12_fill 9 = .ok (.getfield 63, 3) := by decide +kernel
theorem dX12_fill_12 : decode cX12_fill 12 = .ok (.iload_n 1, 1) := by decide +kernel
theorem dX12_fill_13 : decode cX12_fill 13 = .ok (.aload_n 0, 1) := by decide +kernel
theorem dX12_fill_14 : decode cX12_fill 14 = .ok (.getfield 60, 3) := by decide +kernel
theorem dX12_fill_17 : decode cX12_fill 17 = .ok (.iload_n 1, 1) := by decide +kernel
theorem dX12_fill_18 : decode cX12_fill 18 = .ok (.iaload, 1) := by decide +kernel
theorem dX12_fill_19 : decode cX12_fill 19 = .ok (.iastore, 1) := by decide +kernel
theorem dX12_fill_20 : decode cX12_fill 20 = .ok (.iinc 1 1, 3) := by decide +kernel
theorem dX12_fill_23 : decode cX12_fill 23 = .ok (.goto (-21), 3) := by decide +kernel
theorem dX12_fill_26 : decode cX12_fill 26 = .ok (.return_, 1) := by decide +kernel
theorem dX12_keepAir_0 : decode cX12_keepAir 0 = .ok (.iconst 0, 1) := by decide +kernel
theorem dX12_keepAir_1 : decode cX12_keepAir 1 = .ok (.istore_n 1, 1) := by decide +kernel
theorem dX12_keepAir_2 : decode cX12_keepAir 2 = .ok (.iload_n 1, 1) := by decide +kernel
theorem dX12_keepAir_3 : decode cX12_keepAir 3 = .ok (.bipush 45, 2) := by decide +kernel
theorem dX12_keepAir_5 : decode cX12_keepAir 5 = .ok (.if_icmp .ge 21, 3) := by decide +kernel
theorem dX12_keepAir_8 : decode cX12_keepAir 8 = .ok (.aload_n 0, 1) := by decide +kernel
theorem dX12_keepAir_9 : decode cX12_keepAir 9 = .ok (.getfield 60, 3) := by decide +kernel
theorem dX12_keepAir_12 : decode cX12_keepAir 12 = .ok (.iload_n 1, 1) := by decide +kernel
theorem dX12_keepAir_13 : decode cX12_keepAir 13 = .ok (.aload_n 0, 1) := by decide +kernel
theorem dX12_keepAir_14 : decode cX12_keepAir 14 = .ok (.getfield 63, 3) := by decide +kernel
theorem dX12_keepAir_17 : decode cX12_keepAir 17 = .ok (.iload_n 1, 1) := by decide +kernel
theorem dX12_keepAir_18 : decode cX12_keepAir 18 = .ok (.iaload, 1) := by decide +kernel
theorem dX12_keepAir_19 : decode cX12_keepAir 19 = .ok (.iastore, 1) := by decide +kernel
theorem dX12_keepAir_20 : decode cX12_keepAir 20 = .ok (.iinc 1 1, 3) := by decide +kernel
theorem dX12_keepAir_23 : decode cX12_keepAir 23 = .ok (.goto (-21), 3) := by decide +kernel
theorem dX12_keepAir_26 : decode cX12_keepAir 26 = .ok (.return_, 1) := by decide +kernel
theorem dX12_begin_0 : decode cX12_begin 0 = .ok (.iconst 0, 1) := by decide +kernel
theorem dX12_begin_1 : decode cX12_begin 1 = .ok (.istore_n 1, 1) := by decide +kernel
theorem dX12_begin_2 : decode cX12_begin 2 = .ok (.iload_n 1, 1) := by decide +kernel
theorem dX12_begin_3 : decode cX12_begin 3 = .ok (.bipush 45, 2) := by decide +kernel
theorem dX12_begin_5 : decode cX12_begin 5 = .ok (.if_icmp .ge 16, 3) := by decide +kernel
theorem dX12_begin_8 : decode cX12_begin 8 = .ok (.aload_n 0, 1) := by decide +kernel
theorem dX12_begin_9 : decode cX12_begin 9 = .ok (.getfield 63, 3) := by decide +kernel
theorem dX12_begin_12 : decode cX12_begin 12 = .ok (.iload_n 1, 1) := by decide +kernel
theorem dX12_begin_13 : decode cX12_begin 13 = .ok (.iconst 0, 1) := by decide +kernel
theorem dX12_begin_14 : decode cX12_begin 14 = .ok (.iastore, 1) := by decide +kernel
theorem dX12_begin_15 : decode cX12_begin 15 = .ok (.iinc 1 1, 3) := by decide +kernel
theorem dX12_begin_18 : decode cX12_begin 18 = .ok (.goto (-16), 3) := by decide +kernel
theorem dX12_begin_21 : decode cX12_begin 21 = .ok (.iconst 0, 1) := by decide +kernel
theorem dX12_begin_22 : decode cX12_begin 22 = .ok (.istore_n 1, 1) := by decide +kernel
theorem dX12_begin_23 : decode cX12_begin 23 = .ok (.iload_n 1, 1) := by decide +kernel
theorem dX12_begin_24 : decode cX12_begin 24 = .ok (.aload_n 0, 1) := by decide +kernel
theorem dX12_begin_25 : decode cX12_begin 25 = .ok (.getfield 348, 3) := by decide +kernel
theorem dX12_begin_28 : decode cX12_begin 28 = .ok (.if_icmp .ge 21, 3) := by decide +kernel
theorem dX12_begin_31 : decode cX12_begin 31 = .ok (.aload_n 0, 1) := by decide +kernel
theorem dX12_begin_32 : decode cX12_begin 32 = .ok (.getfield 63, 3) := by decide +kernel
theorem dX12_begin_35 : decode cX12_begin 35 = .ok (.iload_n 1, 1) := by decide +kernel
theorem dX12_begin_36 : decode cX12_begin 36 = .ok (.aload_n 0, 1) := by decide +kernel
theorem dX12_begin_37 : decode cX12_begin 37 = .ok (.getfield 51, 3) := by decide +kernel
theorem dX12_begin_40 : decode cX12_begin 40 = .ok (.iload_n 1, 1) := by decide +kernel
theorem dX12_begin_41 : decode cX12_begin 41 = .ok (.iaload, 1) := by decide +kernel
theorem dX12_begin_42 : decode cX12_begin 42 = .ok (.iastore, 1) := by decide +kernel
theorem dX12_begin_43 : decode cX12_begin 43 = .ok (.iinc 1 1, 3) := by decide +kernel
theorem dX12_begin_46 : decode cX12_begin 46 = .ok (.goto (-23), 3) := by decide +kernel
theorem dX12_begin_49 : decode cX12_begin 49 = .ok (.aload_n 0, 1) := by decide +kernel
theorem dX12_begin_50 : decode cX12_begin 50 = .ok (.getfield 63, 3) := by decide +kernel
theorem dX12_begin_53 : decode cX12_begin 53 = .ok (.bipush 12, 2) := by decide +kernel
theorem dX12_begin_55 : decode cX12_begin 55 = .ok (.iconst 1, 1) := by decide +kernel
theorem dX12_begin_56 : decode cX12_begin 56 = .ok (.aload_n 0, 1) := by decide +kernel
theorem dX12_begin_57 : decode cX12_begin 57 = .ok (.getfield 348, 3) := by decide +kernel
theorem dX12_begin_60 : decode cX12_begin 60 = .ok (.ishl, 1) := by decide +kernel
theorem dX12_begin_61 : decode cX12_begin 61 = .ok (.iconst 1, 1) := by decide +kernel
theorem dX12_begin_62 : decode cX12_begin 62 = .ok (.isub, 1) := by decide +kernel
theorem dX12_begin_63 : decode cX12_begin 63 = .ok (.iastore, 1) := by decide +kernel
theorem dX12_begin_64 : decode cX12_begin 64 = .ok (.iconst 0, 1) := by decide +kernel
theorem dX12_begin_65 : decode cX12_begin 65 = .ok (.istore_n 1, 1) := by decide +kernel
theorem dX12_begin_66 : decode cX12_begin 66 = .ok (.iload_n 1, 1) := by decide +kernel
theorem dX12_begin_67 : decode cX12_begin 67 = .ok (.bipush 30, 2) := by decide +kernel
theorem dX12_begin_69 : decode cX12_begin 69 = .ok (.if_icmp .ge 24, 3) := by decide +kernel
theorem dX12_begin_72 : decode cX12_begin 72 = .ok (.aload_n 0, 1) := by decide +kernel
theorem dX12_begin_73 : decode cX12_begin 73 = .ok (.getfield 63, 3) := by decide +kernel
theorem dX12_begin_76 : decode cX12_begin 76 = .ok (.bipush 13, 2) := by decide +kernel
theorem dX12_begin_78 : decode cX12_begin 78 = .ok (.iload_n 1, 1) := by decide +kernel
theorem dX12_begin_79 : decode cX12_begin 79 = .ok (.iadd, 1) := by decide +kernel
theorem dX12_begin_80 : decode cX12_begin 80 = .ok (.aload_n 0, 1) := by decide +kernel
theorem dX12_begin_81 : decode cX12_begin 81 = .ok (.getfield 57, 3) := by decide +kernel
theorem dX12_begin_84 : decode cX12_begin 84 = .ok (.iload_n 1, 1) := by decide +kernel
theorem dX12_begin_85 : decode cX12_begin 85 = .ok (.iaload, 1) := by decide +kernel
theorem dX12_begin_86 : decode cX12_begin 86 = .ok (.iastore, 1) := by decide +kernel
theorem dX12_begin_87 : decode cX12_begin 87 = .ok (.iinc 1 1, 3) := by decide +kernel
theorem dX12_begin_90 : decode cX12_begin 90 = .ok (.goto (-24), 3) := by decide +kernel
theorem dX12_begin_93 : decode cX12_begin 93 = .ok (.return_, 1) := by decide +kernel
theorem dX12_isHere_0 : decode cX12_isHere 0 = .ok (.aload_n 0, 1) := by decide +kernel
theorem dX12_isHere_1 : decode cX12_isHere 1 = .ok (.getfield 63, 3) := by decide +kernel
theorem dX12_isHere_4 : decode cX12_isHere 4 = .ok (.bipush 12, 2) := by decide +kernel
theorem dX12_isHere_6 : decode cX12_isHere 6 = .ok (.iaload, 1) := by decide +kernel
theorem dX12_isHere_7 : decode cX12_isHere 7 = .ok (.iload_n 1, 1) := by decide +kernel
theorem dX12_isHere_8 : decode cX12_isHere 8 = .ok (.ishr, 1) := by decide +kernel
theorem dX12_isHere_9 : decode cX12_isHere 9 = .ok (.iconst 1, 1) := by decide +kernel
theorem dX12_isHere_10 : decode cX12_isHere 10 = .ok (.iand, 1) := by decide +kernel
theorem dX12_isHere_11 : decode cX12_isHere 11 = .ok (.iconst 1, 1) := by decide +kernel
theorem dX12_isHere_12 : decode cX12_isHere 12 = .ok (.if_icmp .ne 7, 3) := by decide +kernel
theorem dX12_isHere_15 : decode cX12_isHere 15 = .ok (.iconst 1, 1) := by decide +kernel
theorem dX12_isHere_16 : decode cX12_isHere 16 = .ok (.goto 4, 3) := by decide +kernel
theorem dX12_isHere_19 : decode cX12_isHere 19 = .ok (.iconst 0, 1) := by decide +kernel
theorem dX12_isHere_20 : decode cX12_isHere 20 = .ok (.ireturn, 1) := by decide +kernel
theorem dX12_mayLose_0 : decode cX12_mayLose 0 = .ok (.aload_n 0, 1) := by decide +kernel
theorem dX12_mayLose_1 : decode cX12_mayLose 1 = .ok (.getfield 63, 3) := by decide +kernel
theorem dX12_mayLose_4 : decode cX12_mayLose 4 = .ok (.bipush 13, 2) := by decide +kernel
theorem dX12_mayLose_6 : decode cX12_mayLose 6 = .ok (.iconst 5, 1) := by decide +kernel
theorem dX12_mayLose_7 : decode cX12_mayLose 7 = .ok (.iload_n 1, 1) := by decide +kernel
theorem dX12_mayLose_8 : decode cX12_mayLose 8 = .ok (.imul, 1) := by decide +kernel
theorem dX12_mayLose_9 : decode cX12_mayLose 9 = .ok (.iadd, 1) := by decide +kernel
theorem dX12_mayLose_10 : decode cX12_mayLose 10 = .ok (.iload_n 2, 1) := by decide +kernel
theorem dX12_mayLose_11 : decode cX12_mayLose 11 = .ok (.iadd, 1) := by decide +kernel
theorem dX12_mayLose_12 : decode cX12_mayLose 12 = .ok (.iaload, 1) := by decide +kernel
theorem dX12_mayLose_13 : decode cX12_mayLose 13 = .ok (.ifCond .le 7, 3) := by decide +kernel
theorem dX12_mayLose_16 : decode cX12_mayLose 16 = .ok (.iconst 1, 1) := by decide +kernel
theorem dX12_mayLose_17 : decode cX12_mayLose 17 = .ok (.goto 4, 3) := by decide +kernel
theorem dX12_mayLose_20 : decode cX12_mayLose 20 = .ok (.iconst 0, 1) := by decide +kernel
theorem dX12_mayLose_21 : decode cX12_mayLose 21 = .ok (.ireturn, 1) := by decide +kernel
theorem dX12_ringerOf_0 : decode cX12_ringerOf 0 = .ok (.iconst (-1), 1) := by decide +kernel
theorem dX12_ringerOf_1 : decode cX12_ringerOf 1 = .ok (.istore_n 2, 1) := by decide +kernel
theorem dX12_ringerOf_2 : decode cX12_ringerOf 2 = .ok (.iconst 0, 1) := by decide +kernel
theorem dX12_ringerOf_3 : decode cX12_ringerOf 3 = .ok (.istore_n 3, 1) := by decide +kernel
theorem dX12_ringerOf_4 : decode cX12_ringerOf 4 = .ok (.iconst 0, 1) := by decide +kernel
theorem dX12_ringerOf_5 : decode cX12_ringerOf 5 = .ok (.istore 4, 2) := by decide +kernel
theorem dX12_ringerOf_7 : decode cX12_ringerOf 7 = .ok (.iload 4, 2) := by decide +kernel
theorem dX12_ringerOf_9 : decode cX12_ringerOf 9 = .ok (.aload_n 0, 1) := by decide +kernel
theorem dX12_ringerOf_10 : decode cX12_ringerOf 10 = .ok (.getfield 348, 3) := by decide +kernel
theorem dX12_ringerOf_13 : decode cX12_ringerOf 13 = .ok (.if_icmp .ge 55, 3) := by decide +kernel
theorem dX12_ringerOf_16 : decode cX12_ringerOf 16 = .ok (.aload_n 0, 1) := by decide +kernel
theorem dX12_ringerOf_17 : decode cX12_ringerOf 17 = .ok (.iload 4, 2) := by decide +kernel
theorem dX12_ringerOf_19 : decode cX12_ringerOf 19 = .ok (.invokevirtual 388, 3) := by decide +kernel
theorem dX12_ringerOf_22 : decode cX12_ringerOf 22 = .ok (.ifCond .eq 40, 3) := by decide +kernel
theorem dX12_ringerOf_25 : decode cX12_ringerOf 25 = .ok (.aload_n 0, 1) := by decide +kernel
theorem dX12_ringerOf_26 : decode cX12_ringerOf 26 = .ok (.iload 4, 2) := by decide +kernel
theorem dX12_ringerOf_28 : decode cX12_ringerOf 28 = .ok (.iload_n 1, 1) := by decide +kernel
theorem dX12_ringerOf_29 : decode cX12_ringerOf 29 = .ok (.invokevirtual 391, 3) := by decide +kernel
theorem dX12_ringerOf_32 : decode cX12_ringerOf 32 = .ok (.ifCond .ne 6, 3) := by decide +kernel
theorem dX12_ringerOf_35 : decode cX12_ringerOf 35 = .ok (.goto 27, 3) := by decide +kernel
theorem dX12_ringerOf_38 : decode cX12_ringerOf 38 = .ok (.aload_n 0, 1) := by decide +kernel
theorem dX12_ringerOf_39 : decode cX12_ringerOf 39 = .ok (.iload 4, 2) := by decide +kernel
theorem dX12_ringerOf_41 : decode cX12_ringerOf 41 = .ok (.iload_n 1, 1) := by decide +kernel
theorem dX12_ringerOf_42 : decode cX12_ringerOf 42 = .ok (.invokevirtual 395, 3) := by decide +kernel
theorem dX12_ringerOf_45 : decode cX12_ringerOf 45 = .ok (.istore 5, 2) := by decide +kernel
theorem dX12_ringerOf_47 : decode cX12_ringerOf 47 = .ok (.iload 5, 2) := by decide +kernel
theorem dX12_ringerOf_49 : decode cX12_ringerOf 49 = .ok (.iload_n 3, 1) := by decide +kernel
theorem dX12_ringerOf_50 : decode cX12_ringerOf 50 = .ok (.if_icmp .gt 6, 3) := by decide +kernel
theorem dX12_ringerOf_53 : decode cX12_ringerOf 53 = .ok (.goto 9, 3) := by decide +kernel
theorem dX12_ringerOf_56 : decode cX12_ringerOf 56 = .ok (.iload 4, 2) := by decide +kernel
theorem dX12_ringerOf_58 : decode cX12_ringerOf 58 = .ok (.istore_n 2, 1) := by decide +kernel
theorem dX12_ringerOf_59 : decode cX12_ringerOf 59 = .ok (.iload 5, 2) := by decide +kernel
theorem dX12_ringerOf_61 : decode cX12_ringerOf 61 = .ok (.istore_n 3, 1) := by decide +kernel
theorem dX12_ringerOf_62 : decode cX12_ringerOf 62 = .ok (.iinc 4 1, 3) := by decide +kernel
theorem dX12_ringerOf_65 : decode cX12_ringerOf 65 = .ok (.goto (-58), 3) := by decide +kernel
theorem dX12_ringerOf_68 : decode cX12_ringerOf 68 = .ok (.iload_n 2, 1) := by decide +kernel
theorem dX12_ringerOf_69 : decode cX12_ringerOf 69 = .ok (.ireturn, 1) := by decide +kernel
theorem dX12_ring_0 : decode cX12_ring 0 = .ok (.aload_n 0, 1) := by decide +kernel
theorem dX12_ring_1 : decode cX12_ring 1 = .ok (.iload_n 1, 1) := by decide +kernel
theorem dX12_ring_2 : decode cX12_ring 2 = .ok (.invokevirtual 398, 3) := by decide +kernel
theorem dX12_ring_5 : decode cX12_ring 5 = .ok (.istore_n 3, 1) := by decide +kernel
theorem dX12_ring_6 : decode cX12_ring 6 = .ok (.aload_n 0, 1) := by decide +kernel
theorem dX12_ring_7 : decode cX12_ring 7 = .ok (.getfield 66, 3) := by decide +kernel
theorem dX12_ring_10 : decode cX12_ring 10 = .ok (.iload_n 1, 1) := by decide +kernel
theorem dX12_ring_11 : decode cX12_ring 11 = .ok (.iload_n 3, 1) := by decide +kernel
theorem dX12_ring_12 : decode cX12_ring 12 = .ok (.iastore, 1) := by decide +kernel
theorem dX12_ring_13 : decode cX12_ring 13 = .ok (.iload_n 3, 1) := by decide +kernel
theorem dX12_ring_14 : decode cX12_ring 14 = .ok (.ifCond .ge 5, 3) := by decide +kernel
theorem dX12_ring_17 : decode cX12_ring 17 = .ok (.iconst 0, 1) := by decide +kernel
theorem dX12_ring_18 : decode cX12_ring 18 = .ok (.ireturn, 1) := by decide +kernel
theorem dX12_ring_19 : decode cX12_ring 19 = .ok (.aload_n 0, 1) := by decide +kernel
theorem dX12_ring_20 : decode cX12_ring 20 = .ok (.getfield 63, 3) := by decide +kernel
theorem dX12_ring_23 : decode cX12_ring 23 = .ok (.iload_n 3, 1) := by decide +kernel
theorem dX12_ring_24 : decode cX12_ring 24 = .ok (.iaload, 1) := by decide +kernel
theorem dX12_ring_25 : decode cX12_ring 25 = .ok (.aload_n 0, 1) := by decide +kernel
theorem dX12_ring_26 : decode cX12_ring 26 = .ok (.getfield 63, 3) := by decide +kernel
theorem dX12_ring_29 : decode cX12_ring 29 = .ok (.bipush 13, 2) := by decide +kernel
theorem dX12_ring_31 : decode cX12_ring 31 = .ok (.iconst 5, 1) := by decide +kernel
theorem dX12_ring_32 : decode cX12_ring 32 = .ok (.iload_n 3, 1) := by decide +kernel
theorem dX12_ring_33 : decode cX12_ring 33 = .ok (.imul, 1) := by decide +kernel
theorem dX12_ring_34 : decode cX12_ring 34 = .ok (.iadd, 1) := by decide +kernel
theorem dX12_ring_35 : decode cX12_ring 35 = .ok (.iload_n 1, 1) := by decide +kernel
theorem dX12_ring_36 : decode cX12_ring 36 = .ok (.iadd, 1) := by decide +kernel
theorem dX12_ring_37 : decode cX12_ring 37 = .ok (.iaload, 1) := by decide +kernel
theorem dX12_ring_38 : decode cX12_ring 38 = .ok (.invokestatic 401, 3) := by decide +kernel
theorem dX12_ring_41 : decode cX12_ring 41 = .ok (.istore 4, 2) := by decide +kernel
theorem dX12_ring_43 : decode cX12_ring 43 = .ok (.aload_n 0, 1) := by decide +kernel
theorem dX12_ring_44 : decode cX12_ring 44 = .ok (.getfield 63, 3) := by decide +kernel
theorem dX12_ring_47 : decode cX12_ring 47 = .ok (.iload_n 3, 1) := by decide +kernel
theorem dX12_ring_48 : decode cX12_ring 48 = .ok (.dup2, 1) := by decide +kernel
theorem dX12_ring_49 : decode cX12_ring 49 = .ok (.iaload, 1) := by decide +kernel
theorem dX12_ring_50 : decode cX12_ring 50 = .ok (.iload 4, 2) := by decide +kernel
theorem dX12_ring_52 : decode cX12_ring 52 = .ok (.isub, 1) := by decide +kernel
theorem dX12_ring_53 : decode cX12_ring 53 = .ok (.iastore, 1) := by decide +kernel
theorem dX12_ring_54 : decode cX12_ring 54 = .ok (.aload_n 0, 1) := by decide +kernel
theorem dX12_ring_55 : decode cX12_ring 55 = .ok (.getfield 63, 3) := by decide +kernel
theorem dX12_ring_58 : decode cX12_ring 58 = .ok (.bipush 6, 2) := by decide +kernel
theorem dX12_ring_60 : decode cX12_ring 60 = .ok (.iload_n 3, 1) := by decide +kernel
theorem dX12_ring_61 : decode cX12_ring 61 = .ok (.iadd, 1) := by decide +kernel
theorem dX12_ring_62 : decode cX12_ring 62 = .ok (.sipush 999, 3) := by decide +kernel
theorem dX12_ring_65 : decode cX12_ring 65 = .ok (.aload_n 0, 1) := by decide +kernel
theorem dX12_ring_66 : decode cX12_ring 66 = .ok (.getfield 63, 3) := by decide +kernel
theorem dX12_ring_69 : decode cX12_ring 69 = .ok (.bipush 6, 2) := by decide +kernel
theorem dX12_ring_71 : decode cX12_ring 71 = .ok (.iload_n 3, 1) := by decide +kernel
theorem dX12_ring_72 : decode cX12_ring 72 = .ok (.iadd, 1) := by decide +kernel
theorem dX12_ring_73 : decode cX12_ring 73 = .ok (.iaload, 1) := by decide +kernel
theorem dX12_ring_74 : decode cX12_ring 74 = .ok (.iconst 1, 1) := by decide +kernel
theorem dX12_ring_75 : decode cX12_ring 75 = .ok (.iadd, 1) := by decide +kernel
theorem dX12_ring_76 : decode cX12_ring 76 = .ok (.invokestatic 401, 3) := by decide +kernel
theorem dX12_ring_79 : decode cX12_ring 79 = .ok (.iastore, 1) := by decide +kernel
theorem dX12_ring_80 : decode cX12_ring 80 = .ok (.iload_n 2, 1) := by decide +kernel
theorem dX12_ring_81 : decode cX12_ring 81 = .ok (.ifCond .ne 6, 3) := by decide +kernel
theorem dX12_ring_84 : decode cX12_ring 84 = .ok (.iload 4, 2) := by decide +kernel
theorem dX12_ring_86 : decode cX12_ring 86 = .ok (.ireturn, 1) := by decide +kernel
theorem dX12_ring_87 : decode cX12_ring 87 = .ok (.aload_n 0, 1) := by decide +kernel
theorem dX12_ring_88 : decode cX12_ring 88 = .ok (.getfield 63, 3) := by decide +kernel
theorem dX12_ring_91 : decode cX12_ring 91 = .ok (.bipush 44, 2) := by decide +kernel
theorem dX12_ring_93 : decode cX12_ring 93 = .ok (.aload_n 0, 1) := by decide +kernel
theorem dX12_ring_94 : decode cX12_ring 94 = .ok (.getfield 63, 3) := by decide +kernel
theorem dX12_ring_97 : decode cX12_ring 97 = .ok (.bipush 44, 2) := by decide +kernel
theorem dX12_ring_99 : decode cX12_ring 99 = .ok (.iaload, 1) := by decide +kernel
theorem dX12_ring_100 : decode cX12_ring 100 = .ok (.sipush 137, 3) := by decide +kernel
theorem dX12_ring_103 : decode cX12_ring 103 = .ok (.imul, 1) := by decide +kernel
theorem dX12_ring_104 : decode cX12_ring 104 = .ok (.bipush 71, 2) := by decide +kernel
theorem dX12_ring_106 : decode cX12_ring 106 = .ok (.iadd, 1) := by decide +kernel
theorem dX12_ring_107 : decode cX12_ring 107 = .ok (.sipush 1000, 3) := by decide +kernel
theorem dX12_ring_110 : decode cX12_ring 110 = .ok (.irem, 1) := by decide +kernel
theorem dX12_ring_111 : decode cX12_ring 111 = .ok (.iastore, 1) := by decide +kernel
theorem dX12_ring_112 : decode cX12_ring 112 = .ok (.aload_n 0, 1) := by decide +kernel
theorem dX12_ring_113 : decode cX12_ring 113 = .ok (.getfield 63, 3) := by decide +kernel
theorem dX12_ring_116 : decode cX12_ring 116 = .ok (.bipush 44, 2) := by decide +kernel
theorem dX12_ring_118 : decode cX12_ring 118 = .ok (.iaload, 1) := by decide +kernel
theorem dX12_ring_119 : decode cX12_ring 119 = .ok (.bipush 100, 2) := by decide +kernel
theorem dX12_ring_121 : decode cX12_ring 121 = .ok (.irem, 1) := by decide +kernel
theorem dX12_ring_122 : decode cX12_ring 122 = .ok (.aload_n 0, 1) := by decide +kernel
theorem dX12_ring_123 : decode cX12_ring 123 = .ok (.getfield 360, 3) := by decide +kernel
theorem dX12_ring_126 : decode cX12_ring 126 = .ok (.if_icmp .ge 17, 3) := by decide +kernel
theorem dX12_ring_129 : decode cX12_ring 129 = .ok (.aload_n 0, 1) := by decide +kernel
theorem dX12_ring_130 : decode cX12_ring 130 = .ok (.getfield 63, 3) := by decide +kernel
theorem dX12_ring_133 : decode cX12_ring 133 = .ok (.bipush 13, 2) := by decide +kernel
theorem dX12_ring_135 : decode cX12_ring 135 = .ok (.iconst 5, 1) := by decide +kernel
theorem dX12_ring_136 : decode cX12_ring 136 = .ok (.iload_n 3, 1) := by decide +kernel
theorem dX12_ring_137 : decode cX12_ring 137 = .ok (.imul, 1) := by decide +kernel
theorem dX12_ring_138 : decode cX12_ring 138 = .ok (.iadd, 1) := by decide +kernel
theorem dX12_ring_139 : decode cX12_ring 139 = .ok (.iload_n 1, 1) := by decide +kernel
theorem dX12_ring_140 : decode cX12_ring 140 = .ok (.iadd, 1) := by decide +kernel
theorem dX12_ring_141 : decode cX12_ring 141 = .ok (.iconst 0, 1) := by decide +kernel
theorem dX12_ring_142 : decode cX12_ring 142 = .ok (.iastore, 1) := by decide +kernel
theorem dX12_ring_143 : decode cX12_ring 143 = .ok (.iload 4, 2) := by decide +kernel
theorem dX12_ring_145 : decode cX12_ring 145 = .ok (.ireturn, 1) := by decide +kernel
theorem dX12_goDay_0 : decode cX12_goDay 0 = .ok (.iconst 0, 1) := by decide +kernel
theorem dX12_goDay_1 : decode cX12_goDay 1 = .ok (.istore_n 2, 1) := by decide +kernel
theorem dX12_goDay_2 : decode cX12_goDay 2 = .ok (.iconst 0, 1) := by decide +kernel
theorem dX12_goDay_3 : decode cX12_goDay 3 = .ok (.istore_n 3, 1) := by decide +kernel
theorem dX12_goDay_4 : decode cX12_goDay 4 = .ok (.iload_n 3, 1) := by decide +kernel
theorem dX12_goDay_5 : decode cX12_goDay 5 = .ok (.aload_n 0, 1) := by decide +kernel
theorem dX12_goDay_6 : decode cX12_goDay 6 = .ok (.getfield 351, 3) := by decide +kernel
theorem dX12_goDay_9 : decode cX12_goDay 9 = .ok (.if_icmp .ge 18, 3) := by decide +kernel
theorem dX12_goDay_12 : decode cX12_goDay 12 = .ok (.iload_n 2, 1) := by decide +kernel
theorem dX12_goDay_13 : decode cX12_goDay 13 = .ok (.aload_n 0, 1) := by decide +kernel
theorem dX12_goDay_14 : decode cX12_goDay 14 = .ok (.iload_n 3, 1) := by decide +kernel
theorem dX12_goDay_15 : decode cX12_goDay 15 = .ok (.iload_n 1, 1) := by decide +kernel
theorem dX12_goDay_16 : decode cX12_goDay 16 = .ok (.invokevirtual 404, 3) := by decide +kernel
theorem dX12_goDay_19 : decode cX12_goDay 19 = .ok (.iadd, 1) := by decide +kernel
theorem dX12_goDay_20 : decode cX12_goDay 20 = .ok (.istore_n 2, 1) := by decide +kernel
theorem dX12_goDay_21 : decode cX12_goDay 21 = .ok (.iinc 3 1, 3) := by decide +kernel
theorem dX12_goDay_24 : decode cX12_goDay 24 = .ok (.goto (-20), 3) := by decide +kernel
theorem dX12_goDay_27 : decode cX12_goDay 27 = .ok (.aload_n 0, 1) := by decide +kernel
theorem dX12_goDay_28 : decode cX12_goDay 28 = .ok (.getfield 63, 3) := by decide +kernel
theorem dX12_goDay_31 : decode cX12_goDay 31 = .ok (.bipush 43, 2) := by decide +kernel
theorem dX12_goDay_33 : decode cX12_goDay 33 = .ok (.dup2, 1) := by decide +kernel
theorem dX12_goDay_34 : decode cX12_goDay 34 = .ok (.iaload, 1) := by decide +kernel
theorem dX12_goDay_35 : decode cX12_goDay 35 = .ok (.iconst 1, 1) := by decide +kernel
theorem dX12_goDay_36 : decode cX12_goDay 36 = .ok (.iadd, 1) := by decide +kernel
theorem dX12_goDay_37 : decode cX12_goDay 37 = .ok (.iastore, 1) := by decide +kernel
theorem dX12_goDay_38 : decode cX12_goDay 38 = .ok (.iload_n 2, 1) := by decide +kernel
theorem dX12_goDay_39 : decode cX12_goDay 39 = .ok (.ireturn, 1) := by decide +kernel
theorem dX12_rungBy_0 : decode cX12_rungBy 0 = .ok (.iconst 0, 1) := by decide +kernel
theorem dX12_rungBy_1 : decode cX12_rungBy 1 = .ok (.istore_n 2, 1) := by decide +kernel
theorem dX12_rungBy_2 : decode cX12_rungBy 2 = .ok (.iconst 0, 1) := by decide +kernel
theorem dX12_rungBy_3 : decode cX12_rungBy 3 = .ok (.istore_n 3, 1) := by decide +kernel
theorem dX12_rungBy_4 : decode cX12_rungBy 4 = .ok (.iload_n 3, 1) := by decide +kernel
theorem dX12_rungBy_5 : decode cX12_rungBy 5 = .ok (.aload_n 0, 1) := by decide +kernel
theorem dX12_rungBy_6 : decode cX12_rungBy 6 = .ok (.getfield 351, 3) := by decide +kernel
theorem dX12_rungBy_9 : decode cX12_rungBy 9 = .ok (.if_icmp .ge 32, 3) := by decide +kernel
theorem dX12_rungBy_12 : decode cX12_rungBy 12 = .ok (.iload_n 2, 1) := by decide +kernel
theorem dX12_rungBy_13 : decode cX12_rungBy 13 = .ok (.aload_n 0, 1) := by decide +kernel
theorem dX12_rungBy_14 : decode cX12_rungBy 14 = .ok (.getfield 66, 3) := by decide +kernel
theorem dX12_rungBy_17 : decode cX12_rungBy 17 = .ok (.iload_n 3, 1) := by decide +kernel
theorem dX12_rungBy_18 : decode cX12_rungBy 18 = .ok (.iaload, 1) := by decide +kernel
theorem dX12_rungBy_19 : decode cX12_rungBy 19 = .ok (.iload_n 1, 1) := by decide +kernel
theorem dX12_rungBy_20 : decode cX12_rungBy 20 = .ok (.if_icmp .ne 7, 3) := by decide +kernel
theorem dX12_rungBy_23 : decode cX12_rungBy 23 = .ok (.iconst 1, 1) := by decide +kernel
theorem dX12_rungBy_24 : decode cX12_rungBy 24 = .ok (.goto 4, 3) := by decide +kernel
theorem dX12_rungBy_27 : decode cX12_rungBy 27 = .ok (.iconst 0, 1) := by decide +kernel
theorem dX12_rungBy_28 : decode cX12_rungBy 28 = .ok (.invokestatic 279, 3) := by decide +kernel
theorem dX12_rungBy_31 : decode cX12_rungBy 31 = .ok (.iload_n 3, 1) := by decide +kernel
theorem dX12_rungBy_32 : decode cX12_rungBy 32 = .ok (.ishl, 1) := by decide +kernel
theorem dX12_rungBy_33 : decode cX12_rungBy 33 = .ok (.ior, 1) := by decide +kernel
theorem dX12_rungBy_34 : decode cX12_rungBy 34 = .ok (.istore_n 2, 1) := by decide +kernel
theorem dX12_rungBy_35 : decode cX12_rungBy 35 = .ok (.iinc 3 1, 3) := by decide +kernel
theorem dX12_rungBy_38 : decode cX12_rungBy 38 = .ok (.goto (-34), 3) := by decide +kernel
theorem dX12_rungBy_41 : decode cX12_rungBy 41 = .ok (.iload_n 2, 1) := by decide +kernel
theorem dX12_rungBy_42 : decode cX12_rungBy 42 = .ok (.ireturn, 1) := by decide +kernel
theorem dX12_losing_0 : decode cX12_losing 0 = .ok (.iconst 0, 1) := by decide +kernel
theorem dX12_losing_1 : decode cX12_losing 1 = .ok (.istore_n 2, 1) := by decide +kernel
theorem dX12_losing_2 : decode cX12_losing 2 = .ok (.iconst 0, 1) := by decide +kernel
theorem dX12_losing_3 : decode cX12_losing 3 = .ok (.istore_n 3, 1) := by decide +kernel
theorem dX12_losing_4 : decode cX12_losing 4 = .ok (.iload_n 3, 1) := by decide +kernel
theorem dX12_losing_5 : decode cX12_losing 5 = .ok (.aload_n 0, 1) := by decide +kernel
theorem dX12_losing_6 : decode cX12_losing 6 = .ok (.getfield 351, 3) := by decide +kernel
theorem dX12_losing_9 : decode cX12_losing 9 = .ok (.if_icmp .ge 23, 3) := by decide +kernel
theorem dX12_losing_12 : decode cX12_losing 12 = .ok (.iload_n 2, 1) := by decide +kernel
theorem dX12_losing_13 : decode cX12_losing 13 = .ok (.aload_n 0, 1) := by decide +kernel
theorem dX12_losing_14 : decode cX12_losing 14 = .ok (.iload_n 1, 1) := by decide +kernel
theorem dX12_losing_15 : decode cX12_losing 15 = .ok (.iload_n 3, 1) := by decide +kernel
theorem dX12_losing_16 : decode cX12_losing 16 = .ok (.invokevirtual 391, 3) := by decide +kernel
theorem dX12_losing_19 : decode cX12_losing 19 = .ok (.invokestatic 279, 3) := by decide +kernel
theorem dX12_losing_22 : decode cX12_losing 22 = .ok (.iload_n 3, 1) := by decide +kernel
theorem dX12_losing_23 : decode cX12_losing 23 = .ok (.ishl, 1) := by decide +kernel
theorem dX12_losing_24 : decode cX12_losing 24 = .ok (.ior, 1) := by decide +kernel
theorem dX12_losing_25 : decode cX12_losing 25 = .ok (.istore_n 2, 1) := by decide +kernel
theorem dX12_losing_26 : decode cX12_losing 26 = .ok (.iinc 3 1, 3) := by decide +kernel
theorem dX12_losing_29 : decode cX12_losing 29 = .ok (.goto (-25), 3) := by decide +kernel
theorem dX12_losing_32 : decode cX12_losing 32 = .ok (.iload_n 2, 1) := by decide +kernel
theorem dX12_losing_33 : decode cX12_losing 33 = .ok (.ireturn, 1) := by decide +kernel
theorem dX12_person_0 : decode cX12_person 0 = .ok (.aload_n 0, 1) := by decide +kernel
theorem dX12_person_1 : decode cX12_person 1 = .ok (.iload_n 1, 1) := by decide +kernel
theorem dX12_person_2 : decode cX12_person 2 = .ok (.invokevirtual 408, 3) := by decide +kernel
theorem dX12_person_5 : decode cX12_person 5 = .ok (.ifCond .ne 5, 3) := by decide +kernel
theorem dX12_person_8 : decode cX12_person 8 = .ok (.iconst (-1), 1) := by decide +kernel
theorem dX12_person_9 : decode cX12_person 9 = .ok (.ireturn, 1) := by decide +kernel
theorem dX12_person_10 : decode cX12_person 10 = .ok (.aload_n 0, 1) := by decide +kernel
theorem dX12_person_11 : decode cX12_person 11 = .ok (.invokevirtual 411, 3) := by decide +kernel
theorem dX12_person_14 : decode cX12_person 14 = .ok (.iload_n 2, 1) := by decide +kernel
theorem dX12_person_15 : decode cX12_person 15 = .ok (.tableswitch 77 0 4 #[33, 40, 50, 59, 65], 33) := by decide +kernel
theorem dX12_person_48 : decode cX12_person 48 = .ok (.aload_n 0, 1) := by decide +kernel
theorem dX12_person_49 : decode cX12_person 49 = .ok (.getfield 63, 3) := by decide +kernel
theorem dX12_person_52 : decode cX12_person 52 = .ok (.iload_n 1, 1) := by decide +kernel
theorem dX12_person_53 : decode cX12_person 53 = .ok (.iaload, 1) := by decide +kernel
theorem dX12_person_54 : decode cX12_person 54 = .ok (.ireturn, 1) := by decide +kernel
theorem dX12_person_55 : decode cX12_person 55 = .ok (.aload_n 0, 1) := by decide +kernel
theorem dX12_person_56 : decode cX12_person 56 = .ok (.getfield 63, 3) := by decide +kernel
theorem dX12_person_59 : decode cX12_person 59 = .ok (.bipush 6, 2) := by decide +kernel
theorem dX12_person_61 : decode cX12_person 61 = .ok (.iload_n 1, 1) := by decide +kernel
theorem dX12_person_62 : decode cX12_person 62 = .ok (.iadd, 1) := by decide +kernel
theorem dX12_person_63 : decode cX12_person 63 = .ok (.iaload, 1) := by decide +kernel
theorem dX12_person_64 : decode cX12_person 64 = .ok (.ireturn, 1) := by decide +kernel
theorem dX12_person_65 : decode cX12_person 65 = .ok (.aload_n 0, 1) := by decide +kernel
theorem dX12_person_66 : decode cX12_person 66 = .ok (.iload_n 1, 1) := by decide +kernel
theorem dX12_person_67 : decode cX12_person 67 = .ok (.invokevirtual 388, 3) := by decide +kernel
theorem dX12_person_70 : decode cX12_person 70 = .ok (.invokestatic 279, 3) := by decide +kernel
theorem dX12_person_73 : decode cX12_person 73 = .ok (.ireturn, 1) := by decide +kernel
theorem dX12_person_74 : decode cX12_person 74 = .ok (.aload_n 0, 1) := by decide +kernel
theorem dX12_person_75 : decode cX12_person 75 = .ok (.iload_n 1, 1) := by decide +kernel
theorem dX12_person_76 : decode cX12_person 76 = .ok (.invokevirtual 414, 3) := by decide +kernel
theorem dX12_person_79 : decode cX12_person 79 = .ok (.ireturn, 1) := by decide +kernel
theorem dX12_person_80 : decode cX12_person 80 = .ok (.aload_n 0, 1) := by decide +kernel
theorem dX12_person_81 : decode cX12_person 81 = .ok (.iconst 0, 1) := by decide +kernel
theorem dX12_person_82 : decode cX12_person 82 = .ok (.invokevirtual 417, 3) := by decide +kernel
theorem dX12_person_85 : decode cX12_person 85 = .ok (.pop, 1) := by decide +kernel
theorem dX12_person_86 : decode cX12_person 86 = .ok (.aload_n 0, 1) := by decide +kernel
theorem dX12_person_87 : decode cX12_person 87 = .ok (.iload_n 1, 1) := by decide +kernel
theorem dX12_person_88 : decode cX12_person 88 = .ok (.invokevirtual 420, 3) := by decide +kernel
theorem dX12_person_91 : decode cX12_person 91 = .ok (.ireturn, 1) := by decide +kernel
theorem dX12_person_92 : decode cX12_person 92 = .ok (.iconst (-1), 1) := by decide +kernel
theorem dX12_person_93 : decode cX12_person 93 = .ok (.ireturn, 1) := by decide +kernel
theorem dX12_loss_0 : decode cX12_loss 0 = .ok (.aload_n 0, 1) := by decide +kernel
theorem dX12_loss_1 : decode cX12_loss 1 = .ok (.iload_n 1, 1) := by decide +kernel
theorem dX12_loss_2 : decode cX12_loss 2 = .ok (.invokevirtual 408, 3) := by decide +kernel
theorem dX12_loss_5 : decode cX12_loss 5 = .ok (.ifCond .eq 27, 3) := by decide +kernel
theorem dX12_loss_8 : decode cX12_loss 8 = .ok (.aload_n 0, 1) := by decide +kernel
theorem dX12_loss_9 : decode cX12_loss 9 = .ok (.iload_n 2, 1) := by decide +kernel
theorem dX12_loss_10 : decode cX12_loss 10 = .ok (.invokevirtual 423, 3) := by decide +kernel
theorem dX12_loss_13 : decode cX12_loss 13 = .ok (.ifCond .eq 19, 3) := by decide +kernel
theorem dX12_loss_16 : decode cX12_loss 16 = .ok (.aload_n 0, 1) := by decide +kernel
theorem dX12_loss_17 : decode cX12_loss 17 = .ok (.getfield 60, 3) := by decide +kernel
theorem dX12_loss_20 : decode cX12_loss 20 = .ok (.bipush 13, 2) := by decide +kernel
theorem dX12_loss_22 : decode cX12_loss 22 = .ok (.iconst 5, 1) := by decide +kernel
theorem dX12_loss_23 : decode cX12_loss 23 = .ok (.iload_n 1, 1) := by decide +kernel
theorem dX12_loss_24 : decode cX12_loss 24 = .ok (.imul, 1) := by decide +kernel
theorem dX12_loss_25 : decode cX12_loss 25 = .ok (.iadd, 1) := by decide +kernel
theorem dX12_loss_26 : decode cX12_loss 26 = .ok (.iload_n 2, 1) := by decide +kernel
theorem dX12_loss_27 : decode cX12_loss 27 = .ok (.iadd, 1) := by decide +kernel
theorem dX12_loss_28 : decode cX12_loss 28 = .ok (.iaload, 1) := by decide +kernel
theorem dX12_loss_29 : decode cX12_loss 29 = .ok (.goto 4, 3) := by decide +kernel
theorem dX12_loss_32 : decode cX12_loss 32 = .ok (.iconst (-1), 1) := by decide +kernel
theorem dX12_loss_33 : decode cX12_loss 33 = .ok (.ireturn, 1) := by decide +kernel
theorem dX12_weight_0 : decode cX12_weight 0 = .ok (.aload_n 0, 1) := by decide +kernel
theorem dX12_weight_1 : decode cX12_weight 1 = .ok (.invokevirtual 411, 3) := by decide +kernel
theorem dX12_weight_4 : decode cX12_weight 4 = .ok (.aload_n 0, 1) := by decide +kernel
theorem dX12_weight_5 : decode cX12_weight 5 = .ok (.iload_n 1, 1) := by decide +kernel
theorem dX12_weight_6 : decode cX12_weight 6 = .ok (.invokevirtual 408, 3) := by decide +kernel
theorem dX12_weight_9 : decode cX12_weight 9 = .ok (.ifCond .eq 20, 3) := by decide +kernel
theorem dX12_weight_12 : decode cX12_weight 12 = .ok (.aload_n 0, 1) := by decide +kernel
theorem dX12_weight_13 : decode cX12_weight 13 = .ok (.iload_n 2, 1) := by decide +kernel
theorem dX12_weight_14 : decode cX12_weight 14 = .ok (.invokevirtual 423, 3) := by decide +kernel
theorem dX12_weight_17 : decode cX12_weight 17 = .ok (.ifCond .eq 12, 3) := by decide +kernel
theorem dX12_weight_20 : decode cX12_weight 20 = .ok (.aload_n 0, 1) := by decide +kernel
theorem dX12_weight_21 : decode cX12_weight 21 = .ok (.iload_n 1, 1) := by decide +kernel
theorem dX12_weight_22 : decode cX12_weight 22 = .ok (.iload_n 2, 1) := by decide +kernel
theorem dX12_weight_23 : decode cX12_weight 23 = .ok (.invokevirtual 395, 3) := by decide +kernel
theorem dX12_weight_26 : decode cX12_weight 26 = .ok (.goto 6, 3) := by decide +kernel
theorem dX12_weight_29 : decode cX12_weight 29 = .ok (.ldc_w 426, 3) := by decide +kernel
theorem dX12_weight_32 : decode cX12_weight 32 = .ok (.ireturn, 1) := by decide +kernel
theorem dX12_ringer_0 : decode cX12_ringer 0 = .ok (.aload_n 0, 1) := by decide +kernel
theorem dX12_ringer_1 : decode cX12_ringer 1 = .ok (.invokevirtual 411, 3) := by decide +kernel
theorem dX12_ringer_4 : decode cX12_ringer 4 = .ok (.aload_n 0, 1) := by decide +kernel
theorem dX12_ringer_5 : decode cX12_ringer 5 = .ok (.iload_n 1, 1) := by decide +kernel
theorem dX12_ringer_6 : decode cX12_ringer 6 = .ok (.invokevirtual 423, 3) := by decide +kernel
theorem dX12_ringer_9 : decode cX12_ringer 9 = .ok (.ifCond .eq 11, 3) := by decide +kernel
theorem dX12_ringer_12 : decode cX12_ringer 12 = .ok (.aload_n 0, 1) := by decide +kernel
theorem dX12_ringer_13 : decode cX12_ringer 13 = .ok (.iload_n 1, 1) := by decide +kernel
theorem dX12_ringer_14 : decode cX12_ringer 14 = .ok (.invokevirtual 398, 3) := by decide +kernel
theorem dX12_ringer_17 : decode cX12_ringer 17 = .ok (.goto 5, 3) := by decide +kernel
theorem dX12_ringer_20 : decode cX12_ringer 20 = .ok (.bipush (-2), 2) := by decide +kernel
theorem dX12_ringer_22 : decode cX12_ringer 22 = .ok (.ireturn, 1) := by decide +kernel
theorem dX12_hour_0 : decode cX12_hour 0 = .ok (.aload_n 0, 1) := by decide +kernel
theorem dX12_hour_1 : decode cX12_hour 1 = .ok (.iload_n 1, 1) := by decide +kernel
theorem dX12_hour_2 : decode cX12_hour 2 = .ok (.invokevirtual 423, 3) := by decide +kernel
theorem dX12_hour_5 : decode cX12_hour 5 = .ok (.ifCond .eq 12, 3) := by decide +kernel
theorem dX12_hour_8 : decode cX12_hour 8 = .ok (.aload_n 0, 1) := by decide +kernel
theorem dX12_hour_9 : decode cX12_hour 9 = .ok (.getfield 54, 3) := by decide +kernel
theorem dX12_hour_12 : decode cX12_hour 12 = .ok (.iload_n 1, 1) := by decide +kernel
theorem dX12_hour_13 : decode cX12_hour 13 = .ok (.iaload, 1) := by decide +kernel
theorem dX12_hour_14 : decode cX12_hour 14 = .ok (.goto 4, 3) := by decide +kernel
theorem dX12_hour_17 : decode cX12_hour 17 = .ok (.iconst (-1), 1) := by decide +kernel
theorem dX12_hour_18 : decode cX12_hour 18 = .ok (.ireturn, 1) := by decide +kernel
theorem dX12_act_0 : decode cX12_act 0 = .ok (.aload_n 0, 1) := by decide +kernel
theorem dX12_act_1 : decode cX12_act 1 = .ok (.getfield 372, 3) := by decide +kernel
theorem dX12_act_4 : decode cX12_act 4 = .ok (.bipush 40, 2) := by decide +kernel
theorem dX12_act_6 : decode cX12_act 6 = .ok (.if_icmp .ne 43, 3) := by decide +kernel
theorem dX12_act_9 : decode cX12_act 9 = .ok (.iconst 0, 1) := by decide +kernel
theorem dX12_act_10 : decode cX12_act 10 = .ok (.istore_n 1, 1) := by decide +kernel
theorem dX12_act_11 : decode cX12_act 11 = .ok (.iload_n 1, 1) := by decide +kernel
theorem dX12_act_12 : decode cX12_act 12 = .ok (.sipush 1755, 3) := by decide +kernel
theorem dX12_act_15 : decode cX12_act 15 = .ok (.if_icmp .ge 24, 3) := by decide +kernel
theorem dX12_act_18 : decode cX12_act 18 = .ok (.aload_n 0, 1) := by decide +kernel
theorem dX12_act_19 : decode cX12_act 19 = .ok (.getfield 69, 3) := by decide +kernel
theorem dX12_act_22 : decode cX12_act 22 = .ok (.iload_n 1, 1) := by decide +kernel
theorem dX12_act_23 : decode cX12_act 23 = .ok (.aload_n 0, 1) := by decide +kernel
theorem dX12_act_24 : decode cX12_act 24 = .ok (.getfield 69, 3) := by decide +kernel
theorem dX12_act_27 : decode cX12_act 27 = .ok (.bipush 45, 2) := by decide +kernel
theorem dX12_act_29 : decode cX12_act 29 = .ok (.iload_n 1, 1) := by decide +kernel
theorem dX12_act_30 : decode cX12_act 30 = .ok (.iadd, 1) := by decide +kernel
theorem dX12_act_31 : decode cX12_act 31 = .ok (.iaload, 1) := by decide +kernel
theorem dX12_act_32 : decode cX12_act 32 = .ok (.iastore, 1) := by decide +kernel
theorem dX12_act_33 : decode cX12_act 33 = .ok (.iinc 1 1, 3) := by decide +kernel
theorem dX12_act_36 : decode cX12_act 36 = .ok (.goto (-25), 3) := by decide +kernel
theorem dX12_act_39 : decode cX12_act 39 = .ok (.aload_n 0, 1) := by decide +kernel
theorem dX12_act_40 : decode cX12_act 40 = .ok (.dup, 1) := by decide +kernel
theorem dX12_act_41 : decode cX12_act 41 = .ok (.getfield 372, 3) := by decide +kernel
theorem dX12_act_44 : decode cX12_act 44 = .ok (.iconst 1, 1) := by decide +kernel
theorem dX12_act_45 : decode cX12_act 45 = .ok (.isub, 1) := by decide +kernel
theorem dX12_act_46 : decode cX12_act 46 = .ok (.putfield 372, 3) := by decide +kernel
theorem dX12_act_49 : decode cX12_act 49 = .ok (.iconst 0, 1) := by decide +kernel
theorem dX12_act_50 : decode cX12_act 50 = .ok (.istore_n 1, 1) := by decide +kernel
theorem dX12_act_51 : decode cX12_act 51 = .ok (.iload_n 1, 1) := by decide +kernel
theorem dX12_act_52 : decode cX12_act 52 = .ok (.bipush 45, 2) := by decide +kernel
theorem dX12_act_54 : decode cX12_act 54 = .ok (.if_icmp .ge 29, 3) := by decide +kernel
theorem dX12_act_57 : decode cX12_act 57 = .ok (.aload_n 0, 1) := by decide +kernel
theorem dX12_act_58 : decode cX12_act 58 = .ok (.getfield 69, 3) := by decide +kernel
theorem dX12_act_61 : decode cX12_act 61 = .ok (.bipush 45, 2) := by decide +kernel
theorem dX12_act_63 : decode cX12_act 63 = .ok (.aload_n 0, 1) := by decide +kernel
theorem dX12_act_64 : decode cX12_act 64 = .ok (.getfield 372, 3) := by decide +kernel
theorem dX12_act_67 : decode cX12_act 67 = .ok (.imul, 1) := by decide +kernel
theorem dX12_act_68 : decode cX12_act 68 = .ok (.iload_n 1, 1) := by decide +kernel
theorem dX12_act_69 : decode cX12_act 69 = .ok (.iadd, 1) := by decide +kernel
theorem dX12_act_70 : decode cX12_act 70 = .ok (.aload_n 0, 1) := by decide +kernel
theorem dX12_act_71 : decode cX12_act 71 = .ok (.getfield 60, 3) := by decide +kernel
theorem dX12_act_74 : decode cX12_act 74 = .ok (.iload_n 1, 1) := by decide +kernel
theorem dX12_act_75 : decode cX12_act 75 = .ok (.iaload, 1) := by decide +kernel
theorem dX12_act_76 : decode cX12_act 76 = .ok (.iastore, 1) := by decide +kernel
theorem dX12_act_77 : decode cX12_act 77 = .ok (.iinc 1 1, 3) := by decide +kernel
theorem dX12_act_80 : decode cX12_act 80 = .ok (.goto (-29), 3) := by decide +kernel
theorem dX12_act_83 : decode cX12_act 83 = .ok (.aload_n 0, 1) := by decide +kernel
theorem dX12_act_84 : decode cX12_act 84 = .ok (.dup, 1) := by decide +kernel
theorem dX12_act_85 : decode cX12_act 85 = .ok (.getfield 372, 3) := by decide +kernel
theorem dX12_act_88 : decode cX12_act 88 = .ok (.iconst 1, 1) := by decide +kernel
theorem dX12_act_89 : decode cX12_act 89 = .ok (.iadd, 1) := by decide +kernel
theorem dX12_act_90 : decode cX12_act 90 = .ok (.putfield 372, 3) := by decide +kernel
theorem dX12_act_93 : decode cX12_act 93 = .ok (.aload_n 0, 1) := by decide +kernel
theorem dX12_act_94 : decode cX12_act 94 = .ok (.iconst 0, 1) := by decide +kernel
