theorem dX12_record_98 : decode cX12_record 98 = .ok (.iload 4, 2) := by decide +kernel
theorem dX12_record_100 : decode cX12_record 100 = .ok (.iload 7, 2) := by decide +kernel
theorem dX12_record_102 : decode cX12_record 102 = .ok (.iconst 1, 1) := by decide +kernel
theorem dX12_record_103 : decode cX12_record 103 = .ok (.isub, 1) := by decide +kernel
theorem dX12_record_104 : decode cX12_record 104 = .ok (.invokevirtual 220, 3) := by decide +kernel
theorem dX12_record_107 : decode cX12_record 107 = .ok (.ifCond .eq 89, 3) := by decide +kernel
theorem dX12_record_110 : decode cX12_record 110 = .ok (.aload_n 0, 1) := by decide +kernel
theorem dX12_record_111 : decode cX12_record 111 = .ok (.getfield 123, 3) := by decide +kernel
theorem dX12_record_114 : decode cX12_record 114 = .ok (.iload 7, 2) := by decide +kernel
theorem dX12_record_116 : decode cX12_record 116 = .ok (.aload_n 0, 1) := by decide +kernel
theorem dX12_record_117 : decode cX12_record 117 = .ok (.getfield 123, 3) := by decide +kernel
theorem dX12_record_120 : decode cX12_record 120 = .ok (.iload 7, 2) := by decide +kernel
theorem dX12_record_122 : decode cX12_record 122 = .ok (.iconst 1, 1) := by decide +kernel
theorem dX12_record_123 : decode cX12_record 123 = .ok (.isub, 1) := by decide +kernel
theorem dX12_record_124 : decode cX12_record 124 = .ok (.iaload, 1) := by decide +kernel
theorem dX12_record_125 : decode cX12_record 125 = .ok (.iastore, 1) := by decide +kernel
theorem dX12_record_126 : decode cX12_record 126 = .ok (.aload_n 0, 1) := by decide +kernel
theorem dX12_record_127 : decode cX12_record 127 = .ok (.getfield 126, 3) := by decide +kernel
theorem dX12_record_130 : decode cX12_record 130 = .ok (.iload 7, 2) := by decide +kernel
theorem dX12_record_132 : decode cX12_record 132 = .ok (.aload_n 0, 1) := by decide +kernel
theorem dX12_record_133 : decode cX12_record 133 = .ok (.getfield 126, 3) := by decide +kernel
theorem dX12_record_136 : decode cX12_record 136 = .ok (.iload 7, 2) := by decide +kernel
theorem dX12_record_138 : decode cX12_record 138 = .ok (.iconst 1, 1) := by decide +kernel
theorem dX12_record_139 : decode cX12_record 139 = .ok (.isub, 1) := by decide +kernel
theorem dX12_record_140 : decode cX12_record 140 = .ok (.iaload, 1) := by decide +kernel
theorem dX12_record_141 : decode cX12_record 141 = .ok (.iastore, 1) := by decide +kernel
theorem dX12_record_142 : decode cX12_record 142 = .ok (.aload_n 0, 1) := by decide +kernel
theorem dX12_record_143 : decode cX12_record 143 = .ok (.getfield 129, 3) := by decide +kernel
theorem dX12_record_146 : decode cX12_record 146 = .ok (.iload 7, 2) := by decide +kernel
theorem dX12_record_148 : decode cX12_record 148 = .ok (.aload_n 0, 1) := by decide +kernel
theorem dX12_record_149 : decode cX12_record 149 = .ok (.getfield 129, 3) := by decide +kernel
theorem dX12_record_152 : decode cX12_record 152 = .ok (.iload 7, 2) := by decide +kernel
theorem dX12_record_154 : decode cX12_record 154 = .ok (.iconst 1, 1) := by decide +kernel
theorem dX12_record_155 : decode cX12_record 155 = .ok (.isub, 1) := by decide +kernel
theorem dX12_record_156 : decode cX12_record 156 = .ok (.iaload, 1) := by decide +kernel
theorem dX12_record_157 : decode cX12_record 157 = .ok (.iastore, 1) := by decide +kernel
theorem dX12_record_158 : decode cX12_record 158 = .ok (.aload_n 0, 1) := by decide +kernel
theorem dX12_record_159 : decode cX12_record 159 = .ok (.getfield 132, 3) := by decide +kernel
theorem dX12_record_162 : decode cX12_record 162 = .ok (.iload 7, 2) := by decide +kernel
theorem dX12_record_164 : decode cX12_record 164 = .ok (.aload_n 0, 1) := by decide +kernel
theorem dX12_record_165 : decode cX12_record 165 = .ok (.getfield 132, 3) := by decide +kernel
theorem dX12_record_168 : decode cX12_record 168 = .ok (.iload 7, 2) := by decide +kernel
theorem dX12_record_170 : decode cX12_record 170 = .ok (.iconst 1, 1) := by decide +kernel
theorem dX12_record_171 : decode cX12_record 171 = .ok (.isub, 1) := by decide +kernel
theorem dX12_record_172 : decode cX12_record 172 = .ok (.iaload, 1) := by decide +kernel
theorem dX12_record_173 : decode cX12_record 173 = .ok (.iastore, 1) := by decide +kernel
theorem dX12_record_174 : decode cX12_record 174 = .ok (.aload_n 0, 1) := by decide +kernel
theorem dX12_record_175 : decode cX12_record 175 = .ok (.getfield 135, 3) := by decide +kernel
theorem dX12_record_178 : decode cX12_record 178 = .ok (.iload 7, 2) := by decide +kernel
theorem dX12_record_180 : decode cX12_record 180 = .ok (.aload_n 0, 1) := by decide +kernel
theorem dX12_record_181 : decode cX12_record 181 = .ok (.getfield 135, 3) := by decide +kernel
theorem dX12_record_184 : decode cX12_record 184 = .ok (.iload 7, 2) := by decide +kernel
theorem dX12_record_186 : decode cX12_record 186 = .ok (.iconst 1, 1) := by decide +kernel
theorem dX12_record_187 : decode cX12_record 187 = .ok (.isub, 1) := by decide +kernel
theorem dX12_record_188 : decode cX12_record 188 = .ok (.iaload, 1) := by decide +kernel
theorem dX12_record_189 : decode cX12_record 189 = .ok (.iastore, 1) := by decide +kernel
theorem dX12_record_190 : decode cX12_record 190 = .ok (.iinc 7 (-1), 3) := by decide +kernel
theorem dX12_record_193 : decode cX12_record 193 = .ok (.goto (-109), 3) := by decide +kernel
theorem dX12_record_196 : decode cX12_record 196 = .ok (.aload_n 0, 1) := by decide +kernel
theorem dX12_record_197 : decode cX12_record 197 = .ok (.getfield 123, 3) := by decide +kernel
theorem dX12_record_200 : decode cX12_record 200 = .ok (.iload 7, 2) := by decide +kernel
theorem dX12_record_202 : decode cX12_record 202 = .ok (.iload 4, 2) := by decide +kernel
theorem dX12_record_204 : decode cX12_record 204 = .ok (.iastore, 1) := by decide +kernel
theorem dX12_record_205 : decode cX12_record 205 = .ok (.aload_n 0, 1) := by decide +kernel
theorem dX12_record_206 : decode cX12_record 206 = .ok (.getfield 126, 3) := by decide +kernel
theorem dX12_record_209 : decode cX12_record 209 = .ok (.iload 7, 2) := by decide +kernel
theorem dX12_record_211 : decode cX12_record 211 = .ok (.iload_n 2, 1) := by decide +kernel
theorem dX12_record_212 : decode cX12_record 212 = .ok (.iastore, 1) := by decide +kernel
theorem dX12_record_213 : decode cX12_record 213 = .ok (.aload_n 0, 1) := by decide +kernel
theorem dX12_record_214 : decode cX12_record 214 = .ok (.getfield 129, 3) := by decide +kernel
theorem dX12_record_217 : decode cX12_record 217 = .ok (.iload 7, 2) := by decide +kernel
theorem dX12_record_219 : decode cX12_record 219 = .ok (.iload 5, 2) := by decide +kernel
theorem dX12_record_221 : decode cX12_record 221 = .ok (.iastore, 1) := by decide +kernel
theorem dX12_record_222 : decode cX12_record 222 = .ok (.aload_n 0, 1) := by decide +kernel
theorem dX12_record_223 : decode cX12_record 223 = .ok (.getfield 132, 3) := by decide +kernel
theorem dX12_record_226 : decode cX12_record 226 = .ok (.iload 7, 2) := by decide +kernel
theorem dX12_record_228 : decode cX12_record 228 = .ok (.iload 6, 2) := by decide +kernel
theorem dX12_record_230 : decode cX12_record 230 = .ok (.iastore, 1) := by decide +kernel
theorem dX12_record_231 : decode cX12_record 231 = .ok (.aload_n 0, 1) := by decide +kernel
theorem dX12_record_232 : decode cX12_record 232 = .ok (.getfield 135, 3) := by decide +kernel
theorem dX12_record_235 : decode cX12_record 235 = .ok (.iload 7, 2) := by decide +kernel
theorem dX12_record_237 : decode cX12_record 237 = .ok (.iload_n 3, 1) := by decide +kernel
theorem dX12_record_238 : decode cX12_record 238 = .ok (.iastore, 1) := by decide +kernel
theorem dX12_record_239 : decode cX12_record 239 = .ok (.aload_n 0, 1) := by decide +kernel
theorem dX12_record_240 : decode cX12_record 240 = .ok (.getfield 120, 3) := by decide +kernel
theorem dX12_record_243 : decode cX12_record 243 = .ok (.iload_n 1, 1) := by decide +kernel
theorem dX12_record_244 : decode cX12_record 244 = .ok (.dup2, 1) := by decide +kernel
theorem dX12_record_245 : decode cX12_record 245 = .ok (.iaload, 1) := by decide +kernel
theorem dX12_record_246 : decode cX12_record 246 = .ok (.iconst 1, 1) := by decide +kernel
theorem dX12_record_247 : decode cX12_record 247 = .ok (.iadd, 1) := by decide +kernel
theorem dX12_record_248 : decode cX12_record 248 = .ok (.iastore, 1) := by decide +kernel
theorem dX12_record_249 : decode cX12_record 249 = .ok (.return_, 1) := by decide +kernel
theorem dX12_isAhead_0 : decode cX12_isAhead 0 = .ok (.iload_n 1, 1) := by decide +kernel
theorem dX12_isAhead_1 : decode cX12_isAhead 1 = .ok (.aload_n 0, 1) := by decide +kernel
theorem dX12_isAhead_2 : decode cX12_isAhead 2 = .ok (.getfield 129, 3) := by decide +kernel
theorem dX12_isAhead_5 : decode cX12_isAhead 5 = .ok (.iload 4, 2) := by decide +kernel
theorem dX12_isAhead_7 : decode cX12_isAhead 7 = .ok (.iaload, 1) := by decide +kernel
theorem dX12_isAhead_8 : decode cX12_isAhead 8 = .ok (.if_icmp .eq 20, 3) := by decide +kernel
theorem dX12_isAhead_11 : decode cX12_isAhead 11 = .ok (.iload_n 1, 1) := by decide +kernel
theorem dX12_isAhead_12 : decode cX12_isAhead 12 = .ok (.aload_n 0, 1) := by decide +kernel
theorem dX12_isAhead_13 : decode cX12_isAhead 13 = .ok (.getfield 129, 3) := by decide +kernel
theorem dX12_isAhead_16 : decode cX12_isAhead 16 = .ok (.iload 4, 2) := by decide +kernel
theorem dX12_isAhead_18 : decode cX12_isAhead 18 = .ok (.iaload, 1) := by decide +kernel
theorem dX12_isAhead_19 : decode cX12_isAhead 19 = .ok (.if_icmp .ge 7, 3) := by decide +kernel
theorem dX12_isAhead_22 : decode cX12_isAhead 22 = .ok (.iconst 1, 1) := by decide +kernel
theorem dX12_isAhead_23 : decode cX12_isAhead 23 = .ok (.goto 4, 3) := by decide +kernel
theorem dX12_isAhead_26 : decode cX12_isAhead 26 = .ok (.iconst 0, 1) := by decide +kernel
theorem dX12_isAhead_27 : decode cX12_isAhead 27 = .ok (.ireturn, 1) := by decide +kernel
theorem dX12_isAhead_28 : decode cX12_isAhead 28 = .ok (.iload_n 2, 1) := by decide +kernel
theorem dX12_isAhead_29 : decode cX12_isAhead 29 = .ok (.aload_n 0, 1) := by decide +kernel
theorem dX12_isAhead_30 : decode cX12_isAhead 30 = .ok (.getfield 126, 3) := by decide +kernel
theorem dX12_isAhead_33 : decode cX12_isAhead 33 = .ok (.iload 4, 2) := by decide +kernel
theorem dX12_isAhead_35 : decode cX12_isAhead 35 = .ok (.iaload, 1) := by decide +kernel
theorem dX12_isAhead_36 : decode cX12_isAhead 36 = .ok (.if_icmp .eq 22, 3) := by decide +kernel
theorem dX12_isAhead_39 : decode cX12_isAhead 39 = .ok (.iload_n 2, 1) := by decide +kernel
theorem dX12_isAhead_40 : decode cX12_isAhead 40 = .ok (.aload_n 0, 1) := by decide +kernel
theorem dX12_isAhead_41 : decode cX12_isAhead 41 = .ok (.getfield 126, 3) := by decide +kernel
theorem dX12_isAhead_44 : decode cX12_isAhead 44 = .ok (.iload 4, 2) := by decide +kernel
theorem dX12_isAhead_46 : decode cX12_isAhead 46 = .ok (.iaload, 1) := by decide +kernel
theorem dX12_isAhead_47 : decode cX12_isAhead 47 = .ok (.if_icmp .ge 7, 3) := by decide +kernel
theorem dX12_isAhead_50 : decode cX12_isAhead 50 = .ok (.iconst 1, 1) := by decide +kernel
theorem dX12_isAhead_51 : decode cX12_isAhead 51 = .ok (.goto 23, 3) := by decide +kernel
theorem dX12_isAhead_54 : decode cX12_isAhead 54 = .ok (.iconst 0, 1) := by decide +kernel
theorem dX12_isAhead_55 : decode cX12_isAhead 55 = .ok (.goto 19, 3) := by decide +kernel
theorem dX12_isAhead_58 : decode cX12_isAhead 58 = .ok (.iload_n 3, 1) := by decide +kernel
theorem dX12_isAhead_59 : decode cX12_isAhead 59 = .ok (.aload_n 0, 1) := by decide +kernel
theorem dX12_isAhead_60 : decode cX12_isAhead 60 = .ok (.getfield 123, 3) := by decide +kernel
theorem dX12_isAhead_63 : decode cX12_isAhead 63 = .ok (.iload 4, 2) := by decide +kernel
theorem dX12_isAhead_65 : decode cX12_isAhead 65 = .ok (.iaload, 1) := by decide +kernel
theorem dX12_isAhead_66 : decode cX12_isAhead 66 = .ok (.if_icmp .ge 7, 3) := by decide +kernel
theorem dX12_isAhead_69 : decode cX12_isAhead 69 = .ok (.iconst 1, 1) := by decide +kernel
theorem dX12_isAhead_70 : decode cX12_isAhead 70 = .ok (.goto 4, 3) := by decide +kernel
theorem dX12_isAhead_73 : decode cX12_isAhead 73 = .ok (.iconst 0, 1) := by decide +kernel
theorem dX12_isAhead_74 : decode cX12_isAhead 74 = .ok (.ireturn, 1) := by decide +kernel
theorem dX12_areNodes_0 : decode cX12_areNodes 0 = .ok (.aload_n 0, 1) := by decide +kernel
theorem dX12_areNodes_1 : decode cX12_areNodes 1 = .ok (.iload_n 1, 1) := by decide +kernel
theorem dX12_areNodes_2 : decode cX12_areNodes 2 = .ok (.invokevirtual 205, 3) := by decide +kernel
theorem dX12_areNodes_5 : decode cX12_areNodes 5 = .ok (.ifCond .eq 20, 3) := by decide +kernel
theorem dX12_areNodes_8 : decode cX12_areNodes 8 = .ok (.aload_n 0, 1) := by decide +kernel
theorem dX12_areNodes_9 : decode cX12_areNodes 9 = .ok (.iload_n 2, 1) := by decide +kernel
theorem dX12_areNodes_10 : decode cX12_areNodes 10 = .ok (.invokevirtual 205, 3) := by decide +kernel
theorem dX12_areNodes_13 : decode cX12_areNodes 13 = .ok (.ifCond .eq 12, 3) := by decide +kernel
theorem dX12_areNodes_16 : decode cX12_areNodes 16 = .ok (.iload_n 1, 1) := by decide +kernel
theorem dX12_areNodes_17 : decode cX12_areNodes 17 = .ok (.iload_n 2, 1) := by decide +kernel
theorem dX12_areNodes_18 : decode cX12_areNodes 18 = .ok (.if_icmp .eq 7, 3) := by decide +kernel
theorem dX12_areNodes_21 : decode cX12_areNodes 21 = .ok (.iconst 1, 1) := by decide +kernel
theorem dX12_areNodes_22 : decode cX12_areNodes 22 = .ok (.goto 4, 3) := by decide +kernel
theorem dX12_areNodes_25 : decode cX12_areNodes 25 = .ok (.iconst 0, 1) := by decide +kernel
theorem dX12_areNodes_26 : decode cX12_areNodes 26 = .ok (.ireturn, 1) := by decide +kernel
theorem dX12_ways_0 : decode cX12_ways 0 = .ok (.aload_n 0, 1) := by decide +kernel
theorem dX12_ways_1 : decode cX12_ways 1 = .ok (.iload_n 1, 1) := by decide +kernel
theorem dX12_ways_2 : decode cX12_ways 2 = .ok (.iload_n 2, 1) := by decide +kernel
theorem dX12_ways_3 : decode cX12_ways 3 = .ok (.invokevirtual 224, 3) := by decide +kernel
theorem dX12_ways_6 : decode cX12_ways 6 = .ok (.ifCond .ne 10, 3) := by decide +kernel
theorem dX12_ways_9 : decode cX12_ways 9 = .ok (.aload_n 0, 1) := by decide +kernel
theorem dX12_ways_10 : decode cX12_ways 10 = .ok (.ldc 199, 2) := by decide +kernel
theorem dX12_ways_12 : decode cX12_ways 12 = .ok (.invokevirtual 200, 3) := by decide +kernel
theorem dX12_ways_15 : decode cX12_ways 15 = .ok (.ireturn, 1) := by decide +kernel
theorem dX12_ways_16 : decode cX12_ways 16 = .ok (.aload_n 0, 1) := by decide +kernel
theorem dX12_ways_17 : decode cX12_ways 17 = .ok (.bipush 8, 2) := by decide +kernel
theorem dX12_ways_19 : decode cX12_ways 19 = .ok (.iload_n 1, 1) := by decide +kernel
theorem dX12_ways_20 : decode cX12_ways 20 = .ok (.iload_n 2, 1) := by decide +kernel
theorem dX12_ways_21 : decode cX12_ways 21 = .ok (.invokevirtual 227, 3) := by decide +kernel
theorem dX12_ways_24 : decode cX12_ways 24 = .ok (.aload_n 0, 1) := by decide +kernel
theorem dX12_ways_25 : decode cX12_ways 25 = .ok (.getfield 120, 3) := by decide +kernel
theorem dX12_ways_28 : decode cX12_ways 28 = .ok (.bipush 8, 2) := by decide +kernel
theorem dX12_ways_30 : decode cX12_ways 30 = .ok (.iaload, 1) := by decide +kernel
theorem dX12_ways_31 : decode cX12_ways 31 = .ok (.ireturn, 1) := by decide +kernel
theorem dX12_digit_0 : decode cX12_digit 0 = .ok (.iload_n 2, 1) := by decide +kernel
theorem dX12_digit_1 : decode cX12_digit 1 = .ok (.iload_n 1, 1) := by decide +kernel
theorem dX12_digit_2 : decode cX12_digit 2 = .ok (.if_icmp .lt 5, 3) := by decide +kernel
theorem dX12_digit_5 : decode cX12_digit 5 = .ok (.iconst (-1), 1) := by decide +kernel
theorem dX12_digit_6 : decode cX12_digit 6 = .ok (.ireturn, 1) := by decide +kernel
theorem dX12_digit_7 : decode cX12_digit 7 = .ok (.iload_n 0, 1) := by decide +kernel
theorem dX12_digit_8 : decode cX12_digit 8 = .ok (.istore_n 3, 1) := by decide +kernel
theorem dX12_digit_9 : decode cX12_digit 9 = .ok (.iload_n 1, 1) := by decide +kernel
theorem dX12_digit_10 : decode cX12_digit 10 = .ok (.iconst 1, 1) := by decide +kernel
theorem dX12_digit_11 : decode cX12_digit 11 = .ok (.isub, 1) := by decide +kernel
theorem dX12_digit_12 : decode cX12_digit 12 = .ok (.istore 4, 2) := by decide +kernel
theorem dX12_digit_14 : decode cX12_digit 14 = .ok (.iload 4, 2) := by decide +kernel
theorem dX12_digit_16 : decode cX12_digit 16 = .ok (.iload_n 2, 1) := by decide +kernel
theorem dX12_digit_17 : decode cX12_digit 17 = .ok (.if_icmp .le 14, 3) := by decide +kernel
theorem dX12_digit_20 : decode cX12_digit 20 = .ok (.iload_n 3, 1) := by decide +kernel
theorem dX12_digit_21 : decode cX12_digit 21 = .ok (.bipush 10, 2) := by decide +kernel
theorem dX12_digit_23 : decode cX12_digit 23 = .ok (.idiv, 1) := by decide +kernel
theorem dX12_digit_24 : decode cX12_digit 24 = .ok (.istore_n 3, 1) := by decide +kernel
theorem dX12_digit_25 : decode cX12_digit 25 = .ok (.iinc 4 (-1), 3) := by decide +kernel
theorem dX12_digit_28 : decode cX12_digit 28 = .ok (.goto (-14), 3) := by decide +kernel
theorem dX12_digit_31 : decode cX12_digit 31 = .ok (.iload_n 3, 1) := by decide +kernel
theorem dX12_digit_32 : decode cX12_digit 32 = .ok (.bipush 10, 2) := by decide +kernel
theorem dX12_digit_34 : decode cX12_digit 34 = .ok (.irem, 1) := by decide +kernel
theorem dX12_digit_35 : decode cX12_digit 35 = .ok (.ireturn, 1) := by decide +kernel
theorem dX12_ones_0 : decode cX12_ones 0 = .ok (.iconst 0, 1) := by decide +kernel
theorem dX12_ones_1 : decode cX12_ones 1 = .ok (.istore_n 1, 1) := by decide +kernel
theorem dX12_ones_2 : decode cX12_ones 2 = .ok (.iconst 0, 1) := by decide +kernel
theorem dX12_ones_3 : decode cX12_ones 3 = .ok (.istore_n 2, 1) := by decide +kernel
theorem dX12_ones_4 : decode cX12_ones 4 = .ok (.iload_n 2, 1) := by decide +kernel
theorem dX12_ones_5 : decode cX12_ones 5 = .ok (.bipush 9, 2) := by decide +kernel
theorem dX12_ones_7 : decode cX12_ones 7 = .ok (.if_icmp .ge 17, 3) := by decide +kernel
theorem dX12_ones_10 : decode cX12_ones 10 = .ok (.iload_n 1, 1) := by decide +kernel
theorem dX12_ones_11 : decode cX12_ones 11 = .ok (.iload_n 0, 1) := by decide +kernel
theorem dX12_ones_12 : decode cX12_ones 12 = .ok (.iload_n 2, 1) := by decide +kernel
theorem dX12_ones_13 : decode cX12_ones 13 = .ok (.ishr, 1) := by decide +kernel
theorem dX12_ones_14 : decode cX12_ones 14 = .ok (.iconst 1, 1) := by decide +kernel
theorem dX12_ones_15 : decode cX12_ones 15 = .ok (.iand, 1) := by decide +kernel
theorem dX12_ones_16 : decode cX12_ones 16 = .ok (.iadd, 1) := by decide +kernel
theorem dX12_ones_17 : decode cX12_ones 17 = .ok (.istore_n 1, 1) := by decide +kernel
theorem dX12_ones_18 : decode cX12_ones 18 = .ok (.iinc 2 1, 3) := by decide +kernel
theorem dX12_ones_21 : decode cX12_ones 21 = .ok (.goto (-17), 3) := by decide +kernel
theorem dX12_ones_24 : decode cX12_ones 24 = .ok (.iload_n 1, 1) := by decide +kernel
theorem dX12_ones_25 : decode cX12_ones 25 = .ok (.ireturn, 1) := by decide +kernel
theorem dX12_way_0 : decode cX12_way 0 = .ok (.aload_n 0, 1) := by decide +kernel
theorem dX12_way_1 : decode cX12_way 1 = .ok (.iload_n 1, 1) := by decide +kernel
theorem dX12_way_2 : decode cX12_way 2 = .ok (.iload_n 2, 1) := by decide +kernel
theorem dX12_way_3 : decode cX12_way 3 = .ok (.invokevirtual 224, 3) := by decide +kernel
theorem dX12_way_6 : decode cX12_way 6 = .ok (.ifCond .eq 13, 3) := by decide +kernel
theorem dX12_way_9 : decode cX12_way 9 = .ok (.iload_n 3, 1) := by decide +kernel
theorem dX12_way_10 : decode cX12_way 10 = .ok (.ifCond .lt 9, 3) := by decide +kernel
theorem dX12_way_13 : decode cX12_way 13 = .ok (.iload 4, 2) := by decide +kernel
theorem dX12_way_15 : decode cX12_way 15 = .ok (.iconst (-1), 1) := by decide +kernel
theorem dX12_way_16 : decode cX12_way 16 = .ok (.if_icmp .ge 10, 3) := by decide +kernel
theorem dX12_way_19 : decode cX12_way 19 = .ok (.aload_n 0, 1) := by decide +kernel
theorem dX12_way_20 : decode cX12_way 20 = .ok (.ldc 199, 2) := by decide +kernel
theorem dX12_way_22 : decode cX12_way 22 = .ok (.invokevirtual 200, 3) := by decide +kernel
theorem dX12_way_25 : decode cX12_way 25 = .ok (.ireturn, 1) := by decide +kernel
theorem dX12_way_26 : decode cX12_way 26 = .ok (.aload_n 0, 1) := by decide +kernel
theorem dX12_way_27 : decode cX12_way 27 = .ok (.bipush 8, 2) := by decide +kernel
theorem dX12_way_29 : decode cX12_way 29 = .ok (.iload_n 1, 1) := by decide +kernel
theorem dX12_way_30 : decode cX12_way 30 = .ok (.iload_n 2, 1) := by decide +kernel
theorem dX12_way_31 : decode cX12_way 31 = .ok (.invokevirtual 227, 3) := by decide +kernel
theorem dX12_way_34 : decode cX12_way 34 = .ok (.iload_n 3, 1) := by decide +kernel
theorem dX12_way_35 : decode cX12_way 35 = .ok (.aload_n 0, 1) := by decide +kernel
theorem dX12_way_36 : decode cX12_way 36 = .ok (.getfield 120, 3) := by decide +kernel
theorem dX12_way_39 : decode cX12_way 39 = .ok (.bipush 8, 2) := by decide +kernel
theorem dX12_way_41 : decode cX12_way 41 = .ok (.iaload, 1) := by decide +kernel
theorem dX12_way_42 : decode cX12_way 42 = .ok (.if_icmp .lt 10, 3) := by decide +kernel
theorem dX12_way_45 : decode cX12_way 45 = .ok (.aload_n 0, 1) := by decide +kernel
theorem dX12_way_46 : decode cX12_way 46 = .ok (.ldc 230, 2) := by decide +kernel
theorem dX12_way_48 : decode cX12_way 48 = .ok (.invokevirtual 200, 3) := by decide +kernel
theorem dX12_way_51 : decode cX12_way 51 = .ok (.ireturn, 1) := by decide +kernel
theorem dX12_way_52 : decode cX12_way 52 = .ok (.sipush 2048, 3) := by decide +kernel
theorem dX12_way_55 : decode cX12_way 55 = .ok (.iload_n 3, 1) := by decide +kernel
theorem dX12_way_56 : decode cX12_way 56 = .ok (.iadd, 1) := by decide +kernel
theorem dX12_way_57 : decode cX12_way 57 = .ok (.istore 5, 2) := by decide +kernel
theorem dX12_way_59 : decode cX12_way 59 = .ok (.iload 4, 2) := by decide +kernel
theorem dX12_way_61 : decode cX12_way 61 = .ok (.ifCond .ge 13, 3) := by decide +kernel
theorem dX12_way_64 : decode cX12_way 64 = .ok (.aload_n 0, 1) := by decide +kernel
theorem dX12_way_65 : decode cX12_way 65 = .ok (.getfield 129, 3) := by decide +kernel
theorem dX12_way_68 : decode cX12_way 68 = .ok (.iload 5, 2) := by decide +kernel
theorem dX12_way_70 : decode cX12_way 70 = .ok (.iaload, 1) := by decide +kernel
theorem dX12_way_71 : decode cX12_way 71 = .ok (.goto 22, 3) := by decide +kernel
theorem dX12_way_74 : decode cX12_way 74 = .ok (.aload_n 0, 1) := by decide +kernel
theorem dX12_way_75 : decode cX12_way 75 = .ok (.getfield 123, 3) := by decide +kernel
theorem dX12_way_78 : decode cX12_way 78 = .ok (.iload 5, 2) := by decide +kernel
theorem dX12_way_80 : decode cX12_way 80 = .ok (.iaload, 1) := by decide +kernel
theorem dX12_way_81 : decode cX12_way 81 = .ok (.aload_n 0, 1) := by decide +kernel
theorem dX12_way_82 : decode cX12_way 82 = .ok (.getfield 126, 3) := by decide +kernel
theorem dX12_way_85 : decode cX12_way 85 = .ok (.iload 5, 2) := by decide +kernel
theorem dX12_way_87 : decode cX12_way 87 = .ok (.iaload, 1) := by decide +kernel
theorem dX12_way_88 : decode cX12_way 88 = .ok (.iload 4, 2) := by decide +kernel
theorem dX12_way_90 : decode cX12_way 90 = .ok (.invokestatic 231, 3) := by decide +kernel
theorem dX12_way_93 : decode cX12_way 93 = .ok (.ireturn, 1) := by decide +kernel
theorem dX12_slice_0 : decode cX12_slice 0 = .ok (.iload_n 1, 1) := by decide +kernel
theorem dX12_slice_1 : decode cX12_slice 1 = .ok (.iconst 0, 1) := by decide +kernel
theorem dX12_slice_2 : decode cX12_slice 2 = .ok (.iconst 4, 1) := by decide +kernel
theorem dX12_slice_3 : decode cX12_slice 3 = .ok (.invokestatic 189, 3) := by decide +kernel
theorem dX12_slice_6 : decode cX12_slice 6 = .ok (.ifCond .eq 34, 3) := by decide +kernel
theorem dX12_slice_9 : decode cX12_slice 9 = .ok (.aload_n 0, 1) := by decide +kernel
theorem dX12_slice_10 : decode cX12_slice 10 = .ok (.iload_n 2, 1) := by decide +kernel
theorem dX12_slice_11 : decode cX12_slice 11 = .ok (.iload_n 3, 1) := by decide +kernel
theorem dX12_slice_12 : decode cX12_slice 12 = .ok (.invokevirtual 224, 3) := by decide +kernel
theorem dX12_slice_15 : decode cX12_slice 15 = .ok (.ifCond .eq 25, 3) := by decide +kernel
theorem dX12_slice_18 : decode cX12_slice 18 = .ok (.iload 4, 2) := by decide +kernel
theorem dX12_slice_20 : decode cX12_slice 20 = .ok (.iconst 1, 1) := by decide +kernel
theorem dX12_slice_21 : decode cX12_slice 21 = .ok (.bipush 20, 2) := by decide +kernel
theorem dX12_slice_23 : decode cX12_slice 23 = .ok (.invokestatic 189, 3) := by decide +kernel
theorem dX12_slice_26 : decode cX12_slice 26 = .ok (.ifCond .eq 14, 3) := by decide +kernel
theorem dX12_slice_29 : decode cX12_slice 29 = .ok (.iload 5, 2) := by decide +kernel
theorem dX12_slice_31 : decode cX12_slice 31 = .ok (.iconst 1, 1) := by decide +kernel
theorem dX12_slice_32 : decode cX12_slice 32 = .ok (.bipush 99, 2) := by decide +kernel
theorem dX12_slice_34 : decode cX12_slice 34 = .ok (.invokestatic 189, 3) := by decide +kernel
theorem dX12_slice_37 : decode cX12_slice 37 = .ok (.ifCond .ne 10, 3) := by decide +kernel
theorem dX12_slice_40 : decode cX12_slice 40 = .ok (.aload_n 0, 1) := by decide +kernel
theorem dX12_slice_41 : decode cX12_slice 41 = .ok (.ldc 199, 2) := by decide +kernel
theorem dX12_slice_43 : decode cX12_slice 43 = .ok (.invokevirtual 200, 3) := by decide +kernel
theorem dX12_slice_46 : decode cX12_slice 46 = .ok (.ireturn, 1) := by decide +kernel
theorem dX12_slice_47 : decode cX12_slice 47 = .ok (.aload_n 0, 1) := by decide +kernel
theorem dX12_slice_48 : decode cX12_slice 48 = .ok (.getfield 196, 3) := by decide +kernel
theorem dX12_slice_51 : decode cX12_slice 51 = .ok (.bipush 8, 2) := by decide +kernel
theorem dX12_slice_53 : decode cX12_slice 53 = .ok (.if_icmp .ne 10, 3) := by decide +kernel
theorem dX12_slice_56 : decode cX12_slice 56 = .ok (.aload_n 0, 1) := by decide +kernel
theorem dX12_slice_57 : decode cX12_slice 57 = .ok (.ldc 204, 2) := by decide +kernel
theorem dX12_slice_59 : decode cX12_slice 59 = .ok (.invokevirtual 200, 3) := by decide +kernel
theorem dX12_slice_62 : decode cX12_slice 62 = .ok (.ireturn, 1) := by decide +kernel
theorem dX12_slice_63 : decode cX12_slice 63 = .ok (.aload_n 0, 1) := by decide +kernel
theorem dX12_slice_64 : decode cX12_slice 64 = .ok (.getfield 45, 3) := by decide +kernel
theorem dX12_slice_67 : decode cX12_slice 67 = .ok (.aload_n 0, 1) := by decide +kernel
theorem dX12_slice_68 : decode cX12_slice 68 = .ok (.getfield 196, 3) := by decide +kernel
theorem dX12_slice_71 : decode cX12_slice 71 = .ok (.iload_n 1, 1) := by decide +kernel
theorem dX12_slice_72 : decode cX12_slice 72 = .ok (.iastore, 1) := by decide +kernel
theorem dX12_slice_73 : decode cX12_slice 73 = .ok (.aload_n 0, 1) := by decide +kernel
theorem dX12_slice_74 : decode cX12_slice 74 = .ok (.getfield 48, 3) := by decide +kernel
theorem dX12_slice_77 : decode cX12_slice 77 = .ok (.aload_n 0, 1) := by decide +kernel
theorem dX12_slice_78 : decode cX12_slice 78 = .ok (.getfield 196, 3) := by decide +kernel
theorem dX12_slice_81 : decode cX12_slice 81 = .ok (.iload_n 2, 1) := by decide +kernel
theorem dX12_slice_82 : decode cX12_slice 82 = .ok (.iastore, 1) := by decide +kernel
theorem dX12_slice_83 : decode cX12_slice 83 = .ok (.aload_n 0, 1) := by decide +kernel
theorem dX12_slice_84 : decode cX12_slice 84 = .ok (.getfield 51, 3) := by decide +kernel
theorem dX12_slice_87 : decode cX12_slice 87 = .ok (.aload_n 0, 1) := by decide +kernel
theorem dX12_slice_88 : decode cX12_slice 88 = .ok (.getfield 196, 3) := by decide +kernel
theorem dX12_slice_91 : decode cX12_slice 91 = .ok (.iload_n 3, 1) := by decide +kernel
theorem dX12_slice_92 : decode cX12_slice 92 = .ok (.iastore, 1) := by decide +kernel
theorem dX12_slice_93 : decode cX12_slice 93 = .ok (.aload_n 0, 1) := by decide +kernel
theorem dX12_slice_94 : decode cX12_slice 94 = .ok (.getfield 54, 3) := by decide +kernel
theorem dX12_slice_97 : decode cX12_slice 97 = .ok (.aload_n 0, 1) := by decide +kernel
theorem dX12_slice_98 : decode cX12_slice 98 = .ok (.getfield 196, 3) := by decide +kernel
theorem dX12_slice_101 : decode cX12_slice 101 = .ok (.iload 4, 2) := by decide +kernel
theorem dX12_slice_103 : decode cX12_slice 103 = .ok (.iastore, 1) := by decide +kernel
theorem dX12_slice_104 : decode cX12_slice 104 = .ok (.aload_n 0, 1) := by decide +kernel
theorem dX12_slice_105 : decode cX12_slice 105 = .ok (.getfield 57, 3) := by decide +kernel
theorem dX12_slice_108 : decode cX12_slice 108 = .ok (.aload_n 0, 1) := by decide +kernel
theorem dX12_slice_109 : decode cX12_slice 109 = .ok (.getfield 196, 3) := by decide +kernel
theorem dX12_slice_112 : decode cX12_slice 112 = .ok (.iload 5, 2) := by decide +kernel
theorem dX12_slice_114 : decode cX12_slice 114 = .ok (.iastore, 1) := by decide +kernel
theorem dX12_slice_115 : decode cX12_slice 115 = .ok (.aload_n 0, 1) := by decide +kernel
theorem dX12_slice_116 : decode cX12_slice 116 = .ok (.getfield 72, 3) := by decide +kernel
theorem dX12_slice_119 : decode cX12_slice 119 = .ok (.aload_n 0, 1) := by decide +kernel
theorem dX12_slice_120 : decode cX12_slice 120 = .ok (.getfield 196, 3) := by decide +kernel
theorem dX12_slice_123 : decode cX12_slice 123 = .ok (.bipush 23, 2) := by decide +kernel
theorem dX12_slice_125 : decode cX12_slice 125 = .ok (.iastore, 1) := by decide +kernel
theorem dX12_slice_126 : decode cX12_slice 126 = .ok (.aload_n 0, 1) := by decide +kernel
theorem dX12_slice_127 : decode cX12_slice 127 = .ok (.dup, 1) := by decide +kernel
theorem dX12_slice_128 : decode cX12_slice 128 = .ok (.getfield 196, 3) := by decide +kernel
theorem dX12_slice_131 : decode cX12_slice 131 = .ok (.iconst 1, 1) := by decide +kernel
theorem dX12_slice_132 : decode cX12_slice 132 = .ok (.iadd, 1) := by decide +kernel
theorem dX12_slice_133 : decode cX12_slice 133 = .ok (.putfield 196, 3) := by decide +kernel
theorem dX12_slice_136 : decode cX12_slice 136 = .ok (.aload_n 0, 1) := by decide +kernel
theorem dX12_slice_137 : decode cX12_slice 137 = .ok (.getfield 196, 3) := by decide +kernel
theorem dX12_slice_140 : decode cX12_slice 140 = .ok (.iconst 1, 1) := by decide +kernel
theorem dX12_slice_141 : decode cX12_slice 141 = .ok (.isub, 1) := by decide +kernel
theorem dX12_slice_142 : decode cX12_slice 142 = .ok (.ireturn, 1) := by decide +kernel
theorem dX12_terms_0 : decode cX12_terms 0 = .ok (.aload_n 0, 1) := by decide +kernel
theorem dX12_terms_1 : decode cX12_terms 1 = .ok (.iload_n 1, 1) := by decide +kernel
theorem dX12_terms_2 : decode cX12_terms 2 = .ok (.invokevirtual 235, 3) := by decide +kernel
theorem dX12_terms_5 : decode cX12_terms 5 = .ok (.ifCond .eq 39, 3) := by decide +kernel
theorem dX12_terms_8 : decode cX12_terms 8 = .ok (.iload_n 2, 1) := by decide +kernel
theorem dX12_terms_9 : decode cX12_terms 9 = .ok (.iconst 0, 1) := by decide +kernel
theorem dX12_terms_10 : decode cX12_terms 10 = .ok (.aload_n 0, 1) := by decide +kernel
theorem dX12_terms_11 : decode cX12_terms 11 = .ok (.getfield 54, 3) := by decide +kernel
theorem dX12_terms_14 : decode cX12_terms 14 = .ok (.iload_n 1, 1) := by decide +kernel
theorem dX12_terms_15 : decode cX12_terms 15 = .ok (.iaload, 1) := by decide +kernel
theorem dX12_terms_16 : decode cX12_terms 16 = .ok (.invokestatic 189, 3) := by decide +kernel
theorem dX12_terms_19 : decode cX12_terms 19 = .ok (.ifCond .eq 25, 3) := by decide +kernel
theorem dX12_terms_22 : decode cX12_terms 22 = .ok (.iload_n 3, 1) := by decide +kernel
theorem dX12_terms_23 : decode cX12_terms 23 = .ok (.iconst 0, 1) := by decide +kernel
theorem dX12_terms_24 : decode cX12_terms 24 = .ok (.bipush 20, 2) := by decide +kernel
theorem dX12_terms_26 : decode cX12_terms 26 = .ok (.invokestatic 189, 3) := by decide +kernel
theorem dX12_terms_29 : decode cX12_terms 29 = .ok (.ifCond .eq 15, 3) := by decide +kernel
theorem dX12_terms_32 : decode cX12_terms 32 = .ok (.iload 4, 2) := by decide +kernel
theorem dX12_terms_34 : decode cX12_terms 34 = .ok (.iconst 0, 1) := by decide +kernel
theorem dX12_terms_35 : decode cX12_terms 35 = .ok (.sipush 1000, 3) := by decide +kernel
theorem dX12_terms_38 : decode cX12_terms 38 = .ok (.invokestatic 189, 3) := by decide +kernel
theorem dX12_terms_41 : decode cX12_terms 41 = .ok (.ifCond .ne 10, 3) := by decide +kernel
theorem dX12_terms_44 : decode cX12_terms 44 = .ok (.aload_n 0, 1) := by decide +kernel
theorem dX12_terms_45 : decode cX12_terms 45 = .ok (.ldc 199, 2) := by decide +kernel
theorem dX12_terms_47 : decode cX12_terms 47 = .ok (.invokevirtual 200, 3) := by decide +kernel
theorem dX12_terms_50 : decode cX12_terms 50 = .ok (.ireturn, 1) := by decide +kernel
theorem dX12_terms_51 : decode cX12_terms 51 = .ok (.aload_n 0, 1) := by decide +kernel
theorem dX12_terms_52 : decode cX12_terms 52 = .ok (.getfield 93, 3) := by decide +kernel
theorem dX12_terms_55 : decode cX12_terms 55 = .ok (.iload_n 1, 1) := by decide +kernel
theorem dX12_terms_56 : decode cX12_terms 56 = .ok (.baload, 1) := by decide +kernel
theorem dX12_terms_57 : decode cX12_terms 57 = .ok (.ifCond .eq 10, 3) := by decide +kernel
theorem dX12_terms_60 : decode cX12_terms 60 = .ok (.aload_n 0, 1) := by decide +kernel
theorem dX12_terms_61 : decode cX12_terms 61 = .ok (.ldc 238, 2) := by decide +kernel
theorem dX12_terms_63 : decode cX12_terms 63 = .ok (.invokevirtual 200, 3) := by decide +kernel
theorem dX12_terms_66 : decode cX12_terms 66 = .ok (.ireturn, 1) := by decide +kernel
theorem dX12_terms_67 : decode cX12_terms 67 = .ok (.aload_n 0, 1) := by decide +kernel
theorem dX12_terms_68 : decode cX12_terms 68 = .ok (.getfield 60, 3) := by decide +kernel
theorem dX12_terms_71 : decode cX12_terms 71 = .ok (.iload_n 1, 1) := by decide +kernel
theorem dX12_terms_72 : decode cX12_terms 72 = .ok (.iload_n 2, 1) := by decide +kernel
theorem dX12_terms_73 : decode cX12_terms 73 = .ok (.iastore, 1) := by decide +kernel
theorem dX12_terms_74 : decode cX12_terms 74 = .ok (.aload_n 0, 1) := by decide +kernel
theorem dX12_terms_75 : decode cX12_terms 75 = .ok (.getfield 63, 3) := by decide +kernel
theorem dX12_terms_78 : decode cX12_terms 78 = .ok (.iload_n 1, 1) := by decide +kernel
theorem dX12_terms_79 : decode cX12_terms 79 = .ok (.iload_n 3, 1) := by decide +kernel
theorem dX12_terms_80 : decode cX12_terms 80 = .ok (.iastore, 1) := by decide +kernel
theorem dX12_terms_81 : decode cX12_terms 81 = .ok (.aload_n 0, 1) := by decide +kernel
theorem dX12_terms_82 : decode cX12_terms 82 = .ok (.getfield 66, 3) := by decide +kernel
theorem dX12_terms_85 : decode cX12_terms 85 = .ok (.iload_n 1, 1) := by decide +kernel
theorem dX12_terms_86 : decode cX12_terms 86 = .ok (.iload 4, 2) := by decide +kernel
theorem dX12_terms_88 : decode cX12_terms 88 = .ok (.iastore, 1) := by decide +kernel
theorem dX12_terms_89 : decode cX12_terms 89 = .ok (.iconst 1, 1) := by decide +kernel
theorem dX12_terms_90 : decode cX12_terms 90 = .ok (.ireturn, 1) := by decide +kernel
theorem dX12_span_0 : decode cX12_span 0 = .ok (.aload_n 0, 1) := by decide +kernel
theorem dX12_span_1 : decode cX12_span 1 = .ok (.iload_n 1, 1) := by decide +kernel
theorem dX12_span_2 : decode cX12_span 2 = .ok (.invokevirtual 235, 3) := by decide +kernel
theorem dX12_span_5 : decode cX12_span 5 = .ok (.ifCond .eq 31, 3) := by decide +kernel
theorem dX12_span_8 : decode cX12_span 8 = .ok (.iload_n 2, 1) := by decide +kernel
theorem dX12_span_9 : decode cX12_span 9 = .ok (.invokestatic 239, 3) := by decide +kernel
theorem dX12_span_12 : decode cX12_span 12 = .ok (.ifCond .eq 24, 3) := by decide +kernel
theorem dX12_span_15 : decode cX12_span 15 = .ok (.iload_n 3, 1) := by decide +kernel
theorem dX12_span_16 : decode cX12_span 16 = .ok (.iload_n 2, 1) := by decide +kernel
theorem dX12_span_17 : decode cX12_span 17 = .ok (.bipush 23, 2) := by decide +kernel
theorem dX12_span_19 : decode cX12_span 19 = .ok (.invokestatic 189, 3) := by decide +kernel
theorem dX12_span_22 : decode cX12_span 22 = .ok (.ifCond .eq 14, 3) := by decide +kernel
theorem dX12_span_25 : decode cX12_span 25 = .ok (.iload 4, 2) := by decide +kernel
theorem dX12_span_27 : decode cX12_span 27 = .ok (.iconst 0, 1) := by decide +kernel
theorem dX12_span_28 : decode cX12_span 28 = .ok (.bipush 63, 2) := by decide +kernel
theorem dX12_span_30 : decode cX12_span 30 = .ok (.invokestatic 189, 3) := by decide +kernel
theorem dX12_span_33 : decode cX12_span 33 = .ok (.ifCond .ne 10, 3) := by decide +kernel
theorem dX12_span_36 : decode cX12_span 36 = .ok (.aload_n 0, 1) := by decide +kernel
theorem dX12_span_37 : decode cX12_span 37 = .ok (.ldc 199, 2) := by decide +kernel
theorem dX12_span_39 : decode cX12_span 39 = .ok (.invokevirtual 200, 3) := by decide +kernel
theorem dX12_span_42 : decode cX12_span 42 = .ok (.ireturn, 1) := by decide +kernel
theorem dX12_span_43 : decode cX12_span 43 = .ok (.aload_n 0, 1) := by decide +kernel
theorem dX12_span_44 : decode cX12_span 44 = .ok (.getfield 93, 3) := by decide +kernel
theorem dX12_span_47 : decode cX12_span 47 = .ok (.iload_n 1, 1) := by decide +kernel
theorem dX12_span_48 : decode cX12_span 48 = .ok (.baload, 1) := by decide +kernel
theorem dX12_span_49 : decode cX12_span 49 = .ok (.ifCond .eq 10, 3) := by decide +kernel
theorem dX12_span_52 : decode cX12_span 52 = .ok (.aload_n 0, 1) := by decide +kernel
theorem dX12_span_53 : decode cX12_span 53 = .ok (.ldc 238, 2) := by decide +kernel
theorem dX12_span_55 : decode cX12_span 55 = .ok (.invokevirtual 200, 3) := by decide +kernel
theorem dX12_span_58 : decode cX12_span 58 = .ok (.ireturn, 1) := by decide +kernel
theorem dX12_span_59 : decode cX12_span 59 = .ok (.aload_n 0, 1) := by decide +kernel
theorem dX12_span_60 : decode cX12_span 60 = .ok (.getfield 69, 3) := by decide +kernel
theorem dX12_span_63 : decode cX12_span 63 = .ok (.iload_n 1, 1) := by decide +kernel
theorem dX12_span_64 : decode cX12_span 64 = .ok (.iload_n 2, 1) := by decide +kernel
theorem dX12_span_65 : decode cX12_span 65 = .ok (.iastore, 1) := by decide +kernel
theorem dX12_span_66 : decode cX12_span 66 = .ok (.aload_n 0, 1) := by decide +kernel
theorem dX12_span_67 : decode cX12_span 67 = .ok (.getfield 72, 3) := by decide +kernel
theorem dX12_span_70 : decode cX12_span 70 = .ok (.iload_n 1, 1) := by decide +kernel
theorem dX12_span_71 : decode cX12_span 71 = .ok (.iload_n 3, 1) := by decide +kernel
theorem dX12_span_72 : decode cX12_span 72 = .ok (.iastore, 1) := by decide +kernel
theorem dX12_span_73 : decode cX12_span 73 = .ok (.aload_n 0, 1) := by decide +kernel
theorem dX12_span_74 : decode cX12_span 74 = .ok (.getfield 75, 3) := by decide +kernel
theorem dX12_span_77 : decode cX12_span 77 = .ok (.iload_n 1, 1) := by decide +kernel
theorem dX12_span_78 : decode cX12_span 78 = .ok (.iload 4, 2) := by decide +kernel
theorem dX12_span_80 : decode cX12_span 80 = .ok (.iastore, 1) := by decide +kernel
theorem dX12_span_81 : decode cX12_span 81 = .ok (.iconst 1, 1) := by decide +kernel
theorem dX12_span_82 : decode cX12_span 82 = .ok (.ireturn, 1) := by decide +kernel
theorem dX12_as_0 : decode cX12_as 0 = .ok (.aload_n 0, 1) := by decide +kernel
theorem dX12_as_1 : decode cX12_as 1 = .ok (.iload_n 1, 1) := by decide +kernel
theorem dX12_as_2 : decode cX12_as 2 = .ok (.invokevirtual 235, 3) := by decide +kernel
theorem dX12_as_5 : decode cX12_as 5 = .ok (.ifCond .eq 12, 3) := by decide +kernel
theorem dX12_as_8 : decode cX12_as 8 = .ok (.iload_n 2, 1) := by decide +kernel
theorem dX12_as_9 : decode cX12_as 9 = .ok (.iconst 0, 1) := by decide +kernel
theorem dX12_as_10 : decode cX12_as 10 = .ok (.iconst 4, 1) := by decide +kernel
theorem dX12_as_11 : decode cX12_as 11 = .ok (.invokestatic 189, 3) := by decide +kernel
theorem dX12_as_14 : decode cX12_as 14 = .ok (.ifCond .ne 10, 3) := by decide +kernel
theorem dX12_as_17 : decode cX12_as 17 = .ok (.aload_n 0, 1) := by decide +kernel
theorem dX12_as_18 : decode cX12_as 18 = .ok (.ldc 199, 2) := by decide +kernel
theorem dX12_as_20 : decode cX12_as 20 = .ok (.invokevirtual 200, 3) := by decide +kernel
theorem dX12_as_23 : decode cX12_as 23 = .ok (.ireturn, 1) := by decide +kernel
theorem dX12_as_24 : decode cX12_as 24 = .ok (.aload_n 0, 1) := by decide +kernel
theorem dX12_as_25 : decode cX12_as 25 = .ok (.getfield 45, 3) := by decide +kernel
theorem dX12_as_28 : decode cX12_as 28 = .ok (.iload_n 1, 1) := by decide +kernel
theorem dX12_as_29 : decode cX12_as 29 = .ok (.iaload, 1) := by decide +kernel
theorem dX12_as_30 : decode cX12_as 30 = .ok (.istore_n 3, 1) := by decide +kernel
theorem dX12_as_31 : decode cX12_as 31 = .ok (.iload_n 2, 1) := by decide +kernel
theorem dX12_as_32 : decode cX12_as 32 = .ok (.ifCond .eq 18, 3) := by decide +kernel
theorem dX12_as_35 : decode cX12_as 35 = .ok (.iload_n 2, 1) := by decide +kernel
theorem dX12_as_36 : decode cX12_as 36 = .ok (.iload_n 3, 1) := by decide +kernel
theorem dX12_as_37 : decode cX12_as 37 = .ok (.if_icmp .eq 13, 3) := by decide +kernel
theorem dX12_as_40 : decode cX12_as 40 = .ok (.iload_n 2, 1) := by decide +kernel
theorem dX12_as_41 : decode cX12_as 41 = .ok (.iconst 2, 1) := by decide +kernel
theorem dX12_as_42 : decode cX12_as 42 = .ok (.if_icmp .ne 12, 3) := by decide +kernel
theorem dX12_as_45 : decode cX12_as 45 = .ok (.iload_n 3, 1) := by decide +kernel
theorem dX12_as_46 : decode cX12_as 46 = .ok (.iconst 3, 1) := by decide +kernel
theorem dX12_as_47 : decode cX12_as 47 = .ok (.if_icmp .ne 7, 3) := by decide +kernel
theorem dX12_as_50 : decode cX12_as 50 = .ok (.iconst 1, 1) := by decide +kernel
theorem dX12_as_51 : decode cX12_as 51 = .ok (.goto 4, 3) := by decide +kernel
theorem dX12_as_54 : decode cX12_as 54 = .ok (.iconst 0, 1) := by decide +kernel
theorem dX12_as_55 : decode cX12_as 55 = .ok (.istore 4, 2) := by decide +kernel
theorem dX12_as_57 : decode cX12_as 57 = .ok (.iload 4, 2) := by decide +kernel
theorem dX12_as_59 : decode cX12_as 59 = .ok (.ifCond .eq 7, 3) := by decide +kernel
theorem dX12_as_62 : decode cX12_as 62 = .ok (.iload_n 1, 1) := by decide +kernel
theorem dX12_as_63 : decode cX12_as 63 = .ok (.goto 9, 3) := by decide +kernel
theorem dX12_as_66 : decode cX12_as 66 = .ok (.aload_n 0, 1) := by decide +kernel
theorem dX12_as_67 : decode cX12_as 67 = .ok (.ldc 242, 2) := by decide +kernel
theorem dX12_as_69 : decode cX12_as 69 = .ok (.invokevirtual 200, 3) := by decide +kernel
theorem dX12_as_72 : decode cX12_as 72 = .ok (.ireturn, 1) := by decide +kernel
theorem dX12_need_0 : decode cX12_need 0 = .ok (.aload_n 0, 1) := by decide +kernel
theorem dX12_need_1 : decode cX12_need 1 = .ok (.getfield 45, 3) := by decide +kernel
theorem dX12_need_4 : decode cX12_need 4 = .ok (.iload_n 1, 1) := by decide +kernel
theorem dX12_need_5 : decode cX12_need 5 = .ok (.iaload, 1) := by decide +kernel
theorem dX12_need_6 : decode cX12_need 6 = .ok (.iconst 3, 1) := by decide +kernel
theorem dX12_need_7 : decode cX12_need 7 = .ok (.if_icmp .ne 7, 3) := by decide +kernel
theorem dX12_need_10 : decode cX12_need 10 = .ok (.iconst 0, 1) := by decide +kernel
theorem dX12_need_11 : decode cX12_need 11 = .ok (.goto 28, 3) := by decide +kernel
theorem dX12_need_14 : decode cX12_need 14 = .ok (.aload_n 0, 1) := by decide +kernel
theorem dX12_need_15 : decode cX12_need 15 = .ok (.getfield 45, 3) := by decide +kernel
theorem dX12_need_18 : decode cX12_need 18 = .ok (.iload_n 1, 1) := by decide +kernel
theorem dX12_need_19 : decode cX12_need 19 = .ok (.iaload, 1) := by decide +kernel
theorem dX12_need_20 : decode cX12_need 20 = .ok (.iconst 2, 1) := by decide +kernel
theorem dX12_need_21 : decode cX12_need 21 = .ok (.if_icmp .ne 12, 3) := by decide +kernel
theorem dX12_need_24 : decode cX12_need 24 = .ok (.aload_n 0, 1) := by decide +kernel
theorem dX12_need_25 : decode cX12_need 25 = .ok (.getfield 60, 3) := by decide +kernel
theorem dX12_need_28 : decode cX12_need 28 = .ok (.iload_n 1, 1) := by decide +kernel
theorem dX12_need_29 : decode cX12_need 29 = .ok (.iaload, 1) := by decide +kernel
theorem dX12_need_30 : decode cX12_need 30 = .ok (.goto 9, 3) := by decide +kernel
theorem dX12_need_33 : decode cX12_need 33 = .ok (.aload_n 0, 1) := by decide +kernel
theorem dX12_need_34 : decode cX12_need 34 = .ok (.getfield 54, 3) := by decide +kernel
theorem dX12_need_37 : decode cX12_need 37 = .ok (.iload_n 1, 1) := by decide +kernel
theorem dX12_need_38 : decode cX12_need 38 = .ok (.iaload, 1) := by decide +kernel
theorem dX12_need_39 : decode cX12_need 39 = .ok (.ireturn, 1) := by decide +kernel
theorem dX12_does_0 : decode cX12_does 0 = .ok (.iload_n 2, 1) := by decide +kernel
theorem dX12_does_1 : decode cX12_does 1 = .ok (.aload_n 0, 1) := by decide +kernel
theorem dX12_does_2 : decode cX12_does 2 = .ok (.getfield 69, 3) := by decide +kernel
theorem dX12_does_5 : decode cX12_does 5 = .ok (.iload_n 1, 1) := by decide +kernel
theorem dX12_does_6 : decode cX12_does 6 = .ok (.iaload, 1) := by decide +kernel
theorem dX12_does_7 : decode cX12_does 7 = .ok (.aload_n 0, 1) := by decide +kernel
theorem dX12_does_8 : decode cX12_does 8 = .ok (.getfield 72, 3) := by decide +kernel
theorem dX12_does_11 : decode cX12_does 11 = .ok (.iload_n 1, 1) := by decide +kernel
theorem dX12_does_12 : decode cX12_does 12 = .ok (.iaload, 1) := by decide +kernel
theorem dX12_does_13 : decode cX12_does 13 = .ok (.invokestatic 189, 3) := by decide +kernel
theorem dX12_does_16 : decode cX12_does 16 = .ok (.ifCond .eq 33, 3) := by decide +kernel
theorem dX12_does_19 : decode cX12_does 19 = .ok (.aload_n 0, 1) := by decide +kernel
theorem dX12_does_20 : decode cX12_does 20 = .ok (.getfield 45, 3) := by decide +kernel
theorem dX12_does_23 : decode cX12_does 23 = .ok (.iload_n 1, 1) := by decide +kernel
theorem dX12_does_24 : decode cX12_does 24 = .ok (.iaload, 1) := by decide +kernel
theorem dX12_does_25 : decode cX12_does 25 = .ok (.iconst 4, 1) := by decide +kernel
theorem dX12_does_26 : decode cX12_does 26 = .ok (.if_icmp .ne 19, 3) := by decide +kernel
theorem dX12_does_29 : decode cX12_does 29 = .ok (.aload_n 0, 1) := by decide +kernel
theorem dX12_does_30 : decode cX12_does 30 = .ok (.getfield 75, 3) := by decide +kernel
theorem dX12_does_33 : decode cX12_does 33 = .ok (.iload_n 1, 1) := by decide +kernel
theorem dX12_does_34 : decode cX12_does 34 = .ok (.iaload, 1) := by decide +kernel
theorem dX12_does_35 : decode cX12_does 35 = .ok (.iload_n 2, 1) := by decide +kernel
theorem dX12_does_36 : decode cX12_does 36 = .ok (.bipush 6, 2) := by decide +kernel
theorem dX12_does_38 : decode cX12_does 38 = .ok (.irem, 1) := by decide +kernel
theorem dX12_does_39 : decode cX12_does 39 = .ok (.invokestatic 212, 3) := by decide +kernel
theorem dX12_does_42 : decode cX12_does 42 = .ok (.ifCond .eq 7, 3) := by decide +kernel
theorem dX12_does_45 : decode cX12_does 45 = .ok (.iconst 1, 1) := by decide +kernel
theorem dX12_does_46 : decode cX12_does 46 = .ok (.goto 4, 3) := by decide +kernel
theorem dX12_does_49 : decode cX12_does 49 = .ok (.iconst 0, 1) := by decide +kernel
theorem dX12_does_50 : decode cX12_does 50 = .ok (.ireturn, 1) := by decide +kernel
theorem dX12_countIn_0 : decode cX12_countIn 0 = .ok (.iconst 0, 1) := by decide +kernel
theorem dX12_countIn_1 : decode cX12_countIn 1 = .ok (.istore_n 1, 1) := by decide +kernel
theorem dX12_countIn_2 : decode cX12_countIn 2 = .ok (.iconst 0, 1) := by decide +kernel
theorem dX12_countIn_3 : decode cX12_countIn 3 = .ok (.istore_n 2, 1) := by decide +kernel
theorem dX12_countIn_4 : decode cX12_countIn 4 = .ok (.iload_n 2, 1) := by decide +kernel
theorem dX12_countIn_5 : decode cX12_countIn 5 = .ok (.aload_n 0, 1) := by decide +kernel
theorem dX12_countIn_6 : decode cX12_countIn 6 = .ok (.getfield 196, 3) := by decide +kernel
theorem dX12_countIn_9 : decode cX12_countIn 9 = .ok (.if_icmp .ge 26, 3) := by decide +kernel
theorem dX12_countIn_12 : decode cX12_countIn 12 = .ok (.iload_n 1, 1) := by decide +kernel
theorem dX12_countIn_13 : decode cX12_countIn 13 = .ok (.aload_n 0, 1) := by decide +kernel
theorem dX12_countIn_14 : decode cX12_countIn 14 = .ok (.getfield 93, 3) := by decide +kernel
theorem dX12_countIn_17 : decode cX12_countIn 17 = .ok (.iload_n 2, 1) := by decide +kernel
theorem dX12_countIn_18 : decode cX12_countIn 18 = .ok (.baload, 1) := by decide +kernel
theorem dX12_countIn_19 : decode cX12_countIn 19 = .ok (.ifCond .eq 7, 3) := by decide +kernel
theorem dX12_countIn_22 : decode cX12_countIn 22 = .ok (.iconst 1, 1) := by decide +kernel
theorem dX12_countIn_23 : decode cX12_countIn 23 = .ok (.goto 4, 3) := by decide +kernel
theorem dX12_countIn_26 : decode cX12_countIn 26 = .ok (.iconst 0, 1) := by decide +kernel
theorem dX12_countIn_27 : decode cX12_countIn 27 = .ok (.iadd, 1) := by decide +kernel
theorem dX12_countIn_28 : decode cX12_countIn 28 = .ok (.istore_n 1, 1) := by decide +kernel
theorem dX12_countIn_29 : decode cX12_countIn 29 = .ok (.iinc 2 1, 3) := by decide +kernel
theorem dX12_countIn_32 : decode cX12_countIn 32 = .ok (.goto (-28), 3) := by decide +kernel
theorem dX12_countIn_35 : decode cX12_countIn 35 = .ok (.iload_n 1, 1) := by decide +kernel
theorem dX12_countIn_36 : decode cX12_countIn 36 = .ok (.ireturn, 1) := by decide +kernel
theorem dX12_of_0 : decode cX12_of 0 = .ok (.aload_n 0, 1) := by decide +kernel
theorem dX12_of_1 : decode cX12_of 1 = .ok (.iload_n 1, 1) := by decide +kernel
theorem dX12_of_2 : decode cX12_of 2 = .ok (.invokevirtual 235, 3) := by decide +kernel
theorem dX12_of_5 : decode cX12_of 5 = .ok (.ifCond .ne 10, 3) := by decide +kernel
theorem dX12_of_8 : decode cX12_of 8 = .ok (.aload_n 0, 1) := by decide +kernel
theorem dX12_of_9 : decode cX12_of 9 = .ok (.ldc 199, 2) := by decide +kernel
theorem dX12_of_11 : decode cX12_of 11 = .ok (.invokevirtual 200, 3) := by decide +kernel
theorem dX12_of_14 : decode cX12_of 14 = .ok (.ireturn, 1) := by decide +kernel
theorem dX12_of_15 : decode cX12_of 15 = .ok (.iload_n 2, 1) := by decide +kernel
theorem dX12_of_16 : decode cX12_of 16 = .ok (.tableswitch 221 0 17 #[88, 95, 102, 109, 116, 123, 130, 137, 144, 151, 158, 165, 180, 187, 194, 201, 208, 215], 88) := by decide +kernel
theorem dX12_of_104 : decode cX12_of 104 = .ok (.aload_n 0, 1) := by decide +kernel
theorem dX12_of_105 : decode cX12_of 105 = .ok (.getfield 45, 3) := by decide +kernel
theorem dX12_of_108 : decode cX12_of 108 = .ok (.iload_n 1, 1) := by decide +kernel
theorem dX12_of_109 : decode cX12_of 109 = .ok (.iaload, 1) := by decide +kernel
theorem dX12_of_110 : decode cX12_of 110 = .ok (.ireturn, 1) := by decide +kernel
theorem dX12_of_111 : decode cX12_of 111 = .ok (.aload_n 0, 1) := by decide +kernel
theorem dX12_of_112 : decode cX12_of 112 = .ok (.getfield 48, 3) := by decide +kernel
theorem dX12_of_115 : decode cX12_of 115 = .ok (.iload_n 1, 1) := by decide +kernel
theorem dX12_of_116 : decode cX12_of 116 = .ok (.iaload, 1) := by decide +kernel
theorem dX12_of_117 : decode cX12_of 117 = .ok (.ireturn, 1) := by decide +kernel
theorem dX12_of_118 : decode cX12_of 118 = .ok (.aload_n 0, 1) := by decide +kernel
theorem dX12_of_119 : decode cX12_of 119 = .ok (.getfield 51, 3) := by decide +kernel
theorem dX12_of_122 : decode cX12_of 122 = .ok (.iload_n 1, 1) := by decide +kernel
theorem dX12_of_123 : decode cX12_of 123 = .ok (.iaload, 1) := by decide +kernel
theorem dX12_of_124 : decode cX12_of 124 = .ok (.ireturn, 1) := by decide +kernel
theorem dX12_of_125 : decode cX12_of 125 = .ok (.aload_n 0, 1) := by decide +kernel
theorem dX12_of_126 : decode cX12_of 126 = .ok (.getfield 54, 3) := by decide +kernel
theorem dX12_of_129 : decode cX12_of 129 = .ok (.iload_n 1, 1) := by decide +kernel
theorem dX12_of_130 : decode cX12_of 130 = .ok (.iaload, 1) := by decide +kernel
theorem dX12_of_131 : decode cX12_of 131 = .ok (.ireturn, 1) := by decide +kernel
theorem dX12_of_132 : decode cX12_of 132 = .ok (.aload_n 0, 1) := by decide +kernel
theorem dX12_of_133 : decode cX12_of 133 = .ok (.getfield 57, 3) := by decide +kernel
theorem dX12_of_136 : decode cX12_of 136 = .ok (.iload_n 1, 1) := by decide +kernel
theorem dX12_of_137 : decode cX12_of 137 = .ok (.iaload, 1) := by decide +kernel
theorem dX12_of_138 : decode cX12_of 138 = .ok (.ireturn, 1) := by decide +kernel
theorem dX12_of_139 : decode cX12_of 139 = .ok (.aload_n 0, 1) := by decide +kernel
theorem dX12_of_140 : decode cX12_of 140 = .ok (.getfield 60, 3) := by decide +kernel
theorem dX12_of_143 : decode cX12_of 143 = .ok (.iload_n 1, 1) := by decide +kernel
theorem dX12_of_144 : decode cX12_of 144 = .ok (.iaload, 1) := by decide +kernel
theorem dX12_of_145 : decode cX12_of 145 = .ok (.ireturn, 1) := by decide +kernel
theorem dX12_of_146 : decode cX12_of 146 = .ok (.aload_n 0, 1) := by decide +kernel
theorem dX12_of_147 : decode cX12_of 147 = .ok (.getfield 63, 3) := by decide +kernel
theorem dX12_of_150 : decode cX12_of 150 = .ok (.iload_n 1, 1) := by decide +kernel
theorem dX12_of_151 : decode cX12_of 151 = .ok (.iaload, 1) := by decide +kernel
theorem dX12_of_152 : decode cX12_of 152 = .ok (.ireturn, 1) := by decide +kernel
theorem dX12_of_153 : decode cX12_of 153 = .ok (.aload_n 0, 1) := by decide +kernel
theorem dX12_of_154 : decode cX12_of 154 = .ok (.getfield 66, 3) := by decide +kernel
theorem dX12_of_157 : decode cX12_of 157 = .ok (.iload_n 1, 1) := by decide +kernel
theorem dX12_of_158 : decode cX12_of 158 = .ok (.iaload, 1) := by decide +kernel
theorem dX12_of_159 : decode cX12_of 159 = .ok (.ireturn, 1) := by decide +kernel
theorem dX12_of_160 : decode cX12_of 160 = .ok (.aload_n 0, 1) := by decide +kernel
theorem dX12_of_161 : decode cX12_of 161 = .ok (.getfield 69, 3) := by decide +kernel
theorem dX12_of_164 : decode cX12_of 164 = .ok (.iload_n 1, 1) := by decide +kernel
theorem dX12_of_165 : decode cX12_of 165 = .ok (.iaload, 1) := by decide +kernel
theorem dX12_of_166 : decode cX12_of 166 = .ok (.ireturn, 1) := by decide +kernel
theorem dX12_of_167 : decode cX12_of 167 = .ok (.aload_n 0, 1) := by decide +kernel
theorem dX12_of_168 : decode cX12_of 168 = .ok (.getfield 72, 3) := by decide +kernel
theorem dX12_of_171 : decode cX12_of 171 = .ok (.iload_n 1, 1) := by decide +kernel
theorem dX12_of_172 : decode cX12_of 172 = .ok (.iaload, 1) := by decide +kernel
theorem dX12_of_173 : decode cX12_of 173 = .ok (.ireturn, 1) := by decide +kernel
theorem dX12_of_174 : decode cX12_of 174 = .ok (.aload_n 0, 1) := by decide +kernel
theorem dX12_of_175 : decode cX12_of 175 = .ok (.getfield 75, 3) := by decide +kernel
theorem dX12_of_178 : decode cX12_of 178 = .ok (.iload_n 1, 1) := by decide +kernel
theorem dX12_of_179 : decode cX12_of 179 = .ok (.iaload, 1) := by decide +kernel
theorem dX12_of_180 : decode cX12_of 180 = .ok (.ireturn, 1) := by decide +kernel
theorem dX12_of_181 : decode cX12_of 181 = .ok (.aload_n 0, 1) := by decide +kernel
theorem dX12_of_182 : decode cX12_of 182 = .ok (.getfield 93, 3) := by decide +kernel
theorem dX12_of_185 : decode cX12_of 185 = .ok (.iload_n 1, 1) := by decide +kernel
theorem dX12_of_186 : decode cX12_of 186 = .ok (.baload, 1) := by decide +kernel
theorem dX12_of_187 : decode cX12_of 187 = .ok (.ifCond .eq 7, 3) := by decide +kernel
theorem dX12_of_190 : decode cX12_of 190 = .ok (.iconst 1, 1) := by decide +kernel
theorem dX12_of_191 : decode cX12_of 191 = .ok (.goto 4, 3) := by decide +kernel
theorem dX12_of_194 : decode cX12_of 194 = .ok (.iconst 0, 1) := by decide +kernel
theorem dX12_of_195 : decode cX12_of 195 = .ok (.ireturn, 1) := by decide +kernel
theorem dX12_of_196 : decode cX12_of 196 = .ok (.aload_n 0, 1) := by decide +kernel
theorem dX12_of_197 : decode cX12_of 197 = .ok (.getfield 78, 3) := by decide +kernel
theorem dX12_of_200 : decode cX12_of 200 = .ok (.iload_n 1, 1) := by decide +kernel
theorem dX12_of_201 : decode cX12_of 201 = .ok (.iaload, 1) := by decide +kernel
theorem dX12_of_202 : decode cX12_of 202 = .ok (.ireturn, 1) := by decide +kernel
theorem dX12_of_203 : decode cX12_of 203 = .ok (.aload_n 0, 1) := by decide +kernel
theorem dX12_of_204 : decode cX12_of 204 = .ok (.getfield 81, 3) := by decide +kernel
theorem dX12_of_207 : decode cX12_of 207 = .ok (.iload_n 1, 1) := by decide +kernel
theorem dX12_of_208 : decode cX12_of 208 = .ok (.iaload, 1) := by decide +kernel
theorem dX12_of_209 : decode cX12_of 209 = .ok (.ireturn, 1) := by decide +kernel
theorem dX12_of_210 : decode cX12_of 210 = .ok (.aload_n 0, 1) := by decide +kernel
theorem dX12_of_211 : decode cX12_of 211 = .ok (.getfield 84, 3) := by decide +kernel
theorem dX12_of_214 : decode cX12_of 214 = .ok (.iload_n 1, 1) := by decide +kernel
theorem dX12_of_215 : decode cX12_of 215 = .ok (.iaload, 1) := by decide +kernel
theorem dX12_of_216 : decode cX12_of 216 = .ok (.ireturn, 1) := by decide +kernel
theorem dX12_of_217 : decode cX12_of 217 = .ok (.aload_n 0, 1) := by decide +kernel
theorem dX12_of_218 : decode cX12_of 218 = .ok (.getfield 87, 3) := by decide +kernel
theorem dX12_of_221 : decode cX12_of 221 = .ok (.iload_n 1, 1) := by decide +kernel
theorem dX12_of_222 : decode cX12_of 222 = .ok (.iaload, 1) := by decide +kernel
theorem dX12_of_223 : decode cX12_of 223 = .ok (.ireturn, 1) := by decide +kernel
theorem dX12_of_224 : decode cX12_of 224 = .ok (.aload_n 0, 1) := by decide +kernel
theorem dX12_of_225 : decode cX12_of 225 = .ok (.getfield 90, 3) := by decide +kernel
theorem dX12_of_228 : decode cX12_of 228 = .ok (.iload_n 1, 1) := by decide +kernel
theorem dX12_of_229 : decode cX12_of 229 = .ok (.iaload, 1) := by decide +kernel
theorem dX12_of_230 : decode cX12_of 230 = .ok (.ireturn, 1) := by decide +kernel
theorem dX12_of_231 : decode cX12_of 231 = .ok (.aload_n 0, 1) := by decide +kernel
theorem dX12_of_232 : decode cX12_of 232 = .ok (.iload_n 1, 1) := by decide +kernel
theorem dX12_of_233 : decode cX12_of 233 = .ok (.invokevirtual 243, 3) := by decide +kernel
theorem dX12_of_236 : decode cX12_of 236 = .ok (.ireturn, 1) := by decide +kernel
theorem dX12_of_237 : decode cX12_of 237 = .ok (.aload_n 0, 1) := by decide +kernel
theorem dX12_of_238 : decode cX12_of 238 = .ok (.ldc 199, 2) := by decide +kernel
theorem dX12_of_240 : decode cX12_of 240 = .ok (.invokevirtual 200, 3) := by decide +kernel
theorem dX12_of_243 : decode cX12_of 243 = .ok (.ireturn, 1) := by decide +kernel
theorem dX12_countingAt_0 : decode cX12_countingAt 0 = .ok (.iconst 0, 1) := by decide +kernel
theorem dX12_countingAt_1 : decode cX12_countingAt 1 = .ok (.istore_n 2, 1) := by decide +kernel
theorem dX12_countingAt_2 : decode cX12_countingAt 2 = .ok (.iconst 0, 1) := by decide +kernel
theorem dX12_countingAt_3 : decode cX12_countingAt 3 = .ok (.istore_n 3, 1) := by decide +kernel
theorem dX12_countingAt_4 : decode cX12_countingAt 4 = .ok (.iload_n 3, 1) := by decide +kernel
theorem dX12_countingAt_5 : decode cX12_countingAt 5 = .ok (.aload_n 0, 1) := by decide +kernel
theorem dX12_countingAt_6 : decode cX12_countingAt 6 = .ok (.getfield 196, 3) := by decide +kernel
theorem dX12_countingAt_9 : decode cX12_countingAt 9 = .ok (.if_icmp .ge 37, 3) := by decide +kernel
theorem dX12_countingAt_12 : decode cX12_countingAt 12 = .ok (.iload_n 2, 1) := by decide +kernel
theorem dX12_countingAt_13 : decode cX12_countingAt 13 = .ok (.aload_n 0, 1) := by decide +kernel
theorem dX12_countingAt_14 : decode cX12_countingAt 14 = .ok (.getfield 93, 3) := by decide +kernel
theorem dX12_countingAt_17 : decode cX12_countingAt 17 = .ok (.iload_n 3, 1) := by decide +kernel
theorem dX12_countingAt_18 : decode cX12_countingAt 18 = .ok (.baload, 1) := by decide +kernel
theorem dX12_countingAt_19 : decode cX12_countingAt 19 = .ok (.ifCond .eq 18, 3) := by decide +kernel
theorem dX12_countingAt_22 : decode cX12_countingAt 22 = .ok (.aload_n 0, 1) := by decide +kernel
theorem dX12_countingAt_23 : decode cX12_countingAt 23 = .ok (.iload_n 3, 1) := by decide +kernel
theorem dX12_countingAt_24 : decode cX12_countingAt 24 = .ok (.iload_n 1, 1) := by decide +kernel
theorem dX12_countingAt_25 : decode cX12_countingAt 25 = .ok (.invokevirtual 246, 3) := by decide +kernel
theorem dX12_countingAt_28 : decode cX12_countingAt 28 = .ok (.ifCond .eq 9, 3) := by decide +kernel
theorem dX12_countingAt_31 : decode cX12_countingAt 31 = .ok (.iconst 1, 1) := by decide +kernel
theorem dX12_countingAt_32 : decode cX12_countingAt 32 = .ok (.iload_n 3, 1) := by decide +kernel
theorem dX12_countingAt_33 : decode cX12_countingAt 33 = .ok (.ishl, 1) := by decide +kernel
theorem dX12_countingAt_34 : decode cX12_countingAt 34 = .ok (.goto 4, 3) := by decide +kernel
theorem dX12_countingAt_37 : decode cX12_countingAt 37 = .ok (.iconst 0, 1) := by decide +kernel
theorem dX12_countingAt_38 : decode cX12_countingAt 38 = .ok (.ior, 1) := by decide +kernel
theorem dX12_countingAt_39 : decode cX12_countingAt 39 = .ok (.istore_n 2, 1) := by decide +kernel
theorem dX12_countingAt_40 : decode cX12_countingAt 40 = .ok (.iinc 3 1, 3) := by decide +kernel
theorem dX12_countingAt_43 : decode cX12_countingAt 43 = .ok (.goto (-39), 3) := by decide +kernel
theorem dX12_countingAt_46 : decode cX12_countingAt 46 = .ok (.iload_n 2, 1) := by decide +kernel
theorem dX12_countingAt_47 : decode cX12_countingAt 47 = .ok (.ireturn, 1) := by decide +kernel
theorem dX12_loadOf_0 : decode cX12_loadOf 0 = .ok (.iconst 0, 1) := by decide +kernel
theorem dX12_loadOf_1 : decode cX12_loadOf 1 = .ok (.istore_n 3, 1) := by decide +kernel
theorem dX12_loadOf_2 : decode cX12_loadOf 2 = .ok (.iconst 0, 1) := by decide +kernel
theorem dX12_loadOf_3 : decode cX12_loadOf 3 = .ok (.istore 4, 2) := by decide +kernel
theorem dX12_loadOf_5 : decode cX12_loadOf 5 = .ok (.iload 4, 2) := by decide +kernel
theorem dX12_loadOf_7 : decode cX12_loadOf 7 = .ok (.aload_n 0, 1) := by decide +kernel
theorem dX12_loadOf_8 : decode cX12_loadOf 8 = .ok (.getfield 196, 3) := by decide +kernel
theorem dX12_loadOf_11 : decode cX12_loadOf 11 = .ok (.if_icmp .ge 45, 3) := by decide +kernel
theorem dX12_loadOf_14 : decode cX12_loadOf 14 = .ok (.iload_n 3, 1) := by decide +kernel
theorem dX12_loadOf_15 : decode cX12_loadOf 15 = .ok (.iload_n 2, 1) := by decide +kernel
theorem dX12_loadOf_16 : decode cX12_loadOf 16 = .ok (.iload 4, 2) := by decide +kernel
theorem dX12_loadOf_18 : decode cX12_loadOf 18 = .ok (.invokestatic 212, 3) := by decide +kernel
theorem dX12_loadOf_21 : decode cX12_loadOf 21 = .ok (.ifCond .eq 26, 3) := by decide +kernel
theorem dX12_loadOf_24 : decode cX12_loadOf 24 = .ok (.aload_n 0, 1) := by decide +kernel
theorem dX12_loadOf_25 : decode cX12_loadOf 25 = .ok (.getfield 96, 3) := by decide +kernel
theorem dX12_loadOf_28 : decode cX12_loadOf 28 = .ok (.iload 4, 2) := by decide +kernel
theorem dX12_loadOf_30 : decode cX12_loadOf 30 = .ok (.iaload, 1) := by decide +kernel
theorem dX12_loadOf_31 : decode cX12_loadOf 31 = .ok (.iload_n 1, 1) := by decide +kernel
theorem dX12_loadOf_32 : decode cX12_loadOf 32 = .ok (.invokestatic 212, 3) := by decide +kernel
theorem dX12_loadOf_35 : decode cX12_loadOf 35 = .ok (.ifCond .eq 12, 3) := by decide +kernel
theorem dX12_loadOf_38 : decode cX12_loadOf 38 = .ok (.aload_n 0, 1) := by decide +kernel
theorem dX12_loadOf_39 : decode cX12_loadOf 39 = .ok (.iload 4, 2) := by decide +kernel
theorem dX12_loadOf_41 : decode cX12_loadOf 41 = .ok (.invokevirtual 243, 3) := by decide +kernel
theorem dX12_loadOf_44 : decode cX12_loadOf 44 = .ok (.goto 4, 3) := by decide +kernel
theorem dX12_loadOf_47 : decode cX12_loadOf 47 = .ok (.iconst 0, 1) := by decide +kernel
theorem dX12_loadOf_48 : decode cX12_loadOf 48 = .ok (.iadd, 1) := by decide +kernel
theorem dX12_loadOf_49 : decode cX12_loadOf 49 = .ok (.istore_n 3, 1) := by decide +kernel
theorem dX12_loadOf_50 : decode cX12_loadOf 50 = .ok (.iinc 4 1, 3) := by decide +kernel
theorem dX12_loadOf_53 : decode cX12_loadOf 53 = .ok (.goto (-48), 3) := by decide +kernel
theorem dX12_loadOf_56 : decode cX12_loadOf 56 = .ok (.iload_n 3, 1) := by decide +kernel
theorem dX12_loadOf_57 : decode cX12_loadOf 57 = .ok (.ireturn, 1) := by decide +kernel
theorem dX12_fallOf_0 : decode cX12_fallOf 0 = .ok (.iconst 0, 1) := by decide +kernel
theorem dX12_fallOf_1 : decode cX12_fallOf 1 = .ok (.istore_n 3, 1) := by decide +kernel
theorem dX12_fallOf_2 : decode cX12_fallOf 2 = .ok (.iconst 0, 1) := by decide +kernel
theorem dX12_fallOf_3 : decode cX12_fallOf 3 = .ok (.istore 4, 2) := by decide +kernel
theorem dX12_fallOf_5 : decode cX12_fallOf 5 = .ok (.iload 4, 2) := by decide +kernel
theorem dX12_fallOf_7 : decode cX12_fallOf 7 = .ok (.aload_n 0, 1) := by decide +kernel
theorem dX12_fallOf_8 : decode cX12_fallOf 8 = .ok (.getfield 193, 3) := by decide +kernel
theorem dX12_fallOf_11 : decode cX12_fallOf 11 = .ok (.if_icmp .ge 116, 3) := by decide +kernel
theorem dX12_fallOf_14 : decode cX12_fallOf 14 = .ok (.iload 4, 2) := by decide +kernel
theorem dX12_fallOf_16 : decode cX12_fallOf 16 = .ok (.iload_n 1, 1) := by decide +kernel
theorem dX12_fallOf_17 : decode cX12_fallOf 17 = .ok (.if_icmp .ne 6, 3) := by decide +kernel
theorem dX12_fallOf_20 : decode cX12_fallOf 20 = .ok (.goto 101, 3) := by decide +kernel
theorem dX12_fallOf_23 : decode cX12_fallOf 23 = .ok (.iconst 0, 1) := by decide +kernel
theorem dX12_fallOf_24 : decode cX12_fallOf 24 = .ok (.istore 5, 2) := by decide +kernel
theorem dX12_fallOf_26 : decode cX12_fallOf 26 = .ok (.iconst 0, 1) := by decide +kernel
theorem dX12_fallOf_27 : decode cX12_fallOf 27 = .ok (.istore 6, 2) := by decide +kernel
theorem dX12_fallOf_29 : decode cX12_fallOf 29 = .ok (.iload 6, 2) := by decide +kernel
theorem dX12_fallOf_31 : decode cX12_fallOf 31 = .ok (.aload_n 0, 1) := by decide +kernel
theorem dX12_fallOf_32 : decode cX12_fallOf 32 = .ok (.getfield 196, 3) := by decide +kernel
theorem dX12_fallOf_35 : decode cX12_fallOf 35 = .ok (.if_icmp .ge 73, 3) := by decide +kernel
theorem dX12_fallOf_38 : decode cX12_fallOf 38 = .ok (.iload 5, 2) := by decide +kernel
theorem dX12_fallOf_40 : decode cX12_fallOf 40 = .ok (.iload_n 2, 1) := by decide +kernel
theorem dX12_fallOf_41 : decode cX12_fallOf 41 = .ok (.iload 6, 2) := by decide +kernel
theorem dX12_fallOf_43 : decode cX12_fallOf 43 = .ok (.invokestatic 212, 3) := by decide +kernel
theorem dX12_fallOf_46 : decode cX12_fallOf 46 = .ok (.ifCond .eq 52, 3) := by decide +kernel
theorem dX12_fallOf_49 : decode cX12_fallOf 49 = .ok (.aload_n 0, 1) := by decide +kernel
theorem dX12_fallOf_50 : decode cX12_fallOf 50 = .ok (.getfield 45, 3) := by decide +kernel
theorem dX12_fallOf_53 : decode cX12_fallOf 53 = .ok (.iload 6, 2) := by decide +kernel
theorem dX12_fallOf_55 : decode cX12_fallOf 55 = .ok (.iaload, 1) := by decide +kernel
theorem dX12_fallOf_56 : decode cX12_fallOf 56 = .ok (.iconst 1, 1) := by decide +kernel
theorem dX12_fallOf_57 : decode cX12_fallOf 57 = .ok (.if_icmp .ne 41, 3) := by decide +kernel
theorem dX12_fallOf_60 : decode cX12_fallOf 60 = .ok (.aload_n 0, 1) := by decide +kernel
theorem dX12_fallOf_61 : decode cX12_fallOf 61 = .ok (.getfield 96, 3) := by decide +kernel
theorem dX12_fallOf_64 : decode cX12_fallOf 64 = .ok (.iload 6, 2) := by decide +kernel
theorem dX12_fallOf_66 : decode cX12_fallOf 66 = .ok (.iaload, 1) := by decide +kernel
theorem dX12_fallOf_67 : decode cX12_fallOf 67 = .ok (.iload 4, 2) := by decide +kernel
theorem dX12_fallOf_69 : decode cX12_fallOf 69 = .ok (.invokestatic 212, 3) := by decide +kernel
theorem dX12_fallOf_72 : decode cX12_fallOf 72 = .ok (.ifCond .eq 26, 3) := by decide +kernel
theorem dX12_fallOf_75 : decode cX12_fallOf 75 = .ok (.aload_n 0, 1) := by decide +kernel
theorem dX12_fallOf_76 : decode cX12_fallOf 76 = .ok (.getfield 99, 3) := by decide +kernel
theorem dX12_fallOf_79 : decode cX12_fallOf 79 = .ok (.iload 6, 2) := by decide +kernel
theorem dX12_fallOf_81 : decode cX12_fallOf 81 = .ok (.iaload, 1) := by decide +kernel
theorem dX12_fallOf_82 : decode cX12_fallOf 82 = .ok (.iload_n 1, 1) := by decide +kernel
theorem dX12_fallOf_83 : decode cX12_fallOf 83 = .ok (.invokestatic 212, 3) := by decide +kernel
theorem dX12_fallOf_86 : decode cX12_fallOf 86 = .ok (.ifCond .eq 12, 3) := by decide +kernel
theorem dX12_fallOf_89 : decode cX12_fallOf 89 = .ok (.aload_n 0, 1) := by decide +kernel
theorem dX12_fallOf_90 : decode cX12_fallOf 90 = .ok (.iload 6, 2) := by decide +kernel
theorem dX12_fallOf_92 : decode cX12_fallOf 92 = .ok (.invokevirtual 243, 3) := by decide +kernel
theorem dX12_fallOf_95 : decode cX12_fallOf 95 = .ok (.goto 4, 3) := by decide +kernel
theorem dX12_fallOf_98 : decode cX12_fallOf 98 = .ok (.iconst 0, 1) := by decide +kernel
theorem dX12_fallOf_99 : decode cX12_fallOf 99 = .ok (.iadd, 1) := by decide +kernel
theorem dX12_fallOf_100 : decode cX12_fallOf 100 = .ok (.istore 5, 2) := by decide +kernel
theorem dX12_fallOf_102 : decode cX12_fallOf 102 = .ok (.iinc 6 1, 3) := by decide +kernel
theorem dX12_fallOf_105 : decode cX12_fallOf 105 = .ok (.goto (-76), 3) := by decide +kernel
theorem dX12_fallOf_108 : decode cX12_fallOf 108 = .ok (.iload 5, 2) := by decide +kernel
theorem dX12_fallOf_110 : decode cX12_fallOf 110 = .ok (.iload_n 3, 1) := by decide +kernel
theorem dX12_fallOf_111 : decode cX12_fallOf 111 = .ok (.if_icmp .le 8, 3) := by decide +kernel
theorem dX12_fallOf_114 : decode cX12_fallOf 114 = .ok (.iload 5, 2) := by decide +kernel
theorem dX12_fallOf_116 : decode cX12_fallOf 116 = .ok (.goto 4, 3) := by decide +kernel
theorem dX12_fallOf_119 : decode cX12_fallOf 119 = .ok (.iload_n 3, 1) := by decide +kernel
theorem dX12_fallOf_120 : decode cX12_fallOf 120 = .ok (.istore_n 3, 1) := by decide +kernel
theorem dX12_fallOf_121 : decode cX12_fallOf 121 = .ok (.iinc 4 1, 3) := by decide +kernel
theorem dX12_fallOf_124 : decode cX12_fallOf 124 = .ok (.goto (-119), 3) := by decide +kernel
theorem dX12_fallOf_127 : decode cX12_fallOf 127 = .ok (.iload_n 3, 1) := by decide +kernel
theorem dX12_fallOf_128 : decode cX12_fallOf 128 = .ok (.ireturn, 1) := by decide +kernel
theorem dX12_workOf_0 : decode cX12_workOf 0 = .ok (.iconst 0, 1) := by decide +kernel
theorem dX12_workOf_1 : decode cX12_workOf 1 = .ok (.istore_n 3, 1) := by decide +kernel
theorem dX12_workOf_2 : decode cX12_workOf 2 = .ok (.iconst 0, 1) := by decide +kernel
theorem dX12_workOf_3 : decode cX12_workOf 3 = .ok (.istore 4, 2) := by decide +kernel
theorem dX12_workOf_5 : decode cX12_workOf 5 = .ok (.iload 4, 2) := by decide +kernel
theorem dX12_workOf_7 : decode cX12_workOf 7 = .ok (.aload_n 0, 1) := by decide +kernel
theorem dX12_workOf_8 : decode cX12_workOf 8 = .ok (.getfield 196, 3) := by decide +kernel
theorem dX12_workOf_11 : decode cX12_workOf 11 = .ok (.if_icmp .ge 43, 3) := by decide +kernel
theorem dX12_workOf_14 : decode cX12_workOf 14 = .ok (.iload_n 3, 1) := by decide +kernel
theorem dX12_workOf_15 : decode cX12_workOf 15 = .ok (.iload_n 2, 1) := by decide +kernel
theorem dX12_workOf_16 : decode cX12_workOf 16 = .ok (.iload 4, 2) := by decide +kernel
theorem dX12_workOf_18 : decode cX12_workOf 18 = .ok (.invokestatic 212, 3) := by decide +kernel
theorem dX12_workOf_21 : decode cX12_workOf 21 = .ok (.ifCond .eq 24, 3) := by decide +kernel
theorem dX12_workOf_24 : decode cX12_workOf 24 = .ok (.aload_n 0, 1) := by decide +kernel
theorem dX12_workOf_25 : decode cX12_workOf 25 = .ok (.getfield 108, 3) := by decide +kernel
theorem dX12_workOf_28 : decode cX12_workOf 28 = .ok (.iload 4, 2) := by decide +kernel
theorem dX12_workOf_30 : decode cX12_workOf 30 = .ok (.iaload, 1) := by decide +kernel
theorem dX12_workOf_31 : decode cX12_workOf 31 = .ok (.iload_n 1, 1) := by decide +kernel
theorem dX12_workOf_32 : decode cX12_workOf 32 = .ok (.if_icmp .ne 13, 3) := by decide +kernel
theorem dX12_workOf_35 : decode cX12_workOf 35 = .ok (.aload_n 0, 1) := by decide +kernel
theorem dX12_workOf_36 : decode cX12_workOf 36 = .ok (.getfield 63, 3) := by decide +kernel
theorem dX12_workOf_39 : decode cX12_workOf 39 = .ok (.iload 4, 2) := by decide +kernel
theorem dX12_workOf_41 : decode cX12_workOf 41 = .ok (.iaload, 1) := by decide +kernel
theorem dX12_workOf_42 : decode cX12_workOf 42 = .ok (.goto 4, 3) := by decide +kernel
theorem dX12_workOf_45 : decode cX12_workOf 45 = .ok (.iconst 0, 1) := by decide +kernel
theorem dX12_workOf_46 : decode cX12_workOf 46 = .ok (.iadd, 1) := by decide +kernel
theorem dX12_workOf_47 : decode cX12_workOf 47 = .ok (.istore_n 3, 1) := by decide +kernel
theorem dX12_workOf_48 : decode cX12_workOf 48 = .ok (.iinc 4 1, 3) := by decide +kernel
theorem dX12_workOf_51 : decode cX12_workOf 51 = .ok (.goto (-46), 3) := by decide +kernel
theorem dX12_workOf_54 : decode cX12_workOf 54 = .ok (.iload_n 3, 1) := by decide +kernel
theorem dX12_workOf_55 : decode cX12_workOf 55 = .ok (.ireturn, 1) := by decide +kernel
theorem dX12_linesHold_0 : decode cX12_linesHold 0 = .ok (.iconst 0, 1) := by decide +kernel
theorem dX12_linesHold_1 : decode cX12_linesHold 1 = .ok (.istore_n 2, 1) := by decide +kernel
theorem dX12_linesHold_2 : decode cX12_linesHold 2 = .ok (.iload_n 2, 1) := by decide +kernel
theorem dX12_linesHold_3 : decode cX12_linesHold 3 = .ok (.aload_n 0, 1) := by decide +kernel
theorem dX12_linesHold_4 : decode cX12_linesHold 4 = .ok (.getfield 193, 3) := by decide +kernel
theorem dX12_linesHold_7 : decode cX12_linesHold 7 = .ok (.if_icmp .ge 33, 3) := by decide +kernel
theorem dX12_linesHold_10 : decode cX12_linesHold 10 = .ok (.aload_n 0, 1) := by decide +kernel
theorem dX12_linesHold_11 : decode cX12_linesHold 11 = .ok (.iload_n 2, 1) := by decide +kernel
theorem dX12_linesHold_12 : decode cX12_linesHold 12 = .ok (.iload_n 1, 1) := by decide +kernel
theorem dX12_linesHold_13 : decode cX12_linesHold 13 = .ok (.invokevirtual 249, 3) := by decide +kernel
theorem dX12_linesHold_16 : decode cX12_linesHold 16 = .ok (.aload_n 0, 1) := by decide +kernel
theorem dX12_linesHold_17 : decode cX12_linesHold 17 = .ok (.iload_n 2, 1) := by decide +kernel
theorem dX12_linesHold_18 : decode cX12_linesHold 18 = .ok (.iload_n 1, 1) := by decide +kernel
theorem dX12_linesHold_19 : decode cX12_linesHold 19 = .ok (.invokevirtual 253, 3) := by decide +kernel
theorem dX12_linesHold_22 : decode cX12_linesHold 22 = .ok (.iadd, 1) := by decide +kernel
theorem dX12_linesHold_23 : decode cX12_linesHold 23 = .ok (.aload_n 0, 1) := by decide +kernel
theorem dX12_linesHold_24 : decode cX12_linesHold 24 = .ok (.getfield 23, 3) := by decide +kernel
theorem dX12_linesHold_27 : decode cX12_linesHold 27 = .ok (.iload_n 2, 1) := by decide +kernel
theorem dX12_linesHold_28 : decode cX12_linesHold 28 = .ok (.iaload, 1) := by decide +kernel
theorem dX12_linesHold_29 : decode cX12_linesHold 29 = .ok (.if_icmp .le 5, 3) := by decide +kernel
theorem dX12_linesHold_32 : decode cX12_linesHold 32 = .ok (.iconst 0, 1) := by decide +kernel
theorem dX12_linesHold_33 : decode cX12_linesHold 33 = .ok (.ireturn, 1) := by decide +kernel
theorem dX12_linesHold_34 : decode cX12_linesHold 34 = .ok (.iinc 2 1, 3) := by decide +kernel
theorem dX12_linesHold_37 : decode cX12_linesHold 37 = .ok (.goto (-35), 3) := by decide +kernel
theorem dX12_linesHold_40 : decode cX12_linesHold 40 = .ok (.iconst 1, 1) := by decide +kernel
theorem dX12_linesHold_41 : decode cX12_linesHold 41 = .ok (.ireturn, 1) := by decide +kernel
theorem dX12_holds_0 : decode cX12_holds 0 = .ok (.iconst 0, 1) := by decide +kernel
theorem dX12_holds_1 : decode cX12_holds 1 = .ok (.istore_n 2, 1) := by decide +kernel
theorem dX12_holds_2 : decode cX12_holds 2 = .ok (.iload_n 2, 1) := by decide +kernel
theorem dX12_holds_3 : decode cX12_holds 3 = .ok (.bipush 24, 2) := by decide +kernel
theorem dX12_holds_5 : decode cX12_holds 5 = .ok (.if_icmp .ge 114, 3) := by decide +kernel
theorem dX12_holds_8 : decode cX12_holds 8 = .ok (.aload_n 0, 1) := by decide +kernel
theorem dX12_holds_9 : decode cX12_holds 9 = .ok (.iload_n 2, 1) := by decide +kernel
theorem dX12_holds_10 : decode cX12_holds 10 = .ok (.invokevirtual 256, 3) := by decide +kernel
theorem dX12_holds_13 : decode cX12_holds 13 = .ok (.istore_n 3, 1) := by decide +kernel
theorem dX12_holds_14 : decode cX12_holds 14 = .ok (.iconst 0, 1) := by decide +kernel
theorem dX12_holds_15 : decode cX12_holds 15 = .ok (.istore 4, 2) := by decide +kernel
theorem dX12_holds_17 : decode cX12_holds 17 = .ok (.iconst 0, 1) := by decide +kernel
theorem dX12_holds_18 : decode cX12_holds 18 = .ok (.istore 5, 2) := by decide +kernel
theorem dX12_holds_20 : decode cX12_holds 20 = .ok (.iload 5, 2) := by decide +kernel
theorem dX12_holds_22 : decode cX12_holds 22 = .ok (.iload_n 2, 1) := by decide +kernel
theorem dX12_holds_23 : decode cX12_holds 23 = .ok (.if_icmp .ge 31, 3) := by decide +kernel
theorem dX12_holds_26 : decode cX12_holds 26 = .ok (.iload 4, 2) := by decide +kernel
theorem dX12_holds_28 : decode cX12_holds 28 = .ok (.ifCond .ne 26, 3) := by decide +kernel
theorem dX12_holds_31 : decode cX12_holds 31 = .ok (.aload_n 0, 1) := by decide +kernel
theorem dX12_holds_32 : decode cX12_holds 32 = .ok (.iload 5, 2) := by decide +kernel
theorem dX12_holds_34 : decode cX12_holds 34 = .ok (.invokevirtual 256, 3) := by decide +kernel
theorem dX12_holds_37 : decode cX12_holds 37 = .ok (.iload_n 3, 1) := by decide +kernel
theorem dX12_holds_38 : decode cX12_holds 38 = .ok (.if_icmp .ne 7, 3) := by decide +kernel
theorem dX12_holds_41 : decode cX12_holds 41 = .ok (.iconst 1, 1) := by decide +kernel
theorem dX12_holds_42 : decode cX12_holds 42 = .ok (.goto 4, 3) := by decide +kernel
theorem dX12_holds_45 : decode cX12_holds 45 = .ok (.iconst 0, 1) := by decide +kernel
theorem dX12_holds_46 : decode cX12_holds 46 = .ok (.istore 4, 2) := by decide +kernel
theorem dX12_holds_48 : decode cX12_holds 48 = .ok (.iinc 5 1, 3) := by decide +kernel
theorem dX12_holds_51 : decode cX12_holds 51 = .ok (.goto (-31), 3) := by decide +kernel
theorem dX12_holds_54 : decode cX12_holds 54 = .ok (.iload 4, 2) := by decide +kernel
theorem dX12_holds_56 : decode cX12_holds 56 = .ok (.ifCond .eq 6, 3) := by decide +kernel
theorem dX12_holds_59 : decode cX12_holds 59 = .ok (.goto 54, 3) := by decide +kernel
theorem dX12_holds_62 : decode cX12_holds 62 = .ok (.aload_n 0, 1) := by decide +kernel
theorem dX12_holds_63 : decode cX12_holds 63 = .ok (.iload_n 3, 1) := by decide +kernel
theorem dX12_holds_64 : decode cX12_holds 64 = .ok (.invokevirtual 259, 3) := by decide +kernel
theorem dX12_holds_67 : decode cX12_holds 67 = .ok (.ifCond .ne 5, 3) := by decide +kernel
theorem dX12_holds_70 : decode cX12_holds 70 = .ok (.iconst 0, 1) := by decide +kernel
theorem dX12_holds_71 : decode cX12_holds 71 = .ok (.ireturn, 1) := by decide +kernel
theorem dX12_holds_72 : decode cX12_holds 72 = .ok (.iconst 0, 1) := by decide +kernel
theorem dX12_holds_73 : decode cX12_holds 73 = .ok (.istore 5, 2) := by decide +kernel
theorem dX12_holds_75 : decode cX12_holds 75 = .ok (.iload 5, 2) := by decide +kernel
theorem dX12_holds_77 : decode cX12_holds 77 = .ok (.aload_n 0, 1) := by decide +kernel
theorem dX12_holds_78 : decode cX12_holds 78 = .ok (.getfield 186, 3) := by decide +kernel
theorem dX12_holds_81 : decode cX12_holds 81 = .ok (.if_icmp .ge 32, 3) := by decide +kernel
theorem dX12_holds_84 : decode cX12_holds 84 = .ok (.iload_n 1, 1) := by decide +kernel
theorem dX12_holds_85 : decode cX12_holds 85 = .ok (.ifCond .ne 28, 3) := by decide +kernel
theorem dX12_holds_88 : decode cX12_holds 88 = .ok (.aload_n 0, 1) := by decide +kernel
theorem dX12_holds_89 : decode cX12_holds 89 = .ok (.iload 5, 2) := by decide +kernel
theorem dX12_holds_91 : decode cX12_holds 91 = .ok (.iload_n 3, 1) := by decide +kernel
theorem dX12_holds_92 : decode cX12_holds 92 = .ok (.invokevirtual 262, 3) := by decide +kernel
theorem dX12_holds_95 : decode cX12_holds 95 = .ok (.aload_n 0, 1) := by decide +kernel
theorem dX12_holds_96 : decode cX12_holds 96 = .ok (.getfield 13, 3) := by decide +kernel
theorem dX12_holds_99 : decode cX12_holds 99 = .ok (.iload 5, 2) := by decide +kernel
theorem dX12_holds_101 : decode cX12_holds 101 = .ok (.iaload, 1) := by decide +kernel
theorem dX12_holds_102 : decode cX12_holds 102 = .ok (.if_icmp .le 5, 3) := by decide +kernel
theorem dX12_holds_105 : decode cX12_holds 105 = .ok (.iconst 0, 1) := by decide +kernel
theorem dX12_holds_106 : decode cX12_holds 106 = .ok (.ireturn, 1) := by decide +kernel
theorem dX12_holds_107 : decode cX12_holds 107 = .ok (.iinc 5 1, 3) := by decide +kernel
theorem dX12_holds_110 : decode cX12_holds 110 = .ok (.goto (-35), 3) := by decide +kernel
theorem dX12_holds_113 : decode cX12_holds 113 = .ok (.iinc 2 1, 3) := by decide +kernel
theorem dX12_holds_116 : decode cX12_holds 116 = .ok (.goto (-114), 3) := by decide +kernel
theorem dX12_holds_119 : decode cX12_holds 119 = .ok (.iconst 1, 1) := by decide +kernel
theorem dX12_holds_120 : decode cX12_holds 120 = .ok (.ireturn, 1) := by decide +kernel
theorem dX12_load_0 : decode cX12_load 0 = .ok (.aload_n 0, 1) := by decide +kernel
theorem dX12_load_1 : decode cX12_load 1 = .ok (.iload_n 1, 1) := by decide +kernel
theorem dX12_load_2 : decode cX12_load 2 = .ok (.invokevirtual 209, 3) := by decide +kernel
theorem dX12_load_5 : decode cX12_load 5 = .ok (.ifCond .eq 23, 3) := by decide +kernel
theorem dX12_load_8 : decode cX12_load 8 = .ok (.iload_n 2, 1) := by decide +kernel
theorem dX12_load_9 : decode cX12_load 9 = .ok (.invokestatic 239, 3) := by decide +kernel
theorem dX12_load_12 : decode cX12_load 12 = .ok (.ifCond .eq 16, 3) := by decide +kernel
theorem dX12_load_15 : decode cX12_load 15 = .ok (.aload_n 0, 1) := by decide +kernel
theorem dX12_load_16 : decode cX12_load 16 = .ok (.iload_n 1, 1) := by decide +kernel
theorem dX12_load_17 : decode cX12_load 17 = .ok (.aload_n 0, 1) := by decide +kernel
theorem dX12_load_18 : decode cX12_load 18 = .ok (.iload_n 2, 1) := by decide +kernel
theorem dX12_load_19 : decode cX12_load 19 = .ok (.invokevirtual 256, 3) := by decide +kernel
theorem dX12_load_22 : decode cX12_load 22 = .ok (.invokevirtual 249, 3) := by decide +kernel
theorem dX12_load_25 : decode cX12_load 25 = .ok (.goto 9, 3) := by decide +kernel
theorem dX12_load_28 : decode cX12_load 28 = .ok (.aload_n 0, 1) := by decide +kernel
theorem dX12_load_29 : decode cX12_load 29 = .ok (.ldc 199, 2) := by decide +kernel
theorem dX12_load_31 : decode cX12_load 31 = .ok (.invokevirtual 200, 3) := by decide +kernel
theorem dX12_load_34 : decode cX12_load 34 = .ok (.ireturn, 1) := by decide +kernel
theorem dX12_fallRoom_0 : decode cX12_fallRoom 0 = .ok (.aload_n 0, 1) := by decide +kernel
theorem dX12_fallRoom_1 : decode cX12_fallRoom 1 = .ok (.iload_n 1, 1) := by decide +kernel
theorem dX12_fallRoom_2 : decode cX12_fallRoom 2 = .ok (.invokevirtual 209, 3) := by decide +kernel
theorem dX12_fallRoom_5 : decode cX12_fallRoom 5 = .ok (.ifCond .eq 23, 3) := by decide +kernel
theorem dX12_fallRoom_8 : decode cX12_fallRoom 8 = .ok (.iload_n 2, 1) := by decide +kernel
theorem dX12_fallRoom_9 : decode cX12_fallRoom 9 = .ok (.invokestatic 239, 3) := by decide +kernel
theorem dX12_fallRoom_12 : decode cX12_fallRoom 12 = .ok (.ifCond .eq 16, 3) := by decide +kernel
theorem dX12_fallRoom_15 : decode cX12_fallRoom 15 = .ok (.aload_n 0, 1) := by decide +kernel
theorem dX12_fallRoom_16 : decode cX12_fallRoom 16 = .ok (.iload_n 1, 1) := by decide +kernel
theorem dX12_fallRoom_17 : decode cX12_fallRoom 17 = .ok (.aload_n 0, 1) := by decide +kernel
theorem dX12_fallRoom_18 : decode cX12_fallRoom 18 = .ok (.iload_n 2, 1) := by decide +kernel
theorem dX12_fallRoom_19 : decode cX12_fallRoom 19 = .ok (.invokevirtual 256, 3) := by decide +kernel
theorem dX12_fallRoom_22 : decode cX12_fallRoom 22 = .ok (.invokevirtual 253, 3) := by decide +kernel
theorem dX12_fallRoom_25 : decode cX12_fallRoom 25 = .ok (.goto 9, 3) := by decide +kernel
theorem dX12_fallRoom_28 : decode cX12_fallRoom 28 = .ok (.aload_n 0, 1) := by decide +kernel
theorem dX12_fallRoom_29 : decode cX12_fallRoom 29 = .ok (.ldc 199, 2) := by decide +kernel
theorem dX12_fallRoom_31 : decode cX12_fallRoom 31 = .ok (.invokevirtual 200, 3) := by decide +kernel
theorem dX12_fallRoom_34 : decode cX12_fallRoom 34 = .ok (.ireturn, 1) := by decide +kernel
theorem dX12_work_0 : decode cX12_work 0 = .ok (.aload_n 0, 1) := by decide +kernel
theorem dX12_work_1 : decode cX12_work 1 = .ok (.iload_n 1, 1) := by decide +kernel
theorem dX12_work_2 : decode cX12_work 2 = .ok (.invokevirtual 205, 3) := by decide +kernel
theorem dX12_work_5 : decode cX12_work 5 = .ok (.ifCond .eq 23, 3) := by decide +kernel
theorem dX12_work_8 : decode cX12_work 8 = .ok (.iload_n 2, 1) := by decide +kernel
theorem dX12_work_9 : decode cX12_work 9 = .ok (.invokestatic 239, 3) := by decide +kernel
theorem dX12_work_12 : decode cX12_work 12 = .ok (.ifCond .eq 16, 3) := by decide +kernel
theorem dX12_work_15 : decode cX12_work 15 = .ok (.aload_n 0, 1) := by decide +kernel
theorem dX12_work_16 : decode cX12_work 16 = .ok (.iload_n 1, 1) := by decide +kernel
theorem dX12_work_17 : decode cX12_work 17 = .ok (.aload_n 0, 1) := by decide +kernel
theorem dX12_work_18 : decode cX12_work 18 = .ok (.iload_n 2, 1) := by decide +kernel
theorem dX12_work_19 : decode cX12_work 19 = .ok (.invokevirtual 256, 3) := by decide +kernel
theorem dX12_work_22 : decode cX12_work 22 = .ok (.invokevirtual 262, 3) := by decide +kernel
theorem dX12_work_25 : decode cX12_work 25 = .ok (.goto 9, 3) := by decide +kernel
theorem dX12_work_28 : decode cX12_work 28 = .ok (.aload_n 0, 1) := by decide +kernel
theorem dX12_work_29 : decode cX12_work 29 = .ok (.ldc 199, 2) := by decide +kernel
theorem dX12_work_31 : decode cX12_work 31 = .ok (.invokevirtual 200, 3) := by decide +kernel
theorem dX12_work_34 : decode cX12_work 34 = .ok (.ireturn, 1) := by decide +kernel
theorem dX12_leftOf_0 : decode cX12_leftOf 0 = .ok (.aload_n 0, 1) := by decide +kernel
theorem dX12_leftOf_1 : decode cX12_leftOf 1 = .ok (.iload_n 2, 1) := by decide +kernel
theorem dX12_leftOf_2 : decode cX12_leftOf 2 = .ok (.invokevirtual 256, 3) := by decide +kernel
theorem dX12_leftOf_5 : decode cX12_leftOf 5 = .ok (.istore_n 3, 1) := by decide +kernel
theorem dX12_leftOf_6 : decode cX12_leftOf 6 = .ok (.aload_n 0, 1) := by decide +kernel
theorem dX12_leftOf_7 : decode cX12_leftOf 7 = .ok (.getfield 23, 3) := by decide +kernel
theorem dX12_leftOf_10 : decode cX12_leftOf 10 = .ok (.iload_n 1, 1) := by decide +kernel
theorem dX12_leftOf_11 : decode cX12_leftOf 11 = .ok (.iaload, 1) := by decide +kernel
theorem dX12_leftOf_12 : decode cX12_leftOf 12 = .ok (.aload_n 0, 1) := by decide +kernel
theorem dX12_leftOf_13 : decode cX12_leftOf 13 = .ok (.iload_n 1, 1) := by decide +kernel
theorem dX12_leftOf_14 : decode cX12_leftOf 14 = .ok (.iload_n 3, 1) := by decide +kernel
theorem dX12_leftOf_15 : decode cX12_leftOf 15 = .ok (.invokevirtual 249, 3) := by decide +kernel
theorem dX12_leftOf_18 : decode cX12_leftOf 18 = .ok (.isub, 1) := by decide +kernel
theorem dX12_leftOf_19 : decode cX12_leftOf 19 = .ok (.aload_n 0, 1) := by decide +kernel
theorem dX12_leftOf_20 : decode cX12_leftOf 20 = .ok (.iload_n 1, 1) := by decide +kernel
theorem dX12_leftOf_21 : decode cX12_leftOf 21 = .ok (.iload_n 3, 1) := by decide +kernel
theorem dX12_leftOf_22 : decode cX12_leftOf 22 = .ok (.invokevirtual 253, 3) := by decide +kernel
theorem dX12_leftOf_25 : decode cX12_leftOf 25 = .ok (.isub, 1) := by decide +kernel
theorem dX12_leftOf_26 : decode cX12_leftOf 26 = .ok (.ireturn, 1) := by decide +kernel
theorem dX12_spare_0 : decode cX12_spare 0 = .ok (.aload_n 0, 1) := by decide +kernel
theorem dX12_spare_1 : decode cX12_spare 1 = .ok (.iload_n 1, 1) := by decide +kernel
theorem dX12_spare_2 : decode cX12_spare 2 = .ok (.invokevirtual 209, 3) := by decide +kernel
theorem dX12_spare_5 : decode cX12_spare 5 = .ok (.ifCond .ne 10, 3) := by decide +kernel
theorem dX12_spare_8 : decode cX12_spare 8 = .ok (.aload_n 0, 1) := by decide +kernel
theorem dX12_spare_9 : decode cX12_spare 9 = .ok (.ldc 199, 2) := by decide +kernel
theorem dX12_spare_11 : decode cX12_spare 11 = .ok (.invokevirtual 200, 3) := by decide +kernel
theorem dX12_spare_14 : decode cX12_spare 14 = .ok (.ireturn, 1) := by decide +kernel
theorem dX12_spare_15 : decode cX12_spare 15 = .ok (.bipush 50, 2) := by decide +kernel
theorem dX12_spare_17 : decode cX12_spare 17 = .ok (.istore_n 2, 1) := by decide +kernel
theorem dX12_spare_18 : decode cX12_spare 18 = .ok (.iconst 0, 1) := by decide +kernel
theorem dX12_spare_19 : decode cX12_spare 19 = .ok (.istore_n 3, 1) := by decide +kernel
theorem dX12_spare_20 : decode cX12_spare 20 = .ok (.iload_n 3, 1) := by decide +kernel
theorem dX12_spare_21 : decode cX12_spare 21 = .ok (.bipush 24, 2) := by decide +kernel
theorem dX12_spare_23 : decode cX12_spare 23 = .ok (.if_icmp .ge 30, 3) := by decide +kernel
theorem dX12_spare_26 : decode cX12_spare 26 = .ok (.aload_n 0, 1) := by decide +kernel
theorem dX12_spare_27 : decode cX12_spare 27 = .ok (.iload_n 1, 1) := by decide +kernel
theorem dX12_spare_28 : decode cX12_spare 28 = .ok (.iload_n 3, 1) := by decide +kernel
theorem dX12_spare_29 : decode cX12_spare 29 = .ok (.invokevirtual 265, 3) := by decide +kernel
theorem dX12_spare_32 : decode cX12_spare 32 = .ok (.iload_n 2, 1) := by decide +kernel
theorem dX12_spare_33 : decode cX12_spare 33 = .ok (.if_icmp .ge 12, 3) := by decide +kernel
theorem dX12_spare_36 : decode cX12_spare 36 = .ok (.aload_n 0, 1) := by decide +kernel
theorem dX12_spare_37 : decode cX12_spare 37 = .ok (.iload_n 1, 1) := by decide +kernel
theorem dX12_spare_38 : decode cX12_spare 38 = .ok (.iload_n 3, 1) := by decide +kernel
theorem dX12_spare_39 : decode cX12_spare 39 = .ok (.invokevirtual 265, 3) := by decide +kernel
theorem dX12_spare_42 : decode cX12_spare 42 = .ok (.goto 4, 3) := by decide +kernel
theorem dX12_spare_45 : decode cX12_spare 45 = .ok (.iload_n 2, 1) := by decide +kernel
theorem dX12_spare_46 : decode cX12_spare 46 = .ok (.istore_n 2, 1) := by decide +kernel
theorem dX12_spare_47 : decode cX12_spare 47 = .ok (.iinc 3 1, 3) := by decide +kernel
theorem dX12_spare_50 : decode cX12_spare 50 = .ok (.goto (-30), 3) := by decide +kernel
theorem dX12_spare_53 : decode cX12_spare 53 = .ok (.iload_n 2, 1) := by decide +kernel
theorem dX12_spare_54 : decode cX12_spare 54 = .ok (.ireturn, 1) := by decide +kernel
theorem dX12_findCut_0 : decode cX12_findCut 0 = .ok (.aload_n 0, 1) := by decide +kernel
theorem dX12_findCut_1 : decode cX12_findCut 1 = .ok (.ldc_w 268, 3) := by decide +kernel
theorem dX12_findCut_4 : decode cX12_findCut 4 = .ok (.putfield 269, 3) := by decide +kernel
theorem dX12_findCut_7 : decode cX12_findCut 7 = .ok (.iconst 0, 1) := by decide +kernel
theorem dX12_findCut_8 : decode cX12_findCut 8 = .ok (.istore 4, 2) := by decide +kernel
theorem dX12_findCut_10 : decode cX12_findCut 10 = .ok (.iload 4, 2) := by decide +kernel
theorem dX12_findCut_12 : decode cX12_findCut 12 = .ok (.iconst 1, 1) := by decide +kernel
theorem dX12_findCut_13 : decode cX12_findCut 13 = .ok (.aload_n 0, 1) := by decide +kernel
theorem dX12_findCut_14 : decode cX12_findCut 14 = .ok (.getfield 186, 3) := by decide +kernel
theorem dX12_findCut_17 : decode cX12_findCut 17 = .ok (.ishl, 1) := by decide +kernel
theorem dX12_findCut_18 : decode cX12_findCut 18 = .ok (.if_icmp .ge 152, 3) := by decide +kernel
theorem dX12_findCut_21 : decode cX12_findCut 21 = .ok (.iload 4, 2) := by decide +kernel
theorem dX12_findCut_23 : decode cX12_findCut 23 = .ok (.iload_n 1, 1) := by decide +kernel
theorem dX12_findCut_24 : decode cX12_findCut 24 = .ok (.invokestatic 212, 3) := by decide +kernel
theorem dX12_findCut_27 : decode cX12_findCut 27 = .ok (.ifCond .eq 137, 3) := by decide +kernel
theorem dX12_findCut_30 : decode cX12_findCut 30 = .ok (.iload 4, 2) := by decide +kernel
theorem dX12_findCut_32 : decode cX12_findCut 32 = .ok (.iload_n 2, 1) := by decide +kernel
theorem dX12_findCut_33 : decode cX12_findCut 33 = .ok (.invokestatic 212, 3) := by decide +kernel
theorem dX12_findCut_36 : decode cX12_findCut 36 = .ok (.ifCond .eq 6, 3) := by decide +kernel
theorem dX12_findCut_39 : decode cX12_findCut 39 = .ok (.goto 125, 3) := by decide +kernel
theorem dX12_findCut_42 : decode cX12_findCut 42 = .ok (.iconst 0, 1) := by decide +kernel
theorem dX12_findCut_43 : decode cX12_findCut 43 = .ok (.istore 5, 2) := by decide +kernel
theorem dX12_findCut_45 : decode cX12_findCut 45 = .ok (.iconst 0, 1) := by decide +kernel
theorem dX12_findCut_46 : decode cX12_findCut 46 = .ok (.istore 6, 2) := by decide +kernel
theorem dX12_findCut_48 : decode cX12_findCut 48 = .ok (.iload 6, 2) := by decide +kernel
theorem dX12_findCut_50 : decode cX12_findCut 50 = .ok (.aload_n 0, 1) := by decide +kernel
theorem dX12_findCut_51 : decode cX12_findCut 51 = .ok (.getfield 193, 3) := by decide +kernel
theorem dX12_findCut_54 : decode cX12_findCut 54 = .ok (.if_icmp .ge 62, 3) := by decide +kernel
theorem dX12_findCut_57 : decode cX12_findCut 57 = .ok (.iload 5, 2) := by decide +kernel
theorem dX12_findCut_59 : decode cX12_findCut 59 = .ok (.aload_n 0, 1) := by decide +kernel
theorem dX12_findCut_60 : decode cX12_findCut 60 = .ok (.getfield 41, 3) := by decide +kernel
theorem dX12_findCut_63 : decode cX12_findCut 63 = .ok (.iload 6, 2) := by decide +kernel
theorem dX12_findCut_65 : decode cX12_findCut 65 = .ok (.baload, 1) := by decide +kernel
theorem dX12_findCut_66 : decode cX12_findCut 66 = .ok (.ifCond .eq 40, 3) := by decide +kernel
theorem dX12_findCut_69 : decode cX12_findCut 69 = .ok (.iload 4, 2) := by decide +kernel
theorem dX12_findCut_71 : decode cX12_findCut 71 = .ok (.aload_n 0, 1) := by decide +kernel
theorem dX12_findCut_72 : decode cX12_findCut 72 = .ok (.getfield 17, 3) := by decide +kernel
theorem dX12_findCut_75 : decode cX12_findCut 75 = .ok (.iload 6, 2) := by decide +kernel
theorem dX12_findCut_77 : decode cX12_findCut 77 = .ok (.iaload, 1) := by decide +kernel
theorem dX12_findCut_78 : decode cX12_findCut 78 = .ok (.invokestatic 212, 3) := by decide +kernel
theorem dX12_findCut_81 : decode cX12_findCut 81 = .ok (.iload 4, 2) := by decide +kernel
theorem dX12_findCut_83 : decode cX12_findCut 83 = .ok (.aload_n 0, 1) := by decide +kernel
theorem dX12_findCut_84 : decode cX12_findCut 84 = .ok (.getfield 20, 3) := by decide +kernel
theorem dX12_findCut_87 : decode cX12_findCut 87 = .ok (.iload 6, 2) := by decide +kernel
theorem dX12_findCut_89 : decode cX12_findCut 89 = .ok (.iaload, 1) := by decide +kernel
theorem dX12_findCut_90 : decode cX12_findCut 90 = .ok (.invokestatic 212, 3) := by decide +kernel
theorem dX12_findCut_93 : decode cX12_findCut 93 = .ok (.if_icmp .eq 13, 3) := by decide +kernel
theorem dX12_findCut_96 : decode cX12_findCut 96 = .ok (.aload_n 0, 1) := by decide +kernel
theorem dX12_findCut_97 : decode cX12_findCut 97 = .ok (.iload 6, 2) := by decide +kernel
theorem dX12_findCut_99 : decode cX12_findCut 99 = .ok (.iload_n 3, 1) := by decide +kernel
theorem dX12_findCut_100 : decode cX12_findCut 100 = .ok (.invokevirtual 265, 3) := by decide +kernel
theorem dX12_findCut_103 : decode cX12_findCut 103 = .ok (.goto 4, 3) := by decide +kernel
theorem dX12_findCut_106 : decode cX12_findCut 106 = .ok (.iconst 0, 1) := by decide +kernel
theorem dX12_findCut_107 : decode cX12_findCut 107 = .ok (.iadd, 1) := by decide +kernel
theorem dX12_findCut_108 : decode cX12_findCut 108 = .ok (.istore 5, 2) := by decide +kernel
theorem dX12_findCut_110 : decode cX12_findCut 110 = .ok (.iinc 6 1, 3) := by decide +kernel
theorem dX12_findCut_113 : decode cX12_findCut 113 = .ok (.goto (-65), 3) := by decide +kernel
theorem dX12_findCut_116 : decode cX12_findCut 116 = .ok (.iload 5, 2) := by decide +kernel
theorem dX12_findCut_118 : decode cX12_findCut 118 = .ok (.aload_n 0, 1) := by decide +kernel
theorem dX12_findCut_119 : decode cX12_findCut 119 = .ok (.getfield 269, 3) := by decide +kernel
theorem dX12_findCut_122 : decode cX12_findCut 122 = .ok (.if_icmp .gt 42, 3) := by decide +kernel
theorem dX12_findCut_125 : decode cX12_findCut 125 = .ok (.iload 5, 2) := by decide +kernel
theorem dX12_findCut_127 : decode cX12_findCut 127 = .ok (.aload_n 0, 1) := by decide +kernel
theorem dX12_findCut_128 : decode cX12_findCut 128 = .ok (.getfield 269, 3) := by decide +kernel
theorem dX12_findCut_131 : decode cX12_findCut 131 = .ok (.if_icmp .ne 21, 3) := by decide +kernel
theorem dX12_findCut_134 : decode cX12_findCut 134 = .ok (.iload 4, 2) := by decide +kernel
theorem dX12_findCut_136 : decode cX12_findCut 136 = .ok (.invokestatic 272, 3) := by decide +kernel
theorem dX12_findCut_139 : decode cX12_findCut 139 = .ok (.aload_n 0, 1) := by decide +kernel
theorem dX12_findCut_140 : decode cX12_findCut 140 = .ok (.getfield 275, 3) := by decide +kernel
theorem dX12_findCut_143 : decode cX12_findCut 143 = .ok (.invokestatic 272, 3) := by decide +kernel
theorem dX12_findCut_146 : decode cX12_findCut 146 = .ok (.if_icmp .lt 6, 3) := by decide +kernel
theorem dX12_findCut_149 : decode cX12_findCut 149 = .ok (.goto 15, 3) := by decide +kernel
theorem dX12_findCut_152 : decode cX12_findCut 152 = .ok (.aload_n 0, 1) := by decide +kernel
theorem dX12_findCut_153 : decode cX12_findCut 153 = .ok (.iload 5, 2) := by decide +kernel
theorem dX12_findCut_155 : decode cX12_findCut 155 = .ok (.putfield 269, 3) := by decide +kernel
theorem dX12_findCut_158 : decode cX12_findCut 158 = .ok (.aload_n 0, 1) := by decide +kernel
theorem dX12_findCut_159 : decode cX12_findCut 159 = .ok (.iload 4, 2) := by decide +kernel
theorem dX12_findCut_161 : decode cX12_findCut 161 = .ok (.putfield 275, 3) := by decide +kernel
theorem dX12_findCut_164 : decode cX12_findCut 164 = .ok (.iinc 4 1, 3) := by decide +kernel
theorem dX12_findCut_167 : decode cX12_findCut 167 = .ok (.goto (-157), 3) := by decide +kernel
theorem dX12_findCut_170 : decode cX12_findCut 170 = .ok (.return_, 1) := by decide +kernel
theorem dX12_flow_0 : decode cX12_flow 0 = .ok (.aload_n 0, 1) := by decide +kernel
theorem dX12_flow_1 : decode cX12_flow 1 = .ok (.iload_n 1, 1) := by decide +kernel
theorem dX12_flow_2 : decode cX12_flow 2 = .ok (.iload_n 2, 1) := by decide +kernel
theorem dX12_flow_3 : decode cX12_flow 3 = .ok (.invokevirtual 224, 3) := by decide +kernel
theorem dX12_flow_6 : decode cX12_flow 6 = .ok (.ifCond .eq 10, 3) := by decide +kernel
theorem dX12_flow_9 : decode cX12_flow 9 = .ok (.iload_n 3, 1) := by decide +kernel
theorem dX12_flow_10 : decode cX12_flow 10 = .ok (.invokestatic 239, 3) := by decide +kernel
theorem dX12_flow_13 : decode cX12_flow 13 = .ok (.ifCond .ne 10, 3) := by decide +kernel
theorem dX12_flow_16 : decode cX12_flow 16 = .ok (.aload_n 0, 1) := by decide +kernel
theorem dX12_flow_17 : decode cX12_flow 17 = .ok (.ldc 199, 2) := by decide +kernel
theorem dX12_flow_19 : decode cX12_flow 19 = .ok (.invokevirtual 200, 3) := by decide +kernel
theorem dX12_flow_22 : decode cX12_flow 22 = .ok (.ireturn, 1) := by decide +kernel
theorem dX12_flow_23 : decode cX12_flow 23 = .ok (.aload_n 0, 1) := by decide +kernel
theorem dX12_flow_24 : decode cX12_flow 24 = .ok (.iload_n 1, 1) := by decide +kernel
theorem dX12_flow_25 : decode cX12_flow 25 = .ok (.iload_n 2, 1) := by decide +kernel
theorem dX12_flow_26 : decode cX12_flow 26 = .ok (.iload_n 3, 1) := by decide +kernel
theorem dX12_flow_27 : decode cX12_flow 27 = .ok (.invokevirtual 278, 3) := by decide +kernel
theorem dX12_flow_30 : decode cX12_flow 30 = .ok (.aload_n 0, 1) := by decide +kernel
theorem dX12_flow_31 : decode cX12_flow 31 = .ok (.getfield 269, 3) := by decide +kernel
theorem dX12_flow_34 : decode cX12_flow 34 = .ok (.ireturn, 1) := by decide +kernel
theorem dX12_cut_0 : decode cX12_cut 0 = .ok (.aload_n 0, 1) := by decide +kernel
theorem dX12_cut_1 : decode cX12_cut 1 = .ok (.iload_n 1, 1) := by decide +kernel
theorem dX12_cut_2 : decode cX12_cut 2 = .ok (.iload_n 2, 1) := by decide +kernel
theorem dX12_cut_3 : decode cX12_cut 3 = .ok (.invokevirtual 224, 3) := by decide +kernel
theorem dX12_cut_6 : decode cX12_cut 6 = .ok (.ifCond .eq 10, 3) := by decide +kernel
theorem dX12_cut_9 : decode cX12_cut 9 = .ok (.iload_n 3, 1) := by decide +kernel
theorem dX12_cut_10 : decode cX12_cut 10 = .ok (.invokestatic 239, 3) := by decide +kernel
theorem dX12_cut_13 : decode cX12_cut 13 = .ok (.ifCond .ne 10, 3) := by decide +kernel
theorem dX12_cut_16 : decode cX12_cut 16 = .ok (.aload_n 0, 1) := by decide +kernel
theorem dX12_cut_17 : decode cX12_cut 17 = .ok (.ldc 199, 2) := by decide +kernel
theorem dX12_cut_19 : decode cX12_cut 19 = .ok (.invokevirtual 200, 3) := by decide +kernel
theorem dX12_cut_22 : decode cX12_cut 22 = .ok (.ireturn, 1) := by decide +kernel
theorem dX12_cut_23 : decode cX12_cut 23 = .ok (.aload_n 0, 1) := by decide +kernel
theorem dX12_cut_24 : decode cX12_cut 24 = .ok (.iload_n 1, 1) := by decide +kernel
theorem dX12_cut_25 : decode cX12_cut 25 = .ok (.iload_n 2, 1) := by decide +kernel
theorem dX12_cut_26 : decode cX12_cut 26 = .ok (.iload_n 3, 1) := by decide +kernel
theorem dX12_cut_27 : decode cX12_cut 27 = .ok (.invokevirtual 278, 3) := by decide +kernel
theorem dX12_cut_30 : decode cX12_cut 30 = .ok (.aload_n 0, 1) := by decide +kernel
theorem dX12_cut_31 : decode cX12_cut 31 = .ok (.getfield 275, 3) := by decide +kernel
theorem dX12_cut_34 : decode cX12_cut 34 = .ok (.ireturn, 1) := by decide +kernel
theorem dX12_start_0 : decode cX12_start 0 = .ok (.aload_n 0, 1) := by decide +kernel
theorem dX12_start_1 : decode cX12_start 1 = .ok (.iload_n 1, 1) := by decide +kernel
theorem dX12_start_2 : decode cX12_start 2 = .ok (.aload_n 0, 1) := by decide +kernel
theorem dX12_start_3 : decode cX12_start 3 = .ok (.getfield 48, 3) := by decide +kernel
theorem dX12_start_6 : decode cX12_start 6 = .ok (.iload_n 1, 1) := by decide +kernel
theorem dX12_start_7 : decode cX12_start 7 = .ok (.iaload, 1) := by decide +kernel
theorem dX12_start_8 : decode cX12_start 8 = .ok (.aload_n 0, 1) := by decide +kernel
theorem dX12_start_9 : decode cX12_start 9 = .ok (.getfield 51, 3) := by decide +kernel
theorem dX12_start_12 : decode cX12_start 12 = .ok (.iload_n 1, 1) := by decide +kernel
theorem dX12_start_13 : decode cX12_start 13 = .ok (.iaload, 1) := by decide +kernel
theorem dX12_start_14 : decode cX12_start 14 = .ok (.invokevirtual 227, 3) := by decide +kernel
theorem dX12_start_17 : decode cX12_start 17 = .ok (.aload_n 0, 1) := by decide +kernel
theorem dX12_start_18 : decode cX12_start 18 = .ok (.getfield 147, 3) := by decide +kernel
theorem dX12_start_21 : decode cX12_start 21 = .ok (.iload_n 1, 1) := by decide +kernel
theorem dX12_start_22 : decode cX12_start 22 = .ok (.iconst 0, 1) := by decide +kernel
theorem dX12_start_23 : decode cX12_start 23 = .ok (.iastore, 1) := by decide +kernel
theorem dX12_start_24 : decode cX12_start 24 = .ok (.aload_n 0, 1) := by decide +kernel
theorem dX12_start_25 : decode cX12_start 25 = .ok (.getfield 150, 3) := by decide +kernel
theorem dX12_start_28 : decode cX12_start 28 = .ok (.iload_n 1, 1) := by decide +kernel
theorem dX12_start_29 : decode cX12_start 29 = .ok (.iconst 0, 1) := by decide +kernel
theorem dX12_start_30 : decode cX12_start 30 = .ok (.iastore, 1) := by decide +kernel
theorem dX12_start_31 : decode cX12_start 31 = .ok (.aload_n 0, 1) := by decide +kernel
theorem dX12_start_32 : decode cX12_start 32 = .ok (.getfield 153, 3) := by decide +kernel
theorem dX12_start_35 : decode cX12_start 35 = .ok (.iload_n 1, 1) := by decide +kernel
theorem dX12_start_36 : decode cX12_start 36 = .ok (.iconst (-1), 1) := by decide +kernel
theorem dX12_start_37 : decode cX12_start 37 = .ok (.iastore, 1) := by decide +kernel
theorem dX12_start_38 : decode cX12_start 38 = .ok (.aload_n 0, 1) := by decide +kernel
theorem dX12_start_39 : decode cX12_start 39 = .ok (.getfield 156, 3) := by decide +kernel
theorem dX12_start_42 : decode cX12_start 42 = .ok (.iload_n 1, 1) := by decide +kernel
theorem dX12_start_43 : decode cX12_start 43 = .ok (.iconst (-1), 1) := by decide +kernel
theorem dX12_start_44 : decode cX12_start 44 = .ok (.iastore, 1) := by decide +kernel
theorem dX12_start_45 : decode cX12_start 45 = .ok (.return_, 1) := by decide +kernel
theorem dX12_advance_0 : decode cX12_advance 0 = .ok (.aload_n 0, 1) := by decide +kernel
theorem dX12_advance_1 : decode cX12_advance 1 = .ok (.getfield 45, 3) := by decide +kernel
theorem dX12_advance_4 : decode cX12_advance 4 = .ok (.iload_n 1, 1) := by decide +kernel
theorem dX12_advance_5 : decode cX12_advance 5 = .ok (.iaload, 1) := by decide +kernel
theorem dX12_advance_6 : decode cX12_advance 6 = .ok (.iconst 1, 1) := by decide +kernel
theorem dX12_advance_7 : decode cX12_advance 7 = .ok (.if_icmp .ne 7, 3) := by decide +kernel
theorem dX12_advance_10 : decode cX12_advance 10 = .ok (.iconst 1, 1) := by decide +kernel
theorem dX12_advance_11 : decode cX12_advance 11 = .ok (.goto 4, 3) := by decide +kernel
theorem dX12_advance_14 : decode cX12_advance 14 = .ok (.iconst 0, 1) := by decide +kernel
theorem dX12_advance_15 : decode cX12_advance 15 = .ok (.istore_n 2, 1) := by decide +kernel
theorem dX12_advance_16 : decode cX12_advance 16 = .ok (.aload_n 0, 1) := by decide +kernel
theorem dX12_advance_17 : decode cX12_advance 17 = .ok (.getfield 153, 3) := by decide +kernel
theorem dX12_advance_20 : decode cX12_advance 20 = .ok (.iload_n 1, 1) := by decide +kernel
theorem dX12_advance_21 : decode cX12_advance 21 = .ok (.dup2, 1) := by decide +kernel
theorem dX12_advance_22 : decode cX12_advance 22 = .ok (.iaload, 1) := by decide +kernel
theorem dX12_advance_23 : decode cX12_advance 23 = .ok (.iconst 1, 1) := by decide +kernel
theorem dX12_advance_24 : decode cX12_advance 24 = .ok (.iadd, 1) := by decide +kernel
theorem dX12_advance_25 : decode cX12_advance 25 = .ok (.iastore, 1) := by decide +kernel
theorem dX12_advance_26 : decode cX12_advance 26 = .ok (.aload_n 0, 1) := by decide +kernel
theorem dX12_advance_27 : decode cX12_advance 27 = .ok (.getfield 147, 3) := by decide +kernel
theorem dX12_advance_30 : decode cX12_advance 30 = .ok (.iload_n 1, 1) := by decide +kernel
theorem dX12_advance_31 : decode cX12_advance 31 = .ok (.iaload, 1) := by decide +kernel
theorem dX12_advance_32 : decode cX12_advance 32 = .ok (.aload_n 0, 1) := by decide +kernel
theorem dX12_advance_33 : decode cX12_advance 33 = .ok (.getfield 120, 3) := by decide +kernel
theorem dX12_advance_36 : decode cX12_advance 36 = .ok (.iload_n 1, 1) := by decide +kernel
theorem dX12_advance_37 : decode cX12_advance 37 = .ok (.iaload, 1) := by decide +kernel
theorem dX12_advance_38 : decode cX12_advance 38 = .ok (.if_icmp .ge 273, 3) := by decide +kernel
theorem dX12_advance_41 : decode cX12_advance 41 = .ok (.aload_n 0, 1) := by decide +kernel
theorem dX12_advance_42 : decode cX12_advance 42 = .ok (.getfield 129, 3) := by decide +kernel
theorem dX12_advance_45 : decode cX12_advance 45 = .ok (.sipush 256, 3) := by decide +kernel
theorem dX12_advance_48 : decode cX12_advance 48 = .ok (.iload_n 1, 1) := by decide +kernel
