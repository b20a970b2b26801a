theorem dX12_advance_49 : decode cX12_advance 49 = .ok (.imul, 1) := by decide +kernel
theorem dX12_advance_50 : decode cX12_advance 50 = .ok (.aload_n 0, 1) := by decide +kernel
theorem dX12_advance_51 : decode cX12_advance 51 = .ok (.getfield 147, 3) := by decide +kernel
theorem dX12_advance_54 : decode cX12_advance 54 = .ok (.iload_n 1, 1) := by decide +kernel
theorem dX12_advance_55 : decode cX12_advance 55 = .ok (.iaload, 1) := by decide +kernel
theorem dX12_advance_56 : decode cX12_advance 56 = .ok (.iadd, 1) := by decide +kernel
theorem dX12_advance_57 : decode cX12_advance 57 = .ok (.iaload, 1) := by decide +kernel
theorem dX12_advance_58 : decode cX12_advance 58 = .ok (.aload_n 0, 1) := by decide +kernel
theorem dX12_advance_59 : decode cX12_advance 59 = .ok (.getfield 57, 3) := by decide +kernel
theorem dX12_advance_62 : decode cX12_advance 62 = .ok (.iload_n 1, 1) := by decide +kernel
theorem dX12_advance_63 : decode cX12_advance 63 = .ok (.iaload, 1) := by decide +kernel
theorem dX12_advance_64 : decode cX12_advance 64 = .ok (.if_icmp .gt 247, 3) := by decide +kernel
theorem dX12_advance_67 : decode cX12_advance 67 = .ok (.sipush 256, 3) := by decide +kernel
theorem dX12_advance_70 : decode cX12_advance 70 = .ok (.iload_n 1, 1) := by decide +kernel
theorem dX12_advance_71 : decode cX12_advance 71 = .ok (.imul, 1) := by decide +kernel
theorem dX12_advance_72 : decode cX12_advance 72 = .ok (.aload_n 0, 1) := by decide +kernel
theorem dX12_advance_73 : decode cX12_advance 73 = .ok (.getfield 147, 3) := by decide +kernel
theorem dX12_advance_76 : decode cX12_advance 76 = .ok (.iload_n 1, 1) := by decide +kernel
theorem dX12_advance_77 : decode cX12_advance 77 = .ok (.iaload, 1) := by decide +kernel
theorem dX12_advance_78 : decode cX12_advance 78 = .ok (.iadd, 1) := by decide +kernel
theorem dX12_advance_79 : decode cX12_advance 79 = .ok (.istore_n 3, 1) := by decide +kernel
theorem dX12_advance_80 : decode cX12_advance 80 = .ok (.sipush 256, 3) := by decide +kernel
theorem dX12_advance_83 : decode cX12_advance 83 = .ok (.iload_n 1, 1) := by decide +kernel
theorem dX12_advance_84 : decode cX12_advance 84 = .ok (.imul, 1) := by decide +kernel
theorem dX12_advance_85 : decode cX12_advance 85 = .ok (.aload_n 0, 1) := by decide +kernel
theorem dX12_advance_86 : decode cX12_advance 86 = .ok (.getfield 150, 3) := by decide +kernel
theorem dX12_advance_89 : decode cX12_advance 89 = .ok (.iload_n 1, 1) := by decide +kernel
theorem dX12_advance_90 : decode cX12_advance 90 = .ok (.iaload, 1) := by decide +kernel
theorem dX12_advance_91 : decode cX12_advance 91 = .ok (.iadd, 1) := by decide +kernel
theorem dX12_advance_92 : decode cX12_advance 92 = .ok (.istore 4, 2) := by decide +kernel
theorem dX12_advance_94 : decode cX12_advance 94 = .ok (.iload_n 2, 1) := by decide +kernel
theorem dX12_advance_95 : decode cX12_advance 95 = .ok (.ifCond .eq 34, 3) := by decide +kernel
theorem dX12_advance_98 : decode cX12_advance 98 = .ok (.aload_n 0, 1) := by decide +kernel
theorem dX12_advance_99 : decode cX12_advance 99 = .ok (.getfield 150, 3) := by decide +kernel
theorem dX12_advance_102 : decode cX12_advance 102 = .ok (.iload_n 1, 1) := by decide +kernel
theorem dX12_advance_103 : decode cX12_advance 103 = .ok (.iaload, 1) := by decide +kernel
theorem dX12_advance_104 : decode cX12_advance 104 = .ok (.aload_n 0, 1) := by decide +kernel
theorem dX12_advance_105 : decode cX12_advance 105 = .ok (.getfield 120, 3) := by decide +kernel
theorem dX12_advance_108 : decode cX12_advance 108 = .ok (.iload_n 1, 1) := by decide +kernel
theorem dX12_advance_109 : decode cX12_advance 109 = .ok (.iaload, 1) := by decide +kernel
theorem dX12_advance_110 : decode cX12_advance 110 = .ok (.if_icmp .ge 23, 3) := by decide +kernel
theorem dX12_advance_113 : decode cX12_advance 113 = .ok (.aload_n 0, 1) := by decide +kernel
theorem dX12_advance_114 : decode cX12_advance 114 = .ok (.getfield 129, 3) := by decide +kernel
theorem dX12_advance_117 : decode cX12_advance 117 = .ok (.iload 4, 2) := by decide +kernel
theorem dX12_advance_119 : decode cX12_advance 119 = .ok (.iaload, 1) := by decide +kernel
theorem dX12_advance_120 : decode cX12_advance 120 = .ok (.aload_n 0, 1) := by decide +kernel
theorem dX12_advance_121 : decode cX12_advance 121 = .ok (.getfield 57, 3) := by decide +kernel
theorem dX12_advance_124 : decode cX12_advance 124 = .ok (.iload_n 1, 1) := by decide +kernel
theorem dX12_advance_125 : decode cX12_advance 125 = .ok (.iaload, 1) := by decide +kernel
theorem dX12_advance_126 : decode cX12_advance 126 = .ok (.if_icmp .gt 7, 3) := by decide +kernel
theorem dX12_advance_129 : decode cX12_advance 129 = .ok (.iconst 1, 1) := by decide +kernel
theorem dX12_advance_130 : decode cX12_advance 130 = .ok (.goto 4, 3) := by decide +kernel
theorem dX12_advance_133 : decode cX12_advance 133 = .ok (.iconst 0, 1) := by decide +kernel
theorem dX12_advance_134 : decode cX12_advance 134 = .ok (.istore 5, 2) := by decide +kernel
theorem dX12_advance_136 : decode cX12_advance 136 = .ok (.iload_n 2, 1) := by decide +kernel
theorem dX12_advance_137 : decode cX12_advance 137 = .ok (.ifCond .eq 46, 3) := by decide +kernel
theorem dX12_advance_140 : decode cX12_advance 140 = .ok (.iload 5, 2) := by decide +kernel
theorem dX12_advance_142 : decode cX12_advance 142 = .ok (.ifCond .eq 41, 3) := by decide +kernel
theorem dX12_advance_145 : decode cX12_advance 145 = .ok (.aload_n 0, 1) := by decide +kernel
theorem dX12_advance_146 : decode cX12_advance 146 = .ok (.getfield 132, 3) := by decide +kernel
theorem dX12_advance_149 : decode cX12_advance 149 = .ok (.iload_n 3, 1) := by decide +kernel
theorem dX12_advance_150 : decode cX12_advance 150 = .ok (.iaload, 1) := by decide +kernel
theorem dX12_advance_151 : decode cX12_advance 151 = .ok (.aload_n 0, 1) := by decide +kernel
theorem dX12_advance_152 : decode cX12_advance 152 = .ok (.getfield 132, 3) := by decide +kernel
theorem dX12_advance_155 : decode cX12_advance 155 = .ok (.iload 4, 2) := by decide +kernel
theorem dX12_advance_157 : decode cX12_advance 157 = .ok (.iaload, 1) := by decide +kernel
theorem dX12_advance_158 : decode cX12_advance 158 = .ok (.iand, 1) := by decide +kernel
theorem dX12_advance_159 : decode cX12_advance 159 = .ok (.ifCond .eq 7, 3) := by decide +kernel
theorem dX12_advance_162 : decode cX12_advance 162 = .ok (.iconst 0, 1) := by decide +kernel
theorem dX12_advance_163 : decode cX12_advance 163 = .ok (.goto 26, 3) := by decide +kernel
theorem dX12_advance_166 : decode cX12_advance 166 = .ok (.aload_n 0, 1) := by decide +kernel
theorem dX12_advance_167 : decode cX12_advance 167 = .ok (.getfield 135, 3) := by decide +kernel
theorem dX12_advance_170 : decode cX12_advance 170 = .ok (.iload_n 3, 1) := by decide +kernel
theorem dX12_advance_171 : decode cX12_advance 171 = .ok (.iaload, 1) := by decide +kernel
theorem dX12_advance_172 : decode cX12_advance 172 = .ok (.aload_n 0, 1) := by decide +kernel
theorem dX12_advance_173 : decode cX12_advance 173 = .ok (.getfield 135, 3) := by decide +kernel
theorem dX12_advance_176 : decode cX12_advance 176 = .ok (.iload 4, 2) := by decide +kernel
theorem dX12_advance_178 : decode cX12_advance 178 = .ok (.iaload, 1) := by decide +kernel
theorem dX12_advance_179 : decode cX12_advance 179 = .ok (.iand, 1) := by decide +kernel
theorem dX12_advance_180 : decode cX12_advance 180 = .ok (.goto 9, 3) := by decide +kernel
theorem dX12_advance_183 : decode cX12_advance 183 = .ok (.aload_n 0, 1) := by decide +kernel
theorem dX12_advance_184 : decode cX12_advance 184 = .ok (.getfield 135, 3) := by decide +kernel
theorem dX12_advance_187 : decode cX12_advance 187 = .ok (.iload_n 3, 1) := by decide +kernel
theorem dX12_advance_188 : decode cX12_advance 188 = .ok (.iaload, 1) := by decide +kernel
theorem dX12_advance_189 : decode cX12_advance 189 = .ok (.istore 6, 2) := by decide +kernel
theorem dX12_advance_191 : decode cX12_advance 191 = .ok (.iload 5, 2) := by decide +kernel
theorem dX12_advance_193 : decode cX12_advance 193 = .ok (.ifCond .eq 41, 3) := by decide +kernel
theorem dX12_advance_196 : decode cX12_advance 196 = .ok (.aload_n 0, 1) := by decide +kernel
theorem dX12_advance_197 : decode cX12_advance 197 = .ok (.getfield 153, 3) := by decide +kernel
theorem dX12_advance_200 : decode cX12_advance 200 = .ok (.iload_n 1, 1) := by decide +kernel
theorem dX12_advance_201 : decode cX12_advance 201 = .ok (.iaload, 1) := by decide +kernel
theorem dX12_advance_202 : decode cX12_advance 202 = .ok (.bipush 6, 2) := by decide +kernel
theorem dX12_advance_204 : decode cX12_advance 204 = .ok (.if_icmp .ge 30, 3) := by decide +kernel
theorem dX12_advance_207 : decode cX12_advance 207 = .ok (.iload 6, 2) := by decide +kernel
theorem dX12_advance_209 : decode cX12_advance 209 = .ok (.aload_n 0, 1) := by decide +kernel
theorem dX12_advance_210 : decode cX12_advance 210 = .ok (.getfield 153, 3) := by decide +kernel
theorem dX12_advance_213 : decode cX12_advance 213 = .ok (.iload_n 1, 1) := by decide +kernel
theorem dX12_advance_214 : decode cX12_advance 214 = .ok (.iaload, 1) := by decide +kernel
theorem dX12_advance_215 : decode cX12_advance 215 = .ok (.invokestatic 212, 3) := by decide +kernel
theorem dX12_advance_218 : decode cX12_advance 218 = .ok (.ifCond .ne 16, 3) := by decide +kernel
theorem dX12_advance_221 : decode cX12_advance 221 = .ok (.aload_n 0, 1) := by decide +kernel
theorem dX12_advance_222 : decode cX12_advance 222 = .ok (.getfield 153, 3) := by decide +kernel
theorem dX12_advance_225 : decode cX12_advance 225 = .ok (.iload_n 1, 1) := by decide +kernel
theorem dX12_advance_226 : decode cX12_advance 226 = .ok (.dup2, 1) := by decide +kernel
theorem dX12_advance_227 : decode cX12_advance 227 = .ok (.iaload, 1) := by decide +kernel
theorem dX12_advance_228 : decode cX12_advance 228 = .ok (.iconst 1, 1) := by decide +kernel
theorem dX12_advance_229 : decode cX12_advance 229 = .ok (.iadd, 1) := by decide +kernel
theorem dX12_advance_230 : decode cX12_advance 230 = .ok (.iastore, 1) := by decide +kernel
theorem dX12_advance_231 : decode cX12_advance 231 = .ok (.goto (-40), 3) := by decide +kernel
theorem dX12_advance_234 : decode cX12_advance 234 = .ok (.iload 5, 2) := by decide +kernel
theorem dX12_advance_236 : decode cX12_advance 236 = .ok (.ifCond .eq 26, 3) := by decide +kernel
theorem dX12_advance_239 : decode cX12_advance 239 = .ok (.aload_n 0, 1) := by decide +kernel
theorem dX12_advance_240 : decode cX12_advance 240 = .ok (.getfield 153, 3) := by decide +kernel
theorem dX12_advance_243 : decode cX12_advance 243 = .ok (.iload_n 1, 1) := by decide +kernel
theorem dX12_advance_244 : decode cX12_advance 244 = .ok (.iaload, 1) := by decide +kernel
theorem dX12_advance_245 : decode cX12_advance 245 = .ok (.bipush 6, 2) := by decide +kernel
theorem dX12_advance_247 : decode cX12_advance 247 = .ok (.if_icmp .ge 15, 3) := by decide +kernel
theorem dX12_advance_250 : decode cX12_advance 250 = .ok (.aload_n 0, 1) := by decide +kernel
theorem dX12_advance_251 : decode cX12_advance 251 = .ok (.getfield 156, 3) := by decide +kernel
theorem dX12_advance_254 : decode cX12_advance 254 = .ok (.iload_n 1, 1) := by decide +kernel
theorem dX12_advance_255 : decode cX12_advance 255 = .ok (.dup2, 1) := by decide +kernel
theorem dX12_advance_256 : decode cX12_advance 256 = .ok (.iaload, 1) := by decide +kernel
theorem dX12_advance_257 : decode cX12_advance 257 = .ok (.iconst 1, 1) := by decide +kernel
theorem dX12_advance_258 : decode cX12_advance 258 = .ok (.iadd, 1) := by decide +kernel
theorem dX12_advance_259 : decode cX12_advance 259 = .ok (.iastore, 1) := by decide +kernel
theorem dX12_advance_260 : decode cX12_advance 260 = .ok (.iconst 1, 1) := by decide +kernel
theorem dX12_advance_261 : decode cX12_advance 261 = .ok (.ireturn, 1) := by decide +kernel
theorem dX12_advance_262 : decode cX12_advance 262 = .ok (.aload_n 0, 1) := by decide +kernel
theorem dX12_advance_263 : decode cX12_advance 263 = .ok (.getfield 153, 3) := by decide +kernel
theorem dX12_advance_266 : decode cX12_advance 266 = .ok (.iload_n 1, 1) := by decide +kernel
theorem dX12_advance_267 : decode cX12_advance 267 = .ok (.iconst 0, 1) := by decide +kernel
theorem dX12_advance_268 : decode cX12_advance 268 = .ok (.iastore, 1) := by decide +kernel
theorem dX12_advance_269 : decode cX12_advance 269 = .ok (.iload_n 2, 1) := by decide +kernel
theorem dX12_advance_270 : decode cX12_advance 270 = .ok (.ifCond .eq 21, 3) := by decide +kernel
theorem dX12_advance_273 : decode cX12_advance 273 = .ok (.iload 5, 2) := by decide +kernel
theorem dX12_advance_275 : decode cX12_advance 275 = .ok (.ifCond .eq 16, 3) := by decide +kernel
theorem dX12_advance_278 : decode cX12_advance 278 = .ok (.aload_n 0, 1) := by decide +kernel
theorem dX12_advance_279 : decode cX12_advance 279 = .ok (.getfield 150, 3) := by decide +kernel
theorem dX12_advance_282 : decode cX12_advance 282 = .ok (.iload_n 1, 1) := by decide +kernel
theorem dX12_advance_283 : decode cX12_advance 283 = .ok (.dup2, 1) := by decide +kernel
theorem dX12_advance_284 : decode cX12_advance 284 = .ok (.iaload, 1) := by decide +kernel
theorem dX12_advance_285 : decode cX12_advance 285 = .ok (.iconst 1, 1) := by decide +kernel
theorem dX12_advance_286 : decode cX12_advance 286 = .ok (.iadd, 1) := by decide +kernel
theorem dX12_advance_287 : decode cX12_advance 287 = .ok (.iastore, 1) := by decide +kernel
theorem dX12_advance_288 : decode cX12_advance 288 = .ok (.goto 20, 3) := by decide +kernel
theorem dX12_advance_291 : decode cX12_advance 291 = .ok (.aload_n 0, 1) := by decide +kernel
theorem dX12_advance_292 : decode cX12_advance 292 = .ok (.getfield 147, 3) := by decide +kernel
theorem dX12_advance_295 : decode cX12_advance 295 = .ok (.iload_n 1, 1) := by decide +kernel
theorem dX12_advance_296 : decode cX12_advance 296 = .ok (.dup2, 1) := by decide +kernel
theorem dX12_advance_297 : decode cX12_advance 297 = .ok (.iaload, 1) := by decide +kernel
theorem dX12_advance_298 : decode cX12_advance 298 = .ok (.iconst 1, 1) := by decide +kernel
theorem dX12_advance_299 : decode cX12_advance 299 = .ok (.iadd, 1) := by decide +kernel
theorem dX12_advance_300 : decode cX12_advance 300 = .ok (.iastore, 1) := by decide +kernel
theorem dX12_advance_301 : decode cX12_advance 301 = .ok (.aload_n 0, 1) := by decide +kernel
theorem dX12_advance_302 : decode cX12_advance 302 = .ok (.getfield 150, 3) := by decide +kernel
theorem dX12_advance_305 : decode cX12_advance 305 = .ok (.iload_n 1, 1) := by decide +kernel
theorem dX12_advance_306 : decode cX12_advance 306 = .ok (.iconst 0, 1) := by decide +kernel
theorem dX12_advance_307 : decode cX12_advance 307 = .ok (.iastore, 1) := by decide +kernel
theorem dX12_advance_308 : decode cX12_advance 308 = .ok (.goto (-282), 3) := by decide +kernel
theorem dX12_advance_311 : decode cX12_advance 311 = .ok (.iconst 0, 1) := by decide +kernel
theorem dX12_advance_312 : decode cX12_advance 312 = .ok (.ireturn, 1) := by decide +kernel
theorem dX12_areUp_0 : decode cX12_areUp 0 = .ok (.iconst 0, 1) := by decide +kernel
theorem dX12_areUp_1 : decode cX12_areUp 1 = .ok (.istore_n 2, 1) := by decide +kernel
theorem dX12_areUp_2 : decode cX12_areUp 2 = .ok (.iload_n 2, 1) := by decide +kernel
theorem dX12_areUp_3 : decode cX12_areUp 3 = .ok (.aload_n 0, 1) := by decide +kernel
theorem dX12_areUp_4 : decode cX12_areUp 4 = .ok (.getfield 193, 3) := by decide +kernel
theorem dX12_areUp_7 : decode cX12_areUp 7 = .ok (.if_icmp .ge 28, 3) := by decide +kernel
theorem dX12_areUp_10 : decode cX12_areUp 10 = .ok (.iload_n 1, 1) := by decide +kernel
theorem dX12_areUp_11 : decode cX12_areUp 11 = .ok (.iload_n 2, 1) := by decide +kernel
theorem dX12_areUp_12 : decode cX12_areUp 12 = .ok (.invokestatic 212, 3) := by decide +kernel
theorem dX12_areUp_15 : decode cX12_areUp 15 = .ok (.ifCond .eq 14, 3) := by decide +kernel
theorem dX12_areUp_18 : decode cX12_areUp 18 = .ok (.aload_n 0, 1) := by decide +kernel
theorem dX12_areUp_19 : decode cX12_areUp 19 = .ok (.getfield 41, 3) := by decide +kernel
theorem dX12_areUp_22 : decode cX12_areUp 22 = .ok (.iload_n 2, 1) := by decide +kernel
theorem dX12_areUp_23 : decode cX12_areUp 23 = .ok (.baload, 1) := by decide +kernel
theorem dX12_areUp_24 : decode cX12_areUp 24 = .ok (.ifCond .ne 5, 3) := by decide +kernel
theorem dX12_areUp_27 : decode cX12_areUp 27 = .ok (.iconst 0, 1) := by decide +kernel
theorem dX12_areUp_28 : decode cX12_areUp 28 = .ok (.ireturn, 1) := by decide +kernel
theorem dX12_areUp_29 : decode cX12_areUp 29 = .ok (.iinc 2 1, 3) := by decide +kernel
theorem dX12_areUp_32 : decode cX12_areUp 32 = .ok (.goto (-30), 3) := by decide +kernel
theorem dX12_areUp_35 : decode cX12_areUp 35 = .ok (.iconst 1, 1) := by decide +kernel
theorem dX12_areUp_36 : decode cX12_areUp 36 = .ok (.ireturn, 1) := by decide +kernel
theorem dX12_puts_0 : decode cX12_puts 0 = .ok (.sipush 256, 3) := by decide +kernel
theorem dX12_puts_3 : decode cX12_puts 3 = .ok (.iload_n 1, 1) := by decide +kernel
theorem dX12_puts_4 : decode cX12_puts 4 = .ok (.imul, 1) := by decide +kernel
theorem dX12_puts_5 : decode cX12_puts 5 = .ok (.aload_n 0, 1) := by decide +kernel
theorem dX12_puts_6 : decode cX12_puts 6 = .ok (.getfield 147, 3) := by decide +kernel
theorem dX12_puts_9 : decode cX12_puts 9 = .ok (.iload_n 1, 1) := by decide +kernel
theorem dX12_puts_10 : decode cX12_puts 10 = .ok (.iaload, 1) := by decide +kernel
theorem dX12_puts_11 : decode cX12_puts 11 = .ok (.iadd, 1) := by decide +kernel
theorem dX12_puts_12 : decode cX12_puts 12 = .ok (.istore_n 2, 1) := by decide +kernel
theorem dX12_puts_13 : decode cX12_puts 13 = .ok (.sipush 256, 3) := by decide +kernel
theorem dX12_puts_16 : decode cX12_puts 16 = .ok (.iload_n 1, 1) := by decide +kernel
theorem dX12_puts_17 : decode cX12_puts 17 = .ok (.imul, 1) := by decide +kernel
theorem dX12_puts_18 : decode cX12_puts 18 = .ok (.aload_n 0, 1) := by decide +kernel
theorem dX12_puts_19 : decode cX12_puts 19 = .ok (.getfield 150, 3) := by decide +kernel
theorem dX12_puts_22 : decode cX12_puts 22 = .ok (.iload_n 1, 1) := by decide +kernel
theorem dX12_puts_23 : decode cX12_puts 23 = .ok (.iaload, 1) := by decide +kernel
theorem dX12_puts_24 : decode cX12_puts 24 = .ok (.iadd, 1) := by decide +kernel
theorem dX12_puts_25 : decode cX12_puts 25 = .ok (.istore_n 3, 1) := by decide +kernel
theorem dX12_puts_26 : decode cX12_puts 26 = .ok (.aload_n 0, 1) := by decide +kernel
theorem dX12_puts_27 : decode cX12_puts 27 = .ok (.getfield 45, 3) := by decide +kernel
theorem dX12_puts_30 : decode cX12_puts 30 = .ok (.iload_n 1, 1) := by decide +kernel
theorem dX12_puts_31 : decode cX12_puts 31 = .ok (.iaload, 1) := by decide +kernel
theorem dX12_puts_32 : decode cX12_puts 32 = .ok (.iconst 1, 1) := by decide +kernel
theorem dX12_puts_33 : decode cX12_puts 33 = .ok (.if_icmp .ne 7, 3) := by decide +kernel
theorem dX12_puts_36 : decode cX12_puts 36 = .ok (.iconst 1, 1) := by decide +kernel
theorem dX12_puts_37 : decode cX12_puts 37 = .ok (.goto 4, 3) := by decide +kernel
theorem dX12_puts_40 : decode cX12_puts 40 = .ok (.iconst 0, 1) := by decide +kernel
theorem dX12_puts_41 : decode cX12_puts 41 = .ok (.istore 4, 2) := by decide +kernel
theorem dX12_puts_43 : decode cX12_puts 43 = .ok (.aload_n 0, 1) := by decide +kernel
theorem dX12_puts_44 : decode cX12_puts 44 = .ok (.getfield 96, 3) := by decide +kernel
theorem dX12_puts_47 : decode cX12_puts 47 = .ok (.iload_n 1, 1) := by decide +kernel
theorem dX12_puts_48 : decode cX12_puts 48 = .ok (.aload_n 0, 1) := by decide +kernel
theorem dX12_puts_49 : decode cX12_puts 49 = .ok (.getfield 132, 3) := by decide +kernel
theorem dX12_puts_52 : decode cX12_puts 52 = .ok (.iload_n 2, 1) := by decide +kernel
theorem dX12_puts_53 : decode cX12_puts 53 = .ok (.iaload, 1) := by decide +kernel
theorem dX12_puts_54 : decode cX12_puts 54 = .ok (.iastore, 1) := by decide +kernel
theorem dX12_puts_55 : decode cX12_puts 55 = .ok (.aload_n 0, 1) := by decide +kernel
theorem dX12_puts_56 : decode cX12_puts 56 = .ok (.getfield 102, 3) := by decide +kernel
theorem dX12_puts_59 : decode cX12_puts 59 = .ok (.iload_n 1, 1) := by decide +kernel
theorem dX12_puts_60 : decode cX12_puts 60 = .ok (.aload_n 0, 1) := by decide +kernel
theorem dX12_puts_61 : decode cX12_puts 61 = .ok (.getfield 123, 3) := by decide +kernel
theorem dX12_puts_64 : decode cX12_puts 64 = .ok (.iload_n 2, 1) := by decide +kernel
theorem dX12_puts_65 : decode cX12_puts 65 = .ok (.iaload, 1) := by decide +kernel
theorem dX12_puts_66 : decode cX12_puts 66 = .ok (.iastore, 1) := by decide +kernel
theorem dX12_puts_67 : decode cX12_puts 67 = .ok (.aload_n 0, 1) := by decide +kernel
theorem dX12_puts_68 : decode cX12_puts 68 = .ok (.getfield 99, 3) := by decide +kernel
theorem dX12_puts_71 : decode cX12_puts 71 = .ok (.iload_n 1, 1) := by decide +kernel
theorem dX12_puts_72 : decode cX12_puts 72 = .ok (.iload 4, 2) := by decide +kernel
theorem dX12_puts_74 : decode cX12_puts 74 = .ok (.ifCond .eq 12, 3) := by decide +kernel
theorem dX12_puts_77 : decode cX12_puts 77 = .ok (.aload_n 0, 1) := by decide +kernel
theorem dX12_puts_78 : decode cX12_puts 78 = .ok (.getfield 132, 3) := by decide +kernel
theorem dX12_puts_81 : decode cX12_puts 81 = .ok (.iload_n 3, 1) := by decide +kernel
theorem dX12_puts_82 : decode cX12_puts 82 = .ok (.iaload, 1) := by decide +kernel
theorem dX12_puts_83 : decode cX12_puts 83 = .ok (.goto 4, 3) := by decide +kernel
theorem dX12_puts_86 : decode cX12_puts 86 = .ok (.iconst 0, 1) := by decide +kernel
theorem dX12_puts_87 : decode cX12_puts 87 = .ok (.iastore, 1) := by decide +kernel
theorem dX12_puts_88 : decode cX12_puts 88 = .ok (.aload_n 0, 1) := by decide +kernel
theorem dX12_puts_89 : decode cX12_puts 89 = .ok (.getfield 105, 3) := by decide +kernel
theorem dX12_puts_92 : decode cX12_puts 92 = .ok (.iload_n 1, 1) := by decide +kernel
theorem dX12_puts_93 : decode cX12_puts 93 = .ok (.iload 4, 2) := by decide +kernel
theorem dX12_puts_95 : decode cX12_puts 95 = .ok (.ifCond .eq 12, 3) := by decide +kernel
theorem dX12_puts_98 : decode cX12_puts 98 = .ok (.aload_n 0, 1) := by decide +kernel
theorem dX12_puts_99 : decode cX12_puts 99 = .ok (.getfield 123, 3) := by decide +kernel
theorem dX12_puts_102 : decode cX12_puts 102 = .ok (.iload_n 3, 1) := by decide +kernel
theorem dX12_puts_103 : decode cX12_puts 103 = .ok (.iaload, 1) := by decide +kernel
theorem dX12_puts_104 : decode cX12_puts 104 = .ok (.goto 4, 3) := by decide +kernel
theorem dX12_puts_107 : decode cX12_puts 107 = .ok (.iconst 0, 1) := by decide +kernel
theorem dX12_puts_108 : decode cX12_puts 108 = .ok (.iastore, 1) := by decide +kernel
theorem dX12_puts_109 : decode cX12_puts 109 = .ok (.aload_n 0, 1) := by decide +kernel
theorem dX12_puts_110 : decode cX12_puts 110 = .ok (.getfield 108, 3) := by decide +kernel
theorem dX12_puts_113 : decode cX12_puts 113 = .ok (.iload_n 1, 1) := by decide +kernel
theorem dX12_puts_114 : decode cX12_puts 114 = .ok (.aload_n 0, 1) := by decide +kernel
theorem dX12_puts_115 : decode cX12_puts 115 = .ok (.getfield 153, 3) := by decide +kernel
theorem dX12_puts_118 : decode cX12_puts 118 = .ok (.iload_n 1, 1) := by decide +kernel
theorem dX12_puts_119 : decode cX12_puts 119 = .ok (.iaload, 1) := by decide +kernel
theorem dX12_puts_120 : decode cX12_puts 120 = .ok (.iastore, 1) := by decide +kernel
theorem dX12_puts_121 : decode cX12_puts 121 = .ok (.aload_n 0, 1) := by decide +kernel
theorem dX12_puts_122 : decode cX12_puts 122 = .ok (.aload_n 0, 1) := by decide +kernel
theorem dX12_puts_123 : decode cX12_puts 123 = .ok (.getfield 96, 3) := by decide +kernel
theorem dX12_puts_126 : decode cX12_puts 126 = .ok (.iload_n 1, 1) := by decide +kernel
theorem dX12_puts_127 : decode cX12_puts 127 = .ok (.iaload, 1) := by decide +kernel
theorem dX12_puts_128 : decode cX12_puts 128 = .ok (.aload_n 0, 1) := by decide +kernel
theorem dX12_puts_129 : decode cX12_puts 129 = .ok (.getfield 99, 3) := by decide +kernel
theorem dX12_puts_132 : decode cX12_puts 132 = .ok (.iload_n 1, 1) := by decide +kernel
theorem dX12_puts_133 : decode cX12_puts 133 = .ok (.iaload, 1) := by decide +kernel
theorem dX12_puts_134 : decode cX12_puts 134 = .ok (.ior, 1) := by decide +kernel
theorem dX12_puts_135 : decode cX12_puts 135 = .ok (.invokevirtual 281, 3) := by decide +kernel
theorem dX12_puts_138 : decode cX12_puts 138 = .ok (.ireturn, 1) := by decide +kernel
theorem dX12_places_0 : decode cX12_places 0 = .ok (.aload_n 0, 1) := by decide +kernel
theorem dX12_places_1 : decode cX12_places 1 = .ok (.iload_n 1, 1) := by decide +kernel
theorem dX12_places_2 : decode cX12_places 2 = .ok (.invokevirtual 235, 3) := by decide +kernel
theorem dX12_places_5 : decode cX12_places 5 = .ok (.ifCond .ne 10, 3) := by decide +kernel
theorem dX12_places_8 : decode cX12_places 8 = .ok (.aload_n 0, 1) := by decide +kernel
theorem dX12_places_9 : decode cX12_places 9 = .ok (.ldc 199, 2) := by decide +kernel
theorem dX12_places_11 : decode cX12_places 11 = .ok (.invokevirtual 200, 3) := by decide +kernel
theorem dX12_places_14 : decode cX12_places 14 = .ok (.ireturn, 1) := by decide +kernel
theorem dX12_places_15 : decode cX12_places 15 = .ok (.aload_n 0, 1) := by decide +kernel
theorem dX12_places_16 : decode cX12_places 16 = .ok (.iload_n 1, 1) := by decide +kernel
theorem dX12_places_17 : decode cX12_places 17 = .ok (.invokevirtual 284, 3) := by decide +kernel
theorem dX12_places_20 : decode cX12_places 20 = .ok (.iconst 0, 1) := by decide +kernel
theorem dX12_places_21 : decode cX12_places 21 = .ok (.istore_n 2, 1) := by decide +kernel
theorem dX12_places_22 : decode cX12_places 22 = .ok (.aload_n 0, 1) := by decide +kernel
theorem dX12_places_23 : decode cX12_places 23 = .ok (.iload_n 1, 1) := by decide +kernel
theorem dX12_places_24 : decode cX12_places 24 = .ok (.invokevirtual 288, 3) := by decide +kernel
theorem dX12_places_27 : decode cX12_places 27 = .ok (.ifCond .eq 9, 3) := by decide +kernel
theorem dX12_places_30 : decode cX12_places 30 = .ok (.iinc 2 1, 3) := by decide +kernel
theorem dX12_places_33 : decode cX12_places 33 = .ok (.goto (-11), 3) := by decide +kernel
theorem dX12_places_36 : decode cX12_places 36 = .ok (.iload_n 2, 1) := by decide +kernel
theorem dX12_places_37 : decode cX12_places 37 = .ok (.ireturn, 1) := by decide +kernel
theorem dX12_letIn_0 : decode cX12_letIn 0 = .ok (.aload_n 0, 1) := by decide +kernel
theorem dX12_letIn_1 : decode cX12_letIn 1 = .ok (.iload_n 1, 1) := by decide +kernel
theorem dX12_letIn_2 : decode cX12_letIn 2 = .ok (.invokevirtual 235, 3) := by decide +kernel
theorem dX12_letIn_5 : decode cX12_letIn 5 = .ok (.ifCond .ne 10, 3) := by decide +kernel
theorem dX12_letIn_8 : decode cX12_letIn 8 = .ok (.aload_n 0, 1) := by decide +kernel
theorem dX12_letIn_9 : decode cX12_letIn 9 = .ok (.ldc 199, 2) := by decide +kernel
theorem dX12_letIn_11 : decode cX12_letIn 11 = .ok (.invokevirtual 200, 3) := by decide +kernel
theorem dX12_letIn_14 : decode cX12_letIn 14 = .ok (.ireturn, 1) := by decide +kernel
theorem dX12_letIn_15 : decode cX12_letIn 15 = .ok (.aload_n 0, 1) := by decide +kernel
theorem dX12_letIn_16 : decode cX12_letIn 16 = .ok (.getfield 93, 3) := by decide +kernel
theorem dX12_letIn_19 : decode cX12_letIn 19 = .ok (.iload_n 1, 1) := by decide +kernel
theorem dX12_letIn_20 : decode cX12_letIn 20 = .ok (.baload, 1) := by decide +kernel
theorem dX12_letIn_21 : decode cX12_letIn 21 = .ok (.ifCond .eq 10, 3) := by decide +kernel
theorem dX12_letIn_24 : decode cX12_letIn 24 = .ok (.aload_n 0, 1) := by decide +kernel
theorem dX12_letIn_25 : decode cX12_letIn 25 = .ok (.ldc 238, 2) := by decide +kernel
theorem dX12_letIn_27 : decode cX12_letIn 27 = .ok (.invokevirtual 200, 3) := by decide +kernel
theorem dX12_letIn_30 : decode cX12_letIn 30 = .ok (.ireturn, 1) := by decide +kernel
theorem dX12_letIn_31 : decode cX12_letIn 31 = .ok (.aload_n 0, 1) := by decide +kernel
theorem dX12_letIn_32 : decode cX12_letIn 32 = .ok (.iload_n 1, 1) := by decide +kernel
theorem dX12_letIn_33 : decode cX12_letIn 33 = .ok (.invokevirtual 284, 3) := by decide +kernel
theorem dX12_letIn_36 : decode cX12_letIn 36 = .ok (.aload_n 0, 1) := by decide +kernel
theorem dX12_letIn_37 : decode cX12_letIn 37 = .ok (.iload_n 1, 1) := by decide +kernel
theorem dX12_letIn_38 : decode cX12_letIn 38 = .ok (.invokevirtual 288, 3) := by decide +kernel
theorem dX12_letIn_41 : decode cX12_letIn 41 = .ok (.ifCond .eq 48, 3) := by decide +kernel
theorem dX12_letIn_44 : decode cX12_letIn 44 = .ok (.aload_n 0, 1) := by decide +kernel
theorem dX12_letIn_45 : decode cX12_letIn 45 = .ok (.getfield 93, 3) := by decide +kernel
theorem dX12_letIn_48 : decode cX12_letIn 48 = .ok (.iload_n 1, 1) := by decide +kernel
theorem dX12_letIn_49 : decode cX12_letIn 49 = .ok (.aload_n 0, 1) := by decide +kernel
theorem dX12_letIn_50 : decode cX12_letIn 50 = .ok (.iload_n 1, 1) := by decide +kernel
theorem dX12_letIn_51 : decode cX12_letIn 51 = .ok (.invokevirtual 291, 3) := by decide +kernel
theorem dX12_letIn_54 : decode cX12_letIn 54 = .ok (.bastore, 1) := by decide +kernel
theorem dX12_letIn_55 : decode cX12_letIn 55 = .ok (.aload_n 0, 1) := by decide +kernel
theorem dX12_letIn_56 : decode cX12_letIn 56 = .ok (.getfield 93, 3) := by decide +kernel
theorem dX12_letIn_59 : decode cX12_letIn 59 = .ok (.iload_n 1, 1) := by decide +kernel
theorem dX12_letIn_60 : decode cX12_letIn 60 = .ok (.baload, 1) := by decide +kernel
theorem dX12_letIn_61 : decode cX12_letIn 61 = .ok (.ifCond .eq 18, 3) := by decide +kernel
theorem dX12_letIn_64 : decode cX12_letIn 64 = .ok (.aload_n 0, 1) := by decide +kernel
theorem dX12_letIn_65 : decode cX12_letIn 65 = .ok (.iconst 0, 1) := by decide +kernel
theorem dX12_letIn_66 : decode cX12_letIn 66 = .ok (.invokevirtual 294, 3) := by decide +kernel
theorem dX12_letIn_69 : decode cX12_letIn 69 = .ok (.ifCond .eq 10, 3) := by decide +kernel
theorem dX12_letIn_72 : decode cX12_letIn 72 = .ok (.aload_n 0, 1) := by decide +kernel
theorem dX12_letIn_73 : decode cX12_letIn 73 = .ok (.getfield 156, 3) := by decide +kernel
theorem dX12_letIn_76 : decode cX12_letIn 76 = .ok (.iload_n 1, 1) := by decide +kernel
theorem dX12_letIn_77 : decode cX12_letIn 77 = .ok (.iaload, 1) := by decide +kernel
theorem dX12_letIn_78 : decode cX12_letIn 78 = .ok (.ireturn, 1) := by decide +kernel
theorem dX12_letIn_79 : decode cX12_letIn 79 = .ok (.aload_n 0, 1) := by decide +kernel
theorem dX12_letIn_80 : decode cX12_letIn 80 = .ok (.getfield 93, 3) := by decide +kernel
theorem dX12_letIn_83 : decode cX12_letIn 83 = .ok (.iload_n 1, 1) := by decide +kernel
theorem dX12_letIn_84 : decode cX12_letIn 84 = .ok (.iconst 0, 1) := by decide +kernel
theorem dX12_letIn_85 : decode cX12_letIn 85 = .ok (.bastore, 1) := by decide +kernel
theorem dX12_letIn_86 : decode cX12_letIn 86 = .ok (.goto (-50), 3) := by decide +kernel
theorem dX12_letIn_89 : decode cX12_letIn 89 = .ok (.aload_n 0, 1) := by decide +kernel
theorem dX12_letIn_90 : decode cX12_letIn 90 = .ok (.ldc 230, 2) := by decide +kernel
theorem dX12_letIn_92 : decode cX12_letIn 92 = .ok (.invokevirtual 200, 3) := by decide +kernel
theorem dX12_letIn_95 : decode cX12_letIn 95 = .ok (.ireturn, 1) := by decide +kernel
theorem dX12_why_0 : decode cX12_why 0 = .ok (.aload_n 0, 1) := by decide +kernel
theorem dX12_why_1 : decode cX12_why 1 = .ok (.iload_n 1, 1) := by decide +kernel
theorem dX12_why_2 : decode cX12_why 2 = .ok (.invokevirtual 235, 3) := by decide +kernel
theorem dX12_why_5 : decode cX12_why 5 = .ok (.ifCond .ne 10, 3) := by decide +kernel
theorem dX12_why_8 : decode cX12_why 8 = .ok (.aload_n 0, 1) := by decide +kernel
theorem dX12_why_9 : decode cX12_why 9 = .ok (.ldc 199, 2) := by decide +kernel
theorem dX12_why_11 : decode cX12_why 11 = .ok (.invokevirtual 200, 3) := by decide +kernel
theorem dX12_why_14 : decode cX12_why 14 = .ok (.ireturn, 1) := by decide +kernel
theorem dX12_why_15 : decode cX12_why 15 = .ok (.aload_n 0, 1) := by decide +kernel
theorem dX12_why_16 : decode cX12_why 16 = .ok (.getfield 93, 3) := by decide +kernel
theorem dX12_why_19 : decode cX12_why 19 = .ok (.iload_n 1, 1) := by decide +kernel
theorem dX12_why_20 : decode cX12_why 20 = .ok (.baload, 1) := by decide +kernel
theorem dX12_why_21 : decode cX12_why 21 = .ok (.ifCond .eq 10, 3) := by decide +kernel
theorem dX12_why_24 : decode cX12_why 24 = .ok (.aload_n 0, 1) := by decide +kernel
theorem dX12_why_25 : decode cX12_why 25 = .ok (.ldc 238, 2) := by decide +kernel
theorem dX12_why_27 : decode cX12_why 27 = .ok (.invokevirtual 200, 3) := by decide +kernel
theorem dX12_why_30 : decode cX12_why 30 = .ok (.ireturn, 1) := by decide +kernel
theorem dX12_why_31 : decode cX12_why 31 = .ok (.aload_n 0, 1) := by decide +kernel
theorem dX12_why_32 : decode cX12_why 32 = .ok (.iload_n 1, 1) := by decide +kernel
theorem dX12_why_33 : decode cX12_why 33 = .ok (.invokevirtual 284, 3) := by decide +kernel
theorem dX12_why_36 : decode cX12_why 36 = .ok (.iconst 1, 1) := by decide +kernel
theorem dX12_why_37 : decode cX12_why 37 = .ok (.istore_n 2, 1) := by decide +kernel
theorem dX12_why_38 : decode cX12_why 38 = .ok (.aload_n 0, 1) := by decide +kernel
theorem dX12_why_39 : decode cX12_why 39 = .ok (.iload_n 1, 1) := by decide +kernel
theorem dX12_why_40 : decode cX12_why 40 = .ok (.invokevirtual 288, 3) := by decide +kernel
theorem dX12_why_43 : decode cX12_why 43 = .ok (.ifCond .eq 104, 3) := by decide +kernel
theorem dX12_why_46 : decode cX12_why 46 = .ok (.aload_n 0, 1) := by decide +kernel
theorem dX12_why_47 : decode cX12_why 47 = .ok (.iload_n 1, 1) := by decide +kernel
theorem dX12_why_48 : decode cX12_why 48 = .ok (.invokevirtual 291, 3) := by decide +kernel
theorem dX12_why_51 : decode cX12_why 51 = .ok (.istore_n 3, 1) := by decide +kernel
theorem dX12_why_52 : decode cX12_why 52 = .ok (.aload_n 0, 1) := by decide +kernel
theorem dX12_why_53 : decode cX12_why 53 = .ok (.getfield 93, 3) := by decide +kernel
theorem dX12_why_56 : decode cX12_why 56 = .ok (.iload_n 1, 1) := by decide +kernel
theorem dX12_why_57 : decode cX12_why 57 = .ok (.iload_n 3, 1) := by decide +kernel
theorem dX12_why_58 : decode cX12_why 58 = .ok (.bastore, 1) := by decide +kernel
theorem dX12_why_59 : decode cX12_why 59 = .ok (.iload_n 3, 1) := by decide +kernel
theorem dX12_why_60 : decode cX12_why 60 = .ok (.ifCond .eq 15, 3) := by decide +kernel
theorem dX12_why_63 : decode cX12_why 63 = .ok (.aload_n 0, 1) := by decide +kernel
theorem dX12_why_64 : decode cX12_why 64 = .ok (.iconst 0, 1) := by decide +kernel
theorem dX12_why_65 : decode cX12_why 65 = .ok (.invokevirtual 294, 3) := by decide +kernel
theorem dX12_why_68 : decode cX12_why 68 = .ok (.ifCond .eq 7, 3) := by decide +kernel
theorem dX12_why_71 : decode cX12_why 71 = .ok (.iconst 1, 1) := by decide +kernel
theorem dX12_why_72 : decode cX12_why 72 = .ok (.goto 4, 3) := by decide +kernel
theorem dX12_why_75 : decode cX12_why 75 = .ok (.iconst 0, 1) := by decide +kernel
theorem dX12_why_76 : decode cX12_why 76 = .ok (.istore 4, 2) := by decide +kernel
theorem dX12_why_78 : decode cX12_why 78 = .ok (.iload_n 3, 1) := by decide +kernel
theorem dX12_why_79 : decode cX12_why 79 = .ok (.ifCond .eq 15, 3) := by decide +kernel
theorem dX12_why_82 : decode cX12_why 82 = .ok (.aload_n 0, 1) := by decide +kernel
theorem dX12_why_83 : decode cX12_why 83 = .ok (.iconst 1, 1) := by decide +kernel
theorem dX12_why_84 : decode cX12_why 84 = .ok (.invokevirtual 294, 3) := by decide +kernel
theorem dX12_why_87 : decode cX12_why 87 = .ok (.ifCond .eq 7, 3) := by decide +kernel
theorem dX12_why_90 : decode cX12_why 90 = .ok (.iconst 1, 1) := by decide +kernel
theorem dX12_why_91 : decode cX12_why 91 = .ok (.goto 4, 3) := by decide +kernel
theorem dX12_why_94 : decode cX12_why 94 = .ok (.iconst 0, 1) := by decide +kernel
theorem dX12_why_95 : decode cX12_why 95 = .ok (.istore 5, 2) := by decide +kernel
theorem dX12_why_97 : decode cX12_why 97 = .ok (.aload_n 0, 1) := by decide +kernel
theorem dX12_why_98 : decode cX12_why 98 = .ok (.getfield 93, 3) := by decide +kernel
theorem dX12_why_101 : decode cX12_why 101 = .ok (.iload_n 1, 1) := by decide +kernel
theorem dX12_why_102 : decode cX12_why 102 = .ok (.iconst 0, 1) := by decide +kernel
theorem dX12_why_103 : decode cX12_why 103 = .ok (.bastore, 1) := by decide +kernel
theorem dX12_why_104 : decode cX12_why 104 = .ok (.iload 4, 2) := by decide +kernel
theorem dX12_why_106 : decode cX12_why 106 = .ok (.ifCond .eq 5, 3) := by decide +kernel
theorem dX12_why_109 : decode cX12_why 109 = .ok (.iconst 0, 1) := by decide +kernel
theorem dX12_why_110 : decode cX12_why 110 = .ok (.ireturn, 1) := by decide +kernel
theorem dX12_why_111 : decode cX12_why 111 = .ok (.iload_n 3, 1) := by decide +kernel
theorem dX12_why_112 : decode cX12_why 112 = .ok (.ifCond .ne 7, 3) := by decide +kernel
theorem dX12_why_115 : decode cX12_why 115 = .ok (.iconst 2, 1) := by decide +kernel
theorem dX12_why_116 : decode cX12_why 116 = .ok (.goto 13, 3) := by decide +kernel
theorem dX12_why_119 : decode cX12_why 119 = .ok (.iload 5, 2) := by decide +kernel
theorem dX12_why_121 : decode cX12_why 121 = .ok (.ifCond .ne 7, 3) := by decide +kernel
theorem dX12_why_124 : decode cX12_why 124 = .ok (.iconst 3, 1) := by decide +kernel
theorem dX12_why_125 : decode cX12_why 125 = .ok (.goto 4, 3) := by decide +kernel
theorem dX12_why_128 : decode cX12_why 128 = .ok (.iconst 4, 1) := by decide +kernel
theorem dX12_why_129 : decode cX12_why 129 = .ok (.istore 6, 2) := by decide +kernel
theorem dX12_why_131 : decode cX12_why 131 = .ok (.iload 6, 2) := by decide +kernel
theorem dX12_why_133 : decode cX12_why 133 = .ok (.iload_n 2, 1) := by decide +kernel
theorem dX12_why_134 : decode cX12_why 134 = .ok (.if_icmp .le 8, 3) := by decide +kernel
theorem dX12_why_137 : decode cX12_why 137 = .ok (.iload 6, 2) := by decide +kernel
theorem dX12_why_139 : decode cX12_why 139 = .ok (.goto 4, 3) := by decide +kernel
theorem dX12_why_142 : decode cX12_why 142 = .ok (.iload_n 2, 1) := by decide +kernel
theorem dX12_why_143 : decode cX12_why 143 = .ok (.istore_n 2, 1) := by decide +kernel
theorem dX12_why_144 : decode cX12_why 144 = .ok (.goto (-106), 3) := by decide +kernel
theorem dX12_why_147 : decode cX12_why 147 = .ok (.iload_n 2, 1) := by decide +kernel
theorem dX12_why_148 : decode cX12_why 148 = .ok (.ireturn, 1) := by decide +kernel
theorem dX12_out_0 : decode cX12_out 0 = .ok (.aload_n 0, 1) := by decide +kernel
theorem dX12_out_1 : decode cX12_out 1 = .ok (.iload_n 1, 1) := by decide +kernel
theorem dX12_out_2 : decode cX12_out 2 = .ok (.invokevirtual 235, 3) := by decide +kernel
theorem dX12_out_5 : decode cX12_out 5 = .ok (.ifCond .ne 10, 3) := by decide +kernel
theorem dX12_out_8 : decode cX12_out 8 = .ok (.aload_n 0, 1) := by decide +kernel
theorem dX12_out_9 : decode cX12_out 9 = .ok (.ldc 199, 2) := by decide +kernel
theorem dX12_out_11 : decode cX12_out 11 = .ok (.invokevirtual 200, 3) := by decide +kernel
theorem dX12_out_14 : decode cX12_out 14 = .ok (.ireturn, 1) := by decide +kernel
theorem dX12_out_15 : decode cX12_out 15 = .ok (.aload_n 0, 1) := by decide +kernel
theorem dX12_out_16 : decode cX12_out 16 = .ok (.getfield 93, 3) := by decide +kernel
theorem dX12_out_19 : decode cX12_out 19 = .ok (.iload_n 1, 1) := by decide +kernel
theorem dX12_out_20 : decode cX12_out 20 = .ok (.baload, 1) := by decide +kernel
theorem dX12_out_21 : decode cX12_out 21 = .ok (.ifCond .ne 10, 3) := by decide +kernel
theorem dX12_out_24 : decode cX12_out 24 = .ok (.aload_n 0, 1) := by decide +kernel
theorem dX12_out_25 : decode cX12_out 25 = .ok (.ldc 238, 2) := by decide +kernel
theorem dX12_out_27 : decode cX12_out 27 = .ok (.invokevirtual 200, 3) := by decide +kernel
theorem dX12_out_30 : decode cX12_out 30 = .ok (.ireturn, 1) := by decide +kernel
theorem dX12_out_31 : decode cX12_out 31 = .ok (.aload_n 0, 1) := by decide +kernel
theorem dX12_out_32 : decode cX12_out 32 = .ok (.getfield 93, 3) := by decide +kernel
theorem dX12_out_35 : decode cX12_out 35 = .ok (.iload_n 1, 1) := by decide +kernel
theorem dX12_out_36 : decode cX12_out 36 = .ok (.iconst 0, 1) := by decide +kernel
theorem dX12_out_37 : decode cX12_out 37 = .ok (.bastore, 1) := by decide +kernel
theorem dX12_out_38 : decode cX12_out 38 = .ok (.iconst 1, 1) := by decide +kernel
theorem dX12_out_39 : decode cX12_out 39 = .ok (.ireturn, 1) := by decide +kernel
theorem dX12_wayOf_0 : decode cX12_wayOf 0 = .ok (.aload_n 0, 1) := by decide +kernel
theorem dX12_wayOf_1 : decode cX12_wayOf 1 = .ok (.iload_n 1, 1) := by decide +kernel
theorem dX12_wayOf_2 : decode cX12_wayOf 2 = .ok (.invokevirtual 235, 3) := by decide +kernel
theorem dX12_wayOf_5 : decode cX12_wayOf 5 = .ok (.ifCond .eq 7, 3) := by decide +kernel
theorem dX12_wayOf_8 : decode cX12_wayOf 8 = .ok (.iload_n 3, 1) := by decide +kernel
theorem dX12_wayOf_9 : decode cX12_wayOf 9 = .ok (.ifCond .ge 10, 3) := by decide +kernel
theorem dX12_wayOf_12 : decode cX12_wayOf 12 = .ok (.aload_n 0, 1) := by decide +kernel
theorem dX12_wayOf_13 : decode cX12_wayOf 13 = .ok (.ldc 199, 2) := by decide +kernel
theorem dX12_wayOf_15 : decode cX12_wayOf 15 = .ok (.invokevirtual 200, 3) := by decide +kernel
theorem dX12_wayOf_18 : decode cX12_wayOf 18 = .ok (.ireturn, 1) := by decide +kernel
theorem dX12_wayOf_19 : decode cX12_wayOf 19 = .ok (.aload_n 0, 1) := by decide +kernel
theorem dX12_wayOf_20 : decode cX12_wayOf 20 = .ok (.getfield 93, 3) := by decide +kernel
theorem dX12_wayOf_23 : decode cX12_wayOf 23 = .ok (.iload_n 1, 1) := by decide +kernel
theorem dX12_wayOf_24 : decode cX12_wayOf 24 = .ok (.baload, 1) := by decide +kernel
theorem dX12_wayOf_25 : decode cX12_wayOf 25 = .ok (.ifCond .ne 10, 3) := by decide +kernel
theorem dX12_wayOf_28 : decode cX12_wayOf 28 = .ok (.aload_n 0, 1) := by decide +kernel
theorem dX12_wayOf_29 : decode cX12_wayOf 29 = .ok (.ldc 238, 2) := by decide +kernel
theorem dX12_wayOf_31 : decode cX12_wayOf 31 = .ok (.invokevirtual 200, 3) := by decide +kernel
theorem dX12_wayOf_34 : decode cX12_wayOf 34 = .ok (.ireturn, 1) := by decide +kernel
theorem dX12_wayOf_35 : decode cX12_wayOf 35 = .ok (.iload_n 2, 1) := by decide +kernel
theorem dX12_wayOf_36 : decode cX12_wayOf 36 = .ok (.ifCond .eq 20, 3) := by decide +kernel
theorem dX12_wayOf_39 : decode cX12_wayOf 39 = .ok (.aload_n 0, 1) := by decide +kernel
theorem dX12_wayOf_40 : decode cX12_wayOf 40 = .ok (.getfield 45, 3) := by decide +kernel
theorem dX12_wayOf_43 : decode cX12_wayOf 43 = .ok (.iload_n 1, 1) := by decide +kernel
theorem dX12_wayOf_44 : decode cX12_wayOf 44 = .ok (.iaload, 1) := by decide +kernel
theorem dX12_wayOf_45 : decode cX12_wayOf 45 = .ok (.iconst 1, 1) := by decide +kernel
theorem dX12_wayOf_46 : decode cX12_wayOf 46 = .ok (.if_icmp .eq 10, 3) := by decide +kernel
theorem dX12_wayOf_49 : decode cX12_wayOf 49 = .ok (.aload_n 0, 1) := by decide +kernel
theorem dX12_wayOf_50 : decode cX12_wayOf 50 = .ok (.ldc 242, 2) := by decide +kernel
theorem dX12_wayOf_52 : decode cX12_wayOf 52 = .ok (.invokevirtual 200, 3) := by decide +kernel
theorem dX12_wayOf_55 : decode cX12_wayOf 55 = .ok (.ireturn, 1) := by decide +kernel
theorem dX12_wayOf_56 : decode cX12_wayOf 56 = .ok (.iload_n 2, 1) := by decide +kernel
theorem dX12_wayOf_57 : decode cX12_wayOf 57 = .ok (.ifCond .eq 25, 3) := by decide +kernel
theorem dX12_wayOf_60 : decode cX12_wayOf 60 = .ok (.aload_n 0, 1) := by decide +kernel
theorem dX12_wayOf_61 : decode cX12_wayOf 61 = .ok (.getfield 105, 3) := by decide +kernel
theorem dX12_wayOf_64 : decode cX12_wayOf 64 = .ok (.iload_n 1, 1) := by decide +kernel
theorem dX12_wayOf_65 : decode cX12_wayOf 65 = .ok (.iaload, 1) := by decide +kernel
theorem dX12_wayOf_66 : decode cX12_wayOf 66 = .ok (.aload_n 0, 1) := by decide +kernel
theorem dX12_wayOf_67 : decode cX12_wayOf 67 = .ok (.getfield 99, 3) := by decide +kernel
theorem dX12_wayOf_70 : decode cX12_wayOf 70 = .ok (.iload_n 1, 1) := by decide +kernel
theorem dX12_wayOf_71 : decode cX12_wayOf 71 = .ok (.iaload, 1) := by decide +kernel
theorem dX12_wayOf_72 : decode cX12_wayOf 72 = .ok (.invokestatic 272, 3) := by decide +kernel
theorem dX12_wayOf_75 : decode cX12_wayOf 75 = .ok (.iload_n 3, 1) := by decide +kernel
theorem dX12_wayOf_76 : decode cX12_wayOf 76 = .ok (.invokestatic 231, 3) := by decide +kernel
theorem dX12_wayOf_79 : decode cX12_wayOf 79 = .ok (.goto 22, 3) := by decide +kernel
theorem dX12_wayOf_82 : decode cX12_wayOf 82 = .ok (.aload_n 0, 1) := by decide +kernel
theorem dX12_wayOf_83 : decode cX12_wayOf 83 = .ok (.getfield 102, 3) := by decide +kernel
theorem dX12_wayOf_86 : decode cX12_wayOf 86 = .ok (.iload_n 1, 1) := by decide +kernel
theorem dX12_wayOf_87 : decode cX12_wayOf 87 = .ok (.iaload, 1) := by decide +kernel
theorem dX12_wayOf_88 : decode cX12_wayOf 88 = .ok (.aload_n 0, 1) := by decide +kernel
theorem dX12_wayOf_89 : decode cX12_wayOf 89 = .ok (.getfield 96, 3) := by decide +kernel
theorem dX12_wayOf_92 : decode cX12_wayOf 92 = .ok (.iload_n 1, 1) := by decide +kernel
theorem dX12_wayOf_93 : decode cX12_wayOf 93 = .ok (.iaload, 1) := by decide +kernel
theorem dX12_wayOf_94 : decode cX12_wayOf 94 = .ok (.invokestatic 272, 3) := by decide +kernel
theorem dX12_wayOf_97 : decode cX12_wayOf 97 = .ok (.iload_n 3, 1) := by decide +kernel
theorem dX12_wayOf_98 : decode cX12_wayOf 98 = .ok (.invokestatic 231, 3) := by decide +kernel
theorem dX12_wayOf_101 : decode cX12_wayOf 101 = .ok (.ireturn, 1) := by decide +kernel
theorem dX12_host_0 : decode cX12_host 0 = .ok (.aload_n 0, 1) := by decide +kernel
theorem dX12_host_1 : decode cX12_host 1 = .ok (.iload_n 1, 1) := by decide +kernel
theorem dX12_host_2 : decode cX12_host 2 = .ok (.invokevirtual 235, 3) := by decide +kernel
theorem dX12_host_5 : decode cX12_host 5 = .ok (.ifCond .ne 10, 3) := by decide +kernel
theorem dX12_host_8 : decode cX12_host 8 = .ok (.aload_n 0, 1) := by decide +kernel
theorem dX12_host_9 : decode cX12_host 9 = .ok (.ldc 199, 2) := by decide +kernel
theorem dX12_host_11 : decode cX12_host 11 = .ok (.invokevirtual 200, 3) := by decide +kernel
theorem dX12_host_14 : decode cX12_host 14 = .ok (.ireturn, 1) := by decide +kernel
theorem dX12_host_15 : decode cX12_host 15 = .ok (.aload_n 0, 1) := by decide +kernel
theorem dX12_host_16 : decode cX12_host 16 = .ok (.getfield 93, 3) := by decide +kernel
theorem dX12_host_19 : decode cX12_host 19 = .ok (.iload_n 1, 1) := by decide +kernel
theorem dX12_host_20 : decode cX12_host 20 = .ok (.baload, 1) := by decide +kernel
theorem dX12_host_21 : decode cX12_host 21 = .ok (.ifCond .eq 12, 3) := by decide +kernel
theorem dX12_host_24 : decode cX12_host 24 = .ok (.aload_n 0, 1) := by decide +kernel
theorem dX12_host_25 : decode cX12_host 25 = .ok (.getfield 108, 3) := by decide +kernel
theorem dX12_host_28 : decode cX12_host 28 = .ok (.iload_n 1, 1) := by decide +kernel
theorem dX12_host_29 : decode cX12_host 29 = .ok (.iaload, 1) := by decide +kernel
theorem dX12_host_30 : decode cX12_host 30 = .ok (.goto 9, 3) := by decide +kernel
theorem dX12_host_33 : decode cX12_host 33 = .ok (.aload_n 0, 1) := by decide +kernel
theorem dX12_host_34 : decode cX12_host 34 = .ok (.ldc 238, 2) := by decide +kernel
theorem dX12_host_36 : decode cX12_host 36 = .ok (.invokevirtual 200, 3) := by decide +kernel
theorem dX12_host_39 : decode cX12_host 39 = .ok (.ireturn, 1) := by decide +kernel
theorem dX12_takes_0 : decode cX12_takes 0 = .ok (.iload_n 2, 1) := by decide +kernel
theorem dX12_takes_1 : decode cX12_takes 1 = .ok (.ifCond .ge 7, 3) := by decide +kernel
theorem dX12_takes_4 : decode cX12_takes 4 = .ok (.iconst 0, 1) := by decide +kernel
theorem dX12_takes_5 : decode cX12_takes 5 = .ok (.goto 6, 3) := by decide +kernel
theorem dX12_takes_8 : decode cX12_takes 8 = .ok (.iconst 1, 1) := by decide +kernel
theorem dX12_takes_9 : decode cX12_takes 9 = .ok (.iload_n 2, 1) := by decide +kernel
theorem dX12_takes_10 : decode cX12_takes 10 = .ok (.ishl, 1) := by decide +kernel
theorem dX12_takes_11 : decode cX12_takes 11 = .ok (.istore_n 3, 1) := by decide +kernel
theorem dX12_takes_12 : decode cX12_takes 12 = .ok (.aload_n 0, 1) := by decide +kernel
theorem dX12_takes_13 : decode cX12_takes 13 = .ok (.aload_n 0, 1) := by decide +kernel
theorem dX12_takes_14 : decode cX12_takes 14 = .ok (.getfield 96, 3) := by decide +kernel
theorem dX12_takes_17 : decode cX12_takes 17 = .ok (.iload_n 1, 1) := by decide +kernel
theorem dX12_takes_18 : decode cX12_takes 18 = .ok (.iaload, 1) := by decide +kernel
theorem dX12_takes_19 : decode cX12_takes 19 = .ok (.invokevirtual 281, 3) := by decide +kernel
theorem dX12_takes_22 : decode cX12_takes 22 = .ok (.ifCond .eq 21, 3) := by decide +kernel
theorem dX12_takes_25 : decode cX12_takes 25 = .ok (.aload_n 0, 1) := by decide +kernel
theorem dX12_takes_26 : decode cX12_takes 26 = .ok (.getfield 96, 3) := by decide +kernel
theorem dX12_takes_29 : decode cX12_takes 29 = .ok (.iload_n 1, 1) := by decide +kernel
theorem dX12_takes_30 : decode cX12_takes 30 = .ok (.iaload, 1) := by decide +kernel
theorem dX12_takes_31 : decode cX12_takes 31 = .ok (.iload_n 3, 1) := by decide +kernel
theorem dX12_takes_32 : decode cX12_takes 32 = .ok (.iand, 1) := by decide +kernel
theorem dX12_takes_33 : decode cX12_takes 33 = .ok (.ifCond .ne 10, 3) := by decide +kernel
theorem dX12_takes_36 : decode cX12_takes 36 = .ok (.aload_n 0, 1) := by decide +kernel
theorem dX12_takes_37 : decode cX12_takes 37 = .ok (.getfield 96, 3) := by decide +kernel
theorem dX12_takes_40 : decode cX12_takes 40 = .ok (.iload_n 1, 1) := by decide +kernel
theorem dX12_takes_41 : decode cX12_takes 41 = .ok (.iaload, 1) := by decide +kernel
theorem dX12_takes_42 : decode cX12_takes 42 = .ok (.ireturn, 1) := by decide +kernel
theorem dX12_takes_43 : decode cX12_takes 43 = .ok (.aload_n 0, 1) := by decide +kernel
theorem dX12_takes_44 : decode cX12_takes 44 = .ok (.getfield 45, 3) := by decide +kernel
theorem dX12_takes_47 : decode cX12_takes 47 = .ok (.iload_n 1, 1) := by decide +kernel
theorem dX12_takes_48 : decode cX12_takes 48 = .ok (.iaload, 1) := by decide +kernel
theorem dX12_takes_49 : decode cX12_takes 49 = .ok (.iconst 1, 1) := by decide +kernel
theorem dX12_takes_50 : decode cX12_takes 50 = .ok (.if_icmp .ne 36, 3) := by decide +kernel
theorem dX12_takes_53 : decode cX12_takes 53 = .ok (.aload_n 0, 1) := by decide +kernel
theorem dX12_takes_54 : decode cX12_takes 54 = .ok (.aload_n 0, 1) := by decide +kernel
theorem dX12_takes_55 : decode cX12_takes 55 = .ok (.getfield 99, 3) := by decide +kernel
theorem dX12_takes_58 : decode cX12_takes 58 = .ok (.iload_n 1, 1) := by decide +kernel
theorem dX12_takes_59 : decode cX12_takes 59 = .ok (.iaload, 1) := by decide +kernel
theorem dX12_takes_60 : decode cX12_takes 60 = .ok (.invokevirtual 281, 3) := by decide +kernel
theorem dX12_takes_63 : decode cX12_takes 63 = .ok (.ifCond .eq 23, 3) := by decide +kernel
theorem dX12_takes_66 : decode cX12_takes 66 = .ok (.aload_n 0, 1) := by decide +kernel
theorem dX12_takes_67 : decode cX12_takes 67 = .ok (.getfield 99, 3) := by decide +kernel
theorem dX12_takes_70 : decode cX12_takes 70 = .ok (.iload_n 1, 1) := by decide +kernel
theorem dX12_takes_71 : decode cX12_takes 71 = .ok (.iaload, 1) := by decide +kernel
theorem dX12_takes_72 : decode cX12_takes 72 = .ok (.iload_n 3, 1) := by decide +kernel
theorem dX12_takes_73 : decode cX12_takes 73 = .ok (.iand, 1) := by decide +kernel
theorem dX12_takes_74 : decode cX12_takes 74 = .ok (.ifCond .ne 12, 3) := by decide +kernel
theorem dX12_takes_77 : decode cX12_takes 77 = .ok (.aload_n 0, 1) := by decide +kernel
theorem dX12_takes_78 : decode cX12_takes 78 = .ok (.getfield 99, 3) := by decide +kernel
theorem dX12_takes_81 : decode cX12_takes 81 = .ok (.iload_n 1, 1) := by decide +kernel
theorem dX12_takes_82 : decode cX12_takes 82 = .ok (.iaload, 1) := by decide +kernel
theorem dX12_takes_83 : decode cX12_takes 83 = .ok (.goto 4, 3) := by decide +kernel
theorem dX12_takes_86 : decode cX12_takes 86 = .ok (.iconst 0, 1) := by decide +kernel
theorem dX12_takes_87 : decode cX12_takes 87 = .ok (.ireturn, 1) := by decide +kernel
theorem dX12_took_0 : decode cX12_took 0 = .ok (.iload_n 1, 1) := by decide +kernel
theorem dX12_took_1 : decode cX12_took 1 = .ok (.iconst (-1), 1) := by decide +kernel
theorem dX12_took_2 : decode cX12_took 2 = .ok (.if_icmp .eq 18, 3) := by decide +kernel
theorem dX12_took_5 : decode cX12_took 5 = .ok (.aload_n 0, 1) := by decide +kernel
theorem dX12_took_6 : decode cX12_took 6 = .ok (.iload_n 1, 1) := by decide +kernel
theorem dX12_took_7 : decode cX12_took 7 = .ok (.invokevirtual 209, 3) := by decide +kernel
theorem dX12_took_10 : decode cX12_took 10 = .ok (.ifCond .ne 10, 3) := by decide +kernel
theorem dX12_took_13 : decode cX12_took 13 = .ok (.aload_n 0, 1) := by decide +kernel
theorem dX12_took_14 : decode cX12_took 14 = .ok (.ldc 199, 2) := by decide +kernel
theorem dX12_took_16 : decode cX12_took 16 = .ok (.invokevirtual 200, 3) := by decide +kernel
theorem dX12_took_19 : decode cX12_took 19 = .ok (.ireturn, 1) := by decide +kernel
theorem dX12_took_20 : decode cX12_took 20 = .ok (.iconst 0, 1) := by decide +kernel
theorem dX12_took_21 : decode cX12_took 21 = .ok (.istore_n 2, 1) := by decide +kernel
theorem dX12_took_22 : decode cX12_took 22 = .ok (.iconst 0, 1) := by decide +kernel
theorem dX12_took_23 : decode cX12_took 23 = .ok (.istore_n 3, 1) := by decide +kernel
theorem dX12_took_24 : decode cX12_took 24 = .ok (.iload_n 3, 1) := by decide +kernel
theorem dX12_took_25 : decode cX12_took 25 = .ok (.aload_n 0, 1) := by decide +kernel
theorem dX12_took_26 : decode cX12_took 26 = .ok (.getfield 196, 3) := by decide +kernel
theorem dX12_took_29 : decode cX12_took 29 = .ok (.if_icmp .ge 37, 3) := by decide +kernel
theorem dX12_took_32 : decode cX12_took 32 = .ok (.iload_n 2, 1) := by decide +kernel
theorem dX12_took_33 : decode cX12_took 33 = .ok (.aload_n 0, 1) := by decide +kernel
theorem dX12_took_34 : decode cX12_took 34 = .ok (.getfield 93, 3) := by decide +kernel
theorem dX12_took_37 : decode cX12_took 37 = .ok (.iload_n 3, 1) := by decide +kernel
theorem dX12_took_38 : decode cX12_took 38 = .ok (.baload, 1) := by decide +kernel
theorem dX12_took_39 : decode cX12_took 39 = .ok (.ifCond .eq 18, 3) := by decide +kernel
theorem dX12_took_42 : decode cX12_took 42 = .ok (.aload_n 0, 1) := by decide +kernel
theorem dX12_took_43 : decode cX12_took 43 = .ok (.iload_n 3, 1) := by decide +kernel
theorem dX12_took_44 : decode cX12_took 44 = .ok (.iload_n 1, 1) := by decide +kernel
theorem dX12_took_45 : decode cX12_took 45 = .ok (.invokevirtual 298, 3) := by decide +kernel
theorem dX12_took_48 : decode cX12_took 48 = .ok (.ifCond .ne 9, 3) := by decide +kernel
theorem dX12_took_51 : decode cX12_took 51 = .ok (.iconst 1, 1) := by decide +kernel
theorem dX12_took_52 : decode cX12_took 52 = .ok (.iload_n 3, 1) := by decide +kernel
theorem dX12_took_53 : decode cX12_took 53 = .ok (.ishl, 1) := by decide +kernel
theorem dX12_took_54 : decode cX12_took 54 = .ok (.goto 4, 3) := by decide +kernel
theorem dX12_took_57 : decode cX12_took 57 = .ok (.iconst 0, 1) := by decide +kernel
theorem dX12_took_58 : decode cX12_took 58 = .ok (.ior, 1) := by decide +kernel
theorem dX12_took_59 : decode cX12_took 59 = .ok (.istore_n 2, 1) := by decide +kernel
theorem dX12_took_60 : decode cX12_took 60 = .ok (.iinc 3 1, 3) := by decide +kernel
theorem dX12_took_63 : decode cX12_took 63 = .ok (.goto (-39), 3) := by decide +kernel
theorem dX12_took_66 : decode cX12_took 66 = .ok (.iload_n 2, 1) := by decide +kernel
theorem dX12_took_67 : decode cX12_took 67 = .ok (.ireturn, 1) := by decide +kernel
theorem dX12_keeps_0 : decode cX12_keeps 0 = .ok (.iconst 0, 1) := by decide +kernel
theorem dX12_keeps_1 : decode cX12_keeps 1 = .ok (.istore_n 1, 1) := by decide +kernel
theorem dX12_keeps_2 : decode cX12_keeps 2 = .ok (.iload_n 1, 1) := by decide +kernel
theorem dX12_keeps_3 : decode cX12_keeps 3 = .ok (.bipush 8, 2) := by decide +kernel
theorem dX12_keeps_5 : decode cX12_keeps 5 = .ok (.if_icmp .ge 81, 3) := by decide +kernel
theorem dX12_keeps_8 : decode cX12_keeps 8 = .ok (.aload_n 0, 1) := by decide +kernel
theorem dX12_keeps_9 : decode cX12_keeps 9 = .ok (.getfield 159, 3) := by decide +kernel
theorem dX12_keeps_12 : decode cX12_keeps 12 = .ok (.iload_n 1, 1) := by decide +kernel
theorem dX12_keeps_13 : decode cX12_keeps 13 = .ok (.aload_n 0, 1) := by decide +kernel
theorem dX12_keeps_14 : decode cX12_keeps 14 = .ok (.getfield 93, 3) := by decide +kernel
theorem dX12_keeps_17 : decode cX12_keeps 17 = .ok (.iload_n 1, 1) := by decide +kernel
theorem dX12_keeps_18 : decode cX12_keeps 18 = .ok (.baload, 1) := by decide +kernel
theorem dX12_keeps_19 : decode cX12_keeps 19 = .ok (.bastore, 1) := by decide +kernel
theorem dX12_keeps_20 : decode cX12_keeps 20 = .ok (.aload_n 0, 1) := by decide +kernel
theorem dX12_keeps_21 : decode cX12_keeps 21 = .ok (.getfield 162, 3) := by decide +kernel
theorem dX12_keeps_24 : decode cX12_keeps 24 = .ok (.iload_n 1, 1) := by decide +kernel
theorem dX12_keeps_25 : decode cX12_keeps 25 = .ok (.aload_n 0, 1) := by decide +kernel
theorem dX12_keeps_26 : decode cX12_keeps 26 = .ok (.getfield 96, 3) := by decide +kernel
theorem dX12_keeps_29 : decode cX12_keeps 29 = .ok (.iload_n 1, 1) := by decide +kernel
theorem dX12_keeps_30 : decode cX12_keeps 30 = .ok (.iaload, 1) := by decide +kernel
theorem dX12_keeps_31 : decode cX12_keeps 31 = .ok (.iastore, 1) := by decide +kernel
theorem dX12_keeps_32 : decode cX12_keeps 32 = .ok (.aload_n 0, 1) := by decide +kernel
theorem dX12_keeps_33 : decode cX12_keeps 33 = .ok (.getfield 165, 3) := by decide +kernel
theorem dX12_keeps_36 : decode cX12_keeps 36 = .ok (.iload_n 1, 1) := by decide +kernel
theorem dX12_keeps_37 : decode cX12_keeps 37 = .ok (.aload_n 0, 1) := by decide +kernel
theorem dX12_keeps_38 : decode cX12_keeps 38 = .ok (.getfield 99, 3) := by decide +kernel
theorem dX12_keeps_41 : decode cX12_keeps 41 = .ok (.iload_n 1, 1) := by decide +kernel
theorem dX12_keeps_42 : decode cX12_keeps 42 = .ok (.iaload, 1) := by decide +kernel
theorem dX12_keeps_43 : decode cX12_keeps 43 = .ok (.iastore, 1) := by decide +kernel
theorem dX12_keeps_44 : decode cX12_keeps 44 = .ok (.aload_n 0, 1) := by decide +kernel
theorem dX12_keeps_45 : decode cX12_keeps 45 = .ok (.getfield 168, 3) := by decide +kernel
theorem dX12_keeps_48 : decode cX12_keeps 48 = .ok (.iload_n 1, 1) := by decide +kernel
theorem dX12_keeps_49 : decode cX12_keeps 49 = .ok (.aload_n 0, 1) := by decide +kernel
theorem dX12_keeps_50 : decode cX12_keeps 50 = .ok (.getfield 102, 3) := by decide +kernel
theorem dX12_keeps_53 : decode cX12_keeps 53 = .ok (.iload_n 1, 1) := by decide +kernel
theorem dX12_keeps_54 : decode cX12_keeps 54 = .ok (.iaload, 1) := by decide +kernel
theorem dX12_keeps_55 : decode cX12_keeps 55 = .ok (.iastore, 1) := by decide +kernel
theorem dX12_keeps_56 : decode cX12_keeps 56 = .ok (.aload_n 0, 1) := by decide +kernel
theorem dX12_keeps_57 : decode cX12_keeps 57 = .ok (.getfield 171, 3) := by decide +kernel
theorem dX12_keeps_60 : decode cX12_keeps 60 = .ok (.iload_n 1, 1) := by decide +kernel
theorem dX12_keeps_61 : decode cX12_keeps 61 = .ok (.aload_n 0, 1) := by decide +kernel
theorem dX12_keeps_62 : decode cX12_keeps 62 = .ok (.getfield 105, 3) := by decide +kernel
theorem dX12_keeps_65 : decode cX12_keeps 65 = .ok (.iload_n 1, 1) := by decide +kernel
theorem dX12_keeps_66 : decode cX12_keeps 66 = .ok (.iaload, 1) := by decide +kernel
theorem dX12_keeps_67 : decode cX12_keeps 67 = .ok (.iastore, 1) := by decide +kernel
theorem dX12_keeps_68 : decode cX12_keeps 68 = .ok (.aload_n 0, 1) := by decide +kernel
theorem dX12_keeps_69 : decode cX12_keeps 69 = .ok (.getfield 174, 3) := by decide +kernel
theorem dX12_keeps_72 : decode cX12_keeps 72 = .ok (.iload_n 1, 1) := by decide +kernel
theorem dX12_keeps_73 : decode cX12_keeps 73 = .ok (.aload_n 0, 1) := by decide +kernel
theorem dX12_keeps_74 : decode cX12_keeps 74 = .ok (.getfield 108, 3) := by decide +kernel
theorem dX12_keeps_77 : decode cX12_keeps 77 = .ok (.iload_n 1, 1) := by decide +kernel
theorem dX12_keeps_78 : decode cX12_keeps 78 = .ok (.iaload, 1) := by decide +kernel
theorem dX12_keeps_79 : decode cX12_keeps 79 = .ok (.iastore, 1) := by decide +kernel
theorem dX12_keeps_80 : decode cX12_keeps 80 = .ok (.iinc 1 1, 3) := by decide +kernel
theorem dX12_keeps_83 : decode cX12_keeps 83 = .ok (.goto (-81), 3) := by decide +kernel
theorem dX12_keeps_86 : decode cX12_keeps 86 = .ok (.return_, 1) := by decide +kernel
theorem dX12_backTo_0 : decode cX12_backTo 0 = .ok (.iconst 0, 1) := by decide +kernel
theorem dX12_backTo_1 : decode cX12_backTo 1 = .ok (.istore_n 1, 1) := by decide +kernel
theorem dX12_backTo_2 : decode cX12_backTo 2 = .ok (.iload_n 1, 1) := by decide +kernel
theorem dX12_backTo_3 : decode cX12_backTo 3 = .ok (.bipush 8, 2) := by decide +kernel
theorem dX12_backTo_5 : decode cX12_backTo 5 = .ok (.if_icmp .ge 81, 3) := by decide +kernel
theorem dX12_backTo_8 : decode cX12_backTo 8 = .ok (.aload_n 0, 1) := by decide +kernel
theorem dX12_backTo_9 : decode cX12_backTo 9 = .ok (.getfield 93, 3) := by decide +kernel
theorem dX12_backTo_12 : decode cX12_backTo 12 = .ok (.iload_n 1, 1) := by decide +kernel
theorem dX12_backTo_13 : decode cX12_backTo 13 = .ok (.aload_n 0, 1) := by decide +kernel
theorem dX12_backTo_14 : decode cX12_backTo 14 = .ok (.getfield 159, 3) := by decide +kernel
theorem dX12_backTo_17 : decode cX12_backTo 17 = .ok (.iload_n 1, 1) := by decide +kernel
theorem dX12_backTo_18 : decode cX12_backTo 18 = .ok (.baload, 1) := by decide +kernel
theorem dX12_backTo_19 : decode cX12_backTo 19 = .ok (.bastore, 1) := by decide +kernel
theorem dX12_backTo_20 : decode cX12_backTo 20 = .ok (.aload_n 0, 1) := by decide +kernel
theorem dX12_backTo_21 : decode cX12_backTo 21 = .ok (.getfield 96, 3) := by decide +kernel
theorem dX12_backTo_24 : decode cX12_backTo 24 = .ok (.iload_n 1, 1) := by decide +kernel
theorem dX12_backTo_25 : decode cX12_backTo 25 = .ok (.aload_n 0, 1) := by decide +kernel
theorem dX12_backTo_26 : decode cX12_backTo 26 = .ok (.getfield 162, 3) := by decide +kernel
theorem dX12_backTo_29 : decode cX12_backTo 29 = .ok (.iload_n 1, 1) := by decide +kernel
theorem dX12_backTo_30 : decode cX12_backTo 30 = .ok (.iaload, 1) := by decide +kernel
theorem dX12_backTo_31 : decode cX12_backTo 31 = .ok (.iastore, 1) := by decide +kernel
theorem dX12_backTo_32 : decode cX12_backTo 32 = .ok (.aload_n 0, 1) := by decide +kernel
theorem dX12_backTo_33 : decode cX12_backTo 33 = .ok (.getfield 99, 3) := by decide +kernel
theorem dX12_backTo_36 : decode cX12_backTo 36 = .ok (.iload_n 1, 1) := by decide +kernel
theorem dX12_backTo_37 : decode cX12_backTo 37 = .ok (.aload_n 0, 1) := by decide +kernel
theorem dX12_backTo_38 : decode cX12_backTo 38 = .ok (.getfield 165, 3) := by decide +kernel
theorem dX12_backTo_41 : decode cX12_backTo 41 = .ok (.iload_n 1, 1) := by decide +kernel
theorem dX12_backTo_42 : decode cX12_backTo 42 = .ok (.iaload, 1) := by decide +kernel
theorem dX12_backTo_43 : decode cX12_backTo 43 = .ok (.iastore, 1) := by decide +kernel
theorem dX12_backTo_44 : decode cX12_backTo 44 = .ok (.aload_n 0, 1) := by decide +kernel
theorem dX12_backTo_45 : decode cX12_backTo 45 = .ok (.getfield 102, 3) := by decide +kernel
theorem dX12_backTo_48 : decode cX12_backTo 48 = .ok (.iload_n 1, 1) := by decide +kernel
theorem dX12_backTo_49 : decode cX12_backTo 49 = .ok (.aload_n 0, 1) := by decide +kernel
theorem dX12_backTo_50 : decode cX12_backTo 50 = .ok (.getfield 168, 3) := by decide +kernel
theorem dX12_backTo_53 : decode cX12_backTo 53 = .ok (.iload_n 1, 1) := by decide +kernel
theorem dX12_backTo_54 : decode cX12_backTo 54 = .ok (.iaload, 1) := by decide +kernel
theorem dX12_backTo_55 : decode cX12_backTo 55 = .ok (.iastore, 1) := by decide +kernel
theorem dX12_backTo_56 : decode cX12_backTo 56 = .ok (.aload_n 0, 1) := by decide +kernel
theorem dX12_backTo_57 : decode cX12_backTo 57 = .ok (.getfield 105, 3) := by decide +kernel
theorem dX12_backTo_60 : decode cX12_backTo 60 = .ok (.iload_n 1, 1) := by decide +kernel
theorem dX12_backTo_61 : decode cX12_backTo 61 = .ok (.aload_n 0, 1) := by decide +kernel
theorem dX12_backTo_62 : decode cX12_backTo 62 = .ok (.getfield 171, 3) := by decide +kernel
theorem dX12_backTo_65 : decode cX12_backTo 65 = .ok (.iload_n 1, 1) := by decide +kernel
theorem dX12_backTo_66 : decode cX12_backTo 66 = .ok (.iaload, 1) := by decide +kernel
theorem dX12_backTo_67 : decode cX12_backTo 67 = .ok (.iastore, 1) := by decide +kernel
theorem dX12_backTo_68 : decode cX12_backTo 68 = .ok (.aload_n 0, 1) := by decide +kernel
theorem dX12_backTo_69 : decode cX12_backTo 69 = .ok (.getfield 108, 3) := by decide +kernel
theorem dX12_backTo_72 : decode cX12_backTo 72 = .ok (.iload_n 1, 1) := by decide +kernel
theorem dX12_backTo_73 : decode cX12_backTo 73 = .ok (.aload_n 0, 1) := by decide +kernel
theorem dX12_backTo_74 : decode cX12_backTo 74 = .ok (.getfield 174, 3) := by decide +kernel
theorem dX12_backTo_77 : decode cX12_backTo 77 = .ok (.iload_n 1, 1) := by decide +kernel
theorem dX12_backTo_78 : decode cX12_backTo 78 = .ok (.iaload, 1) := by decide +kernel
theorem dX12_backTo_79 : decode cX12_backTo 79 = .ok (.iastore, 1) := by decide +kernel
theorem dX12_backTo_80 : decode cX12_backTo 80 = .ok (.iinc 1 1, 3) := by decide +kernel
theorem dX12_backTo_83 : decode cX12_backTo 83 = .ok (.goto (-81), 3) := by decide +kernel
theorem dX12_backTo_86 : decode cX12_backTo 86 = .ok (.return_, 1) := by decide +kernel
theorem dX12_comesIn_0 : decode cX12_comesIn 0 = .ok (.aload_n 0, 1) := by decide +kernel
theorem dX12_comesIn_1 : decode cX12_comesIn 1 = .ok (.getfield 93, 3) := by decide +kernel
theorem dX12_comesIn_4 : decode cX12_comesIn 4 = .ok (.iload_n 1, 1) := by decide +kernel
theorem dX12_comesIn_5 : decode cX12_comesIn 5 = .ok (.iconst 0, 1) := by decide +kernel
theorem dX12_comesIn_6 : decode cX12_comesIn 6 = .ok (.bastore, 1) := by decide +kernel
theorem dX12_comesIn_7 : decode cX12_comesIn 7 = .ok (.aload_n 0, 1) := by decide +kernel
theorem dX12_comesIn_8 : decode cX12_comesIn 8 = .ok (.iload_n 1, 1) := by decide +kernel
theorem dX12_comesIn_9 : decode cX12_comesIn 9 = .ok (.invokevirtual 288, 3) := by decide +kernel
theorem dX12_comesIn_12 : decode cX12_comesIn 12 = .ok (.ifCond .eq 65, 3) := by decide +kernel
theorem dX12_comesIn_15 : decode cX12_comesIn 15 = .ok (.aload_n 0, 1) := by decide +kernel
theorem dX12_comesIn_16 : decode cX12_comesIn 16 = .ok (.iload_n 1, 1) := by decide +kernel
theorem dX12_comesIn_17 : decode cX12_comesIn 17 = .ok (.invokevirtual 291, 3) := by decide +kernel
theorem dX12_comesIn_20 : decode cX12_comesIn 20 = .ok (.ifCond .ne 6, 3) := by decide +kernel
theorem dX12_comesIn_23 : decode cX12_comesIn 23 = .ok (.goto (-16), 3) := by decide +kernel
theorem dX12_comesIn_26 : decode cX12_comesIn 26 = .ok (.aload_n 0, 1) := by decide +kernel
theorem dX12_comesIn_27 : decode cX12_comesIn 27 = .ok (.getfield 301, 3) := by decide +kernel
theorem dX12_comesIn_30 : decode cX12_comesIn 30 = .ok (.sipush 2000, 3) := by decide +kernel
theorem dX12_comesIn_33 : decode cX12_comesIn 33 = .ok (.if_icmp .ne 7, 3) := by decide +kernel
theorem dX12_comesIn_36 : decode cX12_comesIn 36 = .ok (.ldc_w 304, 3) := by decide +kernel
theorem dX12_comesIn_39 : decode cX12_comesIn 39 = .ok (.ireturn, 1) := by decide +kernel
theorem dX12_comesIn_40 : decode cX12_comesIn 40 = .ok (.aload_n 0, 1) := by decide +kernel
theorem dX12_comesIn_41 : decode cX12_comesIn 41 = .ok (.dup, 1) := by decide +kernel
theorem dX12_comesIn_42 : decode cX12_comesIn 42 = .ok (.getfield 301, 3) := by decide +kernel
theorem dX12_comesIn_45 : decode cX12_comesIn 45 = .ok (.iconst 1, 1) := by decide +kernel
theorem dX12_comesIn_46 : decode cX12_comesIn 46 = .ok (.iadd, 1) := by decide +kernel
theorem dX12_comesIn_47 : decode cX12_comesIn 47 = .ok (.putfield 301, 3) := by decide +kernel
theorem dX12_comesIn_50 : decode cX12_comesIn 50 = .ok (.aload_n 0, 1) := by decide +kernel
theorem dX12_comesIn_51 : decode cX12_comesIn 51 = .ok (.getfield 93, 3) := by decide +kernel
theorem dX12_comesIn_54 : decode cX12_comesIn 54 = .ok (.iload_n 1, 1) := by decide +kernel
theorem dX12_comesIn_55 : decode cX12_comesIn 55 = .ok (.iconst 1, 1) := by decide +kernel
theorem dX12_comesIn_56 : decode cX12_comesIn 56 = .ok (.bastore, 1) := by decide +kernel
theorem dX12_comesIn_57 : decode cX12_comesIn 57 = .ok (.aload_n 0, 1) := by decide +kernel
theorem dX12_comesIn_58 : decode cX12_comesIn 58 = .ok (.iconst 0, 1) := by decide +kernel
theorem dX12_comesIn_59 : decode cX12_comesIn 59 = .ok (.invokevirtual 294, 3) := by decide +kernel
theorem dX12_comesIn_62 : decode cX12_comesIn 62 = .ok (.ifCond .eq 5, 3) := by decide +kernel
theorem dX12_comesIn_65 : decode cX12_comesIn 65 = .ok (.iconst 1, 1) := by decide +kernel
theorem dX12_comesIn_66 : decode cX12_comesIn 66 = .ok (.ireturn, 1) := by decide +kernel
theorem dX12_comesIn_67 : decode cX12_comesIn 67 = .ok (.aload_n 0, 1) := by decide +kernel
theorem dX12_comesIn_68 : decode cX12_comesIn 68 = .ok (.getfield 93, 3) := by decide +kernel
theorem dX12_comesIn_71 : decode cX12_comesIn 71 = .ok (.iload_n 1, 1) := by decide +kernel
theorem dX12_comesIn_72 : decode cX12_comesIn 72 = .ok (.iconst 0, 1) := by decide +kernel
theorem dX12_comesIn_73 : decode cX12_comesIn 73 = .ok (.bastore, 1) := by decide +kernel
theorem dX12_comesIn_74 : decode cX12_comesIn 74 = .ok (.goto (-67), 3) := by decide +kernel
theorem dX12_comesIn_77 : decode cX12_comesIn 77 = .ok (.iconst 0, 1) := by decide +kernel
theorem dX12_comesIn_78 : decode cX12_comesIn 78 = .ok (.ireturn, 1) := by decide +kernel
theorem dX12_after_0 : decode cX12_after 0 = .ok (.iload_n 2, 1) := by decide +kernel
theorem dX12_after_1 : decode cX12_after 1 = .ok (.iconst 1, 1) := by decide +kernel
theorem dX12_after_2 : decode cX12_after 2 = .ok (.iadd, 1) := by decide +kernel
theorem dX12_after_3 : decode cX12_after 3 = .ok (.istore_n 3, 1) := by decide +kernel
theorem dX12_after_4 : decode cX12_after 4 = .ok (.iload_n 3, 1) := by decide +kernel
theorem dX12_after_5 : decode cX12_after 5 = .ok (.aload_n 0, 1) := by decide +kernel
theorem dX12_after_6 : decode cX12_after 6 = .ok (.getfield 196, 3) := by decide +kernel
theorem dX12_after_9 : decode cX12_after 9 = .ok (.if_icmp .ge 17, 3) := by decide +kernel
theorem dX12_after_12 : decode cX12_after 12 = .ok (.iload_n 1, 1) := by decide +kernel
theorem dX12_after_13 : decode cX12_after 13 = .ok (.iload_n 3, 1) := by decide +kernel
theorem dX12_after_14 : decode cX12_after 14 = .ok (.invokestatic 212, 3) := by decide +kernel
theorem dX12_after_17 : decode cX12_after 17 = .ok (.ifCond .ne 9, 3) := by decide +kernel
theorem dX12_after_20 : decode cX12_after 20 = .ok (.iinc 3 1, 3) := by decide +kernel
theorem dX12_after_23 : decode cX12_after 23 = .ok (.goto (-19), 3) := by decide +kernel
theorem dX12_after_26 : decode cX12_after 26 = .ok (.iload_n 3, 1) := by decide +kernel
theorem dX12_after_27 : decode cX12_after 27 = .ok (.ireturn, 1) := by decide +kernel
theorem dX12_before_0 : decode cX12_before 0 = .ok (.iload_n 2, 1) := by decide +kernel
theorem dX12_before_1 : decode cX12_before 1 = .ok (.iconst 1, 1) := by decide +kernel
theorem dX12_before_2 : decode cX12_before 2 = .ok (.isub, 1) := by decide +kernel
theorem dX12_before_3 : decode cX12_before 3 = .ok (.istore_n 3, 1) := by decide +kernel
theorem dX12_before_4 : decode cX12_before 4 = .ok (.iload_n 3, 1) := by decide +kernel
theorem dX12_before_5 : decode cX12_before 5 = .ok (.ifCond .lt 17, 3) := by decide +kernel
theorem dX12_before_8 : decode cX12_before 8 = .ok (.iload_n 1, 1) := by decide +kernel
theorem dX12_before_9 : decode cX12_before 9 = .ok (.iload_n 3, 1) := by decide +kernel
theorem dX12_before_10 : decode cX12_before 10 = .ok (.invokestatic 212, 3) := by decide +kernel
theorem dX12_before_13 : decode cX12_before 13 = .ok (.ifCond .ne 9, 3) := by decide +kernel
theorem dX12_before_16 : decode cX12_before 16 = .ok (.iinc 3 (-1), 3) := by decide +kernel
theorem dX12_before_19 : decode cX12_before 19 = .ok (.goto (-15), 3) := by decide +kernel
theorem dX12_before_22 : decode cX12_before 22 = .ok (.iload_n 3, 1) := by decide +kernel
theorem dX12_before_23 : decode cX12_before 23 = .ok (.ireturn, 1) := by decide +kernel
theorem dX12_lays_0 : decode cX12_lays 0 = .ok (.iconst 0, 1) := by decide +kernel
theorem dX12_lays_1 : decode cX12_lays 1 = .ok (.istore_n 2, 1) := by decide +kernel
theorem dX12_lays_2 : decode cX12_lays 2 = .ok (.iload_n 2, 1) := by decide +kernel
theorem dX12_lays_3 : decode cX12_lays 3 = .ok (.bipush 8, 2) := by decide +kernel
theorem dX12_lays_5 : decode cX12_lays 5 = .ok (.if_icmp .ge 16, 3) := by decide +kernel
theorem dX12_lays_8 : decode cX12_lays 8 = .ok (.aload_n 0, 1) := by decide +kernel
theorem dX12_lays_9 : decode cX12_lays 9 = .ok (.getfield 93, 3) := by decide +kernel
theorem dX12_lays_12 : decode cX12_lays 12 = .ok (.iload_n 2, 1) := by decide +kernel
theorem dX12_lays_13 : decode cX12_lays 13 = .ok (.iconst 0, 1) := by decide +kernel
theorem dX12_lays_14 : decode cX12_lays 14 = .ok (.bastore, 1) := by decide +kernel
theorem dX12_lays_15 : decode cX12_lays 15 = .ok (.iinc 2 1, 3) := by decide +kernel
theorem dX12_lays_18 : decode cX12_lays 18 = .ok (.goto (-16), 3) := by decide +kernel
theorem dX12_lays_21 : decode cX12_lays 21 = .ok (.aload_n 0, 1) := by decide +kernel
theorem dX12_lays_22 : decode cX12_lays 22 = .ok (.iload_n 1, 1) := by decide +kernel
theorem dX12_lays_23 : decode cX12_lays 23 = .ok (.iconst (-1), 1) := by decide +kernel
theorem dX12_lays_24 : decode cX12_lays 24 = .ok (.invokevirtual 305, 3) := by decide +kernel
theorem dX12_lays_27 : decode cX12_lays 27 = .ok (.istore_n 2, 1) := by decide +kernel
theorem dX12_lays_28 : decode cX12_lays 28 = .ok (.iload_n 2, 1) := by decide +kernel
theorem dX12_lays_29 : decode cX12_lays 29 = .ok (.aload_n 0, 1) := by decide +kernel
theorem dX12_lays_30 : decode cX12_lays 30 = .ok (.getfield 196, 3) := by decide +kernel
theorem dX12_lays_33 : decode cX12_lays 33 = .ok (.if_icmp .ge 8, 3) := by decide +kernel
theorem dX12_lays_36 : decode cX12_lays 36 = .ok (.aload_n 0, 1) := by decide +kernel
theorem dX12_lays_37 : decode cX12_lays 37 = .ok (.iload_n 2, 1) := by decide +kernel
theorem dX12_lays_38 : decode cX12_lays 38 = .ok (.invokevirtual 284, 3) := by decide +kernel
theorem dX12_lays_41 : decode cX12_lays 41 = .ok (.iload_n 2, 1) := by decide +kernel
theorem dX12_lays_42 : decode cX12_lays 42 = .ok (.aload_n 0, 1) := by decide +kernel
theorem dX12_lays_43 : decode cX12_lays 43 = .ok (.getfield 196, 3) := by decide +kernel
theorem dX12_lays_46 : decode cX12_lays 46 = .ok (.if_icmp .ge 64, 3) := by decide +kernel
theorem dX12_lays_49 : decode cX12_lays 49 = .ok (.aload_n 0, 1) := by decide +kernel
theorem dX12_lays_50 : decode cX12_lays 50 = .ok (.iload_n 2, 1) := by decide +kernel
theorem dX12_lays_51 : decode cX12_lays 51 = .ok (.invokevirtual 308, 3) := by decide +kernel
theorem dX12_lays_54 : decode cX12_lays 54 = .ok (.istore_n 3, 1) := by decide +kernel
theorem dX12_lays_55 : decode cX12_lays 55 = .ok (.iload_n 3, 1) := by decide +kernel
theorem dX12_lays_56 : decode cX12_lays 56 = .ok (.ldc_w 304, 3) := by decide +kernel
theorem dX12_lays_59 : decode cX12_lays 59 = .ok (.if_icmp .ne 7, 3) := by decide +kernel
theorem dX12_lays_62 : decode cX12_lays 62 = .ok (.ldc_w 304, 3) := by decide +kernel
theorem dX12_lays_65 : decode cX12_lays 65 = .ok (.ireturn, 1) := by decide +kernel
theorem dX12_lays_66 : decode cX12_lays 66 = .ok (.iload_n 3, 1) := by decide +kernel
theorem dX12_lays_67 : decode cX12_lays 67 = .ok (.iconst 1, 1) := by decide +kernel
theorem dX12_lays_68 : decode cX12_lays 68 = .ok (.if_icmp .ne 26, 3) := by decide +kernel
theorem dX12_lays_71 : decode cX12_lays 71 = .ok (.aload_n 0, 1) := by decide +kernel
theorem dX12_lays_72 : decode cX12_lays 72 = .ok (.iload_n 1, 1) := by decide +kernel
theorem dX12_lays_73 : decode cX12_lays 73 = .ok (.iload_n 2, 1) := by decide +kernel
theorem dX12_lays_74 : decode cX12_lays 74 = .ok (.invokevirtual 305, 3) := by decide +kernel
theorem dX12_lays_77 : decode cX12_lays 77 = .ok (.istore_n 2, 1) := by decide +kernel
theorem dX12_lays_78 : decode cX12_lays 78 = .ok (.iload_n 2, 1) := by decide +kernel
theorem dX12_lays_79 : decode cX12_lays 79 = .ok (.aload_n 0, 1) := by decide +kernel
theorem dX12_lays_80 : decode cX12_lays 80 = .ok (.getfield 196, 3) := by decide +kernel
theorem dX12_lays_83 : decode cX12_lays 83 = .ok (.if_icmp .ge 24, 3) := by decide +kernel
theorem dX12_lays_86 : decode cX12_lays 86 = .ok (.aload_n 0, 1) := by decide +kernel
theorem dX12_lays_87 : decode cX12_lays 87 = .ok (.iload_n 2, 1) := by decide +kernel
theorem dX12_lays_88 : decode cX12_lays 88 = .ok (.invokevirtual 284, 3) := by decide +kernel
theorem dX12_lays_91 : decode cX12_lays 91 = .ok (.goto 16, 3) := by decide +kernel
theorem dX12_lays_94 : decode cX12_lays 94 = .ok (.aload_n 0, 1) := by decide +kernel
theorem dX12_lays_95 : decode cX12_lays 95 = .ok (.iload_n 1, 1) := by decide +kernel
theorem dX12_lays_96 : decode cX12_lays 96 = .ok (.iload_n 2, 1) := by decide +kernel
theorem dX12_lays_97 : decode cX12_lays 97 = .ok (.invokevirtual 311, 3) := by decide +kernel
theorem dX12_lays_100 : decode cX12_lays 100 = .ok (.istore_n 2, 1) := by decide +kernel
theorem dX12_lays_101 : decode cX12_lays 101 = .ok (.iload_n 2, 1) := by decide +kernel
theorem dX12_lays_102 : decode cX12_lays 102 = .ok (.ifCond .ge 5, 3) := by decide +kernel
theorem dX12_lays_105 : decode cX12_lays 105 = .ok (.iconst 0, 1) := by decide +kernel
theorem dX12_lays_106 : decode cX12_lays 106 = .ok (.ireturn, 1) := by decide +kernel
theorem dX12_lays_107 : decode cX12_lays 107 = .ok (.goto (-66), 3) := by decide +kernel
theorem dX12_lays_110 : decode cX12_lays 110 = .ok (.iconst 1, 1) := by decide +kernel
theorem dX12_lays_111 : decode cX12_lays 111 = .ok (.ireturn, 1) := by decide +kernel
theorem dX12_isOfThem_0 : decode cX12_isOfThem 0 = .ok (.iload_n 1, 1) := by decide +kernel
theorem dX12_isOfThem_1 : decode cX12_isOfThem 1 = .ok (.ifCond .lt 17, 3) := by decide +kernel
theorem dX12_isOfThem_4 : decode cX12_isOfThem 4 = .ok (.iload_n 1, 1) := by decide +kernel
theorem dX12_isOfThem_5 : decode cX12_isOfThem 5 = .ok (.iconst 1, 1) := by decide +kernel
theorem dX12_isOfThem_6 : decode cX12_isOfThem 6 = .ok (.aload_n 0, 1) := by decide +kernel
theorem dX12_isOfThem_7 : decode cX12_isOfThem 7 = .ok (.getfield 196, 3) := by decide +kernel
theorem dX12_isOfThem_10 : decode cX12_isOfThem 10 = .ok (.ishl, 1) := by decide +kernel
theorem dX12_isOfThem_11 : decode cX12_isOfThem 11 = .ok (.if_icmp .ge 7, 3) := by decide +kernel
theorem dX12_isOfThem_14 : decode cX12_isOfThem 14 = .ok (.iconst 1, 1) := by decide +kernel
theorem dX12_isOfThem_15 : decode cX12_isOfThem 15 = .ok (.goto 4, 3) := by decide +kernel
theorem dX12_isOfThem_18 : decode cX12_isOfThem 18 = .ok (.iconst 0, 1) := by decide +kernel
theorem dX12_isOfThem_19 : decode cX12_isOfThem 19 = .ok (.ireturn, 1) := by decide +kernel
theorem dX12_lay_0 : decode cX12_lay 0 = .ok (.aload_n 0, 1) := by decide +kernel
theorem dX12_lay_1 : decode cX12_lay 1 = .ok (.iload_n 1, 1) := by decide +kernel
theorem dX12_lay_2 : decode cX12_lay 2 = .ok (.invokevirtual 314, 3) := by decide +kernel
theorem dX12_lay_5 : decode cX12_lay 5 = .ok (.ifCond .ne 10, 3) := by decide +kernel
theorem dX12_lay_8 : decode cX12_lay 8 = .ok (.aload_n 0, 1) := by decide +kernel
theorem dX12_lay_9 : decode cX12_lay 9 = .ok (.ldc 199, 2) := by decide +kernel
theorem dX12_lay_11 : decode cX12_lay 11 = .ok (.invokevirtual 200, 3) := by decide +kernel
theorem dX12_lay_14 : decode cX12_lay 14 = .ok (.ireturn, 1) := by decide +kernel
theorem dX12_lay_15 : decode cX12_lay 15 = .ok (.aload_n 0, 1) := by decide +kernel
theorem dX12_lay_16 : decode cX12_lay 16 = .ok (.iconst 0, 1) := by decide +kernel
theorem dX12_lay_17 : decode cX12_lay 17 = .ok (.putfield 301, 3) := by decide +kernel
theorem dX12_lay_20 : decode cX12_lay 20 = .ok (.aload_n 0, 1) := by decide +kernel
theorem dX12_lay_21 : decode cX12_lay 21 = .ok (.invokevirtual 317, 3) := by decide +kernel
theorem dX12_lay_24 : decode cX12_lay 24 = .ok (.aload_n 0, 1) := by decide +kernel
theorem dX12_lay_25 : decode cX12_lay 25 = .ok (.iload_n 1, 1) := by decide +kernel
theorem dX12_lay_26 : decode cX12_lay 26 = .ok (.invokevirtual 320, 3) := by decide +kernel
theorem dX12_lay_29 : decode cX12_lay 29 = .ok (.istore_n 2, 1) := by decide +kernel
theorem dX12_lay_30 : decode cX12_lay 30 = .ok (.iload_n 2, 1) := by decide +kernel
theorem dX12_lay_31 : decode cX12_lay 31 = .ok (.iconst 1, 1) := by decide +kernel
theorem dX12_lay_32 : decode cX12_lay 32 = .ok (.if_icmp .eq 27, 3) := by decide +kernel
theorem dX12_lay_35 : decode cX12_lay 35 = .ok (.aload_n 0, 1) := by decide +kernel
theorem dX12_lay_36 : decode cX12_lay 36 = .ok (.invokevirtual 323, 3) := by decide +kernel
theorem dX12_lay_39 : decode cX12_lay 39 = .ok (.aload_n 0, 1) := by decide +kernel
theorem dX12_lay_40 : decode cX12_lay 40 = .ok (.iload_n 2, 1) := by decide +kernel
theorem dX12_lay_41 : decode cX12_lay 41 = .ok (.ldc_w 304, 3) := by decide +kernel
theorem dX12_lay_44 : decode cX12_lay 44 = .ok (.if_icmp .ne 9, 3) := by decide +kernel
theorem dX12_lay_47 : decode cX12_lay 47 = .ok (.ldc_w 304, 3) := by decide +kernel
theorem dX12_lay_50 : decode cX12_lay 50 = .ok (.goto 5, 3) := by decide +kernel
theorem dX12_lay_53 : decode cX12_lay 53 = .ok (.ldc 230, 2) := by decide +kernel
theorem dX12_lay_55 : decode cX12_lay 55 = .ok (.invokevirtual 200, 3) := by decide +kernel
theorem dX12_lay_58 : decode cX12_lay 58 = .ok (.ireturn, 1) := by decide +kernel
theorem dX12_lay_59 : decode cX12_lay 59 = .ok (.iconst 0, 1) := by decide +kernel
theorem dX12_lay_60 : decode cX12_lay 60 = .ok (.istore_n 3, 1) := by decide +kernel
theorem dX12_lay_61 : decode cX12_lay 61 = .ok (.iconst 0, 1) := by decide +kernel
theorem dX12_lay_62 : decode cX12_lay 62 = .ok (.istore 4, 2) := by decide +kernel
theorem dX12_lay_64 : decode cX12_lay 64 = .ok (.iload 4, 2) := by decide +kernel
theorem dX12_lay_66 : decode cX12_lay 66 = .ok (.aload_n 0, 1) := by decide +kernel
theorem dX12_lay_67 : decode cX12_lay 67 = .ok (.getfield 196, 3) := by decide +kernel
theorem dX12_lay_70 : decode cX12_lay 70 = .ok (.if_icmp .ge 134, 3) := by decide +kernel
theorem dX12_lay_73 : decode cX12_lay 73 = .ok (.aload_n 0, 1) := by decide +kernel
theorem dX12_lay_74 : decode cX12_lay 74 = .ok (.getfield 93, 3) := by decide +kernel
theorem dX12_lay_77 : decode cX12_lay 77 = .ok (.iload 4, 2) := by decide +kernel
theorem dX12_lay_79 : decode cX12_lay 79 = .ok (.baload, 1) := by decide +kernel
theorem dX12_lay_80 : decode cX12_lay 80 = .ok (.ifCond .eq 92, 3) := by decide +kernel
theorem dX12_lay_83 : decode cX12_lay 83 = .ok (.aload_n 0, 1) := by decide +kernel
theorem dX12_lay_84 : decode cX12_lay 84 = .ok (.getfield 96, 3) := by decide +kernel
theorem dX12_lay_87 : decode cX12_lay 87 = .ok (.iload 4, 2) := by decide +kernel
theorem dX12_lay_89 : decode cX12_lay 89 = .ok (.iaload, 1) := by decide +kernel
theorem dX12_lay_90 : decode cX12_lay 90 = .ok (.aload_n 0, 1) := by decide +kernel
theorem dX12_lay_91 : decode cX12_lay 91 = .ok (.getfield 162, 3) := by decide +kernel
theorem dX12_lay_94 : decode cX12_lay 94 = .ok (.iload 4, 2) := by decide +kernel
theorem dX12_lay_96 : decode cX12_lay 96 = .ok (.iaload, 1) := by decide +kernel
theorem dX12_lay_97 : decode cX12_lay 97 = .ok (.if_icmp .ne 75, 3) := by decide +kernel
theorem dX12_lay_100 : decode cX12_lay 100 = .ok (.aload_n 0, 1) := by decide +kernel
theorem dX12_lay_101 : decode cX12_lay 101 = .ok (.getfield 102, 3) := by decide +kernel
theorem dX12_lay_104 : decode cX12_lay 104 = .ok (.iload 4, 2) := by decide +kernel
theorem dX12_lay_106 : decode cX12_lay 106 = .ok (.iaload, 1) := by decide +kernel
theorem dX12_lay_107 : decode cX12_lay 107 = .ok (.aload_n 0, 1) := by decide +kernel
theorem dX12_lay_108 : decode cX12_lay 108 = .ok (.getfield 168, 3) := by decide +kernel
theorem dX12_lay_111 : decode cX12_lay 111 = .ok (.iload 4, 2) := by decide +kernel
theorem dX12_lay_113 : decode cX12_lay 113 = .ok (.iaload, 1) := by decide +kernel
theorem dX12_lay_114 : decode cX12_lay 114 = .ok (.if_icmp .ne 58, 3) := by decide +kernel
theorem dX12_lay_117 : decode cX12_lay 117 = .ok (.aload_n 0, 1) := by decide +kernel
theorem dX12_lay_118 : decode cX12_lay 118 = .ok (.getfield 99, 3) := by decide +kernel
theorem dX12_lay_121 : decode cX12_lay 121 = .ok (.iload 4, 2) := by decide +kernel
theorem dX12_lay_123 : decode cX12_lay 123 = .ok (.iaload, 1) := by decide +kernel
theorem dX12_lay_124 : decode cX12_lay 124 = .ok (.aload_n 0, 1) := by decide +kernel
theorem dX12_lay_125 : decode cX12_lay 125 = .ok (.getfield 165, 3) := by decide +kernel
theorem dX12_lay_128 : decode cX12_lay 128 = .ok (.iload 4, 2) := by decide +kernel
theorem dX12_lay_130 : decode cX12_lay 130 = .ok (.iaload, 1) := by decide +kernel
theorem dX12_lay_131 : decode cX12_lay 131 = .ok (.if_icmp .ne 41, 3) := by decide +kernel
theorem dX12_lay_134 : decode cX12_lay 134 = .ok (.aload_n 0, 1) := by decide +kernel
theorem dX12_lay_135 : decode cX12_lay 135 = .ok (.getfield 105, 3) := by decide +kernel
theorem dX12_lay_138 : decode cX12_lay 138 = .ok (.iload 4, 2) := by decide +kernel
theorem dX12_lay_140 : decode cX12_lay 140 = .ok (.iaload, 1) := by decide +kernel
theorem dX12_lay_141 : decode cX12_lay 141 = .ok (.aload_n 0, 1) := by decide +kernel
theorem dX12_lay_142 : decode cX12_lay 142 = .ok (.getfield 171, 3) := by decide +kernel
theorem dX12_lay_145 : decode cX12_lay 145 = .ok (.iload 4, 2) := by decide +kernel
theorem dX12_lay_147 : decode cX12_lay 147 = .ok (.iaload, 1) := by decide +kernel
theorem dX12_lay_148 : decode cX12_lay 148 = .ok (.if_icmp .ne 24, 3) := by decide +kernel
theorem dX12_lay_151 : decode cX12_lay 151 = .ok (.aload_n 0, 1) := by decide +kernel
theorem dX12_lay_152 : decode cX12_lay 152 = .ok (.getfield 108, 3) := by decide +kernel
theorem dX12_lay_155 : decode cX12_lay 155 = .ok (.iload 4, 2) := by decide +kernel
theorem dX12_lay_157 : decode cX12_lay 157 = .ok (.iaload, 1) := by decide +kernel
theorem dX12_lay_158 : decode cX12_lay 158 = .ok (.aload_n 0, 1) := by decide +kernel
theorem dX12_lay_159 : decode cX12_lay 159 = .ok (.getfield 174, 3) := by decide +kernel
theorem dX12_lay_162 : decode cX12_lay 162 = .ok (.iload 4, 2) := by decide +kernel
theorem dX12_lay_164 : decode cX12_lay 164 = .ok (.iaload, 1) := by decide +kernel
theorem dX12_lay_165 : decode cX12_lay 165 = .ok (.if_icmp .ne 7, 3) := by decide +kernel
theorem dX12_lay_168 : decode cX12_lay 168 = .ok (.iconst 1, 1) := by decide +kernel
theorem dX12_lay_169 : decode cX12_lay 169 = .ok (.goto 4, 3) := by decide +kernel
theorem dX12_lay_172 : decode cX12_lay 172 = .ok (.iconst 0, 1) := by decide +kernel
theorem dX12_lay_173 : decode cX12_lay 173 = .ok (.istore 5, 2) := by decide +kernel
theorem dX12_lay_175 : decode cX12_lay 175 = .ok (.iload_n 3, 1) := by decide +kernel
theorem dX12_lay_176 : decode cX12_lay 176 = .ok (.aload_n 0, 1) := by decide +kernel
theorem dX12_lay_177 : decode cX12_lay 177 = .ok (.getfield 159, 3) := by decide +kernel
theorem dX12_lay_180 : decode cX12_lay 180 = .ok (.iload 4, 2) := by decide +kernel
theorem dX12_lay_182 : decode cX12_lay 182 = .ok (.baload, 1) := by decide +kernel
theorem dX12_lay_183 : decode cX12_lay 183 = .ok (.ifCond .eq 12, 3) := by decide +kernel
theorem dX12_lay_186 : decode cX12_lay 186 = .ok (.iload 5, 2) := by decide +kernel
theorem dX12_lay_188 : decode cX12_lay 188 = .ok (.ifCond .ne 7, 3) := by decide +kernel
theorem dX12_lay_191 : decode cX12_lay 191 = .ok (.iconst 1, 1) := by decide +kernel
theorem dX12_lay_192 : decode cX12_lay 192 = .ok (.goto 4, 3) := by decide +kernel
theorem dX12_lay_195 : decode cX12_lay 195 = .ok (.iconst 0, 1) := by decide +kernel
theorem dX12_lay_196 : decode cX12_lay 196 = .ok (.iadd, 1) := by decide +kernel
theorem dX12_lay_197 : decode cX12_lay 197 = .ok (.istore_n 3, 1) := by decide +kernel
theorem dX12_lay_198 : decode cX12_lay 198 = .ok (.iinc 4 1, 3) := by decide +kernel
theorem dX12_lay_201 : decode cX12_lay 201 = .ok (.goto (-137), 3) := by decide +kernel
theorem dX12_lay_204 : decode cX12_lay 204 = .ok (.iload_n 3, 1) := by decide +kernel
theorem dX12_lay_205 : decode cX12_lay 205 = .ok (.ireturn, 1) := by decide +kernel
theorem dX12_can_0 : decode cX12_can 0 = .ok (.aload_n 0, 1) := by decide +kernel
theorem dX12_can_1 : decode cX12_can 1 = .ok (.iload_n 1, 1) := by decide +kernel
theorem dX12_can_2 : decode cX12_can 2 = .ok (.invokevirtual 314, 3) := by decide +kernel
theorem dX12_can_5 : decode cX12_can 5 = .ok (.ifCond .ne 10, 3) := by decide +kernel
theorem dX12_can_8 : decode cX12_can 8 = .ok (.aload_n 0, 1) := by decide +kernel
theorem dX12_can_9 : decode cX12_can 9 = .ok (.ldc 199, 2) := by decide +kernel
theorem dX12_can_11 : decode cX12_can 11 = .ok (.invokevirtual 200, 3) := by decide +kernel
theorem dX12_can_14 : decode cX12_can 14 = .ok (.ireturn, 1) := by decide +kernel
theorem dX12_can_15 : decode cX12_can 15 = .ok (.aload_n 0, 1) := by decide +kernel
theorem dX12_can_16 : decode cX12_can 16 = .ok (.iconst 0, 1) := by decide +kernel
theorem dX12_can_17 : decode cX12_can 17 = .ok (.putfield 301, 3) := by decide +kernel
theorem dX12_can_20 : decode cX12_can 20 = .ok (.aload_n 0, 1) := by decide +kernel
theorem dX12_can_21 : decode cX12_can 21 = .ok (.invokevirtual 317, 3) := by decide +kernel
theorem dX12_can_24 : decode cX12_can 24 = .ok (.aload_n 0, 1) := by decide +kernel
theorem dX12_can_25 : decode cX12_can 25 = .ok (.iload_n 1, 1) := by decide +kernel
theorem dX12_can_26 : decode cX12_can 26 = .ok (.invokevirtual 320, 3) := by decide +kernel
theorem dX12_can_29 : decode cX12_can 29 = .ok (.istore_n 2, 1) := by decide +kernel
theorem dX12_can_30 : decode cX12_can 30 = .ok (.aload_n 0, 1) := by decide +kernel
theorem dX12_can_31 : decode cX12_can 31 = .ok (.invokevirtual 323, 3) := by decide +kernel
theorem dX12_can_34 : decode cX12_can 34 = .ok (.iload_n 2, 1) := by decide +kernel
theorem dX12_can_35 : decode cX12_can 35 = .ok (.ldc_w 304, 3) := by decide +kernel
theorem dX12_can_38 : decode cX12_can 38 = .ok (.if_icmp .ne 13, 3) := by decide +kernel
theorem dX12_can_41 : decode cX12_can 41 = .ok (.aload_n 0, 1) := by decide +kernel
theorem dX12_can_42 : decode cX12_can 42 = .ok (.ldc_w 304, 3) := by decide +kernel
theorem dX12_can_45 : decode cX12_can 45 = .ok (.invokevirtual 200, 3) := by decide +kernel
theorem dX12_can_48 : decode cX12_can 48 = .ok (.goto 4, 3) := by decide +kernel
theorem dX12_can_51 : decode cX12_can 51 = .ok (.iload_n 2, 1) := by decide +kernel
theorem dX12_can_52 : decode cX12_can 52 = .ok (.ireturn, 1) := by decide +kernel
theorem dX12_worthOf_0 : decode cX12_worthOf 0 = .ok (.iconst 0, 1) := by decide +kernel
theorem dX12_worthOf_1 : decode cX12_worthOf 1 = .ok (.istore_n 2, 1) := by decide +kernel
theorem dX12_worthOf_2 : decode cX12_worthOf 2 = .ok (.iconst 0, 1) := by decide +kernel
theorem dX12_worthOf_3 : decode cX12_worthOf 3 = .ok (.istore_n 3, 1) := by decide +kernel
theorem dX12_worthOf_4 : decode cX12_worthOf 4 = .ok (.iload_n 3, 1) := by decide +kernel
theorem dX12_worthOf_5 : decode cX12_worthOf 5 = .ok (.aload_n 0, 1) := by decide +kernel
theorem dX12_worthOf_6 : decode cX12_worthOf 6 = .ok (.getfield 196, 3) := by decide +kernel
theorem dX12_worthOf_9 : decode cX12_worthOf 9 = .ok (.if_icmp .ge 30, 3) := by decide +kernel
theorem dX12_worthOf_12 : decode cX12_worthOf 12 = .ok (.iload_n 2, 1) := by decide +kernel
theorem dX12_worthOf_13 : decode cX12_worthOf 13 = .ok (.iload_n 1, 1) := by decide +kernel
theorem dX12_worthOf_14 : decode cX12_worthOf 14 = .ok (.iload_n 3, 1) := by decide +kernel
theorem dX12_worthOf_15 : decode cX12_worthOf 15 = .ok (.invokestatic 212, 3) := by decide +kernel
theorem dX12_worthOf_18 : decode cX12_worthOf 18 = .ok (.ifCond .eq 12, 3) := by decide +kernel
theorem dX12_worthOf_21 : decode cX12_worthOf 21 = .ok (.aload_n 0, 1) := by decide +kernel
theorem dX12_worthOf_22 : decode cX12_worthOf 22 = .ok (.getfield 66, 3) := by decide +kernel
theorem dX12_worthOf_25 : decode cX12_worthOf 25 = .ok (.iload_n 3, 1) := by decide +kernel
theorem dX12_worthOf_26 : decode cX12_worthOf 26 = .ok (.iaload, 1) := by decide +kernel
theorem dX12_worthOf_27 : decode cX12_worthOf 27 = .ok (.goto 4, 3) := by decide +kernel
theorem dX12_worthOf_30 : decode cX12_worthOf 30 = .ok (.iconst 0, 1) := by decide +kernel
theorem dX12_worthOf_31 : decode cX12_worthOf 31 = .ok (.iadd, 1) := by decide +kernel
theorem dX12_worthOf_32 : decode cX12_worthOf 32 = .ok (.istore_n 2, 1) := by decide +kernel
theorem dX12_worthOf_33 : decode cX12_worthOf 33 = .ok (.iinc 3 1, 3) := by decide +kernel
theorem dX12_worthOf_36 : decode cX12_worthOf 36 = .ok (.goto (-32), 3) := by decide +kernel
theorem dX12_worthOf_39 : decode cX12_worthOf 39 = .ok (.iload_n 2, 1) := by decide +kernel
theorem dX12_worthOf_40 : decode cX12_worthOf 40 = .ok (.ireturn, 1) := by decide +kernel
theorem dX12_best_0 : decode cX12_best 0 = .ok (.aload_n 0, 1) := by decide +kernel
theorem dX12_best_1 : decode cX12_best 1 = .ok (.iconst 0, 1) := by decide +kernel
theorem dX12_best_2 : decode cX12_best 2 = .ok (.putfield 301, 3) := by decide +kernel
theorem dX12_best_5 : decode cX12_best 5 = .ok (.aload_n 0, 1) := by decide +kernel
theorem dX12_best_6 : decode cX12_best 6 = .ok (.invokevirtual 317, 3) := by decide +kernel
theorem dX12_best_9 : decode cX12_best 9 = .ok (.iconst 0, 1) := by decide +kernel
theorem dX12_best_10 : decode cX12_best 10 = .ok (.istore_n 1, 1) := by decide +kernel
theorem dX12_best_11 : decode cX12_best 11 = .ok (.iload_n 1, 1) := by decide +kernel
theorem dX12_best_12 : decode cX12_best 12 = .ok (.sipush 256, 3) := by decide +kernel
theorem dX12_best_15 : decode cX12_best 15 = .ok (.if_icmp .ge 16, 3) := by decide +kernel
theorem dX12_best_18 : decode cX12_best 18 = .ok (.aload_n 0, 1) := by decide +kernel
theorem dX12_best_19 : decode cX12_best 19 = .ok (.getfield 177, 3) := by decide +kernel
theorem dX12_best_22 : decode cX12_best 22 = .ok (.iload_n 1, 1) := by decide +kernel
theorem dX12_best_23 : decode cX12_best 23 = .ok (.iconst 0, 1) := by decide +kernel
theorem dX12_best_24 : decode cX12_best 24 = .ok (.bastore, 1) := by decide +kernel
theorem dX12_best_25 : decode cX12_best 25 = .ok (.iinc 1 1, 3) := by decide +kernel
theorem dX12_best_28 : decode cX12_best 28 = .ok (.goto (-17), 3) := by decide +kernel
theorem dX12_best_31 : decode cX12_best 31 = .ok (.iconst (-1), 1) := by decide +kernel
theorem dX12_best_32 : decode cX12_best 32 = .ok (.istore_n 1, 1) := by decide +kernel
theorem dX12_best_33 : decode cX12_best 33 = .ok (.iconst 0, 1) := by decide +kernel
theorem dX12_best_34 : decode cX12_best 34 = .ok (.istore_n 2, 1) := by decide +kernel
theorem dX12_best_35 : decode cX12_best 35 = .ok (.iload_n 2, 1) := by decide +kernel
theorem dX12_best_36 : decode cX12_best 36 = .ok (.iconst 1, 1) := by decide +kernel
theorem dX12_best_37 : decode cX12_best 37 = .ok (.aload_n 0, 1) := by decide +kernel
theorem dX12_best_38 : decode cX12_best 38 = .ok (.getfield 196, 3) := by decide +kernel
theorem dX12_best_41 : decode cX12_best 41 = .ok (.ishl, 1) := by decide +kernel
theorem dX12_best_42 : decode cX12_best 42 = .ok (.if_icmp .ge 37, 3) := by decide +kernel
theorem dX12_best_45 : decode cX12_best 45 = .ok (.aload_n 0, 1) := by decide +kernel
theorem dX12_best_46 : decode cX12_best 46 = .ok (.getfield 177, 3) := by decide +kernel
theorem dX12_best_49 : decode cX12_best 49 = .ok (.iload_n 2, 1) := by decide +kernel
theorem dX12_best_50 : decode cX12_best 50 = .ok (.baload, 1) := by decide +kernel
theorem dX12_best_51 : decode cX12_best 51 = .ok (.ifCond .ne 22, 3) := by decide +kernel
theorem dX12_best_54 : decode cX12_best 54 = .ok (.iload_n 1, 1) := by decide +kernel
theorem dX12_best_55 : decode cX12_best 55 = .ok (.ifCond .lt 16, 3) := by decide +kernel
theorem dX12_best_58 : decode cX12_best 58 = .ok (.aload_n 0, 1) := by decide +kernel
theorem dX12_best_59 : decode cX12_best 59 = .ok (.iload_n 2, 1) := by decide +kernel
theorem dX12_best_60 : decode cX12_best 60 = .ok (.invokevirtual 326, 3) := by decide +kernel
theorem dX12_best_63 : decode cX12_best 63 = .ok (.aload_n 0, 1) := by decide +kernel
theorem dX12_best_64 : decode cX12_best 64 = .ok (.iload_n 1, 1) := by decide +kernel
theorem dX12_best_65 : decode cX12_best 65 = .ok (.invokevirtual 326, 3) := by decide +kernel
theorem dX12_best_68 : decode cX12_best 68 = .ok (.if_icmp .le 5, 3) := by decide +kernel
theorem dX12_best_71 : decode cX12_best 71 = .ok (.iload_n 2, 1) := by decide +kernel
theorem dX12_best_72 : decode cX12_best 72 = .ok (.istore_n 1, 1) := by decide +kernel
theorem dX12_best_73 : decode cX12_best 73 = .ok (.iinc 2 1, 3) := by decide +kernel
theorem dX12_best_76 : decode cX12_best 76 = .ok (.goto (-41), 3) := by decide +kernel
theorem dX12_best_79 : decode cX12_best 79 = .ok (.aload_n 0, 1) := by decide +kernel
theorem dX12_best_80 : decode cX12_best 80 = .ok (.getfield 177, 3) := by decide +kernel
theorem dX12_best_83 : decode cX12_best 83 = .ok (.iload_n 1, 1) := by decide +kernel
theorem dX12_best_84 : decode cX12_best 84 = .ok (.iconst 1, 1) := by decide +kernel
theorem dX12_best_85 : decode cX12_best 85 = .ok (.bastore, 1) := by decide +kernel
theorem dX12_best_86 : decode cX12_best 86 = .ok (.aload_n 0, 1) := by decide +kernel
theorem dX12_best_87 : decode cX12_best 87 = .ok (.iload_n 1, 1) := by decide +kernel
theorem dX12_best_88 : decode cX12_best 88 = .ok (.invokevirtual 320, 3) := by decide +kernel
theorem dX12_best_91 : decode cX12_best 91 = .ok (.istore_n 2, 1) := by decide +kernel
theorem dX12_best_92 : decode cX12_best 92 = .ok (.aload_n 0, 1) := by decide +kernel
theorem dX12_best_93 : decode cX12_best 93 = .ok (.invokevirtual 323, 3) := by decide +kernel
theorem dX12_best_96 : decode cX12_best 96 = .ok (.iload_n 2, 1) := by decide +kernel
theorem dX12_best_97 : decode cX12_best 97 = .ok (.ldc_w 304, 3) := by decide +kernel
theorem dX12_best_100 : decode cX12_best 100 = .ok (.if_icmp .ne 11, 3) := by decide +kernel
theorem dX12_best_103 : decode cX12_best 103 = .ok (.aload_n 0, 1) := by decide +kernel
theorem dX12_best_104 : decode cX12_best 104 = .ok (.ldc_w 304, 3) := by decide +kernel
theorem dX12_best_107 : decode cX12_best 107 = .ok (.invokevirtual 200, 3) := by decide +kernel
theorem dX12_best_110 : decode cX12_best 110 = .ok (.ireturn, 1) := by decide +kernel
theorem dX12_best_111 : decode cX12_best 111 = .ok (.iload_n 2, 1) := by decide +kernel
theorem dX12_best_112 : decode cX12_best 112 = .ok (.iconst 1, 1) := by decide +kernel
theorem dX12_best_113 : decode cX12_best 113 = .ok (.if_icmp .ne 5, 3) := by decide +kernel
theorem dX12_best_116 : decode cX12_best 116 = .ok (.iload_n 1, 1) := by decide +kernel
theorem dX12_best_117 : decode cX12_best 117 = .ok (.ireturn, 1) := by decide +kernel
theorem dX12_best_118 : decode cX12_best 118 = .ok (.goto (-87), 3) := by decide +kernel
theorem dX12_tries_0 : decode cX12_tries 0 = .ok (.aload_n 0, 1) := by decide +kernel
theorem dX12_tries_1 : decode cX12_tries 1 = .ok (.getfield 301, 3) := by decide +kernel
theorem dX12_tries_4 : decode cX12_tries 4 = .ok (.ireturn, 1) := by decide +kernel
theorem dX12_offer_0 : decode cX12_offer 0 = .ok (.aload_n 0, 1) := by decide +kernel
theorem dX12_offer_1 : decode cX12_offer 1 = .ok (.iload_n 1, 1) := by decide +kernel
theorem dX12_offer_2 : decode cX12_offer 2 = .ok (.invokevirtual 235, 3) := by decide +kernel
theorem dX12_offer_5 : decode cX12_offer 5 = .ok (.ifCond .eq 13, 3) := by decide +kernel
theorem dX12_offer_8 : decode cX12_offer 8 = .ok (.iload_n 2, 1) := by decide +kernel
theorem dX12_offer_9 : decode cX12_offer 9 = .ok (.iconst 1, 1) := by decide +kernel
theorem dX12_offer_10 : decode cX12_offer 10 = .ok (.bipush 100, 2) := by decide +kernel
theorem dX12_offer_12 : decode cX12_offer 12 = .ok (.invokestatic 189, 3) := by decide +kernel
theorem dX12_offer_15 : decode cX12_offer 15 = .ok (.ifCond .ne 10, 3) := by decide +kernel
theorem dX12_offer_18 : decode cX12_offer 18 = .ok (.aload_n 0, 1) := by decide +kernel
theorem dX12_offer_19 : decode cX12_offer 19 = .ok (.ldc 199, 2) := by decide +kernel
theorem dX12_offer_21 : decode cX12_offer 21 = .ok (.invokevirtual 200, 3) := by decide +kernel
theorem dX12_offer_24 : decode cX12_offer 24 = .ok (.ireturn, 1) := by decide +kernel
theorem dX12_offer_25 : decode cX12_offer 25 = .ok (.aload_n 0, 1) := by decide +kernel
theorem dX12_offer_26 : decode cX12_offer 26 = .ok (.getfield 78, 3) := by decide +kernel
theorem dX12_offer_29 : decode cX12_offer 29 = .ok (.iload_n 1, 1) := by decide +kernel
theorem dX12_offer_30 : decode cX12_offer 30 = .ok (.iaload, 1) := by decide +kernel
theorem dX12_offer_31 : decode cX12_offer 31 = .ok (.iload_n 2, 1) := by decide +kernel
theorem dX12_offer_32 : decode cX12_offer 32 = .ok (.iadd, 1) := by decide +kernel
theorem dX12_offer_33 : decode cX12_offer 33 = .ok (.sipush 1000, 3) := by decide +kernel
theorem dX12_offer_36 : decode cX12_offer 36 = .ok (.if_icmp .le 10, 3) := by decide +kernel
theorem dX12_offer_39 : decode cX12_offer 39 = .ok (.aload_n 0, 1) := by decide +kernel
theorem dX12_offer_40 : decode cX12_offer 40 = .ok (.ldc 204, 2) := by decide +kernel
theorem dX12_offer_42 : decode cX12_offer 42 = .ok (.invokevirtual 200, 3) := by decide +kernel
theorem dX12_offer_45 : decode cX12_offer 45 = .ok (.ireturn, 1) := by decide +kernel
theorem dX12_offer_46 : decode cX12_offer 46 = .ok (.aload_n 0, 1) := by decide +kernel
theorem dX12_offer_47 : decode cX12_offer 47 = .ok (.getfield 78, 3) := by decide +kernel
theorem dX12_offer_50 : decode cX12_offer 50 = .ok (.iload_n 1, 1) := by decide +kernel
theorem dX12_offer_51 : decode cX12_offer 51 = .ok (.dup2, 1) := by decide +kernel
theorem dX12_offer_52 : decode cX12_offer 52 = .ok (.iaload, 1) := by decide +kernel
theorem dX12_offer_53 : decode cX12_offer 53 = .ok (.iload_n 2, 1) := by decide +kernel
theorem dX12_offer_54 : decode cX12_offer 54 = .ok (.iadd, 1) := by decide +kernel
theorem dX12_offer_55 : decode cX12_offer 55 = .ok (.iastore, 1) := by decide +kernel
theorem dX12_offer_56 : decode cX12_offer 56 = .ok (.aload_n 0, 1) := by decide +kernel
theorem dX12_offer_57 : decode cX12_offer 57 = .ok (.getfield 78, 3) := by decide +kernel
theorem dX12_offer_60 : decode cX12_offer 60 = .ok (.iload_n 1, 1) := by decide +kernel
theorem dX12_offer_61 : decode cX12_offer 61 = .ok (.iaload, 1) := by decide +kernel
theorem dX12_offer_62 : decode cX12_offer 62 = .ok (.ireturn, 1) := by decide +kernel
theorem dX12_passes_0 : decode cX12_passes 0 = .ok (.iconst 0, 1) := by decide +kernel
theorem dX12_passes_1 : decode cX12_passes 1 = .ok (.istore 4, 2) := by decide +kernel
theorem dX12_passes_3 : decode cX12_passes 3 = .ok (.iconst 0, 1) := by decide +kernel
theorem dX12_passes_4 : decode cX12_passes 4 = .ok (.istore 5, 2) := by decide +kernel
theorem dX12_passes_6 : decode cX12_passes 6 = .ok (.iload 5, 2) := by decide +kernel
theorem dX12_passes_8 : decode cX12_passes 8 = .ok (.aload_n 0, 1) := by decide +kernel
theorem dX12_passes_9 : decode cX12_passes 9 = .ok (.getfield 193, 3) := by decide +kernel
theorem dX12_passes_12 : decode cX12_passes 12 = .ok (.if_icmp .ge 74, 3) := by decide +kernel
theorem dX12_passes_15 : decode cX12_passes 15 = .ok (.iload_n 2, 1) := by decide +kernel
theorem dX12_passes_16 : decode cX12_passes 16 = .ok (.iload 5, 2) := by decide +kernel
theorem dX12_passes_18 : decode cX12_passes 18 = .ok (.invokestatic 212, 3) := by decide +kernel
theorem dX12_passes_21 : decode cX12_passes 21 = .ok (.ifCond .ne 6, 3) := by decide +kernel
theorem dX12_passes_24 : decode cX12_passes 24 = .ok (.goto 56, 3) := by decide +kernel
theorem dX12_passes_27 : decode cX12_passes 27 = .ok (.aload_n 0, 1) := by decide +kernel
theorem dX12_passes_28 : decode cX12_passes 28 = .ok (.getfield 32, 3) := by decide +kernel
theorem dX12_passes_31 : decode cX12_passes 31 = .ok (.iload 5, 2) := by decide +kernel
theorem dX12_passes_33 : decode cX12_passes 33 = .ok (.dup2, 1) := by decide +kernel
theorem dX12_passes_34 : decode cX12_passes 34 = .ok (.iaload, 1) := by decide +kernel
theorem dX12_passes_35 : decode cX12_passes 35 = .ok (.iload_n 3, 1) := by decide +kernel
theorem dX12_passes_36 : decode cX12_passes 36 = .ok (.iadd, 1) := by decide +kernel
theorem dX12_passes_37 : decode cX12_passes 37 = .ok (.iastore, 1) := by decide +kernel
theorem dX12_passes_38 : decode cX12_passes 38 = .ok (.aload_n 0, 1) := by decide +kernel
theorem dX12_passes_39 : decode cX12_passes 39 = .ok (.getfield 35, 3) := by decide +kernel
theorem dX12_passes_42 : decode cX12_passes 42 = .ok (.iload 5, 2) := by decide +kernel
theorem dX12_passes_44 : decode cX12_passes 44 = .ok (.dup2, 1) := by decide +kernel
theorem dX12_passes_45 : decode cX12_passes 45 = .ok (.iaload, 1) := by decide +kernel
theorem dX12_passes_46 : decode cX12_passes 46 = .ok (.iload_n 3, 1) := by decide +kernel
theorem dX12_passes_47 : decode cX12_passes 47 = .ok (.iadd, 1) := by decide +kernel
theorem dX12_passes_48 : decode cX12_passes 48 = .ok (.iastore, 1) := by decide +kernel
theorem dX12_passes_49 : decode cX12_passes 49 = .ok (.aload_n 0, 1) := by decide +kernel
theorem dX12_passes_50 : decode cX12_passes 50 = .ok (.getfield 38, 3) := by decide +kernel
theorem dX12_passes_53 : decode cX12_passes 53 = .ok (.iload 5, 2) := by decide +kernel
theorem dX12_passes_55 : decode cX12_passes 55 = .ok (.dup2, 1) := by decide +kernel
theorem dX12_passes_56 : decode cX12_passes 56 = .ok (.iaload, 1) := by decide +kernel
theorem dX12_passes_57 : decode cX12_passes 57 = .ok (.iload_n 3, 1) := by decide +kernel
