theorem dX10_isGoing_16 : decode cX10_isGoing 16 = .ok (.ifCond .eq 5, 3) := by decide +kernel
theorem dX10_isGoing_19 : decode cX10_isGoing 19 = .ok (.iconst 1, 1) := by decide +kernel
theorem dX10_isGoing_20 : decode cX10_isGoing 20 = .ok (.ireturn, 1) := by decide +kernel
theorem dX10_isGoing_21 : decode cX10_isGoing 21 = .ok (.iinc 1 1, 3) := by decide +kernel
theorem dX10_isGoing_24 : decode cX10_isGoing 24 = .ok (.goto (-22), 3) := by decide +kernel
theorem dX10_isGoing_27 : decode cX10_isGoing 27 = .ok (.iconst 0, 1) := by decide +kernel
theorem dX10_isGoing_28 : decode cX10_isGoing 28 = .ok (.ireturn, 1) := by decide +kernel
theorem dX10_weakest_0 : decode cX10_weakest 0 = .ok (.iconst (-1), 1) := by decide +kernel
theorem dX10_weakest_1 : decode cX10_weakest 1 = .ok (.istore_n 1, 1) := by decide +kernel
theorem dX10_weakest_2 : decode cX10_weakest 2 = .ok (.iconst 0, 1) := by decide +kernel
theorem dX10_weakest_3 : decode cX10_weakest 3 = .ok (.istore_n 2, 1) := by decide +kernel
theorem dX10_weakest_4 : decode cX10_weakest 4 = .ok (.iconst 0, 1) := by decide +kernel
theorem dX10_weakest_5 : decode cX10_weakest 5 = .ok (.istore_n 3, 1) := by decide +kernel
theorem dX10_weakest_6 : decode cX10_weakest 6 = .ok (.iload_n 3, 1) := by decide +kernel
theorem dX10_weakest_7 : decode cX10_weakest 7 = .ok (.aload_n 0, 1) := by decide +kernel
theorem dX10_weakest_8 : decode cX10_weakest 8 = .ok (.getfield 267, 3) := by decide +kernel
theorem dX10_weakest_11 : decode cX10_weakest 11 = .ok (.if_icmp .ge 37, 3) := by decide +kernel
theorem dX10_weakest_14 : decode cX10_weakest 14 = .ok (.aload_n 0, 1) := by decide +kernel
theorem dX10_weakest_15 : decode cX10_weakest 15 = .ok (.iload_n 3, 1) := by decide +kernel
theorem dX10_weakest_16 : decode cX10_weakest 16 = .ok (.invokevirtual 343, 3) := by decide +kernel
theorem dX10_weakest_19 : decode cX10_weakest 19 = .ok (.aload_n 0, 1) := by decide +kernel
theorem dX10_weakest_20 : decode cX10_weakest 20 = .ok (.getfield 48, 3) := by decide +kernel
theorem dX10_weakest_23 : decode cX10_weakest 23 = .ok (.iload_n 3, 1) := by decide +kernel
theorem dX10_weakest_24 : decode cX10_weakest 24 = .ok (.iaload, 1) := by decide +kernel
theorem dX10_weakest_25 : decode cX10_weakest 25 = .ok (.isub, 1) := by decide +kernel
theorem dX10_weakest_26 : decode cX10_weakest 26 = .ok (.istore 4, 2) := by decide +kernel
theorem dX10_weakest_28 : decode cX10_weakest 28 = .ok (.iload 4, 2) := by decide +kernel
theorem dX10_weakest_30 : decode cX10_weakest 30 = .ok (.iload_n 2, 1) := by decide +kernel
theorem dX10_weakest_31 : decode cX10_weakest 31 = .ok (.if_icmp .gt 6, 3) := by decide +kernel
theorem dX10_weakest_34 : decode cX10_weakest 34 = .ok (.goto 8, 3) := by decide +kernel
theorem dX10_weakest_37 : decode cX10_weakest 37 = .ok (.iload 4, 2) := by decide +kernel
theorem dX10_weakest_39 : decode cX10_weakest 39 = .ok (.istore_n 2, 1) := by decide +kernel
theorem dX10_weakest_40 : decode cX10_weakest 40 = .ok (.iload_n 3, 1) := by decide +kernel
theorem dX10_weakest_41 : decode cX10_weakest 41 = .ok (.istore_n 1, 1) := by decide +kernel
theorem dX10_weakest_42 : decode cX10_weakest 42 = .ok (.iinc 3 1, 3) := by decide +kernel
theorem dX10_weakest_45 : decode cX10_weakest 45 = .ok (.goto (-39), 3) := by decide +kernel
theorem dX10_weakest_48 : decode cX10_weakest 48 = .ok (.iload_n 1, 1) := by decide +kernel
theorem dX10_weakest_49 : decode cX10_weakest 49 = .ok (.ireturn, 1) := by decide +kernel
theorem dX10_runs_0 : decode cX10_runs 0 = .ok (.aload_n 0, 1) := by decide +kernel
theorem dX10_runs_1 : decode cX10_runs 1 = .ok (.iconst 0, 1) := by decide +kernel
theorem dX10_runs_2 : decode cX10_runs 2 = .ok (.putfield 328, 3) := by decide +kernel
theorem dX10_runs_5 : decode cX10_runs 5 = .ok (.aload_n 0, 1) := by decide +kernel
theorem dX10_runs_6 : decode cX10_runs 6 = .ok (.iconst 0, 1) := by decide +kernel
theorem dX10_runs_7 : decode cX10_runs 7 = .ok (.putfield 325, 3) := by decide +kernel
theorem dX10_runs_10 : decode cX10_runs 10 = .ok (.aload_n 0, 1) := by decide +kernel
theorem dX10_runs_11 : decode cX10_runs 11 = .ok (.iconst 0, 1) := by decide +kernel
theorem dX10_runs_12 : decode cX10_runs 12 = .ok (.putfield 356, 3) := by decide +kernel
theorem dX10_runs_15 : decode cX10_runs 15 = .ok (.aload_n 0, 1) := by decide +kernel
theorem dX10_runs_16 : decode cX10_runs 16 = .ok (.iconst 0, 1) := by decide +kernel
theorem dX10_runs_17 : decode cX10_runs 17 = .ok (.putfield 297, 3) := by decide +kernel
theorem dX10_runs_20 : decode cX10_runs 20 = .ok (.aload_n 0, 1) := by decide +kernel
theorem dX10_runs_21 : decode cX10_runs 21 = .ok (.iconst 0, 1) := by decide +kernel
theorem dX10_runs_22 : decode cX10_runs 22 = .ok (.putfield 300, 3) := by decide +kernel
theorem dX10_runs_25 : decode cX10_runs 25 = .ok (.aload_n 0, 1) := by decide +kernel
theorem dX10_runs_26 : decode cX10_runs 26 = .ok (.iconst 0, 1) := by decide +kernel
theorem dX10_runs_27 : decode cX10_runs 27 = .ok (.putfield 368, 3) := by decide +kernel
theorem dX10_runs_30 : decode cX10_runs 30 = .ok (.aload_n 0, 1) := by decide +kernel
theorem dX10_runs_31 : decode cX10_runs 31 = .ok (.iconst (-1), 1) := by decide +kernel
theorem dX10_runs_32 : decode cX10_runs 32 = .ok (.putfield 359, 3) := by decide +kernel
theorem dX10_runs_35 : decode cX10_runs 35 = .ok (.iconst 0, 1) := by decide +kernel
theorem dX10_runs_36 : decode cX10_runs 36 = .ok (.istore_n 2, 1) := by decide +kernel
theorem dX10_runs_37 : decode cX10_runs 37 = .ok (.iload_n 2, 1) := by decide +kernel
theorem dX10_runs_38 : decode cX10_runs 38 = .ok (.aload_n 0, 1) := by decide +kernel
theorem dX10_runs_39 : decode cX10_runs 39 = .ok (.getfield 267, 3) := by decide +kernel
theorem dX10_runs_42 : decode cX10_runs 42 = .ok (.if_icmp .ge 23, 3) := by decide +kernel
theorem dX10_runs_45 : decode cX10_runs 45 = .ok (.aload_n 0, 1) := by decide +kernel
theorem dX10_runs_46 : decode cX10_runs 46 = .ok (.getfield 66, 3) := by decide +kernel
theorem dX10_runs_49 : decode cX10_runs 49 = .ok (.iload_n 2, 1) := by decide +kernel
theorem dX10_runs_50 : decode cX10_runs 50 = .ok (.iconst 0, 1) := by decide +kernel
theorem dX10_runs_51 : decode cX10_runs 51 = .ok (.bastore, 1) := by decide +kernel
theorem dX10_runs_52 : decode cX10_runs 52 = .ok (.aload_n 0, 1) := by decide +kernel
theorem dX10_runs_53 : decode cX10_runs 53 = .ok (.getfield 69, 3) := by decide +kernel
theorem dX10_runs_56 : decode cX10_runs 56 = .ok (.iload_n 2, 1) := by decide +kernel
theorem dX10_runs_57 : decode cX10_runs 57 = .ok (.iconst 0, 1) := by decide +kernel
theorem dX10_runs_58 : decode cX10_runs 58 = .ok (.bastore, 1) := by decide +kernel
theorem dX10_runs_59 : decode cX10_runs 59 = .ok (.iinc 2 1, 3) := by decide +kernel
theorem dX10_runs_62 : decode cX10_runs 62 = .ok (.goto (-25), 3) := by decide +kernel
theorem dX10_runs_65 : decode cX10_runs 65 = .ok (.aload_n 0, 1) := by decide +kernel
theorem dX10_runs_66 : decode cX10_runs 66 = .ok (.aload_n 0, 1) := by decide +kernel
theorem dX10_runs_67 : decode cX10_runs 67 = .ok (.invokevirtual 371, 3) := by decide +kernel
theorem dX10_runs_70 : decode cX10_runs 70 = .ok (.putfield 368, 3) := by decide +kernel
theorem dX10_runs_73 : decode cX10_runs 73 = .ok (.aload_n 0, 1) := by decide +kernel
theorem dX10_runs_74 : decode cX10_runs 74 = .ok (.aload_n 0, 1) := by decide +kernel
theorem dX10_runs_75 : decode cX10_runs 75 = .ok (.getfield 368, 3) := by decide +kernel
theorem dX10_runs_78 : decode cX10_runs 78 = .ok (.ifCond .ne 14, 3) := by decide +kernel
theorem dX10_runs_81 : decode cX10_runs 81 = .ok (.aload_n 0, 1) := by decide +kernel
theorem dX10_runs_82 : decode cX10_runs 82 = .ok (.getfield 303, 3) := by decide +kernel
theorem dX10_runs_85 : decode cX10_runs 85 = .ok (.ifCond .ne 7, 3) := by decide +kernel
theorem dX10_runs_88 : decode cX10_runs 88 = .ok (.iconst 0, 1) := by decide +kernel
theorem dX10_runs_89 : decode cX10_runs 89 = .ok (.goto 32, 3) := by decide +kernel
theorem dX10_runs_92 : decode cX10_runs 92 = .ok (.aload_n 0, 1) := by decide +kernel
theorem dX10_runs_93 : decode cX10_runs 93 = .ok (.getfield 51, 3) := by decide +kernel
theorem dX10_runs_96 : decode cX10_runs 96 = .ok (.aload_n 0, 1) := by decide +kernel
theorem dX10_runs_97 : decode cX10_runs 97 = .ok (.getfield 368, 3) := by decide +kernel
theorem dX10_runs_100 : decode cX10_runs 100 = .ok (.aload_n 0, 1) := by decide +kernel
theorem dX10_runs_101 : decode cX10_runs 101 = .ok (.getfield 303, 3) := by decide +kernel
theorem dX10_runs_104 : decode cX10_runs 104 = .ok (.if_icmp .ge 10, 3) := by decide +kernel
theorem dX10_runs_107 : decode cX10_runs 107 = .ok (.aload_n 0, 1) := by decide +kernel
theorem dX10_runs_108 : decode cX10_runs 108 = .ok (.getfield 368, 3) := by decide +kernel
theorem dX10_runs_111 : decode cX10_runs 111 = .ok (.goto 9, 3) := by decide +kernel
theorem dX10_runs_114 : decode cX10_runs 114 = .ok (.aload_n 0, 1) := by decide +kernel
theorem dX10_runs_115 : decode cX10_runs 115 = .ok (.getfield 303, 3) := by decide +kernel
theorem dX10_runs_118 : decode cX10_runs 118 = .ok (.iconst 1, 1) := by decide +kernel
theorem dX10_runs_119 : decode cX10_runs 119 = .ok (.isub, 1) := by decide +kernel
theorem dX10_runs_120 : decode cX10_runs 120 = .ok (.iaload, 1) := by decide +kernel
theorem dX10_runs_121 : decode cX10_runs 121 = .ok (.putfield 297, 3) := by decide +kernel
theorem dX10_runs_124 : decode cX10_runs 124 = .ok (.aload_n 0, 1) := by decide +kernel
theorem dX10_runs_125 : decode cX10_runs 125 = .ok (.aload_n 0, 1) := by decide +kernel
theorem dX10_runs_126 : decode cX10_runs 126 = .ok (.getfield 368, 3) := by decide +kernel
theorem dX10_runs_129 : decode cX10_runs 129 = .ok (.ifCond .ne 14, 3) := by decide +kernel
theorem dX10_runs_132 : decode cX10_runs 132 = .ok (.aload_n 0, 1) := by decide +kernel
theorem dX10_runs_133 : decode cX10_runs 133 = .ok (.getfield 303, 3) := by decide +kernel
theorem dX10_runs_136 : decode cX10_runs 136 = .ok (.ifCond .ne 7, 3) := by decide +kernel
theorem dX10_runs_139 : decode cX10_runs 139 = .ok (.iconst 0, 1) := by decide +kernel
theorem dX10_runs_140 : decode cX10_runs 140 = .ok (.goto 32, 3) := by decide +kernel
theorem dX10_runs_143 : decode cX10_runs 143 = .ok (.aload_n 0, 1) := by decide +kernel
theorem dX10_runs_144 : decode cX10_runs 144 = .ok (.getfield 54, 3) := by decide +kernel
theorem dX10_runs_147 : decode cX10_runs 147 = .ok (.aload_n 0, 1) := by decide +kernel
theorem dX10_runs_148 : decode cX10_runs 148 = .ok (.getfield 368, 3) := by decide +kernel
theorem dX10_runs_151 : decode cX10_runs 151 = .ok (.aload_n 0, 1) := by decide +kernel
theorem dX10_runs_152 : decode cX10_runs 152 = .ok (.getfield 303, 3) := by decide +kernel
theorem dX10_runs_155 : decode cX10_runs 155 = .ok (.if_icmp .ge 10, 3) := by decide +kernel
theorem dX10_runs_158 : decode cX10_runs 158 = .ok (.aload_n 0, 1) := by decide +kernel
theorem dX10_runs_159 : decode cX10_runs 159 = .ok (.getfield 368, 3) := by decide +kernel
theorem dX10_runs_162 : decode cX10_runs 162 = .ok (.goto 9, 3) := by decide +kernel
theorem dX10_runs_165 : decode cX10_runs 165 = .ok (.aload_n 0, 1) := by decide +kernel
theorem dX10_runs_166 : decode cX10_runs 166 = .ok (.getfield 303, 3) := by decide +kernel
theorem dX10_runs_169 : decode cX10_runs 169 = .ok (.iconst 1, 1) := by decide +kernel
theorem dX10_runs_170 : decode cX10_runs 170 = .ok (.isub, 1) := by decide +kernel
theorem dX10_runs_171 : decode cX10_runs 171 = .ok (.iaload, 1) := by decide +kernel
theorem dX10_runs_172 : decode cX10_runs 172 = .ok (.putfield 300, 3) := by decide +kernel
theorem dX10_runs_175 : decode cX10_runs 175 = .ok (.aload_n 0, 1) := by decide +kernel
theorem dX10_runs_176 : decode cX10_runs 176 = .ok (.getfield 368, 3) := by decide +kernel
theorem dX10_runs_179 : decode cX10_runs 179 = .ok (.aload_n 0, 1) := by decide +kernel
theorem dX10_runs_180 : decode cX10_runs 180 = .ok (.getfield 303, 3) := by decide +kernel
theorem dX10_runs_183 : decode cX10_runs 183 = .ok (.if_icmp .ge 33, 3) := by decide +kernel
theorem dX10_runs_186 : decode cX10_runs 186 = .ok (.aload_n 0, 1) := by decide +kernel
theorem dX10_runs_187 : decode cX10_runs 187 = .ok (.invokevirtual 374, 3) := by decide +kernel
theorem dX10_runs_190 : decode cX10_runs 190 = .ok (.istore_n 2, 1) := by decide +kernel
theorem dX10_runs_191 : decode cX10_runs 191 = .ok (.aload_n 0, 1) := by decide +kernel
theorem dX10_runs_192 : decode cX10_runs 192 = .ok (.iload_n 2, 1) := by decide +kernel
theorem dX10_runs_193 : decode cX10_runs 193 = .ok (.aload_n 0, 1) := by decide +kernel
theorem dX10_runs_194 : decode cX10_runs 194 = .ok (.getfield 368, 3) := by decide +kernel
theorem dX10_runs_197 : decode cX10_runs 197 = .ok (.iconst 0, 1) := by decide +kernel
theorem dX10_runs_198 : decode cX10_runs 198 = .ok (.aload_n 0, 1) := by decide +kernel
theorem dX10_runs_199 : decode cX10_runs 199 = .ok (.iload_n 2, 1) := by decide +kernel
theorem dX10_runs_200 : decode cX10_runs 200 = .ok (.invokevirtual 343, 3) := by decide +kernel
theorem dX10_runs_203 : decode cX10_runs 203 = .ok (.invokevirtual 353, 3) := by decide +kernel
theorem dX10_runs_206 : decode cX10_runs 206 = .ok (.aload_n 0, 1) := by decide +kernel
theorem dX10_runs_207 : decode cX10_runs 207 = .ok (.dup, 1) := by decide +kernel
theorem dX10_runs_208 : decode cX10_runs 208 = .ok (.getfield 368, 3) := by decide +kernel
theorem dX10_runs_211 : decode cX10_runs 211 = .ok (.iconst 1, 1) := by decide +kernel
theorem dX10_runs_212 : decode cX10_runs 212 = .ok (.iadd, 1) := by decide +kernel
theorem dX10_runs_213 : decode cX10_runs 213 = .ok (.putfield 368, 3) := by decide +kernel
theorem dX10_runs_216 : decode cX10_runs 216 = .ok (.aload_n 0, 1) := by decide +kernel
theorem dX10_runs_217 : decode cX10_runs 217 = .ok (.getfield 368, 3) := by decide +kernel
theorem dX10_runs_220 : decode cX10_runs 220 = .ok (.sipush 4000, 3) := by decide +kernel
theorem dX10_runs_223 : decode cX10_runs 223 = .ok (.if_icmp .ge 115, 3) := by decide +kernel
theorem dX10_runs_226 : decode cX10_runs 226 = .ok (.aload_n 0, 1) := by decide +kernel
theorem dX10_runs_227 : decode cX10_runs 227 = .ok (.getfield 328, 3) := by decide +kernel
theorem dX10_runs_230 : decode cX10_runs 230 = .ok (.ifCond .le 108, 3) := by decide +kernel
theorem dX10_runs_233 : decode cX10_runs 233 = .ok (.aload_n 0, 1) := by decide +kernel
theorem dX10_runs_234 : decode cX10_runs 234 = .ok (.invokevirtual 377, 3) := by decide +kernel
theorem dX10_runs_237 : decode cX10_runs 237 = .ok (.ifCond .eq 101, 3) := by decide +kernel
theorem dX10_runs_240 : decode cX10_runs 240 = .ok (.aload_n 0, 1) := by decide +kernel
theorem dX10_runs_241 : decode cX10_runs 241 = .ok (.getfield 325, 3) := by decide +kernel
theorem dX10_runs_244 : decode cX10_runs 244 = .ok (.istore_n 2, 1) := by decide +kernel
theorem dX10_runs_245 : decode cX10_runs 245 = .ok (.iconst 0, 1) := by decide +kernel
theorem dX10_runs_246 : decode cX10_runs 246 = .ok (.istore_n 3, 1) := by decide +kernel
theorem dX10_runs_247 : decode cX10_runs 247 = .ok (.iload_n 3, 1) := by decide +kernel
theorem dX10_runs_248 : decode cX10_runs 248 = .ok (.iload_n 2, 1) := by decide +kernel
theorem dX10_runs_249 : decode cX10_runs 249 = .ok (.if_icmp .ge 76, 3) := by decide +kernel
theorem dX10_runs_252 : decode cX10_runs 252 = .ok (.aload_n 0, 1) := by decide +kernel
theorem dX10_runs_253 : decode cX10_runs 253 = .ok (.getfield 72, 3) := by decide +kernel
theorem dX10_runs_256 : decode cX10_runs 256 = .ok (.iload_n 3, 1) := by decide +kernel
theorem dX10_runs_257 : decode cX10_runs 257 = .ok (.baload, 1) := by decide +kernel
theorem dX10_runs_258 : decode cX10_runs 258 = .ok (.ifCond .eq 61, 3) := by decide +kernel
theorem dX10_runs_261 : decode cX10_runs 261 = .ok (.aload_n 0, 1) := by decide +kernel
theorem dX10_runs_262 : decode cX10_runs 262 = .ok (.getfield 368, 3) := by decide +kernel
theorem dX10_runs_265 : decode cX10_runs 265 = .ok (.aload_n 0, 1) := by decide +kernel
theorem dX10_runs_266 : decode cX10_runs 266 = .ok (.getfield 96, 3) := by decide +kernel
theorem dX10_runs_269 : decode cX10_runs 269 = .ok (.iload_n 3, 1) := by decide +kernel
theorem dX10_runs_270 : decode cX10_runs 270 = .ok (.iaload, 1) := by decide +kernel
theorem dX10_runs_271 : decode cX10_runs 271 = .ok (.if_icmp .le 48, 3) := by decide +kernel
theorem dX10_runs_274 : decode cX10_runs 274 = .ok (.aload_n 0, 1) := by decide +kernel
theorem dX10_runs_275 : decode cX10_runs 275 = .ok (.getfield 368, 3) := by decide +kernel
theorem dX10_runs_278 : decode cX10_runs 278 = .ok (.aload_n 0, 1) := by decide +kernel
theorem dX10_runs_279 : decode cX10_runs 279 = .ok (.getfield 96, 3) := by decide +kernel
theorem dX10_runs_282 : decode cX10_runs 282 = .ok (.iload_n 3, 1) := by decide +kernel
theorem dX10_runs_283 : decode cX10_runs 283 = .ok (.iaload, 1) := by decide +kernel
theorem dX10_runs_284 : decode cX10_runs 284 = .ok (.isub, 1) := by decide +kernel
theorem dX10_runs_285 : decode cX10_runs 285 = .ok (.aload_n 0, 1) := by decide +kernel
theorem dX10_runs_286 : decode cX10_runs 286 = .ok (.getfield 17, 3) := by decide +kernel
theorem dX10_runs_289 : decode cX10_runs 289 = .ok (.sipush 1118, 3) := by decide +kernel
theorem dX10_runs_292 : decode cX10_runs 292 = .ok (.iaload, 1) := by decide +kernel
theorem dX10_runs_293 : decode cX10_runs 293 = .ok (.irem, 1) := by decide +kernel
theorem dX10_runs_294 : decode cX10_runs 294 = .ok (.ifCond .ne 25, 3) := by decide +kernel
theorem dX10_runs_297 : decode cX10_runs 297 = .ok (.aload_n 0, 1) := by decide +kernel
theorem dX10_runs_298 : decode cX10_runs 298 = .ok (.iload_n 3, 1) := by decide +kernel
theorem dX10_runs_299 : decode cX10_runs 299 = .ok (.aload_n 0, 1) := by decide +kernel
theorem dX10_runs_300 : decode cX10_runs 300 = .ok (.getfield 368, 3) := by decide +kernel
theorem dX10_runs_303 : decode cX10_runs 303 = .ok (.iload_n 1, 1) := by decide +kernel
theorem dX10_runs_304 : decode cX10_runs 304 = .ok (.iconst (-1), 1) := by decide +kernel
theorem dX10_runs_305 : decode cX10_runs 305 = .ok (.if_icmp .ne 10, 3) := by decide +kernel
theorem dX10_runs_308 : decode cX10_runs 308 = .ok (.aload_n 0, 1) := by decide +kernel
theorem dX10_runs_309 : decode cX10_runs 309 = .ok (.getfield 300, 3) := by decide +kernel
theorem dX10_runs_312 : decode cX10_runs 312 = .ok (.goto 4, 3) := by decide +kernel
theorem dX10_runs_315 : decode cX10_runs 315 = .ok (.iload_n 1, 1) := by decide +kernel
theorem dX10_runs_316 : decode cX10_runs 316 = .ok (.invokevirtual 381, 3) := by decide +kernel
theorem dX10_runs_319 : decode cX10_runs 319 = .ok (.iinc 3 1, 3) := by decide +kernel
theorem dX10_runs_322 : decode cX10_runs 322 = .ok (.goto (-75), 3) := by decide +kernel
theorem dX10_runs_325 : decode cX10_runs 325 = .ok (.aload_n 0, 1) := by decide +kernel
theorem dX10_runs_326 : decode cX10_runs 326 = .ok (.dup, 1) := by decide +kernel
theorem dX10_runs_327 : decode cX10_runs 327 = .ok (.getfield 368, 3) := by decide +kernel
theorem dX10_runs_330 : decode cX10_runs 330 = .ok (.iconst 1, 1) := by decide +kernel
theorem dX10_runs_331 : decode cX10_runs 331 = .ok (.iadd, 1) := by decide +kernel
theorem dX10_runs_332 : decode cX10_runs 332 = .ok (.putfield 368, 3) := by decide +kernel
theorem dX10_runs_335 : decode cX10_runs 335 = .ok (.goto (-119), 3) := by decide +kernel
theorem dX10_runs_338 : decode cX10_runs 338 = .ok (.aload_n 0, 1) := by decide +kernel
theorem dX10_runs_339 : decode cX10_runs 339 = .ok (.invokevirtual 384, 3) := by decide +kernel
theorem dX10_runs_342 : decode cX10_runs 342 = .ok (.return_, 1) := by decide +kernel
theorem dX10_bendOf_0 : decode cX10_bendOf 0 = .ok (.iconst 0, 1) := by decide +kernel
theorem dX10_bendOf_1 : decode cX10_bendOf 1 = .ok (.istore_n 2, 1) := by decide +kernel
theorem dX10_bendOf_2 : decode cX10_bendOf 2 = .ok (.aload_n 0, 1) := by decide +kernel
theorem dX10_bendOf_3 : decode cX10_bendOf 3 = .ok (.getfield 306, 3) := by decide +kernel
theorem dX10_bendOf_6 : decode cX10_bendOf 6 = .ok (.iconst 1, 1) := by decide +kernel
theorem dX10_bendOf_7 : decode cX10_bendOf 7 = .ok (.iadd, 1) := by decide +kernel
theorem dX10_bendOf_8 : decode cX10_bendOf 8 = .ok (.istore_n 3, 1) := by decide +kernel
theorem dX10_bendOf_9 : decode cX10_bendOf 9 = .ok (.iload_n 2, 1) := by decide +kernel
theorem dX10_bendOf_10 : decode cX10_bendOf 10 = .ok (.iload_n 3, 1) := by decide +kernel
theorem dX10_bendOf_11 : decode cX10_bendOf 11 = .ok (.if_icmp .ge 49, 3) := by decide +kernel
theorem dX10_bendOf_14 : decode cX10_bendOf 14 = .ok (.iload_n 2, 1) := by decide +kernel
theorem dX10_bendOf_15 : decode cX10_bendOf 15 = .ok (.iload_n 3, 1) := by decide +kernel
theorem dX10_bendOf_16 : decode cX10_bendOf 16 = .ok (.iadd, 1) := by decide +kernel
theorem dX10_bendOf_17 : decode cX10_bendOf 17 = .ok (.iconst 2, 1) := by decide +kernel
theorem dX10_bendOf_18 : decode cX10_bendOf 18 = .ok (.idiv, 1) := by decide +kernel
theorem dX10_bendOf_19 : decode cX10_bendOf 19 = .ok (.istore 4, 2) := by decide +kernel
theorem dX10_bendOf_21 : decode cX10_bendOf 21 = .ok (.iload 4, 2) := by decide +kernel
theorem dX10_bendOf_23 : decode cX10_bendOf 23 = .ok (.aload_n 0, 1) := by decide +kernel
theorem dX10_bendOf_24 : decode cX10_bendOf 24 = .ok (.getfield 306, 3) := by decide +kernel
theorem dX10_bendOf_27 : decode cX10_bendOf 27 = .ok (.if_icmp .gt 27, 3) := by decide +kernel
theorem dX10_bendOf_30 : decode cX10_bendOf 30 = .ok (.aload_n 0, 1) := by decide +kernel
theorem dX10_bendOf_31 : decode cX10_bendOf 31 = .ok (.iload_n 1, 1) := by decide +kernel
theorem dX10_bendOf_32 : decode cX10_bendOf 32 = .ok (.iload 4, 2) := by decide +kernel
theorem dX10_bendOf_34 : decode cX10_bendOf 34 = .ok (.invokevirtual 320, 3) := by decide +kernel
theorem dX10_bendOf_37 : decode cX10_bendOf 37 = .ok (.aload_n 0, 1) := by decide +kernel
theorem dX10_bendOf_38 : decode cX10_bendOf 38 = .ok (.getfield 48, 3) := by decide +kernel
theorem dX10_bendOf_41 : decode cX10_bendOf 41 = .ok (.iload_n 1, 1) := by decide +kernel
theorem dX10_bendOf_42 : decode cX10_bendOf 42 = .ok (.iaload, 1) := by decide +kernel
theorem dX10_bendOf_43 : decode cX10_bendOf 43 = .ok (.if_icmp .gt 11, 3) := by decide +kernel
theorem dX10_bendOf_46 : decode cX10_bendOf 46 = .ok (.iload 4, 2) := by decide +kernel
theorem dX10_bendOf_48 : decode cX10_bendOf 48 = .ok (.iconst 1, 1) := by decide +kernel
theorem dX10_bendOf_49 : decode cX10_bendOf 49 = .ok (.iadd, 1) := by decide +kernel
theorem dX10_bendOf_50 : decode cX10_bendOf 50 = .ok (.istore_n 2, 1) := by decide +kernel
theorem dX10_bendOf_51 : decode cX10_bendOf 51 = .ok (.goto 6, 3) := by decide +kernel
theorem dX10_bendOf_54 : decode cX10_bendOf 54 = .ok (.iload 4, 2) := by decide +kernel
theorem dX10_bendOf_56 : decode cX10_bendOf 56 = .ok (.istore_n 3, 1) := by decide +kernel
theorem dX10_bendOf_57 : decode cX10_bendOf 57 = .ok (.goto (-48), 3) := by decide +kernel
theorem dX10_bendOf_60 : decode cX10_bendOf 60 = .ok (.iload_n 2, 1) := by decide +kernel
theorem dX10_bendOf_61 : decode cX10_bendOf 61 = .ok (.ireturn, 1) := by decide +kernel
theorem dX10_firstTick_0 : decode cX10_firstTick 0 = .ok (.aload_n 0, 1) := by decide +kernel
theorem dX10_firstTick_1 : decode cX10_firstTick 1 = .ok (.getfield 306, 3) := by decide +kernel
theorem dX10_firstTick_4 : decode cX10_firstTick 4 = .ok (.iconst 1, 1) := by decide +kernel
theorem dX10_firstTick_5 : decode cX10_firstTick 5 = .ok (.iadd, 1) := by decide +kernel
theorem dX10_firstTick_6 : decode cX10_firstTick 6 = .ok (.istore_n 1, 1) := by decide +kernel
theorem dX10_firstTick_7 : decode cX10_firstTick 7 = .ok (.iconst 0, 1) := by decide +kernel
theorem dX10_firstTick_8 : decode cX10_firstTick 8 = .ok (.istore_n 2, 1) := by decide +kernel
theorem dX10_firstTick_9 : decode cX10_firstTick 9 = .ok (.iload_n 2, 1) := by decide +kernel
theorem dX10_firstTick_10 : decode cX10_firstTick 10 = .ok (.aload_n 0, 1) := by decide +kernel
theorem dX10_firstTick_11 : decode cX10_firstTick 11 = .ok (.getfield 267, 3) := by decide +kernel
theorem dX10_firstTick_14 : decode cX10_firstTick 14 = .ok (.if_icmp .ge 26, 3) := by decide +kernel
theorem dX10_firstTick_17 : decode cX10_firstTick 17 = .ok (.aload_n 0, 1) := by decide +kernel
theorem dX10_firstTick_18 : decode cX10_firstTick 18 = .ok (.iload_n 2, 1) := by decide +kernel
theorem dX10_firstTick_19 : decode cX10_firstTick 19 = .ok (.invokevirtual 387, 3) := by decide +kernel
theorem dX10_firstTick_22 : decode cX10_firstTick 22 = .ok (.istore_n 3, 1) := by decide +kernel
theorem dX10_firstTick_23 : decode cX10_firstTick 23 = .ok (.iload_n 3, 1) := by decide +kernel
theorem dX10_firstTick_24 : decode cX10_firstTick 24 = .ok (.iload_n 1, 1) := by decide +kernel
theorem dX10_firstTick_25 : decode cX10_firstTick 25 = .ok (.if_icmp .ge 7, 3) := by decide +kernel
theorem dX10_firstTick_28 : decode cX10_firstTick 28 = .ok (.iload_n 3, 1) := by decide +kernel
theorem dX10_firstTick_29 : decode cX10_firstTick 29 = .ok (.goto 4, 3) := by decide +kernel
theorem dX10_firstTick_32 : decode cX10_firstTick 32 = .ok (.iload_n 1, 1) := by decide +kernel
theorem dX10_firstTick_33 : decode cX10_firstTick 33 = .ok (.istore_n 1, 1) := by decide +kernel
theorem dX10_firstTick_34 : decode cX10_firstTick 34 = .ok (.iinc 2 1, 3) := by decide +kernel
theorem dX10_firstTick_37 : decode cX10_firstTick 37 = .ok (.goto (-28), 3) := by decide +kernel
theorem dX10_firstTick_40 : decode cX10_firstTick 40 = .ok (.iconst 0, 1) := by decide +kernel
theorem dX10_firstTick_41 : decode cX10_firstTick 41 = .ok (.istore_n 2, 1) := by decide +kernel
theorem dX10_firstTick_42 : decode cX10_firstTick 42 = .ok (.iload_n 2, 1) := by decide +kernel
theorem dX10_firstTick_43 : decode cX10_firstTick 43 = .ok (.aload_n 0, 1) := by decide +kernel
theorem dX10_firstTick_44 : decode cX10_firstTick 44 = .ok (.getfield 303, 3) := by decide +kernel
theorem dX10_firstTick_47 : decode cX10_firstTick 47 = .ok (.if_icmp .ge 19, 3) := by decide +kernel
theorem dX10_firstTick_50 : decode cX10_firstTick 50 = .ok (.aload_n 0, 1) := by decide +kernel
theorem dX10_firstTick_51 : decode cX10_firstTick 51 = .ok (.getfield 51, 3) := by decide +kernel
theorem dX10_firstTick_54 : decode cX10_firstTick 54 = .ok (.iload_n 2, 1) := by decide +kernel
theorem dX10_firstTick_55 : decode cX10_firstTick 55 = .ok (.iaload, 1) := by decide +kernel
theorem dX10_firstTick_56 : decode cX10_firstTick 56 = .ok (.iload_n 1, 1) := by decide +kernel
theorem dX10_firstTick_57 : decode cX10_firstTick 57 = .ok (.if_icmp .ge 9, 3) := by decide +kernel
theorem dX10_firstTick_60 : decode cX10_firstTick 60 = .ok (.iinc 2 1, 3) := by decide +kernel
theorem dX10_firstTick_63 : decode cX10_firstTick 63 = .ok (.goto (-21), 3) := by decide +kernel
theorem dX10_firstTick_66 : decode cX10_firstTick 66 = .ok (.iload_n 2, 1) := by decide +kernel
theorem dX10_firstTick_67 : decode cX10_firstTick 67 = .ok (.ireturn, 1) := by decide +kernel
theorem dX10_cuts_0 : decode cX10_cuts 0 = .ok (.aload_n 0, 1) := by decide +kernel
theorem dX10_cuts_1 : decode cX10_cuts 1 = .ok (.iconst 0, 1) := by decide +kernel
theorem dX10_cuts_2 : decode cX10_cuts 2 = .ok (.putfield 390, 3) := by decide +kernel
theorem dX10_cuts_5 : decode cX10_cuts 5 = .ok (.iconst 0, 1) := by decide +kernel
theorem dX10_cuts_6 : decode cX10_cuts 6 = .ok (.istore_n 1, 1) := by decide +kernel
theorem dX10_cuts_7 : decode cX10_cuts 7 = .ok (.iconst 0, 1) := by decide +kernel
theorem dX10_cuts_8 : decode cX10_cuts 8 = .ok (.istore_n 2, 1) := by decide +kernel
theorem dX10_cuts_9 : decode cX10_cuts 9 = .ok (.iload_n 2, 1) := by decide +kernel
theorem dX10_cuts_10 : decode cX10_cuts 10 = .ok (.aload_n 0, 1) := by decide +kernel
theorem dX10_cuts_11 : decode cX10_cuts 11 = .ok (.getfield 267, 3) := by decide +kernel
theorem dX10_cuts_14 : decode cX10_cuts 14 = .ok (.if_icmp .ge 59, 3) := by decide +kernel
theorem dX10_cuts_17 : decode cX10_cuts 17 = .ok (.aload_n 0, 1) := by decide +kernel
theorem dX10_cuts_18 : decode cX10_cuts 18 = .ok (.getfield 66, 3) := by decide +kernel
theorem dX10_cuts_21 : decode cX10_cuts 21 = .ok (.iload_n 2, 1) := by decide +kernel
theorem dX10_cuts_22 : decode cX10_cuts 22 = .ok (.baload, 1) := by decide +kernel
theorem dX10_cuts_23 : decode cX10_cuts 23 = .ok (.ifCond .ne 16, 3) := by decide +kernel
theorem dX10_cuts_26 : decode cX10_cuts 26 = .ok (.iload_n 2, 1) := by decide +kernel
theorem dX10_cuts_27 : decode cX10_cuts 27 = .ok (.aload_n 0, 1) := by decide +kernel
theorem dX10_cuts_28 : decode cX10_cuts 28 = .ok (.getfield 267, 3) := by decide +kernel
theorem dX10_cuts_31 : decode cX10_cuts 31 = .ok (.iconst 1, 1) := by decide +kernel
theorem dX10_cuts_32 : decode cX10_cuts 32 = .ok (.isub, 1) := by decide +kernel
theorem dX10_cuts_33 : decode cX10_cuts 33 = .ok (.if_icmp .ge 6, 3) := by decide +kernel
theorem dX10_cuts_36 : decode cX10_cuts 36 = .ok (.goto 31, 3) := by decide +kernel
theorem dX10_cuts_39 : decode cX10_cuts 39 = .ok (.aload_n 0, 1) := by decide +kernel
theorem dX10_cuts_40 : decode cX10_cuts 40 = .ok (.getfield 87, 3) := by decide +kernel
theorem dX10_cuts_43 : decode cX10_cuts 43 = .ok (.aload_n 0, 1) := by decide +kernel
theorem dX10_cuts_44 : decode cX10_cuts 44 = .ok (.getfield 390, 3) := by decide +kernel
theorem dX10_cuts_47 : decode cX10_cuts 47 = .ok (.iload_n 2, 1) := by decide +kernel
theorem dX10_cuts_48 : decode cX10_cuts 48 = .ok (.iconst 1, 1) := by decide +kernel
theorem dX10_cuts_49 : decode cX10_cuts 49 = .ok (.iadd, 1) := by decide +kernel
theorem dX10_cuts_50 : decode cX10_cuts 50 = .ok (.iload_n 1, 1) := by decide +kernel
theorem dX10_cuts_51 : decode cX10_cuts 51 = .ok (.isub, 1) := by decide +kernel
theorem dX10_cuts_52 : decode cX10_cuts 52 = .ok (.iastore, 1) := by decide +kernel
theorem dX10_cuts_53 : decode cX10_cuts 53 = .ok (.aload_n 0, 1) := by decide +kernel
theorem dX10_cuts_54 : decode cX10_cuts 54 = .ok (.dup, 1) := by decide +kernel
theorem dX10_cuts_55 : decode cX10_cuts 55 = .ok (.getfield 390, 3) := by decide +kernel
theorem dX10_cuts_58 : decode cX10_cuts 58 = .ok (.iconst 1, 1) := by decide +kernel
theorem dX10_cuts_59 : decode cX10_cuts 59 = .ok (.iadd, 1) := by decide +kernel
theorem dX10_cuts_60 : decode cX10_cuts 60 = .ok (.putfield 390, 3) := by decide +kernel
theorem dX10_cuts_63 : decode cX10_cuts 63 = .ok (.iload_n 2, 1) := by decide +kernel
theorem dX10_cuts_64 : decode cX10_cuts 64 = .ok (.iconst 1, 1) := by decide +kernel
theorem dX10_cuts_65 : decode cX10_cuts 65 = .ok (.iadd, 1) := by decide +kernel
theorem dX10_cuts_66 : decode cX10_cuts 66 = .ok (.istore_n 1, 1) := by decide +kernel
theorem dX10_cuts_67 : decode cX10_cuts 67 = .ok (.iinc 2 1, 3) := by decide +kernel
theorem dX10_cuts_70 : decode cX10_cuts 70 = .ok (.goto (-61), 3) := by decide +kernel
theorem dX10_cuts_73 : decode cX10_cuts 73 = .ok (.return_, 1) := by decide +kernel
theorem dX10_piecesOf_0 : decode cX10_piecesOf 0 = .ok (.aload_n 0, 1) := by decide +kernel
theorem dX10_piecesOf_1 : decode cX10_piecesOf 1 = .ok (.iload_n 1, 1) := by decide +kernel
theorem dX10_piecesOf_2 : decode cX10_piecesOf 2 = .ok (.invokevirtual 282, 3) := by decide +kernel
theorem dX10_piecesOf_5 : decode cX10_piecesOf 5 = .ok (.aload_n 0, 1) := by decide +kernel
theorem dX10_piecesOf_6 : decode cX10_piecesOf 6 = .ok (.iload_n 2, 1) := by decide +kernel
theorem dX10_piecesOf_7 : decode cX10_piecesOf 7 = .ok (.iload 4, 2) := by decide +kernel
theorem dX10_piecesOf_9 : decode cX10_piecesOf 9 = .ok (.invokevirtual 317, 3) := by decide +kernel
theorem dX10_piecesOf_12 : decode cX10_piecesOf 12 = .ok (.aload_n 0, 1) := by decide +kernel
theorem dX10_piecesOf_13 : decode cX10_piecesOf 13 = .ok (.iload_n 3, 1) := by decide +kernel
theorem dX10_piecesOf_14 : decode cX10_piecesOf 14 = .ok (.invokevirtual 285, 3) := by decide +kernel
theorem dX10_piecesOf_17 : decode cX10_piecesOf 17 = .ok (.aload_n 0, 1) := by decide +kernel
theorem dX10_piecesOf_18 : decode cX10_piecesOf 18 = .ok (.iload 5, 2) := by decide +kernel
theorem dX10_piecesOf_20 : decode cX10_piecesOf 20 = .ok (.invokevirtual 393, 3) := by decide +kernel
theorem dX10_piecesOf_23 : decode cX10_piecesOf 23 = .ok (.aload_n 0, 1) := by decide +kernel
theorem dX10_piecesOf_24 : decode cX10_piecesOf 24 = .ok (.getfield 390, 3) := by decide +kernel
theorem dX10_piecesOf_27 : decode cX10_piecesOf 27 = .ok (.ireturn, 1) := by decide +kernel
theorem dX10_isBoth_0 : decode cX10_isBoth 0 = .ok (.aload_n 0, 1) := by decide +kernel
theorem dX10_isBoth_1 : decode cX10_isBoth 1 = .ok (.iload_n 1, 1) := by decide +kernel
theorem dX10_isBoth_2 : decode cX10_isBoth 2 = .ok (.invokevirtual 277, 3) := by decide +kernel
theorem dX10_isBoth_5 : decode cX10_isBoth 5 = .ok (.ifCond .eq 14, 3) := by decide +kernel
theorem dX10_isBoth_8 : decode cX10_isBoth 8 = .ok (.iload_n 2, 1) := by decide +kernel
theorem dX10_isBoth_9 : decode cX10_isBoth 9 = .ok (.invokestatic 312, 3) := by decide +kernel
theorem dX10_isBoth_12 : decode cX10_isBoth 12 = .ok (.ifCond .eq 7, 3) := by decide +kernel
theorem dX10_isBoth_15 : decode cX10_isBoth 15 = .ok (.iconst 1, 1) := by decide +kernel
theorem dX10_isBoth_16 : decode cX10_isBoth 16 = .ok (.goto 4, 3) := by decide +kernel
theorem dX10_isBoth_19 : decode cX10_isBoth 19 = .ok (.iconst 0, 1) := by decide +kernel
theorem dX10_isBoth_20 : decode cX10_isBoth 20 = .ok (.ireturn, 1) := by decide +kernel
theorem dX10_go_0 : decode cX10_go 0 = .ok (.aload_n 0, 1) := by decide +kernel
theorem dX10_go_1 : decode cX10_go 1 = .ok (.iconst 0, 1) := by decide +kernel
theorem dX10_go_2 : decode cX10_go 2 = .ok (.putfield 1, 3) := by decide +kernel
theorem dX10_go_5 : decode cX10_go 5 = .ok (.aload_n 0, 1) := by decide +kernel
theorem dX10_go_6 : decode cX10_go 6 = .ok (.iload_n 1, 1) := by decide +kernel
theorem dX10_go_7 : decode cX10_go 7 = .ok (.iload_n 2, 1) := by decide +kernel
theorem dX10_go_8 : decode cX10_go 8 = .ok (.invokevirtual 396, 3) := by decide +kernel
theorem dX10_go_11 : decode cX10_go 11 = .ok (.ifCond .ne 10, 3) := by decide +kernel
theorem dX10_go_14 : decode cX10_go 14 = .ok (.aload_n 0, 1) := by decide +kernel
theorem dX10_go_15 : decode cX10_go 15 = .ok (.bipush (-2), 2) := by decide +kernel
theorem dX10_go_17 : decode cX10_go 17 = .ok (.invokevirtual 131, 3) := by decide +kernel
theorem dX10_go_20 : decode cX10_go 20 = .ok (.ireturn, 1) := by decide +kernel
theorem dX10_go_21 : decode cX10_go 21 = .ok (.aload_n 0, 1) := by decide +kernel
theorem dX10_go_22 : decode cX10_go 22 = .ok (.iload_n 1, 1) := by decide +kernel
theorem dX10_go_23 : decode cX10_go 23 = .ok (.iload_n 2, 1) := by decide +kernel
theorem dX10_go_24 : decode cX10_go 24 = .ok (.iload_n 3, 1) := by decide +kernel
theorem dX10_go_25 : decode cX10_go 25 = .ok (.iconst 1, 1) := by decide +kernel
theorem dX10_go_26 : decode cX10_go 26 = .ok (.iconst (-1), 1) := by decide +kernel
theorem dX10_go_27 : decode cX10_go 27 = .ok (.invokevirtual 400, 3) := by decide +kernel
theorem dX10_go_30 : decode cX10_go 30 = .ok (.pop, 1) := by decide +kernel
theorem dX10_go_31 : decode cX10_go 31 = .ok (.aload_n 0, 1) := by decide +kernel
theorem dX10_go_32 : decode cX10_go 32 = .ok (.getfield 17, 3) := by decide +kernel
theorem dX10_go_35 : decode cX10_go 35 = .ok (.sipush 1125, 3) := by decide +kernel
theorem dX10_go_38 : decode cX10_go 38 = .ok (.iconst 1, 1) := by decide +kernel
theorem dX10_go_39 : decode cX10_go 39 = .ok (.iastore, 1) := by decide +kernel
theorem dX10_go_40 : decode cX10_go 40 = .ok (.aload_n 0, 1) := by decide +kernel
theorem dX10_go_41 : decode cX10_go 41 = .ok (.getfield 17, 3) := by decide +kernel
theorem dX10_go_44 : decode cX10_go 44 = .ok (.sipush 1126, 3) := by decide +kernel
theorem dX10_go_47 : decode cX10_go 47 = .ok (.aload_n 0, 1) := by decide +kernel
theorem dX10_go_48 : decode cX10_go 48 = .ok (.getfield 328, 3) := by decide +kernel
theorem dX10_go_51 : decode cX10_go 51 = .ok (.iastore, 1) := by decide +kernel
theorem dX10_go_52 : decode cX10_go 52 = .ok (.aload_n 0, 1) := by decide +kernel
theorem dX10_go_53 : decode cX10_go 53 = .ok (.getfield 17, 3) := by decide +kernel
theorem dX10_go_56 : decode cX10_go 56 = .ok (.sipush 1127, 3) := by decide +kernel
theorem dX10_go_59 : decode cX10_go 59 = .ok (.aload_n 0, 1) := by decide +kernel
theorem dX10_go_60 : decode cX10_go 60 = .ok (.getfield 390, 3) := by decide +kernel
theorem dX10_go_63 : decode cX10_go 63 = .ok (.iastore, 1) := by decide +kernel
theorem dX10_go_64 : decode cX10_go 64 = .ok (.aload_n 0, 1) := by decide +kernel
theorem dX10_go_65 : decode cX10_go 65 = .ok (.getfield 17, 3) := by decide +kernel
theorem dX10_go_68 : decode cX10_go 68 = .ok (.sipush 1128, 3) := by decide +kernel
theorem dX10_go_71 : decode cX10_go 71 = .ok (.aload_n 0, 1) := by decide +kernel
theorem dX10_go_72 : decode cX10_go 72 = .ok (.getfield 325, 3) := by decide +kernel
theorem dX10_go_75 : decode cX10_go 75 = .ok (.iastore, 1) := by decide +kernel
theorem dX10_go_76 : decode cX10_go 76 = .ok (.aload_n 0, 1) := by decide +kernel
theorem dX10_go_77 : decode cX10_go 77 = .ok (.getfield 17, 3) := by decide +kernel
theorem dX10_go_80 : decode cX10_go 80 = .ok (.sipush 1129, 3) := by decide +kernel
theorem dX10_go_83 : decode cX10_go 83 = .ok (.aload_n 0, 1) := by decide +kernel
theorem dX10_go_84 : decode cX10_go 84 = .ok (.getfield 356, 3) := by decide +kernel
theorem dX10_go_87 : decode cX10_go 87 = .ok (.iastore, 1) := by decide +kernel
theorem dX10_go_88 : decode cX10_go 88 = .ok (.aload_n 0, 1) := by decide +kernel
theorem dX10_go_89 : decode cX10_go 89 = .ok (.getfield 17, 3) := by decide +kernel
theorem dX10_go_92 : decode cX10_go 92 = .ok (.sipush 1130, 3) := by decide +kernel
theorem dX10_go_95 : decode cX10_go 95 = .ok (.aload_n 0, 1) := by decide +kernel
theorem dX10_go_96 : decode cX10_go 96 = .ok (.getfield 368, 3) := by decide +kernel
theorem dX10_go_99 : decode cX10_go 99 = .ok (.iastore, 1) := by decide +kernel
theorem dX10_go_100 : decode cX10_go 100 = .ok (.aload_n 0, 1) := by decide +kernel
theorem dX10_go_101 : decode cX10_go 101 = .ok (.getfield 17, 3) := by decide +kernel
theorem dX10_go_104 : decode cX10_go 104 = .ok (.sipush 1131, 3) := by decide +kernel
theorem dX10_go_107 : decode cX10_go 107 = .ok (.aload_n 0, 1) := by decide +kernel
theorem dX10_go_108 : decode cX10_go 108 = .ok (.getfield 297, 3) := by decide +kernel
theorem dX10_go_111 : decode cX10_go 111 = .ok (.iastore, 1) := by decide +kernel
theorem dX10_go_112 : decode cX10_go 112 = .ok (.aload_n 0, 1) := by decide +kernel
theorem dX10_go_113 : decode cX10_go 113 = .ok (.getfield 17, 3) := by decide +kernel
theorem dX10_go_116 : decode cX10_go 116 = .ok (.sipush 1132, 3) := by decide +kernel
theorem dX10_go_119 : decode cX10_go 119 = .ok (.aload_n 0, 1) := by decide +kernel
theorem dX10_go_120 : decode cX10_go 120 = .ok (.getfield 300, 3) := by decide +kernel
theorem dX10_go_123 : decode cX10_go 123 = .ok (.iastore, 1) := by decide +kernel
theorem dX10_go_124 : decode cX10_go 124 = .ok (.aload_n 0, 1) := by decide +kernel
theorem dX10_go_125 : decode cX10_go 125 = .ok (.getfield 328, 3) := by decide +kernel
theorem dX10_go_128 : decode cX10_go 128 = .ok (.iconst 2, 1) := by decide +kernel
theorem dX10_go_129 : decode cX10_go 129 = .ok (.if_icmp .ge 7, 3) := by decide +kernel
theorem dX10_go_132 : decode cX10_go 132 = .ok (.iconst 0, 1) := by decide +kernel
theorem dX10_go_133 : decode cX10_go 133 = .ok (.goto 16, 3) := by decide +kernel
theorem dX10_go_136 : decode cX10_go 136 = .ok (.aload_n 0, 1) := by decide +kernel
theorem dX10_go_137 : decode cX10_go 137 = .ok (.getfield 75, 3) := by decide +kernel
theorem dX10_go_140 : decode cX10_go 140 = .ok (.iconst 0, 1) := by decide +kernel
theorem dX10_go_141 : decode cX10_go 141 = .ok (.iaload, 1) := by decide +kernel
theorem dX10_go_142 : decode cX10_go 142 = .ok (.aload_n 0, 1) := by decide +kernel
theorem dX10_go_143 : decode cX10_go 143 = .ok (.getfield 75, 3) := by decide +kernel
theorem dX10_go_146 : decode cX10_go 146 = .ok (.iconst 1, 1) := by decide +kernel
theorem dX10_go_147 : decode cX10_go 147 = .ok (.iaload, 1) := by decide +kernel
theorem dX10_go_148 : decode cX10_go 148 = .ok (.isub, 1) := by decide +kernel
theorem dX10_go_149 : decode cX10_go 149 = .ok (.istore 4, 2) := by decide +kernel
theorem dX10_go_151 : decode cX10_go 151 = .ok (.aload_n 0, 1) := by decide +kernel
theorem dX10_go_152 : decode cX10_go 152 = .ok (.getfield 17, 3) := by decide +kernel
theorem dX10_go_155 : decode cX10_go 155 = .ok (.sipush 2635, 3) := by decide +kernel
theorem dX10_go_158 : decode cX10_go 158 = .ok (.aload_n 0, 1) := by decide +kernel
theorem dX10_go_159 : decode cX10_go 159 = .ok (.getfield 17, 3) := by decide +kernel
theorem dX10_go_162 : decode cX10_go 162 = .ok (.sipush 1118, 3) := by decide +kernel
theorem dX10_go_165 : decode cX10_go 165 = .ok (.iaload, 1) := by decide +kernel
theorem dX10_go_166 : decode cX10_go 166 = .ok (.aload_n 0, 1) := by decide +kernel
theorem dX10_go_167 : decode cX10_go 167 = .ok (.getfield 17, 3) := by decide +kernel
theorem dX10_go_170 : decode cX10_go 170 = .ok (.sipush 1119, 3) := by decide +kernel
theorem dX10_go_173 : decode cX10_go 173 = .ok (.iaload, 1) := by decide +kernel
theorem dX10_go_174 : decode cX10_go 174 = .ok (.isub, 1) := by decide +kernel
theorem dX10_go_175 : decode cX10_go 175 = .ok (.iload 4, 2) := by decide +kernel
theorem dX10_go_177 : decode cX10_go 177 = .ok (.ifCond .ge 9, 3) := by decide +kernel
theorem dX10_go_180 : decode cX10_go 180 = .ok (.iload 4, 2) := by decide +kernel
theorem dX10_go_182 : decode cX10_go 182 = .ok (.ineg, 1) := by decide +kernel
theorem dX10_go_183 : decode cX10_go 183 = .ok (.goto 5, 3) := by decide +kernel
theorem dX10_go_186 : decode cX10_go 186 = .ok (.iload 4, 2) := by decide +kernel
theorem dX10_go_188 : decode cX10_go 188 = .ok (.imul, 1) := by decide +kernel
theorem dX10_go_189 : decode cX10_go 189 = .ok (.iastore, 1) := by decide +kernel
theorem dX10_go_190 : decode cX10_go 190 = .ok (.aload_n 0, 1) := by decide +kernel
theorem dX10_go_191 : decode cX10_go 191 = .ok (.getfield 17, 3) := by decide +kernel
theorem dX10_go_194 : decode cX10_go 194 = .ok (.sipush 1133, 3) := by decide +kernel
theorem dX10_go_197 : decode cX10_go 197 = .ok (.iconst 0, 1) := by decide +kernel
theorem dX10_go_198 : decode cX10_go 198 = .ok (.iastore, 1) := by decide +kernel
theorem dX10_go_199 : decode cX10_go 199 = .ok (.iconst 0, 1) := by decide +kernel
theorem dX10_go_200 : decode cX10_go 200 = .ok (.istore 5, 2) := by decide +kernel
theorem dX10_go_202 : decode cX10_go 202 = .ok (.iload 5, 2) := by decide +kernel
theorem dX10_go_204 : decode cX10_go 204 = .ok (.aload_n 0, 1) := by decide +kernel
theorem dX10_go_205 : decode cX10_go 205 = .ok (.getfield 267, 3) := by decide +kernel
theorem dX10_go_208 : decode cX10_go 208 = .ok (.if_icmp .ge 35, 3) := by decide +kernel
theorem dX10_go_211 : decode cX10_go 211 = .ok (.aload_n 0, 1) := by decide +kernel
theorem dX10_go_212 : decode cX10_go 212 = .ok (.getfield 17, 3) := by decide +kernel
theorem dX10_go_215 : decode cX10_go 215 = .ok (.sipush 1133, 3) := by decide +kernel
theorem dX10_go_218 : decode cX10_go 218 = .ok (.dup2, 1) := by decide +kernel
theorem dX10_go_219 : decode cX10_go 219 = .ok (.iaload, 1) := by decide +kernel
theorem dX10_go_220 : decode cX10_go 220 = .ok (.aload_n 0, 1) := by decide +kernel
theorem dX10_go_221 : decode cX10_go 221 = .ok (.getfield 69, 3) := by decide +kernel
theorem dX10_go_224 : decode cX10_go 224 = .ok (.iload 5, 2) := by decide +kernel
theorem dX10_go_226 : decode cX10_go 226 = .ok (.baload, 1) := by decide +kernel
theorem dX10_go_227 : decode cX10_go 227 = .ok (.ifCond .eq 7, 3) := by decide +kernel
theorem dX10_go_230 : decode cX10_go 230 = .ok (.iconst 1, 1) := by decide +kernel
theorem dX10_go_231 : decode cX10_go 231 = .ok (.goto 4, 3) := by decide +kernel
theorem dX10_go_234 : decode cX10_go 234 = .ok (.iconst 0, 1) := by decide +kernel
theorem dX10_go_235 : decode cX10_go 235 = .ok (.iadd, 1) := by decide +kernel
theorem dX10_go_236 : decode cX10_go 236 = .ok (.iastore, 1) := by decide +kernel
theorem dX10_go_237 : decode cX10_go 237 = .ok (.iinc 5 1, 3) := by decide +kernel
theorem dX10_go_240 : decode cX10_go 240 = .ok (.goto (-38), 3) := by decide +kernel
theorem dX10_go_243 : decode cX10_go 243 = .ok (.iconst 0, 1) := by decide +kernel
theorem dX10_go_244 : decode cX10_go 244 = .ok (.istore 5, 2) := by decide +kernel
theorem dX10_go_246 : decode cX10_go 246 = .ok (.iload 5, 2) := by decide +kernel
theorem dX10_go_248 : decode cX10_go 248 = .ok (.aload_n 0, 1) := by decide +kernel
theorem dX10_go_249 : decode cX10_go 249 = .ok (.getfield 328, 3) := by decide +kernel
theorem dX10_go_252 : decode cX10_go 252 = .ok (.if_icmp .ge 81, 3) := by decide +kernel
theorem dX10_go_255 : decode cX10_go 255 = .ok (.aload_n 0, 1) := by decide +kernel
theorem dX10_go_256 : decode cX10_go 256 = .ok (.getfield 17, 3) := by decide +kernel
theorem dX10_go_259 : decode cX10_go 259 = .ok (.sipush 1134, 3) := by decide +kernel
theorem dX10_go_262 : decode cX10_go 262 = .ok (.iload 5, 2) := by decide +kernel
theorem dX10_go_264 : decode cX10_go 264 = .ok (.iadd, 1) := by decide +kernel
theorem dX10_go_265 : decode cX10_go 265 = .ok (.aload_n 0, 1) := by decide +kernel
theorem dX10_go_266 : decode cX10_go 266 = .ok (.getfield 75, 3) := by decide +kernel
theorem dX10_go_269 : decode cX10_go 269 = .ok (.iload 5, 2) := by decide +kernel
theorem dX10_go_271 : decode cX10_go 271 = .ok (.iaload, 1) := by decide +kernel
theorem dX10_go_272 : decode cX10_go 272 = .ok (.iastore, 1) := by decide +kernel
theorem dX10_go_273 : decode cX10_go 273 = .ok (.aload_n 0, 1) := by decide +kernel
theorem dX10_go_274 : decode cX10_go 274 = .ok (.getfield 17, 3) := by decide +kernel
theorem dX10_go_277 : decode cX10_go 277 = .ok (.sipush 1194, 3) := by decide +kernel
theorem dX10_go_280 : decode cX10_go 280 = .ok (.iload 5, 2) := by decide +kernel
theorem dX10_go_282 : decode cX10_go 282 = .ok (.iadd, 1) := by decide +kernel
theorem dX10_go_283 : decode cX10_go 283 = .ok (.aload_n 0, 1) := by decide +kernel
theorem dX10_go_284 : decode cX10_go 284 = .ok (.getfield 78, 3) := by decide +kernel
theorem dX10_go_287 : decode cX10_go 287 = .ok (.iload 5, 2) := by decide +kernel
theorem dX10_go_289 : decode cX10_go 289 = .ok (.iaload, 1) := by decide +kernel
theorem dX10_go_290 : decode cX10_go 290 = .ok (.iastore, 1) := by decide +kernel
theorem dX10_go_291 : decode cX10_go 291 = .ok (.aload_n 0, 1) := by decide +kernel
theorem dX10_go_292 : decode cX10_go 292 = .ok (.getfield 17, 3) := by decide +kernel
theorem dX10_go_295 : decode cX10_go 295 = .ok (.sipush 1254, 3) := by decide +kernel
theorem dX10_go_298 : decode cX10_go 298 = .ok (.iload 5, 2) := by decide +kernel
theorem dX10_go_300 : decode cX10_go 300 = .ok (.iadd, 1) := by decide +kernel
theorem dX10_go_301 : decode cX10_go 301 = .ok (.aload_n 0, 1) := by decide +kernel
theorem dX10_go_302 : decode cX10_go 302 = .ok (.getfield 81, 3) := by decide +kernel
theorem dX10_go_305 : decode cX10_go 305 = .ok (.iload 5, 2) := by decide +kernel
theorem dX10_go_307 : decode cX10_go 307 = .ok (.iaload, 1) := by decide +kernel
theorem dX10_go_308 : decode cX10_go 308 = .ok (.iastore, 1) := by decide +kernel
theorem dX10_go_309 : decode cX10_go 309 = .ok (.aload_n 0, 1) := by decide +kernel
theorem dX10_go_310 : decode cX10_go 310 = .ok (.getfield 17, 3) := by decide +kernel
theorem dX10_go_313 : decode cX10_go 313 = .ok (.sipush 1314, 3) := by decide +kernel
theorem dX10_go_316 : decode cX10_go 316 = .ok (.iload 5, 2) := by decide +kernel
theorem dX10_go_318 : decode cX10_go 318 = .ok (.iadd, 1) := by decide +kernel
theorem dX10_go_319 : decode cX10_go 319 = .ok (.aload_n 0, 1) := by decide +kernel
theorem dX10_go_320 : decode cX10_go 320 = .ok (.getfield 84, 3) := by decide +kernel
theorem dX10_go_323 : decode cX10_go 323 = .ok (.iload 5, 2) := by decide +kernel
theorem dX10_go_325 : decode cX10_go 325 = .ok (.iaload, 1) := by decide +kernel
theorem dX10_go_326 : decode cX10_go 326 = .ok (.iastore, 1) := by decide +kernel
theorem dX10_go_327 : decode cX10_go 327 = .ok (.iinc 5 1, 3) := by decide +kernel
theorem dX10_go_330 : decode cX10_go 330 = .ok (.goto (-84), 3) := by decide +kernel
theorem dX10_go_333 : decode cX10_go 333 = .ok (.iconst 0, 1) := by decide +kernel
theorem dX10_go_334 : decode cX10_go 334 = .ok (.istore 5, 2) := by decide +kernel
theorem dX10_go_336 : decode cX10_go 336 = .ok (.iload 5, 2) := by decide +kernel
theorem dX10_go_338 : decode cX10_go 338 = .ok (.aload_n 0, 1) := by decide +kernel
theorem dX10_go_339 : decode cX10_go 339 = .ok (.getfield 390, 3) := by decide +kernel
theorem dX10_go_342 : decode cX10_go 342 = .ok (.if_icmp .ge 27, 3) := by decide +kernel
theorem dX10_go_345 : decode cX10_go 345 = .ok (.aload_n 0, 1) := by decide +kernel
theorem dX10_go_346 : decode cX10_go 346 = .ok (.getfield 17, 3) := by decide +kernel
theorem dX10_go_349 : decode cX10_go 349 = .ok (.sipush 1374, 3) := by decide +kernel
theorem dX10_go_352 : decode cX10_go 352 = .ok (.iload 5, 2) := by decide +kernel
theorem dX10_go_354 : decode cX10_go 354 = .ok (.iadd, 1) := by decide +kernel
theorem dX10_go_355 : decode cX10_go 355 = .ok (.aload_n 0, 1) := by decide +kernel
theorem dX10_go_356 : decode cX10_go 356 = .ok (.getfield 87, 3) := by decide +kernel
theorem dX10_go_359 : decode cX10_go 359 = .ok (.iload 5, 2) := by decide +kernel
theorem dX10_go_361 : decode cX10_go 361 = .ok (.iaload, 1) := by decide +kernel
theorem dX10_go_362 : decode cX10_go 362 = .ok (.iastore, 1) := by decide +kernel
theorem dX10_go_363 : decode cX10_go 363 = .ok (.iinc 5 1, 3) := by decide +kernel
theorem dX10_go_366 : decode cX10_go 366 = .ok (.goto (-30), 3) := by decide +kernel
theorem dX10_go_369 : decode cX10_go 369 = .ok (.iconst 0, 1) := by decide +kernel
theorem dX10_go_370 : decode cX10_go 370 = .ok (.istore 5, 2) := by decide +kernel
theorem dX10_go_372 : decode cX10_go 372 = .ok (.iload 5, 2) := by decide +kernel
theorem dX10_go_374 : decode cX10_go 374 = .ok (.aload_n 0, 1) := by decide +kernel
theorem dX10_go_375 : decode cX10_go 375 = .ok (.getfield 325, 3) := by decide +kernel
theorem dX10_go_378 : decode cX10_go 378 = .ok (.if_icmp .ge 117, 3) := by decide +kernel
theorem dX10_go_381 : decode cX10_go 381 = .ok (.aload_n 0, 1) := by decide +kernel
theorem dX10_go_382 : decode cX10_go 382 = .ok (.getfield 17, 3) := by decide +kernel
theorem dX10_go_385 : decode cX10_go 385 = .ok (.sipush 1435, 3) := by decide +kernel
theorem dX10_go_388 : decode cX10_go 388 = .ok (.iload 5, 2) := by decide +kernel
theorem dX10_go_390 : decode cX10_go 390 = .ok (.iadd, 1) := by decide +kernel
theorem dX10_go_391 : decode cX10_go 391 = .ok (.aload_n 0, 1) := by decide +kernel
theorem dX10_go_392 : decode cX10_go 392 = .ok (.getfield 90, 3) := by decide +kernel
theorem dX10_go_395 : decode cX10_go 395 = .ok (.iload 5, 2) := by decide +kernel
theorem dX10_go_397 : decode cX10_go 397 = .ok (.iaload, 1) := by decide +kernel
theorem dX10_go_398 : decode cX10_go 398 = .ok (.iastore, 1) := by decide +kernel
theorem dX10_go_399 : decode cX10_go 399 = .ok (.aload_n 0, 1) := by decide +kernel
theorem dX10_go_400 : decode cX10_go 400 = .ok (.getfield 17, 3) := by decide +kernel
theorem dX10_go_403 : decode cX10_go 403 = .ok (.sipush 1635, 3) := by decide +kernel
theorem dX10_go_406 : decode cX10_go 406 = .ok (.iload 5, 2) := by decide +kernel
theorem dX10_go_408 : decode cX10_go 408 = .ok (.iadd, 1) := by decide +kernel
theorem dX10_go_409 : decode cX10_go 409 = .ok (.aload_n 0, 1) := by decide +kernel
theorem dX10_go_410 : decode cX10_go 410 = .ok (.getfield 93, 3) := by decide +kernel
theorem dX10_go_413 : decode cX10_go 413 = .ok (.iload 5, 2) := by decide +kernel
theorem dX10_go_415 : decode cX10_go 415 = .ok (.iaload, 1) := by decide +kernel
theorem dX10_go_416 : decode cX10_go 416 = .ok (.iastore, 1) := by decide +kernel
theorem dX10_go_417 : decode cX10_go 417 = .ok (.aload_n 0, 1) := by decide +kernel
theorem dX10_go_418 : decode cX10_go 418 = .ok (.getfield 17, 3) := by decide +kernel
theorem dX10_go_421 : decode cX10_go 421 = .ok (.sipush 1835, 3) := by decide +kernel
theorem dX10_go_424 : decode cX10_go 424 = .ok (.iload 5, 2) := by decide +kernel
theorem dX10_go_426 : decode cX10_go 426 = .ok (.iadd, 1) := by decide +kernel
theorem dX10_go_427 : decode cX10_go 427 = .ok (.aload_n 0, 1) := by decide +kernel
theorem dX10_go_428 : decode cX10_go 428 = .ok (.getfield 96, 3) := by decide +kernel
theorem dX10_go_431 : decode cX10_go 431 = .ok (.iload 5, 2) := by decide +kernel
theorem dX10_go_433 : decode cX10_go 433 = .ok (.iaload, 1) := by decide +kernel
theorem dX10_go_434 : decode cX10_go 434 = .ok (.iastore, 1) := by decide +kernel
theorem dX10_go_435 : decode cX10_go 435 = .ok (.aload_n 0, 1) := by decide +kernel
theorem dX10_go_436 : decode cX10_go 436 = .ok (.getfield 17, 3) := by decide +kernel
theorem dX10_go_439 : decode cX10_go 439 = .ok (.sipush 2035, 3) := by decide +kernel
theorem dX10_go_442 : decode cX10_go 442 = .ok (.iload 5, 2) := by decide +kernel
theorem dX10_go_444 : decode cX10_go 444 = .ok (.iadd, 1) := by decide +kernel
theorem dX10_go_445 : decode cX10_go 445 = .ok (.aload_n 0, 1) := by decide +kernel
theorem dX10_go_446 : decode cX10_go 446 = .ok (.getfield 99, 3) := by decide +kernel
theorem dX10_go_449 : decode cX10_go 449 = .ok (.iload 5, 2) := by decide +kernel
theorem dX10_go_451 : decode cX10_go 451 = .ok (.iaload, 1) := by decide +kernel
theorem dX10_go_452 : decode cX10_go 452 = .ok (.iastore, 1) := by decide +kernel
theorem dX10_go_453 : decode cX10_go 453 = .ok (.aload_n 0, 1) := by decide +kernel
theorem dX10_go_454 : decode cX10_go 454 = .ok (.getfield 17, 3) := by decide +kernel
theorem dX10_go_457 : decode cX10_go 457 = .ok (.sipush 2235, 3) := by decide +kernel
theorem dX10_go_460 : decode cX10_go 460 = .ok (.iload 5, 2) := by decide +kernel
theorem dX10_go_462 : decode cX10_go 462 = .ok (.iadd, 1) := by decide +kernel
theorem dX10_go_463 : decode cX10_go 463 = .ok (.aload_n 0, 1) := by decide +kernel
theorem dX10_go_464 : decode cX10_go 464 = .ok (.getfield 102, 3) := by decide +kernel
theorem dX10_go_467 : decode cX10_go 467 = .ok (.iload 5, 2) := by decide +kernel
theorem dX10_go_469 : decode cX10_go 469 = .ok (.iaload, 1) := by decide +kernel
theorem dX10_go_470 : decode cX10_go 470 = .ok (.iastore, 1) := by decide +kernel
theorem dX10_go_471 : decode cX10_go 471 = .ok (.aload_n 0, 1) := by decide +kernel
theorem dX10_go_472 : decode cX10_go 472 = .ok (.getfield 17, 3) := by decide +kernel
theorem dX10_go_475 : decode cX10_go 475 = .ok (.sipush 2435, 3) := by decide +kernel
theorem dX10_go_478 : decode cX10_go 478 = .ok (.iload 5, 2) := by decide +kernel
theorem dX10_go_480 : decode cX10_go 480 = .ok (.iadd, 1) := by decide +kernel
theorem dX10_go_481 : decode cX10_go 481 = .ok (.aload_n 0, 1) := by decide +kernel
theorem dX10_go_482 : decode cX10_go 482 = .ok (.getfield 105, 3) := by decide +kernel
theorem dX10_go_485 : decode cX10_go 485 = .ok (.iload 5, 2) := by decide +kernel
theorem dX10_go_487 : decode cX10_go 487 = .ok (.iaload, 1) := by decide +kernel
theorem dX10_go_488 : decode cX10_go 488 = .ok (.iastore, 1) := by decide +kernel
theorem dX10_go_489 : decode cX10_go 489 = .ok (.iinc 5 1, 3) := by decide +kernel
theorem dX10_go_492 : decode cX10_go 492 = .ok (.goto (-120), 3) := by decide +kernel
theorem dX10_go_495 : decode cX10_go 495 = .ok (.aload_n 0, 1) := by decide +kernel
theorem dX10_go_496 : decode cX10_go 496 = .ok (.getfield 390, 3) := by decide +kernel
theorem dX10_go_499 : decode cX10_go 499 = .ok (.ireturn, 1) := by decide +kernel
theorem dX10_isKept_0 : decode cX10_isKept 0 = .ok (.aload_n 0, 1) := by decide +kernel
theorem dX10_isKept_1 : decode cX10_isKept 1 = .ok (.getfield 17, 3) := by decide +kernel
theorem dX10_isKept_4 : decode cX10_isKept 4 = .ok (.sipush 1125, 3) := by decide +kernel
theorem dX10_isKept_7 : decode cX10_isKept 7 = .ok (.iaload, 1) := by decide +kernel
theorem dX10_isKept_8 : decode cX10_isKept 8 = .ok (.iconst 1, 1) := by decide +kernel
theorem dX10_isKept_9 : decode cX10_isKept 9 = .ok (.if_icmp .ne 7, 3) := by decide +kernel
theorem dX10_isKept_12 : decode cX10_isKept 12 = .ok (.iconst 1, 1) := by decide +kernel
theorem dX10_isKept_13 : decode cX10_isKept 13 = .ok (.goto 4, 3) := by decide +kernel
theorem dX10_isKept_16 : decode cX10_isKept 16 = .ok (.iconst 0, 1) := by decide +kernel
theorem dX10_isKept_17 : decode cX10_isKept 17 = .ok (.ireturn, 1) := by decide +kernel
theorem dX10_broke_0 : decode cX10_broke 0 = .ok (.aload_n 0, 1) := by decide +kernel
theorem dX10_broke_1 : decode cX10_broke 1 = .ok (.iconst 0, 1) := by decide +kernel
theorem dX10_broke_2 : decode cX10_broke 2 = .ok (.putfield 1, 3) := by decide +kernel
theorem dX10_broke_5 : decode cX10_broke 5 = .ok (.iload_n 1, 1) := by decide +kernel
theorem dX10_broke_6 : decode cX10_broke 6 = .ok (.ifCond .lt 34, 3) := by decide +kernel
theorem dX10_broke_9 : decode cX10_broke 9 = .ok (.aload_n 0, 1) := by decide +kernel
theorem dX10_broke_10 : decode cX10_broke 10 = .ok (.invokevirtual 404, 3) := by decide +kernel
theorem dX10_broke_13 : decode cX10_broke 13 = .ok (.ifCond .eq 15, 3) := by decide +kernel
theorem dX10_broke_16 : decode cX10_broke 16 = .ok (.iload_n 1, 1) := by decide +kernel
theorem dX10_broke_17 : decode cX10_broke 17 = .ok (.aload_n 0, 1) := by decide +kernel
theorem dX10_broke_18 : decode cX10_broke 18 = .ok (.getfield 17, 3) := by decide +kernel
theorem dX10_broke_21 : decode cX10_broke 21 = .ok (.sipush 1126, 3) := by decide +kernel
theorem dX10_broke_24 : decode cX10_broke 24 = .ok (.iaload, 1) := by decide +kernel
theorem dX10_broke_25 : decode cX10_broke 25 = .ok (.if_icmp .ge 15, 3) := by decide +kernel
theorem dX10_broke_28 : decode cX10_broke 28 = .ok (.iload_n 2, 1) := by decide +kernel
theorem dX10_broke_29 : decode cX10_broke 29 = .ok (.i2l, 1) := by decide +kernel
theorem dX10_broke_30 : decode cX10_broke 30 = .ok (.lconst 0, 1) := by decide +kernel
theorem dX10_broke_31 : decode cX10_broke 31 = .ok (.ldc2_w 250, 3) := by decide +kernel
theorem dX10_broke_34 : decode cX10_broke 34 = .ok (.invokestatic 193, 3) := by decide +kernel
theorem dX10_broke_37 : decode cX10_broke 37 = .ok (.ifCond .ne 10, 3) := by decide +kernel
theorem dX10_broke_40 : decode cX10_broke 40 = .ok (.aload_n 0, 1) := by decide +kernel
theorem dX10_broke_41 : decode cX10_broke 41 = .ok (.bipush (-2), 2) := by decide +kernel
theorem dX10_broke_43 : decode cX10_broke 43 = .ok (.invokevirtual 131, 3) := by decide +kernel
theorem dX10_broke_46 : decode cX10_broke 46 = .ok (.ireturn, 1) := by decide +kernel
theorem dX10_broke_47 : decode cX10_broke 47 = .ok (.aload_n 0, 1) := by decide +kernel
theorem dX10_broke_48 : decode cX10_broke 48 = .ok (.invokevirtual 404, 3) := by decide +kernel
theorem dX10_broke_51 : decode cX10_broke 51 = .ok (.ifCond .ne 10, 3) := by decide +kernel
theorem dX10_broke_54 : decode cX10_broke 54 = .ok (.aload_n 0, 1) := by decide +kernel
theorem dX10_broke_55 : decode cX10_broke 55 = .ok (.bipush (-5), 2) := by decide +kernel
theorem dX10_broke_57 : decode cX10_broke 57 = .ok (.invokevirtual 131, 3) := by decide +kernel
theorem dX10_broke_60 : decode cX10_broke 60 = .ok (.ireturn, 1) := by decide +kernel
theorem dX10_broke_61 : decode cX10_broke 61 = .ok (.aload_n 0, 1) := by decide +kernel
theorem dX10_broke_62 : decode cX10_broke 62 = .ok (.getfield 17, 3) := by decide +kernel
theorem dX10_broke_65 : decode cX10_broke 65 = .ok (.sipush 1134, 3) := by decide +kernel
theorem dX10_broke_68 : decode cX10_broke 68 = .ok (.bipush 60, 2) := by decide +kernel
theorem dX10_broke_70 : decode cX10_broke 70 = .ok (.iload_n 2, 1) := by decide +kernel
theorem dX10_broke_71 : decode cX10_broke 71 = .ok (.imul, 1) := by decide +kernel
theorem dX10_broke_72 : decode cX10_broke 72 = .ok (.iadd, 1) := by decide +kernel
theorem dX10_broke_73 : decode cX10_broke 73 = .ok (.iload_n 1, 1) := by decide +kernel
theorem dX10_broke_74 : decode cX10_broke 74 = .ok (.iadd, 1) := by decide +kernel
theorem dX10_broke_75 : decode cX10_broke 75 = .ok (.iaload, 1) := by decide +kernel
theorem dX10_broke_76 : decode cX10_broke 76 = .ok (.ireturn, 1) := by decide +kernel
theorem dX10_piece_0 : decode cX10_piece 0 = .ok (.aload_n 0, 1) := by decide +kernel
theorem dX10_piece_1 : decode cX10_piece 1 = .ok (.iconst 0, 1) := by decide +kernel
theorem dX10_piece_2 : decode cX10_piece 2 = .ok (.putfield 1, 3) := by decide +kernel
theorem dX10_piece_5 : decode cX10_piece 5 = .ok (.iload_n 1, 1) := by decide +kernel
theorem dX10_piece_6 : decode cX10_piece 6 = .ok (.ifCond .lt 22, 3) := by decide +kernel
theorem dX10_piece_9 : decode cX10_piece 9 = .ok (.aload_n 0, 1) := by decide +kernel
theorem dX10_piece_10 : decode cX10_piece 10 = .ok (.invokevirtual 404, 3) := by decide +kernel
theorem dX10_piece_13 : decode cX10_piece 13 = .ok (.ifCond .eq 22, 3) := by decide +kernel
theorem dX10_piece_16 : decode cX10_piece 16 = .ok (.iload_n 1, 1) := by decide +kernel
theorem dX10_piece_17 : decode cX10_piece 17 = .ok (.aload_n 0, 1) := by decide +kernel
theorem dX10_piece_18 : decode cX10_piece 18 = .ok (.getfield 17, 3) := by decide +kernel
theorem dX10_piece_21 : decode cX10_piece 21 = .ok (.sipush 1127, 3) := by decide +kernel
theorem dX10_piece_24 : decode cX10_piece 24 = .ok (.iaload, 1) := by decide +kernel
theorem dX10_piece_25 : decode cX10_piece 25 = .ok (.if_icmp .lt 10, 3) := by decide +kernel
theorem dX10_piece_28 : decode cX10_piece 28 = .ok (.aload_n 0, 1) := by decide +kernel
theorem dX10_piece_29 : decode cX10_piece 29 = .ok (.bipush (-2), 2) := by decide +kernel
theorem dX10_piece_31 : decode cX10_piece 31 = .ok (.invokevirtual 131, 3) := by decide +kernel
theorem dX10_piece_34 : decode cX10_piece 34 = .ok (.ireturn, 1) := by decide +kernel
theorem dX10_piece_35 : decode cX10_piece 35 = .ok (.aload_n 0, 1) := by decide +kernel
theorem dX10_piece_36 : decode cX10_piece 36 = .ok (.invokevirtual 404, 3) := by decide +kernel
theorem dX10_piece_39 : decode cX10_piece 39 = .ok (.ifCond .ne 10, 3) := by decide +kernel
theorem dX10_piece_42 : decode cX10_piece 42 = .ok (.aload_n 0, 1) := by decide +kernel
theorem dX10_piece_43 : decode cX10_piece 43 = .ok (.bipush (-5), 2) := by decide +kernel
theorem dX10_piece_45 : decode cX10_piece 45 = .ok (.invokevirtual 131, 3) := by decide +kernel
theorem dX10_piece_48 : decode cX10_piece 48 = .ok (.ireturn, 1) := by decide +kernel
theorem dX10_piece_49 : decode cX10_piece 49 = .ok (.aload_n 0, 1) := by decide +kernel
theorem dX10_piece_50 : decode cX10_piece 50 = .ok (.getfield 17, 3) := by decide +kernel
theorem dX10_piece_53 : decode cX10_piece 53 = .ok (.sipush 1374, 3) := by decide +kernel
theorem dX10_piece_56 : decode cX10_piece 56 = .ok (.iload_n 1, 1) := by decide +kernel
theorem dX10_piece_57 : decode cX10_piece 57 = .ok (.iadd, 1) := by decide +kernel
theorem dX10_piece_58 : decode cX10_piece 58 = .ok (.iaload, 1) := by decide +kernel
theorem dX10_piece_59 : decode cX10_piece 59 = .ok (.ireturn, 1) := by decide +kernel
theorem dX10_wave_0 : decode cX10_wave 0 = .ok (.aload_n 0, 1) := by decide +kernel
theorem dX10_wave_1 : decode cX10_wave 1 = .ok (.iconst 0, 1) := by decide +kernel
theorem dX10_wave_2 : decode cX10_wave 2 = .ok (.putfield 1, 3) := by decide +kernel
theorem dX10_wave_5 : decode cX10_wave 5 = .ok (.iload_n 1, 1) := by decide +kernel
theorem dX10_wave_6 : decode cX10_wave 6 = .ok (.ifCond .lt 34, 3) := by decide +kernel
theorem dX10_wave_9 : decode cX10_wave 9 = .ok (.aload_n 0, 1) := by decide +kernel
theorem dX10_wave_10 : decode cX10_wave 10 = .ok (.invokevirtual 404, 3) := by decide +kernel
theorem dX10_wave_13 : decode cX10_wave 13 = .ok (.ifCond .eq 15, 3) := by decide +kernel
theorem dX10_wave_16 : decode cX10_wave 16 = .ok (.iload_n 1, 1) := by decide +kernel
theorem dX10_wave_17 : decode cX10_wave 17 = .ok (.aload_n 0, 1) := by decide +kernel
theorem dX10_wave_18 : decode cX10_wave 18 = .ok (.getfield 17, 3) := by decide +kernel
theorem dX10_wave_21 : decode cX10_wave 21 = .ok (.sipush 1128, 3) := by decide +kernel
theorem dX10_wave_24 : decode cX10_wave 24 = .ok (.iaload, 1) := by decide +kernel
theorem dX10_wave_25 : decode cX10_wave 25 = .ok (.if_icmp .ge 15, 3) := by decide +kernel
theorem dX10_wave_28 : decode cX10_wave 28 = .ok (.iload_n 2, 1) := by decide +kernel
theorem dX10_wave_29 : decode cX10_wave 29 = .ok (.i2l, 1) := by decide +kernel
theorem dX10_wave_30 : decode cX10_wave 30 = .ok (.lconst 0, 1) := by decide +kernel
theorem dX10_wave_31 : decode cX10_wave 31 = .ok (.ldc2_w 407, 3) := by decide +kernel
theorem dX10_wave_34 : decode cX10_wave 34 = .ok (.invokestatic 193, 3) := by decide +kernel
theorem dX10_wave_37 : decode cX10_wave 37 = .ok (.ifCond .ne 10, 3) := by decide +kernel
theorem dX10_wave_40 : decode cX10_wave 40 = .ok (.aload_n 0, 1) := by decide +kernel
theorem dX10_wave_41 : decode cX10_wave 41 = .ok (.bipush (-2), 2) := by decide +kernel
theorem dX10_wave_43 : decode cX10_wave 43 = .ok (.invokevirtual 131, 3) := by decide +kernel
theorem dX10_wave_46 : decode cX10_wave 46 = .ok (.ireturn, 1) := by decide +kernel
theorem dX10_wave_47 : decode cX10_wave 47 = .ok (.aload_n 0, 1) := by decide +kernel
theorem dX10_wave_48 : decode cX10_wave 48 = .ok (.invokevirtual 404, 3) := by decide +kernel
theorem dX10_wave_51 : decode cX10_wave 51 = .ok (.ifCond .ne 10, 3) := by decide +kernel
theorem dX10_wave_54 : decode cX10_wave 54 = .ok (.aload_n 0, 1) := by decide +kernel
theorem dX10_wave_55 : decode cX10_wave 55 = .ok (.bipush (-5), 2) := by decide +kernel
theorem dX10_wave_57 : decode cX10_wave 57 = .ok (.invokevirtual 131, 3) := by decide +kernel
theorem dX10_wave_60 : decode cX10_wave 60 = .ok (.ireturn, 1) := by decide +kernel
theorem dX10_wave_61 : decode cX10_wave 61 = .ok (.aload_n 0, 1) := by decide +kernel
theorem dX10_wave_62 : decode cX10_wave 62 = .ok (.getfield 17, 3) := by decide +kernel
theorem dX10_wave_65 : decode cX10_wave 65 = .ok (.sipush 1435, 3) := by decide +kernel
theorem dX10_wave_68 : decode cX10_wave 68 = .ok (.sipush 200, 3) := by decide +kernel
theorem dX10_wave_71 : decode cX10_wave 71 = .ok (.iload_n 2, 1) := by decide +kernel
theorem dX10_wave_72 : decode cX10_wave 72 = .ok (.imul, 1) := by decide +kernel
theorem dX10_wave_73 : decode cX10_wave 73 = .ok (.iadd, 1) := by decide +kernel
theorem dX10_wave_74 : decode cX10_wave 74 = .ok (.iload_n 1, 1) := by decide +kernel
theorem dX10_wave_75 : decode cX10_wave 75 = .ok (.iadd, 1) := by decide +kernel
theorem dX10_wave_76 : decode cX10_wave 76 = .ok (.iaload, 1) := by decide +kernel
theorem dX10_wave_77 : decode cX10_wave 77 = .ok (.ireturn, 1) := by decide +kernel
theorem dX10_run_0 : decode cX10_run 0 = .ok (.aload_n 0, 1) := by decide +kernel
theorem dX10_run_1 : decode cX10_run 1 = .ok (.iconst 0, 1) := by decide +kernel
theorem dX10_run_2 : decode cX10_run 2 = .ok (.putfield 1, 3) := by decide +kernel
theorem dX10_run_5 : decode cX10_run 5 = .ok (.iload_n 1, 1) := by decide +kernel
theorem dX10_run_6 : decode cX10_run 6 = .ok (.i2l, 1) := by decide +kernel
theorem dX10_run_7 : decode cX10_run 7 = .ok (.lconst 0, 1) := by decide +kernel
theorem dX10_run_8 : decode cX10_run 8 = .ok (.ldc2_w 409, 3) := by decide +kernel
theorem dX10_run_11 : decode cX10_run 11 = .ok (.invokestatic 193, 3) := by decide +kernel
theorem dX10_run_14 : decode cX10_run 14 = .ok (.ifCond .ne 10, 3) := by decide +kernel
theorem dX10_run_17 : decode cX10_run 17 = .ok (.aload_n 0, 1) := by decide +kernel
theorem dX10_run_18 : decode cX10_run 18 = .ok (.bipush (-2), 2) := by decide +kernel
theorem dX10_run_20 : decode cX10_run 20 = .ok (.invokevirtual 131, 3) := by decide +kernel
theorem dX10_run_23 : decode cX10_run 23 = .ok (.ireturn, 1) := by decide +kernel
theorem dX10_run_24 : decode cX10_run 24 = .ok (.aload_n 0, 1) := by decide +kernel
theorem dX10_run_25 : decode cX10_run 25 = .ok (.invokevirtual 404, 3) := by decide +kernel
theorem dX10_run_28 : decode cX10_run 28 = .ok (.ifCond .ne 10, 3) := by decide +kernel
theorem dX10_run_31 : decode cX10_run 31 = .ok (.aload_n 0, 1) := by decide +kernel
theorem dX10_run_32 : decode cX10_run 32 = .ok (.bipush (-5), 2) := by decide +kernel
theorem dX10_run_34 : decode cX10_run 34 = .ok (.invokevirtual 131, 3) := by decide +kernel
theorem dX10_run_37 : decode cX10_run 37 = .ok (.ireturn, 1) := by decide +kernel
theorem dX10_run_38 : decode cX10_run 38 = .ok (.aload_n 0, 1) := by decide +kernel
theorem dX10_run_39 : decode cX10_run 39 = .ok (.getfield 17, 3) := by decide +kernel
theorem dX10_run_42 : decode cX10_run 42 = .ok (.sipush 1126, 3) := by decide +kernel
theorem dX10_run_45 : decode cX10_run 45 = .ok (.iload_n 1, 1) := by decide +kernel
theorem dX10_run_46 : decode cX10_run 46 = .ok (.iadd, 1) := by decide +kernel
theorem dX10_run_47 : decode cX10_run 47 = .ok (.iaload, 1) := by decide +kernel
theorem dX10_run_48 : decode cX10_run 48 = .ok (.ireturn, 1) := by decide +kernel
theorem dX10_why_0 : decode cX10_why 0 = .ok (.aload_n 0, 1) := by decide +kernel
theorem dX10_why_1 : decode cX10_why 1 = .ok (.iconst 0, 1) := by decide +kernel
theorem dX10_why_2 : decode cX10_why 2 = .ok (.putfield 1, 3) := by decide +kernel
theorem dX10_why_5 : decode cX10_why 5 = .ok (.aload_n 0, 1) := by decide +kernel
theorem dX10_why_6 : decode cX10_why 6 = .ok (.invokevirtual 404, 3) := by decide +kernel
theorem dX10_why_9 : decode cX10_why 9 = .ok (.ifCond .ne 10, 3) := by decide +kernel
theorem dX10_why_12 : decode cX10_why 12 = .ok (.aload_n 0, 1) := by decide +kernel
theorem dX10_why_13 : decode cX10_why 13 = .ok (.bipush (-5), 2) := by decide +kernel
theorem dX10_why_15 : decode cX10_why 15 = .ok (.invokevirtual 131, 3) := by decide +kernel
theorem dX10_why_18 : decode cX10_why 18 = .ok (.ireturn, 1) := by decide +kernel
theorem dX10_why_19 : decode cX10_why 19 = .ok (.aload_n 0, 1) := by decide +kernel
theorem dX10_why_20 : decode cX10_why 20 = .ok (.getfield 17, 3) := by decide +kernel
theorem dX10_why_23 : decode cX10_why 23 = .ok (.sipush 2635, 3) := by decide +kernel
theorem dX10_why_26 : decode cX10_why 26 = .ok (.iaload, 1) := by decide +kernel
theorem dX10_why_27 : decode cX10_why 27 = .ok (.ireturn, 1) := by decide +kernel
theorem dX10_film_0 : decode cX10_film 0 = .ok (.aload_n 0, 1) := by decide +kernel
theorem dX10_film_1 : decode cX10_film 1 = .ok (.iconst 0, 1) := by decide +kernel
theorem dX10_film_2 : decode cX10_film 2 = .ok (.putfield 1, 3) := by decide +kernel
theorem dX10_film_5 : decode cX10_film 5 = .ok (.iload_n 1, 1) := by decide +kernel
theorem dX10_film_6 : decode cX10_film 6 = .ok (.i2l, 1) := by decide +kernel
theorem dX10_film_7 : decode cX10_film 7 = .ok (.lconst 0, 1) := by decide +kernel
theorem dX10_film_8 : decode cX10_film 8 = .ok (.ldc2_w 250, 3) := by decide +kernel
theorem dX10_film_11 : decode cX10_film 11 = .ok (.invokestatic 193, 3) := by decide +kernel
theorem dX10_film_14 : decode cX10_film 14 = .ok (.ifCond .ne 10, 3) := by decide +kernel
theorem dX10_film_17 : decode cX10_film 17 = .ok (.aload_n 0, 1) := by decide +kernel
theorem dX10_film_18 : decode cX10_film 18 = .ok (.bipush (-2), 2) := by decide +kernel
theorem dX10_film_20 : decode cX10_film 20 = .ok (.invokevirtual 131, 3) := by decide +kernel
theorem dX10_film_23 : decode cX10_film 23 = .ok (.ireturn, 1) := by decide +kernel
theorem dX10_film_24 : decode cX10_film 24 = .ok (.aload_n 0, 1) := by decide +kernel
theorem dX10_film_25 : decode cX10_film 25 = .ok (.invokevirtual 404, 3) := by decide +kernel
theorem dX10_film_28 : decode cX10_film 28 = .ok (.ifCond .ne 10, 3) := by decide +kernel
theorem dX10_film_31 : decode cX10_film 31 = .ok (.aload_n 0, 1) := by decide +kernel
theorem dX10_film_32 : decode cX10_film 32 = .ok (.bipush (-5), 2) := by decide +kernel
theorem dX10_film_34 : decode cX10_film 34 = .ok (.invokevirtual 131, 3) := by decide +kernel
theorem dX10_film_37 : decode cX10_film 37 = .ok (.ireturn, 1) := by decide +kernel
theorem dX10_film_38 : decode cX10_film 38 = .ok (.aload_n 0, 1) := by decide +kernel
theorem dX10_film_39 : decode cX10_film 39 = .ok (.getfield 114, 3) := by decide +kernel
theorem dX10_film_42 : decode cX10_film 42 = .ok (.iload_n 1, 1) := by decide +kernel
theorem dX10_film_43 : decode cX10_film 43 = .ok (.iaload, 1) := by decide +kernel
theorem dX10_film_44 : decode cX10_film 44 = .ok (.iconst (-1), 1) := by decide +kernel
theorem dX10_film_45 : decode cX10_film 45 = .ok (.if_icmp .ne 10, 3) := by decide +kernel
theorem dX10_film_48 : decode cX10_film 48 = .ok (.aload_n 0, 1) := by decide +kernel
theorem dX10_film_49 : decode cX10_film 49 = .ok (.bipush (-6), 2) := by decide +kernel
theorem dX10_film_51 : decode cX10_film 51 = .ok (.invokevirtual 131, 3) := by decide +kernel
theorem dX10_film_54 : decode cX10_film 54 = .ok (.ireturn, 1) := by decide +kernel
theorem dX10_film_55 : decode cX10_film 55 = .ok (.iconst 0, 1) := by decide +kernel
theorem dX10_film_56 : decode cX10_film 56 = .ok (.istore_n 2, 1) := by decide +kernel
theorem dX10_film_57 : decode cX10_film 57 = .ok (.iload_n 2, 1) := by decide +kernel
theorem dX10_film_58 : decode cX10_film 58 = .ok (.aload_n 0, 1) := by decide +kernel
theorem dX10_film_59 : decode cX10_film 59 = .ok (.getfield 117, 3) := by decide +kernel
theorem dX10_film_62 : decode cX10_film 62 = .ok (.iload_n 1, 1) := by decide +kernel
theorem dX10_film_63 : decode cX10_film 63 = .ok (.iaload, 1) := by decide +kernel
theorem dX10_film_64 : decode cX10_film 64 = .ok (.if_icmp .ge 25, 3) := by decide +kernel
theorem dX10_film_67 : decode cX10_film 67 = .ok (.aload_n 0, 1) := by decide +kernel
theorem dX10_film_68 : decode cX10_film 68 = .ok (.getfield 120, 3) := by decide +kernel
theorem dX10_film_71 : decode cX10_film 71 = .ok (.bipush 60, 2) := by decide +kernel
theorem dX10_film_73 : decode cX10_film 73 = .ok (.iload_n 1, 1) := by decide +kernel
theorem dX10_film_74 : decode cX10_film 74 = .ok (.imul, 1) := by decide +kernel
theorem dX10_film_75 : decode cX10_film 75 = .ok (.iload_n 2, 1) := by decide +kernel
theorem dX10_film_76 : decode cX10_film 76 = .ok (.iadd, 1) := by decide +kernel
theorem dX10_film_77 : decode cX10_film 77 = .ok (.laload, 1) := by decide +kernel
theorem dX10_film_78 : decode cX10_film 78 = .ok (.lconst 0, 1) := by decide +kernel
theorem dX10_film_79 : decode cX10_film 79 = .ok (.lcmp, 1) := by decide +kernel
theorem dX10_film_80 : decode cX10_film 80 = .ok (.ifCond .lt 9, 3) := by decide +kernel
theorem dX10_film_83 : decode cX10_film 83 = .ok (.iinc 2 1, 3) := by decide +kernel
theorem dX10_film_86 : decode cX10_film 86 = .ok (.goto (-29), 3) := by decide +kernel
theorem dX10_film_89 : decode cX10_film 89 = .ok (.iload_n 2, 1) := by decide +kernel
theorem dX10_film_90 : decode cX10_film 90 = .ok (.aload_n 0, 1) := by decide +kernel
theorem dX10_film_91 : decode cX10_film 91 = .ok (.getfield 17, 3) := by decide +kernel
theorem dX10_film_94 : decode cX10_film 94 = .ok (.sipush 1126, 3) := by decide +kernel
theorem dX10_film_97 : decode cX10_film 97 = .ok (.iaload, 1) := by decide +kernel
theorem dX10_film_98 : decode cX10_film 98 = .ok (.if_icmp .ne 7, 3) := by decide +kernel
theorem dX10_film_101 : decode cX10_film 101 = .ok (.iconst 1, 1) := by decide +kernel
theorem dX10_film_102 : decode cX10_film 102 = .ok (.goto 4, 3) := by decide +kernel
theorem dX10_film_105 : decode cX10_film 105 = .ok (.iconst 0, 1) := by decide +kernel
theorem dX10_film_106 : decode cX10_film 106 = .ok (.istore_n 3, 1) := by decide +kernel
theorem dX10_film_107 : decode cX10_film 107 = .ok (.iconst 0, 1) := by decide +kernel
theorem dX10_film_108 : decode cX10_film 108 = .ok (.istore 4, 2) := by decide +kernel
theorem dX10_film_110 : decode cX10_film 110 = .ok (.iload 4, 2) := by decide +kernel
theorem dX10_film_112 : decode cX10_film 112 = .ok (.iload_n 2, 1) := by decide +kernel
theorem dX10_film_113 : decode cX10_film 113 = .ok (.if_icmp .ge 47, 3) := by decide +kernel
theorem dX10_film_116 : decode cX10_film 116 = .ok (.iload_n 3, 1) := by decide +kernel
theorem dX10_film_117 : decode cX10_film 117 = .ok (.ifCond .eq 43, 3) := by decide +kernel
theorem dX10_film_120 : decode cX10_film 120 = .ok (.aload_n 0, 1) := by decide +kernel
theorem dX10_film_121 : decode cX10_film 121 = .ok (.getfield 120, 3) := by decide +kernel
theorem dX10_film_124 : decode cX10_film 124 = .ok (.bipush 60, 2) := by decide +kernel
theorem dX10_film_126 : decode cX10_film 126 = .ok (.iload_n 1, 1) := by decide +kernel
theorem dX10_film_127 : decode cX10_film 127 = .ok (.imul, 1) := by decide +kernel
theorem dX10_film_128 : decode cX10_film 128 = .ok (.iload 4, 2) := by decide +kernel
theorem dX10_film_130 : decode cX10_film 130 = .ok (.iadd, 1) := by decide +kernel
theorem dX10_film_131 : decode cX10_film 131 = .ok (.laload, 1) := by decide +kernel
theorem dX10_film_132 : decode cX10_film 132 = .ok (.aload_n 0, 1) := by decide +kernel
theorem dX10_film_133 : decode cX10_film 133 = .ok (.getfield 17, 3) := by decide +kernel
theorem dX10_film_136 : decode cX10_film 136 = .ok (.sipush 1194, 3) := by decide +kernel
theorem dX10_film_139 : decode cX10_film 139 = .ok (.iload 4, 2) := by decide +kernel
theorem dX10_film_141 : decode cX10_film 141 = .ok (.iadd, 1) := by decide +kernel
theorem dX10_film_142 : decode cX10_film 142 = .ok (.iaload, 1) := by decide +kernel
theorem dX10_film_143 : decode cX10_film 143 = .ok (.i2l, 1) := by decide +kernel
theorem dX10_film_144 : decode cX10_film 144 = .ok (.lcmp, 1) := by decide +kernel
theorem dX10_film_145 : decode cX10_film 145 = .ok (.ifCond .ne 7, 3) := by decide +kernel
theorem dX10_film_148 : decode cX10_film 148 = .ok (.iconst 1, 1) := by decide +kernel
theorem dX10_film_149 : decode cX10_film 149 = .ok (.goto 4, 3) := by decide +kernel
theorem dX10_film_152 : decode cX10_film 152 = .ok (.iconst 0, 1) := by decide +kernel
theorem dX10_film_153 : decode cX10_film 153 = .ok (.istore_n 3, 1) := by decide +kernel
theorem dX10_film_154 : decode cX10_film 154 = .ok (.iinc 4 1, 3) := by decide +kernel
theorem dX10_film_157 : decode cX10_film 157 = .ok (.goto (-47), 3) := by decide +kernel
theorem dX10_film_160 : decode cX10_film 160 = .ok (.iload_n 3, 1) := by decide +kernel
theorem dX10_film_161 : decode cX10_film 161 = .ok (.ifCond .eq 7, 3) := by decide +kernel
theorem dX10_film_164 : decode cX10_film 164 = .ok (.iconst 1, 1) := by decide +kernel
theorem dX10_film_165 : decode cX10_film 165 = .ok (.goto 4, 3) := by decide +kernel
theorem dX10_film_168 : decode cX10_film 168 = .ok (.iconst 0, 1) := by decide +kernel
theorem dX10_film_169 : decode cX10_film 169 = .ok (.ireturn, 1) := by decide +kernel
theorem dX10_beyond_0 : decode cX10_beyond 0 = .ok (.aload_n 0, 1) := by decide +kernel
theorem dX10_beyond_1 : decode cX10_beyond 1 = .ok (.iconst 0, 1) := by decide +kernel
theorem dX10_beyond_2 : decode cX10_beyond 2 = .ok (.putfield 1, 3) := by decide +kernel
theorem dX10_beyond_5 : decode cX10_beyond 5 = .ok (.aload_n 0, 1) := by decide +kernel
theorem dX10_beyond_6 : decode cX10_beyond 6 = .ok (.iload_n 1, 1) := by decide +kernel
theorem dX10_beyond_7 : decode cX10_beyond 7 = .ok (.iload_n 2, 1) := by decide +kernel
theorem dX10_beyond_8 : decode cX10_beyond 8 = .ok (.invokevirtual 396, 3) := by decide +kernel
theorem dX10_beyond_11 : decode cX10_beyond 11 = .ok (.ifCond .eq 16, 3) := by decide +kernel
theorem dX10_beyond_14 : decode cX10_beyond 14 = .ok (.iload 4, 2) := by decide +kernel
theorem dX10_beyond_16 : decode cX10_beyond 16 = .ok (.i2l, 1) := by decide +kernel
theorem dX10_beyond_17 : decode cX10_beyond 17 = .ok (.lconst 0, 1) := by decide +kernel
theorem dX10_beyond_18 : decode cX10_beyond 18 = .ok (.ldc2_w 411, 3) := by decide +kernel
theorem dX10_beyond_21 : decode cX10_beyond 21 = .ok (.invokestatic 193, 3) := by decide +kernel
theorem dX10_beyond_24 : decode cX10_beyond 24 = .ok (.ifCond .ne 10, 3) := by decide +kernel
theorem dX10_beyond_27 : decode cX10_beyond 27 = .ok (.aload_n 0, 1) := by decide +kernel
theorem dX10_beyond_28 : decode cX10_beyond 28 = .ok (.bipush (-2), 2) := by decide +kernel
theorem dX10_beyond_30 : decode cX10_beyond 30 = .ok (.invokevirtual 131, 3) := by decide +kernel
theorem dX10_beyond_33 : decode cX10_beyond 33 = .ok (.ireturn, 1) := by decide +kernel
theorem dX10_beyond_34 : decode cX10_beyond 34 = .ok (.aload_n 0, 1) := by decide +kernel
theorem dX10_beyond_35 : decode cX10_beyond 35 = .ok (.iconst 1, 1) := by decide +kernel
theorem dX10_beyond_36 : decode cX10_beyond 36 = .ok (.putfield 346, 3) := by decide +kernel
theorem dX10_beyond_39 : decode cX10_beyond 39 = .ok (.aload_n 0, 1) := by decide +kernel
theorem dX10_beyond_40 : decode cX10_beyond 40 = .ok (.iload_n 1, 1) := by decide +kernel
theorem dX10_beyond_41 : decode cX10_beyond 41 = .ok (.iload_n 2, 1) := by decide +kernel
theorem dX10_beyond_42 : decode cX10_beyond 42 = .ok (.iload_n 3, 1) := by decide +kernel
theorem dX10_beyond_43 : decode cX10_beyond 43 = .ok (.iconst 1, 1) := by decide +kernel
theorem dX10_beyond_44 : decode cX10_beyond 44 = .ok (.iconst (-1), 1) := by decide +kernel
theorem dX10_beyond_45 : decode cX10_beyond 45 = .ok (.invokevirtual 400, 3) := by decide +kernel
theorem dX10_beyond_48 : decode cX10_beyond 48 = .ok (.pop, 1) := by decide +kernel
theorem dX10_beyond_49 : decode cX10_beyond 49 = .ok (.aload_n 0, 1) := by decide +kernel
theorem dX10_beyond_50 : decode cX10_beyond 50 = .ok (.iconst 0, 1) := by decide +kernel
theorem dX10_beyond_51 : decode cX10_beyond 51 = .ok (.putfield 346, 3) := by decide +kernel
theorem dX10_beyond_54 : decode cX10_beyond 54 = .ok (.aload_n 0, 1) := by decide +kernel
theorem dX10_beyond_55 : decode cX10_beyond 55 = .ok (.getfield 359, 3) := by decide +kernel
theorem dX10_beyond_58 : decode cX10_beyond 58 = .ok (.iconst (-1), 1) := by decide +kernel
theorem dX10_beyond_59 : decode cX10_beyond 59 = .ok (.if_icmp .ne 17, 3) := by decide +kernel
theorem dX10_beyond_62 : decode cX10_beyond 62 = .ok (.iload 4, 2) := by decide +kernel
theorem dX10_beyond_64 : decode cX10_beyond 64 = .ok (.iconst 2, 1) := by decide +kernel
theorem dX10_beyond_65 : decode cX10_beyond 65 = .ok (.if_icmp .ne 9, 3) := by decide +kernel
theorem dX10_beyond_68 : decode cX10_beyond 68 = .ok (.ldc_w 413, 3) := by decide +kernel
theorem dX10_beyond_71 : decode cX10_beyond 71 = .ok (.goto 4, 3) := by decide +kernel
theorem dX10_beyond_74 : decode cX10_beyond 74 = .ok (.iconst (-1), 1) := by decide +kernel
theorem dX10_beyond_75 : decode cX10_beyond 75 = .ok (.ireturn, 1) := by decide +kernel
theorem dX10_beyond_76 : decode cX10_beyond 76 = .ok (.iload 4, 2) := by decide +kernel
theorem dX10_beyond_78 : decode cX10_beyond 78 = .ok (.ifCond .ne 10, 3) := by decide +kernel
theorem dX10_beyond_81 : decode cX10_beyond 81 = .ok (.aload_n 0, 1) := by decide +kernel
theorem dX10_beyond_82 : decode cX10_beyond 82 = .ok (.getfield 362, 3) := by decide +kernel
theorem dX10_beyond_85 : decode cX10_beyond 85 = .ok (.goto 20, 3) := by decide +kernel
theorem dX10_beyond_88 : decode cX10_beyond 88 = .ok (.iload 4, 2) := by decide +kernel
theorem dX10_beyond_90 : decode cX10_beyond 90 = .ok (.iconst 1, 1) := by decide +kernel
theorem dX10_beyond_91 : decode cX10_beyond 91 = .ok (.if_icmp .ne 10, 3) := by decide +kernel
theorem dX10_beyond_94 : decode cX10_beyond 94 = .ok (.aload_n 0, 1) := by decide +kernel
theorem dX10_beyond_95 : decode cX10_beyond 95 = .ok (.getfield 359, 3) := by decide +kernel
theorem dX10_beyond_98 : decode cX10_beyond 98 = .ok (.goto 7, 3) := by decide +kernel
theorem dX10_beyond_101 : decode cX10_beyond 101 = .ok (.aload_n 0, 1) := by decide +kernel
theorem dX10_beyond_102 : decode cX10_beyond 102 = .ok (.getfield 365, 3) := by decide +kernel
theorem dX10_beyond_105 : decode cX10_beyond 105 = .ok (.ireturn, 1) := by decide +kernel
theorem dX10_odds_0 : decode cX10_odds 0 = .ok (.aload_n 0, 1) := by decide +kernel
theorem dX10_odds_1 : decode cX10_odds 1 = .ok (.iconst 0, 1) := by decide +kernel
theorem dX10_odds_2 : decode cX10_odds 2 = .ok (.putfield 1, 3) := by decide +kernel
theorem dX10_odds_5 : decode cX10_odds 5 = .ok (.aload_n 0, 1) := by decide +kernel
theorem dX10_odds_6 : decode cX10_odds 6 = .ok (.iload_n 1, 1) := by decide +kernel
theorem dX10_odds_7 : decode cX10_odds 7 = .ok (.iload_n 2, 1) := by decide +kernel
theorem dX10_odds_8 : decode cX10_odds 8 = .ok (.invokevirtual 396, 3) := by decide +kernel
theorem dX10_odds_11 : decode cX10_odds 11 = .ok (.ifCond .ne 10, 3) := by decide +kernel
theorem dX10_odds_14 : decode cX10_odds 14 = .ok (.aload_n 0, 1) := by decide +kernel
theorem dX10_odds_15 : decode cX10_odds 15 = .ok (.bipush (-2), 2) := by decide +kernel
theorem dX10_odds_17 : decode cX10_odds 17 = .ok (.invokevirtual 131, 3) := by decide +kernel
theorem dX10_odds_20 : decode cX10_odds 20 = .ok (.ireturn, 1) := by decide +kernel
theorem dX10_odds_21 : decode cX10_odds 21 = .ok (.iload_n 3, 1) := by decide +kernel
theorem dX10_odds_22 : decode cX10_odds 22 = .ok (.i2l, 1) := by decide +kernel
theorem dX10_odds_23 : decode cX10_odds 23 = .ok (.lconst 1, 1) := by decide +kernel
theorem dX10_odds_24 : decode cX10_odds 24 = .ok (.ldc2_w 280, 3) := by decide +kernel
theorem dX10_odds_27 : decode cX10_odds 27 = .ok (.invokestatic 193, 3) := by decide +kernel
theorem dX10_odds_30 : decode cX10_odds 30 = .ok (.ifCond .eq 16, 3) := by decide +kernel
theorem dX10_odds_33 : decode cX10_odds 33 = .ok (.iload 4, 2) := by decide +kernel
theorem dX10_odds_35 : decode cX10_odds 35 = .ok (.i2l, 1) := by decide +kernel
theorem dX10_odds_36 : decode cX10_odds 36 = .ok (.lconst 1, 1) := by decide +kernel
theorem dX10_odds_37 : decode cX10_odds 37 = .ok (.ldc2_w 323, 3) := by decide +kernel
theorem dX10_odds_40 : decode cX10_odds 40 = .ok (.invokestatic 193, 3) := by decide +kernel
theorem dX10_odds_43 : decode cX10_odds 43 = .ok (.ifCond .ne 10, 3) := by decide +kernel
theorem dX10_odds_46 : decode cX10_odds 46 = .ok (.aload_n 0, 1) := by decide +kernel
theorem dX10_odds_47 : decode cX10_odds 47 = .ok (.bipush (-3), 2) := by decide +kernel
theorem dX10_odds_49 : decode cX10_odds 49 = .ok (.invokevirtual 131, 3) := by decide +kernel
theorem dX10_odds_52 : decode cX10_odds 52 = .ok (.ireturn, 1) := by decide +kernel
theorem dX10_odds_53 : decode cX10_odds 53 = .ok (.iconst 0, 1) := by decide +kernel
theorem dX10_odds_54 : decode cX10_odds 54 = .ok (.istore 5, 2) := by decide +kernel
theorem dX10_odds_56 : decode cX10_odds 56 = .ok (.iconst 1, 1) := by decide +kernel
theorem dX10_odds_57 : decode cX10_odds 57 = .ok (.istore 6, 2) := by decide +kernel
theorem dX10_odds_59 : decode cX10_odds 59 = .ok (.iload 6, 2) := by decide +kernel
theorem dX10_odds_61 : decode cX10_odds 61 = .ok (.iload 4, 2) := by decide +kernel
theorem dX10_odds_63 : decode cX10_odds 63 = .ok (.if_icmp .gt 48, 3) := by decide +kernel
theorem dX10_odds_66 : decode cX10_odds 66 = .ok (.aload_n 0, 1) := by decide +kernel
theorem dX10_odds_67 : decode cX10_odds 67 = .ok (.iload_n 1, 1) := by decide +kernel
theorem dX10_odds_68 : decode cX10_odds 68 = .ok (.iload_n 2, 1) := by decide +kernel
theorem dX10_odds_69 : decode cX10_odds 69 = .ok (.iload 6, 2) := by decide +kernel
theorem dX10_odds_71 : decode cX10_odds 71 = .ok (.iconst 1, 1) := by decide +kernel
theorem dX10_odds_72 : decode cX10_odds 72 = .ok (.iconst (-1), 1) := by decide +kernel
theorem dX10_odds_73 : decode cX10_odds 73 = .ok (.invokevirtual 400, 3) := by decide +kernel
theorem dX10_odds_76 : decode cX10_odds 76 = .ok (.istore 7, 2) := by decide +kernel
theorem dX10_odds_78 : decode cX10_odds 78 = .ok (.iload 5, 2) := by decide +kernel
theorem dX10_odds_80 : decode cX10_odds 80 = .ok (.iload 7, 2) := by decide +kernel
theorem dX10_odds_82 : decode cX10_odds 82 = .ok (.iload_n 3, 1) := by decide +kernel
theorem dX10_odds_83 : decode cX10_odds 83 = .ok (.if_icmp .eq 14, 3) := by decide +kernel
theorem dX10_odds_86 : decode cX10_odds 86 = .ok (.iload_n 3, 1) := by decide +kernel
theorem dX10_odds_87 : decode cX10_odds 87 = .ok (.iconst 4, 1) := by decide +kernel
theorem dX10_odds_88 : decode cX10_odds 88 = .ok (.if_icmp .ne 13, 3) := by decide +kernel
theorem dX10_odds_91 : decode cX10_odds 91 = .ok (.iload 7, 2) := by decide +kernel
theorem dX10_odds_93 : decode cX10_odds 93 = .ok (.iconst 4, 1) := by decide +kernel
theorem dX10_odds_94 : decode cX10_odds 94 = .ok (.if_icmp .le 7, 3) := by decide +kernel
theorem dX10_odds_97 : decode cX10_odds 97 = .ok (.iconst 1, 1) := by decide +kernel
theorem dX10_odds_98 : decode cX10_odds 98 = .ok (.goto 4, 3) := by decide +kernel
theorem dX10_odds_101 : decode cX10_odds 101 = .ok (.iconst 0, 1) := by decide +kernel
theorem dX10_odds_102 : decode cX10_odds 102 = .ok (.iadd, 1) := by decide +kernel
theorem dX10_odds_103 : decode cX10_odds 103 = .ok (.istore 5, 2) := by decide +kernel
theorem dX10_odds_105 : decode cX10_odds 105 = .ok (.iinc 6 1, 3) := by decide +kernel
theorem dX10_odds_108 : decode cX10_odds 108 = .ok (.goto (-49), 3) := by decide +kernel
theorem dX10_odds_111 : decode cX10_odds 111 = .ok (.iload 5, 2) := by decide +kernel
theorem dX10_odds_113 : decode cX10_odds 113 = .ok (.ireturn, 1) := by decide +kernel
theorem dX10_isCell_0 : decode cX10_isCell 0 = .ok (.iload_n 2, 1) := by decide +kernel
theorem dX10_isCell_1 : decode cX10_isCell 1 = .ok (.i2l, 1) := by decide +kernel
theorem dX10_isCell_2 : decode cX10_isCell 2 = .ok (.lconst 0, 1) := by decide +kernel
theorem dX10_isCell_3 : decode cX10_isCell 3 = .ok (.aload_n 0, 1) := by decide +kernel
theorem dX10_isCell_4 : decode cX10_isCell 4 = .ok (.getfield 17, 3) := by decide +kernel
theorem dX10_isCell_7 : decode cX10_isCell 7 = .ok (.sipush 242, 3) := by decide +kernel
theorem dX10_isCell_10 : decode cX10_isCell 10 = .ok (.iload_n 1, 1) := by decide +kernel
theorem dX10_isCell_11 : decode cX10_isCell 11 = .ok (.imul, 1) := by decide +kernel
theorem dX10_isCell_12 : decode cX10_isCell 12 = .ok (.iconst 0, 1) := by decide +kernel
theorem dX10_isCell_13 : decode cX10_isCell 13 = .ok (.iadd, 1) := by decide +kernel
theorem dX10_isCell_14 : decode cX10_isCell 14 = .ok (.iaload, 1) := by decide +kernel
theorem dX10_isCell_15 : decode cX10_isCell 15 = .ok (.iconst 1, 1) := by decide +kernel
theorem dX10_isCell_16 : decode cX10_isCell 16 = .ok (.isub, 1) := by decide +kernel
theorem dX10_isCell_17 : decode cX10_isCell 17 = .ok (.i2l, 1) := by decide +kernel
theorem dX10_isCell_18 : decode cX10_isCell 18 = .ok (.invokestatic 193, 3) := by decide +kernel
theorem dX10_isCell_21 : decode cX10_isCell 21 = .ok (.ireturn, 1) := by decide +kernel
theorem dX10_ends_0 : decode cX10_ends 0 = .ok (.aload_n 0, 1) := by decide +kernel
theorem dX10_ends_1 : decode cX10_ends 1 = .ok (.iconst 0, 1) := by decide +kernel
theorem dX10_ends_2 : decode cX10_ends 2 = .ok (.putfield 1, 3) := by decide +kernel
theorem dX10_ends_5 : decode cX10_ends 5 = .ok (.aload_n 0, 1) := by decide +kernel
theorem dX10_ends_6 : decode cX10_ends 6 = .ok (.iload_n 1, 1) := by decide +kernel
theorem dX10_ends_7 : decode cX10_ends 7 = .ok (.iload_n 2, 1) := by decide +kernel
theorem dX10_ends_8 : decode cX10_ends 8 = .ok (.invokevirtual 396, 3) := by decide +kernel
theorem dX10_ends_11 : decode cX10_ends 11 = .ok (.ifCond .eq 12, 3) := by decide +kernel
theorem dX10_ends_14 : decode cX10_ends 14 = .ok (.aload_n 0, 1) := by decide +kernel
theorem dX10_ends_15 : decode cX10_ends 15 = .ok (.iload_n 1, 1) := by decide +kernel
theorem dX10_ends_16 : decode cX10_ends 16 = .ok (.iload_n 3, 1) := by decide +kernel
theorem dX10_ends_17 : decode cX10_ends 17 = .ok (.invokevirtual 414, 3) := by decide +kernel
theorem dX10_ends_20 : decode cX10_ends 20 = .ok (.ifCond .ne 10, 3) := by decide +kernel
theorem dX10_ends_23 : decode cX10_ends 23 = .ok (.aload_n 0, 1) := by decide +kernel
theorem dX10_ends_24 : decode cX10_ends 24 = .ok (.bipush (-2), 2) := by decide +kernel
theorem dX10_ends_26 : decode cX10_ends 26 = .ok (.invokevirtual 131, 3) := by decide +kernel
theorem dX10_ends_29 : decode cX10_ends 29 = .ok (.ireturn, 1) := by decide +kernel
theorem dX10_ends_30 : decode cX10_ends 30 = .ok (.iload 4, 2) := by decide +kernel
theorem dX10_ends_32 : decode cX10_ends 32 = .ok (.i2l, 1) := by decide +kernel
theorem dX10_ends_33 : decode cX10_ends 33 = .ok (.lconst 1, 1) := by decide +kernel
theorem dX10_ends_34 : decode cX10_ends 34 = .ok (.ldc2_w 323, 3) := by decide +kernel
theorem dX10_ends_37 : decode cX10_ends 37 = .ok (.invokestatic 193, 3) := by decide +kernel
theorem dX10_ends_40 : decode cX10_ends 40 = .ok (.ifCond .ne 10, 3) := by decide +kernel
theorem dX10_ends_43 : decode cX10_ends 43 = .ok (.aload_n 0, 1) := by decide +kernel
theorem dX10_ends_44 : decode cX10_ends 44 = .ok (.bipush (-3), 2) := by decide +kernel
theorem dX10_ends_46 : decode cX10_ends 46 = .ok (.invokevirtual 131, 3) := by decide +kernel
theorem dX10_ends_49 : decode cX10_ends 49 = .ok (.ireturn, 1) := by decide +kernel
theorem dX10_ends_50 : decode cX10_ends 50 = .ok (.iconst 0, 1) := by decide +kernel
theorem dX10_ends_51 : decode cX10_ends 51 = .ok (.istore 5, 2) := by decide +kernel
theorem dX10_ends_53 : decode cX10_ends 53 = .ok (.iconst 1, 1) := by decide +kernel
theorem dX10_ends_54 : decode cX10_ends 54 = .ok (.istore 6, 2) := by decide +kernel
theorem dX10_ends_56 : decode cX10_ends 56 = .ok (.iload 6, 2) := by decide +kernel
theorem dX10_ends_58 : decode cX10_ends 58 = .ok (.iload 4, 2) := by decide +kernel
theorem dX10_ends_60 : decode cX10_ends 60 = .ok (.if_icmp .gt 39, 3) := by decide +kernel
theorem dX10_ends_63 : decode cX10_ends 63 = .ok (.aload_n 0, 1) := by decide +kernel
theorem dX10_ends_64 : decode cX10_ends 64 = .ok (.iload_n 1, 1) := by decide +kernel
theorem dX10_ends_65 : decode cX10_ends 65 = .ok (.iload_n 2, 1) := by decide +kernel
theorem dX10_ends_66 : decode cX10_ends 66 = .ok (.iload 6, 2) := by decide +kernel
theorem dX10_ends_68 : decode cX10_ends 68 = .ok (.iconst 1, 1) := by decide +kernel
theorem dX10_ends_69 : decode cX10_ends 69 = .ok (.iconst (-1), 1) := by decide +kernel
theorem dX10_ends_70 : decode cX10_ends 70 = .ok (.invokevirtual 400, 3) := by decide +kernel
theorem dX10_ends_73 : decode cX10_ends 73 = .ok (.pop, 1) := by decide +kernel
theorem dX10_ends_74 : decode cX10_ends 74 = .ok (.iload 5, 2) := by decide +kernel
theorem dX10_ends_76 : decode cX10_ends 76 = .ok (.aload_n 0, 1) := by decide +kernel
theorem dX10_ends_77 : decode cX10_ends 77 = .ok (.getfield 66, 3) := by decide +kernel
theorem dX10_ends_80 : decode cX10_ends 80 = .ok (.iload_n 3, 1) := by decide +kernel
theorem dX10_ends_81 : decode cX10_ends 81 = .ok (.baload, 1) := by decide +kernel
theorem dX10_ends_82 : decode cX10_ends 82 = .ok (.ifCond .eq 7, 3) := by decide +kernel
theorem dX10_ends_85 : decode cX10_ends 85 = .ok (.iconst 1, 1) := by decide +kernel
theorem dX10_ends_86 : decode cX10_ends 86 = .ok (.goto 4, 3) := by decide +kernel
theorem dX10_ends_89 : decode cX10_ends 89 = .ok (.iconst 0, 1) := by decide +kernel
theorem dX10_ends_90 : decode cX10_ends 90 = .ok (.iadd, 1) := by decide +kernel
theorem dX10_ends_91 : decode cX10_ends 91 = .ok (.istore 5, 2) := by decide +kernel
theorem dX10_ends_93 : decode cX10_ends 93 = .ok (.iinc 6 1, 3) := by decide +kernel
theorem dX10_ends_96 : decode cX10_ends 96 = .ok (.goto (-40), 3) := by decide +kernel
theorem dX10_ends_99 : decode cX10_ends 99 = .ok (.iload 5, 2) := by decide +kernel
theorem dX10_ends_101 : decode cX10_ends 101 = .ok (.ireturn, 1) := by decide +kernel
theorem dX10_paced_0 : decode cX10_paced 0 = .ok (.aload_n 0, 1) := by decide +kernel
theorem dX10_paced_1 : decode cX10_paced 1 = .ok (.iconst 0, 1) := by decide +kernel
theorem dX10_paced_2 : decode cX10_paced 2 = .ok (.putfield 1, 3) := by decide +kernel
theorem dX10_paced_5 : decode cX10_paced 5 = .ok (.aload_n 0, 1) := by decide +kernel
theorem dX10_paced_6 : decode cX10_paced 6 = .ok (.iload_n 1, 1) := by decide +kernel
theorem dX10_paced_7 : decode cX10_paced 7 = .ok (.iload_n 2, 1) := by decide +kernel
theorem dX10_paced_8 : decode cX10_paced 8 = .ok (.invokevirtual 396, 3) := by decide +kernel
theorem dX10_paced_11 : decode cX10_paced 11 = .ok (.ifCond .ne 10, 3) := by decide +kernel
theorem dX10_paced_14 : decode cX10_paced 14 = .ok (.aload_n 0, 1) := by decide +kernel
theorem dX10_paced_15 : decode cX10_paced 15 = .ok (.bipush (-2), 2) := by decide +kernel
theorem dX10_paced_17 : decode cX10_paced 17 = .ok (.invokevirtual 131, 3) := by decide +kernel
theorem dX10_paced_20 : decode cX10_paced 20 = .ok (.ireturn, 1) := by decide +kernel
theorem dX10_paced_21 : decode cX10_paced 21 = .ok (.iload 4, 2) := by decide +kernel
theorem dX10_paced_23 : decode cX10_paced 23 = .ok (.i2l, 1) := by decide +kernel
theorem dX10_paced_24 : decode cX10_paced 24 = .ok (.lconst 1, 1) := by decide +kernel
theorem dX10_paced_25 : decode cX10_paced 25 = .ok (.ldc2_w 216, 3) := by decide +kernel
theorem dX10_paced_28 : decode cX10_paced 28 = .ok (.invokestatic 193, 3) := by decide +kernel
theorem dX10_paced_31 : decode cX10_paced 31 = .ok (.ifCond .ne 10, 3) := by decide +kernel
theorem dX10_paced_34 : decode cX10_paced 34 = .ok (.aload_n 0, 1) := by decide +kernel
theorem dX10_paced_35 : decode cX10_paced 35 = .ok (.bipush (-3), 2) := by decide +kernel
theorem dX10_paced_37 : decode cX10_paced 37 = .ok (.invokevirtual 131, 3) := by decide +kernel
theorem dX10_paced_40 : decode cX10_paced 40 = .ok (.ireturn, 1) := by decide +kernel
theorem dX10_paced_41 : decode cX10_paced 41 = .ok (.aload_n 0, 1) := by decide +kernel
theorem dX10_paced_42 : decode cX10_paced 42 = .ok (.iload_n 1, 1) := by decide +kernel
theorem dX10_paced_43 : decode cX10_paced 43 = .ok (.iload_n 2, 1) := by decide +kernel
theorem dX10_paced_44 : decode cX10_paced 44 = .ok (.iload_n 3, 1) := by decide +kernel
theorem dX10_paced_45 : decode cX10_paced 45 = .ok (.iload 4, 2) := by decide +kernel
theorem dX10_paced_47 : decode cX10_paced 47 = .ok (.iconst (-1), 1) := by decide +kernel
theorem dX10_paced_48 : decode cX10_paced 48 = .ok (.invokevirtual 400, 3) := by decide +kernel
theorem dX10_paced_51 : decode cX10_paced 51 = .ok (.ireturn, 1) := by decide +kernel
theorem dX10_turned_0 : decode cX10_turned 0 = .ok (.aload_n 0, 1) := by decide +kernel
theorem dX10_turned_1 : decode cX10_turned 1 = .ok (.iconst 0, 1) := by decide +kernel
theorem dX10_turned_2 : decode cX10_turned 2 = .ok (.putfield 1, 3) := by decide +kernel
theorem dX10_turned_5 : decode cX10_turned 5 = .ok (.aload_n 0, 1) := by decide +kernel
theorem dX10_turned_6 : decode cX10_turned 6 = .ok (.iload_n 1, 1) := by decide +kernel
theorem dX10_turned_7 : decode cX10_turned 7 = .ok (.iload_n 2, 1) := by decide +kernel
theorem dX10_turned_8 : decode cX10_turned 8 = .ok (.invokevirtual 396, 3) := by decide +kernel
theorem dX10_turned_11 : decode cX10_turned 11 = .ok (.ifCond .ne 10, 3) := by decide +kernel
theorem dX10_turned_14 : decode cX10_turned 14 = .ok (.aload_n 0, 1) := by decide +kernel
theorem dX10_turned_15 : decode cX10_turned 15 = .ok (.bipush (-2), 2) := by decide +kernel
theorem dX10_turned_17 : decode cX10_turned 17 = .ok (.invokevirtual 131, 3) := by decide +kernel
theorem dX10_turned_20 : decode cX10_turned 20 = .ok (.ireturn, 1) := by decide +kernel
theorem dX10_turned_21 : decode cX10_turned 21 = .ok (.iload 4, 2) := by decide +kernel
theorem dX10_turned_23 : decode cX10_turned 23 = .ok (.i2l, 1) := by decide +kernel
theorem dX10_turned_24 : decode cX10_turned 24 = .ok (.lconst 0, 1) := by decide +kernel
theorem dX10_turned_25 : decode cX10_turned 25 = .ok (.ldc2_w 417, 3) := by decide +kernel
theorem dX10_turned_28 : decode cX10_turned 28 = .ok (.invokestatic 193, 3) := by decide +kernel
theorem dX10_turned_31 : decode cX10_turned 31 = .ok (.ifCond .ne 10, 3) := by decide +kernel
theorem dX10_turned_34 : decode cX10_turned 34 = .ok (.aload_n 0, 1) := by decide +kernel
theorem dX10_turned_35 : decode cX10_turned 35 = .ok (.bipush (-3), 2) := by decide +kernel
theorem dX10_turned_37 : decode cX10_turned 37 = .ok (.invokevirtual 131, 3) := by decide +kernel
theorem dX10_turned_40 : decode cX10_turned 40 = .ok (.ireturn, 1) := by decide +kernel
theorem dX10_turned_41 : decode cX10_turned 41 = .ok (.aload_n 0, 1) := by decide +kernel
theorem dX10_turned_42 : decode cX10_turned 42 = .ok (.iload_n 1, 1) := by decide +kernel
theorem dX10_turned_43 : decode cX10_turned 43 = .ok (.iload_n 2, 1) := by decide +kernel
theorem dX10_turned_44 : decode cX10_turned 44 = .ok (.iload_n 3, 1) := by decide +kernel
theorem dX10_turned_45 : decode cX10_turned 45 = .ok (.iconst 1, 1) := by decide +kernel
theorem dX10_turned_46 : decode cX10_turned 46 = .ok (.iload 4, 2) := by decide +kernel
theorem dX10_turned_48 : decode cX10_turned 48 = .ok (.invokevirtual 400, 3) := by decide +kernel
theorem dX10_turned_51 : decode cX10_turned 51 = .ok (.ireturn, 1) := by decide +kernel
theorem dX10_leastTurn_0 : decode cX10_leastTurn 0 = .ok (.aload_n 0, 1) := by decide +kernel
theorem dX10_leastTurn_1 : decode cX10_leastTurn 1 = .ok (.iload_n 1, 1) := by decide +kernel
theorem dX10_leastTurn_2 : decode cX10_leastTurn 2 = .ok (.iload_n 2, 1) := by decide +kernel
theorem dX10_leastTurn_3 : decode cX10_leastTurn 3 = .ok (.iload_n 3, 1) := by decide +kernel
theorem dX10_leastTurn_4 : decode cX10_leastTurn 4 = .ok (.iload 4, 2) := by decide +kernel
theorem dX10_leastTurn_6 : decode cX10_leastTurn 6 = .ok (.iconst 0, 1) := by decide +kernel
theorem dX10_leastTurn_7 : decode cX10_leastTurn 7 = .ok (.invokevirtual 400, 3) := by decide +kernel
theorem dX10_leastTurn_10 : decode cX10_leastTurn 10 = .ok (.pop, 1) := by decide +kernel
theorem dX10_leastTurn_11 : decode cX10_leastTurn 11 = .ok (.iconst 0, 1) := by decide +kernel
theorem dX10_leastTurn_12 : decode cX10_leastTurn 12 = .ok (.istore 5, 2) := by decide +kernel
theorem dX10_leastTurn_14 : decode cX10_leastTurn 14 = .ok (.iload 5, 2) := by decide +kernel
theorem dX10_leastTurn_16 : decode cX10_leastTurn 16 = .ok (.sipush 1000, 3) := by decide +kernel
theorem dX10_leastTurn_19 : decode cX10_leastTurn 19 = .ok (.if_icmp .ge 26, 3) := by decide +kernel
theorem dX10_leastTurn_22 : decode cX10_leastTurn 22 = .ok (.aload_n 0, 1) := by decide +kernel
theorem dX10_leastTurn_23 : decode cX10_leastTurn 23 = .ok (.iload 5, 2) := by decide +kernel
theorem dX10_leastTurn_25 : decode cX10_leastTurn 25 = .ok (.invokevirtual 393, 3) := by decide +kernel
theorem dX10_leastTurn_28 : decode cX10_leastTurn 28 = .ok (.aload_n 0, 1) := by decide +kernel
theorem dX10_leastTurn_29 : decode cX10_leastTurn 29 = .ok (.getfield 390, 3) := by decide +kernel
theorem dX10_leastTurn_32 : decode cX10_leastTurn 32 = .ok (.iconst 2, 1) := by decide +kernel
theorem dX10_leastTurn_33 : decode cX10_leastTurn 33 = .ok (.if_icmp .ne 6, 3) := by decide +kernel
theorem dX10_leastTurn_36 : decode cX10_leastTurn 36 = .ok (.iload 5, 2) := by decide +kernel
theorem dX10_leastTurn_38 : decode cX10_leastTurn 38 = .ok (.ireturn, 1) := by decide +kernel
theorem dX10_leastTurn_39 : decode cX10_leastTurn 39 = .ok (.iinc 5 1, 3) := by decide +kernel
theorem dX10_leastTurn_42 : decode cX10_leastTurn 42 = .ok (.goto (-28), 3) := by decide +kernel
theorem dX10_leastTurn_45 : decode cX10_leastTurn 45 = .ok (.iconst (-1), 1) := by decide +kernel
theorem dX10_leastTurn_46 : decode cX10_leastTurn 46 = .ok (.ireturn, 1) := by decide +kernel
theorem dX10_least_0 : decode cX10_least 0 = .ok (.aload_n 0, 1) := by decide +kernel
theorem dX10_least_1 : decode cX10_least 1 = .ok (.iconst 0, 1) := by decide +kernel
theorem dX10_least_2 : decode cX10_least 2 = .ok (.putfield 1, 3) := by decide +kernel
theorem dX10_least_5 : decode cX10_least 5 = .ok (.aload_n 0, 1) := by decide +kernel
theorem dX10_least_6 : decode cX10_least 6 = .ok (.iload_n 1, 1) := by decide +kernel
theorem dX10_least_7 : decode cX10_least 7 = .ok (.iload_n 2, 1) := by decide +kernel
theorem dX10_least_8 : decode cX10_least 8 = .ok (.invokevirtual 396, 3) := by decide +kernel
theorem dX10_least_11 : decode cX10_least 11 = .ok (.ifCond .ne 10, 3) := by decide +kernel
theorem dX10_least_14 : decode cX10_least 14 = .ok (.aload_n 0, 1) := by decide +kernel
theorem dX10_least_15 : decode cX10_least 15 = .ok (.bipush (-2), 2) := by decide +kernel
theorem dX10_least_17 : decode cX10_least 17 = .ok (.invokevirtual 131, 3) := by decide +kernel
theorem dX10_least_20 : decode cX10_least 20 = .ok (.ireturn, 1) := by decide +kernel
theorem dX10_least_21 : decode cX10_least 21 = .ok (.aload_n 0, 1) := by decide +kernel
theorem dX10_least_22 : decode cX10_least 22 = .ok (.iload_n 1, 1) := by decide +kernel
theorem dX10_least_23 : decode cX10_least 23 = .ok (.iload_n 2, 1) := by decide +kernel
theorem dX10_least_24 : decode cX10_least 24 = .ok (.iload_n 3, 1) := by decide +kernel
theorem dX10_least_25 : decode cX10_least 25 = .ok (.iconst 1, 1) := by decide +kernel
theorem dX10_least_26 : decode cX10_least 26 = .ok (.invokevirtual 419, 3) := by decide +kernel
theorem dX10_least_29 : decode cX10_least 29 = .ok (.ireturn, 1) := by decide +kernel
theorem dX10_line_0 : decode cX10_line 0 = .ok (.aload_n 0, 1) := by decide +kernel
theorem dX10_line_1 : decode cX10_line 1 = .ok (.iconst 0, 1) := by decide +kernel
theorem dX10_line_2 : decode cX10_line 2 = .ok (.putfield 1, 3) := by decide +kernel
theorem dX10_line_5 : decode cX10_line 5 = .ok (.aload_n 0, 1) := by decide +kernel
theorem dX10_line_6 : decode cX10_line 6 = .ok (.iload_n 1, 1) := by decide +kernel
theorem dX10_line_7 : decode cX10_line 7 = .ok (.iload_n 2, 1) := by decide +kernel
theorem dX10_line_8 : decode cX10_line 8 = .ok (.invokevirtual 396, 3) := by decide +kernel
theorem dX10_line_11 : decode cX10_line 11 = .ok (.ifCond .ne 10, 3) := by decide +kernel
theorem dX10_line_14 : decode cX10_line 14 = .ok (.aload_n 0, 1) := by decide +kernel
theorem dX10_line_15 : decode cX10_line 15 = .ok (.bipush (-2), 2) := by decide +kernel
theorem dX10_line_17 : decode cX10_line 17 = .ok (.invokevirtual 131, 3) := by decide +kernel
theorem dX10_line_20 : decode cX10_line 20 = .ok (.ireturn, 1) := by decide +kernel
theorem dX10_line_21 : decode cX10_line 21 = .ok (.iload 4, 2) := by decide +kernel
theorem dX10_line_23 : decode cX10_line 23 = .ok (.i2l, 1) := by decide +kernel
theorem dX10_line_24 : decode cX10_line 24 = .ok (.lconst 1, 1) := by decide +kernel
theorem dX10_line_25 : decode cX10_line 25 = .ok (.ldc2_w 216, 3) := by decide +kernel
theorem dX10_line_28 : decode cX10_line 28 = .ok (.invokestatic 193, 3) := by decide +kernel
theorem dX10_line_31 : decode cX10_line 31 = .ok (.ifCond .ne 10, 3) := by decide +kernel
theorem dX10_line_34 : decode cX10_line 34 = .ok (.aload_n 0, 1) := by decide +kernel
theorem dX10_line_35 : decode cX10_line 35 = .ok (.bipush (-3), 2) := by decide +kernel
theorem dX10_line_37 : decode cX10_line 37 = .ok (.invokevirtual 131, 3) := by decide +kernel
theorem dX10_line_40 : decode cX10_line 40 = .ok (.ireturn, 1) := by decide +kernel
theorem dX10_line_41 : decode cX10_line 41 = .ok (.aload_n 0, 1) := by decide +kernel
theorem dX10_line_42 : decode cX10_line 42 = .ok (.iload_n 1, 1) := by decide +kernel
theorem dX10_line_43 : decode cX10_line 43 = .ok (.iload_n 2, 1) := by decide +kernel
theorem dX10_line_44 : decode cX10_line 44 = .ok (.iload_n 3, 1) := by decide +kernel
theorem dX10_line_45 : decode cX10_line 45 = .ok (.iload 4, 2) := by decide +kernel
theorem dX10_line_47 : decode cX10_line 47 = .ok (.invokevirtual 419, 3) := by decide +kernel
theorem dX10_line_50 : decode cX10_line 50 = .ok (.ireturn, 1) := by decide +kernel
theorem dX10_notchedTo_0 : decode cX10_notchedTo 0 = .ok (.aload_n 0, 1) := by decide +kernel
theorem dX10_notchedTo_1 : decode cX10_notchedTo 1 = .ok (.iload_n 1, 1) := by decide +kernel
theorem dX10_notchedTo_2 : decode cX10_notchedTo 2 = .ok (.invokevirtual 282, 3) := by decide +kernel
theorem dX10_notchedTo_5 : decode cX10_notchedTo 5 = .ok (.aload_n 0, 1) := by decide +kernel
theorem dX10_notchedTo_6 : decode cX10_notchedTo 6 = .ok (.iload_n 2, 1) := by decide +kernel
theorem dX10_notchedTo_7 : decode cX10_notchedTo 7 = .ok (.iconst 1, 1) := by decide +kernel
theorem dX10_notchedTo_8 : decode cX10_notchedTo 8 = .ok (.invokevirtual 317, 3) := by decide +kernel
theorem dX10_notchedTo_11 : decode cX10_notchedTo 11 = .ok (.aload_n 0, 1) := by decide +kernel
theorem dX10_notchedTo_12 : decode cX10_notchedTo 12 = .ok (.getfield 39, 3) := by decide +kernel
theorem dX10_notchedTo_15 : decode cX10_notchedTo 15 = .ok (.iload 4, 2) := by decide +kernel
theorem dX10_notchedTo_17 : decode cX10_notchedTo 17 = .ok (.iload 5, 2) := by decide +kernel
theorem dX10_notchedTo_19 : decode cX10_notchedTo 19 = .ok (.iastore, 1) := by decide +kernel
theorem dX10_notchedTo_20 : decode cX10_notchedTo 20 = .ok (.aload_n 0, 1) := by decide +kernel
theorem dX10_notchedTo_21 : decode cX10_notchedTo 21 = .ok (.iload_n 3, 1) := by decide +kernel
theorem dX10_notchedTo_22 : decode cX10_notchedTo 22 = .ok (.invokevirtual 285, 3) := by decide +kernel
theorem dX10_notchedTo_25 : decode cX10_notchedTo 25 = .ok (.aload_n 0, 1) := by decide +kernel
theorem dX10_notchedTo_26 : decode cX10_notchedTo 26 = .ok (.iconst 0, 1) := by decide +kernel
theorem dX10_notchedTo_27 : decode cX10_notchedTo 27 = .ok (.invokevirtual 393, 3) := by decide +kernel
theorem dX10_notchedTo_30 : decode cX10_notchedTo 30 = .ok (.aload_n 0, 1) := by decide +kernel
theorem dX10_notchedTo_31 : decode cX10_notchedTo 31 = .ok (.getfield 390, 3) := by decide +kernel
theorem dX10_notchedTo_34 : decode cX10_notchedTo 34 = .ok (.ireturn, 1) := by decide +kernel
theorem dX10_notched_0 : decode cX10_notched 0 = .ok (.aload_n 0, 1) := by decide +kernel
theorem dX10_notched_1 : decode cX10_notched 1 = .ok (.iconst 0, 1) := by decide +kernel
theorem dX10_notched_2 : decode cX10_notched 2 = .ok (.putfield 1, 3) := by decide +kernel
theorem dX10_notched_5 : decode cX10_notched 5 = .ok (.aload_n 0, 1) := by decide +kernel
theorem dX10_notched_6 : decode cX10_notched 6 = .ok (.iload_n 1, 1) := by decide +kernel
theorem dX10_notched_7 : decode cX10_notched 7 = .ok (.iload_n 2, 1) := by decide +kernel
theorem dX10_notched_8 : decode cX10_notched 8 = .ok (.invokevirtual 396, 3) := by decide +kernel
theorem dX10_notched_11 : decode cX10_notched 11 = .ok (.ifCond .eq 13, 3) := by decide +kernel
theorem dX10_notched_14 : decode cX10_notched 14 = .ok (.aload_n 0, 1) := by decide +kernel
theorem dX10_notched_15 : decode cX10_notched 15 = .ok (.iload_n 1, 1) := by decide +kernel
theorem dX10_notched_16 : decode cX10_notched 16 = .ok (.iload 4, 2) := by decide +kernel
theorem dX10_notched_18 : decode cX10_notched 18 = .ok (.invokevirtual 414, 3) := by decide +kernel
theorem dX10_notched_21 : decode cX10_notched 21 = .ok (.ifCond .ne 10, 3) := by decide +kernel
theorem dX10_notched_24 : decode cX10_notched 24 = .ok (.aload_n 0, 1) := by decide +kernel
theorem dX10_notched_25 : decode cX10_notched 25 = .ok (.bipush (-2), 2) := by decide +kernel
theorem dX10_notched_27 : decode cX10_notched 27 = .ok (.invokevirtual 131, 3) := by decide +kernel
theorem dX10_notched_30 : decode cX10_notched 30 = .ok (.ireturn, 1) := by decide +kernel
theorem dX10_notched_31 : decode cX10_notched 31 = .ok (.iload 5, 2) := by decide +kernel
theorem dX10_notched_33 : decode cX10_notched 33 = .ok (.i2l, 1) := by decide +kernel
theorem dX10_notched_34 : decode cX10_notched 34 = .ok (.lconst 0, 1) := by decide +kernel
theorem dX10_notched_35 : decode cX10_notched 35 = .ok (.ldc2_w 423, 3) := by decide +kernel
theorem dX10_notched_38 : decode cX10_notched 38 = .ok (.invokestatic 193, 3) := by decide +kernel
theorem dX10_notched_41 : decode cX10_notched 41 = .ok (.ifCond .ne 10, 3) := by decide +kernel
theorem dX10_notched_44 : decode cX10_notched 44 = .ok (.aload_n 0, 1) := by decide +kernel
theorem dX10_notched_45 : decode cX10_notched 45 = .ok (.bipush (-3), 2) := by decide +kernel
theorem dX10_notched_47 : decode cX10_notched 47 = .ok (.invokevirtual 131, 3) := by decide +kernel
theorem dX10_notched_50 : decode cX10_notched 50 = .ok (.ireturn, 1) := by decide +kernel
theorem dX10_notched_51 : decode cX10_notched 51 = .ok (.aload_n 0, 1) := by decide +kernel
theorem dX10_notched_52 : decode cX10_notched 52 = .ok (.iload_n 1, 1) := by decide +kernel
theorem dX10_notched_53 : decode cX10_notched 53 = .ok (.iload_n 2, 1) := by decide +kernel
theorem dX10_notched_54 : decode cX10_notched 54 = .ok (.iload_n 3, 1) := by decide +kernel
theorem dX10_notched_55 : decode cX10_notched 55 = .ok (.iload 4, 2) := by decide +kernel
theorem dX10_notched_57 : decode cX10_notched 57 = .ok (.iload 5, 2) := by decide +kernel
theorem dX10_notched_59 : decode cX10_notched 59 = .ok (.invokevirtual 425, 3) := by decide +kernel
theorem dX10_notched_62 : decode cX10_notched 62 = .ok (.ireturn, 1) := by decide +kernel
theorem dX10_notch_0 : decode cX10_notch 0 = .ok (.aload_n 0, 1) := by decide +kernel
theorem dX10_notch_1 : decode cX10_notch 1 = .ok (.iconst 0, 1) := by decide +kernel
theorem dX10_notch_2 : decode cX10_notch 2 = .ok (.putfield 1, 3) := by decide +kernel
theorem dX10_notch_5 : decode cX10_notch 5 = .ok (.aload_n 0, 1) := by decide +kernel
theorem dX10_notch_6 : decode cX10_notch 6 = .ok (.iload_n 1, 1) := by decide +kernel
theorem dX10_notch_7 : decode cX10_notch 7 = .ok (.iload_n 2, 1) := by decide +kernel
theorem dX10_notch_8 : decode cX10_notch 8 = .ok (.invokevirtual 396, 3) := by decide +kernel
theorem dX10_notch_11 : decode cX10_notch 11 = .ok (.ifCond .eq 14, 3) := by decide +kernel
theorem dX10_notch_14 : decode cX10_notch 14 = .ok (.iload 4, 2) := by decide +kernel
theorem dX10_notch_16 : decode cX10_notch 16 = .ok (.i2l, 1) := by decide +kernel
theorem dX10_notch_17 : decode cX10_notch 17 = .ok (.lconst 0, 1) := by decide +kernel
theorem dX10_notch_18 : decode cX10_notch 18 = .ok (.lconst 1, 1) := by decide +kernel
theorem dX10_notch_19 : decode cX10_notch 19 = .ok (.invokestatic 193, 3) := by decide +kernel
theorem dX10_notch_22 : decode cX10_notch 22 = .ok (.ifCond .ne 10, 3) := by decide +kernel
theorem dX10_notch_25 : decode cX10_notch 25 = .ok (.aload_n 0, 1) := by decide +kernel
theorem dX10_notch_26 : decode cX10_notch 26 = .ok (.bipush (-2), 2) := by decide +kernel
theorem dX10_notch_28 : decode cX10_notch 28 = .ok (.invokevirtual 131, 3) := by decide +kernel
theorem dX10_notch_31 : decode cX10_notch 31 = .ok (.ireturn, 1) := by decide +kernel
theorem dX10_notch_32 : decode cX10_notch 32 = .ok (.aload_n 0, 1) := by decide +kernel
theorem dX10_notch_33 : decode cX10_notch 33 = .ok (.iload_n 1, 1) := by decide +kernel
theorem dX10_notch_34 : decode cX10_notch 34 = .ok (.invokevirtual 282, 3) := by decide +kernel
theorem dX10_notch_37 : decode cX10_notch 37 = .ok (.aload_n 0, 1) := by decide +kernel
theorem dX10_notch_38 : decode cX10_notch 38 = .ok (.iload_n 2, 1) := by decide +kernel
theorem dX10_notch_39 : decode cX10_notch 39 = .ok (.iconst 1, 1) := by decide +kernel
theorem dX10_notch_40 : decode cX10_notch 40 = .ok (.invokevirtual 317, 3) := by decide +kernel
theorem dX10_notch_43 : decode cX10_notch 43 = .ok (.iconst 0, 1) := by decide +kernel
theorem dX10_notch_44 : decode cX10_notch 44 = .ok (.istore 5, 2) := by decide +kernel
theorem dX10_notch_46 : decode cX10_notch 46 = .ok (.iload 5, 2) := by decide +kernel
theorem dX10_notch_48 : decode cX10_notch 48 = .ok (.bipush 100, 2) := by decide +kernel
theorem dX10_notch_50 : decode cX10_notch 50 = .ok (.if_icmp .ge 85, 3) := by decide +kernel
theorem dX10_notch_53 : decode cX10_notch 53 = .ok (.iconst 0, 1) := by decide +kernel
theorem dX10_notch_54 : decode cX10_notch 54 = .ok (.istore 6, 2) := by decide +kernel
theorem dX10_notch_56 : decode cX10_notch 56 = .ok (.iload 6, 2) := by decide +kernel
theorem dX10_notch_58 : decode cX10_notch 58 = .ok (.aload_n 0, 1) := by decide +kernel
theorem dX10_notch_59 : decode cX10_notch 59 = .ok (.getfield 267, 3) := by decide +kernel
theorem dX10_notch_62 : decode cX10_notch 62 = .ok (.if_icmp .ge 67, 3) := by decide +kernel
theorem dX10_notch_65 : decode cX10_notch 65 = .ok (.aload_n 0, 1) := by decide +kernel
theorem dX10_notch_66 : decode cX10_notch 66 = .ok (.getfield 39, 3) := by decide +kernel
theorem dX10_notch_69 : decode cX10_notch 69 = .ok (.iload 6, 2) := by decide +kernel
theorem dX10_notch_71 : decode cX10_notch 71 = .ok (.iaload, 1) := by decide +kernel
theorem dX10_notch_72 : decode cX10_notch 72 = .ok (.istore 7, 2) := by decide +kernel
theorem dX10_notch_74 : decode cX10_notch 74 = .ok (.aload_n 0, 1) := by decide +kernel
theorem dX10_notch_75 : decode cX10_notch 75 = .ok (.getfield 39, 3) := by decide +kernel
theorem dX10_notch_78 : decode cX10_notch 78 = .ok (.iload 6, 2) := by decide +kernel
theorem dX10_notch_80 : decode cX10_notch 80 = .ok (.iload 5, 2) := by decide +kernel
theorem dX10_notch_82 : decode cX10_notch 82 = .ok (.iastore, 1) := by decide +kernel
theorem dX10_notch_83 : decode cX10_notch 83 = .ok (.aload_n 0, 1) := by decide +kernel
theorem dX10_notch_84 : decode cX10_notch 84 = .ok (.iload_n 3, 1) := by decide +kernel
theorem dX10_notch_85 : decode cX10_notch 85 = .ok (.invokevirtual 285, 3) := by decide +kernel
theorem dX10_notch_88 : decode cX10_notch 88 = .ok (.aload_n 0, 1) := by decide +kernel
theorem dX10_notch_89 : decode cX10_notch 89 = .ok (.getfield 39, 3) := by decide +kernel
theorem dX10_notch_92 : decode cX10_notch 92 = .ok (.iload 6, 2) := by decide +kernel
theorem dX10_notch_94 : decode cX10_notch 94 = .ok (.iload 7, 2) := by decide +kernel
theorem dX10_notch_96 : decode cX10_notch 96 = .ok (.iastore, 1) := by decide +kernel
theorem dX10_notch_97 : decode cX10_notch 97 = .ok (.aload_n 0, 1) := by decide +kernel
theorem dX10_notch_98 : decode cX10_notch 98 = .ok (.iconst 0, 1) := by decide +kernel
theorem dX10_notch_99 : decode cX10_notch 99 = .ok (.invokevirtual 393, 3) := by decide +kernel
theorem dX10_notch_102 : decode cX10_notch 102 = .ok (.aload_n 0, 1) := by decide +kernel
theorem dX10_notch_103 : decode cX10_notch 103 = .ok (.getfield 390, 3) := by decide +kernel
theorem dX10_notch_106 : decode cX10_notch 106 = .ok (.iconst 2, 1) := by decide +kernel
theorem dX10_notch_107 : decode cX10_notch 107 = .ok (.if_icmp .ne 16, 3) := by decide +kernel
theorem dX10_notch_110 : decode cX10_notch 110 = .ok (.iload 4, 2) := by decide +kernel
theorem dX10_notch_112 : decode cX10_notch 112 = .ok (.ifCond .ne 8, 3) := by decide +kernel
theorem dX10_notch_115 : decode cX10_notch 115 = .ok (.iload 5, 2) := by decide +kernel
theorem dX10_notch_117 : decode cX10_notch 117 = .ok (.goto 5, 3) := by decide +kernel
theorem dX10_notch_120 : decode cX10_notch 120 = .ok (.iload 6, 2) := by decide +kernel
theorem dX10_notch_122 : decode cX10_notch 122 = .ok (.ireturn, 1) := by decide +kernel
theorem dX10_notch_123 : decode cX10_notch 123 = .ok (.iinc 6 1, 3) := by decide +kernel
theorem dX10_notch_126 : decode cX10_notch 126 = .ok (.goto (-70), 3) := by decide +kernel
theorem dX10_notch_129 : decode cX10_notch 129 = .ok (.iinc 5 1, 3) := by decide +kernel
theorem dX10_notch_132 : decode cX10_notch 132 = .ok (.goto (-86), 3) := by decide +kernel
theorem dX10_notch_135 : decode cX10_notch 135 = .ok (.iconst (-1), 1) := by decide +kernel
theorem dX10_notch_136 : decode cX10_notch 136 = .ok (.ireturn, 1) := by decide +kernel
theorem dX10_longer_0 : decode cX10_longer 0 = .ok (.aload_n 0, 1) := by decide +kernel
theorem dX10_longer_1 : decode cX10_longer 1 = .ok (.iconst 0, 1) := by decide +kernel
theorem dX10_longer_2 : decode cX10_longer 2 = .ok (.putfield 1, 3) := by decide +kernel
theorem dX10_longer_5 : decode cX10_longer 5 = .ok (.aload_n 0, 1) := by decide +kernel
theorem dX10_longer_6 : decode cX10_longer 6 = .ok (.iload_n 1, 1) := by decide +kernel
theorem dX10_longer_7 : decode cX10_longer 7 = .ok (.iload_n 2, 1) := by decide +kernel
theorem dX10_longer_8 : decode cX10_longer 8 = .ok (.invokevirtual 396, 3) := by decide +kernel
theorem dX10_longer_11 : decode cX10_longer 11 = .ok (.ifCond .ne 10, 3) := by decide +kernel
theorem dX10_longer_14 : decode cX10_longer 14 = .ok (.aload_n 0, 1) := by decide +kernel
theorem dX10_longer_15 : decode cX10_longer 15 = .ok (.bipush (-2), 2) := by decide +kernel
theorem dX10_longer_17 : decode cX10_longer 17 = .ok (.invokevirtual 131, 3) := by decide +kernel
theorem dX10_longer_20 : decode cX10_longer 20 = .ok (.ireturn, 1) := by decide +kernel
theorem dX10_longer_21 : decode cX10_longer 21 = .ok (.iload 4, 2) := by decide +kernel
theorem dX10_longer_23 : decode cX10_longer 23 = .ok (.i2l, 1) := by decide +kernel
theorem dX10_longer_24 : decode cX10_longer 24 = .ok (.ldc2_w 250, 3) := by decide +kernel
theorem dX10_longer_27 : decode cX10_longer 27 = .ok (.ldc2_w 428, 3) := by decide +kernel
theorem dX10_longer_30 : decode cX10_longer 30 = .ok (.invokestatic 193, 3) := by decide +kernel
theorem dX10_longer_33 : decode cX10_longer 33 = .ok (.ifCond .ne 10, 3) := by decide +kernel
theorem dX10_longer_36 : decode cX10_longer 36 = .ok (.aload_n 0, 1) := by decide +kernel
theorem dX10_longer_37 : decode cX10_longer 37 = .ok (.bipush (-3), 2) := by decide +kernel
theorem dX10_longer_39 : decode cX10_longer 39 = .ok (.invokevirtual 131, 3) := by decide +kernel
theorem dX10_longer_42 : decode cX10_longer 42 = .ok (.ireturn, 1) := by decide +kernel
theorem dX10_longer_43 : decode cX10_longer 43 = .ok (.aload_n 0, 1) := by decide +kernel
theorem dX10_longer_44 : decode cX10_longer 44 = .ok (.iload_n 1, 1) := by decide +kernel
theorem dX10_longer_45 : decode cX10_longer 45 = .ok (.invokevirtual 282, 3) := by decide +kernel
theorem dX10_longer_48 : decode cX10_longer 48 = .ok (.aload_n 0, 1) := by decide +kernel
theorem dX10_longer_49 : decode cX10_longer 49 = .ok (.iload 4, 2) := by decide +kernel
theorem dX10_longer_51 : decode cX10_longer 51 = .ok (.putfield 267, 3) := by decide +kernel
theorem dX10_longer_54 : decode cX10_longer 54 = .ok (.iconst 1, 1) := by decide +kernel
theorem dX10_longer_55 : decode cX10_longer 55 = .ok (.istore 5, 2) := by decide +kernel
theorem dX10_longer_57 : decode cX10_longer 57 = .ok (.iload 5, 2) := by decide +kernel
theorem dX10_longer_59 : decode cX10_longer 59 = .ok (.iload 4, 2) := by decide +kernel
theorem dX10_longer_61 : decode cX10_longer 61 = .ok (.if_icmp .ge 61, 3) := by decide +kernel
theorem dX10_longer_64 : decode cX10_longer 64 = .ok (.aload_n 0, 1) := by decide +kernel
theorem dX10_longer_65 : decode cX10_longer 65 = .ok (.getfield 33, 3) := by decide +kernel
theorem dX10_longer_68 : decode cX10_longer 68 = .ok (.iload 5, 2) := by decide +kernel
theorem dX10_longer_70 : decode cX10_longer 70 = .ok (.aload_n 0, 1) := by decide +kernel
theorem dX10_longer_71 : decode cX10_longer 71 = .ok (.getfield 33, 3) := by decide +kernel
theorem dX10_longer_74 : decode cX10_longer 74 = .ok (.iconst 0, 1) := by decide +kernel
theorem dX10_longer_75 : decode cX10_longer 75 = .ok (.iaload, 1) := by decide +kernel
theorem dX10_longer_76 : decode cX10_longer 76 = .ok (.iastore, 1) := by decide +kernel
theorem dX10_longer_77 : decode cX10_longer 77 = .ok (.aload_n 0, 1) := by decide +kernel
theorem dX10_longer_78 : decode cX10_longer 78 = .ok (.getfield 36, 3) := by decide +kernel
theorem dX10_longer_81 : decode cX10_longer 81 = .ok (.iload 5, 2) := by decide +kernel
theorem dX10_longer_83 : decode cX10_longer 83 = .ok (.aload_n 0, 1) := by decide +kernel
theorem dX10_longer_84 : decode cX10_longer 84 = .ok (.getfield 36, 3) := by decide +kernel
theorem dX10_longer_87 : decode cX10_longer 87 = .ok (.iconst 0, 1) := by decide +kernel
theorem dX10_longer_88 : decode cX10_longer 88 = .ok (.iaload, 1) := by decide +kernel
theorem dX10_longer_89 : decode cX10_longer 89 = .ok (.iastore, 1) := by decide +kernel
theorem dX10_longer_90 : decode cX10_longer 90 = .ok (.aload_n 0, 1) := by decide +kernel
theorem dX10_longer_91 : decode cX10_longer 91 = .ok (.getfield 39, 3) := by decide +kernel
theorem dX10_longer_94 : decode cX10_longer 94 = .ok (.iload 5, 2) := by decide +kernel
theorem dX10_longer_96 : decode cX10_longer 96 = .ok (.aload_n 0, 1) := by decide +kernel
theorem dX10_longer_97 : decode cX10_longer 97 = .ok (.getfield 39, 3) := by decide +kernel
theorem dX10_longer_100 : decode cX10_longer 100 = .ok (.iconst 0, 1) := by decide +kernel
theorem dX10_longer_101 : decode cX10_longer 101 = .ok (.iaload, 1) := by decide +kernel
theorem dX10_longer_102 : decode cX10_longer 102 = .ok (.iastore, 1) := by decide +kernel
theorem dX10_longer_103 : decode cX10_longer 103 = .ok (.aload_n 0, 1) := by decide +kernel
theorem dX10_longer_104 : decode cX10_longer 104 = .ok (.getfield 42, 3) := by decide +kernel
theorem dX10_longer_107 : decode cX10_longer 107 = .ok (.iload 5, 2) := by decide +kernel
theorem dX10_longer_109 : decode cX10_longer 109 = .ok (.aload_n 0, 1) := by decide +kernel
theorem dX10_longer_110 : decode cX10_longer 110 = .ok (.getfield 42, 3) := by decide +kernel
theorem dX10_longer_113 : decode cX10_longer 113 = .ok (.iconst 0, 1) := by decide +kernel
theorem dX10_longer_114 : decode cX10_longer 114 = .ok (.iaload, 1) := by decide +kernel
theorem dX10_longer_115 : decode cX10_longer 115 = .ok (.iastore, 1) := by decide +kernel
theorem dX10_longer_116 : decode cX10_longer 116 = .ok (.iinc 5 1, 3) := by decide +kernel
theorem dX10_longer_119 : decode cX10_longer 119 = .ok (.goto (-62), 3) := by decide +kernel
theorem dX10_longer_122 : decode cX10_longer 122 = .ok (.aload_n 0, 1) := by decide +kernel
theorem dX10_longer_123 : decode cX10_longer 123 = .ok (.invokevirtual 273, 3) := by decide +kernel
theorem dX10_longer_126 : decode cX10_longer 126 = .ok (.aload_n 0, 1) := by decide +kernel
theorem dX10_longer_127 : decode cX10_longer 127 = .ok (.iload_n 2, 1) := by decide +kernel
theorem dX10_longer_128 : decode cX10_longer 128 = .ok (.iconst 1, 1) := by decide +kernel
theorem dX10_longer_129 : decode cX10_longer 129 = .ok (.invokevirtual 317, 3) := by decide +kernel
theorem dX10_longer_132 : decode cX10_longer 132 = .ok (.aload_n 0, 1) := by decide +kernel
theorem dX10_longer_133 : decode cX10_longer 133 = .ok (.iload_n 3, 1) := by decide +kernel
theorem dX10_longer_134 : decode cX10_longer 134 = .ok (.invokevirtual 285, 3) := by decide +kernel
theorem dX10_longer_137 : decode cX10_longer 137 = .ok (.aload_n 0, 1) := by decide +kernel
theorem dX10_longer_138 : decode cX10_longer 138 = .ok (.iconst (-1), 1) := by decide +kernel
theorem dX10_longer_139 : decode cX10_longer 139 = .ok (.invokevirtual 393, 3) := by decide +kernel
theorem dX10_longer_142 : decode cX10_longer 142 = .ok (.aload_n 0, 1) := by decide +kernel
theorem dX10_longer_143 : decode cX10_longer 143 = .ok (.getfield 390, 3) := by decide +kernel
theorem dX10_longer_146 : decode cX10_longer 146 = .ok (.ireturn, 1) := by decide +kernel
theorem dX10_thinner_0 : decode cX10_thinner 0 = .ok (.aload_n 0, 1) := by decide +kernel
theorem dX10_thinner_1 : decode cX10_thinner 1 = .ok (.iconst 0, 1) := by decide +kernel
theorem dX10_thinner_2 : decode cX10_thinner 2 = .ok (.putfield 1, 3) := by decide +kernel
theorem dX10_thinner_5 : decode cX10_thinner 5 = .ok (.aload_n 0, 1) := by decide +kernel
theorem dX10_thinner_6 : decode cX10_thinner 6 = .ok (.iload_n 1, 1) := by decide +kernel
theorem dX10_thinner_7 : decode cX10_thinner 7 = .ok (.iload_n 2, 1) := by decide +kernel
theorem dX10_thinner_8 : decode cX10_thinner 8 = .ok (.invokevirtual 396, 3) := by decide +kernel
theorem dX10_thinner_11 : decode cX10_thinner 11 = .ok (.ifCond .ne 10, 3) := by decide +kernel
theorem dX10_thinner_14 : decode cX10_thinner 14 = .ok (.aload_n 0, 1) := by decide +kernel
theorem dX10_thinner_15 : decode cX10_thinner 15 = .ok (.bipush (-2), 2) := by decide +kernel
theorem dX10_thinner_17 : decode cX10_thinner 17 = .ok (.invokevirtual 131, 3) := by decide +kernel
theorem dX10_thinner_20 : decode cX10_thinner 20 = .ok (.ireturn, 1) := by decide +kernel
theorem dX10_thinner_21 : decode cX10_thinner 21 = .ok (.iload 4, 2) := by decide +kernel
theorem dX10_thinner_23 : decode cX10_thinner 23 = .ok (.i2l, 1) := by decide +kernel
theorem dX10_thinner_24 : decode cX10_thinner 24 = .ok (.lconst 1, 1) := by decide +kernel
theorem dX10_thinner_25 : decode cX10_thinner 25 = .ok (.ldc2_w 323, 3) := by decide +kernel
theorem dX10_thinner_28 : decode cX10_thinner 28 = .ok (.invokestatic 193, 3) := by decide +kernel
theorem dX10_thinner_31 : decode cX10_thinner 31 = .ok (.ifCond .ne 10, 3) := by decide +kernel
theorem dX10_thinner_34 : decode cX10_thinner 34 = .ok (.aload_n 0, 1) := by decide +kernel
theorem dX10_thinner_35 : decode cX10_thinner 35 = .ok (.bipush (-3), 2) := by decide +kernel
theorem dX10_thinner_37 : decode cX10_thinner 37 = .ok (.invokevirtual 131, 3) := by decide +kernel
theorem dX10_thinner_40 : decode cX10_thinner 40 = .ok (.ireturn, 1) := by decide +kernel
theorem dX10_thinner_41 : decode cX10_thinner 41 = .ok (.aload_n 0, 1) := by decide +kernel
theorem dX10_thinner_42 : decode cX10_thinner 42 = .ok (.iload_n 1, 1) := by decide +kernel
theorem dX10_thinner_43 : decode cX10_thinner 43 = .ok (.invokevirtual 282, 3) := by decide +kernel
theorem dX10_thinner_46 : decode cX10_thinner 46 = .ok (.iconst 0, 1) := by decide +kernel
theorem dX10_thinner_47 : decode cX10_thinner 47 = .ok (.istore 5, 2) := by decide +kernel
theorem dX10_thinner_49 : decode cX10_thinner 49 = .ok (.iload 5, 2) := by decide +kernel
theorem dX10_thinner_51 : decode cX10_thinner 51 = .ok (.aload_n 0, 1) := by decide +kernel
theorem dX10_thinner_52 : decode cX10_thinner 52 = .ok (.getfield 267, 3) := by decide +kernel
theorem dX10_thinner_55 : decode cX10_thinner 55 = .ok (.if_icmp .ge 91, 3) := by decide +kernel
theorem dX10_thinner_58 : decode cX10_thinner 58 = .ok (.aload_n 0, 1) := by decide +kernel
theorem dX10_thinner_59 : decode cX10_thinner 59 = .ok (.getfield 33, 3) := by decide +kernel
theorem dX10_thinner_62 : decode cX10_thinner 62 = .ok (.iload 5, 2) := by decide +kernel
theorem dX10_thinner_64 : decode cX10_thinner 64 = .ok (.aload_n 0, 1) := by decide +kernel
theorem dX10_thinner_65 : decode cX10_thinner 65 = .ok (.getfield 33, 3) := by decide +kernel
theorem dX10_thinner_68 : decode cX10_thinner 68 = .ok (.iload 5, 2) := by decide +kernel
theorem dX10_thinner_70 : decode cX10_thinner 70 = .ok (.iaload, 1) := by decide +kernel
theorem dX10_thinner_71 : decode cX10_thinner 71 = .ok (.iload 4, 2) := by decide +kernel
theorem dX10_thinner_73 : decode cX10_thinner 73 = .ok (.imul, 1) := by decide +kernel
theorem dX10_thinner_74 : decode cX10_thinner 74 = .ok (.bipush 100, 2) := by decide +kernel
theorem dX10_thinner_76 : decode cX10_thinner 76 = .ok (.idiv, 1) := by decide +kernel
theorem dX10_thinner_77 : decode cX10_thinner 77 = .ok (.iconst 1, 1) := by decide +kernel
theorem dX10_thinner_78 : decode cX10_thinner 78 = .ok (.if_icmp .ge 7, 3) := by decide +kernel
theorem dX10_thinner_81 : decode cX10_thinner 81 = .ok (.iconst 1, 1) := by decide +kernel
theorem dX10_thinner_82 : decode cX10_thinner 82 = .ok (.goto 16, 3) := by decide +kernel
theorem dX10_thinner_85 : decode cX10_thinner 85 = .ok (.aload_n 0, 1) := by decide +kernel
theorem dX10_thinner_86 : decode cX10_thinner 86 = .ok (.getfield 33, 3) := by decide +kernel
theorem dX10_thinner_89 : decode cX10_thinner 89 = .ok (.iload 5, 2) := by decide +kernel
theorem dX10_thinner_91 : decode cX10_thinner 91 = .ok (.iaload, 1) := by decide +kernel
theorem dX10_thinner_92 : decode cX10_thinner 92 = .ok (.iload 4, 2) := by decide +kernel
theorem dX10_thinner_94 : decode cX10_thinner 94 = .ok (.imul, 1) := by decide +kernel
theorem dX10_thinner_95 : decode cX10_thinner 95 = .ok (.bipush 100, 2) := by decide +kernel
theorem dX10_thinner_97 : decode cX10_thinner 97 = .ok (.idiv, 1) := by decide +kernel
theorem dX10_thinner_98 : decode cX10_thinner 98 = .ok (.iastore, 1) := by decide +kernel
theorem dX10_thinner_99 : decode cX10_thinner 99 = .ok (.aload_n 0, 1) := by decide +kernel
theorem dX10_thinner_100 : decode cX10_thinner 100 = .ok (.getfield 36, 3) := by decide +kernel
theorem dX10_thinner_103 : decode cX10_thinner 103 = .ok (.iload 5, 2) := by decide +kernel
theorem dX10_thinner_105 : decode cX10_thinner 105 = .ok (.aload_n 0, 1) := by decide +kernel
theorem dX10_thinner_106 : decode cX10_thinner 106 = .ok (.getfield 36, 3) := by decide +kernel
theorem dX10_thinner_109 : decode cX10_thinner 109 = .ok (.iload 5, 2) := by decide +kernel
theorem dX10_thinner_111 : decode cX10_thinner 111 = .ok (.iaload, 1) := by decide +kernel
theorem dX10_thinner_112 : decode cX10_thinner 112 = .ok (.iload 4, 2) := by decide +kernel
theorem dX10_thinner_114 : decode cX10_thinner 114 = .ok (.imul, 1) := by decide +kernel
theorem dX10_thinner_115 : decode cX10_thinner 115 = .ok (.bipush 100, 2) := by decide +kernel
theorem dX10_thinner_117 : decode cX10_thinner 117 = .ok (.idiv, 1) := by decide +kernel
theorem dX10_thinner_118 : decode cX10_thinner 118 = .ok (.iconst 1, 1) := by decide +kernel
theorem dX10_thinner_119 : decode cX10_thinner 119 = .ok (.if_icmp .ge 7, 3) := by decide +kernel
theorem dX10_thinner_122 : decode cX10_thinner 122 = .ok (.iconst 1, 1) := by decide +kernel
theorem dX10_thinner_123 : decode cX10_thinner 123 = .ok (.goto 16, 3) := by decide +kernel
theorem dX10_thinner_126 : decode cX10_thinner 126 = .ok (.aload_n 0, 1) := by decide +kernel
theorem dX10_thinner_127 : decode cX10_thinner 127 = .ok (.getfield 36, 3) := by decide +kernel
theorem dX10_thinner_130 : decode cX10_thinner 130 = .ok (.iload 5, 2) := by decide +kernel
theorem dX10_thinner_132 : decode cX10_thinner 132 = .ok (.iaload, 1) := by decide +kernel
theorem dX10_thinner_133 : decode cX10_thinner 133 = .ok (.iload 4, 2) := by decide +kernel
theorem dX10_thinner_135 : decode cX10_thinner 135 = .ok (.imul, 1) := by decide +kernel
theorem dX10_thinner_136 : decode cX10_thinner 136 = .ok (.bipush 100, 2) := by decide +kernel
theorem dX10_thinner_138 : decode cX10_thinner 138 = .ok (.idiv, 1) := by decide +kernel
theorem dX10_thinner_139 : decode cX10_thinner 139 = .ok (.iastore, 1) := by decide +kernel
theorem dX10_thinner_140 : decode cX10_thinner 140 = .ok (.iinc 5 1, 3) := by decide +kernel
theorem dX10_thinner_143 : decode cX10_thinner 143 = .ok (.goto (-94), 3) := by decide +kernel
theorem dX10_thinner_146 : decode cX10_thinner 146 = .ok (.aload_n 0, 1) := by decide +kernel
theorem dX10_thinner_147 : decode cX10_thinner 147 = .ok (.iload_n 2, 1) := by decide +kernel
theorem dX10_thinner_148 : decode cX10_thinner 148 = .ok (.iconst 1, 1) := by decide +kernel
theorem dX10_thinner_149 : decode cX10_thinner 149 = .ok (.invokevirtual 317, 3) := by decide +kernel
theorem dX10_thinner_152 : decode cX10_thinner 152 = .ok (.aload_n 0, 1) := by decide +kernel
theorem dX10_thinner_153 : decode cX10_thinner 153 = .ok (.iload_n 3, 1) := by decide +kernel
theorem dX10_thinner_154 : decode cX10_thinner 154 = .ok (.invokevirtual 285, 3) := by decide +kernel
theorem dX10_thinner_157 : decode cX10_thinner 157 = .ok (.aload_n 0, 1) := by decide +kernel
theorem dX10_thinner_158 : decode cX10_thinner 158 = .ok (.iconst (-1), 1) := by decide +kernel
theorem dX10_thinner_159 : decode cX10_thinner 159 = .ok (.invokevirtual 393, 3) := by decide +kernel
theorem dX10_thinner_162 : decode cX10_thinner 162 = .ok (.aload_n 0, 1) := by decide +kernel
theorem dX10_thinner_163 : decode cX10_thinner 163 = .ok (.getfield 390, 3) := by decide +kernel
theorem dX10_thinner_166 : decode cX10_thinner 166 = .ok (.ireturn, 1) := by decide +kernel
theorem dX10_besideOf_0 : decode cX10_besideOf 0 = .ok (.aload_n 0, 1) := by decide +kernel
theorem dX10_besideOf_1 : decode cX10_besideOf 1 = .ok (.iload_n 1, 1) := by decide +kernel
theorem dX10_besideOf_2 : decode cX10_besideOf 2 = .ok (.invokevirtual 282, 3) := by decide +kernel
theorem dX10_besideOf_5 : decode cX10_besideOf 5 = .ok (.iconst 0, 1) := by decide +kernel
theorem dX10_besideOf_6 : decode cX10_besideOf 6 = .ok (.istore 5, 2) := by decide +kernel
theorem dX10_besideOf_8 : decode cX10_besideOf 8 = .ok (.iload 5, 2) := by decide +kernel
theorem dX10_besideOf_10 : decode cX10_besideOf 10 = .ok (.aload_n 0, 1) := by decide +kernel
theorem dX10_besideOf_11 : decode cX10_besideOf 11 = .ok (.getfield 267, 3) := by decide +kernel
theorem dX10_besideOf_14 : decode cX10_besideOf 14 = .ok (.if_icmp .ge 34, 3) := by decide +kernel
theorem dX10_besideOf_17 : decode cX10_besideOf 17 = .ok (.aload_n 0, 1) := by decide +kernel
theorem dX10_besideOf_18 : decode cX10_besideOf 18 = .ok (.getfield 33, 3) := by decide +kernel
theorem dX10_besideOf_21 : decode cX10_besideOf 21 = .ok (.iload 5, 2) := by decide +kernel
theorem dX10_besideOf_23 : decode cX10_besideOf 23 = .ok (.dup2, 1) := by decide +kernel
theorem dX10_besideOf_24 : decode cX10_besideOf 24 = .ok (.iaload, 1) := by decide +kernel
theorem dX10_besideOf_25 : decode cX10_besideOf 25 = .ok (.aload_n 0, 1) := by decide +kernel
theorem dX10_besideOf_26 : decode cX10_besideOf 26 = .ok (.getfield 17, 3) := by decide +kernel
theorem dX10_besideOf_29 : decode cX10_besideOf 29 = .ok (.sipush 242, 3) := by decide +kernel
theorem dX10_besideOf_32 : decode cX10_besideOf 32 = .ok (.iload_n 2, 1) := by decide +kernel
theorem dX10_besideOf_33 : decode cX10_besideOf 33 = .ok (.imul, 1) := by decide +kernel
theorem dX10_besideOf_34 : decode cX10_besideOf 34 = .ok (.iconst 2, 1) := by decide +kernel
theorem dX10_besideOf_35 : decode cX10_besideOf 35 = .ok (.iadd, 1) := by decide +kernel
theorem dX10_besideOf_36 : decode cX10_besideOf 36 = .ok (.iload 5, 2) := by decide +kernel
theorem dX10_besideOf_38 : decode cX10_besideOf 38 = .ok (.iadd, 1) := by decide +kernel
theorem dX10_besideOf_39 : decode cX10_besideOf 39 = .ok (.iaload, 1) := by decide +kernel
theorem dX10_besideOf_40 : decode cX10_besideOf 40 = .ok (.iadd, 1) := by decide +kernel
theorem dX10_besideOf_41 : decode cX10_besideOf 41 = .ok (.iastore, 1) := by decide +kernel
theorem dX10_besideOf_42 : decode cX10_besideOf 42 = .ok (.iinc 5 1, 3) := by decide +kernel
theorem dX10_besideOf_45 : decode cX10_besideOf 45 = .ok (.goto (-37), 3) := by decide +kernel
theorem dX10_besideOf_48 : decode cX10_besideOf 48 = .ok (.aload_n 0, 1) := by decide +kernel
theorem dX10_besideOf_49 : decode cX10_besideOf 49 = .ok (.iload_n 3, 1) := by decide +kernel
theorem dX10_besideOf_50 : decode cX10_besideOf 50 = .ok (.iconst 1, 1) := by decide +kernel
theorem dX10_besideOf_51 : decode cX10_besideOf 51 = .ok (.invokevirtual 317, 3) := by decide +kernel
theorem dX10_besideOf_54 : decode cX10_besideOf 54 = .ok (.aload_n 0, 1) := by decide +kernel
theorem dX10_besideOf_55 : decode cX10_besideOf 55 = .ok (.iload 4, 2) := by decide +kernel
theorem dX10_besideOf_57 : decode cX10_besideOf 57 = .ok (.invokevirtual 285, 3) := by decide +kernel
theorem dX10_besideOf_60 : decode cX10_besideOf 60 = .ok (.aload_n 0, 1) := by decide +kernel
theorem dX10_besideOf_61 : decode cX10_besideOf 61 = .ok (.iconst (-1), 1) := by decide +kernel
theorem dX10_besideOf_62 : decode cX10_besideOf 62 = .ok (.invokevirtual 393, 3) := by decide +kernel
theorem dX10_besideOf_65 : decode cX10_besideOf 65 = .ok (.aload_n 0, 1) := by decide +kernel
theorem dX10_besideOf_66 : decode cX10_besideOf 66 = .ok (.getfield 390, 3) := by decide +kernel
theorem dX10_besideOf_69 : decode cX10_besideOf 69 = .ok (.ireturn, 1) := by decide +kernel
theorem dX10_beside_0 : decode cX10_beside 0 = .ok (.aload_n 0, 1) := by decide +kernel
theorem dX10_beside_1 : decode cX10_beside 1 = .ok (.iconst 0, 1) := by decide +kernel
theorem dX10_beside_2 : decode cX10_beside 2 = .ok (.putfield 1, 3) := by decide +kernel
theorem dX10_beside_5 : decode cX10_beside 5 = .ok (.aload_n 0, 1) := by decide +kernel
theorem dX10_beside_6 : decode cX10_beside 6 = .ok (.iload_n 1, 1) := by decide +kernel
theorem dX10_beside_7 : decode cX10_beside 7 = .ok (.invokevirtual 277, 3) := by decide +kernel
theorem dX10_beside_10 : decode cX10_beside 10 = .ok (.ifCond .eq 18, 3) := by decide +kernel
theorem dX10_beside_13 : decode cX10_beside 13 = .ok (.aload_n 0, 1) := by decide +kernel
theorem dX10_beside_14 : decode cX10_beside 14 = .ok (.iload_n 2, 1) := by decide +kernel
theorem dX10_beside_15 : decode cX10_beside 15 = .ok (.invokevirtual 277, 3) := by decide +kernel
theorem dX10_beside_18 : decode cX10_beside 18 = .ok (.ifCond .eq 10, 3) := by decide +kernel
theorem dX10_beside_21 : decode cX10_beside 21 = .ok (.iload_n 3, 1) := by decide +kernel
theorem dX10_beside_22 : decode cX10_beside 22 = .ok (.invokestatic 312, 3) := by decide +kernel
theorem dX10_beside_25 : decode cX10_beside 25 = .ok (.ifCond .ne 10, 3) := by decide +kernel
theorem dX10_beside_28 : decode cX10_beside 28 = .ok (.aload_n 0, 1) := by decide +kernel
theorem dX10_beside_29 : decode cX10_beside 29 = .ok (.bipush (-2), 2) := by decide +kernel
theorem dX10_beside_31 : decode cX10_beside 31 = .ok (.invokevirtual 131, 3) := by decide +kernel
theorem dX10_beside_34 : decode cX10_beside 34 = .ok (.ireturn, 1) := by decide +kernel
theorem dX10_beside_35 : decode cX10_beside 35 = .ok (.iload_n 1, 1) := by decide +kernel
theorem dX10_beside_36 : decode cX10_beside 36 = .ok (.iload_n 2, 1) := by decide +kernel
theorem dX10_beside_37 : decode cX10_beside 37 = .ok (.if_icmp .eq 30, 3) := by decide +kernel
theorem dX10_beside_40 : decode cX10_beside 40 = .ok (.aload_n 0, 1) := by decide +kernel
theorem dX10_beside_41 : decode cX10_beside 41 = .ok (.getfield 17, 3) := by decide +kernel
theorem dX10_beside_44 : decode cX10_beside 44 = .ok (.sipush 242, 3) := by decide +kernel
theorem dX10_beside_47 : decode cX10_beside 47 = .ok (.iload_n 1, 1) := by decide +kernel
theorem dX10_beside_48 : decode cX10_beside 48 = .ok (.imul, 1) := by decide +kernel
theorem dX10_beside_49 : decode cX10_beside 49 = .ok (.iconst 0, 1) := by decide +kernel
theorem dX10_beside_50 : decode cX10_beside 50 = .ok (.iadd, 1) := by decide +kernel
theorem dX10_beside_51 : decode cX10_beside 51 = .ok (.iaload, 1) := by decide +kernel
theorem dX10_beside_52 : decode cX10_beside 52 = .ok (.aload_n 0, 1) := by decide +kernel
theorem dX10_beside_53 : decode cX10_beside 53 = .ok (.getfield 17, 3) := by decide +kernel
theorem dX10_beside_56 : decode cX10_beside 56 = .ok (.sipush 242, 3) := by decide +kernel
theorem dX10_beside_59 : decode cX10_beside 59 = .ok (.iload_n 2, 1) := by decide +kernel
theorem dX10_beside_60 : decode cX10_beside 60 = .ok (.imul, 1) := by decide +kernel
theorem dX10_beside_61 : decode cX10_beside 61 = .ok (.iconst 0, 1) := by decide +kernel
theorem dX10_beside_62 : decode cX10_beside 62 = .ok (.iadd, 1) := by decide +kernel
theorem dX10_beside_63 : decode cX10_beside 63 = .ok (.iaload, 1) := by decide +kernel
theorem dX10_beside_64 : decode cX10_beside 64 = .ok (.if_icmp .eq 10, 3) := by decide +kernel
theorem dX10_beside_67 : decode cX10_beside 67 = .ok (.aload_n 0, 1) := by decide +kernel
theorem dX10_beside_68 : decode cX10_beside 68 = .ok (.bipush (-3), 2) := by decide +kernel
theorem dX10_beside_70 : decode cX10_beside 70 = .ok (.invokevirtual 131, 3) := by decide +kernel
theorem dX10_beside_73 : decode cX10_beside 73 = .ok (.ireturn, 1) := by decide +kernel
theorem dX10_beside_74 : decode cX10_beside 74 = .ok (.aload_n 0, 1) := by decide +kernel
theorem dX10_beside_75 : decode cX10_beside 75 = .ok (.iload_n 1, 1) := by decide +kernel
theorem dX10_beside_76 : decode cX10_beside 76 = .ok (.iload_n 2, 1) := by decide +kernel
theorem dX10_beside_77 : decode cX10_beside 77 = .ok (.iload_n 3, 1) := by decide +kernel
theorem dX10_beside_78 : decode cX10_beside 78 = .ok (.iload 4, 2) := by decide +kernel
theorem dX10_beside_80 : decode cX10_beside 80 = .ok (.invokevirtual 430, 3) := by decide +kernel
theorem dX10_beside_83 : decode cX10_beside 83 = .ok (.aload_n 0, 1) := by decide +kernel
theorem dX10_beside_84 : decode cX10_beside 84 = .ok (.iload_n 2, 1) := by decide +kernel
theorem dX10_beside_85 : decode cX10_beside 85 = .ok (.iload_n 1, 1) := by decide +kernel
theorem dX10_beside_86 : decode cX10_beside 86 = .ok (.iload_n 3, 1) := by decide +kernel
theorem dX10_beside_87 : decode cX10_beside 87 = .ok (.iload 4, 2) := by decide +kernel
theorem dX10_beside_89 : decode cX10_beside 89 = .ok (.invokevirtual 430, 3) := by decide +kernel
theorem dX10_beside_92 : decode cX10_beside 92 = .ok (.iadd, 1) := by decide +kernel
theorem dX10_beside_93 : decode cX10_beside 93 = .ok (.ireturn, 1) := by decide +kernel
theorem dX10_never_0 : decode cX10_never 0 = .ok (.aload_n 0, 1) := by decide +kernel
theorem dX10_never_1 : decode cX10_never 1 = .ok (.iconst 0, 1) := by decide +kernel
theorem dX10_never_2 : decode cX10_never 2 = .ok (.putfield 1, 3) := by decide +kernel
theorem dX10_never_5 : decode cX10_never 5 = .ok (.iload_n 1, 1) := by decide +kernel
theorem dX10_never_6 : decode cX10_never 6 = .ok (.invokestatic 312, 3) := by decide +kernel
theorem dX10_never_9 : decode cX10_never 9 = .ok (.ifCond .ne 10, 3) := by decide +kernel
theorem dX10_never_12 : decode cX10_never 12 = .ok (.aload_n 0, 1) := by decide +kernel
theorem dX10_never_13 : decode cX10_never 13 = .ok (.bipush (-2), 2) := by decide +kernel
theorem dX10_never_15 : decode cX10_never 15 = .ok (.invokevirtual 131, 3) := by decide +kernel
theorem dX10_never_18 : decode cX10_never 18 = .ok (.ireturn, 1) := by decide +kernel
theorem dX10_never_19 : decode cX10_never 19 = .ok (.iload_n 2, 1) := by decide +kernel
theorem dX10_never_20 : decode cX10_never 20 = .ok (.i2l, 1) := by decide +kernel
theorem dX10_never_21 : decode cX10_never 21 = .ok (.lconst 1, 1) := by decide +kernel
theorem dX10_never_22 : decode cX10_never 22 = .ok (.ldc2_w 323, 3) := by decide +kernel
theorem dX10_never_25 : decode cX10_never 25 = .ok (.invokestatic 193, 3) := by decide +kernel
theorem dX10_never_28 : decode cX10_never 28 = .ok (.ifCond .ne 10, 3) := by decide +kernel
theorem dX10_never_31 : decode cX10_never 31 = .ok (.aload_n 0, 1) := by decide +kernel
theorem dX10_never_32 : decode cX10_never 32 = .ok (.bipush (-3), 2) := by decide +kernel
theorem dX10_never_34 : decode cX10_never 34 = .ok (.invokevirtual 131, 3) := by decide +kernel
theorem dX10_never_37 : decode cX10_never 37 = .ok (.ireturn, 1) := by decide +kernel
theorem dX10_never_38 : decode cX10_never 38 = .ok (.iconst 0, 1) := by decide +kernel
theorem dX10_never_39 : decode cX10_never 39 = .ok (.istore_n 3, 1) := by decide +kernel
theorem dX10_never_40 : decode cX10_never 40 = .ok (.iconst 0, 1) := by decide +kernel
theorem dX10_never_41 : decode cX10_never 41 = .ok (.istore 4, 2) := by decide +kernel
theorem dX10_never_43 : decode cX10_never 43 = .ok (.iload 4, 2) := by decide +kernel
theorem dX10_never_45 : decode cX10_never 45 = .ok (.iconst 4, 1) := by decide +kernel
theorem dX10_never_46 : decode cX10_never 46 = .ok (.if_icmp .ge 75, 3) := by decide +kernel
theorem dX10_never_49 : decode cX10_never 49 = .ok (.aload_n 0, 1) := by decide +kernel
theorem dX10_never_50 : decode cX10_never 50 = .ok (.iload 4, 2) := by decide +kernel
theorem dX10_never_52 : decode cX10_never 52 = .ok (.invokevirtual 277, 3) := by decide +kernel
theorem dX10_never_55 : decode cX10_never 55 = .ok (.istore 5, 2) := by decide +kernel
theorem dX10_never_57 : decode cX10_never 57 = .ok (.iconst 1, 1) := by decide +kernel
theorem dX10_never_58 : decode cX10_never 58 = .ok (.istore 6, 2) := by decide +kernel
theorem dX10_never_60 : decode cX10_never 60 = .ok (.iload 6, 2) := by decide +kernel
theorem dX10_never_62 : decode cX10_never 62 = .ok (.iload_n 2, 1) := by decide +kernel
theorem dX10_never_63 : decode cX10_never 63 = .ok (.if_icmp .gt 36, 3) := by decide +kernel
theorem dX10_never_66 : decode cX10_never 66 = .ok (.iload 5, 2) := by decide +kernel
theorem dX10_never_68 : decode cX10_never 68 = .ok (.ifCond .eq 31, 3) := by decide +kernel
theorem dX10_never_71 : decode cX10_never 71 = .ok (.aload_n 0, 1) := by decide +kernel
theorem dX10_never_72 : decode cX10_never 72 = .ok (.iload 4, 2) := by decide +kernel
theorem dX10_never_74 : decode cX10_never 74 = .ok (.iload_n 1, 1) := by decide +kernel
theorem dX10_never_75 : decode cX10_never 75 = .ok (.iload 6, 2) := by decide +kernel
theorem dX10_never_77 : decode cX10_never 77 = .ok (.iconst 1, 1) := by decide +kernel
theorem dX10_never_78 : decode cX10_never 78 = .ok (.iconst (-1), 1) := by decide +kernel
theorem dX10_never_79 : decode cX10_never 79 = .ok (.invokevirtual 400, 3) := by decide +kernel
theorem dX10_never_82 : decode cX10_never 82 = .ok (.iconst 3, 1) := by decide +kernel
theorem dX10_never_83 : decode cX10_never 83 = .ok (.if_icmp .ge 7, 3) := by decide +kernel
theorem dX10_never_86 : decode cX10_never 86 = .ok (.iconst 1, 1) := by decide +kernel
theorem dX10_never_87 : decode cX10_never 87 = .ok (.goto 4, 3) := by decide +kernel
theorem dX10_never_90 : decode cX10_never 90 = .ok (.iconst 0, 1) := by decide +kernel
theorem dX10_never_91 : decode cX10_never 91 = .ok (.istore 5, 2) := by decide +kernel
theorem dX10_never_93 : decode cX10_never 93 = .ok (.iinc 6 1, 3) := by decide +kernel
theorem dX10_never_96 : decode cX10_never 96 = .ok (.goto (-36), 3) := by decide +kernel
theorem dX10_never_99 : decode cX10_never 99 = .ok (.iload_n 3, 1) := by decide +kernel
theorem dX10_never_100 : decode cX10_never 100 = .ok (.iload 5, 2) := by decide +kernel
theorem dX10_never_102 : decode cX10_never 102 = .ok (.ifCond .eq 10, 3) := by decide +kernel
theorem dX10_never_105 : decode cX10_never 105 = .ok (.iconst 1, 1) := by decide +kernel
theorem dX10_never_106 : decode cX10_never 106 = .ok (.iload 4, 2) := by decide +kernel
theorem dX10_never_108 : decode cX10_never 108 = .ok (.ishl, 1) := by decide +kernel
theorem dX10_never_109 : decode cX10_never 109 = .ok (.goto 4, 3) := by decide +kernel
theorem dX10_never_112 : decode cX10_never 112 = .ok (.iconst 0, 1) := by decide +kernel
theorem dX10_never_113 : decode cX10_never 113 = .ok (.ior, 1) := by decide +kernel
theorem dX10_never_114 : decode cX10_never 114 = .ok (.istore_n 3, 1) := by decide +kernel
theorem dX10_never_115 : decode cX10_never 115 = .ok (.iinc 4 1, 3) := by decide +kernel
theorem dX10_never_118 : decode cX10_never 118 = .ok (.goto (-75), 3) := by decide +kernel
theorem dX10_never_121 : decode cX10_never 121 = .ok (.iload_n 3, 1) := by decide +kernel
theorem dX10_never_122 : decode cX10_never 122 = .ok (.ireturn, 1) := by decide +kernel
theorem dX10_isRead_0 : decode cX10_isRead 0 = .ok (.iconst 0, 1) := by decide +kernel
theorem dX10_isRead_1 : decode cX10_isRead 1 = .ok (.istore_n 2, 1) := by decide +kernel
theorem dX10_isRead_2 : decode cX10_isRead 2 = .ok (.iload_n 2, 1) := by decide +kernel
theorem dX10_isRead_3 : decode cX10_isRead 3 = .ok (.aload_n 0, 1) := by decide +kernel
theorem dX10_isRead_4 : decode cX10_isRead 4 = .ok (.getfield 117, 3) := by decide +kernel
theorem dX10_isRead_7 : decode cX10_isRead 7 = .ok (.iload_n 1, 1) := by decide +kernel
theorem dX10_isRead_8 : decode cX10_isRead 8 = .ok (.iaload, 1) := by decide +kernel
theorem dX10_isRead_9 : decode cX10_isRead 9 = .ok (.if_icmp .ge 25, 3) := by decide +kernel
theorem dX10_isRead_12 : decode cX10_isRead 12 = .ok (.aload_n 0, 1) := by decide +kernel
theorem dX10_isRead_13 : decode cX10_isRead 13 = .ok (.getfield 120, 3) := by decide +kernel
theorem dX10_isRead_16 : decode cX10_isRead 16 = .ok (.bipush 60, 2) := by decide +kernel
theorem dX10_isRead_18 : decode cX10_isRead 18 = .ok (.iload_n 1, 1) := by decide +kernel
theorem dX10_isRead_19 : decode cX10_isRead 19 = .ok (.imul, 1) := by decide +kernel
theorem dX10_isRead_20 : decode cX10_isRead 20 = .ok (.iload_n 2, 1) := by decide +kernel
theorem dX10_isRead_21 : decode cX10_isRead 21 = .ok (.iadd, 1) := by decide +kernel
theorem dX10_isRead_22 : decode cX10_isRead 22 = .ok (.laload, 1) := by decide +kernel
theorem dX10_isRead_23 : decode cX10_isRead 23 = .ok (.lconst 0, 1) := by decide +kernel
theorem dX10_isRead_24 : decode cX10_isRead 24 = .ok (.lcmp, 1) := by decide +kernel
theorem dX10_isRead_25 : decode cX10_isRead 25 = .ok (.ifCond .eq 9, 3) := by decide +kernel
theorem dX10_isRead_28 : decode cX10_isRead 28 = .ok (.iinc 2 1, 3) := by decide +kernel
theorem dX10_isRead_31 : decode cX10_isRead 31 = .ok (.goto (-29), 3) := by decide +kernel
theorem dX10_isRead_34 : decode cX10_isRead 34 = .ok (.iload_n 2, 1) := by decide +kernel
theorem dX10_isRead_35 : decode cX10_isRead 35 = .ok (.aload_n 0, 1) := by decide +kernel
theorem dX10_isRead_36 : decode cX10_isRead 36 = .ok (.getfield 390, 3) := by decide +kernel
theorem dX10_isRead_39 : decode cX10_isRead 39 = .ok (.if_icmp .eq 5, 3) := by decide +kernel
theorem dX10_isRead_42 : decode cX10_isRead 42 = .ok (.iconst 0, 1) := by decide +kernel
theorem dX10_isRead_43 : decode cX10_isRead 43 = .ok (.ireturn, 1) := by decide +kernel
theorem dX10_isRead_44 : decode cX10_isRead 44 = .ok (.iconst 0, 1) := by decide +kernel
theorem dX10_isRead_45 : decode cX10_isRead 45 = .ok (.istore_n 3, 1) := by decide +kernel
theorem dX10_isRead_46 : decode cX10_isRead 46 = .ok (.iload_n 3, 1) := by decide +kernel
theorem dX10_isRead_47 : decode cX10_isRead 47 = .ok (.iload_n 2, 1) := by decide +kernel
theorem dX10_isRead_48 : decode cX10_isRead 48 = .ok (.if_icmp .ge 33, 3) := by decide +kernel
theorem dX10_isRead_51 : decode cX10_isRead 51 = .ok (.aload_n 0, 1) := by decide +kernel
theorem dX10_isRead_52 : decode cX10_isRead 52 = .ok (.getfield 120, 3) := by decide +kernel
theorem dX10_isRead_55 : decode cX10_isRead 55 = .ok (.bipush 60, 2) := by decide +kernel
theorem dX10_isRead_57 : decode cX10_isRead 57 = .ok (.iload_n 1, 1) := by decide +kernel
theorem dX10_isRead_58 : decode cX10_isRead 58 = .ok (.imul, 1) := by decide +kernel
theorem dX10_isRead_59 : decode cX10_isRead 59 = .ok (.iload_n 3, 1) := by decide +kernel
theorem dX10_isRead_60 : decode cX10_isRead 60 = .ok (.iadd, 1) := by decide +kernel
theorem dX10_isRead_61 : decode cX10_isRead 61 = .ok (.laload, 1) := by decide +kernel
theorem dX10_isRead_62 : decode cX10_isRead 62 = .ok (.aload_n 0, 1) := by decide +kernel
theorem dX10_isRead_63 : decode cX10_isRead 63 = .ok (.getfield 87, 3) := by decide +kernel
theorem dX10_isRead_66 : decode cX10_isRead 66 = .ok (.iload_n 3, 1) := by decide +kernel
theorem dX10_isRead_67 : decode cX10_isRead 67 = .ok (.iaload, 1) := by decide +kernel
theorem dX10_isRead_68 : decode cX10_isRead 68 = .ok (.i2l, 1) := by decide +kernel
theorem dX10_isRead_69 : decode cX10_isRead 69 = .ok (.lcmp, 1) := by decide +kernel
theorem dX10_isRead_70 : decode cX10_isRead 70 = .ok (.ifCond .eq 5, 3) := by decide +kernel
theorem dX10_isRead_73 : decode cX10_isRead 73 = .ok (.iconst 0, 1) := by decide +kernel
theorem dX10_isRead_74 : decode cX10_isRead 74 = .ok (.ireturn, 1) := by decide +kernel
theorem dX10_isRead_75 : decode cX10_isRead 75 = .ok (.iinc 3 1, 3) := by decide +kernel
theorem dX10_isRead_78 : decode cX10_isRead 78 = .ok (.goto (-32), 3) := by decide +kernel
theorem dX10_isRead_81 : decode cX10_isRead 81 = .ok (.iconst 1, 1) := by decide +kernel
theorem dX10_isRead_82 : decode cX10_isRead 82 = .ok (.ireturn, 1) := by decide +kernel
theorem dX10_readsOf_0 : decode cX10_readsOf 0 = .ok (.iconst 0, 1) := by decide +kernel
theorem dX10_readsOf_1 : decode cX10_readsOf 1 = .ok (.istore 6, 2) := by decide +kernel
theorem dX10_readsOf_3 : decode cX10_readsOf 3 = .ok (.iconst 1, 1) := by decide +kernel
theorem dX10_readsOf_4 : decode cX10_readsOf 4 = .ok (.istore 7, 2) := by decide +kernel
theorem dX10_readsOf_6 : decode cX10_readsOf 6 = .ok (.iload 7, 2) := by decide +kernel
theorem dX10_readsOf_8 : decode cX10_readsOf 8 = .ok (.iload 4, 2) := by decide +kernel
theorem dX10_readsOf_10 : decode cX10_readsOf 10 = .ok (.if_icmp .gt 62, 3) := by decide +kernel
theorem dX10_readsOf_13 : decode cX10_readsOf 13 = .ok (.aload_n 0, 1) := by decide +kernel
theorem dX10_readsOf_14 : decode cX10_readsOf 14 = .ok (.iload_n 1, 1) := by decide +kernel
theorem dX10_readsOf_15 : decode cX10_readsOf 15 = .ok (.iload_n 3, 1) := by decide +kernel
theorem dX10_readsOf_16 : decode cX10_readsOf 16 = .ok (.iload 7, 2) := by decide +kernel
theorem dX10_readsOf_18 : decode cX10_readsOf 18 = .ok (.iconst 1, 1) := by decide +kernel
theorem dX10_readsOf_19 : decode cX10_readsOf 19 = .ok (.iconst (-1), 1) := by decide +kernel
theorem dX10_readsOf_20 : decode cX10_readsOf 20 = .ok (.invokevirtual 400, 3) := by decide +kernel
theorem dX10_readsOf_23 : decode cX10_readsOf 23 = .ok (.pop, 1) := by decide +kernel
theorem dX10_readsOf_24 : decode cX10_readsOf 24 = .ok (.iload 6, 2) := by decide +kernel
theorem dX10_readsOf_26 : decode cX10_readsOf 26 = .ok (.aload_n 0, 1) := by decide +kernel
theorem dX10_readsOf_27 : decode cX10_readsOf 27 = .ok (.iload_n 2, 1) := by decide +kernel
theorem dX10_readsOf_28 : decode cX10_readsOf 28 = .ok (.invokevirtual 433, 3) := by decide +kernel
theorem dX10_readsOf_31 : decode cX10_readsOf 31 = .ok (.ifCond .eq 31, 3) := by decide +kernel
theorem dX10_readsOf_34 : decode cX10_readsOf 34 = .ok (.iload 5, 2) := by decide +kernel
theorem dX10_readsOf_36 : decode cX10_readsOf 36 = .ok (.iconst (-1), 1) := by decide +kernel
theorem dX10_readsOf_37 : decode cX10_readsOf 37 = .ok (.if_icmp .eq 21, 3) := by decide +kernel
theorem dX10_readsOf_40 : decode cX10_readsOf 40 = .ok (.aload_n 0, 1) := by decide +kernel
theorem dX10_readsOf_41 : decode cX10_readsOf 41 = .ok (.getfield 328, 3) := by decide +kernel
theorem dX10_readsOf_44 : decode cX10_readsOf 44 = .ok (.ifCond .le 18, 3) := by decide +kernel
theorem dX10_readsOf_47 : decode cX10_readsOf 47 = .ok (.aload_n 0, 1) := by decide +kernel
theorem dX10_readsOf_48 : decode cX10_readsOf 48 = .ok (.getfield 75, 3) := by decide +kernel
theorem dX10_readsOf_51 : decode cX10_readsOf 51 = .ok (.iconst 0, 1) := by decide +kernel
theorem dX10_readsOf_52 : decode cX10_readsOf 52 = .ok (.iaload, 1) := by decide +kernel
theorem dX10_readsOf_53 : decode cX10_readsOf 53 = .ok (.iload 5, 2) := by decide +kernel
theorem dX10_readsOf_55 : decode cX10_readsOf 55 = .ok (.if_icmp .ne 7, 3) := by decide +kernel
theorem dX10_readsOf_58 : decode cX10_readsOf 58 = .ok (.iconst 1, 1) := by decide +kernel
theorem dX10_readsOf_59 : decode cX10_readsOf 59 = .ok (.goto 4, 3) := by decide +kernel
theorem dX10_readsOf_62 : decode cX10_readsOf 62 = .ok (.iconst 0, 1) := by decide +kernel
theorem dX10_readsOf_63 : decode cX10_readsOf 63 = .ok (.iadd, 1) := by decide +kernel
theorem dX10_readsOf_64 : decode cX10_readsOf 64 = .ok (.istore 6, 2) := by decide +kernel
theorem dX10_readsOf_66 : decode cX10_readsOf 66 = .ok (.iinc 7 1, 3) := by decide +kernel
theorem dX10_readsOf_69 : decode cX10_readsOf 69 = .ok (.goto (-63), 3) := by decide +kernel
theorem dX10_readsOf_72 : decode cX10_readsOf 72 = .ok (.iload 6, 2) := by decide +kernel
theorem dX10_readsOf_74 : decode cX10_readsOf 74 = .ok (.ireturn, 1) := by decide +kernel
theorem dX10_read_0 : decode cX10_read 0 = .ok (.aload_n 0, 1) := by decide +kernel
theorem dX10_read_1 : decode cX10_read 1 = .ok (.iconst 0, 1) := by decide +kernel
theorem dX10_read_2 : decode cX10_read 2 = .ok (.putfield 1, 3) := by decide +kernel
theorem dX10_read_5 : decode cX10_read 5 = .ok (.aload_n 0, 1) := by decide +kernel
theorem dX10_read_6 : decode cX10_read 6 = .ok (.iload_n 1, 1) := by decide +kernel
theorem dX10_read_7 : decode cX10_read 7 = .ok (.invokevirtual 277, 3) := by decide +kernel
theorem dX10_read_10 : decode cX10_read 10 = .ok (.ifCond .eq 26, 3) := by decide +kernel
theorem dX10_read_13 : decode cX10_read 13 = .ok (.iload_n 2, 1) := by decide +kernel
theorem dX10_read_14 : decode cX10_read 14 = .ok (.i2l, 1) := by decide +kernel
theorem dX10_read_15 : decode cX10_read 15 = .ok (.lconst 0, 1) := by decide +kernel
theorem dX10_read_16 : decode cX10_read 16 = .ok (.ldc2_w 250, 3) := by decide +kernel
theorem dX10_read_19 : decode cX10_read 19 = .ok (.invokestatic 193, 3) := by decide +kernel
theorem dX10_read_22 : decode cX10_read 22 = .ok (.ifCond .eq 14, 3) := by decide +kernel
theorem dX10_read_25 : decode cX10_read 25 = .ok (.iload 4, 2) := by decide +kernel
theorem dX10_read_27 : decode cX10_read 27 = .ok (.i2l, 1) := by decide +kernel
theorem dX10_read_28 : decode cX10_read 28 = .ok (.lconst 0, 1) := by decide +kernel
theorem dX10_read_29 : decode cX10_read 29 = .ok (.lconst 1, 1) := by decide +kernel
theorem dX10_read_30 : decode cX10_read 30 = .ok (.invokestatic 193, 3) := by decide +kernel
theorem dX10_read_33 : decode cX10_read 33 = .ok (.ifCond .ne 10, 3) := by decide +kernel
theorem dX10_read_36 : decode cX10_read 36 = .ok (.aload_n 0, 1) := by decide +kernel
theorem dX10_read_37 : decode cX10_read 37 = .ok (.bipush (-2), 2) := by decide +kernel
theorem dX10_read_39 : decode cX10_read 39 = .ok (.invokevirtual 131, 3) := by decide +kernel
theorem dX10_read_42 : decode cX10_read 42 = .ok (.ireturn, 1) := by decide +kernel
theorem dX10_read_43 : decode cX10_read 43 = .ok (.iload_n 3, 1) := by decide +kernel
theorem dX10_read_44 : decode cX10_read 44 = .ok (.i2l, 1) := by decide +kernel
theorem dX10_read_45 : decode cX10_read 45 = .ok (.lconst 1, 1) := by decide +kernel
theorem dX10_read_46 : decode cX10_read 46 = .ok (.ldc2_w 323, 3) := by decide +kernel
theorem dX10_read_49 : decode cX10_read 49 = .ok (.invokestatic 193, 3) := by decide +kernel
theorem dX10_read_52 : decode cX10_read 52 = .ok (.ifCond .ne 10, 3) := by decide +kernel
theorem dX10_read_55 : decode cX10_read 55 = .ok (.aload_n 0, 1) := by decide +kernel
theorem dX10_read_56 : decode cX10_read 56 = .ok (.bipush (-3), 2) := by decide +kernel
theorem dX10_read_58 : decode cX10_read 58 = .ok (.invokevirtual 131, 3) := by decide +kernel
theorem dX10_read_61 : decode cX10_read 61 = .ok (.ireturn, 1) := by decide +kernel
theorem dX10_read_62 : decode cX10_read 62 = .ok (.aload_n 0, 1) := by decide +kernel
theorem dX10_read_63 : decode cX10_read 63 = .ok (.getfield 114, 3) := by decide +kernel
theorem dX10_read_66 : decode cX10_read 66 = .ok (.iload_n 2, 1) := by decide +kernel
theorem dX10_read_67 : decode cX10_read 67 = .ok (.iaload, 1) := by decide +kernel
theorem dX10_read_68 : decode cX10_read 68 = .ok (.iconst (-1), 1) := by decide +kernel
theorem dX10_read_69 : decode cX10_read 69 = .ok (.if_icmp .ne 10, 3) := by decide +kernel
theorem dX10_read_72 : decode cX10_read 72 = .ok (.aload_n 0, 1) := by decide +kernel
theorem dX10_read_73 : decode cX10_read 73 = .ok (.bipush (-6), 2) := by decide +kernel
theorem dX10_read_75 : decode cX10_read 75 = .ok (.invokevirtual 131, 3) := by decide +kernel
theorem dX10_read_78 : decode cX10_read 78 = .ok (.ireturn, 1) := by decide +kernel
theorem dX10_read_79 : decode cX10_read 79 = .ok (.iconst 0, 1) := by decide +kernel
theorem dX10_read_80 : decode cX10_read 80 = .ok (.istore 5, 2) := by decide +kernel
theorem dX10_read_82 : decode cX10_read 82 = .ok (.iconst (-1), 1) := by decide +kernel
theorem dX10_read_83 : decode cX10_read 83 = .ok (.istore 6, 2) := by decide +kernel
theorem dX10_read_85 : decode cX10_read 85 = .ok (.iconst 0, 1) := by decide +kernel
theorem dX10_read_86 : decode cX10_read 86 = .ok (.istore 7, 2) := by decide +kernel
theorem dX10_read_88 : decode cX10_read 88 = .ok (.iconst 0, 1) := by decide +kernel
theorem dX10_read_89 : decode cX10_read 89 = .ok (.istore 8, 2) := by decide +kernel
theorem dX10_read_91 : decode cX10_read 91 = .ok (.iload 8, 2) := by decide +kernel
theorem dX10_read_93 : decode cX10_read 93 = .ok (.iconst 4, 1) := by decide +kernel
theorem dX10_read_94 : decode cX10_read 94 = .ok (.if_icmp .ge 60, 3) := by decide +kernel
theorem dX10_read_97 : decode cX10_read 97 = .ok (.aload_n 0, 1) := by decide +kernel
theorem dX10_read_98 : decode cX10_read 98 = .ok (.iload_n 1, 1) := by decide +kernel
theorem dX10_read_99 : decode cX10_read 99 = .ok (.iload_n 2, 1) := by decide +kernel
theorem dX10_read_100 : decode cX10_read 100 = .ok (.iload 8, 2) := by decide +kernel
theorem dX10_read_102 : decode cX10_read 102 = .ok (.iload_n 3, 1) := by decide +kernel
theorem dX10_read_103 : decode cX10_read 103 = .ok (.iconst (-1), 1) := by decide +kernel
theorem dX10_read_104 : decode cX10_read 104 = .ok (.invokevirtual 436, 3) := by decide +kernel
theorem dX10_read_107 : decode cX10_read 107 = .ok (.istore 9, 2) := by decide +kernel
theorem dX10_read_109 : decode cX10_read 109 = .ok (.iload 5, 2) := by decide +kernel
theorem dX10_read_111 : decode cX10_read 111 = .ok (.iload 9, 2) := by decide +kernel
theorem dX10_read_113 : decode cX10_read 113 = .ok (.iadd, 1) := by decide +kernel
theorem dX10_read_114 : decode cX10_read 114 = .ok (.istore 5, 2) := by decide +kernel
theorem dX10_read_116 : decode cX10_read 116 = .ok (.iload 9, 2) := by decide +kernel
theorem dX10_read_118 : decode cX10_read 118 = .ok (.iload 7, 2) := by decide +kernel
theorem dX10_read_120 : decode cX10_read 120 = .ok (.if_icmp .le 8, 3) := by decide +kernel
theorem dX10_read_123 : decode cX10_read 123 = .ok (.iload 8, 2) := by decide +kernel
theorem dX10_read_125 : decode cX10_read 125 = .ok (.goto 5, 3) := by decide +kernel
theorem dX10_read_128 : decode cX10_read 128 = .ok (.iload 6, 2) := by decide +kernel
theorem dX10_read_130 : decode cX10_read 130 = .ok (.istore 6, 2) := by decide +kernel
theorem dX10_read_132 : decode cX10_read 132 = .ok (.iload 9, 2) := by decide +kernel
theorem dX10_read_134 : decode cX10_read 134 = .ok (.iload 7, 2) := by decide +kernel
theorem dX10_read_136 : decode cX10_read 136 = .ok (.if_icmp .le 8, 3) := by decide +kernel
theorem dX10_read_139 : decode cX10_read 139 = .ok (.iload 9, 2) := by decide +kernel
theorem dX10_read_141 : decode cX10_read 141 = .ok (.goto 5, 3) := by decide +kernel
theorem dX10_read_144 : decode cX10_read 144 = .ok (.iload 7, 2) := by decide +kernel
theorem dX10_read_146 : decode cX10_read 146 = .ok (.istore 7, 2) := by decide +kernel
theorem dX10_read_148 : decode cX10_read 148 = .ok (.iinc 8 1, 3) := by decide +kernel
theorem dX10_read_151 : decode cX10_read 151 = .ok (.goto (-60), 3) := by decide +kernel
theorem dX10_read_154 : decode cX10_read 154 = .ok (.iload 4, 2) := by decide +kernel
theorem dX10_read_156 : decode cX10_read 156 = .ok (.ifCond .ne 8, 3) := by decide +kernel
theorem dX10_read_159 : decode cX10_read 159 = .ok (.iload 5, 2) := by decide +kernel
theorem dX10_read_161 : decode cX10_read 161 = .ok (.goto 5, 3) := by decide +kernel
theorem dX10_read_164 : decode cX10_read 164 = .ok (.iload 6, 2) := by decide +kernel
theorem dX10_read_166 : decode cX10_read 166 = .ok (.ireturn, 1) := by decide +kernel
theorem dX10_was_0 : decode cX10_was 0 = .ok (.aload_n 0, 1) := by decide +kernel
theorem dX10_was_1 : decode cX10_was 1 = .ok (.iconst 0, 1) := by decide +kernel
theorem dX10_was_2 : decode cX10_was 2 = .ok (.putfield 1, 3) := by decide +kernel
theorem dX10_was_5 : decode cX10_was 5 = .ok (.aload_n 0, 1) := by decide +kernel
theorem dX10_was_6 : decode cX10_was 6 = .ok (.iload_n 1, 1) := by decide +kernel
theorem dX10_was_7 : decode cX10_was 7 = .ok (.invokevirtual 277, 3) := by decide +kernel
theorem dX10_was_10 : decode cX10_was 10 = .ok (.ifCond .eq 25, 3) := by decide +kernel
theorem dX10_was_13 : decode cX10_was 13 = .ok (.iload_n 2, 1) := by decide +kernel
theorem dX10_was_14 : decode cX10_was 14 = .ok (.i2l, 1) := by decide +kernel
theorem dX10_was_15 : decode cX10_was 15 = .ok (.lconst 0, 1) := by decide +kernel
theorem dX10_was_16 : decode cX10_was 16 = .ok (.ldc2_w 250, 3) := by decide +kernel
theorem dX10_was_19 : decode cX10_was 19 = .ok (.invokestatic 193, 3) := by decide +kernel
theorem dX10_was_22 : decode cX10_was 22 = .ok (.ifCond .eq 13, 3) := by decide +kernel
theorem dX10_was_25 : decode cX10_was 25 = .ok (.aload_n 0, 1) := by decide +kernel
theorem dX10_was_26 : decode cX10_was 26 = .ok (.iload_n 1, 1) := by decide +kernel
theorem dX10_was_27 : decode cX10_was 27 = .ok (.iload 4, 2) := by decide +kernel
theorem dX10_was_29 : decode cX10_was 29 = .ok (.invokevirtual 414, 3) := by decide +kernel
theorem dX10_was_32 : decode cX10_was 32 = .ok (.ifCond .ne 10, 3) := by decide +kernel
theorem dX10_was_35 : decode cX10_was 35 = .ok (.aload_n 0, 1) := by decide +kernel
theorem dX10_was_36 : decode cX10_was 36 = .ok (.bipush (-2), 2) := by decide +kernel
theorem dX10_was_38 : decode cX10_was 38 = .ok (.invokevirtual 131, 3) := by decide +kernel
theorem dX10_was_41 : decode cX10_was 41 = .ok (.ireturn, 1) := by decide +kernel
theorem dX10_was_42 : decode cX10_was 42 = .ok (.iload_n 3, 1) := by decide +kernel
theorem dX10_was_43 : decode cX10_was 43 = .ok (.i2l, 1) := by decide +kernel
theorem dX10_was_44 : decode cX10_was 44 = .ok (.lconst 1, 1) := by decide +kernel
theorem dX10_was_45 : decode cX10_was 45 = .ok (.ldc2_w 323, 3) := by decide +kernel
theorem dX10_was_48 : decode cX10_was 48 = .ok (.invokestatic 193, 3) := by decide +kernel
theorem dX10_was_51 : decode cX10_was 51 = .ok (.ifCond .ne 10, 3) := by decide +kernel
theorem dX10_was_54 : decode cX10_was 54 = .ok (.aload_n 0, 1) := by decide +kernel
theorem dX10_was_55 : decode cX10_was 55 = .ok (.bipush (-3), 2) := by decide +kernel
theorem dX10_was_57 : decode cX10_was 57 = .ok (.invokevirtual 131, 3) := by decide +kernel
theorem dX10_was_60 : decode cX10_was 60 = .ok (.ireturn, 1) := by decide +kernel
theorem dX10_was_61 : decode cX10_was 61 = .ok (.aload_n 0, 1) := by decide +kernel
theorem dX10_was_62 : decode cX10_was 62 = .ok (.getfield 114, 3) := by decide +kernel
theorem dX10_was_65 : decode cX10_was 65 = .ok (.iload_n 2, 1) := by decide +kernel
theorem dX10_was_66 : decode cX10_was 66 = .ok (.iaload, 1) := by decide +kernel
theorem dX10_was_67 : decode cX10_was 67 = .ok (.iconst (-1), 1) := by decide +kernel
theorem dX10_was_68 : decode cX10_was 68 = .ok (.if_icmp .ne 10, 3) := by decide +kernel
theorem dX10_was_71 : decode cX10_was 71 = .ok (.aload_n 0, 1) := by decide +kernel
theorem dX10_was_72 : decode cX10_was 72 = .ok (.bipush (-6), 2) := by decide +kernel
theorem dX10_was_74 : decode cX10_was 74 = .ok (.invokevirtual 131, 3) := by decide +kernel
theorem dX10_was_77 : decode cX10_was 77 = .ok (.ireturn, 1) := by decide +kernel
theorem dX10_was_78 : decode cX10_was 78 = .ok (.iconst 0, 1) := by decide +kernel
theorem dX10_was_79 : decode cX10_was 79 = .ok (.istore 5, 2) := by decide +kernel
theorem dX10_was_81 : decode cX10_was 81 = .ok (.iconst 0, 1) := by decide +kernel
theorem dX10_was_82 : decode cX10_was 82 = .ok (.istore 6, 2) := by decide +kernel
theorem dX10_was_84 : decode cX10_was 84 = .ok (.iload 6, 2) := by decide +kernel
theorem dX10_was_86 : decode cX10_was 86 = .ok (.iconst 4, 1) := by decide +kernel
theorem dX10_was_87 : decode cX10_was 87 = .ok (.if_icmp .ge 25, 3) := by decide +kernel
theorem dX10_was_90 : decode cX10_was 90 = .ok (.iload 5, 2) := by decide +kernel
theorem dX10_was_92 : decode cX10_was 92 = .ok (.aload_n 0, 1) := by decide +kernel
theorem dX10_was_93 : decode cX10_was 93 = .ok (.iload_n 1, 1) := by decide +kernel
theorem dX10_was_94 : decode cX10_was 94 = .ok (.iload_n 2, 1) := by decide +kernel
theorem dX10_was_95 : decode cX10_was 95 = .ok (.iload 6, 2) := by decide +kernel
theorem dX10_was_97 : decode cX10_was 97 = .ok (.iload_n 3, 1) := by decide +kernel
theorem dX10_was_98 : decode cX10_was 98 = .ok (.iload 4, 2) := by decide +kernel
theorem dX10_was_100 : decode cX10_was 100 = .ok (.invokevirtual 436, 3) := by decide +kernel
theorem dX10_was_103 : decode cX10_was 103 = .ok (.iadd, 1) := by decide +kernel
theorem dX10_was_104 : decode cX10_was 104 = .ok (.istore 5, 2) := by decide +kernel
theorem dX10_was_106 : decode cX10_was 106 = .ok (.iinc 6 1, 3) := by decide +kernel
theorem dX10_was_109 : decode cX10_was 109 = .ok (.goto (-25), 3) := by decide +kernel
theorem dX10_was_112 : decode cX10_was 112 = .ok (.iload 5, 2) := by decide +kernel
theorem dX10_was_114 : decode cX10_was 114 = .ok (.ireturn, 1) := by decide +kernel
theorem dX10_kinds_0 : decode cX10_kinds 0 = .ok (.iconst 0, 1) := by decide +kernel
theorem dX10_kinds_1 : decode cX10_kinds 1 = .ok (.istore_n 2, 1) := by decide +kernel
theorem dX10_kinds_2 : decode cX10_kinds 2 = .ok (.iconst 0, 1) := by decide +kernel
theorem dX10_kinds_3 : decode cX10_kinds 3 = .ok (.istore_n 3, 1) := by decide +kernel
theorem dX10_kinds_4 : decode cX10_kinds 4 = .ok (.iload_n 3, 1) := by decide +kernel
theorem dX10_kinds_5 : decode cX10_kinds 5 = .ok (.aload_n 0, 1) := by decide +kernel
theorem dX10_kinds_6 : decode cX10_kinds 6 = .ok (.getfield 328, 3) := by decide +kernel
theorem dX10_kinds_9 : decode cX10_kinds 9 = .ok (.if_icmp .ge 27, 3) := by decide +kernel
theorem dX10_kinds_12 : decode cX10_kinds 12 = .ok (.iload_n 2, 1) := by decide +kernel
theorem dX10_kinds_13 : decode cX10_kinds 13 = .ok (.aload_n 0, 1) := by decide +kernel
theorem dX10_kinds_14 : decode cX10_kinds 14 = .ok (.getfield 81, 3) := by decide +kernel
theorem dX10_kinds_17 : decode cX10_kinds 17 = .ok (.iload_n 3, 1) := by decide +kernel
theorem dX10_kinds_18 : decode cX10_kinds 18 = .ok (.iaload, 1) := by decide +kernel
theorem dX10_kinds_19 : decode cX10_kinds 19 = .ok (.iload_n 1, 1) := by decide +kernel
theorem dX10_kinds_20 : decode cX10_kinds 20 = .ok (.if_icmp .ne 7, 3) := by decide +kernel
theorem dX10_kinds_23 : decode cX10_kinds 23 = .ok (.iconst 1, 1) := by decide +kernel
theorem dX10_kinds_24 : decode cX10_kinds 24 = .ok (.goto 4, 3) := by decide +kernel
theorem dX10_kinds_27 : decode cX10_kinds 27 = .ok (.iconst 0, 1) := by decide +kernel
theorem dX10_kinds_28 : decode cX10_kinds 28 = .ok (.iadd, 1) := by decide +kernel
theorem dX10_kinds_29 : decode cX10_kinds 29 = .ok (.istore_n 2, 1) := by decide +kernel
theorem dX10_kinds_30 : decode cX10_kinds 30 = .ok (.iinc 3 1, 3) := by decide +kernel
theorem dX10_kinds_33 : decode cX10_kinds 33 = .ok (.goto (-29), 3) := by decide +kernel
theorem dX10_kinds_36 : decode cX10_kinds 36 = .ok (.iload_n 2, 1) := by decide +kernel
theorem dX10_kinds_37 : decode cX10_kinds 37 = .ok (.ireturn, 1) := by decide +kernel
theorem dX10_longest_0 : decode cX10_longest 0 = .ok (.aload_n 0, 1) := by decide +kernel
theorem dX10_longest_1 : decode cX10_longest 1 = .ok (.getfield 87, 3) := by decide +kernel
theorem dX10_longest_4 : decode cX10_longest 4 = .ok (.iconst 0, 1) := by decide +kernel
theorem dX10_longest_5 : decode cX10_longest 5 = .ok (.iaload, 1) := by decide +kernel
theorem dX10_longest_6 : decode cX10_longest 6 = .ok (.istore_n 2, 1) := by decide +kernel
theorem dX10_longest_7 : decode cX10_longest 7 = .ok (.iconst 1, 1) := by decide +kernel
theorem dX10_longest_8 : decode cX10_longest 8 = .ok (.istore_n 3, 1) := by decide +kernel
theorem dX10_longest_9 : decode cX10_longest 9 = .ok (.iload_n 3, 1) := by decide +kernel
theorem dX10_longest_10 : decode cX10_longest 10 = .ok (.aload_n 0, 1) := by decide +kernel
theorem dX10_longest_11 : decode cX10_longest 11 = .ok (.getfield 390, 3) := by decide +kernel
theorem dX10_longest_14 : decode cX10_longest 14 = .ok (.if_icmp .ge 57, 3) := by decide +kernel
theorem dX10_longest_17 : decode cX10_longest 17 = .ok (.iload_n 1, 1) := by decide +kernel
theorem dX10_longest_18 : decode cX10_longest 18 = .ok (.ifCond .eq 26, 3) := by decide +kernel
theorem dX10_longest_21 : decode cX10_longest 21 = .ok (.aload_n 0, 1) := by decide +kernel
theorem dX10_longest_22 : decode cX10_longest 22 = .ok (.getfield 87, 3) := by decide +kernel
theorem dX10_longest_25 : decode cX10_longest 25 = .ok (.iload_n 3, 1) := by decide +kernel
theorem dX10_longest_26 : decode cX10_longest 26 = .ok (.iaload, 1) := by decide +kernel
theorem dX10_longest_27 : decode cX10_longest 27 = .ok (.iload_n 2, 1) := by decide +kernel
theorem dX10_longest_28 : decode cX10_longest 28 = .ok (.if_icmp .le 12, 3) := by decide +kernel
theorem dX10_longest_31 : decode cX10_longest 31 = .ok (.aload_n 0, 1) := by decide +kernel
theorem dX10_longest_32 : decode cX10_longest 32 = .ok (.getfield 87, 3) := by decide +kernel
theorem dX10_longest_35 : decode cX10_longest 35 = .ok (.iload_n 3, 1) := by decide +kernel
theorem dX10_longest_36 : decode cX10_longest 36 = .ok (.iaload, 1) := by decide +kernel
theorem dX10_longest_37 : decode cX10_longest 37 = .ok (.goto 27, 3) := by decide +kernel
theorem dX10_longest_40 : decode cX10_longest 40 = .ok (.iload_n 2, 1) := by decide +kernel
theorem dX10_longest_41 : decode cX10_longest 41 = .ok (.goto 23, 3) := by decide +kernel
theorem dX10_longest_44 : decode cX10_longest 44 = .ok (.aload_n 0, 1) := by decide +kernel
theorem dX10_longest_45 : decode cX10_longest 45 = .ok (.getfield 87, 3) := by decide +kernel
theorem dX10_longest_48 : decode cX10_longest 48 = .ok (.iload_n 3, 1) := by decide +kernel
theorem dX10_longest_49 : decode cX10_longest 49 = .ok (.iaload, 1) := by decide +kernel
theorem dX10_longest_50 : decode cX10_longest 50 = .ok (.iload_n 2, 1) := by decide +kernel
theorem dX10_longest_51 : decode cX10_longest 51 = .ok (.if_icmp .ge 12, 3) := by decide +kernel
theorem dX10_longest_54 : decode cX10_longest 54 = .ok (.aload_n 0, 1) := by decide +kernel
theorem dX10_longest_55 : decode cX10_longest 55 = .ok (.getfield 87, 3) := by decide +kernel
theorem dX10_longest_58 : decode cX10_longest 58 = .ok (.iload_n 3, 1) := by decide +kernel
theorem dX10_longest_59 : decode cX10_longest 59 = .ok (.iaload, 1) := by decide +kernel
theorem dX10_longest_60 : decode cX10_longest 60 = .ok (.goto 4, 3) := by decide +kernel
theorem dX10_longest_63 : decode cX10_longest 63 = .ok (.iload_n 2, 1) := by decide +kernel
theorem dX10_longest_64 : decode cX10_longest 64 = .ok (.istore_n 2, 1) := by decide +kernel
theorem dX10_longest_65 : decode cX10_longest 65 = .ok (.iinc 3 1, 3) := by decide +kernel
theorem dX10_longest_68 : decode cX10_longest 68 = .ok (.goto (-59), 3) := by decide +kernel
theorem dX10_longest_71 : decode cX10_longest 71 = .ok (.iload_n 2, 1) := by decide +kernel
theorem dX10_longest_72 : decode cX10_longest 72 = .ok (.ireturn, 1) := by decide +kernel
theorem dX10_fact_0 : decode cX10_fact 0 = .ok (.iload_n 1, 1) := by decide +kernel
theorem dX10_fact_1 : decode cX10_fact 1 = .ok (.tableswitch 208 27 35 #[51, 74, 97, 111, 126, 141, 155, 178, 193], 51) := by decide +kernel
theorem dX10_fact_52 : decode cX10_fact 52 = .ok (.aload_n 0, 1) := by decide +kernel
theorem dX10_fact_53 : decode cX10_fact 53 = .ok (.getfield 328, 3) := by decide +kernel
theorem dX10_fact_56 : decode cX10_fact 56 = .ok (.ifCond .le 17, 3) := by decide +kernel
theorem dX10_fact_59 : decode cX10_fact 59 = .ok (.aload_n 0, 1) := by decide +kernel
theorem dX10_fact_60 : decode cX10_fact 60 = .ok (.getfield 81, 3) := by decide +kernel
theorem dX10_fact_63 : decode cX10_fact 63 = .ok (.iconst 0, 1) := by decide +kernel
theorem dX10_fact_64 : decode cX10_fact 64 = .ok (.iaload, 1) := by decide +kernel
theorem dX10_fact_65 : decode cX10_fact 65 = .ok (.iconst 4, 1) := by decide +kernel
theorem dX10_fact_66 : decode cX10_fact 66 = .ok (.if_icmp .ne 7, 3) := by decide +kernel
theorem dX10_fact_69 : decode cX10_fact 69 = .ok (.iconst 1, 1) := by decide +kernel
theorem dX10_fact_70 : decode cX10_fact 70 = .ok (.goto 4, 3) := by decide +kernel
theorem dX10_fact_73 : decode cX10_fact 73 = .ok (.iconst 0, 1) := by decide +kernel
theorem dX10_fact_74 : decode cX10_fact 74 = .ok (.ireturn, 1) := by decide +kernel
theorem dX10_fact_75 : decode cX10_fact 75 = .ok (.aload_n 0, 1) := by decide +kernel
theorem dX10_fact_76 : decode cX10_fact 76 = .ok (.getfield 328, 3) := by decide +kernel
theorem dX10_fact_79 : decode cX10_fact 79 = .ok (.ifCond .le 17, 3) := by decide +kernel
theorem dX10_fact_82 : decode cX10_fact 82 = .ok (.aload_n 0, 1) := by decide +kernel
theorem dX10_fact_83 : decode cX10_fact 83 = .ok (.getfield 81, 3) := by decide +kernel
theorem dX10_fact_86 : decode cX10_fact 86 = .ok (.iconst 0, 1) := by decide +kernel
theorem dX10_fact_87 : decode cX10_fact 87 = .ok (.iaload, 1) := by decide +kernel
theorem dX10_fact_88 : decode cX10_fact 88 = .ok (.iconst 3, 1) := by decide +kernel
theorem dX10_fact_89 : decode cX10_fact 89 = .ok (.if_icmp .ne 7, 3) := by decide +kernel
theorem dX10_fact_92 : decode cX10_fact 92 = .ok (.iconst 1, 1) := by decide +kernel
theorem dX10_fact_93 : decode cX10_fact 93 = .ok (.goto 4, 3) := by decide +kernel
theorem dX10_fact_96 : decode cX10_fact 96 = .ok (.iconst 0, 1) := by decide +kernel
theorem dX10_fact_97 : decode cX10_fact 97 = .ok (.ireturn, 1) := by decide +kernel
theorem dX10_fact_98 : decode cX10_fact 98 = .ok (.aload_n 0, 1) := by decide +kernel
theorem dX10_fact_99 : decode cX10_fact 99 = .ok (.getfield 390, 3) := by decide +kernel
theorem dX10_fact_102 : decode cX10_fact 102 = .ok (.iload_n 2, 1) := by decide +kernel
theorem dX10_fact_103 : decode cX10_fact 103 = .ok (.if_icmp .lt 7, 3) := by decide +kernel
theorem dX10_fact_106 : decode cX10_fact 106 = .ok (.iconst 1, 1) := by decide +kernel
theorem dX10_fact_107 : decode cX10_fact 107 = .ok (.goto 4, 3) := by decide +kernel
theorem dX10_fact_110 : decode cX10_fact 110 = .ok (.iconst 0, 1) := by decide +kernel
theorem dX10_fact_111 : decode cX10_fact 111 = .ok (.ireturn, 1) := by decide +kernel
theorem dX10_fact_112 : decode cX10_fact 112 = .ok (.aload_n 0, 1) := by decide +kernel
theorem dX10_fact_113 : decode cX10_fact 113 = .ok (.iconst 1, 1) := by decide +kernel
theorem dX10_fact_114 : decode cX10_fact 114 = .ok (.invokevirtual 439, 3) := by decide +kernel
theorem dX10_fact_117 : decode cX10_fact 117 = .ok (.iload_n 2, 1) := by decide +kernel
theorem dX10_fact_118 : decode cX10_fact 118 = .ok (.if_icmp .lt 7, 3) := by decide +kernel
theorem dX10_fact_121 : decode cX10_fact 121 = .ok (.iconst 1, 1) := by decide +kernel
theorem dX10_fact_122 : decode cX10_fact 122 = .ok (.goto 4, 3) := by decide +kernel
theorem dX10_fact_125 : decode cX10_fact 125 = .ok (.iconst 0, 1) := by decide +kernel
theorem dX10_fact_126 : decode cX10_fact 126 = .ok (.ireturn, 1) := by decide +kernel
theorem dX10_fact_127 : decode cX10_fact 127 = .ok (.aload_n 0, 1) := by decide +kernel
theorem dX10_fact_128 : decode cX10_fact 128 = .ok (.iconst 2, 1) := by decide +kernel
theorem dX10_fact_129 : decode cX10_fact 129 = .ok (.invokevirtual 439, 3) := by decide +kernel
theorem dX10_fact_132 : decode cX10_fact 132 = .ok (.iload_n 2, 1) := by decide +kernel
theorem dX10_fact_133 : decode cX10_fact 133 = .ok (.if_icmp .lt 7, 3) := by decide +kernel
theorem dX10_fact_136 : decode cX10_fact 136 = .ok (.iconst 1, 1) := by decide +kernel
theorem dX10_fact_137 : decode cX10_fact 137 = .ok (.goto 4, 3) := by decide +kernel
theorem dX10_fact_140 : decode cX10_fact 140 = .ok (.iconst 0, 1) := by decide +kernel
theorem dX10_fact_141 : decode cX10_fact 141 = .ok (.ireturn, 1) := by decide +kernel
theorem dX10_fact_142 : decode cX10_fact 142 = .ok (.aload_n 0, 1) := by decide +kernel
theorem dX10_fact_143 : decode cX10_fact 143 = .ok (.getfield 356, 3) := by decide +kernel
theorem dX10_fact_146 : decode cX10_fact 146 = .ok (.iload_n 2, 1) := by decide +kernel
theorem dX10_fact_147 : decode cX10_fact 147 = .ok (.if_icmp .lt 7, 3) := by decide +kernel
theorem dX10_fact_150 : decode cX10_fact 150 = .ok (.iconst 1, 1) := by decide +kernel
theorem dX10_fact_151 : decode cX10_fact 151 = .ok (.goto 4, 3) := by decide +kernel
theorem dX10_fact_154 : decode cX10_fact 154 = .ok (.iconst 0, 1) := by decide +kernel
theorem dX10_fact_155 : decode cX10_fact 155 = .ok (.ireturn, 1) := by decide +kernel
theorem dX10_fact_156 : decode cX10_fact 156 = .ok (.aload_n 0, 1) := by decide +kernel
theorem dX10_fact_157 : decode cX10_fact 157 = .ok (.getfield 328, 3) := by decide +kernel
theorem dX10_fact_160 : decode cX10_fact 160 = .ok (.ifCond .le 17, 3) := by decide +kernel
theorem dX10_fact_163 : decode cX10_fact 163 = .ok (.aload_n 0, 1) := by decide +kernel
theorem dX10_fact_164 : decode cX10_fact 164 = .ok (.getfield 75, 3) := by decide +kernel
theorem dX10_fact_167 : decode cX10_fact 167 = .ok (.iconst 0, 1) := by decide +kernel
theorem dX10_fact_168 : decode cX10_fact 168 = .ok (.iaload, 1) := by decide +kernel
theorem dX10_fact_169 : decode cX10_fact 169 = .ok (.iload_n 2, 1) := by decide +kernel
theorem dX10_fact_170 : decode cX10_fact 170 = .ok (.if_icmp .ne 7, 3) := by decide +kernel
theorem dX10_fact_173 : decode cX10_fact 173 = .ok (.iconst 1, 1) := by decide +kernel
theorem dX10_fact_174 : decode cX10_fact 174 = .ok (.goto 4, 3) := by decide +kernel
theorem dX10_fact_177 : decode cX10_fact 177 = .ok (.iconst 0, 1) := by decide +kernel
theorem dX10_fact_178 : decode cX10_fact 178 = .ok (.ireturn, 1) := by decide +kernel
theorem dX10_fact_179 : decode cX10_fact 179 = .ok (.aload_n 0, 1) := by decide +kernel
theorem dX10_fact_180 : decode cX10_fact 180 = .ok (.iconst 1, 1) := by decide +kernel
theorem dX10_fact_181 : decode cX10_fact 181 = .ok (.invokevirtual 442, 3) := by decide +kernel
theorem dX10_fact_184 : decode cX10_fact 184 = .ok (.iload_n 2, 1) := by decide +kernel
theorem dX10_fact_185 : decode cX10_fact 185 = .ok (.if_icmp .lt 7, 3) := by decide +kernel
theorem dX10_fact_188 : decode cX10_fact 188 = .ok (.iconst 1, 1) := by decide +kernel
theorem dX10_fact_189 : decode cX10_fact 189 = .ok (.goto 4, 3) := by decide +kernel
theorem dX10_fact_192 : decode cX10_fact 192 = .ok (.iconst 0, 1) := by decide +kernel
theorem dX10_fact_193 : decode cX10_fact 193 = .ok (.ireturn, 1) := by decide +kernel
theorem dX10_fact_194 : decode cX10_fact 194 = .ok (.aload_n 0, 1) := by decide +kernel
theorem dX10_fact_195 : decode cX10_fact 195 = .ok (.iconst 0, 1) := by decide +kernel
theorem dX10_fact_196 : decode cX10_fact 196 = .ok (.invokevirtual 442, 3) := by decide +kernel
theorem dX10_fact_199 : decode cX10_fact 199 = .ok (.iload_n 2, 1) := by decide +kernel
theorem dX10_fact_200 : decode cX10_fact 200 = .ok (.if_icmp .gt 7, 3) := by decide +kernel
theorem dX10_fact_203 : decode cX10_fact 203 = .ok (.iconst 1, 1) := by decide +kernel
theorem dX10_fact_204 : decode cX10_fact 204 = .ok (.goto 4, 3) := by decide +kernel
theorem dX10_fact_207 : decode cX10_fact 207 = .ok (.iconst 0, 1) := by decide +kernel
theorem dX10_fact_208 : decode cX10_fact 208 = .ok (.ireturn, 1) := by decide +kernel
theorem dX10_fact_209 : decode cX10_fact 209 = .ok (.aload_n 0, 1) := by decide +kernel
theorem dX10_fact_210 : decode cX10_fact 210 = .ok (.getfield 328, 3) := by decide +kernel
theorem dX10_fact_213 : decode cX10_fact 213 = .ok (.ifCond .le 17, 3) := by decide +kernel
theorem dX10_fact_216 : decode cX10_fact 216 = .ok (.aload_n 0, 1) := by decide +kernel
theorem dX10_fact_217 : decode cX10_fact 217 = .ok (.getfield 78, 3) := by decide +kernel
theorem dX10_fact_220 : decode cX10_fact 220 = .ok (.iconst 0, 1) := by decide +kernel
theorem dX10_fact_221 : decode cX10_fact 221 = .ok (.iaload, 1) := by decide +kernel
theorem dX10_fact_222 : decode cX10_fact 222 = .ok (.iload_n 2, 1) := by decide +kernel
theorem dX10_fact_223 : decode cX10_fact 223 = .ok (.if_icmp .lt 7, 3) := by decide +kernel
theorem dX10_fact_226 : decode cX10_fact 226 = .ok (.iconst 1, 1) := by decide +kernel
theorem dX10_fact_227 : decode cX10_fact 227 = .ok (.goto 4, 3) := by decide +kernel
theorem dX10_fact_230 : decode cX10_fact 230 = .ok (.iconst 0, 1) := by decide +kernel
theorem dX10_fact_231 : decode cX10_fact 231 = .ok (.ireturn, 1) := by decide +kernel
theorem dX10_isSo_0 : decode cX10_isSo 0 = .ok (.iconst 0, 1) := by decide +kernel
theorem dX10_isSo_1 : decode cX10_isSo 1 = .ok (.istore_n 2, 1) := by decide +kernel
theorem dX10_isSo_2 : decode cX10_isSo 2 = .ok (.aload_n 0, 1) := by decide +kernel
theorem dX10_isSo_3 : decode cX10_isSo 3 = .ok (.getfield 17, 3) := by decide +kernel
theorem dX10_isSo_6 : decode cX10_isSo 6 = .ok (.sipush 2637, 3) := by decide +kernel
theorem dX10_isSo_9 : decode cX10_isSo 9 = .ok (.iload_n 1, 1) := by decide +kernel
theorem dX10_isSo_10 : decode cX10_isSo 10 = .ok (.iadd, 1) := by decide +kernel
theorem dX10_isSo_11 : decode cX10_isSo 11 = .ok (.iaload, 1) := by decide +kernel
theorem dX10_isSo_12 : decode cX10_isSo 12 = .ok (.istore_n 3, 1) := by decide +kernel
theorem dX10_isSo_13 : decode cX10_isSo 13 = .ok (.iload_n 3, 1) := by decide +kernel
theorem dX10_isSo_14 : decode cX10_isSo 14 = .ok (.aload_n 0, 1) := by decide +kernel
theorem dX10_isSo_15 : decode cX10_isSo 15 = .ok (.getfield 17, 3) := by decide +kernel
theorem dX10_isSo_18 : decode cX10_isSo 18 = .ok (.sipush 2645, 3) := by decide +kernel
theorem dX10_isSo_21 : decode cX10_isSo 21 = .ok (.iload_n 1, 1) := by decide +kernel
theorem dX10_isSo_22 : decode cX10_isSo 22 = .ok (.iadd, 1) := by decide +kernel
theorem dX10_isSo_23 : decode cX10_isSo 23 = .ok (.iaload, 1) := by decide +kernel
theorem dX10_isSo_24 : decode cX10_isSo 24 = .ok (.if_icmp .ge 174, 3) := by decide +kernel
theorem dX10_isSo_27 : decode cX10_isSo 27 = .ok (.aload_n 0, 1) := by decide +kernel
theorem dX10_isSo_28 : decode cX10_isSo 28 = .ok (.getfield 17, 3) := by decide +kernel
theorem dX10_isSo_31 : decode cX10_isSo 31 = .ok (.sipush 2653, 3) := by decide +kernel
theorem dX10_isSo_34 : decode cX10_isSo 34 = .ok (.iconst 2, 1) := by decide +kernel
theorem dX10_isSo_35 : decode cX10_isSo 35 = .ok (.iload_n 3, 1) := by decide +kernel
theorem dX10_isSo_36 : decode cX10_isSo 36 = .ok (.imul, 1) := by decide +kernel
theorem dX10_isSo_37 : decode cX10_isSo 37 = .ok (.iadd, 1) := by decide +kernel
theorem dX10_isSo_38 : decode cX10_isSo 38 = .ok (.iaload, 1) := by decide +kernel
theorem dX10_isSo_39 : decode cX10_isSo 39 = .ok (.istore 4, 2) := by decide +kernel
theorem dX10_isSo_41 : decode cX10_isSo 41 = .ok (.iload 4, 2) := by decide +kernel
theorem dX10_isSo_43 : decode cX10_isSo 43 = .ok (.bipush 26, 2) := by decide +kernel
theorem dX10_isSo_45 : decode cX10_isSo 45 = .ok (.if_icmp .ne 30, 3) := by decide +kernel
theorem dX10_isSo_48 : decode cX10_isSo 48 = .ok (.aload_n 0, 1) := by decide +kernel
theorem dX10_isSo_49 : decode cX10_isSo 49 = .ok (.getfield 111, 3) := by decide +kernel
theorem dX10_isSo_52 : decode cX10_isSo 52 = .ok (.iload_n 2, 1) := by decide +kernel
theorem dX10_isSo_53 : decode cX10_isSo 53 = .ok (.iconst 1, 1) := by decide +kernel
theorem dX10_isSo_54 : decode cX10_isSo 54 = .ok (.isub, 1) := by decide +kernel
theorem dX10_isSo_55 : decode cX10_isSo 55 = .ok (.aload_n 0, 1) := by decide +kernel
theorem dX10_isSo_56 : decode cX10_isSo 56 = .ok (.getfield 111, 3) := by decide +kernel
theorem dX10_isSo_59 : decode cX10_isSo 59 = .ok (.iload_n 2, 1) := by decide +kernel
theorem dX10_isSo_60 : decode cX10_isSo 60 = .ok (.iconst 1, 1) := by decide +kernel
theorem dX10_isSo_61 : decode cX10_isSo 61 = .ok (.isub, 1) := by decide +kernel
theorem dX10_isSo_62 : decode cX10_isSo 62 = .ok (.baload, 1) := by decide +kernel
theorem dX10_isSo_63 : decode cX10_isSo 63 = .ok (.ifCond .ne 7, 3) := by decide +kernel
theorem dX10_isSo_66 : decode cX10_isSo 66 = .ok (.iconst 1, 1) := by decide +kernel
theorem dX10_isSo_67 : decode cX10_isSo 67 = .ok (.goto 4, 3) := by decide +kernel
theorem dX10_isSo_70 : decode cX10_isSo 70 = .ok (.iconst 0, 1) := by decide +kernel
theorem dX10_isSo_71 : decode cX10_isSo 71 = .ok (.bastore, 1) := by decide +kernel
theorem dX10_isSo_72 : decode cX10_isSo 72 = .ok (.goto 120, 3) := by decide +kernel
theorem dX10_isSo_75 : decode cX10_isSo 75 = .ok (.iload 4, 2) := by decide +kernel
theorem dX10_isSo_77 : decode cX10_isSo 77 = .ok (.bipush 25, 2) := by decide +kernel
theorem dX10_isSo_79 : decode cX10_isSo 79 = .ok (.if_icmp .eq 10, 3) := by decide +kernel
theorem dX10_isSo_82 : decode cX10_isSo 82 = .ok (.iload 4, 2) := by decide +kernel
theorem dX10_isSo_84 : decode cX10_isSo 84 = .ok (.bipush 24, 2) := by decide +kernel
theorem dX10_isSo_86 : decode cX10_isSo 86 = .ok (.if_icmp .ne 77, 3) := by decide +kernel
theorem dX10_isSo_89 : decode cX10_isSo 89 = .ok (.iinc 2 (-1), 3) := by decide +kernel
theorem dX10_isSo_92 : decode cX10_isSo 92 = .ok (.aload_n 0, 1) := by decide +kernel
theorem dX10_isSo_93 : decode cX10_isSo 93 = .ok (.getfield 111, 3) := by decide +kernel
theorem dX10_isSo_96 : decode cX10_isSo 96 = .ok (.iload_n 2, 1) := by decide +kernel
theorem dX10_isSo_97 : decode cX10_isSo 97 = .ok (.iconst 1, 1) := by decide +kernel
theorem dX10_isSo_98 : decode cX10_isSo 98 = .ok (.isub, 1) := by decide +kernel
theorem dX10_isSo_99 : decode cX10_isSo 99 = .ok (.iload 4, 2) := by decide +kernel
theorem dX10_isSo_101 : decode cX10_isSo 101 = .ok (.bipush 25, 2) := by decide +kernel
theorem dX10_isSo_103 : decode cX10_isSo 103 = .ok (.if_icmp .ne 31, 3) := by decide +kernel
theorem dX10_isSo_106 : decode cX10_isSo 106 = .ok (.aload_n 0, 1) := by decide +kernel
theorem dX10_isSo_107 : decode cX10_isSo 107 = .ok (.getfield 111, 3) := by decide +kernel
theorem dX10_isSo_110 : decode cX10_isSo 110 = .ok (.iload_n 2, 1) := by decide +kernel
theorem dX10_isSo_111 : decode cX10_isSo 111 = .ok (.iconst 1, 1) := by decide +kernel
theorem dX10_isSo_112 : decode cX10_isSo 112 = .ok (.isub, 1) := by decide +kernel
theorem dX10_isSo_113 : decode cX10_isSo 113 = .ok (.baload, 1) := by decide +kernel
theorem dX10_isSo_114 : decode cX10_isSo 114 = .ok (.ifCond .eq 16, 3) := by decide +kernel
theorem dX10_isSo_117 : decode cX10_isSo 117 = .ok (.aload_n 0, 1) := by decide +kernel
theorem dX10_isSo_118 : decode cX10_isSo 118 = .ok (.getfield 111, 3) := by decide +kernel
theorem dX10_isSo_121 : decode cX10_isSo 121 = .ok (.iload_n 2, 1) := by decide +kernel
theorem dX10_isSo_122 : decode cX10_isSo 122 = .ok (.baload, 1) := by decide +kernel
theorem dX10_isSo_123 : decode cX10_isSo 123 = .ok (.ifCond .eq 7, 3) := by decide +kernel
theorem dX10_isSo_126 : decode cX10_isSo 126 = .ok (.iconst 1, 1) := by decide +kernel
theorem dX10_isSo_127 : decode cX10_isSo 127 = .ok (.goto 32, 3) := by decide +kernel
theorem dX10_isSo_130 : decode cX10_isSo 130 = .ok (.iconst 0, 1) := by decide +kernel
theorem dX10_isSo_131 : decode cX10_isSo 131 = .ok (.goto 28, 3) := by decide +kernel
theorem dX10_isSo_134 : decode cX10_isSo 134 = .ok (.aload_n 0, 1) := by decide +kernel
theorem dX10_isSo_135 : decode cX10_isSo 135 = .ok (.getfield 111, 3) := by decide +kernel
theorem dX10_isSo_138 : decode cX10_isSo 138 = .ok (.iload_n 2, 1) := by decide +kernel
theorem dX10_isSo_139 : decode cX10_isSo 139 = .ok (.iconst 1, 1) := by decide +kernel
theorem dX10_isSo_140 : decode cX10_isSo 140 = .ok (.isub, 1) := by decide +kernel
theorem dX10_isSo_141 : decode cX10_isSo 141 = .ok (.baload, 1) := by decide +kernel
theorem dX10_isSo_142 : decode cX10_isSo 142 = .ok (.ifCond .ne 12, 3) := by decide +kernel
theorem dX10_isSo_145 : decode cX10_isSo 145 = .ok (.aload_n 0, 1) := by decide +kernel
theorem dX10_isSo_146 : decode cX10_isSo 146 = .ok (.getfield 111, 3) := by decide +kernel
theorem dX10_isSo_149 : decode cX10_isSo 149 = .ok (.iload_n 2, 1) := by decide +kernel
theorem dX10_isSo_150 : decode cX10_isSo 150 = .ok (.baload, 1) := by decide +kernel
theorem dX10_isSo_151 : decode cX10_isSo 151 = .ok (.ifCond .eq 7, 3) := by decide +kernel
theorem dX10_isSo_154 : decode cX10_isSo 154 = .ok (.iconst 1, 1) := by decide +kernel
theorem dX10_isSo_155 : decode cX10_isSo 155 = .ok (.goto 4, 3) := by decide +kernel
theorem dX10_isSo_158 : decode cX10_isSo 158 = .ok (.iconst 0, 1) := by decide +kernel
theorem dX10_isSo_159 : decode cX10_isSo 159 = .ok (.bastore, 1) := by decide +kernel
theorem dX10_isSo_160 : decode cX10_isSo 160 = .ok (.goto 32, 3) := by decide +kernel
theorem dX10_isSo_163 : decode cX10_isSo 163 = .ok (.aload_n 0, 1) := by decide +kernel
theorem dX10_isSo_164 : decode cX10_isSo 164 = .ok (.getfield 111, 3) := by decide +kernel
theorem dX10_isSo_167 : decode cX10_isSo 167 = .ok (.iload_n 2, 1) := by decide +kernel
theorem dX10_isSo_168 : decode cX10_isSo 168 = .ok (.aload_n 0, 1) := by decide +kernel
theorem dX10_isSo_169 : decode cX10_isSo 169 = .ok (.iload 4, 2) := by decide +kernel
theorem dX10_isSo_171 : decode cX10_isSo 171 = .ok (.aload_n 0, 1) := by decide +kernel
theorem dX10_isSo_172 : decode cX10_isSo 172 = .ok (.getfield 17, 3) := by decide +kernel
theorem dX10_isSo_175 : decode cX10_isSo 175 = .ok (.sipush 2653, 3) := by decide +kernel
theorem dX10_isSo_178 : decode cX10_isSo 178 = .ok (.iconst 2, 1) := by decide +kernel
theorem dX10_isSo_179 : decode cX10_isSo 179 = .ok (.iload_n 3, 1) := by decide +kernel
theorem dX10_isSo_180 : decode cX10_isSo 180 = .ok (.imul, 1) := by decide +kernel
theorem dX10_isSo_181 : decode cX10_isSo 181 = .ok (.iadd, 1) := by decide +kernel
theorem dX10_isSo_182 : decode cX10_isSo 182 = .ok (.iconst 1, 1) := by decide +kernel
theorem dX10_isSo_183 : decode cX10_isSo 183 = .ok (.iadd, 1) := by decide +kernel
theorem dX10_isSo_184 : decode cX10_isSo 184 = .ok (.iaload, 1) := by decide +kernel
theorem dX10_isSo_185 : decode cX10_isSo 185 = .ok (.invokevirtual 446, 3) := by decide +kernel
theorem dX10_isSo_188 : decode cX10_isSo 188 = .ok (.bastore, 1) := by decide +kernel
theorem dX10_isSo_189 : decode cX10_isSo 189 = .ok (.iinc 2 1, 3) := by decide +kernel
theorem dX10_isSo_192 : decode cX10_isSo 192 = .ok (.iinc 3 1, 3) := by decide +kernel
theorem dX10_isSo_195 : decode cX10_isSo 195 = .ok (.goto (-182), 3) := by decide +kernel
theorem dX10_isSo_198 : decode cX10_isSo 198 = .ok (.aload_n 0, 1) := by decide +kernel
theorem dX10_isSo_199 : decode cX10_isSo 199 = .ok (.getfield 111, 3) := by decide +kernel
theorem dX10_isSo_202 : decode cX10_isSo 202 = .ok (.iconst 0, 1) := by decide +kernel
theorem dX10_isSo_203 : decode cX10_isSo 203 = .ok (.baload, 1) := by decide +kernel
theorem dX10_isSo_204 : decode cX10_isSo 204 = .ok (.ireturn, 1) := by decide +kernel
theorem dX10_found_0 : decode cX10_found 0 = .ok (.aload_n 0, 1) := by decide +kernel
theorem dX10_found_1 : decode cX10_found 1 = .ok (.iconst 0, 1) := by decide +kernel
theorem dX10_found_2 : decode cX10_found 2 = .ok (.putfield 1, 3) := by decide +kernel
theorem dX10_found_5 : decode cX10_found 5 = .ok (.iload_n 1, 1) := by decide +kernel
theorem dX10_found_6 : decode cX10_found 6 = .ok (.i2l, 1) := by decide +kernel
theorem dX10_found_7 : decode cX10_found 7 = .ok (.lconst 0, 1) := by decide +kernel
theorem dX10_found_8 : decode cX10_found 8 = .ok (.aload_n 0, 1) := by decide +kernel
theorem dX10_found_9 : decode cX10_found 9 = .ok (.getfield 17, 3) := by decide +kernel
theorem dX10_found_12 : decode cX10_found 12 = .ok (.sipush 2636, 3) := by decide +kernel
theorem dX10_found_15 : decode cX10_found 15 = .ok (.iaload, 1) := by decide +kernel
theorem dX10_found_16 : decode cX10_found 16 = .ok (.iconst 1, 1) := by decide +kernel
theorem dX10_found_17 : decode cX10_found 17 = .ok (.isub, 1) := by decide +kernel
theorem dX10_found_18 : decode cX10_found 18 = .ok (.i2l, 1) := by decide +kernel
theorem dX10_found_19 : decode cX10_found 19 = .ok (.invokestatic 193, 3) := by decide +kernel
theorem dX10_found_22 : decode cX10_found 22 = .ok (.ifCond .eq 23, 3) := by decide +kernel
theorem dX10_found_25 : decode cX10_found 25 = .ok (.aload_n 0, 1) := by decide +kernel
theorem dX10_found_26 : decode cX10_found 26 = .ok (.iload_n 2, 1) := by decide +kernel
theorem dX10_found_27 : decode cX10_found 27 = .ok (.iload_n 3, 1) := by decide +kernel
theorem dX10_found_28 : decode cX10_found 28 = .ok (.invokevirtual 396, 3) := by decide +kernel
theorem dX10_found_31 : decode cX10_found 31 = .ok (.ifCond .eq 14, 3) := by decide +kernel
theorem dX10_found_34 : decode cX10_found 34 = .ok (.iload 5, 2) := by decide +kernel
theorem dX10_found_36 : decode cX10_found 36 = .ok (.i2l, 1) := by decide +kernel
theorem dX10_found_37 : decode cX10_found 37 = .ok (.lconst 0, 1) := by decide +kernel
theorem dX10_found_38 : decode cX10_found 38 = .ok (.lconst 1, 1) := by decide +kernel
theorem dX10_found_39 : decode cX10_found 39 = .ok (.invokestatic 193, 3) := by decide +kernel
theorem dX10_found_42 : decode cX10_found 42 = .ok (.ifCond .ne 10, 3) := by decide +kernel
theorem dX10_found_45 : decode cX10_found 45 = .ok (.aload_n 0, 1) := by decide +kernel
theorem dX10_found_46 : decode cX10_found 46 = .ok (.bipush (-2), 2) := by decide +kernel
theorem dX10_found_48 : decode cX10_found 48 = .ok (.invokevirtual 131, 3) := by decide +kernel
theorem dX10_found_51 : decode cX10_found 51 = .ok (.ireturn, 1) := by decide +kernel
theorem dX10_found_52 : decode cX10_found 52 = .ok (.iload 4, 2) := by decide +kernel
theorem dX10_found_54 : decode cX10_found 54 = .ok (.i2l, 1) := by decide +kernel
theorem dX10_found_55 : decode cX10_found 55 = .ok (.lconst 1, 1) := by decide +kernel
theorem dX10_found_56 : decode cX10_found 56 = .ok (.ldc2_w 323, 3) := by decide +kernel
theorem dX10_found_59 : decode cX10_found 59 = .ok (.invokestatic 193, 3) := by decide +kernel
theorem dX10_found_62 : decode cX10_found 62 = .ok (.ifCond .ne 10, 3) := by decide +kernel
theorem dX10_found_65 : decode cX10_found 65 = .ok (.aload_n 0, 1) := by decide +kernel
theorem dX10_found_66 : decode cX10_found 66 = .ok (.bipush (-3), 2) := by decide +kernel
theorem dX10_found_68 : decode cX10_found 68 = .ok (.invokevirtual 131, 3) := by decide +kernel
theorem dX10_found_71 : decode cX10_found 71 = .ok (.ireturn, 1) := by decide +kernel
theorem dX10_found_72 : decode cX10_found 72 = .ok (.iconst 0, 1) := by decide +kernel
theorem dX10_found_73 : decode cX10_found 73 = .ok (.istore 6, 2) := by decide +kernel
theorem dX10_found_75 : decode cX10_found 75 = .ok (.iconst (-1), 1) := by decide +kernel
theorem dX10_found_76 : decode cX10_found 76 = .ok (.istore 7, 2) := by decide +kernel
theorem dX10_found_78 : decode cX10_found 78 = .ok (.iconst 1, 1) := by decide +kernel
theorem dX10_found_79 : decode cX10_found 79 = .ok (.istore 8, 2) := by decide +kernel
theorem dX10_found_81 : decode cX10_found 81 = .ok (.iload 8, 2) := by decide +kernel
theorem dX10_found_83 : decode cX10_found 83 = .ok (.iload 4, 2) := by decide +kernel
theorem dX10_found_85 : decode cX10_found 85 = .ok (.if_icmp .gt 49, 3) := by decide +kernel
theorem dX10_found_88 : decode cX10_found 88 = .ok (.aload_n 0, 1) := by decide +kernel
theorem dX10_found_89 : decode cX10_found 89 = .ok (.iload_n 2, 1) := by decide +kernel
theorem dX10_found_90 : decode cX10_found 90 = .ok (.iload_n 3, 1) := by decide +kernel
theorem dX10_found_91 : decode cX10_found 91 = .ok (.iload 8, 2) := by decide +kernel
theorem dX10_found_93 : decode cX10_found 93 = .ok (.iconst 1, 1) := by decide +kernel
theorem dX10_found_94 : decode cX10_found 94 = .ok (.iconst (-1), 1) := by decide +kernel
theorem dX10_found_95 : decode cX10_found 95 = .ok (.invokevirtual 400, 3) := by decide +kernel
theorem dX10_found_98 : decode cX10_found 98 = .ok (.pop, 1) := by decide +kernel
theorem dX10_found_99 : decode cX10_found 99 = .ok (.aload_n 0, 1) := by decide +kernel
theorem dX10_found_100 : decode cX10_found 100 = .ok (.iload_n 1, 1) := by decide +kernel
theorem dX10_found_101 : decode cX10_found 101 = .ok (.invokevirtual 449, 3) := by decide +kernel
theorem dX10_found_104 : decode cX10_found 104 = .ok (.ifCond .ne 6, 3) := by decide +kernel
theorem dX10_found_107 : decode cX10_found 107 = .ok (.goto 21, 3) := by decide +kernel
theorem dX10_found_110 : decode cX10_found 110 = .ok (.iinc 6 1, 3) := by decide +kernel
theorem dX10_found_113 : decode cX10_found 113 = .ok (.iload 7, 2) := by decide +kernel
theorem dX10_found_115 : decode cX10_found 115 = .ok (.iconst (-1), 1) := by decide +kernel
theorem dX10_found_116 : decode cX10_found 116 = .ok (.if_icmp .ne 8, 3) := by decide +kernel
theorem dX10_found_119 : decode cX10_found 119 = .ok (.iload 8, 2) := by decide +kernel
theorem dX10_found_121 : decode cX10_found 121 = .ok (.goto 5, 3) := by decide +kernel
theorem dX10_found_124 : decode cX10_found 124 = .ok (.iload 7, 2) := by decide +kernel
theorem dX10_found_126 : decode cX10_found 126 = .ok (.istore 7, 2) := by decide +kernel
theorem dX10_found_128 : decode cX10_found 128 = .ok (.iinc 8 1, 3) := by decide +kernel
theorem dX10_found_131 : decode cX10_found 131 = .ok (.goto (-50), 3) := by decide +kernel
theorem dX10_found_134 : decode cX10_found 134 = .ok (.iload 5, 2) := by decide +kernel
theorem dX10_found_136 : decode cX10_found 136 = .ok (.ifCond .ne 8, 3) := by decide +kernel
theorem dX10_found_139 : decode cX10_found 139 = .ok (.iload 6, 2) := by decide +kernel
theorem dX10_found_141 : decode cX10_found 141 = .ok (.goto 5, 3) := by decide +kernel
theorem dX10_found_144 : decode cX10_found 144 = .ok (.iload 7, 2) := by decide +kernel
theorem dX10_found_146 : decode cX10_found 146 = .ok (.ireturn, 1) := by decide +kernel
theorem dX10_middle_0 : decode cX10_middle 0 = .ok (.aload_n 0, 1) := by decide +kernel
theorem dX10_middle_1 : decode cX10_middle 1 = .ok (.iconst 0, 1) := by decide +kernel
theorem dX10_middle_2 : decode cX10_middle 2 = .ok (.putfield 1, 3) := by decide +kernel
theorem dX10_middle_5 : decode cX10_middle 5 = .ok (.aload_n 0, 1) := by decide +kernel
theorem dX10_middle_6 : decode cX10_middle 6 = .ok (.iload_n 1, 1) := by decide +kernel
theorem dX10_middle_7 : decode cX10_middle 7 = .ok (.iload_n 2, 1) := by decide +kernel
theorem dX10_middle_8 : decode cX10_middle 8 = .ok (.invokevirtual 396, 3) := by decide +kernel
theorem dX10_middle_11 : decode cX10_middle 11 = .ok (.ifCond .eq 16, 3) := by decide +kernel
theorem dX10_middle_14 : decode cX10_middle 14 = .ok (.iload 4, 2) := by decide +kernel
theorem dX10_middle_16 : decode cX10_middle 16 = .ok (.i2l, 1) := by decide +kernel
theorem dX10_middle_17 : decode cX10_middle 17 = .ok (.lconst 0, 1) := by decide +kernel
theorem dX10_middle_18 : decode cX10_middle 18 = .ok (.ldc2_w 250, 3) := by decide +kernel
theorem dX10_middle_21 : decode cX10_middle 21 = .ok (.invokestatic 193, 3) := by decide +kernel
theorem dX10_middle_24 : decode cX10_middle 24 = .ok (.ifCond .ne 10, 3) := by decide +kernel
theorem dX10_middle_27 : decode cX10_middle 27 = .ok (.aload_n 0, 1) := by decide +kernel
theorem dX10_middle_28 : decode cX10_middle 28 = .ok (.bipush (-2), 2) := by decide +kernel
theorem dX10_middle_30 : decode cX10_middle 30 = .ok (.invokevirtual 131, 3) := by decide +kernel
theorem dX10_middle_33 : decode cX10_middle 33 = .ok (.ireturn, 1) := by decide +kernel
theorem dX10_middle_34 : decode cX10_middle 34 = .ok (.iload_n 3, 1) := by decide +kernel
theorem dX10_middle_35 : decode cX10_middle 35 = .ok (.i2l, 1) := by decide +kernel
theorem dX10_middle_36 : decode cX10_middle 36 = .ok (.lconst 1, 1) := by decide +kernel
theorem dX10_middle_37 : decode cX10_middle 37 = .ok (.ldc2_w 323, 3) := by decide +kernel
theorem dX10_middle_40 : decode cX10_middle 40 = .ok (.invokestatic 193, 3) := by decide +kernel
theorem dX10_middle_43 : decode cX10_middle 43 = .ok (.ifCond .ne 10, 3) := by decide +kernel
theorem dX10_middle_46 : decode cX10_middle 46 = .ok (.aload_n 0, 1) := by decide +kernel
theorem dX10_middle_47 : decode cX10_middle 47 = .ok (.bipush (-3), 2) := by decide +kernel
theorem dX10_middle_49 : decode cX10_middle 49 = .ok (.invokevirtual 131, 3) := by decide +kernel
theorem dX10_middle_52 : decode cX10_middle 52 = .ok (.ireturn, 1) := by decide +kernel
theorem dX10_middle_53 : decode cX10_middle 53 = .ok (.iconst 0, 1) := by decide +kernel
theorem dX10_middle_54 : decode cX10_middle 54 = .ok (.istore 5, 2) := by decide +kernel
theorem dX10_middle_56 : decode cX10_middle 56 = .ok (.iconst 0, 1) := by decide +kernel
theorem dX10_middle_57 : decode cX10_middle 57 = .ok (.istore 6, 2) := by decide +kernel
theorem dX10_middle_59 : decode cX10_middle 59 = .ok (.iconst (-1), 1) := by decide +kernel
theorem dX10_middle_60 : decode cX10_middle 60 = .ok (.istore 7, 2) := by decide +kernel
theorem dX10_middle_62 : decode cX10_middle 62 = .ok (.iconst (-1), 1) := by decide +kernel
theorem dX10_middle_63 : decode cX10_middle 63 = .ok (.istore 8, 2) := by decide +kernel
theorem dX10_middle_65 : decode cX10_middle 65 = .ok (.iconst 1, 1) := by decide +kernel
theorem dX10_middle_66 : decode cX10_middle 66 = .ok (.istore 9, 2) := by decide +kernel
theorem dX10_middle_68 : decode cX10_middle 68 = .ok (.iload 9, 2) := by decide +kernel
theorem dX10_middle_70 : decode cX10_middle 70 = .ok (.iload_n 3, 1) := by decide +kernel
theorem dX10_middle_71 : decode cX10_middle 71 = .ok (.if_icmp .gt 110, 3) := by decide +kernel
theorem dX10_middle_74 : decode cX10_middle 74 = .ok (.aload_n 0, 1) := by decide +kernel
theorem dX10_middle_75 : decode cX10_middle 75 = .ok (.iload_n 1, 1) := by decide +kernel
theorem dX10_middle_76 : decode cX10_middle 76 = .ok (.iload_n 2, 1) := by decide +kernel
theorem dX10_middle_77 : decode cX10_middle 77 = .ok (.iload 9, 2) := by decide +kernel
theorem dX10_middle_79 : decode cX10_middle 79 = .ok (.iconst 1, 1) := by decide +kernel
theorem dX10_middle_80 : decode cX10_middle 80 = .ok (.iconst (-1), 1) := by decide +kernel
theorem dX10_middle_81 : decode cX10_middle 81 = .ok (.invokevirtual 400, 3) := by decide +kernel
theorem dX10_middle_84 : decode cX10_middle 84 = .ok (.iconst 3, 1) := by decide +kernel
theorem dX10_middle_85 : decode cX10_middle 85 = .ok (.if_icmp .ge 6, 3) := by decide +kernel
theorem dX10_middle_88 : decode cX10_middle 88 = .ok (.goto 87, 3) := by decide +kernel
theorem dX10_middle_91 : decode cX10_middle 91 = .ok (.iinc 5 1, 3) := by decide +kernel
theorem dX10_middle_94 : decode cX10_middle 94 = .ok (.iconst 1, 1) := by decide +kernel
theorem dX10_middle_95 : decode cX10_middle 95 = .ok (.istore 10, 2) := by decide +kernel
theorem dX10_middle_97 : decode cX10_middle 97 = .ok (.iload 10, 2) := by decide +kernel
theorem dX10_middle_99 : decode cX10_middle 99 = .ok (.aload_n 0, 1) := by decide +kernel
theorem dX10_middle_100 : decode cX10_middle 100 = .ok (.getfield 390, 3) := by decide +kernel
theorem dX10_middle_103 : decode cX10_middle 103 = .ok (.iconst 1, 1) := by decide +kernel
theorem dX10_middle_104 : decode cX10_middle 104 = .ok (.isub, 1) := by decide +kernel
theorem dX10_middle_105 : decode cX10_middle 105 = .ok (.if_icmp .ge 70, 3) := by decide +kernel
theorem dX10_middle_108 : decode cX10_middle 108 = .ok (.iinc 6 1, 3) := by decide +kernel
theorem dX10_middle_111 : decode cX10_middle 111 = .ok (.iload 7, 2) := by decide +kernel
theorem dX10_middle_113 : decode cX10_middle 113 = .ok (.iconst (-1), 1) := by decide +kernel
theorem dX10_middle_114 : decode cX10_middle 114 = .ok (.if_icmp .eq 15, 3) := by decide +kernel
theorem dX10_middle_117 : decode cX10_middle 117 = .ok (.aload_n 0, 1) := by decide +kernel
theorem dX10_middle_118 : decode cX10_middle 118 = .ok (.getfield 87, 3) := by decide +kernel
theorem dX10_middle_121 : decode cX10_middle 121 = .ok (.iload 10, 2) := by decide +kernel
theorem dX10_middle_123 : decode cX10_middle 123 = .ok (.iaload, 1) := by decide +kernel
theorem dX10_middle_124 : decode cX10_middle 124 = .ok (.iload 7, 2) := by decide +kernel
theorem dX10_middle_126 : decode cX10_middle 126 = .ok (.if_icmp .ge 13, 3) := by decide +kernel
theorem dX10_middle_129 : decode cX10_middle 129 = .ok (.aload_n 0, 1) := by decide +kernel
theorem dX10_middle_130 : decode cX10_middle 130 = .ok (.getfield 87, 3) := by decide +kernel
theorem dX10_middle_133 : decode cX10_middle 133 = .ok (.iload 10, 2) := by decide +kernel
theorem dX10_middle_135 : decode cX10_middle 135 = .ok (.iaload, 1) := by decide +kernel
theorem dX10_middle_136 : decode cX10_middle 136 = .ok (.goto 5, 3) := by decide +kernel
theorem dX10_middle_139 : decode cX10_middle 139 = .ok (.iload 7, 2) := by decide +kernel
theorem dX10_middle_141 : decode cX10_middle 141 = .ok (.istore 7, 2) := by decide +kernel
theorem dX10_middle_143 : decode cX10_middle 143 = .ok (.aload_n 0, 1) := by decide +kernel
theorem dX10_middle_144 : decode cX10_middle 144 = .ok (.getfield 87, 3) := by decide +kernel
theorem dX10_middle_147 : decode cX10_middle 147 = .ok (.iload 10, 2) := by decide +kernel
theorem dX10_middle_149 : decode cX10_middle 149 = .ok (.iaload, 1) := by decide +kernel
theorem dX10_middle_150 : decode cX10_middle 150 = .ok (.iload 8, 2) := by decide +kernel
theorem dX10_middle_152 : decode cX10_middle 152 = .ok (.if_icmp .le 13, 3) := by decide +kernel
theorem dX10_middle_155 : decode cX10_middle 155 = .ok (.aload_n 0, 1) := by decide +kernel
theorem dX10_middle_156 : decode cX10_middle 156 = .ok (.getfield 87, 3) := by decide +kernel
theorem dX10_middle_159 : decode cX10_middle 159 = .ok (.iload 10, 2) := by decide +kernel
theorem dX10_middle_161 : decode cX10_middle 161 = .ok (.iaload, 1) := by decide +kernel
theorem dX10_middle_162 : decode cX10_middle 162 = .ok (.goto 5, 3) := by decide +kernel
theorem dX10_middle_165 : decode cX10_middle 165 = .ok (.iload 8, 2) := by decide +kernel
theorem dX10_middle_167 : decode cX10_middle 167 = .ok (.istore 8, 2) := by decide +kernel
theorem dX10_middle_169 : decode cX10_middle 169 = .ok (.iinc 10 1, 3) := by decide +kernel
theorem dX10_middle_172 : decode cX10_middle 172 = .ok (.goto (-75), 3) := by decide +kernel
theorem dX10_middle_175 : decode cX10_middle 175 = .ok (.iinc 9 1, 3) := by decide +kernel
theorem dX10_middle_178 : decode cX10_middle 178 = .ok (.goto (-110), 3) := by decide +kernel
theorem dX10_middle_181 : decode cX10_middle 181 = .ok (.iload 4, 2) := by decide +kernel
theorem dX10_middle_183 : decode cX10_middle 183 = .ok (.ifCond .ne 8, 3) := by decide +kernel
theorem dX10_middle_186 : decode cX10_middle 186 = .ok (.iload 5, 2) := by decide +kernel
theorem dX10_middle_188 : decode cX10_middle 188 = .ok (.goto 27, 3) := by decide +kernel
theorem dX10_middle_191 : decode cX10_middle 191 = .ok (.iload 4, 2) := by decide +kernel
theorem dX10_middle_193 : decode cX10_middle 193 = .ok (.iconst 1, 1) := by decide +kernel
theorem dX10_middle_194 : decode cX10_middle 194 = .ok (.if_icmp .ne 8, 3) := by decide +kernel
theorem dX10_middle_197 : decode cX10_middle 197 = .ok (.iload 6, 2) := by decide +kernel
theorem dX10_middle_199 : decode cX10_middle 199 = .ok (.goto 16, 3) := by decide +kernel
theorem dX10_middle_202 : decode cX10_middle 202 = .ok (.iload 4, 2) := by decide +kernel
theorem dX10_middle_204 : decode cX10_middle 204 = .ok (.iconst 2, 1) := by decide +kernel
theorem dX10_middle_205 : decode cX10_middle 205 = .ok (.if_icmp .ne 8, 3) := by decide +kernel
theorem dX10_middle_208 : decode cX10_middle 208 = .ok (.iload 7, 2) := by decide +kernel
theorem dX10_middle_210 : decode cX10_middle 210 = .ok (.goto 5, 3) := by decide +kernel
theorem dX10_middle_213 : decode cX10_middle 213 = .ok (.iload 8, 2) := by decide +kernel
theorem dX10_middle_215 : decode cX10_middle 215 = .ok (.ireturn, 1) := by decide +kernel
theorem dX10_isFilmed_0 : decode cX10_isFilmed 0 = .ok (.iconst 0, 1) := by decide +kernel
theorem dX10_isFilmed_1 : decode cX10_isFilmed 1 = .ok (.istore_n 2, 1) := by decide +kernel
theorem dX10_isFilmed_2 : decode cX10_isFilmed 2 = .ok (.iload_n 2, 1) := by decide +kernel
theorem dX10_isFilmed_3 : decode cX10_isFilmed 3 = .ok (.aload_n 0, 1) := by decide +kernel
theorem dX10_isFilmed_4 : decode cX10_isFilmed 4 = .ok (.getfield 117, 3) := by decide +kernel
theorem dX10_isFilmed_7 : decode cX10_isFilmed 7 = .ok (.iload_n 1, 1) := by decide +kernel
theorem dX10_isFilmed_8 : decode cX10_isFilmed 8 = .ok (.iaload, 1) := by decide +kernel
theorem dX10_isFilmed_9 : decode cX10_isFilmed 9 = .ok (.if_icmp .ge 25, 3) := by decide +kernel
theorem dX10_isFilmed_12 : decode cX10_isFilmed 12 = .ok (.aload_n 0, 1) := by decide +kernel
theorem dX10_isFilmed_13 : decode cX10_isFilmed 13 = .ok (.getfield 120, 3) := by decide +kernel
theorem dX10_isFilmed_16 : decode cX10_isFilmed 16 = .ok (.bipush 60, 2) := by decide +kernel
theorem dX10_isFilmed_18 : decode cX10_isFilmed 18 = .ok (.iload_n 1, 1) := by decide +kernel
theorem dX10_isFilmed_19 : decode cX10_isFilmed 19 = .ok (.imul, 1) := by decide +kernel
theorem dX10_isFilmed_20 : decode cX10_isFilmed 20 = .ok (.iload_n 2, 1) := by decide +kernel
theorem dX10_isFilmed_21 : decode cX10_isFilmed 21 = .ok (.iadd, 1) := by decide +kernel
theorem dX10_isFilmed_22 : decode cX10_isFilmed 22 = .ok (.laload, 1) := by decide +kernel
theorem dX10_isFilmed_23 : decode cX10_isFilmed 23 = .ok (.lconst 0, 1) := by decide +kernel
theorem dX10_isFilmed_24 : decode cX10_isFilmed 24 = .ok (.lcmp, 1) := by decide +kernel
theorem dX10_isFilmed_25 : decode cX10_isFilmed 25 = .ok (.ifCond .lt 9, 3) := by decide +kernel
theorem dX10_isFilmed_28 : decode cX10_isFilmed 28 = .ok (.iinc 2 1, 3) := by decide +kernel
theorem dX10_isFilmed_31 : decode cX10_isFilmed 31 = .ok (.goto (-29), 3) := by decide +kernel
theorem dX10_isFilmed_34 : decode cX10_isFilmed 34 = .ok (.iload_n 2, 1) := by decide +kernel
theorem dX10_isFilmed_35 : decode cX10_isFilmed 35 = .ok (.aload_n 0, 1) := by decide +kernel
theorem dX10_isFilmed_36 : decode cX10_isFilmed 36 = .ok (.getfield 328, 3) := by decide +kernel
theorem dX10_isFilmed_39 : decode cX10_isFilmed 39 = .ok (.if_icmp .eq 5, 3) := by decide +kernel
theorem dX10_isFilmed_42 : decode cX10_isFilmed 42 = .ok (.iconst 0, 1) := by decide +kernel
theorem dX10_isFilmed_43 : decode cX10_isFilmed 43 = .ok (.ireturn, 1) := by decide +kernel
theorem dX10_isFilmed_44 : decode cX10_isFilmed 44 = .ok (.iconst 0, 1) := by decide +kernel
theorem dX10_isFilmed_45 : decode cX10_isFilmed 45 = .ok (.istore_n 3, 1) := by decide +kernel
theorem dX10_isFilmed_46 : decode cX10_isFilmed 46 = .ok (.iload_n 3, 1) := by decide +kernel
theorem dX10_isFilmed_47 : decode cX10_isFilmed 47 = .ok (.iload_n 2, 1) := by decide +kernel
theorem dX10_isFilmed_48 : decode cX10_isFilmed 48 = .ok (.if_icmp .ge 33, 3) := by decide +kernel
theorem dX10_isFilmed_51 : decode cX10_isFilmed 51 = .ok (.aload_n 0, 1) := by decide +kernel
theorem dX10_isFilmed_52 : decode cX10_isFilmed 52 = .ok (.getfield 120, 3) := by decide +kernel
theorem dX10_isFilmed_55 : decode cX10_isFilmed 55 = .ok (.bipush 60, 2) := by decide +kernel
theorem dX10_isFilmed_57 : decode cX10_isFilmed 57 = .ok (.iload_n 1, 1) := by decide +kernel
theorem dX10_isFilmed_58 : decode cX10_isFilmed 58 = .ok (.imul, 1) := by decide +kernel
theorem dX10_isFilmed_59 : decode cX10_isFilmed 59 = .ok (.iload_n 3, 1) := by decide +kernel
theorem dX10_isFilmed_60 : decode cX10_isFilmed 60 = .ok (.iadd, 1) := by decide +kernel
theorem dX10_isFilmed_61 : decode cX10_isFilmed 61 = .ok (.laload, 1) := by decide +kernel
theorem dX10_isFilmed_62 : decode cX10_isFilmed 62 = .ok (.aload_n 0, 1) := by decide +kernel
theorem dX10_isFilmed_63 : decode cX10_isFilmed 63 = .ok (.getfield 78, 3) := by decide +kernel
theorem dX10_isFilmed_66 : decode cX10_isFilmed 66 = .ok (.iload_n 3, 1) := by decide +kernel
theorem dX10_isFilmed_67 : decode cX10_isFilmed 67 = .ok (.iaload, 1) := by decide +kernel
theorem dX10_isFilmed_68 : decode cX10_isFilmed 68 = .ok (.i2l, 1) := by decide +kernel
theorem dX10_isFilmed_69 : decode cX10_isFilmed 69 = .ok (.lcmp, 1) := by decide +kernel
theorem dX10_isFilmed_70 : decode cX10_isFilmed 70 = .ok (.ifCond .eq 5, 3) := by decide +kernel
theorem dX10_isFilmed_73 : decode cX10_isFilmed 73 = .ok (.iconst 0, 1) := by decide +kernel
theorem dX10_isFilmed_74 : decode cX10_isFilmed 74 = .ok (.ireturn, 1) := by decide +kernel
theorem dX10_isFilmed_75 : decode cX10_isFilmed 75 = .ok (.iinc 3 1, 3) := by decide +kernel
theorem dX10_isFilmed_78 : decode cX10_isFilmed 78 = .ok (.goto (-32), 3) := by decide +kernel
theorem dX10_isFilmed_81 : decode cX10_isFilmed 81 = .ok (.iconst 1, 1) := by decide +kernel
theorem dX10_isFilmed_82 : decode cX10_isFilmed 82 = .ok (.ireturn, 1) := by decide +kernel
theorem dX10_filmed_0 : decode cX10_filmed 0 = .ok (.aload_n 0, 1) := by decide +kernel
theorem dX10_filmed_1 : decode cX10_filmed 1 = .ok (.iconst 0, 1) := by decide +kernel
theorem dX10_filmed_2 : decode cX10_filmed 2 = .ok (.putfield 1, 3) := by decide +kernel
theorem dX10_filmed_5 : decode cX10_filmed 5 = .ok (.aload_n 0, 1) := by decide +kernel
theorem dX10_filmed_6 : decode cX10_filmed 6 = .ok (.iload_n 1, 1) := by decide +kernel
theorem dX10_filmed_7 : decode cX10_filmed 7 = .ok (.iload_n 2, 1) := by decide +kernel
theorem dX10_filmed_8 : decode cX10_filmed 8 = .ok (.invokevirtual 396, 3) := by decide +kernel
theorem dX10_filmed_11 : decode cX10_filmed 11 = .ok (.ifCond .eq 26, 3) := by decide +kernel
theorem dX10_filmed_14 : decode cX10_filmed 14 = .ok (.iload_n 3, 1) := by decide +kernel
theorem dX10_filmed_15 : decode cX10_filmed 15 = .ok (.i2l, 1) := by decide +kernel
theorem dX10_filmed_16 : decode cX10_filmed 16 = .ok (.lconst 0, 1) := by decide +kernel
theorem dX10_filmed_17 : decode cX10_filmed 17 = .ok (.ldc2_w 250, 3) := by decide +kernel
theorem dX10_filmed_20 : decode cX10_filmed 20 = .ok (.invokestatic 193, 3) := by decide +kernel
theorem dX10_filmed_23 : decode cX10_filmed 23 = .ok (.ifCond .eq 14, 3) := by decide +kernel
theorem dX10_filmed_26 : decode cX10_filmed 26 = .ok (.iload 5, 2) := by decide +kernel
theorem dX10_filmed_28 : decode cX10_filmed 28 = .ok (.i2l, 1) := by decide +kernel
theorem dX10_filmed_29 : decode cX10_filmed 29 = .ok (.lconst 0, 1) := by decide +kernel
theorem dX10_filmed_30 : decode cX10_filmed 30 = .ok (.lconst 1, 1) := by decide +kernel
theorem dX10_filmed_31 : decode cX10_filmed 31 = .ok (.invokestatic 193, 3) := by decide +kernel
theorem dX10_filmed_34 : decode cX10_filmed 34 = .ok (.ifCond .ne 10, 3) := by decide +kernel
theorem dX10_filmed_37 : decode cX10_filmed 37 = .ok (.aload_n 0, 1) := by decide +kernel
theorem dX10_filmed_38 : decode cX10_filmed 38 = .ok (.bipush (-2), 2) := by decide +kernel
theorem dX10_filmed_40 : decode cX10_filmed 40 = .ok (.invokevirtual 131, 3) := by decide +kernel
theorem dX10_filmed_43 : decode cX10_filmed 43 = .ok (.ireturn, 1) := by decide +kernel
theorem dX10_filmed_44 : decode cX10_filmed 44 = .ok (.iload 4, 2) := by decide +kernel
theorem dX10_filmed_46 : decode cX10_filmed 46 = .ok (.i2l, 1) := by decide +kernel
theorem dX10_filmed_47 : decode cX10_filmed 47 = .ok (.lconst 1, 1) := by decide +kernel
theorem dX10_filmed_48 : decode cX10_filmed 48 = .ok (.ldc2_w 323, 3) := by decide +kernel
theorem dX10_filmed_51 : decode cX10_filmed 51 = .ok (.invokestatic 193, 3) := by decide +kernel
theorem dX10_filmed_54 : decode cX10_filmed 54 = .ok (.ifCond .ne 10, 3) := by decide +kernel
theorem dX10_filmed_57 : decode cX10_filmed 57 = .ok (.aload_n 0, 1) := by decide +kernel
theorem dX10_filmed_58 : decode cX10_filmed 58 = .ok (.bipush (-3), 2) := by decide +kernel
theorem dX10_filmed_60 : decode cX10_filmed 60 = .ok (.invokevirtual 131, 3) := by decide +kernel
theorem dX10_filmed_63 : decode cX10_filmed 63 = .ok (.ireturn, 1) := by decide +kernel
theorem dX10_filmed_64 : decode cX10_filmed 64 = .ok (.aload_n 0, 1) := by decide +kernel
theorem dX10_filmed_65 : decode cX10_filmed 65 = .ok (.getfield 114, 3) := by decide +kernel
theorem dX10_filmed_68 : decode cX10_filmed 68 = .ok (.iload_n 3, 1) := by decide +kernel
theorem dX10_filmed_69 : decode cX10_filmed 69 = .ok (.iaload, 1) := by decide +kernel
theorem dX10_filmed_70 : decode cX10_filmed 70 = .ok (.iconst (-1), 1) := by decide +kernel
theorem dX10_filmed_71 : decode cX10_filmed 71 = .ok (.if_icmp .ne 10, 3) := by decide +kernel
theorem dX10_filmed_74 : decode cX10_filmed 74 = .ok (.aload_n 0, 1) := by decide +kernel
theorem dX10_filmed_75 : decode cX10_filmed 75 = .ok (.bipush (-6), 2) := by decide +kernel
theorem dX10_filmed_77 : decode cX10_filmed 77 = .ok (.invokevirtual 131, 3) := by decide +kernel
theorem dX10_filmed_80 : decode cX10_filmed 80 = .ok (.ireturn, 1) := by decide +kernel
theorem dX10_filmed_81 : decode cX10_filmed 81 = .ok (.iconst 0, 1) := by decide +kernel
theorem dX10_filmed_82 : decode cX10_filmed 82 = .ok (.istore 6, 2) := by decide +kernel
theorem dX10_filmed_84 : decode cX10_filmed 84 = .ok (.iconst (-1), 1) := by decide +kernel
theorem dX10_filmed_85 : decode cX10_filmed 85 = .ok (.istore 7, 2) := by decide +kernel
theorem dX10_filmed_87 : decode cX10_filmed 87 = .ok (.iconst 1, 1) := by decide +kernel
theorem dX10_filmed_88 : decode cX10_filmed 88 = .ok (.istore 8, 2) := by decide +kernel
theorem dX10_filmed_90 : decode cX10_filmed 90 = .ok (.iload 8, 2) := by decide +kernel
theorem dX10_filmed_92 : decode cX10_filmed 92 = .ok (.iload 4, 2) := by decide +kernel
theorem dX10_filmed_94 : decode cX10_filmed 94 = .ok (.if_icmp .gt 49, 3) := by decide +kernel
theorem dX10_filmed_97 : decode cX10_filmed 97 = .ok (.aload_n 0, 1) := by decide +kernel
theorem dX10_filmed_98 : decode cX10_filmed 98 = .ok (.iload_n 1, 1) := by decide +kernel
theorem dX10_filmed_99 : decode cX10_filmed 99 = .ok (.iload_n 2, 1) := by decide +kernel
theorem dX10_filmed_100 : decode cX10_filmed 100 = .ok (.iload 8, 2) := by decide +kernel
theorem dX10_filmed_102 : decode cX10_filmed 102 = .ok (.iconst 1, 1) := by decide +kernel
theorem dX10_filmed_103 : decode cX10_filmed 103 = .ok (.iconst (-1), 1) := by decide +kernel
theorem dX10_filmed_104 : decode cX10_filmed 104 = .ok (.invokevirtual 400, 3) := by decide +kernel
theorem dX10_filmed_107 : decode cX10_filmed 107 = .ok (.pop, 1) := by decide +kernel
theorem dX10_filmed_108 : decode cX10_filmed 108 = .ok (.aload_n 0, 1) := by decide +kernel
theorem dX10_filmed_109 : decode cX10_filmed 109 = .ok (.iload_n 3, 1) := by decide +kernel
theorem dX10_filmed_110 : decode cX10_filmed 110 = .ok (.invokevirtual 452, 3) := by decide +kernel
theorem dX10_filmed_113 : decode cX10_filmed 113 = .ok (.ifCond .ne 6, 3) := by decide +kernel
theorem dX10_filmed_116 : decode cX10_filmed 116 = .ok (.goto 21, 3) := by decide +kernel
theorem dX10_filmed_119 : decode cX10_filmed 119 = .ok (.iinc 6 1, 3) := by decide +kernel
theorem dX10_filmed_122 : decode cX10_filmed 122 = .ok (.iload 7, 2) := by decide +kernel
theorem dX10_filmed_124 : decode cX10_filmed 124 = .ok (.iconst (-1), 1) := by decide +kernel
theorem dX10_filmed_125 : decode cX10_filmed 125 = .ok (.if_icmp .ne 8, 3) := by decide +kernel
theorem dX10_filmed_128 : decode cX10_filmed 128 = .ok (.iload 8, 2) := by decide +kernel
theorem dX10_filmed_130 : decode cX10_filmed 130 = .ok (.goto 5, 3) := by decide +kernel
theorem dX10_filmed_133 : decode cX10_filmed 133 = .ok (.iload 7, 2) := by decide +kernel
theorem dX10_filmed_135 : decode cX10_filmed 135 = .ok (.istore 7, 2) := by decide +kernel
theorem dX10_filmed_137 : decode cX10_filmed 137 = .ok (.iinc 8 1, 3) := by decide +kernel
theorem dX10_filmed_140 : decode cX10_filmed 140 = .ok (.goto (-50), 3) := by decide +kernel
theorem dX10_filmed_143 : decode cX10_filmed 143 = .ok (.iload 5, 2) := by decide +kernel
theorem dX10_filmed_145 : decode cX10_filmed 145 = .ok (.ifCond .ne 8, 3) := by decide +kernel
theorem dX10_filmed_148 : decode cX10_filmed 148 = .ok (.iload 6, 2) := by decide +kernel
theorem dX10_filmed_150 : decode cX10_filmed 150 = .ok (.goto 5, 3) := by decide +kernel
theorem dX10_filmed_153 : decode cX10_filmed 153 = .ok (.iload 7, 2) := by decide +kernel
theorem dX10_filmed_155 : decode cX10_filmed 155 = .ok (.ireturn, 1) := by decide +kernel
theorem dX10_swapped_0 : decode cX10_swapped 0 = .ok (.aload_n 0, 1) := by decide +kernel
theorem dX10_swapped_1 : decode cX10_swapped 1 = .ok (.iconst 0, 1) := by decide +kernel
theorem dX10_swapped_2 : decode cX10_swapped 2 = .ok (.putfield 1, 3) := by decide +kernel
theorem dX10_swapped_5 : decode cX10_swapped 5 = .ok (.aload_n 0, 1) := by decide +kernel
theorem dX10_swapped_6 : decode cX10_swapped 6 = .ok (.iload_n 1, 1) := by decide +kernel
theorem dX10_swapped_7 : decode cX10_swapped 7 = .ok (.iload_n 2, 1) := by decide +kernel
theorem dX10_swapped_8 : decode cX10_swapped 8 = .ok (.invokevirtual 396, 3) := by decide +kernel
theorem dX10_swapped_11 : decode cX10_swapped 11 = .ok (.ifCond .ne 10, 3) := by decide +kernel
theorem dX10_swapped_14 : decode cX10_swapped 14 = .ok (.aload_n 0, 1) := by decide +kernel
theorem dX10_swapped_15 : decode cX10_swapped 15 = .ok (.bipush (-2), 2) := by decide +kernel
theorem dX10_swapped_17 : decode cX10_swapped 17 = .ok (.invokevirtual 131, 3) := by decide +kernel
theorem dX10_swapped_20 : decode cX10_swapped 20 = .ok (.ireturn, 1) := by decide +kernel
theorem dX10_swapped_21 : decode cX10_swapped 21 = .ok (.aload_n 0, 1) := by decide +kernel
theorem dX10_swapped_22 : decode cX10_swapped 22 = .ok (.iload_n 1, 1) := by decide +kernel
theorem dX10_swapped_23 : decode cX10_swapped 23 = .ok (.invokevirtual 282, 3) := by decide +kernel
theorem dX10_swapped_26 : decode cX10_swapped 26 = .ok (.sipush 242, 3) := by decide +kernel
theorem dX10_swapped_29 : decode cX10_swapped 29 = .ok (.iload_n 1, 1) := by decide +kernel
theorem dX10_swapped_30 : decode cX10_swapped 30 = .ok (.imul, 1) := by decide +kernel
theorem dX10_swapped_31 : decode cX10_swapped 31 = .ok (.istore 4, 2) := by decide +kernel
theorem dX10_swapped_33 : decode cX10_swapped 33 = .ok (.iconst 0, 1) := by decide +kernel
theorem dX10_swapped_34 : decode cX10_swapped 34 = .ok (.istore 5, 2) := by decide +kernel
theorem dX10_swapped_36 : decode cX10_swapped 36 = .ok (.iload 5, 2) := by decide +kernel
theorem dX10_swapped_38 : decode cX10_swapped 38 = .ok (.aload_n 0, 1) := by decide +kernel
theorem dX10_swapped_39 : decode cX10_swapped 39 = .ok (.getfield 267, 3) := by decide +kernel
theorem dX10_swapped_42 : decode cX10_swapped 42 = .ok (.if_icmp .ge 91, 3) := by decide +kernel
theorem dX10_swapped_45 : decode cX10_swapped 45 = .ok (.iload 4, 2) := by decide +kernel
theorem dX10_swapped_47 : decode cX10_swapped 47 = .ok (.aload_n 0, 1) := by decide +kernel
theorem dX10_swapped_48 : decode cX10_swapped 48 = .ok (.getfield 267, 3) := by decide +kernel
theorem dX10_swapped_51 : decode cX10_swapped 51 = .ok (.iadd, 1) := by decide +kernel
theorem dX10_swapped_52 : decode cX10_swapped 52 = .ok (.iconst 1, 1) := by decide +kernel
theorem dX10_swapped_53 : decode cX10_swapped 53 = .ok (.isub, 1) := by decide +kernel
theorem dX10_swapped_54 : decode cX10_swapped 54 = .ok (.iload 5, 2) := by decide +kernel
theorem dX10_swapped_56 : decode cX10_swapped 56 = .ok (.isub, 1) := by decide +kernel
theorem dX10_swapped_57 : decode cX10_swapped 57 = .ok (.istore 6, 2) := by decide +kernel
theorem dX10_swapped_59 : decode cX10_swapped 59 = .ok (.aload_n 0, 1) := by decide +kernel
theorem dX10_swapped_60 : decode cX10_swapped 60 = .ok (.getfield 33, 3) := by decide +kernel
theorem dX10_swapped_63 : decode cX10_swapped 63 = .ok (.iload 5, 2) := by decide +kernel
theorem dX10_swapped_65 : decode cX10_swapped 65 = .ok (.aload_n 0, 1) := by decide +kernel
theorem dX10_swapped_66 : decode cX10_swapped 66 = .ok (.getfield 17, 3) := by decide +kernel
theorem dX10_swapped_69 : decode cX10_swapped 69 = .ok (.iload 6, 2) := by decide +kernel
theorem dX10_swapped_71 : decode cX10_swapped 71 = .ok (.iconst 2, 1) := by decide +kernel
theorem dX10_swapped_72 : decode cX10_swapped 72 = .ok (.iadd, 1) := by decide +kernel
theorem dX10_swapped_73 : decode cX10_swapped 73 = .ok (.iaload, 1) := by decide +kernel
theorem dX10_swapped_74 : decode cX10_swapped 74 = .ok (.iastore, 1) := by decide +kernel
theorem dX10_swapped_75 : decode cX10_swapped 75 = .ok (.aload_n 0, 1) := by decide +kernel
theorem dX10_swapped_76 : decode cX10_swapped 76 = .ok (.getfield 36, 3) := by decide +kernel
theorem dX10_swapped_79 : decode cX10_swapped 79 = .ok (.iload 5, 2) := by decide +kernel
theorem dX10_swapped_81 : decode cX10_swapped 81 = .ok (.aload_n 0, 1) := by decide +kernel
theorem dX10_swapped_82 : decode cX10_swapped 82 = .ok (.getfield 17, 3) := by decide +kernel
theorem dX10_swapped_85 : decode cX10_swapped 85 = .ok (.iload 6, 2) := by decide +kernel
theorem dX10_swapped_87 : decode cX10_swapped 87 = .ok (.bipush 62, 2) := by decide +kernel
theorem dX10_swapped_89 : decode cX10_swapped 89 = .ok (.iadd, 1) := by decide +kernel
theorem dX10_swapped_90 : decode cX10_swapped 90 = .ok (.iaload, 1) := by decide +kernel
theorem dX10_swapped_91 : decode cX10_swapped 91 = .ok (.iastore, 1) := by decide +kernel
theorem dX10_swapped_92 : decode cX10_swapped 92 = .ok (.aload_n 0, 1) := by decide +kernel
theorem dX10_swapped_93 : decode cX10_swapped 93 = .ok (.getfield 39, 3) := by decide +kernel
theorem dX10_swapped_96 : decode cX10_swapped 96 = .ok (.iload 5, 2) := by decide +kernel
theorem dX10_swapped_98 : decode cX10_swapped 98 = .ok (.aload_n 0, 1) := by decide +kernel
theorem dX10_swapped_99 : decode cX10_swapped 99 = .ok (.getfield 17, 3) := by decide +kernel
theorem dX10_swapped_102 : decode cX10_swapped 102 = .ok (.iload 6, 2) := by decide +kernel
theorem dX10_swapped_104 : decode cX10_swapped 104 = .ok (.bipush 122, 2) := by decide +kernel
theorem dX10_swapped_106 : decode cX10_swapped 106 = .ok (.iadd, 1) := by decide +kernel
theorem dX10_swapped_107 : decode cX10_swapped 107 = .ok (.iaload, 1) := by decide +kernel
theorem dX10_swapped_108 : decode cX10_swapped 108 = .ok (.iastore, 1) := by decide +kernel
theorem dX10_swapped_109 : decode cX10_swapped 109 = .ok (.aload_n 0, 1) := by decide +kernel
theorem dX10_swapped_110 : decode cX10_swapped 110 = .ok (.getfield 42, 3) := by decide +kernel
theorem dX10_swapped_113 : decode cX10_swapped 113 = .ok (.iload 5, 2) := by decide +kernel
theorem dX10_swapped_115 : decode cX10_swapped 115 = .ok (.aload_n 0, 1) := by decide +kernel
theorem dX10_swapped_116 : decode cX10_swapped 116 = .ok (.getfield 17, 3) := by decide +kernel
theorem dX10_swapped_119 : decode cX10_swapped 119 = .ok (.iload 6, 2) := by decide +kernel
theorem dX10_swapped_121 : decode cX10_swapped 121 = .ok (.sipush 182, 3) := by decide +kernel
theorem dX10_swapped_124 : decode cX10_swapped 124 = .ok (.iadd, 1) := by decide +kernel
theorem dX10_swapped_125 : decode cX10_swapped 125 = .ok (.iaload, 1) := by decide +kernel
theorem dX10_swapped_126 : decode cX10_swapped 126 = .ok (.iastore, 1) := by decide +kernel
theorem dX10_swapped_127 : decode cX10_swapped 127 = .ok (.iinc 5 1, 3) := by decide +kernel
theorem dX10_swapped_130 : decode cX10_swapped 130 = .ok (.goto (-94), 3) := by decide +kernel
theorem dX10_swapped_133 : decode cX10_swapped 133 = .ok (.aload_n 0, 1) := by decide +kernel
theorem dX10_swapped_134 : decode cX10_swapped 134 = .ok (.iload_n 2, 1) := by decide +kernel
theorem dX10_swapped_135 : decode cX10_swapped 135 = .ok (.iconst 1, 1) := by decide +kernel
theorem dX10_swapped_136 : decode cX10_swapped 136 = .ok (.invokevirtual 317, 3) := by decide +kernel
theorem dX10_swapped_139 : decode cX10_swapped 139 = .ok (.aload_n 0, 1) := by decide +kernel
theorem dX10_swapped_140 : decode cX10_swapped 140 = .ok (.iload_n 3, 1) := by decide +kernel
theorem dX10_swapped_141 : decode cX10_swapped 141 = .ok (.invokevirtual 285, 3) := by decide +kernel
theorem dX10_swapped_144 : decode cX10_swapped 144 = .ok (.aload_n 0, 1) := by decide +kernel
theorem dX10_swapped_145 : decode cX10_swapped 145 = .ok (.iconst (-1), 1) := by decide +kernel
theorem dX10_swapped_146 : decode cX10_swapped 146 = .ok (.invokevirtual 393, 3) := by decide +kernel
theorem dX10_swapped_149 : decode cX10_swapped 149 = .ok (.aload_n 0, 1) := by decide +kernel
theorem dX10_swapped_150 : decode cX10_swapped 150 = .ok (.getfield 390, 3) := by decide +kernel
theorem dX10_swapped_153 : decode cX10_swapped 153 = .ok (.ireturn, 1) := by decide +kernel
theorem dX10_grid_0 : decode cX10_grid 0 = .ok (.aload_n 0, 1) := by decide +kernel
theorem dX10_grid_1 : decode cX10_grid 1 = .ok (.iconst 0, 1) := by decide +kernel
theorem dX10_grid_2 : decode cX10_grid 2 = .ok (.putfield 1, 3) := by decide +kernel
theorem dX10_grid_5 : decode cX10_grid 5 = .ok (.aload_n 0, 1) := by decide +kernel
theorem dX10_grid_6 : decode cX10_grid 6 = .ok (.iload_n 1, 1) := by decide +kernel
theorem dX10_grid_7 : decode cX10_grid 7 = .ok (.iload_n 2, 1) := by decide +kernel
theorem dX10_grid_8 : decode cX10_grid 8 = .ok (.invokevirtual 396, 3) := by decide +kernel
theorem dX10_grid_11 : decode cX10_grid 11 = .ok (.ifCond .ne 10, 3) := by decide +kernel
theorem dX10_grid_14 : decode cX10_grid 14 = .ok (.aload_n 0, 1) := by decide +kernel
theorem dX10_grid_15 : decode cX10_grid 15 = .ok (.bipush (-2), 2) := by decide +kernel
theorem dX10_grid_17 : decode cX10_grid 17 = .ok (.invokevirtual 131, 3) := by decide +kernel
theorem dX10_grid_20 : decode cX10_grid 20 = .ok (.ireturn, 1) := by decide +kernel
theorem dX10_grid_21 : decode cX10_grid 21 = .ok (.iconst 0, 1) := by decide +kernel
theorem dX10_grid_22 : decode cX10_grid 22 = .ok (.istore 4, 2) := by decide +kernel
theorem dX10_grid_24 : decode cX10_grid 24 = .ok (.iconst 1, 1) := by decide +kernel
theorem dX10_grid_25 : decode cX10_grid 25 = .ok (.istore 5, 2) := by decide +kernel
theorem dX10_grid_27 : decode cX10_grid 27 = .ok (.iload 5, 2) := by decide +kernel
theorem dX10_grid_29 : decode cX10_grid 29 = .ok (.bipush 10, 2) := by decide +kernel
theorem dX10_grid_31 : decode cX10_grid 31 = .ok (.if_icmp .ge 51, 3) := by decide +kernel
theorem dX10_grid_34 : decode cX10_grid 34 = .ok (.iconst 0, 1) := by decide +kernel
theorem dX10_grid_35 : decode cX10_grid 35 = .ok (.istore 6, 2) := by decide +kernel
theorem dX10_grid_37 : decode cX10_grid 37 = .ok (.iload 6, 2) := by decide +kernel
theorem dX10_grid_39 : decode cX10_grid 39 = .ok (.sipush 1000, 3) := by decide +kernel
theorem dX10_grid_42 : decode cX10_grid 42 = .ok (.if_icmp .ge 34, 3) := by decide +kernel
theorem dX10_grid_45 : decode cX10_grid 45 = .ok (.iload 4, 2) := by decide +kernel
theorem dX10_grid_47 : decode cX10_grid 47 = .ok (.aload_n 0, 1) := by decide +kernel
theorem dX10_grid_48 : decode cX10_grid 48 = .ok (.iload_n 1, 1) := by decide +kernel
theorem dX10_grid_49 : decode cX10_grid 49 = .ok (.iload_n 2, 1) := by decide +kernel
theorem dX10_grid_50 : decode cX10_grid 50 = .ok (.iload_n 3, 1) := by decide +kernel
theorem dX10_grid_51 : decode cX10_grid 51 = .ok (.iload 5, 2) := by decide +kernel
theorem dX10_grid_53 : decode cX10_grid 53 = .ok (.iload 6, 2) := by decide +kernel
theorem dX10_grid_55 : decode cX10_grid 55 = .ok (.invokevirtual 400, 3) := by decide +kernel
theorem dX10_grid_58 : decode cX10_grid 58 = .ok (.iconst 2, 1) := by decide +kernel
theorem dX10_grid_59 : decode cX10_grid 59 = .ok (.if_icmp .ne 7, 3) := by decide +kernel
theorem dX10_grid_62 : decode cX10_grid 62 = .ok (.iconst 1, 1) := by decide +kernel
theorem dX10_grid_63 : decode cX10_grid 63 = .ok (.goto 4, 3) := by decide +kernel
theorem dX10_grid_66 : decode cX10_grid 66 = .ok (.iconst 0, 1) := by decide +kernel
theorem dX10_grid_67 : decode cX10_grid 67 = .ok (.iadd, 1) := by decide +kernel
theorem dX10_grid_68 : decode cX10_grid 68 = .ok (.istore 4, 2) := by decide +kernel
theorem dX10_grid_70 : decode cX10_grid 70 = .ok (.iinc 6 50, 3) := by decide +kernel
theorem dX10_grid_73 : decode cX10_grid 73 = .ok (.goto (-36), 3) := by decide +kernel
theorem dX10_grid_76 : decode cX10_grid 76 = .ok (.iinc 5 1, 3) := by decide +kernel
theorem dX10_grid_79 : decode cX10_grid 79 = .ok (.goto (-52), 3) := by decide +kernel
theorem dX10_grid_82 : decode cX10_grid 82 = .ok (.iload 4, 2) := by decide +kernel
theorem dX10_grid_84 : decode cX10_grid 84 = .ok (.ireturn, 1) := by decide +kernel
theorem dX10_brokenBy_0 : decode cX10_brokenBy 0 = .ok (.iconst 0, 1) := by decide +kernel
theorem dX10_brokenBy_1 : decode cX10_brokenBy 1 = .ok (.istore_n 2, 1) := by decide +kernel
theorem dX10_brokenBy_2 : decode cX10_brokenBy 2 = .ok (.iload_n 2, 1) := by decide +kernel
theorem dX10_brokenBy_3 : decode cX10_brokenBy 3 = .ok (.aload_n 0, 1) := by decide +kernel
theorem dX10_brokenBy_4 : decode cX10_brokenBy 4 = .ok (.getfield 17, 3) := by decide +kernel
theorem dX10_brokenBy_7 : decode cX10_brokenBy 7 = .ok (.sipush 1126, 3) := by decide +kernel
theorem dX10_brokenBy_10 : decode cX10_brokenBy 10 = .ok (.iaload, 1) := by decide +kernel
theorem dX10_brokenBy_11 : decode cX10_brokenBy 11 = .ok (.if_icmp .ge 34, 3) := by decide +kernel
theorem dX10_brokenBy_14 : decode cX10_brokenBy 14 = .ok (.aload_n 0, 1) := by decide +kernel
theorem dX10_brokenBy_15 : decode cX10_brokenBy 15 = .ok (.getfield 17, 3) := by decide +kernel
theorem dX10_brokenBy_18 : decode cX10_brokenBy 18 = .ok (.sipush 1134, 3) := by decide +kernel
theorem dX10_brokenBy_21 : decode cX10_brokenBy 21 = .ok (.iload_n 2, 1) := by decide +kernel
theorem dX10_brokenBy_22 : decode cX10_brokenBy 22 = .ok (.iadd, 1) := by decide +kernel
theorem dX10_brokenBy_23 : decode cX10_brokenBy 23 = .ok (.iaload, 1) := by decide +kernel
theorem dX10_brokenBy_24 : decode cX10_brokenBy 24 = .ok (.iload_n 1, 1) := by decide +kernel
theorem dX10_brokenBy_25 : decode cX10_brokenBy 25 = .ok (.if_icmp .ne 14, 3) := by decide +kernel
theorem dX10_brokenBy_28 : decode cX10_brokenBy 28 = .ok (.aload_n 0, 1) := by decide +kernel
theorem dX10_brokenBy_29 : decode cX10_brokenBy 29 = .ok (.getfield 17, 3) := by decide +kernel
theorem dX10_brokenBy_32 : decode cX10_brokenBy 32 = .ok (.sipush 1314, 3) := by decide +kernel
theorem dX10_brokenBy_35 : decode cX10_brokenBy 35 = .ok (.iload_n 2, 1) := by decide +kernel
theorem dX10_brokenBy_36 : decode cX10_brokenBy 36 = .ok (.iadd, 1) := by decide +kernel
theorem dX10_brokenBy_37 : decode cX10_brokenBy 37 = .ok (.iaload, 1) := by decide +kernel
theorem dX10_brokenBy_38 : decode cX10_brokenBy 38 = .ok (.ireturn, 1) := by decide +kernel
theorem dX10_brokenBy_39 : decode cX10_brokenBy 39 = .ok (.iinc 2 1, 3) := by decide +kernel
theorem dX10_brokenBy_42 : decode cX10_brokenBy 42 = .ok (.goto (-40), 3) := by decide +kernel
theorem dX10_brokenBy_45 : decode cX10_brokenBy 45 = .ok (.iconst 0, 1) := by decide +kernel
theorem dX10_brokenBy_46 : decode cX10_brokenBy 46 = .ok (.ireturn, 1) := by decide +kernel
theorem dX10_flies_0 : decode cX10_flies 0 = .ok (.aload_n 0, 1) := by decide +kernel
theorem dX10_flies_1 : decode cX10_flies 1 = .ok (.iconst 0, 1) := by decide +kernel
theorem dX10_flies_2 : decode cX10_flies 2 = .ok (.putfield 1, 3) := by decide +kernel
theorem dX10_flies_5 : decode cX10_flies 5 = .ok (.iload_n 1, 1) := by decide +kernel
theorem dX10_flies_6 : decode cX10_flies 6 = .ok (.ifCond .lt 22, 3) := by decide +kernel
theorem dX10_flies_9 : decode cX10_flies 9 = .ok (.aload_n 0, 1) := by decide +kernel
theorem dX10_flies_10 : decode cX10_flies 10 = .ok (.invokevirtual 404, 3) := by decide +kernel
theorem dX10_flies_13 : decode cX10_flies 13 = .ok (.ifCond .eq 22, 3) := by decide +kernel
theorem dX10_flies_16 : decode cX10_flies 16 = .ok (.iload_n 1, 1) := by decide +kernel
theorem dX10_flies_17 : decode cX10_flies 17 = .ok (.aload_n 0, 1) := by decide +kernel
theorem dX10_flies_18 : decode cX10_flies 18 = .ok (.getfield 17, 3) := by decide +kernel
theorem dX10_flies_21 : decode cX10_flies 21 = .ok (.sipush 1127, 3) := by decide +kernel
theorem dX10_flies_24 : decode cX10_flies 24 = .ok (.iaload, 1) := by decide +kernel
theorem dX10_flies_25 : decode cX10_flies 25 = .ok (.if_icmp .lt 10, 3) := by decide +kernel
theorem dX10_flies_28 : decode cX10_flies 28 = .ok (.aload_n 0, 1) := by decide +kernel
theorem dX10_flies_29 : decode cX10_flies 29 = .ok (.bipush (-2), 2) := by decide +kernel
theorem dX10_flies_31 : decode cX10_flies 31 = .ok (.invokevirtual 131, 3) := by decide +kernel
theorem dX10_flies_34 : decode cX10_flies 34 = .ok (.ireturn, 1) := by decide +kernel
theorem dX10_flies_35 : decode cX10_flies 35 = .ok (.aload_n 0, 1) := by decide +kernel
theorem dX10_flies_36 : decode cX10_flies 36 = .ok (.invokevirtual 404, 3) := by decide +kernel
theorem dX10_flies_39 : decode cX10_flies 39 = .ok (.ifCond .ne 10, 3) := by decide +kernel
theorem dX10_flies_42 : decode cX10_flies 42 = .ok (.aload_n 0, 1) := by decide +kernel
theorem dX10_flies_43 : decode cX10_flies 43 = .ok (.bipush (-5), 2) := by decide +kernel
theorem dX10_flies_45 : decode cX10_flies 45 = .ok (.invokevirtual 131, 3) := by decide +kernel
theorem dX10_flies_48 : decode cX10_flies 48 = .ok (.ireturn, 1) := by decide +kernel
theorem dX10_flies_49 : decode cX10_flies 49 = .ok (.iconst 0, 1) := by decide +kernel
theorem dX10_flies_50 : decode cX10_flies 50 = .ok (.istore_n 2, 1) := by decide +kernel
theorem dX10_flies_51 : decode cX10_flies 51 = .ok (.iconst 0, 1) := by decide +kernel
theorem dX10_flies_52 : decode cX10_flies 52 = .ok (.istore_n 3, 1) := by decide +kernel
theorem dX10_flies_53 : decode cX10_flies 53 = .ok (.iload_n 3, 1) := by decide +kernel
theorem dX10_flies_54 : decode cX10_flies 54 = .ok (.iload_n 1, 1) := by decide +kernel
theorem dX10_flies_55 : decode cX10_flies 55 = .ok (.if_icmp .ge 22, 3) := by decide +kernel
theorem dX10_flies_58 : decode cX10_flies 58 = .ok (.iload_n 2, 1) := by decide +kernel
theorem dX10_flies_59 : decode cX10_flies 59 = .ok (.aload_n 0, 1) := by decide +kernel
theorem dX10_flies_60 : decode cX10_flies 60 = .ok (.getfield 17, 3) := by decide +kernel
theorem dX10_flies_63 : decode cX10_flies 63 = .ok (.sipush 1374, 3) := by decide +kernel
theorem dX10_flies_66 : decode cX10_flies 66 = .ok (.iload_n 3, 1) := by decide +kernel
theorem dX10_flies_67 : decode cX10_flies 67 = .ok (.iadd, 1) := by decide +kernel
theorem dX10_flies_68 : decode cX10_flies 68 = .ok (.iaload, 1) := by decide +kernel
theorem dX10_flies_69 : decode cX10_flies 69 = .ok (.iadd, 1) := by decide +kernel
theorem dX10_flies_70 : decode cX10_flies 70 = .ok (.istore_n 2, 1) := by decide +kernel
theorem dX10_flies_71 : decode cX10_flies 71 = .ok (.iinc 3 1, 3) := by decide +kernel
theorem dX10_flies_74 : decode cX10_flies 74 = .ok (.goto (-21), 3) := by decide +kernel
theorem dX10_flies_77 : decode cX10_flies 77 = .ok (.aload_n 0, 1) := by decide +kernel
theorem dX10_flies_78 : decode cX10_flies 78 = .ok (.iload_n 2, 1) := by decide +kernel
theorem dX10_flies_79 : decode cX10_flies 79 = .ok (.iconst 1, 1) := by decide +kernel
theorem dX10_flies_80 : decode cX10_flies 80 = .ok (.isub, 1) := by decide +kernel
theorem dX10_flies_81 : decode cX10_flies 81 = .ok (.invokevirtual 455, 3) := by decide +kernel
theorem dX10_flies_84 : decode cX10_flies 84 = .ok (.aload_n 0, 1) := by decide +kernel
theorem dX10_flies_85 : decode cX10_flies 85 = .ok (.iload_n 2, 1) := by decide +kernel
theorem dX10_flies_86 : decode cX10_flies 86 = .ok (.aload_n 0, 1) := by decide +kernel
theorem dX10_flies_87 : decode cX10_flies 87 = .ok (.getfield 17, 3) := by decide +kernel
theorem dX10_flies_90 : decode cX10_flies 90 = .ok (.sipush 1374, 3) := by decide +kernel
theorem dX10_flies_93 : decode cX10_flies 93 = .ok (.iload_n 1, 1) := by decide +kernel
theorem dX10_flies_94 : decode cX10_flies 94 = .ok (.iadd, 1) := by decide +kernel
theorem dX10_flies_95 : decode cX10_flies 95 = .ok (.iaload, 1) := by decide +kernel
theorem dX10_flies_96 : decode cX10_flies 96 = .ok (.iadd, 1) := by decide +kernel
theorem dX10_flies_97 : decode cX10_flies 97 = .ok (.iconst 1, 1) := by decide +kernel
theorem dX10_flies_98 : decode cX10_flies 98 = .ok (.isub, 1) := by decide +kernel
theorem dX10_flies_99 : decode cX10_flies 99 = .ok (.invokevirtual 455, 3) := by decide +kernel
theorem dX10_flies_102 : decode cX10_flies 102 = .ok (.iadd, 1) := by decide +kernel
theorem dX10_flies_103 : decode cX10_flies 103 = .ok (.aload_n 0, 1) := by decide +kernel
theorem dX10_flies_104 : decode cX10_flies 104 = .ok (.getfield 17, 3) := by decide +kernel
theorem dX10_flies_107 : decode cX10_flies 107 = .ok (.sipush 1374, 3) := by decide +kernel
theorem dX10_flies_110 : decode cX10_flies 110 = .ok (.iload_n 1, 1) := by decide +kernel
theorem dX10_flies_111 : decode cX10_flies 111 = .ok (.iadd, 1) := by decide +kernel
theorem dX10_flies_112 : decode cX10_flies 112 = .ok (.iaload, 1) := by decide +kernel
theorem dX10_flies_113 : decode cX10_flies 113 = .ok (.idiv, 1) := by decide +kernel
theorem dX10_flies_114 : decode cX10_flies 114 = .ok (.ireturn, 1) := by decide +kernel
theorem dX10_cut_0 : decode cX10_cut 0 = .ok (.iload_n 2, 1) := by decide +kernel
theorem dX10_cut_1 : decode cX10_cut 1 = .ok (.ifCond .ne 10, 3) := by decide +kernel
theorem dX10_cut_4 : decode cX10_cut 4 = .ok (.lload_n 0, 1) := by decide +kernel
theorem dX10_cut_5 : decode cX10_cut 5 = .ok (.l2i, 1) := by decide +kernel
theorem dX10_cut_6 : decode cX10_cut 6 = .ok (.i2b, 1) := by decide +kernel
theorem dX10_cut_7 : decode cX10_cut 7 = .ok (.i2l, 1) := by decide +kernel
theorem dX10_cut_8 : decode cX10_cut 8 = .ok (.goto 27, 3) := by decide +kernel
theorem dX10_cut_11 : decode cX10_cut 11 = .ok (.iload_n 2, 1) := by decide +kernel
theorem dX10_cut_12 : decode cX10_cut 12 = .ok (.iconst 1, 1) := by decide +kernel
