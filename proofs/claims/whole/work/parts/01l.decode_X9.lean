theorem dX9_done_196 : decode cX9_done 196 = .ok (.iload_n 2, 1) := by decide +kernel
theorem dX9_done_197 : decode cX9_done 197 = .ok (.iconst 1, 1) := by decide +kernel
theorem dX9_done_198 : decode cX9_done 198 = .ok (.if_icmp .le 98, 3) := by decide +kernel
theorem dX9_done_201 : decode cX9_done 201 = .ok (.aload_n 0, 1) := by decide +kernel
theorem dX9_done_202 : decode cX9_done 202 = .ok (.getfield 90, 3) := by decide +kernel
theorem dX9_done_205 : decode cX9_done 205 = .ok (.iload_n 1, 1) := by decide +kernel
theorem dX9_done_206 : decode cX9_done 206 = .ok (.baload, 1) := by decide +kernel
theorem dX9_done_207 : decode cX9_done 207 = .ok (.ifCond .eq 89, 3) := by decide +kernel
theorem dX9_done_210 : decode cX9_done 210 = .ok (.iconst 2, 1) := by decide +kernel
theorem dX9_done_211 : decode cX9_done 211 = .ok (.istore 4, 2) := by decide +kernel
theorem dX9_done_213 : decode cX9_done 213 = .ok (.iload 4, 2) := by decide +kernel
theorem dX9_done_215 : decode cX9_done 215 = .ok (.iload_n 2, 1) := by decide +kernel
theorem dX9_done_216 : decode cX9_done 216 = .ok (.if_icmp .gt 57, 3) := by decide +kernel
theorem dX9_done_219 : decode cX9_done 219 = .ok (.aload_n 0, 1) := by decide +kernel
theorem dX9_done_220 : decode cX9_done 220 = .ok (.getfield 99, 3) := by decide +kernel
theorem dX9_done_223 : decode cX9_done 223 = .ok (.iload_n 1, 1) := by decide +kernel
theorem dX9_done_224 : decode cX9_done 224 = .ok (.iaload, 1) := by decide +kernel
theorem dX9_done_225 : decode cX9_done 225 = .ok (.aload_n 0, 1) := by decide +kernel
theorem dX9_done_226 : decode cX9_done 226 = .ok (.getfield 96, 3) := by decide +kernel
theorem dX9_done_229 : decode cX9_done 229 = .ok (.iload_n 1, 1) := by decide +kernel
theorem dX9_done_230 : decode cX9_done 230 = .ok (.iaload, 1) := by decide +kernel
theorem dX9_done_231 : decode cX9_done 231 = .ok (.if_icmp .ge 42, 3) := by decide +kernel
theorem dX9_done_234 : decode cX9_done 234 = .ok (.aload_n 0, 1) := by decide +kernel
theorem dX9_done_235 : decode cX9_done 235 = .ok (.getfield 102, 3) := by decide +kernel
theorem dX9_done_238 : decode cX9_done 238 = .ok (.bipush 100, 2) := by decide +kernel
theorem dX9_done_240 : decode cX9_done 240 = .ok (.iload_n 1, 1) := by decide +kernel
theorem dX9_done_241 : decode cX9_done 241 = .ok (.imul, 1) := by decide +kernel
theorem dX9_done_242 : decode cX9_done 242 = .ok (.aload_n 0, 1) := by decide +kernel
theorem dX9_done_243 : decode cX9_done 243 = .ok (.getfield 99, 3) := by decide +kernel
theorem dX9_done_246 : decode cX9_done 246 = .ok (.iload_n 1, 1) := by decide +kernel
theorem dX9_done_247 : decode cX9_done 247 = .ok (.iaload, 1) := by decide +kernel
theorem dX9_done_248 : decode cX9_done 248 = .ok (.iadd, 1) := by decide +kernel
theorem dX9_done_249 : decode cX9_done 249 = .ok (.aload_n 0, 1) := by decide +kernel
theorem dX9_done_250 : decode cX9_done 250 = .ok (.getfield 111, 3) := by decide +kernel
theorem dX9_done_253 : decode cX9_done 253 = .ok (.iload 4, 2) := by decide +kernel
theorem dX9_done_255 : decode cX9_done 255 = .ok (.iaload, 1) := by decide +kernel
theorem dX9_done_256 : decode cX9_done 256 = .ok (.iastore, 1) := by decide +kernel
theorem dX9_done_257 : decode cX9_done 257 = .ok (.aload_n 0, 1) := by decide +kernel
theorem dX9_done_258 : decode cX9_done 258 = .ok (.getfield 99, 3) := by decide +kernel
theorem dX9_done_261 : decode cX9_done 261 = .ok (.iload_n 1, 1) := by decide +kernel
theorem dX9_done_262 : decode cX9_done 262 = .ok (.dup2, 1) := by decide +kernel
theorem dX9_done_263 : decode cX9_done 263 = .ok (.iaload, 1) := by decide +kernel
theorem dX9_done_264 : decode cX9_done 264 = .ok (.iconst 1, 1) := by decide +kernel
theorem dX9_done_265 : decode cX9_done 265 = .ok (.iadd, 1) := by decide +kernel
theorem dX9_done_266 : decode cX9_done 266 = .ok (.iastore, 1) := by decide +kernel
theorem dX9_done_267 : decode cX9_done 267 = .ok (.iinc 4 1, 3) := by decide +kernel
theorem dX9_done_270 : decode cX9_done 270 = .ok (.goto (-57), 3) := by decide +kernel
theorem dX9_done_273 : decode cX9_done 273 = .ok (.aload_n 0, 1) := by decide +kernel
theorem dX9_done_274 : decode cX9_done 274 = .ok (.getfield 99, 3) := by decide +kernel
theorem dX9_done_277 : decode cX9_done 277 = .ok (.iload_n 1, 1) := by decide +kernel
theorem dX9_done_278 : decode cX9_done 278 = .ok (.iaload, 1) := by decide +kernel
theorem dX9_done_279 : decode cX9_done 279 = .ok (.aload_n 0, 1) := by decide +kernel
theorem dX9_done_280 : decode cX9_done 280 = .ok (.getfield 96, 3) := by decide +kernel
theorem dX9_done_283 : decode cX9_done 283 = .ok (.iload_n 1, 1) := by decide +kernel
theorem dX9_done_284 : decode cX9_done 284 = .ok (.iaload, 1) := by decide +kernel
theorem dX9_done_285 : decode cX9_done 285 = .ok (.if_icmp .ne 60, 3) := by decide +kernel
theorem dX9_done_288 : decode cX9_done 288 = .ok (.aload_n 0, 1) := by decide +kernel
theorem dX9_done_289 : decode cX9_done 289 = .ok (.iload_n 1, 1) := by decide +kernel
theorem dX9_done_290 : decode cX9_done 290 = .ok (.invokevirtual 182, 3) := by decide +kernel
theorem dX9_done_293 : decode cX9_done 293 = .ok (.goto 52, 3) := by decide +kernel
theorem dX9_done_296 : decode cX9_done 296 = .ok (.iload_n 3, 1) := by decide +kernel
theorem dX9_done_297 : decode cX9_done 297 = .ok (.bipush 72, 2) := by decide +kernel
theorem dX9_done_299 : decode cX9_done 299 = .ok (.if_icmp .ne 46, 3) := by decide +kernel
theorem dX9_done_302 : decode cX9_done 302 = .ok (.iload_n 2, 1) := by decide +kernel
theorem dX9_done_303 : decode cX9_done 303 = .ok (.iconst 1, 1) := by decide +kernel
theorem dX9_done_304 : decode cX9_done 304 = .ok (.if_icmp .ne 41, 3) := by decide +kernel
theorem dX9_done_307 : decode cX9_done 307 = .ok (.aload_n 0, 1) := by decide +kernel
theorem dX9_done_308 : decode cX9_done 308 = .ok (.getfield 19, 3) := by decide +kernel
theorem dX9_done_311 : decode cX9_done 311 = .ok (.iload_n 1, 1) := by decide +kernel
theorem dX9_done_312 : decode cX9_done 312 = .ok (.iaload, 1) := by decide +kernel
theorem dX9_done_313 : decode cX9_done 313 = .ok (.ifCond .ne 13, 3) := by decide +kernel
theorem dX9_done_316 : decode cX9_done 316 = .ok (.aload_n 0, 1) := by decide +kernel
theorem dX9_done_317 : decode cX9_done 317 = .ok (.iload_n 1, 1) := by decide +kernel
theorem dX9_done_318 : decode cX9_done 318 = .ok (.bipush 72, 2) := by decide +kernel
theorem dX9_done_320 : decode cX9_done 320 = .ok (.invokevirtual 157, 3) := by decide +kernel
theorem dX9_done_323 : decode cX9_done 323 = .ok (.goto 22, 3) := by decide +kernel
theorem dX9_done_326 : decode cX9_done 326 = .ok (.aload_n 0, 1) := by decide +kernel
theorem dX9_done_327 : decode cX9_done 327 = .ok (.iload_n 1, 1) := by decide +kernel
theorem dX9_done_328 : decode cX9_done 328 = .ok (.bipush 84, 2) := by decide +kernel
theorem dX9_done_330 : decode cX9_done 330 = .ok (.invokevirtual 157, 3) := by decide +kernel
theorem dX9_done_333 : decode cX9_done 333 = .ok (.aload_n 0, 1) := by decide +kernel
theorem dX9_done_334 : decode cX9_done 334 = .ok (.getfield 59, 3) := by decide +kernel
theorem dX9_done_337 : decode cX9_done 337 = .ok (.iload_n 1, 1) := by decide +kernel
theorem dX9_done_338 : decode cX9_done 338 = .ok (.iconst 1, 1) := by decide +kernel
theorem dX9_done_339 : decode cX9_done 339 = .ok (.bastore, 1) := by decide +kernel
theorem dX9_done_340 : decode cX9_done 340 = .ok (.aload_n 0, 1) := by decide +kernel
theorem dX9_done_341 : decode cX9_done 341 = .ok (.iload_n 1, 1) := by decide +kernel
theorem dX9_done_342 : decode cX9_done 342 = .ok (.invokevirtual 166, 3) := by decide +kernel
theorem dX9_done_345 : decode cX9_done 345 = .ok (.return_, 1) := by decide +kernel
theorem dX9_offered_0 : decode cX9_offered 0 = .ok (.aload_n 0, 1) := by decide +kernel
theorem dX9_offered_1 : decode cX9_offered 1 = .ok (.iload_n 1, 1) := by decide +kernel
theorem dX9_offered_2 : decode cX9_offered 2 = .ok (.iload_n 2, 1) := by decide +kernel
theorem dX9_offered_3 : decode cX9_offered 3 = .ok (.invokevirtual 185, 3) := by decide +kernel
theorem dX9_offered_6 : decode cX9_offered 6 = .ok (.ifCond .eq 11, 3) := by decide +kernel
theorem dX9_offered_9 : decode cX9_offered 9 = .ok (.aload_n 0, 1) := by decide +kernel
theorem dX9_offered_10 : decode cX9_offered 10 = .ok (.iload_n 1, 1) := by decide +kernel
theorem dX9_offered_11 : decode cX9_offered 11 = .ok (.bipush 78, 2) := by decide +kernel
theorem dX9_offered_13 : decode cX9_offered 13 = .ok (.invokevirtual 157, 3) := by decide +kernel
theorem dX9_offered_16 : decode cX9_offered 16 = .ok (.return_, 1) := by decide +kernel
theorem dX9_offered_17 : decode cX9_offered 17 = .ok (.aload_n 0, 1) := by decide +kernel
theorem dX9_offered_18 : decode cX9_offered 18 = .ok (.iload_n 1, 1) := by decide +kernel
theorem dX9_offered_19 : decode cX9_offered 19 = .ok (.bipush 89, 2) := by decide +kernel
theorem dX9_offered_21 : decode cX9_offered 21 = .ok (.invokevirtual 157, 3) := by decide +kernel
theorem dX9_offered_24 : decode cX9_offered 24 = .ok (.aload_n 0, 1) := by decide +kernel
theorem dX9_offered_25 : decode cX9_offered 25 = .ok (.getfield 90, 3) := by decide +kernel
theorem dX9_offered_28 : decode cX9_offered 28 = .ok (.iload_n 1, 1) := by decide +kernel
theorem dX9_offered_29 : decode cX9_offered 29 = .ok (.iconst 1, 1) := by decide +kernel
theorem dX9_offered_30 : decode cX9_offered 30 = .ok (.bastore, 1) := by decide +kernel
theorem dX9_offered_31 : decode cX9_offered 31 = .ok (.aload_n 0, 1) := by decide +kernel
theorem dX9_offered_32 : decode cX9_offered 32 = .ok (.getfield 93, 3) := by decide +kernel
theorem dX9_offered_35 : decode cX9_offered 35 = .ok (.iload_n 1, 1) := by decide +kernel
theorem dX9_offered_36 : decode cX9_offered 36 = .ok (.iload_n 2, 1) := by decide +kernel
theorem dX9_offered_37 : decode cX9_offered 37 = .ok (.iastore, 1) := by decide +kernel
theorem dX9_offered_38 : decode cX9_offered 38 = .ok (.aload_n 0, 1) := by decide +kernel
theorem dX9_offered_39 : decode cX9_offered 39 = .ok (.getfield 96, 3) := by decide +kernel
theorem dX9_offered_42 : decode cX9_offered 42 = .ok (.iload_n 1, 1) := by decide +kernel
theorem dX9_offered_43 : decode cX9_offered 43 = .ok (.iload_n 3, 1) := by decide +kernel
theorem dX9_offered_44 : decode cX9_offered 44 = .ok (.iastore, 1) := by decide +kernel
theorem dX9_offered_45 : decode cX9_offered 45 = .ok (.aload_n 0, 1) := by decide +kernel
theorem dX9_offered_46 : decode cX9_offered 46 = .ok (.getfield 99, 3) := by decide +kernel
theorem dX9_offered_49 : decode cX9_offered 49 = .ok (.iload_n 1, 1) := by decide +kernel
theorem dX9_offered_50 : decode cX9_offered 50 = .ok (.iconst 0, 1) := by decide +kernel
theorem dX9_offered_51 : decode cX9_offered 51 = .ok (.iastore, 1) := by decide +kernel
theorem dX9_offered_52 : decode cX9_offered 52 = .ok (.iload_n 3, 1) := by decide +kernel
theorem dX9_offered_53 : decode cX9_offered 53 = .ok (.ifCond .ne 8, 3) := by decide +kernel
theorem dX9_offered_56 : decode cX9_offered 56 = .ok (.aload_n 0, 1) := by decide +kernel
theorem dX9_offered_57 : decode cX9_offered 57 = .ok (.iload_n 1, 1) := by decide +kernel
theorem dX9_offered_58 : decode cX9_offered 58 = .ok (.invokevirtual 182, 3) := by decide +kernel
theorem dX9_offered_61 : decode cX9_offered 61 = .ok (.return_, 1) := by decide +kernel
theorem dX9_come_0 : decode cX9_come 0 = .ok (.aload_n 0, 1) := by decide +kernel
theorem dX9_come_1 : decode cX9_come 1 = .ok (.getfield 53, 3) := by decide +kernel
theorem dX9_come_4 : decode cX9_come 4 = .ok (.iconst 4, 1) := by decide +kernel
theorem dX9_come_5 : decode cX9_come 5 = .ok (.iaload, 1) := by decide +kernel
theorem dX9_come_6 : decode cX9_come 6 = .ok (.istore_n 2, 1) := by decide +kernel
theorem dX9_come_7 : decode cX9_come 7 = .ok (.iload_n 2, 1) := by decide +kernel
theorem dX9_come_8 : decode cX9_come 8 = .ok (.iconst 3, 1) := by decide +kernel
theorem dX9_come_9 : decode cX9_come 9 = .ok (.ishr, 1) := by decide +kernel
theorem dX9_come_10 : decode cX9_come 10 = .ok (.bipush 7, 2) := by decide +kernel
theorem dX9_come_12 : decode cX9_come 12 = .ok (.iand, 1) := by decide +kernel
theorem dX9_come_13 : decode cX9_come 13 = .ok (.istore_n 3, 1) := by decide +kernel
theorem dX9_come_14 : decode cX9_come 14 = .ok (.iload_n 2, 1) := by decide +kernel
theorem dX9_come_15 : decode cX9_come 15 = .ok (.bipush 7, 2) := by decide +kernel
theorem dX9_come_17 : decode cX9_come 17 = .ok (.iand, 1) := by decide +kernel
theorem dX9_come_18 : decode cX9_come 18 = .ok (.istore 4, 2) := by decide +kernel
theorem dX9_come_20 : decode cX9_come 20 = .ok (.aload_n 0, 1) := by decide +kernel
theorem dX9_come_21 : decode cX9_come 21 = .ok (.getfield 53, 3) := by decide +kernel
theorem dX9_come_24 : decode cX9_come 24 = .ok (.iconst 1, 1) := by decide +kernel
theorem dX9_come_25 : decode cX9_come 25 = .ok (.iaload, 1) := by decide +kernel
theorem dX9_come_26 : decode cX9_come 26 = .ok (.iconst 1, 1) := by decide +kernel
theorem dX9_come_27 : decode cX9_come 27 = .ok (.if_icmp .ne 7, 3) := by decide +kernel
theorem dX9_come_30 : decode cX9_come 30 = .ok (.iconst 1, 1) := by decide +kernel
theorem dX9_come_31 : decode cX9_come 31 = .ok (.goto 4, 3) := by decide +kernel
theorem dX9_come_34 : decode cX9_come 34 = .ok (.iconst 0, 1) := by decide +kernel
theorem dX9_come_35 : decode cX9_come 35 = .ok (.istore 5, 2) := by decide +kernel
theorem dX9_come_37 : decode cX9_come 37 = .ok (.iload 5, 2) := by decide +kernel
theorem dX9_come_39 : decode cX9_come 39 = .ok (.ifCond .ne 97, 3) := by decide +kernel
theorem dX9_come_42 : decode cX9_come 42 = .ok (.iload_n 3, 1) := by decide +kernel
theorem dX9_come_43 : decode cX9_come 43 = .ok (.bipush 7, 2) := by decide +kernel
theorem dX9_come_45 : decode cX9_come 45 = .ok (.if_icmp .ne 91, 3) := by decide +kernel
theorem dX9_come_48 : decode cX9_come 48 = .ok (.aload_n 0, 1) := by decide +kernel
theorem dX9_come_49 : decode cX9_come 49 = .ok (.getfield 56, 3) := by decide +kernel
theorem dX9_come_52 : decode cX9_come 52 = .ok (.iload_n 1, 1) := by decide +kernel
theorem dX9_come_53 : decode cX9_come 53 = .ok (.iaload, 1) := by decide +kernel
theorem dX9_come_54 : decode cX9_come 54 = .ok (.iconst 2, 1) := by decide +kernel
theorem dX9_come_55 : decode cX9_come 55 = .ok (.if_icmp .ne 36, 3) := by decide +kernel
theorem dX9_come_58 : decode cX9_come 58 = .ok (.aload_n 0, 1) := by decide +kernel
theorem dX9_come_59 : decode cX9_come 59 = .ok (.getfield 59, 3) := by decide +kernel
theorem dX9_come_62 : decode cX9_come 62 = .ok (.iload_n 1, 1) := by decide +kernel
theorem dX9_come_63 : decode cX9_come 63 = .ok (.baload, 1) := by decide +kernel
theorem dX9_come_64 : decode cX9_come 64 = .ok (.ifCond .ne 27, 3) := by decide +kernel
theorem dX9_come_67 : decode cX9_come 67 = .ok (.aload_n 0, 1) := by decide +kernel
theorem dX9_come_68 : decode cX9_come 68 = .ok (.getfield 63, 3) := by decide +kernel
theorem dX9_come_71 : decode cX9_come 71 = .ok (.iload_n 1, 1) := by decide +kernel
theorem dX9_come_72 : decode cX9_come 72 = .ok (.iaload, 1) := by decide +kernel
theorem dX9_come_73 : decode cX9_come 73 = .ok (.iload 4, 2) := by decide +kernel
theorem dX9_come_75 : decode cX9_come 75 = .ok (.if_icmp .ne 16, 3) := by decide +kernel
theorem dX9_come_78 : decode cX9_come 78 = .ok (.aload_n 0, 1) := by decide +kernel
theorem dX9_come_79 : decode cX9_come 79 = .ok (.getfield 66, 3) := by decide +kernel
theorem dX9_come_82 : decode cX9_come 82 = .ok (.iload_n 1, 1) := by decide +kernel
theorem dX9_come_83 : decode cX9_come 83 = .ok (.baload, 1) := by decide +kernel
theorem dX9_come_84 : decode cX9_come 84 = .ok (.ifCond .eq 7, 3) := by decide +kernel
theorem dX9_come_87 : decode cX9_come 87 = .ok (.iconst 1, 1) := by decide +kernel
theorem dX9_come_88 : decode cX9_come 88 = .ok (.goto 4, 3) := by decide +kernel
theorem dX9_come_91 : decode cX9_come 91 = .ok (.iconst 0, 1) := by decide +kernel
theorem dX9_come_92 : decode cX9_come 92 = .ok (.istore 6, 2) := by decide +kernel
theorem dX9_come_94 : decode cX9_come 94 = .ok (.iload_n 1, 1) := by decide +kernel
theorem dX9_come_95 : decode cX9_come 95 = .ok (.ifCond .ne 13, 3) := by decide +kernel
theorem dX9_come_98 : decode cX9_come 98 = .ok (.aload_n 0, 1) := by decide +kernel
theorem dX9_come_99 : decode cX9_come 99 = .ok (.getfield 56, 3) := by decide +kernel
theorem dX9_come_102 : decode cX9_come 102 = .ok (.iload_n 1, 1) := by decide +kernel
theorem dX9_come_103 : decode cX9_come 103 = .ok (.iaload, 1) := by decide +kernel
theorem dX9_come_104 : decode cX9_come 104 = .ok (.iconst 1, 1) := by decide +kernel
theorem dX9_come_105 : decode cX9_come 105 = .ok (.if_icmp .eq 30, 3) := by decide +kernel
theorem dX9_come_108 : decode cX9_come 108 = .ok (.iload 6, 2) := by decide +kernel
theorem dX9_come_110 : decode cX9_come 110 = .ok (.ifCond .ne 25, 3) := by decide +kernel
theorem dX9_come_113 : decode cX9_come 113 = .ok (.aload_n 0, 1) := by decide +kernel
theorem dX9_come_114 : decode cX9_come 114 = .ok (.iload_n 1, 1) := by decide +kernel
theorem dX9_come_115 : decode cX9_come 115 = .ok (.iconst 2, 1) := by decide +kernel
theorem dX9_come_116 : decode cX9_come 116 = .ok (.invokevirtual 176, 3) := by decide +kernel
theorem dX9_come_119 : decode cX9_come 119 = .ok (.aload_n 0, 1) := by decide +kernel
theorem dX9_come_120 : decode cX9_come 120 = .ok (.getfield 63, 3) := by decide +kernel
theorem dX9_come_123 : decode cX9_come 123 = .ok (.iload_n 1, 1) := by decide +kernel
theorem dX9_come_124 : decode cX9_come 124 = .ok (.iload 4, 2) := by decide +kernel
theorem dX9_come_126 : decode cX9_come 126 = .ok (.iastore, 1) := by decide +kernel
theorem dX9_come_127 : decode cX9_come 127 = .ok (.aload_n 0, 1) := by decide +kernel
theorem dX9_come_128 : decode cX9_come 128 = .ok (.iload_n 1, 1) := by decide +kernel
theorem dX9_come_129 : decode cX9_come 129 = .ok (.iconst 5, 1) := by decide +kernel
theorem dX9_come_130 : decode cX9_come 130 = .ok (.iload 4, 2) := by decide +kernel
theorem dX9_come_132 : decode cX9_come 132 = .ok (.invokevirtual 172, 3) := by decide +kernel
theorem dX9_come_135 : decode cX9_come 135 = .ok (.return_, 1) := by decide +kernel
theorem dX9_come_136 : decode cX9_come 136 = .ok (.iload 5, 2) := by decide +kernel
theorem dX9_come_138 : decode cX9_come 138 = .ok (.ifCond .ne 60, 3) := by decide +kernel
theorem dX9_come_141 : decode cX9_come 141 = .ok (.iload_n 3, 1) := by decide +kernel
theorem dX9_come_142 : decode cX9_come 142 = .ok (.iconst 5, 1) := by decide +kernel
theorem dX9_come_143 : decode cX9_come 143 = .ok (.if_icmp .ne 55, 3) := by decide +kernel
theorem dX9_come_146 : decode cX9_come 146 = .ok (.aload_n 0, 1) := by decide +kernel
theorem dX9_come_147 : decode cX9_come 147 = .ok (.getfield 56, 3) := by decide +kernel
theorem dX9_come_150 : decode cX9_come 150 = .ok (.iload_n 1, 1) := by decide +kernel
theorem dX9_come_151 : decode cX9_come 151 = .ok (.iaload, 1) := by decide +kernel
theorem dX9_come_152 : decode cX9_come 152 = .ok (.iconst 1, 1) := by decide +kernel
theorem dX9_come_153 : decode cX9_come 153 = .ok (.if_icmp .ne 44, 3) := by decide +kernel
theorem dX9_come_156 : decode cX9_come 156 = .ok (.aload_n 0, 1) := by decide +kernel
theorem dX9_come_157 : decode cX9_come 157 = .ok (.getfield 38, 3) := by decide +kernel
theorem dX9_come_160 : decode cX9_come 160 = .ok (.iload_n 1, 1) := by decide +kernel
theorem dX9_come_161 : decode cX9_come 161 = .ok (.iaload, 1) := by decide +kernel
theorem dX9_come_162 : decode cX9_come 162 = .ok (.iconst 1, 1) := by decide +kernel
theorem dX9_come_163 : decode cX9_come 163 = .ok (.isub, 1) := by decide +kernel
theorem dX9_come_164 : decode cX9_come 164 = .ok (.bipush 8, 2) := by decide +kernel
theorem dX9_come_166 : decode cX9_come 166 = .ok (.irem, 1) := by decide +kernel
theorem dX9_come_167 : decode cX9_come 167 = .ok (.iload 4, 2) := by decide +kernel
theorem dX9_come_169 : decode cX9_come 169 = .ok (.if_icmp .ne 28, 3) := by decide +kernel
theorem dX9_come_172 : decode cX9_come 172 = .ok (.aload_n 0, 1) := by decide +kernel
theorem dX9_come_173 : decode cX9_come 173 = .ok (.iload_n 1, 1) := by decide +kernel
theorem dX9_come_174 : decode cX9_come 174 = .ok (.iconst 2, 1) := by decide +kernel
theorem dX9_come_175 : decode cX9_come 175 = .ok (.invokevirtual 176, 3) := by decide +kernel
theorem dX9_come_178 : decode cX9_come 178 = .ok (.aload_n 0, 1) := by decide +kernel
theorem dX9_come_179 : decode cX9_come 179 = .ok (.getfield 59, 3) := by decide +kernel
theorem dX9_come_182 : decode cX9_come 182 = .ok (.iload_n 1, 1) := by decide +kernel
theorem dX9_come_183 : decode cX9_come 183 = .ok (.iconst 1, 1) := by decide +kernel
theorem dX9_come_184 : decode cX9_come 184 = .ok (.bastore, 1) := by decide +kernel
theorem dX9_come_185 : decode cX9_come 185 = .ok (.aload_n 0, 1) := by decide +kernel
theorem dX9_come_186 : decode cX9_come 186 = .ok (.getfield 63, 3) := by decide +kernel
theorem dX9_come_189 : decode cX9_come 189 = .ok (.iload_n 1, 1) := by decide +kernel
theorem dX9_come_190 : decode cX9_come 190 = .ok (.iconst (-1), 1) := by decide +kernel
theorem dX9_come_191 : decode cX9_come 191 = .ok (.iastore, 1) := by decide +kernel
theorem dX9_come_192 : decode cX9_come 192 = .ok (.aload_n 0, 1) := by decide +kernel
theorem dX9_come_193 : decode cX9_come 193 = .ok (.iload_n 1, 1) := by decide +kernel
theorem dX9_come_194 : decode cX9_come 194 = .ok (.invokevirtual 166, 3) := by decide +kernel
theorem dX9_come_197 : decode cX9_come 197 = .ok (.return_, 1) := by decide +kernel
theorem dX9_come_198 : decode cX9_come 198 = .ok (.aload_n 0, 1) := by decide +kernel
theorem dX9_come_199 : decode cX9_come 199 = .ok (.getfield 56, 3) := by decide +kernel
theorem dX9_come_202 : decode cX9_come 202 = .ok (.iload_n 1, 1) := by decide +kernel
theorem dX9_come_203 : decode cX9_come 203 = .ok (.iaload, 1) := by decide +kernel
theorem dX9_come_204 : decode cX9_come 204 = .ok (.iconst 2, 1) := by decide +kernel
theorem dX9_come_205 : decode cX9_come 205 = .ok (.if_icmp .eq 4, 3) := by decide +kernel
theorem dX9_come_208 : decode cX9_come 208 = .ok (.return_, 1) := by decide +kernel
theorem dX9_come_209 : decode cX9_come 209 = .ok (.iload 5, 2) := by decide +kernel
theorem dX9_come_211 : decode cX9_come 211 = .ok (.ifCond .ne 15, 3) := by decide +kernel
theorem dX9_come_214 : decode cX9_come 214 = .ok (.iload_n 3, 1) := by decide +kernel
theorem dX9_come_215 : decode cX9_come 215 = .ok (.iconst 1, 1) := by decide +kernel
theorem dX9_come_216 : decode cX9_come 216 = .ok (.if_icmp .ne 10, 3) := by decide +kernel
theorem dX9_come_219 : decode cX9_come 219 = .ok (.aload_n 0, 1) := by decide +kernel
theorem dX9_come_220 : decode cX9_come 220 = .ok (.iload_n 1, 1) := by decide +kernel
theorem dX9_come_221 : decode cX9_come 221 = .ok (.iconst 0, 1) := by decide +kernel
theorem dX9_come_222 : decode cX9_come 222 = .ok (.invokevirtual 176, 3) := by decide +kernel
theorem dX9_come_225 : decode cX9_come 225 = .ok (.return_, 1) := by decide +kernel
theorem dX9_come_226 : decode cX9_come 226 = .ok (.iconst 0, 1) := by decide +kernel
theorem dX9_come_227 : decode cX9_come 227 = .ok (.istore 6, 2) := by decide +kernel
theorem dX9_come_229 : decode cX9_come 229 = .ok (.iload 6, 2) := by decide +kernel
theorem dX9_come_231 : decode cX9_come 231 = .ok (.bipush 32, 2) := by decide +kernel
theorem dX9_come_233 : decode cX9_come 233 = .ok (.if_icmp .ge 31, 3) := by decide +kernel
theorem dX9_come_236 : decode cX9_come 236 = .ok (.iload 5, 2) := by decide +kernel
theorem dX9_come_238 : decode cX9_come 238 = .ok (.ifCond .eq 26, 3) := by decide +kernel
theorem dX9_come_241 : decode cX9_come 241 = .ok (.aload_n 0, 1) := by decide +kernel
theorem dX9_come_242 : decode cX9_come 242 = .ok (.getfield 111, 3) := by decide +kernel
theorem dX9_come_245 : decode cX9_come 245 = .ok (.iload 6, 2) := by decide +kernel
theorem dX9_come_247 : decode cX9_come 247 = .ok (.aload_n 0, 1) := by decide +kernel
theorem dX9_come_248 : decode cX9_come 248 = .ok (.getfield 53, 3) := by decide +kernel
theorem dX9_come_251 : decode cX9_come 251 = .ok (.bipush 6, 2) := by decide +kernel
theorem dX9_come_253 : decode cX9_come 253 = .ok (.iload 6, 2) := by decide +kernel
theorem dX9_come_255 : decode cX9_come 255 = .ok (.iadd, 1) := by decide +kernel
theorem dX9_come_256 : decode cX9_come 256 = .ok (.iaload, 1) := by decide +kernel
theorem dX9_come_257 : decode cX9_come 257 = .ok (.iastore, 1) := by decide +kernel
theorem dX9_come_258 : decode cX9_come 258 = .ok (.iinc 6 1, 3) := by decide +kernel
theorem dX9_come_261 : decode cX9_come 261 = .ok (.goto (-32), 3) := by decide +kernel
theorem dX9_come_264 : decode cX9_come 264 = .ok (.aload_n 0, 1) := by decide +kernel
theorem dX9_come_265 : decode cX9_come 265 = .ok (.iload_n 1, 1) := by decide +kernel
theorem dX9_come_266 : decode cX9_come 266 = .ok (.iload 4, 2) := by decide +kernel
theorem dX9_come_268 : decode cX9_come 268 = .ok (.invokevirtual 189, 3) := by decide +kernel
theorem dX9_come_271 : decode cX9_come 271 = .ok (.iload 5, 2) := by decide +kernel
theorem dX9_come_273 : decode cX9_come 273 = .ok (.ifCond .ne 13, 3) := by decide +kernel
theorem dX9_come_276 : decode cX9_come 276 = .ok (.iload_n 3, 1) := by decide +kernel
theorem dX9_come_277 : decode cX9_come 277 = .ok (.iconst 2, 1) := by decide +kernel
theorem dX9_come_278 : decode cX9_come 278 = .ok (.if_icmp .ne 8, 3) := by decide +kernel
theorem dX9_come_281 : decode cX9_come 281 = .ok (.aload_n 0, 1) := by decide +kernel
theorem dX9_come_282 : decode cX9_come 282 = .ok (.iload_n 1, 1) := by decide +kernel
theorem dX9_come_283 : decode cX9_come 283 = .ok (.invokevirtual 192, 3) := by decide +kernel
theorem dX9_come_286 : decode cX9_come 286 = .ok (.iload 5, 2) := by decide +kernel
theorem dX9_come_288 : decode cX9_come 288 = .ok (.ifCond .ne 9, 3) := by decide +kernel
theorem dX9_come_291 : decode cX9_come 291 = .ok (.aload_n 0, 1) := by decide +kernel
theorem dX9_come_292 : decode cX9_come 292 = .ok (.iload_n 1, 1) := by decide +kernel
theorem dX9_come_293 : decode cX9_come 293 = .ok (.invokevirtual 148, 3) := by decide +kernel
theorem dX9_come_296 : decode cX9_come 296 = .ok (.return_, 1) := by decide +kernel
theorem dX9_come_297 : decode cX9_come 297 = .ok (.iconst 0, 1) := by decide +kernel
theorem dX9_come_298 : decode cX9_come 298 = .ok (.istore 6, 2) := by decide +kernel
theorem dX9_come_300 : decode cX9_come 300 = .ok (.iload 6, 2) := by decide +kernel
theorem dX9_come_302 : decode cX9_come 302 = .ok (.bipush 32, 2) := by decide +kernel
theorem dX9_come_304 : decode cX9_come 304 = .ok (.if_icmp .ge 23, 3) := by decide +kernel
theorem dX9_come_307 : decode cX9_come 307 = .ok (.aload_n 0, 1) := by decide +kernel
theorem dX9_come_308 : decode cX9_come 308 = .ok (.getfield 114, 3) := by decide +kernel
theorem dX9_come_311 : decode cX9_come 311 = .ok (.iload 6, 2) := by decide +kernel
theorem dX9_come_313 : decode cX9_come 313 = .ok (.aload_n 0, 1) := by decide +kernel
theorem dX9_come_314 : decode cX9_come 314 = .ok (.getfield 111, 3) := by decide +kernel
theorem dX9_come_317 : decode cX9_come 317 = .ok (.iload 6, 2) := by decide +kernel
theorem dX9_come_319 : decode cX9_come 319 = .ok (.iaload, 1) := by decide +kernel
theorem dX9_come_320 : decode cX9_come 320 = .ok (.iastore, 1) := by decide +kernel
theorem dX9_come_321 : decode cX9_come 321 = .ok (.iinc 6 1, 3) := by decide +kernel
theorem dX9_come_324 : decode cX9_come 324 = .ok (.goto (-24), 3) := by decide +kernel
theorem dX9_come_327 : decode cX9_come 327 = .ok (.aload_n 0, 1) := by decide +kernel
theorem dX9_come_328 : decode cX9_come 328 = .ok (.iload_n 1, 1) := by decide +kernel
theorem dX9_come_329 : decode cX9_come 329 = .ok (.invokevirtual 148, 3) := by decide +kernel
theorem dX9_come_332 : decode cX9_come 332 = .ok (.iload_n 3, 1) := by decide +kernel
theorem dX9_come_333 : decode cX9_come 333 = .ok (.aload_n 0, 1) := by decide +kernel
theorem dX9_come_334 : decode cX9_come 334 = .ok (.getfield 69, 3) := by decide +kernel
theorem dX9_come_337 : decode cX9_come 337 = .ok (.iload_n 1, 1) := by decide +kernel
theorem dX9_come_338 : decode cX9_come 338 = .ok (.iaload, 1) := by decide +kernel
theorem dX9_come_339 : decode cX9_come 339 = .ok (.iconst 1, 1) := by decide +kernel
theorem dX9_come_340 : decode cX9_come 340 = .ok (.iadd, 1) := by decide +kernel
theorem dX9_come_341 : decode cX9_come 341 = .ok (.bipush 8, 2) := by decide +kernel
theorem dX9_come_343 : decode cX9_come 343 = .ok (.irem, 1) := by decide +kernel
theorem dX9_come_344 : decode cX9_come 344 = .ok (.if_icmp .ne 62, 3) := by decide +kernel
theorem dX9_come_347 : decode cX9_come 347 = .ok (.aload_n 0, 1) := by decide +kernel
theorem dX9_come_348 : decode cX9_come 348 = .ok (.getfield 69, 3) := by decide +kernel
theorem dX9_come_351 : decode cX9_come 351 = .ok (.iload_n 1, 1) := by decide +kernel
theorem dX9_come_352 : decode cX9_come 352 = .ok (.iload_n 3, 1) := by decide +kernel
theorem dX9_come_353 : decode cX9_come 353 = .ok (.iastore, 1) := by decide +kernel
theorem dX9_come_354 : decode cX9_come 354 = .ok (.aload_n 0, 1) := by decide +kernel
theorem dX9_come_355 : decode cX9_come 355 = .ok (.getfield 66, 3) := by decide +kernel
theorem dX9_come_358 : decode cX9_come 358 = .ok (.iload_n 1, 1) := by decide +kernel
theorem dX9_come_359 : decode cX9_come 359 = .ok (.iconst 1, 1) := by decide +kernel
theorem dX9_come_360 : decode cX9_come 360 = .ok (.bastore, 1) := by decide +kernel
theorem dX9_come_361 : decode cX9_come 361 = .ok (.aload_n 0, 1) := by decide +kernel
theorem dX9_come_362 : decode cX9_come 362 = .ok (.iload_n 1, 1) := by decide +kernel
theorem dX9_come_363 : decode cX9_come 363 = .ok (.iconst 4, 1) := by decide +kernel
theorem dX9_come_364 : decode cX9_come 364 = .ok (.iload_n 3, 1) := by decide +kernel
theorem dX9_come_365 : decode cX9_come 365 = .ok (.invokevirtual 172, 3) := by decide +kernel
theorem dX9_come_368 : decode cX9_come 368 = .ok (.iconst 0, 1) := by decide +kernel
theorem dX9_come_369 : decode cX9_come 369 = .ok (.istore 6, 2) := by decide +kernel
theorem dX9_come_371 : decode cX9_come 371 = .ok (.iload 6, 2) := by decide +kernel
theorem dX9_come_373 : decode cX9_come 373 = .ok (.bipush 32, 2) := by decide +kernel
theorem dX9_come_375 : decode cX9_come 375 = .ok (.if_icmp .ge 23, 3) := by decide +kernel
theorem dX9_come_378 : decode cX9_come 378 = .ok (.aload_n 0, 1) := by decide +kernel
theorem dX9_come_379 : decode cX9_come 379 = .ok (.getfield 111, 3) := by decide +kernel
theorem dX9_come_382 : decode cX9_come 382 = .ok (.iload 6, 2) := by decide +kernel
theorem dX9_come_384 : decode cX9_come 384 = .ok (.aload_n 0, 1) := by decide +kernel
theorem dX9_come_385 : decode cX9_come 385 = .ok (.getfield 114, 3) := by decide +kernel
theorem dX9_come_388 : decode cX9_come 388 = .ok (.iload 6, 2) := by decide +kernel
theorem dX9_come_390 : decode cX9_come 390 = .ok (.iaload, 1) := by decide +kernel
theorem dX9_come_391 : decode cX9_come 391 = .ok (.iastore, 1) := by decide +kernel
theorem dX9_come_392 : decode cX9_come 392 = .ok (.iinc 6 1, 3) := by decide +kernel
theorem dX9_come_395 : decode cX9_come 395 = .ok (.goto (-24), 3) := by decide +kernel
theorem dX9_come_398 : decode cX9_come 398 = .ok (.aload_n 0, 1) := by decide +kernel
theorem dX9_come_399 : decode cX9_come 399 = .ok (.iload_n 1, 1) := by decide +kernel
theorem dX9_come_400 : decode cX9_come 400 = .ok (.invokevirtual 195, 3) := by decide +kernel
theorem dX9_come_403 : decode cX9_come 403 = .ok (.goto 15, 3) := by decide +kernel
theorem dX9_come_406 : decode cX9_come 406 = .ok (.aload_n 0, 1) := by decide +kernel
theorem dX9_come_407 : decode cX9_come 407 = .ok (.iload_n 1, 1) := by decide +kernel
theorem dX9_come_408 : decode cX9_come 408 = .ok (.iconst 4, 1) := by decide +kernel
theorem dX9_come_409 : decode cX9_come 409 = .ok (.aload_n 0, 1) := by decide +kernel
theorem dX9_come_410 : decode cX9_come 410 = .ok (.getfield 69, 3) := by decide +kernel
theorem dX9_come_413 : decode cX9_come 413 = .ok (.iload_n 1, 1) := by decide +kernel
theorem dX9_come_414 : decode cX9_come 414 = .ok (.iaload, 1) := by decide +kernel
theorem dX9_come_415 : decode cX9_come 415 = .ok (.invokevirtual 172, 3) := by decide +kernel
theorem dX9_come_418 : decode cX9_come 418 = .ok (.return_, 1) := by decide +kernel
theorem dX9_takeFirst_0 : decode cX9_takeFirst 0 = .ok (.aload_n 0, 1) := by decide +kernel
theorem dX9_takeFirst_1 : decode cX9_takeFirst 1 = .ok (.aload_n 0, 1) := by decide +kernel
theorem dX9_takeFirst_2 : decode cX9_takeFirst 2 = .ok (.getfield 50, 3) := by decide +kernel
theorem dX9_takeFirst_5 : decode cX9_takeFirst 5 = .ok (.bipush 12, 2) := by decide +kernel
theorem dX9_takeFirst_7 : decode cX9_takeFirst 7 = .ok (.iload_n 1, 1) := by decide +kernel
theorem dX9_takeFirst_8 : decode cX9_takeFirst 8 = .ok (.imul, 1) := by decide +kernel
theorem dX9_takeFirst_9 : decode cX9_takeFirst 9 = .ok (.iaload, 1) := by decide +kernel
theorem dX9_takeFirst_10 : decode cX9_takeFirst 10 = .ok (.putfield 134, 3) := by decide +kernel
theorem dX9_takeFirst_13 : decode cX9_takeFirst 13 = .ok (.iconst 0, 1) := by decide +kernel
theorem dX9_takeFirst_14 : decode cX9_takeFirst 14 = .ok (.istore_n 2, 1) := by decide +kernel
theorem dX9_takeFirst_15 : decode cX9_takeFirst 15 = .ok (.iload_n 2, 1) := by decide +kernel
theorem dX9_takeFirst_16 : decode cX9_takeFirst 16 = .ok (.bipush 38, 2) := by decide +kernel
theorem dX9_takeFirst_18 : decode cX9_takeFirst 18 = .ok (.if_icmp .ge 27, 3) := by decide +kernel
theorem dX9_takeFirst_21 : decode cX9_takeFirst 21 = .ok (.aload_n 0, 1) := by decide +kernel
theorem dX9_takeFirst_22 : decode cX9_takeFirst 22 = .ok (.getfield 53, 3) := by decide +kernel
theorem dX9_takeFirst_25 : decode cX9_takeFirst 25 = .ok (.iload_n 2, 1) := by decide +kernel
theorem dX9_takeFirst_26 : decode cX9_takeFirst 26 = .ok (.aload_n 0, 1) := by decide +kernel
theorem dX9_takeFirst_27 : decode cX9_takeFirst 27 = .ok (.getfield 47, 3) := by decide +kernel
theorem dX9_takeFirst_30 : decode cX9_takeFirst 30 = .ok (.sipush 456, 3) := by decide +kernel
theorem dX9_takeFirst_33 : decode cX9_takeFirst 33 = .ok (.iload_n 1, 1) := by decide +kernel
theorem dX9_takeFirst_34 : decode cX9_takeFirst 34 = .ok (.imul, 1) := by decide +kernel
theorem dX9_takeFirst_35 : decode cX9_takeFirst 35 = .ok (.iload_n 2, 1) := by decide +kernel
theorem dX9_takeFirst_36 : decode cX9_takeFirst 36 = .ok (.iadd, 1) := by decide +kernel
theorem dX9_takeFirst_37 : decode cX9_takeFirst 37 = .ok (.iaload, 1) := by decide +kernel
theorem dX9_takeFirst_38 : decode cX9_takeFirst 38 = .ok (.iastore, 1) := by decide +kernel
theorem dX9_takeFirst_39 : decode cX9_takeFirst 39 = .ok (.iinc 2 1, 3) := by decide +kernel
theorem dX9_takeFirst_42 : decode cX9_takeFirst 42 = .ok (.goto (-27), 3) := by decide +kernel
theorem dX9_takeFirst_45 : decode cX9_takeFirst 45 = .ok (.aload_n 0, 1) := by decide +kernel
theorem dX9_takeFirst_46 : decode cX9_takeFirst 46 = .ok (.getfield 44, 3) := by decide +kernel
theorem dX9_takeFirst_49 : decode cX9_takeFirst 49 = .ok (.iload_n 1, 1) := by decide +kernel
theorem dX9_takeFirst_50 : decode cX9_takeFirst 50 = .ok (.dup2, 1) := by decide +kernel
theorem dX9_takeFirst_51 : decode cX9_takeFirst 51 = .ok (.iaload, 1) := by decide +kernel
theorem dX9_takeFirst_52 : decode cX9_takeFirst 52 = .ok (.iconst 1, 1) := by decide +kernel
theorem dX9_takeFirst_53 : decode cX9_takeFirst 53 = .ok (.isub, 1) := by decide +kernel
theorem dX9_takeFirst_54 : decode cX9_takeFirst 54 = .ok (.iastore, 1) := by decide +kernel
theorem dX9_takeFirst_55 : decode cX9_takeFirst 55 = .ok (.iconst 0, 1) := by decide +kernel
theorem dX9_takeFirst_56 : decode cX9_takeFirst 56 = .ok (.istore_n 2, 1) := by decide +kernel
theorem dX9_takeFirst_57 : decode cX9_takeFirst 57 = .ok (.iload_n 2, 1) := by decide +kernel
theorem dX9_takeFirst_58 : decode cX9_takeFirst 58 = .ok (.aload_n 0, 1) := by decide +kernel
theorem dX9_takeFirst_59 : decode cX9_takeFirst 59 = .ok (.getfield 44, 3) := by decide +kernel
theorem dX9_takeFirst_62 : decode cX9_takeFirst 62 = .ok (.iload_n 1, 1) := by decide +kernel
theorem dX9_takeFirst_63 : decode cX9_takeFirst 63 = .ok (.iaload, 1) := by decide +kernel
theorem dX9_takeFirst_64 : decode cX9_takeFirst 64 = .ok (.if_icmp .ge 83, 3) := by decide +kernel
theorem dX9_takeFirst_67 : decode cX9_takeFirst 67 = .ok (.aload_n 0, 1) := by decide +kernel
theorem dX9_takeFirst_68 : decode cX9_takeFirst 68 = .ok (.getfield 50, 3) := by decide +kernel
theorem dX9_takeFirst_71 : decode cX9_takeFirst 71 = .ok (.bipush 12, 2) := by decide +kernel
theorem dX9_takeFirst_73 : decode cX9_takeFirst 73 = .ok (.iload_n 1, 1) := by decide +kernel
theorem dX9_takeFirst_74 : decode cX9_takeFirst 74 = .ok (.imul, 1) := by decide +kernel
theorem dX9_takeFirst_75 : decode cX9_takeFirst 75 = .ok (.iload_n 2, 1) := by decide +kernel
theorem dX9_takeFirst_76 : decode cX9_takeFirst 76 = .ok (.iadd, 1) := by decide +kernel
theorem dX9_takeFirst_77 : decode cX9_takeFirst 77 = .ok (.aload_n 0, 1) := by decide +kernel
theorem dX9_takeFirst_78 : decode cX9_takeFirst 78 = .ok (.getfield 50, 3) := by decide +kernel
theorem dX9_takeFirst_81 : decode cX9_takeFirst 81 = .ok (.bipush 12, 2) := by decide +kernel
theorem dX9_takeFirst_83 : decode cX9_takeFirst 83 = .ok (.iload_n 1, 1) := by decide +kernel
theorem dX9_takeFirst_84 : decode cX9_takeFirst 84 = .ok (.imul, 1) := by decide +kernel
theorem dX9_takeFirst_85 : decode cX9_takeFirst 85 = .ok (.iload_n 2, 1) := by decide +kernel
theorem dX9_takeFirst_86 : decode cX9_takeFirst 86 = .ok (.iadd, 1) := by decide +kernel
theorem dX9_takeFirst_87 : decode cX9_takeFirst 87 = .ok (.iconst 1, 1) := by decide +kernel
theorem dX9_takeFirst_88 : decode cX9_takeFirst 88 = .ok (.iadd, 1) := by decide +kernel
theorem dX9_takeFirst_89 : decode cX9_takeFirst 89 = .ok (.iaload, 1) := by decide +kernel
theorem dX9_takeFirst_90 : decode cX9_takeFirst 90 = .ok (.iastore, 1) := by decide +kernel
theorem dX9_takeFirst_91 : decode cX9_takeFirst 91 = .ok (.iconst 0, 1) := by decide +kernel
theorem dX9_takeFirst_92 : decode cX9_takeFirst 92 = .ok (.istore_n 3, 1) := by decide +kernel
theorem dX9_takeFirst_93 : decode cX9_takeFirst 93 = .ok (.iload_n 3, 1) := by decide +kernel
theorem dX9_takeFirst_94 : decode cX9_takeFirst 94 = .ok (.bipush 38, 2) := by decide +kernel
theorem dX9_takeFirst_96 : decode cX9_takeFirst 96 = .ok (.if_icmp .ge 45, 3) := by decide +kernel
theorem dX9_takeFirst_99 : decode cX9_takeFirst 99 = .ok (.aload_n 0, 1) := by decide +kernel
theorem dX9_takeFirst_100 : decode cX9_takeFirst 100 = .ok (.getfield 47, 3) := by decide +kernel
theorem dX9_takeFirst_103 : decode cX9_takeFirst 103 = .ok (.sipush 456, 3) := by decide +kernel
theorem dX9_takeFirst_106 : decode cX9_takeFirst 106 = .ok (.iload_n 1, 1) := by decide +kernel
theorem dX9_takeFirst_107 : decode cX9_takeFirst 107 = .ok (.imul, 1) := by decide +kernel
theorem dX9_takeFirst_108 : decode cX9_takeFirst 108 = .ok (.bipush 38, 2) := by decide +kernel
theorem dX9_takeFirst_110 : decode cX9_takeFirst 110 = .ok (.iload_n 2, 1) := by decide +kernel
theorem dX9_takeFirst_111 : decode cX9_takeFirst 111 = .ok (.imul, 1) := by decide +kernel
theorem dX9_takeFirst_112 : decode cX9_takeFirst 112 = .ok (.iadd, 1) := by decide +kernel
theorem dX9_takeFirst_113 : decode cX9_takeFirst 113 = .ok (.iload_n 3, 1) := by decide +kernel
theorem dX9_takeFirst_114 : decode cX9_takeFirst 114 = .ok (.iadd, 1) := by decide +kernel
theorem dX9_takeFirst_115 : decode cX9_takeFirst 115 = .ok (.aload_n 0, 1) := by decide +kernel
theorem dX9_takeFirst_116 : decode cX9_takeFirst 116 = .ok (.getfield 47, 3) := by decide +kernel
theorem dX9_takeFirst_119 : decode cX9_takeFirst 119 = .ok (.sipush 456, 3) := by decide +kernel
theorem dX9_takeFirst_122 : decode cX9_takeFirst 122 = .ok (.iload_n 1, 1) := by decide +kernel
theorem dX9_takeFirst_123 : decode cX9_takeFirst 123 = .ok (.imul, 1) := by decide +kernel
theorem dX9_takeFirst_124 : decode cX9_takeFirst 124 = .ok (.bipush 38, 2) := by decide +kernel
theorem dX9_takeFirst_126 : decode cX9_takeFirst 126 = .ok (.iload_n 2, 1) := by decide +kernel
theorem dX9_takeFirst_127 : decode cX9_takeFirst 127 = .ok (.iconst 1, 1) := by decide +kernel
theorem dX9_takeFirst_128 : decode cX9_takeFirst 128 = .ok (.iadd, 1) := by decide +kernel
theorem dX9_takeFirst_129 : decode cX9_takeFirst 129 = .ok (.imul, 1) := by decide +kernel
theorem dX9_takeFirst_130 : decode cX9_takeFirst 130 = .ok (.iadd, 1) := by decide +kernel
theorem dX9_takeFirst_131 : decode cX9_takeFirst 131 = .ok (.iload_n 3, 1) := by decide +kernel
theorem dX9_takeFirst_132 : decode cX9_takeFirst 132 = .ok (.iadd, 1) := by decide +kernel
theorem dX9_takeFirst_133 : decode cX9_takeFirst 133 = .ok (.iaload, 1) := by decide +kernel
theorem dX9_takeFirst_134 : decode cX9_takeFirst 134 = .ok (.iastore, 1) := by decide +kernel
theorem dX9_takeFirst_135 : decode cX9_takeFirst 135 = .ok (.iinc 3 1, 3) := by decide +kernel
theorem dX9_takeFirst_138 : decode cX9_takeFirst 138 = .ok (.goto (-45), 3) := by decide +kernel
theorem dX9_takeFirst_141 : decode cX9_takeFirst 141 = .ok (.iinc 2 1, 3) := by decide +kernel
theorem dX9_takeFirst_144 : decode cX9_takeFirst 144 = .ok (.goto (-87), 3) := by decide +kernel
theorem dX9_takeFirst_147 : decode cX9_takeFirst 147 = .ok (.return_, 1) := by decide +kernel
theorem dX9_call_0 : decode cX9_call 0 = .ok (.iload_n 1, 1) := by decide +kernel
theorem dX9_call_1 : decode cX9_call 1 = .ok (.invokestatic 121, 3) := by decide +kernel
theorem dX9_call_4 : decode cX9_call 4 = .ok (.ifCond .eq 12, 3) := by decide +kernel
theorem dX9_call_7 : decode cX9_call 7 = .ok (.aload_n 0, 1) := by decide +kernel
theorem dX9_call_8 : decode cX9_call 8 = .ok (.getfield 56, 3) := by decide +kernel
theorem dX9_call_11 : decode cX9_call 11 = .ok (.iload_n 1, 1) := by decide +kernel
theorem dX9_call_12 : decode cX9_call 12 = .ok (.iaload, 1) := by decide +kernel
theorem dX9_call_13 : decode cX9_call 13 = .ok (.ifCond .eq 5, 3) := by decide +kernel
theorem dX9_call_16 : decode cX9_call 16 = .ok (.iconst 0, 1) := by decide +kernel
theorem dX9_call_17 : decode cX9_call 17 = .ok (.ireturn, 1) := by decide +kernel
theorem dX9_call_18 : decode cX9_call 18 = .ok (.aload_n 0, 1) := by decide +kernel
theorem dX9_call_19 : decode cX9_call 19 = .ok (.getfield 44, 3) := by decide +kernel
theorem dX9_call_22 : decode cX9_call 22 = .ok (.iconst 0, 1) := by decide +kernel
theorem dX9_call_23 : decode cX9_call 23 = .ok (.iconst 0, 1) := by decide +kernel
theorem dX9_call_24 : decode cX9_call 24 = .ok (.iastore, 1) := by decide +kernel
theorem dX9_call_25 : decode cX9_call 25 = .ok (.aload_n 0, 1) := by decide +kernel
theorem dX9_call_26 : decode cX9_call 26 = .ok (.getfield 44, 3) := by decide +kernel
theorem dX9_call_29 : decode cX9_call 29 = .ok (.iconst 1, 1) := by decide +kernel
theorem dX9_call_30 : decode cX9_call 30 = .ok (.iconst 0, 1) := by decide +kernel
theorem dX9_call_31 : decode cX9_call 31 = .ok (.iastore, 1) := by decide +kernel
theorem dX9_call_32 : decode cX9_call 32 = .ok (.aload_n 0, 1) := by decide +kernel
theorem dX9_call_33 : decode cX9_call 33 = .ok (.iload_n 1, 1) := by decide +kernel
theorem dX9_call_34 : decode cX9_call 34 = .ok (.iconst 1, 1) := by decide +kernel
theorem dX9_call_35 : decode cX9_call 35 = .ok (.invokevirtual 176, 3) := by decide +kernel
theorem dX9_call_38 : decode cX9_call 38 = .ok (.aload_n 0, 1) := by decide +kernel
theorem dX9_call_39 : decode cX9_call 39 = .ok (.iload_n 1, 1) := by decide +kernel
theorem dX9_call_40 : decode cX9_call 40 = .ok (.bipush 7, 2) := by decide +kernel
theorem dX9_call_42 : decode cX9_call 42 = .ok (.aload_n 0, 1) := by decide +kernel
theorem dX9_call_43 : decode cX9_call 43 = .ok (.getfield 38, 3) := by decide +kernel
theorem dX9_call_46 : decode cX9_call 46 = .ok (.iload_n 1, 1) := by decide +kernel
theorem dX9_call_47 : decode cX9_call 47 = .ok (.iaload, 1) := by decide +kernel
theorem dX9_call_48 : decode cX9_call 48 = .ok (.bipush 8, 2) := by decide +kernel
theorem dX9_call_50 : decode cX9_call 50 = .ok (.irem, 1) := by decide +kernel
theorem dX9_call_51 : decode cX9_call 51 = .ok (.invokevirtual 172, 3) := by decide +kernel
theorem dX9_call_54 : decode cX9_call 54 = .ok (.aload_n 0, 1) := by decide +kernel
theorem dX9_call_55 : decode cX9_call 55 = .ok (.getfield 38, 3) := by decide +kernel
theorem dX9_call_58 : decode cX9_call 58 = .ok (.iload_n 1, 1) := by decide +kernel
theorem dX9_call_59 : decode cX9_call 59 = .ok (.dup2, 1) := by decide +kernel
theorem dX9_call_60 : decode cX9_call 60 = .ok (.iaload, 1) := by decide +kernel
theorem dX9_call_61 : decode cX9_call 61 = .ok (.iconst 1, 1) := by decide +kernel
theorem dX9_call_62 : decode cX9_call 62 = .ok (.iadd, 1) := by decide +kernel
theorem dX9_call_63 : decode cX9_call 63 = .ok (.iastore, 1) := by decide +kernel
theorem dX9_call_64 : decode cX9_call 64 = .ok (.iconst 1, 1) := by decide +kernel
theorem dX9_call_65 : decode cX9_call 65 = .ok (.ireturn, 1) := by decide +kernel
theorem dX9_deliver_0 : decode cX9_deliver 0 = .ok (.iload_n 1, 1) := by decide +kernel
theorem dX9_deliver_1 : decode cX9_deliver 1 = .ok (.invokestatic 121, 3) := by decide +kernel
theorem dX9_deliver_4 : decode cX9_deliver 4 = .ok (.ifCond .eq 12, 3) := by decide +kernel
theorem dX9_deliver_7 : decode cX9_deliver 7 = .ok (.aload_n 0, 1) := by decide +kernel
theorem dX9_deliver_8 : decode cX9_deliver 8 = .ok (.getfield 44, 3) := by decide +kernel
theorem dX9_deliver_11 : decode cX9_deliver 11 = .ok (.iload_n 1, 1) := by decide +kernel
theorem dX9_deliver_12 : decode cX9_deliver 12 = .ok (.iaload, 1) := by decide +kernel
theorem dX9_deliver_13 : decode cX9_deliver 13 = .ok (.ifCond .ne 5, 3) := by decide +kernel
theorem dX9_deliver_16 : decode cX9_deliver 16 = .ok (.iconst (-1), 1) := by decide +kernel
theorem dX9_deliver_17 : decode cX9_deliver 17 = .ok (.ireturn, 1) := by decide +kernel
theorem dX9_deliver_18 : decode cX9_deliver 18 = .ok (.iconst 1, 1) := by decide +kernel
theorem dX9_deliver_19 : decode cX9_deliver 19 = .ok (.iload_n 1, 1) := by decide +kernel
theorem dX9_deliver_20 : decode cX9_deliver 20 = .ok (.isub, 1) := by decide +kernel
theorem dX9_deliver_21 : decode cX9_deliver 21 = .ok (.istore_n 2, 1) := by decide +kernel
theorem dX9_deliver_22 : decode cX9_deliver 22 = .ok (.aload_n 0, 1) := by decide +kernel
theorem dX9_deliver_23 : decode cX9_deliver 23 = .ok (.iload_n 1, 1) := by decide +kernel
theorem dX9_deliver_24 : decode cX9_deliver 24 = .ok (.invokevirtual 198, 3) := by decide +kernel
theorem dX9_deliver_27 : decode cX9_deliver 27 = .ok (.aload_n 0, 1) := by decide +kernel
theorem dX9_deliver_28 : decode cX9_deliver 28 = .ok (.invokevirtual 201, 3) := by decide +kernel
theorem dX9_deliver_31 : decode cX9_deliver 31 = .ok (.ifCond .ne 27, 3) := by decide +kernel
theorem dX9_deliver_34 : decode cX9_deliver 34 = .ok (.aload_n 0, 1) := by decide +kernel
theorem dX9_deliver_35 : decode cX9_deliver 35 = .ok (.getfield 56, 3) := by decide +kernel
theorem dX9_deliver_38 : decode cX9_deliver 38 = .ok (.iload_n 2, 1) := by decide +kernel
theorem dX9_deliver_39 : decode cX9_deliver 39 = .ok (.iaload, 1) := by decide +kernel
theorem dX9_deliver_40 : decode cX9_deliver 40 = .ok (.iconst 2, 1) := by decide +kernel
theorem dX9_deliver_41 : decode cX9_deliver 41 = .ok (.if_icmp .ne 15, 3) := by decide +kernel
theorem dX9_deliver_44 : decode cX9_deliver 44 = .ok (.aload_n 0, 1) := by decide +kernel
theorem dX9_deliver_45 : decode cX9_deliver 45 = .ok (.iload_n 2, 1) := by decide +kernel
theorem dX9_deliver_46 : decode cX9_deliver 46 = .ok (.iconst 2, 1) := by decide +kernel
theorem dX9_deliver_47 : decode cX9_deliver 47 = .ok (.aload_n 0, 1) := by decide +kernel
theorem dX9_deliver_48 : decode cX9_deliver 48 = .ok (.getfield 69, 3) := by decide +kernel
theorem dX9_deliver_51 : decode cX9_deliver 51 = .ok (.iload_n 2, 1) := by decide +kernel
theorem dX9_deliver_52 : decode cX9_deliver 52 = .ok (.iaload, 1) := by decide +kernel
theorem dX9_deliver_53 : decode cX9_deliver 53 = .ok (.invokevirtual 172, 3) := by decide +kernel
theorem dX9_deliver_56 : decode cX9_deliver 56 = .ok (.iconst 0, 1) := by decide +kernel
theorem dX9_deliver_57 : decode cX9_deliver 57 = .ok (.ireturn, 1) := by decide +kernel
theorem dX9_deliver_58 : decode cX9_deliver 58 = .ok (.aload_n 0, 1) := by decide +kernel
theorem dX9_deliver_59 : decode cX9_deliver 59 = .ok (.getfield 105, 3) := by decide +kernel
theorem dX9_deliver_62 : decode cX9_deliver 62 = .ok (.iload_n 2, 1) := by decide +kernel
theorem dX9_deliver_63 : decode cX9_deliver 63 = .ok (.aload_n 0, 1) := by decide +kernel
theorem dX9_deliver_64 : decode cX9_deliver 64 = .ok (.getfield 56, 3) := by decide +kernel
theorem dX9_deliver_67 : decode cX9_deliver 67 = .ok (.iload_n 2, 1) := by decide +kernel
theorem dX9_deliver_68 : decode cX9_deliver 68 = .ok (.iaload, 1) := by decide +kernel
theorem dX9_deliver_69 : decode cX9_deliver 69 = .ok (.iconst 2, 1) := by decide +kernel
theorem dX9_deliver_70 : decode cX9_deliver 70 = .ok (.if_icmp .ne 16, 3) := by decide +kernel
theorem dX9_deliver_73 : decode cX9_deliver 73 = .ok (.aload_n 0, 1) := by decide +kernel
theorem dX9_deliver_74 : decode cX9_deliver 74 = .ok (.getfield 75, 3) := by decide +kernel
theorem dX9_deliver_77 : decode cX9_deliver 77 = .ok (.iload_n 2, 1) := by decide +kernel
theorem dX9_deliver_78 : decode cX9_deliver 78 = .ok (.iaload, 1) := by decide +kernel
theorem dX9_deliver_79 : decode cX9_deliver 79 = .ok (.ifCond .ne 7, 3) := by decide +kernel
theorem dX9_deliver_82 : decode cX9_deliver 82 = .ok (.iconst 0, 1) := by decide +kernel
theorem dX9_deliver_83 : decode cX9_deliver 83 = .ok (.goto 9, 3) := by decide +kernel
theorem dX9_deliver_86 : decode cX9_deliver 86 = .ok (.aload_n 0, 1) := by decide +kernel
theorem dX9_deliver_87 : decode cX9_deliver 87 = .ok (.getfield 105, 3) := by decide +kernel
theorem dX9_deliver_90 : decode cX9_deliver 90 = .ok (.iload_n 2, 1) := by decide +kernel
theorem dX9_deliver_91 : decode cX9_deliver 91 = .ok (.iaload, 1) := by decide +kernel
theorem dX9_deliver_92 : decode cX9_deliver 92 = .ok (.iastore, 1) := by decide +kernel
theorem dX9_deliver_93 : decode cX9_deliver 93 = .ok (.aload_n 0, 1) := by decide +kernel
theorem dX9_deliver_94 : decode cX9_deliver 94 = .ok (.iload_n 2, 1) := by decide +kernel
theorem dX9_deliver_95 : decode cX9_deliver 95 = .ok (.invokevirtual 205, 3) := by decide +kernel
theorem dX9_deliver_98 : decode cX9_deliver 98 = .ok (.iconst 1, 1) := by decide +kernel
theorem dX9_deliver_99 : decode cX9_deliver 99 = .ok (.ireturn, 1) := by decide +kernel
theorem dX9_lose_0 : decode cX9_lose 0 = .ok (.iload_n 1, 1) := by decide +kernel
theorem dX9_lose_1 : decode cX9_lose 1 = .ok (.invokestatic 121, 3) := by decide +kernel
theorem dX9_lose_4 : decode cX9_lose 4 = .ok (.ifCond .eq 12, 3) := by decide +kernel
theorem dX9_lose_7 : decode cX9_lose 7 = .ok (.aload_n 0, 1) := by decide +kernel
theorem dX9_lose_8 : decode cX9_lose 8 = .ok (.getfield 44, 3) := by decide +kernel
theorem dX9_lose_11 : decode cX9_lose 11 = .ok (.iload_n 1, 1) := by decide +kernel
theorem dX9_lose_12 : decode cX9_lose 12 = .ok (.iaload, 1) := by decide +kernel
theorem dX9_lose_13 : decode cX9_lose 13 = .ok (.ifCond .ne 5, 3) := by decide +kernel
theorem dX9_lose_16 : decode cX9_lose 16 = .ok (.iconst 0, 1) := by decide +kernel
theorem dX9_lose_17 : decode cX9_lose 17 = .ok (.ireturn, 1) := by decide +kernel
theorem dX9_lose_18 : decode cX9_lose 18 = .ok (.aload_n 0, 1) := by decide +kernel
theorem dX9_lose_19 : decode cX9_lose 19 = .ok (.iload_n 1, 1) := by decide +kernel
theorem dX9_lose_20 : decode cX9_lose 20 = .ok (.invokevirtual 198, 3) := by decide +kernel
theorem dX9_lose_23 : decode cX9_lose 23 = .ok (.iconst 1, 1) := by decide +kernel
theorem dX9_lose_24 : decode cX9_lose 24 = .ok (.ireturn, 1) := by decide +kernel
theorem dX9_alter_0 : decode cX9_alter 0 = .ok (.iload_n 1, 1) := by decide +kernel
theorem dX9_alter_1 : decode cX9_alter 1 = .ok (.invokestatic 121, 3) := by decide +kernel
theorem dX9_alter_4 : decode cX9_alter 4 = .ok (.ifCond .eq 41, 3) := by decide +kernel
theorem dX9_alter_7 : decode cX9_alter 7 = .ok (.aload_n 0, 1) := by decide +kernel
theorem dX9_alter_8 : decode cX9_alter 8 = .ok (.getfield 44, 3) := by decide +kernel
theorem dX9_alter_11 : decode cX9_alter 11 = .ok (.iload_n 1, 1) := by decide +kernel
theorem dX9_alter_12 : decode cX9_alter 12 = .ok (.iaload, 1) := by decide +kernel
theorem dX9_alter_13 : decode cX9_alter 13 = .ok (.ifCond .eq 32, 3) := by decide +kernel
theorem dX9_alter_16 : decode cX9_alter 16 = .ok (.iload_n 2, 1) := by decide +kernel
theorem dX9_alter_17 : decode cX9_alter 17 = .ok (.ifCond .lt 28, 3) := by decide +kernel
theorem dX9_alter_20 : decode cX9_alter 20 = .ok (.iload_n 2, 1) := by decide +kernel
theorem dX9_alter_21 : decode cX9_alter 21 = .ok (.aload_n 0, 1) := by decide +kernel
theorem dX9_alter_22 : decode cX9_alter 22 = .ok (.getfield 50, 3) := by decide +kernel
theorem dX9_alter_25 : decode cX9_alter 25 = .ok (.bipush 12, 2) := by decide +kernel
theorem dX9_alter_27 : decode cX9_alter 27 = .ok (.iload_n 1, 1) := by decide +kernel
theorem dX9_alter_28 : decode cX9_alter 28 = .ok (.imul, 1) := by decide +kernel
theorem dX9_alter_29 : decode cX9_alter 29 = .ok (.iaload, 1) := by decide +kernel
theorem dX9_alter_30 : decode cX9_alter 30 = .ok (.if_icmp .ge 15, 3) := by decide +kernel
theorem dX9_alter_33 : decode cX9_alter 33 = .ok (.iload_n 3, 1) := by decide +kernel
theorem dX9_alter_34 : decode cX9_alter 34 = .ok (.iconst 1, 1) := by decide +kernel
theorem dX9_alter_35 : decode cX9_alter 35 = .ok (.if_icmp .lt 10, 3) := by decide +kernel
theorem dX9_alter_38 : decode cX9_alter 38 = .ok (.iload_n 3, 1) := by decide +kernel
theorem dX9_alter_39 : decode cX9_alter 39 = .ok (.sipush 255, 3) := by decide +kernel
theorem dX9_alter_42 : decode cX9_alter 42 = .ok (.if_icmp .le 5, 3) := by decide +kernel
theorem dX9_alter_45 : decode cX9_alter 45 = .ok (.iconst 0, 1) := by decide +kernel
theorem dX9_alter_46 : decode cX9_alter 46 = .ok (.ireturn, 1) := by decide +kernel
theorem dX9_alter_47 : decode cX9_alter 47 = .ok (.aload_n 0, 1) := by decide +kernel
theorem dX9_alter_48 : decode cX9_alter 48 = .ok (.getfield 47, 3) := by decide +kernel
theorem dX9_alter_51 : decode cX9_alter 51 = .ok (.sipush 456, 3) := by decide +kernel
theorem dX9_alter_54 : decode cX9_alter 54 = .ok (.iload_n 1, 1) := by decide +kernel
theorem dX9_alter_55 : decode cX9_alter 55 = .ok (.imul, 1) := by decide +kernel
theorem dX9_alter_56 : decode cX9_alter 56 = .ok (.iload_n 2, 1) := by decide +kernel
theorem dX9_alter_57 : decode cX9_alter 57 = .ok (.iadd, 1) := by decide +kernel
theorem dX9_alter_58 : decode cX9_alter 58 = .ok (.aload_n 0, 1) := by decide +kernel
theorem dX9_alter_59 : decode cX9_alter 59 = .ok (.getfield 47, 3) := by decide +kernel
theorem dX9_alter_62 : decode cX9_alter 62 = .ok (.sipush 456, 3) := by decide +kernel
theorem dX9_alter_65 : decode cX9_alter 65 = .ok (.iload_n 1, 1) := by decide +kernel
theorem dX9_alter_66 : decode cX9_alter 66 = .ok (.imul, 1) := by decide +kernel
theorem dX9_alter_67 : decode cX9_alter 67 = .ok (.iload_n 2, 1) := by decide +kernel
theorem dX9_alter_68 : decode cX9_alter 68 = .ok (.iadd, 1) := by decide +kernel
theorem dX9_alter_69 : decode cX9_alter 69 = .ok (.iaload, 1) := by decide +kernel
theorem dX9_alter_70 : decode cX9_alter 70 = .ok (.iload_n 3, 1) := by decide +kernel
theorem dX9_alter_71 : decode cX9_alter 71 = .ok (.ixor, 1) := by decide +kernel
theorem dX9_alter_72 : decode cX9_alter 72 = .ok (.iastore, 1) := by decide +kernel
theorem dX9_alter_73 : decode cX9_alter 73 = .ok (.iconst 1, 1) := by decide +kernel
theorem dX9_alter_74 : decode cX9_alter 74 = .ok (.ireturn, 1) := by decide +kernel
theorem dX9_tickOf_0 : decode cX9_tickOf 0 = .ok (.aload_n 0, 1) := by decide +kernel
theorem dX9_tickOf_1 : decode cX9_tickOf 1 = .ok (.getfield 56, 3) := by decide +kernel
theorem dX9_tickOf_4 : decode cX9_tickOf 4 = .ok (.iload_n 1, 1) := by decide +kernel
theorem dX9_tickOf_5 : decode cX9_tickOf 5 = .ok (.iaload, 1) := by decide +kernel
theorem dX9_tickOf_6 : decode cX9_tickOf 6 = .ok (.ifCond .ne 5, 3) := by decide +kernel
theorem dX9_tickOf_9 : decode cX9_tickOf 9 = .ok (.iconst 0, 1) := by decide +kernel
theorem dX9_tickOf_10 : decode cX9_tickOf 10 = .ok (.ireturn, 1) := by decide +kernel
theorem dX9_tickOf_11 : decode cX9_tickOf 11 = .ok (.aload_n 0, 1) := by decide +kernel
theorem dX9_tickOf_12 : decode cX9_tickOf 12 = .ok (.getfield 105, 3) := by decide +kernel
theorem dX9_tickOf_15 : decode cX9_tickOf 15 = .ok (.iload_n 1, 1) := by decide +kernel
theorem dX9_tickOf_16 : decode cX9_tickOf 16 = .ok (.dup2, 1) := by decide +kernel
theorem dX9_tickOf_17 : decode cX9_tickOf 17 = .ok (.iaload, 1) := by decide +kernel
theorem dX9_tickOf_18 : decode cX9_tickOf 18 = .ok (.iconst 1, 1) := by decide +kernel
theorem dX9_tickOf_19 : decode cX9_tickOf 19 = .ok (.iadd, 1) := by decide +kernel
theorem dX9_tickOf_20 : decode cX9_tickOf 20 = .ok (.iastore, 1) := by decide +kernel
theorem dX9_tickOf_21 : decode cX9_tickOf 21 = .ok (.aload_n 0, 1) := by decide +kernel
theorem dX9_tickOf_22 : decode cX9_tickOf 22 = .ok (.getfield 56, 3) := by decide +kernel
theorem dX9_tickOf_25 : decode cX9_tickOf 25 = .ok (.iload_n 1, 1) := by decide +kernel
theorem dX9_tickOf_26 : decode cX9_tickOf 26 = .ok (.iaload, 1) := by decide +kernel
theorem dX9_tickOf_27 : decode cX9_tickOf 27 = .ok (.iconst 2, 1) := by decide +kernel
theorem dX9_tickOf_28 : decode cX9_tickOf 28 = .ok (.if_icmp .ne 31, 3) := by decide +kernel
theorem dX9_tickOf_31 : decode cX9_tickOf 31 = .ok (.aload_n 0, 1) := by decide +kernel
theorem dX9_tickOf_32 : decode cX9_tickOf 32 = .ok (.getfield 75, 3) := by decide +kernel
theorem dX9_tickOf_35 : decode cX9_tickOf 35 = .ok (.iload_n 1, 1) := by decide +kernel
theorem dX9_tickOf_36 : decode cX9_tickOf 36 = .ok (.iaload, 1) := by decide +kernel
theorem dX9_tickOf_37 : decode cX9_tickOf 37 = .ok (.ifCond .ne 22, 3) := by decide +kernel
theorem dX9_tickOf_40 : decode cX9_tickOf 40 = .ok (.aload_n 0, 1) := by decide +kernel
theorem dX9_tickOf_41 : decode cX9_tickOf 41 = .ok (.getfield 105, 3) := by decide +kernel
theorem dX9_tickOf_44 : decode cX9_tickOf 44 = .ok (.iload_n 1, 1) := by decide +kernel
theorem dX9_tickOf_45 : decode cX9_tickOf 45 = .ok (.iaload, 1) := by decide +kernel
theorem dX9_tickOf_46 : decode cX9_tickOf 46 = .ok (.bipush 41, 2) := by decide +kernel
theorem dX9_tickOf_48 : decode cX9_tickOf 48 = .ok (.if_icmp .ne 9, 3) := by decide +kernel
theorem dX9_tickOf_51 : decode cX9_tickOf 51 = .ok (.aload_n 0, 1) := by decide +kernel
theorem dX9_tickOf_52 : decode cX9_tickOf 52 = .ok (.iload_n 1, 1) := by decide +kernel
theorem dX9_tickOf_53 : decode cX9_tickOf 53 = .ok (.iconst 0, 1) := by decide +kernel
theorem dX9_tickOf_54 : decode cX9_tickOf 54 = .ok (.invokevirtual 176, 3) := by decide +kernel
theorem dX9_tickOf_57 : decode cX9_tickOf 57 = .ok (.iconst 0, 1) := by decide +kernel
theorem dX9_tickOf_58 : decode cX9_tickOf 58 = .ok (.ireturn, 1) := by decide +kernel
theorem dX9_tickOf_59 : decode cX9_tickOf 59 = .ok (.aload_n 0, 1) := by decide +kernel
theorem dX9_tickOf_60 : decode cX9_tickOf 60 = .ok (.getfield 105, 3) := by decide +kernel
theorem dX9_tickOf_63 : decode cX9_tickOf 63 = .ok (.iload_n 1, 1) := by decide +kernel
theorem dX9_tickOf_64 : decode cX9_tickOf 64 = .ok (.iaload, 1) := by decide +kernel
theorem dX9_tickOf_65 : decode cX9_tickOf 65 = .ok (.iconst 4, 1) := by decide +kernel
theorem dX9_tickOf_66 : decode cX9_tickOf 66 = .ok (.if_icmp .ge 5, 3) := by decide +kernel
theorem dX9_tickOf_69 : decode cX9_tickOf 69 = .ok (.iconst 0, 1) := by decide +kernel
theorem dX9_tickOf_70 : decode cX9_tickOf 70 = .ok (.ireturn, 1) := by decide +kernel
theorem dX9_tickOf_71 : decode cX9_tickOf 71 = .ok (.aload_n 0, 1) := by decide +kernel
theorem dX9_tickOf_72 : decode cX9_tickOf 72 = .ok (.getfield 108, 3) := by decide +kernel
theorem dX9_tickOf_75 : decode cX9_tickOf 75 = .ok (.iload_n 1, 1) := by decide +kernel
theorem dX9_tickOf_76 : decode cX9_tickOf 76 = .ok (.iaload, 1) := by decide +kernel
theorem dX9_tickOf_77 : decode cX9_tickOf 77 = .ok (.iconst 5, 1) := by decide +kernel
theorem dX9_tickOf_78 : decode cX9_tickOf 78 = .ok (.if_icmp .ne 11, 3) := by decide +kernel
theorem dX9_tickOf_81 : decode cX9_tickOf 81 = .ok (.aload_n 0, 1) := by decide +kernel
theorem dX9_tickOf_82 : decode cX9_tickOf 82 = .ok (.iload_n 1, 1) := by decide +kernel
theorem dX9_tickOf_83 : decode cX9_tickOf 83 = .ok (.iconst 0, 1) := by decide +kernel
theorem dX9_tickOf_84 : decode cX9_tickOf 84 = .ok (.invokevirtual 176, 3) := by decide +kernel
theorem dX9_tickOf_87 : decode cX9_tickOf 87 = .ok (.iconst 0, 1) := by decide +kernel
theorem dX9_tickOf_88 : decode cX9_tickOf 88 = .ok (.ireturn, 1) := by decide +kernel
theorem dX9_tickOf_89 : decode cX9_tickOf 89 = .ok (.aload_n 0, 1) := by decide +kernel
theorem dX9_tickOf_90 : decode cX9_tickOf 90 = .ok (.getfield 108, 3) := by decide +kernel
theorem dX9_tickOf_93 : decode cX9_tickOf 93 = .ok (.iload_n 1, 1) := by decide +kernel
theorem dX9_tickOf_94 : decode cX9_tickOf 94 = .ok (.dup2, 1) := by decide +kernel
