theorem dX9_init_0 : decode cX9_init 0 = .ok (.aload_n 0, 1) := by decide +kernel
theorem dX9_init_1 : decode cX9_init 1 = .ok (.invokespecial 1, 3) := by decide +kernel
theorem dX9_init_4 : decode cX9_init 4 = .ok (.aload_n 0, 1) := by decide +kernel
theorem dX9_init_5 : decode cX9_init 5 = .ok (.iconst 2, 1) := by decide +kernel
theorem dX9_init_6 : decode cX9_init 6 = .ok (.newarray .int, 2) := by decide +kernel
theorem dX9_init_8 : decode cX9_init 8 = .ok (.putfield 7, 3) := by decide +kernel
theorem dX9_init_11 : decode cX9_init 11 = .ok (.aload_n 0, 1) := by decide +kernel
theorem dX9_init_12 : decode cX9_init 12 = .ok (.bipush 60, 2) := by decide +kernel
theorem dX9_init_14 : decode cX9_init 14 = .ok (.newarray .int, 2) := by decide +kernel
theorem dX9_init_16 : decode cX9_init 16 = .ok (.putfield 13, 3) := by decide +kernel
theorem dX9_init_19 : decode cX9_init 19 = .ok (.aload_n 0, 1) := by decide +kernel
theorem dX9_init_20 : decode cX9_init 20 = .ok (.sipush 6000, 3) := by decide +kernel
theorem dX9_init_23 : decode cX9_init 23 = .ok (.newarray .int, 2) := by decide +kernel
theorem dX9_init_25 : decode cX9_init 25 = .ok (.putfield 16, 3) := by decide +kernel
theorem dX9_init_28 : decode cX9_init 28 = .ok (.aload_n 0, 1) := by decide +kernel
theorem dX9_init_29 : decode cX9_init 29 = .ok (.iconst 2, 1) := by decide +kernel
theorem dX9_init_30 : decode cX9_init 30 = .ok (.newarray .int, 2) := by decide +kernel
theorem dX9_init_32 : decode cX9_init 32 = .ok (.putfield 19, 3) := by decide +kernel
theorem dX9_init_35 : decode cX9_init 35 = .ok (.aload_n 0, 1) := by decide +kernel
theorem dX9_init_36 : decode cX9_init 36 = .ok (.bipush 60, 2) := by decide +kernel
theorem dX9_init_38 : decode cX9_init 38 = .ok (.newarray .int, 2) := by decide +kernel
theorem dX9_init_40 : decode cX9_init 40 = .ok (.putfield 22, 3) := by decide +kernel
theorem dX9_init_43 : decode cX9_init 43 = .ok (.aload_n 0, 1) := by decide +kernel
theorem dX9_init_44 : decode cX9_init 44 = .ok (.iconst 2, 1) := by decide +kernel
theorem dX9_init_45 : decode cX9_init 45 = .ok (.newarray .int, 2) := by decide +kernel
theorem dX9_init_47 : decode cX9_init 47 = .ok (.putfield 25, 3) := by decide +kernel
theorem dX9_init_50 : decode cX9_init 50 = .ok (.aload_n 0, 1) := by decide +kernel
theorem dX9_init_51 : decode cX9_init 51 = .ok (.sipush 512, 3) := by decide +kernel
theorem dX9_init_54 : decode cX9_init 54 = .ok (.newarray .int, 2) := by decide +kernel
theorem dX9_init_56 : decode cX9_init 56 = .ok (.putfield 28, 3) := by decide +kernel
theorem dX9_init_59 : decode cX9_init 59 = .ok (.aload_n 0, 1) := by decide +kernel
theorem dX9_init_60 : decode cX9_init 60 = .ok (.sipush 512, 3) := by decide +kernel
theorem dX9_init_63 : decode cX9_init 63 = .ok (.newarray .int, 2) := by decide +kernel
theorem dX9_init_65 : decode cX9_init 65 = .ok (.putfield 31, 3) := by decide +kernel
theorem dX9_init_68 : decode cX9_init 68 = .ok (.aload_n 0, 1) := by decide +kernel
theorem dX9_init_69 : decode cX9_init 69 = .ok (.ldc 34, 2) := by decide +kernel
theorem dX9_init_71 : decode cX9_init 71 = .ok (.newarray .int, 2) := by decide +kernel
theorem dX9_init_73 : decode cX9_init 73 = .ok (.putfield 35, 3) := by decide +kernel
theorem dX9_init_76 : decode cX9_init 76 = .ok (.aload_n 0, 1) := by decide +kernel
theorem dX9_init_77 : decode cX9_init 77 = .ok (.iconst 2, 1) := by decide +kernel
theorem dX9_init_78 : decode cX9_init 78 = .ok (.newarray .int, 2) := by decide +kernel
theorem dX9_init_80 : decode cX9_init 80 = .ok (.putfield 38, 3) := by decide +kernel
theorem dX9_init_83 : decode cX9_init 83 = .ok (.aload_n 0, 1) := by decide +kernel
theorem dX9_init_84 : decode cX9_init 84 = .ok (.bipush 100, 2) := by decide +kernel
theorem dX9_init_86 : decode cX9_init 86 = .ok (.newarray .int, 2) := by decide +kernel
theorem dX9_init_88 : decode cX9_init 88 = .ok (.putfield 41, 3) := by decide +kernel
theorem dX9_init_91 : decode cX9_init 91 = .ok (.aload_n 0, 1) := by decide +kernel
theorem dX9_init_92 : decode cX9_init 92 = .ok (.iconst 2, 1) := by decide +kernel
theorem dX9_init_93 : decode cX9_init 93 = .ok (.newarray .int, 2) := by decide +kernel
theorem dX9_init_95 : decode cX9_init 95 = .ok (.putfield 44, 3) := by decide +kernel
theorem dX9_init_98 : decode cX9_init 98 = .ok (.aload_n 0, 1) := by decide +kernel
theorem dX9_init_99 : decode cX9_init 99 = .ok (.sipush 912, 3) := by decide +kernel
theorem dX9_init_102 : decode cX9_init 102 = .ok (.newarray .int, 2) := by decide +kernel
theorem dX9_init_104 : decode cX9_init 104 = .ok (.putfield 47, 3) := by decide +kernel
theorem dX9_init_107 : decode cX9_init 107 = .ok (.aload_n 0, 1) := by decide +kernel
theorem dX9_init_108 : decode cX9_init 108 = .ok (.bipush 24, 2) := by decide +kernel
theorem dX9_init_110 : decode cX9_init 110 = .ok (.newarray .int, 2) := by decide +kernel
theorem dX9_init_112 : decode cX9_init 112 = .ok (.putfield 50, 3) := by decide +kernel
theorem dX9_init_115 : decode cX9_init 115 = .ok (.aload_n 0, 1) := by decide +kernel
theorem dX9_init_116 : decode cX9_init 116 = .ok (.bipush 38, 2) := by decide +kernel
theorem dX9_init_118 : decode cX9_init 118 = .ok (.newarray .int, 2) := by decide +kernel
theorem dX9_init_120 : decode cX9_init 120 = .ok (.putfield 53, 3) := by decide +kernel
theorem dX9_init_123 : decode cX9_init 123 = .ok (.aload_n 0, 1) := by decide +kernel
theorem dX9_init_124 : decode cX9_init 124 = .ok (.iconst 2, 1) := by decide +kernel
theorem dX9_init_125 : decode cX9_init 125 = .ok (.newarray .int, 2) := by decide +kernel
theorem dX9_init_127 : decode cX9_init 127 = .ok (.putfield 56, 3) := by decide +kernel
theorem dX9_init_130 : decode cX9_init 130 = .ok (.aload_n 0, 1) := by decide +kernel
theorem dX9_init_131 : decode cX9_init 131 = .ok (.iconst 2, 1) := by decide +kernel
theorem dX9_init_132 : decode cX9_init 132 = .ok (.newarray .boolean, 2) := by decide +kernel
theorem dX9_init_134 : decode cX9_init 134 = .ok (.putfield 59, 3) := by decide +kernel
theorem dX9_init_137 : decode cX9_init 137 = .ok (.aload_n 0, 1) := by decide +kernel
theorem dX9_init_138 : decode cX9_init 138 = .ok (.iconst 2, 1) := by decide +kernel
theorem dX9_init_139 : decode cX9_init 139 = .ok (.newarray .int, 2) := by decide +kernel
theorem dX9_init_141 : decode cX9_init 141 = .ok (.putfield 63, 3) := by decide +kernel
theorem dX9_init_144 : decode cX9_init 144 = .ok (.aload_n 0, 1) := by decide +kernel
theorem dX9_init_145 : decode cX9_init 145 = .ok (.iconst 2, 1) := by decide +kernel
theorem dX9_init_146 : decode cX9_init 146 = .ok (.newarray .boolean, 2) := by decide +kernel
theorem dX9_init_148 : decode cX9_init 148 = .ok (.putfield 66, 3) := by decide +kernel
theorem dX9_init_151 : decode cX9_init 151 = .ok (.aload_n 0, 1) := by decide +kernel
theorem dX9_init_152 : decode cX9_init 152 = .ok (.iconst 2, 1) := by decide +kernel
theorem dX9_init_153 : decode cX9_init 153 = .ok (.newarray .int, 2) := by decide +kernel
theorem dX9_init_155 : decode cX9_init 155 = .ok (.putfield 69, 3) := by decide +kernel
theorem dX9_init_158 : decode cX9_init 158 = .ok (.aload_n 0, 1) := by decide +kernel
theorem dX9_init_159 : decode cX9_init 159 = .ok (.iconst 2, 1) := by decide +kernel
theorem dX9_init_160 : decode cX9_init 160 = .ok (.newarray .int, 2) := by decide +kernel
theorem dX9_init_162 : decode cX9_init 162 = .ok (.putfield 72, 3) := by decide +kernel
theorem dX9_init_165 : decode cX9_init 165 = .ok (.aload_n 0, 1) := by decide +kernel
theorem dX9_init_166 : decode cX9_init 166 = .ok (.iconst 2, 1) := by decide +kernel
theorem dX9_init_167 : decode cX9_init 167 = .ok (.newarray .int, 2) := by decide +kernel
theorem dX9_init_169 : decode cX9_init 169 = .ok (.putfield 75, 3) := by decide +kernel
theorem dX9_init_172 : decode cX9_init 172 = .ok (.aload_n 0, 1) := by decide +kernel
theorem dX9_init_173 : decode cX9_init 173 = .ok (.bipush 6, 2) := by decide +kernel
theorem dX9_init_175 : decode cX9_init 175 = .ok (.newarray .int, 2) := by decide +kernel
theorem dX9_init_177 : decode cX9_init 177 = .ok (.putfield 78, 3) := by decide +kernel
theorem dX9_init_180 : decode cX9_init 180 = .ok (.aload_n 0, 1) := by decide +kernel
theorem dX9_init_181 : decode cX9_init 181 = .ok (.sipush 192, 3) := by decide +kernel
theorem dX9_init_184 : decode cX9_init 184 = .ok (.newarray .int, 2) := by decide +kernel
theorem dX9_init_186 : decode cX9_init 186 = .ok (.putfield 81, 3) := by decide +kernel
theorem dX9_init_189 : decode cX9_init 189 = .ok (.aload_n 0, 1) := by decide +kernel
theorem dX9_init_190 : decode cX9_init 190 = .ok (.iconst 2, 1) := by decide +kernel
theorem dX9_init_191 : decode cX9_init 191 = .ok (.newarray .int, 2) := by decide +kernel
theorem dX9_init_193 : decode cX9_init 193 = .ok (.putfield 84, 3) := by decide +kernel
theorem dX9_init_196 : decode cX9_init 196 = .ok (.aload_n 0, 1) := by decide +kernel
theorem dX9_init_197 : decode cX9_init 197 = .ok (.sipush 1024, 3) := by decide +kernel
theorem dX9_init_200 : decode cX9_init 200 = .ok (.newarray .int, 2) := by decide +kernel
theorem dX9_init_202 : decode cX9_init 202 = .ok (.putfield 87, 3) := by decide +kernel
theorem dX9_init_205 : decode cX9_init 205 = .ok (.aload_n 0, 1) := by decide +kernel
theorem dX9_init_206 : decode cX9_init 206 = .ok (.iconst 2, 1) := by decide +kernel
theorem dX9_init_207 : decode cX9_init 207 = .ok (.newarray .boolean, 2) := by decide +kernel
theorem dX9_init_209 : decode cX9_init 209 = .ok (.putfield 90, 3) := by decide +kernel
theorem dX9_init_212 : decode cX9_init 212 = .ok (.aload_n 0, 1) := by decide +kernel
theorem dX9_init_213 : decode cX9_init 213 = .ok (.iconst 2, 1) := by decide +kernel
theorem dX9_init_214 : decode cX9_init 214 = .ok (.newarray .int, 2) := by decide +kernel
theorem dX9_init_216 : decode cX9_init 216 = .ok (.putfield 93, 3) := by decide +kernel
theorem dX9_init_219 : decode cX9_init 219 = .ok (.aload_n 0, 1) := by decide +kernel
theorem dX9_init_220 : decode cX9_init 220 = .ok (.iconst 2, 1) := by decide +kernel
theorem dX9_init_221 : decode cX9_init 221 = .ok (.newarray .int, 2) := by decide +kernel
theorem dX9_init_223 : decode cX9_init 223 = .ok (.putfield 96, 3) := by decide +kernel
theorem dX9_init_226 : decode cX9_init 226 = .ok (.aload_n 0, 1) := by decide +kernel
theorem dX9_init_227 : decode cX9_init 227 = .ok (.iconst 2, 1) := by decide +kernel
theorem dX9_init_228 : decode cX9_init 228 = .ok (.newarray .int, 2) := by decide +kernel
theorem dX9_init_230 : decode cX9_init 230 = .ok (.putfield 99, 3) := by decide +kernel
theorem dX9_init_233 : decode cX9_init 233 = .ok (.aload_n 0, 1) := by decide +kernel
theorem dX9_init_234 : decode cX9_init 234 = .ok (.sipush 200, 3) := by decide +kernel
theorem dX9_init_237 : decode cX9_init 237 = .ok (.newarray .int, 2) := by decide +kernel
theorem dX9_init_239 : decode cX9_init 239 = .ok (.putfield 102, 3) := by decide +kernel
theorem dX9_init_242 : decode cX9_init 242 = .ok (.aload_n 0, 1) := by decide +kernel
theorem dX9_init_243 : decode cX9_init 243 = .ok (.iconst 2, 1) := by decide +kernel
theorem dX9_init_244 : decode cX9_init 244 = .ok (.newarray .int, 2) := by decide +kernel
theorem dX9_init_246 : decode cX9_init 246 = .ok (.putfield 105, 3) := by decide +kernel
theorem dX9_init_249 : decode cX9_init 249 = .ok (.aload_n 0, 1) := by decide +kernel
theorem dX9_init_250 : decode cX9_init 250 = .ok (.iconst 2, 1) := by decide +kernel
theorem dX9_init_251 : decode cX9_init 251 = .ok (.newarray .int, 2) := by decide +kernel
theorem dX9_init_253 : decode cX9_init 253 = .ok (.putfield 108, 3) := by decide +kernel
theorem dX9_init_256 : decode cX9_init 256 = .ok (.aload_n 0, 1) := by decide +kernel
theorem dX9_init_257 : decode cX9_init 257 = .ok (.bipush 32, 2) := by decide +kernel
theorem dX9_init_259 : decode cX9_init 259 = .ok (.newarray .int, 2) := by decide +kernel
theorem dX9_init_261 : decode cX9_init 261 = .ok (.putfield 111, 3) := by decide +kernel
theorem dX9_init_264 : decode cX9_init 264 = .ok (.aload_n 0, 1) := by decide +kernel
theorem dX9_init_265 : decode cX9_init 265 = .ok (.bipush 32, 2) := by decide +kernel
theorem dX9_init_267 : decode cX9_init 267 = .ok (.newarray .int, 2) := by decide +kernel
theorem dX9_init_269 : decode cX9_init 269 = .ok (.putfield 114, 3) := by decide +kernel
theorem dX9_init_272 : decode cX9_init 272 = .ok (.return_, 1) := by decide +kernel
theorem dX9_isSite_0 : decode cX9_isSite 0 = .ok (.iload_n 0, 1) := by decide +kernel
theorem dX9_isSite_1 : decode cX9_isSite 1 = .ok (.ifCond .eq 8, 3) := by decide +kernel
theorem dX9_isSite_4 : decode cX9_isSite 4 = .ok (.iload_n 0, 1) := by decide +kernel
theorem dX9_isSite_5 : decode cX9_isSite 5 = .ok (.iconst 1, 1) := by decide +kernel
theorem dX9_isSite_6 : decode cX9_isSite 6 = .ok (.if_icmp .ne 7, 3) := by decide +kernel
theorem dX9_isSite_9 : decode cX9_isSite 9 = .ok (.iconst 1, 1) := by decide +kernel
theorem dX9_isSite_10 : decode cX9_isSite 10 = .ok (.goto 4, 3) := by decide +kernel
theorem dX9_isSite_13 : decode cX9_isSite 13 = .ok (.iconst 0, 1) := by decide +kernel
theorem dX9_isSite_14 : decode cX9_isSite 14 = .ok (.ireturn, 1) := by decide +kernel
theorem dX9_put_0 : decode cX9_put 0 = .ok (.aload_n 0, 1) := by decide +kernel
theorem dX9_put_1 : decode cX9_put 1 = .ok (.getfield 117, 3) := by decide +kernel
theorem dX9_put_4 : decode cX9_put 4 = .ok (.bipush 100, 2) := by decide +kernel
theorem dX9_put_6 : decode cX9_put 6 = .ok (.if_icmp .eq 14, 3) := by decide +kernel
theorem dX9_put_9 : decode cX9_put 9 = .ok (.iload_n 1, 1) := by decide +kernel
theorem dX9_put_10 : decode cX9_put 10 = .ok (.ifCond .lt 10, 3) := by decide +kernel
theorem dX9_put_13 : decode cX9_put 13 = .ok (.iload_n 1, 1) := by decide +kernel
theorem dX9_put_14 : decode cX9_put 14 = .ok (.sipush 255, 3) := by decide +kernel
theorem dX9_put_17 : decode cX9_put 17 = .ok (.if_icmp .le 5, 3) := by decide +kernel
theorem dX9_put_20 : decode cX9_put 20 = .ok (.iconst (-1), 1) := by decide +kernel
theorem dX9_put_21 : decode cX9_put 21 = .ok (.ireturn, 1) := by decide +kernel
theorem dX9_put_22 : decode cX9_put 22 = .ok (.aload_n 0, 1) := by decide +kernel
theorem dX9_put_23 : decode cX9_put 23 = .ok (.getfield 41, 3) := by decide +kernel
theorem dX9_put_26 : decode cX9_put 26 = .ok (.aload_n 0, 1) := by decide +kernel
theorem dX9_put_27 : decode cX9_put 27 = .ok (.getfield 117, 3) := by decide +kernel
theorem dX9_put_30 : decode cX9_put 30 = .ok (.iload_n 1, 1) := by decide +kernel
theorem dX9_put_31 : decode cX9_put 31 = .ok (.iastore, 1) := by decide +kernel
theorem dX9_put_32 : decode cX9_put 32 = .ok (.aload_n 0, 1) := by decide +kernel
theorem dX9_put_33 : decode cX9_put 33 = .ok (.dup, 1) := by decide +kernel
theorem dX9_put_34 : decode cX9_put 34 = .ok (.getfield 117, 3) := by decide +kernel
theorem dX9_put_37 : decode cX9_put 37 = .ok (.iconst 1, 1) := by decide +kernel
theorem dX9_put_38 : decode cX9_put 38 = .ok (.iadd, 1) := by decide +kernel
theorem dX9_put_39 : decode cX9_put 39 = .ok (.putfield 117, 3) := by decide +kernel
theorem dX9_put_42 : decode cX9_put 42 = .ok (.aload_n 0, 1) := by decide +kernel
theorem dX9_put_43 : decode cX9_put 43 = .ok (.getfield 117, 3) := by decide +kernel
theorem dX9_put_46 : decode cX9_put 46 = .ok (.ireturn, 1) := by decide +kernel
theorem dX9_queue_0 : decode cX9_queue 0 = .ok (.iload_n 1, 1) := by decide +kernel
theorem dX9_queue_1 : decode cX9_queue 1 = .ok (.invokestatic 121, 3) := by decide +kernel
theorem dX9_queue_4 : decode cX9_queue 4 = .ok (.ifCond .eq 14, 3) := by decide +kernel
theorem dX9_queue_7 : decode cX9_queue 7 = .ok (.aload_n 0, 1) := by decide +kernel
theorem dX9_queue_8 : decode cX9_queue 8 = .ok (.getfield 7, 3) := by decide +kernel
theorem dX9_queue_11 : decode cX9_queue 11 = .ok (.iload_n 1, 1) := by decide +kernel
theorem dX9_queue_12 : decode cX9_queue 12 = .ok (.iaload, 1) := by decide +kernel
theorem dX9_queue_13 : decode cX9_queue 13 = .ok (.bipush 30, 2) := by decide +kernel
theorem dX9_queue_15 : decode cX9_queue 15 = .ok (.if_icmp .ne 5, 3) := by decide +kernel
theorem dX9_queue_18 : decode cX9_queue 18 = .ok (.iconst (-1), 1) := by decide +kernel
theorem dX9_queue_19 : decode cX9_queue 19 = .ok (.ireturn, 1) := by decide +kernel
theorem dX9_queue_20 : decode cX9_queue 20 = .ok (.aload_n 0, 1) := by decide +kernel
theorem dX9_queue_21 : decode cX9_queue 21 = .ok (.getfield 7, 3) := by decide +kernel
theorem dX9_queue_24 : decode cX9_queue 24 = .ok (.iload_n 1, 1) := by decide +kernel
theorem dX9_queue_25 : decode cX9_queue 25 = .ok (.iaload, 1) := by decide +kernel
theorem dX9_queue_26 : decode cX9_queue 26 = .ok (.istore_n 2, 1) := by decide +kernel
theorem dX9_queue_27 : decode cX9_queue 27 = .ok (.aload_n 0, 1) := by decide +kernel
theorem dX9_queue_28 : decode cX9_queue 28 = .ok (.getfield 13, 3) := by decide +kernel
theorem dX9_queue_31 : decode cX9_queue 31 = .ok (.bipush 30, 2) := by decide +kernel
theorem dX9_queue_33 : decode cX9_queue 33 = .ok (.iload_n 1, 1) := by decide +kernel
theorem dX9_queue_34 : decode cX9_queue 34 = .ok (.imul, 1) := by decide +kernel
theorem dX9_queue_35 : decode cX9_queue 35 = .ok (.iload_n 2, 1) := by decide +kernel
theorem dX9_queue_36 : decode cX9_queue 36 = .ok (.iadd, 1) := by decide +kernel
theorem dX9_queue_37 : decode cX9_queue 37 = .ok (.aload_n 0, 1) := by decide +kernel
theorem dX9_queue_38 : decode cX9_queue 38 = .ok (.getfield 117, 3) := by decide +kernel
theorem dX9_queue_41 : decode cX9_queue 41 = .ok (.iastore, 1) := by decide +kernel
theorem dX9_queue_42 : decode cX9_queue 42 = .ok (.iconst 0, 1) := by decide +kernel
theorem dX9_queue_43 : decode cX9_queue 43 = .ok (.istore_n 3, 1) := by decide +kernel
theorem dX9_queue_44 : decode cX9_queue 44 = .ok (.iload_n 3, 1) := by decide +kernel
theorem dX9_queue_45 : decode cX9_queue 45 = .ok (.aload_n 0, 1) := by decide +kernel
theorem dX9_queue_46 : decode cX9_queue 46 = .ok (.getfield 117, 3) := by decide +kernel
theorem dX9_queue_49 : decode cX9_queue 49 = .ok (.if_icmp .ge 32, 3) := by decide +kernel
theorem dX9_queue_52 : decode cX9_queue 52 = .ok (.aload_n 0, 1) := by decide +kernel
theorem dX9_queue_53 : decode cX9_queue 53 = .ok (.getfield 16, 3) := by decide +kernel
theorem dX9_queue_56 : decode cX9_queue 56 = .ok (.sipush 3000, 3) := by decide +kernel
theorem dX9_queue_59 : decode cX9_queue 59 = .ok (.iload_n 1, 1) := by decide +kernel
theorem dX9_queue_60 : decode cX9_queue 60 = .ok (.imul, 1) := by decide +kernel
theorem dX9_queue_61 : decode cX9_queue 61 = .ok (.bipush 100, 2) := by decide +kernel
theorem dX9_queue_63 : decode cX9_queue 63 = .ok (.iload_n 2, 1) := by decide +kernel
theorem dX9_queue_64 : decode cX9_queue 64 = .ok (.imul, 1) := by decide +kernel
theorem dX9_queue_65 : decode cX9_queue 65 = .ok (.iadd, 1) := by decide +kernel
theorem dX9_queue_66 : decode cX9_queue 66 = .ok (.iload_n 3, 1) := by decide +kernel
theorem dX9_queue_67 : decode cX9_queue 67 = .ok (.iadd, 1) := by decide +kernel
theorem dX9_queue_68 : decode cX9_queue 68 = .ok (.aload_n 0, 1) := by decide +kernel
theorem dX9_queue_69 : decode cX9_queue 69 = .ok (.getfield 41, 3) := by decide +kernel
theorem dX9_queue_72 : decode cX9_queue 72 = .ok (.iload_n 3, 1) := by decide +kernel
theorem dX9_queue_73 : decode cX9_queue 73 = .ok (.iaload, 1) := by decide +kernel
theorem dX9_queue_74 : decode cX9_queue 74 = .ok (.iastore, 1) := by decide +kernel
theorem dX9_queue_75 : decode cX9_queue 75 = .ok (.iinc 3 1, 3) := by decide +kernel
theorem dX9_queue_78 : decode cX9_queue 78 = .ok (.goto (-34), 3) := by decide +kernel
theorem dX9_queue_81 : decode cX9_queue 81 = .ok (.aload_n 0, 1) := by decide +kernel
theorem dX9_queue_82 : decode cX9_queue 82 = .ok (.iconst 0, 1) := by decide +kernel
theorem dX9_queue_83 : decode cX9_queue 83 = .ok (.putfield 117, 3) := by decide +kernel
theorem dX9_queue_86 : decode cX9_queue 86 = .ok (.aload_n 0, 1) := by decide +kernel
theorem dX9_queue_87 : decode cX9_queue 87 = .ok (.getfield 22, 3) := by decide +kernel
theorem dX9_queue_90 : decode cX9_queue 90 = .ok (.bipush 30, 2) := by decide +kernel
theorem dX9_queue_92 : decode cX9_queue 92 = .ok (.iload_n 1, 1) := by decide +kernel
theorem dX9_queue_93 : decode cX9_queue 93 = .ok (.imul, 1) := by decide +kernel
theorem dX9_queue_94 : decode cX9_queue 94 = .ok (.aload_n 0, 1) := by decide +kernel
theorem dX9_queue_95 : decode cX9_queue 95 = .ok (.getfield 19, 3) := by decide +kernel
theorem dX9_queue_98 : decode cX9_queue 98 = .ok (.iload_n 1, 1) := by decide +kernel
theorem dX9_queue_99 : decode cX9_queue 99 = .ok (.iaload, 1) := by decide +kernel
theorem dX9_queue_100 : decode cX9_queue 100 = .ok (.iadd, 1) := by decide +kernel
theorem dX9_queue_101 : decode cX9_queue 101 = .ok (.iload_n 2, 1) := by decide +kernel
theorem dX9_queue_102 : decode cX9_queue 102 = .ok (.iastore, 1) := by decide +kernel
theorem dX9_queue_103 : decode cX9_queue 103 = .ok (.aload_n 0, 1) := by decide +kernel
theorem dX9_queue_104 : decode cX9_queue 104 = .ok (.getfield 19, 3) := by decide +kernel
theorem dX9_queue_107 : decode cX9_queue 107 = .ok (.iload_n 1, 1) := by decide +kernel
theorem dX9_queue_108 : decode cX9_queue 108 = .ok (.dup2, 1) := by decide +kernel
theorem dX9_queue_109 : decode cX9_queue 109 = .ok (.iaload, 1) := by decide +kernel
theorem dX9_queue_110 : decode cX9_queue 110 = .ok (.iconst 1, 1) := by decide +kernel
theorem dX9_queue_111 : decode cX9_queue 111 = .ok (.iadd, 1) := by decide +kernel
theorem dX9_queue_112 : decode cX9_queue 112 = .ok (.iastore, 1) := by decide +kernel
theorem dX9_queue_113 : decode cX9_queue 113 = .ok (.aload_n 0, 1) := by decide +kernel
theorem dX9_queue_114 : decode cX9_queue 114 = .ok (.getfield 7, 3) := by decide +kernel
theorem dX9_queue_117 : decode cX9_queue 117 = .ok (.iload_n 1, 1) := by decide +kernel
theorem dX9_queue_118 : decode cX9_queue 118 = .ok (.dup2, 1) := by decide +kernel
theorem dX9_queue_119 : decode cX9_queue 119 = .ok (.iaload, 1) := by decide +kernel
theorem dX9_queue_120 : decode cX9_queue 120 = .ok (.iconst 1, 1) := by decide +kernel
theorem dX9_queue_121 : decode cX9_queue 121 = .ok (.iadd, 1) := by decide +kernel
theorem dX9_queue_122 : decode cX9_queue 122 = .ok (.iastore, 1) := by decide +kernel
theorem dX9_queue_123 : decode cX9_queue 123 = .ok (.iload_n 2, 1) := by decide +kernel
theorem dX9_queue_124 : decode cX9_queue 124 = .ok (.ireturn, 1) := by decide +kernel
theorem dX9_leave_0 : decode cX9_leave 0 = .ok (.aload_n 0, 1) := by decide +kernel
theorem dX9_leave_1 : decode cX9_leave 1 = .ok (.getfield 19, 3) := by decide +kernel
theorem dX9_leave_4 : decode cX9_leave 4 = .ok (.iload_n 1, 1) := by decide +kernel
theorem dX9_leave_5 : decode cX9_leave 5 = .ok (.dup2, 1) := by decide +kernel
theorem dX9_leave_6 : decode cX9_leave 6 = .ok (.iaload, 1) := by decide +kernel
theorem dX9_leave_7 : decode cX9_leave 7 = .ok (.iconst 1, 1) := by decide +kernel
theorem dX9_leave_8 : decode cX9_leave 8 = .ok (.isub, 1) := by decide +kernel
theorem dX9_leave_9 : decode cX9_leave 9 = .ok (.iastore, 1) := by decide +kernel
theorem dX9_leave_10 : decode cX9_leave 10 = .ok (.iconst 0, 1) := by decide +kernel
theorem dX9_leave_11 : decode cX9_leave 11 = .ok (.istore_n 2, 1) := by decide +kernel
theorem dX9_leave_12 : decode cX9_leave 12 = .ok (.iload_n 2, 1) := by decide +kernel
theorem dX9_leave_13 : decode cX9_leave 13 = .ok (.aload_n 0, 1) := by decide +kernel
theorem dX9_leave_14 : decode cX9_leave 14 = .ok (.getfield 19, 3) := by decide +kernel
theorem dX9_leave_17 : decode cX9_leave 17 = .ok (.iload_n 1, 1) := by decide +kernel
theorem dX9_leave_18 : decode cX9_leave 18 = .ok (.iaload, 1) := by decide +kernel
theorem dX9_leave_19 : decode cX9_leave 19 = .ok (.if_icmp .ge 33, 3) := by decide +kernel
theorem dX9_leave_22 : decode cX9_leave 22 = .ok (.aload_n 0, 1) := by decide +kernel
theorem dX9_leave_23 : decode cX9_leave 23 = .ok (.getfield 22, 3) := by decide +kernel
theorem dX9_leave_26 : decode cX9_leave 26 = .ok (.bipush 30, 2) := by decide +kernel
theorem dX9_leave_28 : decode cX9_leave 28 = .ok (.iload_n 1, 1) := by decide +kernel
theorem dX9_leave_29 : decode cX9_leave 29 = .ok (.imul, 1) := by decide +kernel
theorem dX9_leave_30 : decode cX9_leave 30 = .ok (.iload_n 2, 1) := by decide +kernel
theorem dX9_leave_31 : decode cX9_leave 31 = .ok (.iadd, 1) := by decide +kernel
theorem dX9_leave_32 : decode cX9_leave 32 = .ok (.aload_n 0, 1) := by decide +kernel
theorem dX9_leave_33 : decode cX9_leave 33 = .ok (.getfield 22, 3) := by decide +kernel
theorem dX9_leave_36 : decode cX9_leave 36 = .ok (.bipush 30, 2) := by decide +kernel
theorem dX9_leave_38 : decode cX9_leave 38 = .ok (.iload_n 1, 1) := by decide +kernel
theorem dX9_leave_39 : decode cX9_leave 39 = .ok (.imul, 1) := by decide +kernel
theorem dX9_leave_40 : decode cX9_leave 40 = .ok (.iload_n 2, 1) := by decide +kernel
theorem dX9_leave_41 : decode cX9_leave 41 = .ok (.iadd, 1) := by decide +kernel
theorem dX9_leave_42 : decode cX9_leave 42 = .ok (.iconst 1, 1) := by decide +kernel
theorem dX9_leave_43 : decode cX9_leave 43 = .ok (.iadd, 1) := by decide +kernel
theorem dX9_leave_44 : decode cX9_leave 44 = .ok (.iaload, 1) := by decide +kernel
theorem dX9_leave_45 : decode cX9_leave 45 = .ok (.iastore, 1) := by decide +kernel
theorem dX9_leave_46 : decode cX9_leave 46 = .ok (.iinc 2 1, 3) := by decide +kernel
theorem dX9_leave_49 : decode cX9_leave 49 = .ok (.goto (-37), 3) := by decide +kernel
theorem dX9_leave_52 : decode cX9_leave 52 = .ok (.return_, 1) := by decide +kernel
theorem dX9_isExecuted_0 : decode cX9_isExecuted 0 = .ok (.iconst 0, 1) := by decide +kernel
theorem dX9_isExecuted_1 : decode cX9_isExecuted 1 = .ok (.istore_n 3, 1) := by decide +kernel
theorem dX9_isExecuted_2 : decode cX9_isExecuted 2 = .ok (.iconst 0, 1) := by decide +kernel
theorem dX9_isExecuted_3 : decode cX9_isExecuted 3 = .ok (.istore 4, 2) := by decide +kernel
theorem dX9_isExecuted_5 : decode cX9_isExecuted 5 = .ok (.iload 4, 2) := by decide +kernel
theorem dX9_isExecuted_7 : decode cX9_isExecuted 7 = .ok (.aload_n 0, 1) := by decide +kernel
theorem dX9_isExecuted_8 : decode cX9_isExecuted 8 = .ok (.getfield 25, 3) := by decide +kernel
theorem dX9_isExecuted_11 : decode cX9_isExecuted 11 = .ok (.iload_n 1, 1) := by decide +kernel
theorem dX9_isExecuted_12 : decode cX9_isExecuted 12 = .ok (.iaload, 1) := by decide +kernel
theorem dX9_isExecuted_13 : decode cX9_isExecuted 13 = .ok (.if_icmp .ge 36, 3) := by decide +kernel
theorem dX9_isExecuted_16 : decode cX9_isExecuted 16 = .ok (.iload_n 3, 1) := by decide +kernel
theorem dX9_isExecuted_17 : decode cX9_isExecuted 17 = .ok (.ifCond .ne 20, 3) := by decide +kernel
theorem dX9_isExecuted_20 : decode cX9_isExecuted 20 = .ok (.aload_n 0, 1) := by decide +kernel
theorem dX9_isExecuted_21 : decode cX9_isExecuted 21 = .ok (.getfield 28, 3) := by decide +kernel
theorem dX9_isExecuted_24 : decode cX9_isExecuted 24 = .ok (.sipush 256, 3) := by decide +kernel
theorem dX9_isExecuted_27 : decode cX9_isExecuted 27 = .ok (.iload_n 1, 1) := by decide +kernel
theorem dX9_isExecuted_28 : decode cX9_isExecuted 28 = .ok (.imul, 1) := by decide +kernel
theorem dX9_isExecuted_29 : decode cX9_isExecuted 29 = .ok (.iload 4, 2) := by decide +kernel
theorem dX9_isExecuted_31 : decode cX9_isExecuted 31 = .ok (.iadd, 1) := by decide +kernel
theorem dX9_isExecuted_32 : decode cX9_isExecuted 32 = .ok (.iaload, 1) := by decide +kernel
theorem dX9_isExecuted_33 : decode cX9_isExecuted 33 = .ok (.iload_n 2, 1) := by decide +kernel
theorem dX9_isExecuted_34 : decode cX9_isExecuted 34 = .ok (.if_icmp .ne 7, 3) := by decide +kernel
theorem dX9_isExecuted_37 : decode cX9_isExecuted 37 = .ok (.iconst 1, 1) := by decide +kernel
theorem dX9_isExecuted_38 : decode cX9_isExecuted 38 = .ok (.goto 4, 3) := by decide +kernel
theorem dX9_isExecuted_41 : decode cX9_isExecuted 41 = .ok (.iconst 0, 1) := by decide +kernel
theorem dX9_isExecuted_42 : decode cX9_isExecuted 42 = .ok (.istore_n 3, 1) := by decide +kernel
theorem dX9_isExecuted_43 : decode cX9_isExecuted 43 = .ok (.iinc 4 1, 3) := by decide +kernel
theorem dX9_isExecuted_46 : decode cX9_isExecuted 46 = .ok (.goto (-41), 3) := by decide +kernel
theorem dX9_isExecuted_49 : decode cX9_isExecuted 49 = .ok (.iload_n 3, 1) := by decide +kernel
theorem dX9_isExecuted_50 : decode cX9_isExecuted 50 = .ok (.ireturn, 1) := by decide +kernel
theorem dX9_left_0 : decode cX9_left 0 = .ok (.iload_n 0, 1) := by decide +kernel
theorem dX9_left_1 : decode cX9_left 1 = .ok (.iconst 1, 1) := by decide +kernel
theorem dX9_left_2 : decode cX9_left 2 = .ok (.ishl, 1) := by decide +kernel
theorem dX9_left_3 : decode cX9_left 3 = .ok (.iload_n 0, 1) := by decide +kernel
theorem dX9_left_4 : decode cX9_left 4 = .ok (.bipush 15, 2) := by decide +kernel
theorem dX9_left_6 : decode cX9_left 6 = .ok (.ishr, 1) := by decide +kernel
theorem dX9_left_7 : decode cX9_left 7 = .ok (.ior, 1) := by decide +kernel
theorem dX9_left_8 : decode cX9_left 8 = .ok (.ldc 125, 2) := by decide +kernel
theorem dX9_left_10 : decode cX9_left 10 = .ok (.iand, 1) := by decide +kernel
theorem dX9_left_11 : decode cX9_left 11 = .ok (.ireturn, 1) := by decide +kernel
theorem dX9_sum_0 : decode cX9_sum 0 = .ok (.ldc 125, 2) := by decide +kernel
theorem dX9_sum_2 : decode cX9_sum 2 = .ok (.istore_n 2, 1) := by decide +kernel
theorem dX9_sum_3 : decode cX9_sum 3 = .ok (.iconst 0, 1) := by decide +kernel
theorem dX9_sum_4 : decode cX9_sum 4 = .ok (.istore_n 3, 1) := by decide +kernel
theorem dX9_sum_5 : decode cX9_sum 5 = .ok (.iconst 0, 1) := by decide +kernel
theorem dX9_sum_6 : decode cX9_sum 6 = .ok (.istore 4, 2) := by decide +kernel
theorem dX9_sum_8 : decode cX9_sum 8 = .ok (.iload 4, 2) := by decide +kernel
theorem dX9_sum_10 : decode cX9_sum 10 = .ok (.bipush 32, 2) := by decide +kernel
theorem dX9_sum_12 : decode cX9_sum 12 = .ok (.if_icmp .ge 57, 3) := by decide +kernel
theorem dX9_sum_15 : decode cX9_sum 15 = .ok (.iload_n 2, 1) := by decide +kernel
theorem dX9_sum_16 : decode cX9_sum 16 = .ok (.istore 5, 2) := by decide +kernel
theorem dX9_sum_18 : decode cX9_sum 18 = .ok (.iload_n 2, 1) := by decide +kernel
theorem dX9_sum_19 : decode cX9_sum 19 = .ok (.invokestatic 126, 3) := by decide +kernel
theorem dX9_sum_22 : decode cX9_sum 22 = .ok (.aload_n 0, 1) := by decide +kernel
theorem dX9_sum_23 : decode cX9_sum 23 = .ok (.getfield 53, 3) := by decide +kernel
theorem dX9_sum_26 : decode cX9_sum 26 = .ok (.iload_n 1, 1) := by decide +kernel
theorem dX9_sum_27 : decode cX9_sum 27 = .ok (.iload 4, 2) := by decide +kernel
theorem dX9_sum_29 : decode cX9_sum 29 = .ok (.iadd, 1) := by decide +kernel
theorem dX9_sum_30 : decode cX9_sum 30 = .ok (.iaload, 1) := by decide +kernel
theorem dX9_sum_31 : decode cX9_sum 31 = .ok (.iadd, 1) := by decide +kernel
theorem dX9_sum_32 : decode cX9_sum 32 = .ok (.ldc 125, 2) := by decide +kernel
theorem dX9_sum_34 : decode cX9_sum 34 = .ok (.iand, 1) := by decide +kernel
theorem dX9_sum_35 : decode cX9_sum 35 = .ok (.istore_n 2, 1) := by decide +kernel
theorem dX9_sum_36 : decode cX9_sum 36 = .ok (.iload_n 3, 1) := by decide +kernel
theorem dX9_sum_37 : decode cX9_sum 37 = .ok (.iload_n 2, 1) := by decide +kernel
theorem dX9_sum_38 : decode cX9_sum 38 = .ok (.bipush 32, 2) := by decide +kernel
theorem dX9_sum_40 : decode cX9_sum 40 = .ok (.iload 4, 2) := by decide +kernel
theorem dX9_sum_42 : decode cX9_sum 42 = .ok (.isub, 1) := by decide +kernel
theorem dX9_sum_43 : decode cX9_sum 43 = .ok (.ixor, 1) := by decide +kernel
theorem dX9_sum_44 : decode cX9_sum 44 = .ok (.iadd, 1) := by decide +kernel
theorem dX9_sum_45 : decode cX9_sum 45 = .ok (.ldc 125, 2) := by decide +kernel
theorem dX9_sum_47 : decode cX9_sum 47 = .ok (.iand, 1) := by decide +kernel
theorem dX9_sum_48 : decode cX9_sum 48 = .ok (.istore_n 3, 1) := by decide +kernel
theorem dX9_sum_49 : decode cX9_sum 49 = .ok (.iload_n 2, 1) := by decide +kernel
theorem dX9_sum_50 : decode cX9_sum 50 = .ok (.iload 5, 2) := by decide +kernel
theorem dX9_sum_52 : decode cX9_sum 52 = .ok (.if_icmp .le 7, 3) := by decide +kernel
theorem dX9_sum_55 : decode cX9_sum 55 = .ok (.iload_n 2, 1) := by decide +kernel
theorem dX9_sum_56 : decode cX9_sum 56 = .ok (.goto 6, 3) := by decide +kernel
theorem dX9_sum_59 : decode cX9_sum 59 = .ok (.iload_n 2, 1) := by decide +kernel
theorem dX9_sum_60 : decode cX9_sum 60 = .ok (.iload_n 3, 1) := by decide +kernel
theorem dX9_sum_61 : decode cX9_sum 61 = .ok (.ixor, 1) := by decide +kernel
theorem dX9_sum_62 : decode cX9_sum 62 = .ok (.istore_n 2, 1) := by decide +kernel
theorem dX9_sum_63 : decode cX9_sum 63 = .ok (.iinc 4 1, 3) := by decide +kernel
theorem dX9_sum_66 : decode cX9_sum 66 = .ok (.goto (-58), 3) := by decide +kernel
theorem dX9_sum_69 : decode cX9_sum 69 = .ok (.iload_n 2, 1) := by decide +kernel
theorem dX9_sum_70 : decode cX9_sum 70 = .ok (.ireturn, 1) := by decide +kernel
theorem dX9_head_0 : decode cX9_head 0 = .ok (.iload_n 1, 1) := by decide +kernel
theorem dX9_head_1 : decode cX9_head 1 = .ok (.bipush 9, 2) := by decide +kernel
theorem dX9_head_3 : decode cX9_head 3 = .ok (.if_icmp .ne 13, 3) := by decide +kernel
theorem dX9_head_6 : decode cX9_head 6 = .ok (.ldc 130, 2) := by decide +kernel
theorem dX9_head_8 : decode cX9_head 8 = .ok (.iload_n 2, 1) := by decide +kernel
theorem dX9_head_9 : decode cX9_head 9 = .ok (.isub, 1) := by decide +kernel
theorem dX9_head_10 : decode cX9_head 10 = .ok (.ldc 125, 2) := by decide +kernel
theorem dX9_head_12 : decode cX9_head 12 = .ok (.iand, 1) := by decide +kernel
theorem dX9_head_13 : decode cX9_head 13 = .ok (.goto 17, 3) := by decide +kernel
theorem dX9_head_16 : decode cX9_head 16 = .ok (.ldc 130, 2) := by decide +kernel
theorem dX9_head_18 : decode cX9_head 18 = .ok (.aload_n 0, 1) := by decide +kernel
theorem dX9_head_19 : decode cX9_head 19 = .ok (.bipush 6, 2) := by decide +kernel
theorem dX9_head_21 : decode cX9_head 21 = .ok (.invokevirtual 131, 3) := by decide +kernel
theorem dX9_head_24 : decode cX9_head 24 = .ok (.iload_n 2, 1) := by decide +kernel
theorem dX9_head_25 : decode cX9_head 25 = .ok (.ixor, 1) := by decide +kernel
theorem dX9_head_26 : decode cX9_head 26 = .ok (.isub, 1) := by decide +kernel
theorem dX9_head_27 : decode cX9_head 27 = .ok (.ldc 125, 2) := by decide +kernel
theorem dX9_head_29 : decode cX9_head 29 = .ok (.iand, 1) := by decide +kernel
theorem dX9_head_30 : decode cX9_head 30 = .ok (.istore_n 3, 1) := by decide +kernel
theorem dX9_head_31 : decode cX9_head 31 = .ok (.aload_n 0, 1) := by decide +kernel
theorem dX9_head_32 : decode cX9_head 32 = .ok (.getfield 53, 3) := by decide +kernel
theorem dX9_head_35 : decode cX9_head 35 = .ok (.iconst 0, 1) := by decide +kernel
theorem dX9_head_36 : decode cX9_head 36 = .ok (.bipush 16, 2) := by decide +kernel
theorem dX9_head_38 : decode cX9_head 38 = .ok (.iastore, 1) := by decide +kernel
theorem dX9_head_39 : decode cX9_head 39 = .ok (.aload_n 0, 1) := by decide +kernel
theorem dX9_head_40 : decode cX9_head 40 = .ok (.getfield 53, 3) := by decide +kernel
theorem dX9_head_43 : decode cX9_head 43 = .ok (.iconst 1, 1) := by decide +kernel
theorem dX9_head_44 : decode cX9_head 44 = .ok (.iload_n 1, 1) := by decide +kernel
theorem dX9_head_45 : decode cX9_head 45 = .ok (.iastore, 1) := by decide +kernel
theorem dX9_head_46 : decode cX9_head 46 = .ok (.aload_n 0, 1) := by decide +kernel
theorem dX9_head_47 : decode cX9_head 47 = .ok (.getfield 53, 3) := by decide +kernel
theorem dX9_head_50 : decode cX9_head 50 = .ok (.iconst 2, 1) := by decide +kernel
theorem dX9_head_51 : decode cX9_head 51 = .ok (.iload_n 3, 1) := by decide +kernel
theorem dX9_head_52 : decode cX9_head 52 = .ok (.sipush 255, 3) := by decide +kernel
theorem dX9_head_55 : decode cX9_head 55 = .ok (.iand, 1) := by decide +kernel
theorem dX9_head_56 : decode cX9_head 56 = .ok (.iastore, 1) := by decide +kernel
theorem dX9_head_57 : decode cX9_head 57 = .ok (.aload_n 0, 1) := by decide +kernel
theorem dX9_head_58 : decode cX9_head 58 = .ok (.getfield 53, 3) := by decide +kernel
theorem dX9_head_61 : decode cX9_head 61 = .ok (.iconst 3, 1) := by decide +kernel
theorem dX9_head_62 : decode cX9_head 62 = .ok (.iload_n 3, 1) := by decide +kernel
theorem dX9_head_63 : decode cX9_head 63 = .ok (.bipush 8, 2) := by decide +kernel
theorem dX9_head_65 : decode cX9_head 65 = .ok (.ishr, 1) := by decide +kernel
theorem dX9_head_66 : decode cX9_head 66 = .ok (.iastore, 1) := by decide +kernel
theorem dX9_head_67 : decode cX9_head 67 = .ok (.aload_n 0, 1) := by decide +kernel
theorem dX9_head_68 : decode cX9_head 68 = .ok (.getfield 53, 3) := by decide +kernel
theorem dX9_head_71 : decode cX9_head 71 = .ok (.iconst 4, 1) := by decide +kernel
theorem dX9_head_72 : decode cX9_head 72 = .ok (.iload_n 2, 1) := by decide +kernel
theorem dX9_head_73 : decode cX9_head 73 = .ok (.iastore, 1) := by decide +kernel
theorem dX9_head_74 : decode cX9_head 74 = .ok (.aload_n 0, 1) := by decide +kernel
theorem dX9_head_75 : decode cX9_head 75 = .ok (.getfield 53, 3) := by decide +kernel
theorem dX9_head_78 : decode cX9_head 78 = .ok (.iconst 5, 1) := by decide +kernel
theorem dX9_head_79 : decode cX9_head 79 = .ok (.iload_n 1, 1) := by decide +kernel
theorem dX9_head_80 : decode cX9_head 80 = .ok (.aload_n 0, 1) := by decide +kernel
theorem dX9_head_81 : decode cX9_head 81 = .ok (.getfield 53, 3) := by decide +kernel
theorem dX9_head_84 : decode cX9_head 84 = .ok (.iconst 2, 1) := by decide +kernel
theorem dX9_head_85 : decode cX9_head 85 = .ok (.iaload, 1) := by decide +kernel
theorem dX9_head_86 : decode cX9_head 86 = .ok (.ixor, 1) := by decide +kernel
theorem dX9_head_87 : decode cX9_head 87 = .ok (.aload_n 0, 1) := by decide +kernel
theorem dX9_head_88 : decode cX9_head 88 = .ok (.getfield 53, 3) := by decide +kernel
theorem dX9_head_91 : decode cX9_head 91 = .ok (.iconst 3, 1) := by decide +kernel
theorem dX9_head_92 : decode cX9_head 92 = .ok (.iaload, 1) := by decide +kernel
theorem dX9_head_93 : decode cX9_head 93 = .ok (.ixor, 1) := by decide +kernel
theorem dX9_head_94 : decode cX9_head 94 = .ok (.iload_n 2, 1) := by decide +kernel
theorem dX9_head_95 : decode cX9_head 95 = .ok (.ixor, 1) := by decide +kernel
theorem dX9_head_96 : decode cX9_head 96 = .ok (.iastore, 1) := by decide +kernel
theorem dX9_head_97 : decode cX9_head 97 = .ok (.aload_n 0, 1) := by decide +kernel
theorem dX9_head_98 : decode cX9_head 98 = .ok (.iload_n 1, 1) := by decide +kernel
theorem dX9_head_99 : decode cX9_head 99 = .ok (.bipush 9, 2) := by decide +kernel
theorem dX9_head_101 : decode cX9_head 101 = .ok (.if_icmp .ne 8, 3) := by decide +kernel
theorem dX9_head_104 : decode cX9_head 104 = .ok (.bipush 6, 2) := by decide +kernel
theorem dX9_head_106 : decode cX9_head 106 = .ok (.goto 5, 3) := by decide +kernel
theorem dX9_head_109 : decode cX9_head 109 = .ok (.bipush 38, 2) := by decide +kernel
theorem dX9_head_111 : decode cX9_head 111 = .ok (.putfield 134, 3) := by decide +kernel
theorem dX9_head_114 : decode cX9_head 114 = .ok (.return_, 1) := by decide +kernel
theorem dX9_lay_0 : decode cX9_lay 0 = .ok (.aload_n 0, 1) := by decide +kernel
theorem dX9_lay_1 : decode cX9_lay 1 = .ok (.getfield 44, 3) := by decide +kernel
theorem dX9_lay_4 : decode cX9_lay 4 = .ok (.iload_n 1, 1) := by decide +kernel
theorem dX9_lay_5 : decode cX9_lay 5 = .ok (.iaload, 1) := by decide +kernel
theorem dX9_lay_6 : decode cX9_lay 6 = .ok (.bipush 12, 2) := by decide +kernel
theorem dX9_lay_8 : decode cX9_lay 8 = .ok (.if_icmp .ne 4, 3) := by decide +kernel
theorem dX9_lay_11 : decode cX9_lay 11 = .ok (.return_, 1) := by decide +kernel
theorem dX9_lay_12 : decode cX9_lay 12 = .ok (.bipush 12, 2) := by decide +kernel
theorem dX9_lay_14 : decode cX9_lay 14 = .ok (.iload_n 1, 1) := by decide +kernel
theorem dX9_lay_15 : decode cX9_lay 15 = .ok (.imul, 1) := by decide +kernel
theorem dX9_lay_16 : decode cX9_lay 16 = .ok (.aload_n 0, 1) := by decide +kernel
theorem dX9_lay_17 : decode cX9_lay 17 = .ok (.getfield 44, 3) := by decide +kernel
theorem dX9_lay_20 : decode cX9_lay 20 = .ok (.iload_n 1, 1) := by decide +kernel
theorem dX9_lay_21 : decode cX9_lay 21 = .ok (.iaload, 1) := by decide +kernel
theorem dX9_lay_22 : decode cX9_lay 22 = .ok (.iadd, 1) := by decide +kernel
theorem dX9_lay_23 : decode cX9_lay 23 = .ok (.istore_n 2, 1) := by decide +kernel
theorem dX9_lay_24 : decode cX9_lay 24 = .ok (.aload_n 0, 1) := by decide +kernel
theorem dX9_lay_25 : decode cX9_lay 25 = .ok (.getfield 50, 3) := by decide +kernel
theorem dX9_lay_28 : decode cX9_lay 28 = .ok (.iload_n 2, 1) := by decide +kernel
theorem dX9_lay_29 : decode cX9_lay 29 = .ok (.aload_n 0, 1) := by decide +kernel
theorem dX9_lay_30 : decode cX9_lay 30 = .ok (.getfield 134, 3) := by decide +kernel
theorem dX9_lay_33 : decode cX9_lay 33 = .ok (.iastore, 1) := by decide +kernel
theorem dX9_lay_34 : decode cX9_lay 34 = .ok (.iconst 0, 1) := by decide +kernel
theorem dX9_lay_35 : decode cX9_lay 35 = .ok (.istore_n 3, 1) := by decide +kernel
theorem dX9_lay_36 : decode cX9_lay 36 = .ok (.iload_n 3, 1) := by decide +kernel
theorem dX9_lay_37 : decode cX9_lay 37 = .ok (.bipush 38, 2) := by decide +kernel
theorem dX9_lay_39 : decode cX9_lay 39 = .ok (.if_icmp .ge 38, 3) := by decide +kernel
theorem dX9_lay_42 : decode cX9_lay 42 = .ok (.aload_n 0, 1) := by decide +kernel
theorem dX9_lay_43 : decode cX9_lay 43 = .ok (.getfield 47, 3) := by decide +kernel
theorem dX9_lay_46 : decode cX9_lay 46 = .ok (.bipush 38, 2) := by decide +kernel
theorem dX9_lay_48 : decode cX9_lay 48 = .ok (.iload_n 2, 1) := by decide +kernel
theorem dX9_lay_49 : decode cX9_lay 49 = .ok (.imul, 1) := by decide +kernel
theorem dX9_lay_50 : decode cX9_lay 50 = .ok (.iload_n 3, 1) := by decide +kernel
theorem dX9_lay_51 : decode cX9_lay 51 = .ok (.iadd, 1) := by decide +kernel
theorem dX9_lay_52 : decode cX9_lay 52 = .ok (.iload_n 3, 1) := by decide +kernel
theorem dX9_lay_53 : decode cX9_lay 53 = .ok (.aload_n 0, 1) := by decide +kernel
theorem dX9_lay_54 : decode cX9_lay 54 = .ok (.getfield 134, 3) := by decide +kernel
theorem dX9_lay_57 : decode cX9_lay 57 = .ok (.if_icmp .ge 12, 3) := by decide +kernel
theorem dX9_lay_60 : decode cX9_lay 60 = .ok (.aload_n 0, 1) := by decide +kernel
theorem dX9_lay_61 : decode cX9_lay 61 = .ok (.getfield 53, 3) := by decide +kernel
theorem dX9_lay_64 : decode cX9_lay 64 = .ok (.iload_n 3, 1) := by decide +kernel
theorem dX9_lay_65 : decode cX9_lay 65 = .ok (.iaload, 1) := by decide +kernel
theorem dX9_lay_66 : decode cX9_lay 66 = .ok (.goto 4, 3) := by decide +kernel
theorem dX9_lay_69 : decode cX9_lay 69 = .ok (.iconst 0, 1) := by decide +kernel
theorem dX9_lay_70 : decode cX9_lay 70 = .ok (.iastore, 1) := by decide +kernel
theorem dX9_lay_71 : decode cX9_lay 71 = .ok (.iinc 3 1, 3) := by decide +kernel
theorem dX9_lay_74 : decode cX9_lay 74 = .ok (.goto (-38), 3) := by decide +kernel
theorem dX9_lay_77 : decode cX9_lay 77 = .ok (.aload_n 0, 1) := by decide +kernel
theorem dX9_lay_78 : decode cX9_lay 78 = .ok (.getfield 44, 3) := by decide +kernel
theorem dX9_lay_81 : decode cX9_lay 81 = .ok (.iload_n 1, 1) := by decide +kernel
theorem dX9_lay_82 : decode cX9_lay 82 = .ok (.dup2, 1) := by decide +kernel
theorem dX9_lay_83 : decode cX9_lay 83 = .ok (.iaload, 1) := by decide +kernel
theorem dX9_lay_84 : decode cX9_lay 84 = .ok (.iconst 1, 1) := by decide +kernel
theorem dX9_lay_85 : decode cX9_lay 85 = .ok (.iadd, 1) := by decide +kernel
theorem dX9_lay_86 : decode cX9_lay 86 = .ok (.iastore, 1) := by decide +kernel
theorem dX9_lay_87 : decode cX9_lay 87 = .ok (.return_, 1) := by decide +kernel
theorem dX9_control_0 : decode cX9_control 0 = .ok (.aload_n 0, 1) := by decide +kernel
theorem dX9_control_1 : decode cX9_control 1 = .ok (.bipush 9, 2) := by decide +kernel
theorem dX9_control_3 : decode cX9_control 3 = .ok (.bipush 8, 2) := by decide +kernel
theorem dX9_control_5 : decode cX9_control 5 = .ok (.iload_n 2, 1) := by decide +kernel
theorem dX9_control_6 : decode cX9_control 6 = .ok (.imul, 1) := by decide +kernel
theorem dX9_control_7 : decode cX9_control 7 = .ok (.iload_n 3, 1) := by decide +kernel
theorem dX9_control_8 : decode cX9_control 8 = .ok (.iadd, 1) := by decide +kernel
theorem dX9_control_9 : decode cX9_control 9 = .ok (.invokevirtual 137, 3) := by decide +kernel
theorem dX9_control_12 : decode cX9_control 12 = .ok (.aload_n 0, 1) := by decide +kernel
theorem dX9_control_13 : decode cX9_control 13 = .ok (.iload_n 1, 1) := by decide +kernel
theorem dX9_control_14 : decode cX9_control 14 = .ok (.invokevirtual 141, 3) := by decide +kernel
theorem dX9_control_17 : decode cX9_control 17 = .ok (.return_, 1) := by decide +kernel
theorem dX9_data_0 : decode cX9_data 0 = .ok (.iconst 0, 1) := by decide +kernel
theorem dX9_data_1 : decode cX9_data 1 = .ok (.istore_n 3, 1) := by decide +kernel
theorem dX9_data_2 : decode cX9_data 2 = .ok (.iload_n 3, 1) := by decide +kernel
theorem dX9_data_3 : decode cX9_data 3 = .ok (.bipush 32, 2) := by decide +kernel
theorem dX9_data_5 : decode cX9_data 5 = .ok (.if_icmp .ge 34, 3) := by decide +kernel
theorem dX9_data_8 : decode cX9_data 8 = .ok (.aload_n 0, 1) := by decide +kernel
theorem dX9_data_9 : decode cX9_data 9 = .ok (.getfield 53, 3) := by decide +kernel
theorem dX9_data_12 : decode cX9_data 12 = .ok (.bipush 6, 2) := by decide +kernel
theorem dX9_data_14 : decode cX9_data 14 = .ok (.iload_n 3, 1) := by decide +kernel
theorem dX9_data_15 : decode cX9_data 15 = .ok (.iadd, 1) := by decide +kernel
theorem dX9_data_16 : decode cX9_data 16 = .ok (.aload_n 0, 1) := by decide +kernel
theorem dX9_data_17 : decode cX9_data 17 = .ok (.getfield 81, 3) := by decide +kernel
theorem dX9_data_20 : decode cX9_data 20 = .ok (.bipush 96, 2) := by decide +kernel
theorem dX9_data_22 : decode cX9_data 22 = .ok (.iload_n 1, 1) := by decide +kernel
theorem dX9_data_23 : decode cX9_data 23 = .ok (.imul, 1) := by decide +kernel
theorem dX9_data_24 : decode cX9_data 24 = .ok (.bipush 32, 2) := by decide +kernel
theorem dX9_data_26 : decode cX9_data 26 = .ok (.iload_n 2, 1) := by decide +kernel
theorem dX9_data_27 : decode cX9_data 27 = .ok (.imul, 1) := by decide +kernel
theorem dX9_data_28 : decode cX9_data 28 = .ok (.iadd, 1) := by decide +kernel
theorem dX9_data_29 : decode cX9_data 29 = .ok (.iload_n 3, 1) := by decide +kernel
theorem dX9_data_30 : decode cX9_data 30 = .ok (.iadd, 1) := by decide +kernel
theorem dX9_data_31 : decode cX9_data 31 = .ok (.iaload, 1) := by decide +kernel
theorem dX9_data_32 : decode cX9_data 32 = .ok (.iastore, 1) := by decide +kernel
theorem dX9_data_33 : decode cX9_data 33 = .ok (.iinc 3 1, 3) := by decide +kernel
theorem dX9_data_36 : decode cX9_data 36 = .ok (.goto (-34), 3) := by decide +kernel
theorem dX9_data_39 : decode cX9_data 39 = .ok (.aload_n 0, 1) := by decide +kernel
theorem dX9_data_40 : decode cX9_data 40 = .ok (.iconst 1, 1) := by decide +kernel
theorem dX9_data_41 : decode cX9_data 41 = .ok (.sipush 128, 3) := by decide +kernel
theorem dX9_data_44 : decode cX9_data 44 = .ok (.bipush 8, 2) := by decide +kernel
theorem dX9_data_46 : decode cX9_data 46 = .ok (.aload_n 0, 1) := by decide +kernel
theorem dX9_data_47 : decode cX9_data 47 = .ok (.getfield 78, 3) := by decide +kernel
theorem dX9_data_50 : decode cX9_data 50 = .ok (.iconst 3, 1) := by decide +kernel
theorem dX9_data_51 : decode cX9_data 51 = .ok (.iload_n 1, 1) := by decide +kernel
theorem dX9_data_52 : decode cX9_data 52 = .ok (.imul, 1) := by decide +kernel
theorem dX9_data_53 : decode cX9_data 53 = .ok (.iload_n 2, 1) := by decide +kernel
theorem dX9_data_54 : decode cX9_data 54 = .ok (.iadd, 1) := by decide +kernel
theorem dX9_data_55 : decode cX9_data 55 = .ok (.iaload, 1) := by decide +kernel
theorem dX9_data_56 : decode cX9_data 56 = .ok (.imul, 1) := by decide +kernel
theorem dX9_data_57 : decode cX9_data 57 = .ok (.iadd, 1) := by decide +kernel
theorem dX9_data_58 : decode cX9_data 58 = .ok (.aload_n 0, 1) := by decide +kernel
theorem dX9_data_59 : decode cX9_data 59 = .ok (.getfield 69, 3) := by decide +kernel
theorem dX9_data_62 : decode cX9_data 62 = .ok (.iload_n 1, 1) := by decide +kernel
theorem dX9_data_63 : decode cX9_data 63 = .ok (.iaload, 1) := by decide +kernel
theorem dX9_data_64 : decode cX9_data 64 = .ok (.iadd, 1) := by decide +kernel
theorem dX9_data_65 : decode cX9_data 65 = .ok (.invokevirtual 137, 3) := by decide +kernel
theorem dX9_data_68 : decode cX9_data 68 = .ok (.aload_n 0, 1) := by decide +kernel
theorem dX9_data_69 : decode cX9_data 69 = .ok (.iload_n 1, 1) := by decide +kernel
theorem dX9_data_70 : decode cX9_data 70 = .ok (.invokevirtual 141, 3) := by decide +kernel
theorem dX9_data_73 : decode cX9_data 73 = .ok (.return_, 1) := by decide +kernel
theorem dX9_isGood_0 : decode cX9_isGood 0 = .ok (.aload_n 0, 1) := by decide +kernel
theorem dX9_isGood_1 : decode cX9_isGood 1 = .ok (.getfield 53, 3) := by decide +kernel
theorem dX9_isGood_4 : decode cX9_isGood 4 = .ok (.iconst 1, 1) := by decide +kernel
theorem dX9_isGood_5 : decode cX9_isGood 5 = .ok (.iaload, 1) := by decide +kernel
theorem dX9_isGood_6 : decode cX9_isGood 6 = .ok (.istore_n 1, 1) := by decide +kernel
theorem dX9_isGood_7 : decode cX9_isGood 7 = .ok (.aload_n 0, 1) := by decide +kernel
theorem dX9_isGood_8 : decode cX9_isGood 8 = .ok (.getfield 53, 3) := by decide +kernel
theorem dX9_isGood_11 : decode cX9_isGood 11 = .ok (.iconst 4, 1) := by decide +kernel
theorem dX9_isGood_12 : decode cX9_isGood 12 = .ok (.iaload, 1) := by decide +kernel
theorem dX9_isGood_13 : decode cX9_isGood 13 = .ok (.istore_n 2, 1) := by decide +kernel
theorem dX9_isGood_14 : decode cX9_isGood 14 = .ok (.aload_n 0, 1) := by decide +kernel
theorem dX9_isGood_15 : decode cX9_isGood 15 = .ok (.getfield 53, 3) := by decide +kernel
theorem dX9_isGood_18 : decode cX9_isGood 18 = .ok (.iconst 0, 1) := by decide +kernel
theorem dX9_isGood_19 : decode cX9_isGood 19 = .ok (.iaload, 1) := by decide +kernel
theorem dX9_isGood_20 : decode cX9_isGood 20 = .ok (.bipush 16, 2) := by decide +kernel
theorem dX9_isGood_22 : decode cX9_isGood 22 = .ok (.if_icmp .ne 60, 3) := by decide +kernel
theorem dX9_isGood_25 : decode cX9_isGood 25 = .ok (.aload_n 0, 1) := by decide +kernel
theorem dX9_isGood_26 : decode cX9_isGood 26 = .ok (.getfield 134, 3) := by decide +kernel
theorem dX9_isGood_29 : decode cX9_isGood 29 = .ok (.iload_n 1, 1) := by decide +kernel
theorem dX9_isGood_30 : decode cX9_isGood 30 = .ok (.bipush 9, 2) := by decide +kernel
theorem dX9_isGood_32 : decode cX9_isGood 32 = .ok (.if_icmp .ne 8, 3) := by decide +kernel
theorem dX9_isGood_35 : decode cX9_isGood 35 = .ok (.bipush 6, 2) := by decide +kernel
theorem dX9_isGood_37 : decode cX9_isGood 37 = .ok (.goto 5, 3) := by decide +kernel
theorem dX9_isGood_40 : decode cX9_isGood 40 = .ok (.bipush 38, 2) := by decide +kernel
theorem dX9_isGood_42 : decode cX9_isGood 42 = .ok (.if_icmp .ne 40, 3) := by decide +kernel
theorem dX9_isGood_45 : decode cX9_isGood 45 = .ok (.iload_n 1, 1) := by decide +kernel
theorem dX9_isGood_46 : decode cX9_isGood 46 = .ok (.bipush 9, 2) := by decide +kernel
theorem dX9_isGood_48 : decode cX9_isGood 48 = .ok (.if_icmp .eq 8, 3) := by decide +kernel
theorem dX9_isGood_51 : decode cX9_isGood 51 = .ok (.iload_n 1, 1) := by decide +kernel
theorem dX9_isGood_52 : decode cX9_isGood 52 = .ok (.iconst 1, 1) := by decide +kernel
theorem dX9_isGood_53 : decode cX9_isGood 53 = .ok (.if_icmp .ne 29, 3) := by decide +kernel
theorem dX9_isGood_56 : decode cX9_isGood 56 = .ok (.aload_n 0, 1) := by decide +kernel
theorem dX9_isGood_57 : decode cX9_isGood 57 = .ok (.getfield 53, 3) := by decide +kernel
theorem dX9_isGood_60 : decode cX9_isGood 60 = .ok (.iconst 5, 1) := by decide +kernel
theorem dX9_isGood_61 : decode cX9_isGood 61 = .ok (.iaload, 1) := by decide +kernel
theorem dX9_isGood_62 : decode cX9_isGood 62 = .ok (.iload_n 1, 1) := by decide +kernel
theorem dX9_isGood_63 : decode cX9_isGood 63 = .ok (.aload_n 0, 1) := by decide +kernel
theorem dX9_isGood_64 : decode cX9_isGood 64 = .ok (.getfield 53, 3) := by decide +kernel
theorem dX9_isGood_67 : decode cX9_isGood 67 = .ok (.iconst 2, 1) := by decide +kernel
theorem dX9_isGood_68 : decode cX9_isGood 68 = .ok (.iaload, 1) := by decide +kernel
theorem dX9_isGood_69 : decode cX9_isGood 69 = .ok (.ixor, 1) := by decide +kernel
theorem dX9_isGood_70 : decode cX9_isGood 70 = .ok (.aload_n 0, 1) := by decide +kernel
theorem dX9_isGood_71 : decode cX9_isGood 71 = .ok (.getfield 53, 3) := by decide +kernel
theorem dX9_isGood_74 : decode cX9_isGood 74 = .ok (.iconst 3, 1) := by decide +kernel
theorem dX9_isGood_75 : decode cX9_isGood 75 = .ok (.iaload, 1) := by decide +kernel
theorem dX9_isGood_76 : decode cX9_isGood 76 = .ok (.ixor, 1) := by decide +kernel
theorem dX9_isGood_77 : decode cX9_isGood 77 = .ok (.iload_n 2, 1) := by decide +kernel
theorem dX9_isGood_78 : decode cX9_isGood 78 = .ok (.ixor, 1) := by decide +kernel
theorem dX9_isGood_79 : decode cX9_isGood 79 = .ok (.if_icmp .eq 5, 3) := by decide +kernel
theorem dX9_isGood_82 : decode cX9_isGood 82 = .ok (.iconst 0, 1) := by decide +kernel
theorem dX9_isGood_83 : decode cX9_isGood 83 = .ok (.ireturn, 1) := by decide +kernel
theorem dX9_isGood_84 : decode cX9_isGood 84 = .ok (.aload_n 0, 1) := by decide +kernel
theorem dX9_isGood_85 : decode cX9_isGood 85 = .ok (.getfield 53, 3) := by decide +kernel
theorem dX9_isGood_88 : decode cX9_isGood 88 = .ok (.iconst 2, 1) := by decide +kernel
theorem dX9_isGood_89 : decode cX9_isGood 89 = .ok (.iaload, 1) := by decide +kernel
theorem dX9_isGood_90 : decode cX9_isGood 90 = .ok (.aload_n 0, 1) := by decide +kernel
theorem dX9_isGood_91 : decode cX9_isGood 91 = .ok (.getfield 53, 3) := by decide +kernel
theorem dX9_isGood_94 : decode cX9_isGood 94 = .ok (.iconst 3, 1) := by decide +kernel
theorem dX9_isGood_95 : decode cX9_isGood 95 = .ok (.iaload, 1) := by decide +kernel
theorem dX9_isGood_96 : decode cX9_isGood 96 = .ok (.bipush 8, 2) := by decide +kernel
theorem dX9_isGood_98 : decode cX9_isGood 98 = .ok (.ishl, 1) := by decide +kernel
theorem dX9_isGood_99 : decode cX9_isGood 99 = .ok (.ior, 1) := by decide +kernel
theorem dX9_isGood_100 : decode cX9_isGood 100 = .ok (.istore_n 3, 1) := by decide +kernel
theorem dX9_isGood_101 : decode cX9_isGood 101 = .ok (.iload_n 2, 1) := by decide +kernel
theorem dX9_isGood_102 : decode cX9_isGood 102 = .ok (.iconst 3, 1) := by decide +kernel
theorem dX9_isGood_103 : decode cX9_isGood 103 = .ok (.ishr, 1) := by decide +kernel
theorem dX9_isGood_104 : decode cX9_isGood 104 = .ok (.bipush 7, 2) := by decide +kernel
theorem dX9_isGood_106 : decode cX9_isGood 106 = .ok (.iand, 1) := by decide +kernel
theorem dX9_isGood_107 : decode cX9_isGood 107 = .ok (.istore 4, 2) := by decide +kernel
theorem dX9_isGood_109 : decode cX9_isGood 109 = .ok (.iload_n 1, 1) := by decide +kernel
theorem dX9_isGood_110 : decode cX9_isGood 110 = .ok (.bipush 9, 2) := by decide +kernel
theorem dX9_isGood_112 : decode cX9_isGood 112 = .ok (.if_icmp .ne 57, 3) := by decide +kernel
theorem dX9_isGood_115 : decode cX9_isGood 115 = .ok (.iload_n 2, 1) := by decide +kernel
theorem dX9_isGood_116 : decode cX9_isGood 116 = .ok (.bipush 64, 2) := by decide +kernel
theorem dX9_isGood_118 : decode cX9_isGood 118 = .ok (.if_icmp .ge 49, 3) := by decide +kernel
theorem dX9_isGood_121 : decode cX9_isGood 121 = .ok (.iload 4, 2) := by decide +kernel
theorem dX9_isGood_123 : decode cX9_isGood 123 = .ok (.iconst 1, 1) := by decide +kernel
theorem dX9_isGood_124 : decode cX9_isGood 124 = .ok (.if_icmp .eq 28, 3) := by decide +kernel
theorem dX9_isGood_127 : decode cX9_isGood 127 = .ok (.iload 4, 2) := by decide +kernel
theorem dX9_isGood_129 : decode cX9_isGood 129 = .ok (.iconst 2, 1) := by decide +kernel
theorem dX9_isGood_130 : decode cX9_isGood 130 = .ok (.if_icmp .eq 22, 3) := by decide +kernel
theorem dX9_isGood_133 : decode cX9_isGood 133 = .ok (.iload 4, 2) := by decide +kernel
theorem dX9_isGood_135 : decode cX9_isGood 135 = .ok (.iconst 4, 1) := by decide +kernel
theorem dX9_isGood_136 : decode cX9_isGood 136 = .ok (.if_icmp .eq 16, 3) := by decide +kernel
theorem dX9_isGood_139 : decode cX9_isGood 139 = .ok (.iload 4, 2) := by decide +kernel
theorem dX9_isGood_141 : decode cX9_isGood 141 = .ok (.iconst 5, 1) := by decide +kernel
theorem dX9_isGood_142 : decode cX9_isGood 142 = .ok (.if_icmp .eq 10, 3) := by decide +kernel
theorem dX9_isGood_145 : decode cX9_isGood 145 = .ok (.iload 4, 2) := by decide +kernel
theorem dX9_isGood_147 : decode cX9_isGood 147 = .ok (.bipush 7, 2) := by decide +kernel
theorem dX9_isGood_149 : decode cX9_isGood 149 = .ok (.if_icmp .ne 18, 3) := by decide +kernel
theorem dX9_isGood_152 : decode cX9_isGood 152 = .ok (.iload_n 3, 1) := by decide +kernel
theorem dX9_isGood_153 : decode cX9_isGood 153 = .ok (.ldc 130, 2) := by decide +kernel
theorem dX9_isGood_155 : decode cX9_isGood 155 = .ok (.iload_n 2, 1) := by decide +kernel
theorem dX9_isGood_156 : decode cX9_isGood 156 = .ok (.isub, 1) := by decide +kernel
theorem dX9_isGood_157 : decode cX9_isGood 157 = .ok (.ldc 125, 2) := by decide +kernel
theorem dX9_isGood_159 : decode cX9_isGood 159 = .ok (.iand, 1) := by decide +kernel
theorem dX9_isGood_160 : decode cX9_isGood 160 = .ok (.if_icmp .ne 7, 3) := by decide +kernel
theorem dX9_isGood_163 : decode cX9_isGood 163 = .ok (.iconst 1, 1) := by decide +kernel
theorem dX9_isGood_164 : decode cX9_isGood 164 = .ok (.goto 4, 3) := by decide +kernel
theorem dX9_isGood_167 : decode cX9_isGood 167 = .ok (.iconst 0, 1) := by decide +kernel
theorem dX9_isGood_168 : decode cX9_isGood 168 = .ok (.ireturn, 1) := by decide +kernel
theorem dX9_isGood_169 : decode cX9_isGood 169 = .ok (.aload_n 0, 1) := by decide +kernel
theorem dX9_isGood_170 : decode cX9_isGood 170 = .ok (.getfield 53, 3) := by decide +kernel
theorem dX9_isGood_173 : decode cX9_isGood 173 = .ok (.bipush 6, 2) := by decide +kernel
theorem dX9_isGood_175 : decode cX9_isGood 175 = .ok (.iaload, 1) := by decide +kernel
theorem dX9_isGood_176 : decode cX9_isGood 176 = .ok (.istore 5, 2) := by decide +kernel
theorem dX9_isGood_178 : decode cX9_isGood 178 = .ok (.iload_n 2, 1) := by decide +kernel
theorem dX9_isGood_179 : decode cX9_isGood 179 = .ok (.bipush 6, 2) := by decide +kernel
theorem dX9_isGood_181 : decode cX9_isGood 181 = .ok (.ishr, 1) := by decide +kernel
theorem dX9_isGood_182 : decode cX9_isGood 182 = .ok (.iconst 2, 1) := by decide +kernel
theorem dX9_isGood_183 : decode cX9_isGood 183 = .ok (.if_icmp .ne 38, 3) := by decide +kernel
theorem dX9_isGood_186 : decode cX9_isGood 186 = .ok (.iload_n 3, 1) := by decide +kernel
theorem dX9_isGood_187 : decode cX9_isGood 187 = .ok (.ldc 130, 2) := by decide +kernel
theorem dX9_isGood_189 : decode cX9_isGood 189 = .ok (.aload_n 0, 1) := by decide +kernel
theorem dX9_isGood_190 : decode cX9_isGood 190 = .ok (.bipush 6, 2) := by decide +kernel
theorem dX9_isGood_192 : decode cX9_isGood 192 = .ok (.invokevirtual 131, 3) := by decide +kernel
theorem dX9_isGood_195 : decode cX9_isGood 195 = .ok (.iload_n 2, 1) := by decide +kernel
theorem dX9_isGood_196 : decode cX9_isGood 196 = .ok (.ixor, 1) := by decide +kernel
theorem dX9_isGood_197 : decode cX9_isGood 197 = .ok (.isub, 1) := by decide +kernel
theorem dX9_isGood_198 : decode cX9_isGood 198 = .ok (.ldc 125, 2) := by decide +kernel
theorem dX9_isGood_200 : decode cX9_isGood 200 = .ok (.iand, 1) := by decide +kernel
theorem dX9_isGood_201 : decode cX9_isGood 201 = .ok (.if_icmp .ne 20, 3) := by decide +kernel
theorem dX9_isGood_204 : decode cX9_isGood 204 = .ok (.iload 5, 2) := by decide +kernel
theorem dX9_isGood_206 : decode cX9_isGood 206 = .ok (.iconst 1, 1) := by decide +kernel
theorem dX9_isGood_207 : decode cX9_isGood 207 = .ok (.if_icmp .lt 14, 3) := by decide +kernel
