theorem dX9_isGood_210 : decode cX9_isGood 210 = .ok (.iload 5, 2) := by decide +kernel
theorem dX9_isGood_212 : decode cX9_isGood 212 = .ok (.bipush 31, 2) := by decide +kernel
theorem dX9_isGood_214 : decode cX9_isGood 214 = .ok (.if_icmp .gt 7, 3) := by decide +kernel
theorem dX9_isGood_217 : decode cX9_isGood 217 = .ok (.iconst 1, 1) := by decide +kernel
theorem dX9_isGood_218 : decode cX9_isGood 218 = .ok (.goto 4, 3) := by decide +kernel
theorem dX9_isGood_221 : decode cX9_isGood 221 = .ok (.iconst 0, 1) := by decide +kernel
theorem dX9_isGood_222 : decode cX9_isGood 222 = .ok (.istore 6, 2) := by decide +kernel
theorem dX9_isGood_224 : decode cX9_isGood 224 = .ok (.bipush 7, 2) := by decide +kernel
theorem dX9_isGood_226 : decode cX9_isGood 226 = .ok (.iload 5, 2) := by decide +kernel
theorem dX9_isGood_228 : decode cX9_isGood 228 = .ok (.iadd, 1) := by decide +kernel
theorem dX9_isGood_229 : decode cX9_isGood 229 = .ok (.istore 7, 2) := by decide +kernel
theorem dX9_isGood_231 : decode cX9_isGood 231 = .ok (.iload 7, 2) := by decide +kernel
theorem dX9_isGood_233 : decode cX9_isGood 233 = .ok (.bipush 38, 2) := by decide +kernel
theorem dX9_isGood_235 : decode cX9_isGood 235 = .ok (.if_icmp .ge 31, 3) := by decide +kernel
theorem dX9_isGood_238 : decode cX9_isGood 238 = .ok (.iload 6, 2) := by decide +kernel
theorem dX9_isGood_240 : decode cX9_isGood 240 = .ok (.ifCond .eq 26, 3) := by decide +kernel
theorem dX9_isGood_243 : decode cX9_isGood 243 = .ok (.aload_n 0, 1) := by decide +kernel
theorem dX9_isGood_244 : decode cX9_isGood 244 = .ok (.getfield 53, 3) := by decide +kernel
theorem dX9_isGood_247 : decode cX9_isGood 247 = .ok (.iload 7, 2) := by decide +kernel
theorem dX9_isGood_249 : decode cX9_isGood 249 = .ok (.iaload, 1) := by decide +kernel
theorem dX9_isGood_250 : decode cX9_isGood 250 = .ok (.ifCond .ne 7, 3) := by decide +kernel
theorem dX9_isGood_253 : decode cX9_isGood 253 = .ok (.iconst 1, 1) := by decide +kernel
theorem dX9_isGood_254 : decode cX9_isGood 254 = .ok (.goto 4, 3) := by decide +kernel
theorem dX9_isGood_257 : decode cX9_isGood 257 = .ok (.iconst 0, 1) := by decide +kernel
theorem dX9_isGood_258 : decode cX9_isGood 258 = .ok (.istore 6, 2) := by decide +kernel
theorem dX9_isGood_260 : decode cX9_isGood 260 = .ok (.iinc 7 1, 3) := by decide +kernel
theorem dX9_isGood_263 : decode cX9_isGood 263 = .ok (.goto (-32), 3) := by decide +kernel
theorem dX9_isGood_266 : decode cX9_isGood 266 = .ok (.iload 6, 2) := by decide +kernel
theorem dX9_isGood_268 : decode cX9_isGood 268 = .ok (.ireturn, 1) := by decide +kernel
theorem dX9_forget_0 : decode cX9_forget 0 = .ok (.aload_n 0, 1) := by decide +kernel
theorem dX9_forget_1 : decode cX9_forget 1 = .ok (.getfield 56, 3) := by decide +kernel
theorem dX9_forget_4 : decode cX9_forget 4 = .ok (.iload_n 1, 1) := by decide +kernel
theorem dX9_forget_5 : decode cX9_forget 5 = .ok (.iload_n 2, 1) := by decide +kernel
theorem dX9_forget_6 : decode cX9_forget 6 = .ok (.iastore, 1) := by decide +kernel
theorem dX9_forget_7 : decode cX9_forget 7 = .ok (.aload_n 0, 1) := by decide +kernel
theorem dX9_forget_8 : decode cX9_forget 8 = .ok (.getfield 59, 3) := by decide +kernel
theorem dX9_forget_11 : decode cX9_forget 11 = .ok (.iload_n 1, 1) := by decide +kernel
theorem dX9_forget_12 : decode cX9_forget 12 = .ok (.iconst 0, 1) := by decide +kernel
theorem dX9_forget_13 : decode cX9_forget 13 = .ok (.bastore, 1) := by decide +kernel
theorem dX9_forget_14 : decode cX9_forget 14 = .ok (.aload_n 0, 1) := by decide +kernel
theorem dX9_forget_15 : decode cX9_forget 15 = .ok (.getfield 66, 3) := by decide +kernel
theorem dX9_forget_18 : decode cX9_forget 18 = .ok (.iload_n 1, 1) := by decide +kernel
theorem dX9_forget_19 : decode cX9_forget 19 = .ok (.iconst 0, 1) := by decide +kernel
theorem dX9_forget_20 : decode cX9_forget 20 = .ok (.bastore, 1) := by decide +kernel
theorem dX9_forget_21 : decode cX9_forget 21 = .ok (.aload_n 0, 1) := by decide +kernel
theorem dX9_forget_22 : decode cX9_forget 22 = .ok (.getfield 69, 3) := by decide +kernel
theorem dX9_forget_25 : decode cX9_forget 25 = .ok (.iload_n 1, 1) := by decide +kernel
theorem dX9_forget_26 : decode cX9_forget 26 = .ok (.iconst 0, 1) := by decide +kernel
theorem dX9_forget_27 : decode cX9_forget 27 = .ok (.iastore, 1) := by decide +kernel
theorem dX9_forget_28 : decode cX9_forget 28 = .ok (.aload_n 0, 1) := by decide +kernel
theorem dX9_forget_29 : decode cX9_forget 29 = .ok (.getfield 72, 3) := by decide +kernel
theorem dX9_forget_32 : decode cX9_forget 32 = .ok (.iload_n 1, 1) := by decide +kernel
theorem dX9_forget_33 : decode cX9_forget 33 = .ok (.iconst 0, 1) := by decide +kernel
theorem dX9_forget_34 : decode cX9_forget 34 = .ok (.iastore, 1) := by decide +kernel
theorem dX9_forget_35 : decode cX9_forget 35 = .ok (.aload_n 0, 1) := by decide +kernel
theorem dX9_forget_36 : decode cX9_forget 36 = .ok (.getfield 75, 3) := by decide +kernel
theorem dX9_forget_39 : decode cX9_forget 39 = .ok (.iload_n 1, 1) := by decide +kernel
theorem dX9_forget_40 : decode cX9_forget 40 = .ok (.iconst 0, 1) := by decide +kernel
theorem dX9_forget_41 : decode cX9_forget 41 = .ok (.iastore, 1) := by decide +kernel
theorem dX9_forget_42 : decode cX9_forget 42 = .ok (.aload_n 0, 1) := by decide +kernel
theorem dX9_forget_43 : decode cX9_forget 43 = .ok (.getfield 84, 3) := by decide +kernel
theorem dX9_forget_46 : decode cX9_forget 46 = .ok (.iload_n 1, 1) := by decide +kernel
theorem dX9_forget_47 : decode cX9_forget 47 = .ok (.iconst 0, 1) := by decide +kernel
theorem dX9_forget_48 : decode cX9_forget 48 = .ok (.iastore, 1) := by decide +kernel
theorem dX9_forget_49 : decode cX9_forget 49 = .ok (.aload_n 0, 1) := by decide +kernel
theorem dX9_forget_50 : decode cX9_forget 50 = .ok (.getfield 90, 3) := by decide +kernel
theorem dX9_forget_53 : decode cX9_forget 53 = .ok (.iload_n 1, 1) := by decide +kernel
theorem dX9_forget_54 : decode cX9_forget 54 = .ok (.iconst 0, 1) := by decide +kernel
theorem dX9_forget_55 : decode cX9_forget 55 = .ok (.bastore, 1) := by decide +kernel
theorem dX9_forget_56 : decode cX9_forget 56 = .ok (.aload_n 0, 1) := by decide +kernel
theorem dX9_forget_57 : decode cX9_forget 57 = .ok (.getfield 105, 3) := by decide +kernel
theorem dX9_forget_60 : decode cX9_forget 60 = .ok (.iload_n 1, 1) := by decide +kernel
theorem dX9_forget_61 : decode cX9_forget 61 = .ok (.iconst 0, 1) := by decide +kernel
theorem dX9_forget_62 : decode cX9_forget 62 = .ok (.iastore, 1) := by decide +kernel
theorem dX9_forget_63 : decode cX9_forget 63 = .ok (.aload_n 0, 1) := by decide +kernel
theorem dX9_forget_64 : decode cX9_forget 64 = .ok (.getfield 108, 3) := by decide +kernel
theorem dX9_forget_67 : decode cX9_forget 67 = .ok (.iload_n 1, 1) := by decide +kernel
theorem dX9_forget_68 : decode cX9_forget 68 = .ok (.iconst 0, 1) := by decide +kernel
theorem dX9_forget_69 : decode cX9_forget 69 = .ok (.iastore, 1) := by decide +kernel
theorem dX9_forget_70 : decode cX9_forget 70 = .ok (.return_, 1) := by decide +kernel
theorem dX9_flow_0 : decode cX9_flow 0 = .ok (.aload_n 0, 1) := by decide +kernel
theorem dX9_flow_1 : decode cX9_flow 1 = .ok (.getfield 84, 3) := by decide +kernel
theorem dX9_flow_4 : decode cX9_flow 4 = .ok (.iload_n 1, 1) := by decide +kernel
theorem dX9_flow_5 : decode cX9_flow 5 = .ok (.iaload, 1) := by decide +kernel
theorem dX9_flow_6 : decode cX9_flow 6 = .ok (.ifCond .le 198, 3) := by decide +kernel
theorem dX9_flow_9 : decode cX9_flow 9 = .ok (.aload_n 0, 1) := by decide +kernel
theorem dX9_flow_10 : decode cX9_flow 10 = .ok (.getfield 75, 3) := by decide +kernel
theorem dX9_flow_13 : decode cX9_flow 13 = .ok (.iload_n 1, 1) := by decide +kernel
theorem dX9_flow_14 : decode cX9_flow 14 = .ok (.iaload, 1) := by decide +kernel
theorem dX9_flow_15 : decode cX9_flow 15 = .ok (.iconst 3, 1) := by decide +kernel
theorem dX9_flow_16 : decode cX9_flow 16 = .ok (.if_icmp .ge 188, 3) := by decide +kernel
theorem dX9_flow_19 : decode cX9_flow 19 = .ok (.aload_n 0, 1) := by decide +kernel
theorem dX9_flow_20 : decode cX9_flow 20 = .ok (.getfield 75, 3) := by decide +kernel
theorem dX9_flow_23 : decode cX9_flow 23 = .ok (.iload_n 1, 1) := by decide +kernel
theorem dX9_flow_24 : decode cX9_flow 24 = .ok (.iaload, 1) := by decide +kernel
theorem dX9_flow_25 : decode cX9_flow 25 = .ok (.ifCond .ne 10, 3) := by decide +kernel
theorem dX9_flow_28 : decode cX9_flow 28 = .ok (.aload_n 0, 1) := by decide +kernel
theorem dX9_flow_29 : decode cX9_flow 29 = .ok (.getfield 105, 3) := by decide +kernel
theorem dX9_flow_32 : decode cX9_flow 32 = .ok (.iload_n 1, 1) := by decide +kernel
theorem dX9_flow_33 : decode cX9_flow 33 = .ok (.iconst 0, 1) := by decide +kernel
theorem dX9_flow_34 : decode cX9_flow 34 = .ok (.iastore, 1) := by decide +kernel
theorem dX9_flow_35 : decode cX9_flow 35 = .ok (.aload_n 0, 1) := by decide +kernel
theorem dX9_flow_36 : decode cX9_flow 36 = .ok (.getfield 72, 3) := by decide +kernel
theorem dX9_flow_39 : decode cX9_flow 39 = .ok (.iload_n 1, 1) := by decide +kernel
theorem dX9_flow_40 : decode cX9_flow 40 = .ok (.aload_n 0, 1) := by decide +kernel
theorem dX9_flow_41 : decode cX9_flow 41 = .ok (.getfield 72, 3) := by decide +kernel
theorem dX9_flow_44 : decode cX9_flow 44 = .ok (.iload_n 1, 1) := by decide +kernel
theorem dX9_flow_45 : decode cX9_flow 45 = .ok (.iaload, 1) := by decide +kernel
theorem dX9_flow_46 : decode cX9_flow 46 = .ok (.iconst 1, 1) := by decide +kernel
theorem dX9_flow_47 : decode cX9_flow 47 = .ok (.iadd, 1) := by decide +kernel
theorem dX9_flow_48 : decode cX9_flow 48 = .ok (.bipush 8, 2) := by decide +kernel
theorem dX9_flow_50 : decode cX9_flow 50 = .ok (.irem, 1) := by decide +kernel
theorem dX9_flow_51 : decode cX9_flow 51 = .ok (.iastore, 1) := by decide +kernel
theorem dX9_flow_52 : decode cX9_flow 52 = .ok (.aload_n 0, 1) := by decide +kernel
theorem dX9_flow_53 : decode cX9_flow 53 = .ok (.getfield 78, 3) := by decide +kernel
theorem dX9_flow_56 : decode cX9_flow 56 = .ok (.iconst 3, 1) := by decide +kernel
theorem dX9_flow_57 : decode cX9_flow 57 = .ok (.iload_n 1, 1) := by decide +kernel
theorem dX9_flow_58 : decode cX9_flow 58 = .ok (.imul, 1) := by decide +kernel
theorem dX9_flow_59 : decode cX9_flow 59 = .ok (.aload_n 0, 1) := by decide +kernel
theorem dX9_flow_60 : decode cX9_flow 60 = .ok (.getfield 75, 3) := by decide +kernel
theorem dX9_flow_63 : decode cX9_flow 63 = .ok (.iload_n 1, 1) := by decide +kernel
theorem dX9_flow_64 : decode cX9_flow 64 = .ok (.iaload, 1) := by decide +kernel
theorem dX9_flow_65 : decode cX9_flow 65 = .ok (.iadd, 1) := by decide +kernel
theorem dX9_flow_66 : decode cX9_flow 66 = .ok (.aload_n 0, 1) := by decide +kernel
theorem dX9_flow_67 : decode cX9_flow 67 = .ok (.getfield 72, 3) := by decide +kernel
theorem dX9_flow_70 : decode cX9_flow 70 = .ok (.iload_n 1, 1) := by decide +kernel
theorem dX9_flow_71 : decode cX9_flow 71 = .ok (.iaload, 1) := by decide +kernel
theorem dX9_flow_72 : decode cX9_flow 72 = .ok (.iastore, 1) := by decide +kernel
theorem dX9_flow_73 : decode cX9_flow 73 = .ok (.iconst 0, 1) := by decide +kernel
theorem dX9_flow_74 : decode cX9_flow 74 = .ok (.istore_n 2, 1) := by decide +kernel
theorem dX9_flow_75 : decode cX9_flow 75 = .ok (.iload_n 2, 1) := by decide +kernel
theorem dX9_flow_76 : decode cX9_flow 76 = .ok (.bipush 32, 2) := by decide +kernel
theorem dX9_flow_78 : decode cX9_flow 78 = .ok (.if_icmp .ge 42, 3) := by decide +kernel
theorem dX9_flow_81 : decode cX9_flow 81 = .ok (.aload_n 0, 1) := by decide +kernel
theorem dX9_flow_82 : decode cX9_flow 82 = .ok (.getfield 81, 3) := by decide +kernel
theorem dX9_flow_85 : decode cX9_flow 85 = .ok (.bipush 96, 2) := by decide +kernel
theorem dX9_flow_87 : decode cX9_flow 87 = .ok (.iload_n 1, 1) := by decide +kernel
theorem dX9_flow_88 : decode cX9_flow 88 = .ok (.imul, 1) := by decide +kernel
theorem dX9_flow_89 : decode cX9_flow 89 = .ok (.bipush 32, 2) := by decide +kernel
theorem dX9_flow_91 : decode cX9_flow 91 = .ok (.aload_n 0, 1) := by decide +kernel
theorem dX9_flow_92 : decode cX9_flow 92 = .ok (.getfield 75, 3) := by decide +kernel
theorem dX9_flow_95 : decode cX9_flow 95 = .ok (.iload_n 1, 1) := by decide +kernel
theorem dX9_flow_96 : decode cX9_flow 96 = .ok (.iaload, 1) := by decide +kernel
theorem dX9_flow_97 : decode cX9_flow 97 = .ok (.imul, 1) := by decide +kernel
theorem dX9_flow_98 : decode cX9_flow 98 = .ok (.iadd, 1) := by decide +kernel
theorem dX9_flow_99 : decode cX9_flow 99 = .ok (.iload_n 2, 1) := by decide +kernel
theorem dX9_flow_100 : decode cX9_flow 100 = .ok (.iadd, 1) := by decide +kernel
theorem dX9_flow_101 : decode cX9_flow 101 = .ok (.aload_n 0, 1) := by decide +kernel
theorem dX9_flow_102 : decode cX9_flow 102 = .ok (.getfield 87, 3) := by decide +kernel
theorem dX9_flow_105 : decode cX9_flow 105 = .ok (.sipush 512, 3) := by decide +kernel
theorem dX9_flow_108 : decode cX9_flow 108 = .ok (.iload_n 1, 1) := by decide +kernel
theorem dX9_flow_109 : decode cX9_flow 109 = .ok (.imul, 1) := by decide +kernel
theorem dX9_flow_110 : decode cX9_flow 110 = .ok (.iload_n 2, 1) := by decide +kernel
theorem dX9_flow_111 : decode cX9_flow 111 = .ok (.iadd, 1) := by decide +kernel
theorem dX9_flow_112 : decode cX9_flow 112 = .ok (.iaload, 1) := by decide +kernel
theorem dX9_flow_113 : decode cX9_flow 113 = .ok (.iastore, 1) := by decide +kernel
theorem dX9_flow_114 : decode cX9_flow 114 = .ok (.iinc 2 1, 3) := by decide +kernel
theorem dX9_flow_117 : decode cX9_flow 117 = .ok (.goto (-42), 3) := by decide +kernel
theorem dX9_flow_120 : decode cX9_flow 120 = .ok (.aload_n 0, 1) := by decide +kernel
theorem dX9_flow_121 : decode cX9_flow 121 = .ok (.getfield 75, 3) := by decide +kernel
theorem dX9_flow_124 : decode cX9_flow 124 = .ok (.iload_n 1, 1) := by decide +kernel
theorem dX9_flow_125 : decode cX9_flow 125 = .ok (.dup2, 1) := by decide +kernel
theorem dX9_flow_126 : decode cX9_flow 126 = .ok (.iaload, 1) := by decide +kernel
theorem dX9_flow_127 : decode cX9_flow 127 = .ok (.iconst 1, 1) := by decide +kernel
theorem dX9_flow_128 : decode cX9_flow 128 = .ok (.iadd, 1) := by decide +kernel
theorem dX9_flow_129 : decode cX9_flow 129 = .ok (.iastore, 1) := by decide +kernel
theorem dX9_flow_130 : decode cX9_flow 130 = .ok (.aload_n 0, 1) := by decide +kernel
theorem dX9_flow_131 : decode cX9_flow 131 = .ok (.getfield 84, 3) := by decide +kernel
theorem dX9_flow_134 : decode cX9_flow 134 = .ok (.iload_n 1, 1) := by decide +kernel
theorem dX9_flow_135 : decode cX9_flow 135 = .ok (.dup2, 1) := by decide +kernel
theorem dX9_flow_136 : decode cX9_flow 136 = .ok (.iaload, 1) := by decide +kernel
theorem dX9_flow_137 : decode cX9_flow 137 = .ok (.iconst 1, 1) := by decide +kernel
theorem dX9_flow_138 : decode cX9_flow 138 = .ok (.isub, 1) := by decide +kernel
theorem dX9_flow_139 : decode cX9_flow 139 = .ok (.iastore, 1) := by decide +kernel
theorem dX9_flow_140 : decode cX9_flow 140 = .ok (.iconst 0, 1) := by decide +kernel
theorem dX9_flow_141 : decode cX9_flow 141 = .ok (.istore_n 2, 1) := by decide +kernel
theorem dX9_flow_142 : decode cX9_flow 142 = .ok (.iload_n 2, 1) := by decide +kernel
theorem dX9_flow_143 : decode cX9_flow 143 = .ok (.bipush 32, 2) := by decide +kernel
theorem dX9_flow_145 : decode cX9_flow 145 = .ok (.aload_n 0, 1) := by decide +kernel
theorem dX9_flow_146 : decode cX9_flow 146 = .ok (.getfield 84, 3) := by decide +kernel
theorem dX9_flow_149 : decode cX9_flow 149 = .ok (.iload_n 1, 1) := by decide +kernel
theorem dX9_flow_150 : decode cX9_flow 150 = .ok (.iaload, 1) := by decide +kernel
theorem dX9_flow_151 : decode cX9_flow 151 = .ok (.imul, 1) := by decide +kernel
theorem dX9_flow_152 : decode cX9_flow 152 = .ok (.if_icmp .ge 36, 3) := by decide +kernel
theorem dX9_flow_155 : decode cX9_flow 155 = .ok (.aload_n 0, 1) := by decide +kernel
theorem dX9_flow_156 : decode cX9_flow 156 = .ok (.getfield 87, 3) := by decide +kernel
theorem dX9_flow_159 : decode cX9_flow 159 = .ok (.sipush 512, 3) := by decide +kernel
theorem dX9_flow_162 : decode cX9_flow 162 = .ok (.iload_n 1, 1) := by decide +kernel
theorem dX9_flow_163 : decode cX9_flow 163 = .ok (.imul, 1) := by decide +kernel
theorem dX9_flow_164 : decode cX9_flow 164 = .ok (.iload_n 2, 1) := by decide +kernel
theorem dX9_flow_165 : decode cX9_flow 165 = .ok (.iadd, 1) := by decide +kernel
theorem dX9_flow_166 : decode cX9_flow 166 = .ok (.aload_n 0, 1) := by decide +kernel
theorem dX9_flow_167 : decode cX9_flow 167 = .ok (.getfield 87, 3) := by decide +kernel
theorem dX9_flow_170 : decode cX9_flow 170 = .ok (.sipush 512, 3) := by decide +kernel
theorem dX9_flow_173 : decode cX9_flow 173 = .ok (.iload_n 1, 1) := by decide +kernel
theorem dX9_flow_174 : decode cX9_flow 174 = .ok (.imul, 1) := by decide +kernel
theorem dX9_flow_175 : decode cX9_flow 175 = .ok (.iload_n 2, 1) := by decide +kernel
theorem dX9_flow_176 : decode cX9_flow 176 = .ok (.iadd, 1) := by decide +kernel
theorem dX9_flow_177 : decode cX9_flow 177 = .ok (.bipush 32, 2) := by decide +kernel
theorem dX9_flow_179 : decode cX9_flow 179 = .ok (.iadd, 1) := by decide +kernel
theorem dX9_flow_180 : decode cX9_flow 180 = .ok (.iaload, 1) := by decide +kernel
theorem dX9_flow_181 : decode cX9_flow 181 = .ok (.iastore, 1) := by decide +kernel
theorem dX9_flow_182 : decode cX9_flow 182 = .ok (.iinc 2 1, 3) := by decide +kernel
theorem dX9_flow_185 : decode cX9_flow 185 = .ok (.goto (-43), 3) := by decide +kernel
theorem dX9_flow_188 : decode cX9_flow 188 = .ok (.aload_n 0, 1) := by decide +kernel
theorem dX9_flow_189 : decode cX9_flow 189 = .ok (.iload_n 1, 1) := by decide +kernel
theorem dX9_flow_190 : decode cX9_flow 190 = .ok (.aload_n 0, 1) := by decide +kernel
theorem dX9_flow_191 : decode cX9_flow 191 = .ok (.getfield 75, 3) := by decide +kernel
theorem dX9_flow_194 : decode cX9_flow 194 = .ok (.iload_n 1, 1) := by decide +kernel
theorem dX9_flow_195 : decode cX9_flow 195 = .ok (.iaload, 1) := by decide +kernel
theorem dX9_flow_196 : decode cX9_flow 196 = .ok (.iconst 1, 1) := by decide +kernel
theorem dX9_flow_197 : decode cX9_flow 197 = .ok (.isub, 1) := by decide +kernel
theorem dX9_flow_198 : decode cX9_flow 198 = .ok (.invokevirtual 145, 3) := by decide +kernel
theorem dX9_flow_201 : decode cX9_flow 201 = .ok (.goto (-201), 3) := by decide +kernel
theorem dX9_flow_204 : decode cX9_flow 204 = .ok (.return_, 1) := by decide +kernel
theorem dX9_begin_0 : decode cX9_begin 0 = .ok (.iconst 0, 1) := by decide +kernel
theorem dX9_begin_1 : decode cX9_begin 1 = .ok (.istore_n 2, 1) := by decide +kernel
theorem dX9_begin_2 : decode cX9_begin 2 = .ok (.iload_n 2, 1) := by decide +kernel
theorem dX9_begin_3 : decode cX9_begin 3 = .ok (.bipush 32, 2) := by decide +kernel
theorem dX9_begin_5 : decode cX9_begin 5 = .ok (.if_icmp .ge 16, 3) := by decide +kernel
theorem dX9_begin_8 : decode cX9_begin 8 = .ok (.aload_n 0, 1) := by decide +kernel
theorem dX9_begin_9 : decode cX9_begin 9 = .ok (.getfield 111, 3) := by decide +kernel
theorem dX9_begin_12 : decode cX9_begin 12 = .ok (.iload_n 2, 1) := by decide +kernel
theorem dX9_begin_13 : decode cX9_begin 13 = .ok (.iconst 0, 1) := by decide +kernel
theorem dX9_begin_14 : decode cX9_begin 14 = .ok (.iastore, 1) := by decide +kernel
theorem dX9_begin_15 : decode cX9_begin 15 = .ok (.iinc 2 1, 3) := by decide +kernel
theorem dX9_begin_18 : decode cX9_begin 18 = .ok (.goto (-16), 3) := by decide +kernel
theorem dX9_begin_21 : decode cX9_begin 21 = .ok (.aload_n 0, 1) := by decide +kernel
theorem dX9_begin_22 : decode cX9_begin 22 = .ok (.getfield 111, 3) := by decide +kernel
theorem dX9_begin_25 : decode cX9_begin 25 = .ok (.iconst 0, 1) := by decide +kernel
theorem dX9_begin_26 : decode cX9_begin 26 = .ok (.iconst 1, 1) := by decide +kernel
theorem dX9_begin_27 : decode cX9_begin 27 = .ok (.iastore, 1) := by decide +kernel
theorem dX9_begin_28 : decode cX9_begin 28 = .ok (.aload_n 0, 1) := by decide +kernel
theorem dX9_begin_29 : decode cX9_begin 29 = .ok (.getfield 111, 3) := by decide +kernel
theorem dX9_begin_32 : decode cX9_begin 32 = .ok (.iconst 1, 1) := by decide +kernel
theorem dX9_begin_33 : decode cX9_begin 33 = .ok (.iload_n 1, 1) := by decide +kernel
theorem dX9_begin_34 : decode cX9_begin 34 = .ok (.iastore, 1) := by decide +kernel
theorem dX9_begin_35 : decode cX9_begin 35 = .ok (.return_, 1) := by decide +kernel
theorem dX9_more_0 : decode cX9_more 0 = .ok (.aload_n 0, 1) := by decide +kernel
theorem dX9_more_1 : decode cX9_more 1 = .ok (.getfield 111, 3) := by decide +kernel
theorem dX9_more_4 : decode cX9_more 4 = .ok (.iconst 0, 1) := by decide +kernel
theorem dX9_more_5 : decode cX9_more 5 = .ok (.dup2, 1) := by decide +kernel
theorem dX9_more_6 : decode cX9_more 6 = .ok (.iaload, 1) := by decide +kernel
theorem dX9_more_7 : decode cX9_more 7 = .ok (.iconst 1, 1) := by decide +kernel
theorem dX9_more_8 : decode cX9_more 8 = .ok (.iadd, 1) := by decide +kernel
theorem dX9_more_9 : decode cX9_more 9 = .ok (.iastore, 1) := by decide +kernel
theorem dX9_more_10 : decode cX9_more 10 = .ok (.aload_n 0, 1) := by decide +kernel
theorem dX9_more_11 : decode cX9_more 11 = .ok (.getfield 111, 3) := by decide +kernel
theorem dX9_more_14 : decode cX9_more 14 = .ok (.aload_n 0, 1) := by decide +kernel
theorem dX9_more_15 : decode cX9_more 15 = .ok (.getfield 111, 3) := by decide +kernel
theorem dX9_more_18 : decode cX9_more 18 = .ok (.iconst 0, 1) := by decide +kernel
theorem dX9_more_19 : decode cX9_more 19 = .ok (.iaload, 1) := by decide +kernel
theorem dX9_more_20 : decode cX9_more 20 = .ok (.iload_n 1, 1) := by decide +kernel
theorem dX9_more_21 : decode cX9_more 21 = .ok (.iastore, 1) := by decide +kernel
theorem dX9_more_22 : decode cX9_more 22 = .ok (.return_, 1) := by decide +kernel
theorem dX9_send_0 : decode cX9_send 0 = .ok (.aload_n 0, 1) := by decide +kernel
theorem dX9_send_1 : decode cX9_send 1 = .ok (.getfield 84, 3) := by decide +kernel
theorem dX9_send_4 : decode cX9_send 4 = .ok (.iload_n 1, 1) := by decide +kernel
theorem dX9_send_5 : decode cX9_send 5 = .ok (.iaload, 1) := by decide +kernel
theorem dX9_send_6 : decode cX9_send 6 = .ok (.bipush 16, 2) := by decide +kernel
theorem dX9_send_8 : decode cX9_send 8 = .ok (.if_icmp .ne 4, 3) := by decide +kernel
theorem dX9_send_11 : decode cX9_send 11 = .ok (.return_, 1) := by decide +kernel
theorem dX9_send_12 : decode cX9_send 12 = .ok (.iconst 0, 1) := by decide +kernel
theorem dX9_send_13 : decode cX9_send 13 = .ok (.istore_n 2, 1) := by decide +kernel
theorem dX9_send_14 : decode cX9_send 14 = .ok (.iload_n 2, 1) := by decide +kernel
theorem dX9_send_15 : decode cX9_send 15 = .ok (.bipush 32, 2) := by decide +kernel
theorem dX9_send_17 : decode cX9_send 17 = .ok (.if_icmp .ge 37, 3) := by decide +kernel
theorem dX9_send_20 : decode cX9_send 20 = .ok (.aload_n 0, 1) := by decide +kernel
theorem dX9_send_21 : decode cX9_send 21 = .ok (.getfield 87, 3) := by decide +kernel
theorem dX9_send_24 : decode cX9_send 24 = .ok (.sipush 512, 3) := by decide +kernel
theorem dX9_send_27 : decode cX9_send 27 = .ok (.iload_n 1, 1) := by decide +kernel
theorem dX9_send_28 : decode cX9_send 28 = .ok (.imul, 1) := by decide +kernel
theorem dX9_send_29 : decode cX9_send 29 = .ok (.bipush 32, 2) := by decide +kernel
theorem dX9_send_31 : decode cX9_send 31 = .ok (.aload_n 0, 1) := by decide +kernel
theorem dX9_send_32 : decode cX9_send 32 = .ok (.getfield 84, 3) := by decide +kernel
theorem dX9_send_35 : decode cX9_send 35 = .ok (.iload_n 1, 1) := by decide +kernel
theorem dX9_send_36 : decode cX9_send 36 = .ok (.iaload, 1) := by decide +kernel
theorem dX9_send_37 : decode cX9_send 37 = .ok (.imul, 1) := by decide +kernel
theorem dX9_send_38 : decode cX9_send 38 = .ok (.iadd, 1) := by decide +kernel
theorem dX9_send_39 : decode cX9_send 39 = .ok (.iload_n 2, 1) := by decide +kernel
theorem dX9_send_40 : decode cX9_send 40 = .ok (.iadd, 1) := by decide +kernel
theorem dX9_send_41 : decode cX9_send 41 = .ok (.aload_n 0, 1) := by decide +kernel
theorem dX9_send_42 : decode cX9_send 42 = .ok (.getfield 111, 3) := by decide +kernel
theorem dX9_send_45 : decode cX9_send 45 = .ok (.iload_n 2, 1) := by decide +kernel
theorem dX9_send_46 : decode cX9_send 46 = .ok (.iaload, 1) := by decide +kernel
theorem dX9_send_47 : decode cX9_send 47 = .ok (.iastore, 1) := by decide +kernel
theorem dX9_send_48 : decode cX9_send 48 = .ok (.iinc 2 1, 3) := by decide +kernel
theorem dX9_send_51 : decode cX9_send 51 = .ok (.goto (-37), 3) := by decide +kernel
theorem dX9_send_54 : decode cX9_send 54 = .ok (.aload_n 0, 1) := by decide +kernel
theorem dX9_send_55 : decode cX9_send 55 = .ok (.getfield 84, 3) := by decide +kernel
theorem dX9_send_58 : decode cX9_send 58 = .ok (.iload_n 1, 1) := by decide +kernel
theorem dX9_send_59 : decode cX9_send 59 = .ok (.dup2, 1) := by decide +kernel
theorem dX9_send_60 : decode cX9_send 60 = .ok (.iaload, 1) := by decide +kernel
theorem dX9_send_61 : decode cX9_send 61 = .ok (.iconst 1, 1) := by decide +kernel
theorem dX9_send_62 : decode cX9_send 62 = .ok (.iadd, 1) := by decide +kernel
theorem dX9_send_63 : decode cX9_send 63 = .ok (.iastore, 1) := by decide +kernel
theorem dX9_send_64 : decode cX9_send 64 = .ok (.aload_n 0, 1) := by decide +kernel
theorem dX9_send_65 : decode cX9_send 65 = .ok (.iload_n 1, 1) := by decide +kernel
theorem dX9_send_66 : decode cX9_send 66 = .ok (.invokevirtual 148, 3) := by decide +kernel
theorem dX9_send_69 : decode cX9_send 69 = .ok (.return_, 1) := by decide +kernel
theorem dX9_say_0 : decode cX9_say 0 = .ok (.aload_n 0, 1) := by decide +kernel
theorem dX9_say_1 : decode cX9_say 1 = .ok (.iload_n 2, 1) := by decide +kernel
theorem dX9_say_2 : decode cX9_say 2 = .ok (.invokevirtual 151, 3) := by decide +kernel
theorem dX9_say_5 : decode cX9_say 5 = .ok (.aload_n 0, 1) := by decide +kernel
theorem dX9_say_6 : decode cX9_say 6 = .ok (.iload_n 1, 1) := by decide +kernel
theorem dX9_say_7 : decode cX9_say 7 = .ok (.invokevirtual 154, 3) := by decide +kernel
theorem dX9_say_10 : decode cX9_say 10 = .ok (.return_, 1) := by decide +kernel
theorem dX9_goOn_0 : decode cX9_goOn 0 = .ok (.aload_n 0, 1) := by decide +kernel
theorem dX9_goOn_1 : decode cX9_goOn 1 = .ok (.getfield 19, 3) := by decide +kernel
theorem dX9_goOn_4 : decode cX9_goOn 4 = .ok (.iload_n 1, 1) := by decide +kernel
theorem dX9_goOn_5 : decode cX9_goOn 5 = .ok (.iaload, 1) := by decide +kernel
theorem dX9_goOn_6 : decode cX9_goOn 6 = .ok (.ifCond .ne 11, 3) := by decide +kernel
theorem dX9_goOn_9 : decode cX9_goOn 9 = .ok (.aload_n 0, 1) := by decide +kernel
theorem dX9_goOn_10 : decode cX9_goOn 10 = .ok (.iload_n 1, 1) := by decide +kernel
theorem dX9_goOn_11 : decode cX9_goOn 11 = .ok (.bipush 72, 2) := by decide +kernel
theorem dX9_goOn_13 : decode cX9_goOn 13 = .ok (.invokevirtual 157, 3) := by decide +kernel
theorem dX9_goOn_16 : decode cX9_goOn 16 = .ok (.return_, 1) := by decide +kernel
theorem dX9_goOn_17 : decode cX9_goOn 17 = .ok (.aload_n 0, 1) := by decide +kernel
theorem dX9_goOn_18 : decode cX9_goOn 18 = .ok (.getfield 22, 3) := by decide +kernel
theorem dX9_goOn_21 : decode cX9_goOn 21 = .ok (.bipush 30, 2) := by decide +kernel
theorem dX9_goOn_23 : decode cX9_goOn 23 = .ok (.iload_n 1, 1) := by decide +kernel
theorem dX9_goOn_24 : decode cX9_goOn 24 = .ok (.imul, 1) := by decide +kernel
theorem dX9_goOn_25 : decode cX9_goOn 25 = .ok (.iaload, 1) := by decide +kernel
theorem dX9_goOn_26 : decode cX9_goOn 26 = .ok (.istore_n 2, 1) := by decide +kernel
theorem dX9_goOn_27 : decode cX9_goOn 27 = .ok (.aload_n 0, 1) := by decide +kernel
theorem dX9_goOn_28 : decode cX9_goOn 28 = .ok (.bipush 83, 2) := by decide +kernel
theorem dX9_goOn_30 : decode cX9_goOn 30 = .ok (.invokevirtual 151, 3) := by decide +kernel
theorem dX9_goOn_33 : decode cX9_goOn 33 = .ok (.aload_n 0, 1) := by decide +kernel
theorem dX9_goOn_34 : decode cX9_goOn 34 = .ok (.iload_n 2, 1) := by decide +kernel
theorem dX9_goOn_35 : decode cX9_goOn 35 = .ok (.invokevirtual 160, 3) := by decide +kernel
theorem dX9_goOn_38 : decode cX9_goOn 38 = .ok (.aload_n 0, 1) := by decide +kernel
theorem dX9_goOn_39 : decode cX9_goOn 39 = .ok (.aload_n 0, 1) := by decide +kernel
theorem dX9_goOn_40 : decode cX9_goOn 40 = .ok (.getfield 13, 3) := by decide +kernel
theorem dX9_goOn_43 : decode cX9_goOn 43 = .ok (.bipush 30, 2) := by decide +kernel
theorem dX9_goOn_45 : decode cX9_goOn 45 = .ok (.iload_n 1, 1) := by decide +kernel
theorem dX9_goOn_46 : decode cX9_goOn 46 = .ok (.imul, 1) := by decide +kernel
theorem dX9_goOn_47 : decode cX9_goOn 47 = .ok (.iload_n 2, 1) := by decide +kernel
theorem dX9_goOn_48 : decode cX9_goOn 48 = .ok (.iadd, 1) := by decide +kernel
theorem dX9_goOn_49 : decode cX9_goOn 49 = .ok (.iaload, 1) := by decide +kernel
theorem dX9_goOn_50 : decode cX9_goOn 50 = .ok (.invokevirtual 160, 3) := by decide +kernel
theorem dX9_goOn_53 : decode cX9_goOn 53 = .ok (.aload_n 0, 1) := by decide +kernel
theorem dX9_goOn_54 : decode cX9_goOn 54 = .ok (.iload_n 1, 1) := by decide +kernel
theorem dX9_goOn_55 : decode cX9_goOn 55 = .ok (.invokevirtual 154, 3) := by decide +kernel
theorem dX9_goOn_58 : decode cX9_goOn 58 = .ok (.return_, 1) := by decide +kernel
theorem dX9_sendFile_0 : decode cX9_sendFile 0 = .ok (.aload_n 0, 1) := by decide +kernel
theorem dX9_sendFile_1 : decode cX9_sendFile 1 = .ok (.getfield 22, 3) := by decide +kernel
theorem dX9_sendFile_4 : decode cX9_sendFile 4 = .ok (.bipush 30, 2) := by decide +kernel
theorem dX9_sendFile_6 : decode cX9_sendFile 6 = .ok (.iload_n 1, 1) := by decide +kernel
theorem dX9_sendFile_7 : decode cX9_sendFile 7 = .ok (.imul, 1) := by decide +kernel
theorem dX9_sendFile_8 : decode cX9_sendFile 8 = .ok (.iaload, 1) := by decide +kernel
theorem dX9_sendFile_9 : decode cX9_sendFile 9 = .ok (.istore_n 2, 1) := by decide +kernel
theorem dX9_sendFile_10 : decode cX9_sendFile 10 = .ok (.aload_n 0, 1) := by decide +kernel
theorem dX9_sendFile_11 : decode cX9_sendFile 11 = .ok (.getfield 13, 3) := by decide +kernel
theorem dX9_sendFile_14 : decode cX9_sendFile 14 = .ok (.bipush 30, 2) := by decide +kernel
theorem dX9_sendFile_16 : decode cX9_sendFile 16 = .ok (.iload_n 1, 1) := by decide +kernel
theorem dX9_sendFile_17 : decode cX9_sendFile 17 = .ok (.imul, 1) := by decide +kernel
theorem dX9_sendFile_18 : decode cX9_sendFile 18 = .ok (.iload_n 2, 1) := by decide +kernel
theorem dX9_sendFile_19 : decode cX9_sendFile 19 = .ok (.iadd, 1) := by decide +kernel
theorem dX9_sendFile_20 : decode cX9_sendFile 20 = .ok (.iaload, 1) := by decide +kernel
theorem dX9_sendFile_21 : decode cX9_sendFile 21 = .ok (.istore_n 3, 1) := by decide +kernel
theorem dX9_sendFile_22 : decode cX9_sendFile 22 = .ok (.iconst 0, 1) := by decide +kernel
theorem dX9_sendFile_23 : decode cX9_sendFile 23 = .ok (.istore 4, 2) := by decide +kernel
theorem dX9_sendFile_25 : decode cX9_sendFile 25 = .ok (.iload 4, 2) := by decide +kernel
theorem dX9_sendFile_27 : decode cX9_sendFile 27 = .ok (.iload_n 3, 1) := by decide +kernel
theorem dX9_sendFile_28 : decode cX9_sendFile 28 = .ok (.if_icmp .ge 68, 3) := by decide +kernel
theorem dX9_sendFile_31 : decode cX9_sendFile 31 = .ok (.aload_n 0, 1) := by decide +kernel
theorem dX9_sendFile_32 : decode cX9_sendFile 32 = .ok (.bipush 68, 2) := by decide +kernel
theorem dX9_sendFile_34 : decode cX9_sendFile 34 = .ok (.invokevirtual 151, 3) := by decide +kernel
theorem dX9_sendFile_37 : decode cX9_sendFile 37 = .ok (.iload 4, 2) := by decide +kernel
theorem dX9_sendFile_39 : decode cX9_sendFile 39 = .ok (.istore 5, 2) := by decide +kernel
theorem dX9_sendFile_41 : decode cX9_sendFile 41 = .ok (.iload 5, 2) := by decide +kernel
theorem dX9_sendFile_43 : decode cX9_sendFile 43 = .ok (.iload_n 3, 1) := by decide +kernel
theorem dX9_sendFile_44 : decode cX9_sendFile 44 = .ok (.if_icmp .ge 41, 3) := by decide +kernel
theorem dX9_sendFile_47 : decode cX9_sendFile 47 = .ok (.iload 5, 2) := by decide +kernel
theorem dX9_sendFile_49 : decode cX9_sendFile 49 = .ok (.iload 4, 2) := by decide +kernel
theorem dX9_sendFile_51 : decode cX9_sendFile 51 = .ok (.bipush 30, 2) := by decide +kernel
theorem dX9_sendFile_53 : decode cX9_sendFile 53 = .ok (.iadd, 1) := by decide +kernel
theorem dX9_sendFile_54 : decode cX9_sendFile 54 = .ok (.if_icmp .ge 31, 3) := by decide +kernel
theorem dX9_sendFile_57 : decode cX9_sendFile 57 = .ok (.aload_n 0, 1) := by decide +kernel
theorem dX9_sendFile_58 : decode cX9_sendFile 58 = .ok (.aload_n 0, 1) := by decide +kernel
theorem dX9_sendFile_59 : decode cX9_sendFile 59 = .ok (.getfield 16, 3) := by decide +kernel
theorem dX9_sendFile_62 : decode cX9_sendFile 62 = .ok (.sipush 3000, 3) := by decide +kernel
theorem dX9_sendFile_65 : decode cX9_sendFile 65 = .ok (.iload_n 1, 1) := by decide +kernel
theorem dX9_sendFile_66 : decode cX9_sendFile 66 = .ok (.imul, 1) := by decide +kernel
theorem dX9_sendFile_67 : decode cX9_sendFile 67 = .ok (.bipush 100, 2) := by decide +kernel
theorem dX9_sendFile_69 : decode cX9_sendFile 69 = .ok (.iload_n 2, 1) := by decide +kernel
theorem dX9_sendFile_70 : decode cX9_sendFile 70 = .ok (.imul, 1) := by decide +kernel
theorem dX9_sendFile_71 : decode cX9_sendFile 71 = .ok (.iadd, 1) := by decide +kernel
theorem dX9_sendFile_72 : decode cX9_sendFile 72 = .ok (.iload 5, 2) := by decide +kernel
theorem dX9_sendFile_74 : decode cX9_sendFile 74 = .ok (.iadd, 1) := by decide +kernel
theorem dX9_sendFile_75 : decode cX9_sendFile 75 = .ok (.iaload, 1) := by decide +kernel
theorem dX9_sendFile_76 : decode cX9_sendFile 76 = .ok (.invokevirtual 160, 3) := by decide +kernel
theorem dX9_sendFile_79 : decode cX9_sendFile 79 = .ok (.iinc 5 1, 3) := by decide +kernel
theorem dX9_sendFile_82 : decode cX9_sendFile 82 = .ok (.goto (-41), 3) := by decide +kernel
theorem dX9_sendFile_85 : decode cX9_sendFile 85 = .ok (.aload_n 0, 1) := by decide +kernel
theorem dX9_sendFile_86 : decode cX9_sendFile 86 = .ok (.iload_n 1, 1) := by decide +kernel
theorem dX9_sendFile_87 : decode cX9_sendFile 87 = .ok (.invokevirtual 154, 3) := by decide +kernel
theorem dX9_sendFile_90 : decode cX9_sendFile 90 = .ok (.iinc 4 30, 3) := by decide +kernel
theorem dX9_sendFile_93 : decode cX9_sendFile 93 = .ok (.goto (-68), 3) := by decide +kernel
theorem dX9_sendFile_96 : decode cX9_sendFile 96 = .ok (.return_, 1) := by decide +kernel
theorem dX9_execute_0 : decode cX9_execute 0 = .ok (.sipush 256, 3) := by decide +kernel
theorem dX9_execute_3 : decode cX9_execute 3 = .ok (.iload_n 1, 1) := by decide +kernel
theorem dX9_execute_4 : decode cX9_execute 4 = .ok (.imul, 1) := by decide +kernel
theorem dX9_execute_5 : decode cX9_execute 5 = .ok (.aload_n 0, 1) := by decide +kernel
theorem dX9_execute_6 : decode cX9_execute 6 = .ok (.getfield 25, 3) := by decide +kernel
theorem dX9_execute_9 : decode cX9_execute 9 = .ok (.iload_n 1, 1) := by decide +kernel
theorem dX9_execute_10 : decode cX9_execute 10 = .ok (.iaload, 1) := by decide +kernel
theorem dX9_execute_11 : decode cX9_execute 11 = .ok (.iadd, 1) := by decide +kernel
theorem dX9_execute_12 : decode cX9_execute 12 = .ok (.istore_n 2, 1) := by decide +kernel
theorem dX9_execute_13 : decode cX9_execute 13 = .ok (.aload_n 0, 1) := by decide +kernel
theorem dX9_execute_14 : decode cX9_execute 14 = .ok (.getfield 28, 3) := by decide +kernel
theorem dX9_execute_17 : decode cX9_execute 17 = .ok (.iload_n 2, 1) := by decide +kernel
theorem dX9_execute_18 : decode cX9_execute 18 = .ok (.aload_n 0, 1) := by decide +kernel
theorem dX9_execute_19 : decode cX9_execute 19 = .ok (.getfield 93, 3) := by decide +kernel
theorem dX9_execute_22 : decode cX9_execute 22 = .ok (.iload_n 1, 1) := by decide +kernel
theorem dX9_execute_23 : decode cX9_execute 23 = .ok (.iaload, 1) := by decide +kernel
theorem dX9_execute_24 : decode cX9_execute 24 = .ok (.iastore, 1) := by decide +kernel
theorem dX9_execute_25 : decode cX9_execute 25 = .ok (.aload_n 0, 1) := by decide +kernel
theorem dX9_execute_26 : decode cX9_execute 26 = .ok (.getfield 31, 3) := by decide +kernel
theorem dX9_execute_29 : decode cX9_execute 29 = .ok (.iload_n 2, 1) := by decide +kernel
theorem dX9_execute_30 : decode cX9_execute 30 = .ok (.aload_n 0, 1) := by decide +kernel
theorem dX9_execute_31 : decode cX9_execute 31 = .ok (.getfield 96, 3) := by decide +kernel
theorem dX9_execute_34 : decode cX9_execute 34 = .ok (.iload_n 1, 1) := by decide +kernel
theorem dX9_execute_35 : decode cX9_execute 35 = .ok (.iaload, 1) := by decide +kernel
theorem dX9_execute_36 : decode cX9_execute 36 = .ok (.iastore, 1) := by decide +kernel
theorem dX9_execute_37 : decode cX9_execute 37 = .ok (.iconst 0, 1) := by decide +kernel
theorem dX9_execute_38 : decode cX9_execute 38 = .ok (.istore_n 3, 1) := by decide +kernel
theorem dX9_execute_39 : decode cX9_execute 39 = .ok (.iload_n 3, 1) := by decide +kernel
theorem dX9_execute_40 : decode cX9_execute 40 = .ok (.aload_n 0, 1) := by decide +kernel
theorem dX9_execute_41 : decode cX9_execute 41 = .ok (.getfield 96, 3) := by decide +kernel
theorem dX9_execute_44 : decode cX9_execute 44 = .ok (.iload_n 1, 1) := by decide +kernel
theorem dX9_execute_45 : decode cX9_execute 45 = .ok (.iaload, 1) := by decide +kernel
theorem dX9_execute_46 : decode cX9_execute 46 = .ok (.if_icmp .ge 31, 3) := by decide +kernel
theorem dX9_execute_49 : decode cX9_execute 49 = .ok (.aload_n 0, 1) := by decide +kernel
theorem dX9_execute_50 : decode cX9_execute 50 = .ok (.getfield 35, 3) := by decide +kernel
theorem dX9_execute_53 : decode cX9_execute 53 = .ok (.bipush 100, 2) := by decide +kernel
theorem dX9_execute_55 : decode cX9_execute 55 = .ok (.iload_n 2, 1) := by decide +kernel
theorem dX9_execute_56 : decode cX9_execute 56 = .ok (.imul, 1) := by decide +kernel
theorem dX9_execute_57 : decode cX9_execute 57 = .ok (.iload_n 3, 1) := by decide +kernel
theorem dX9_execute_58 : decode cX9_execute 58 = .ok (.iadd, 1) := by decide +kernel
theorem dX9_execute_59 : decode cX9_execute 59 = .ok (.aload_n 0, 1) := by decide +kernel
theorem dX9_execute_60 : decode cX9_execute 60 = .ok (.getfield 102, 3) := by decide +kernel
theorem dX9_execute_63 : decode cX9_execute 63 = .ok (.bipush 100, 2) := by decide +kernel
theorem dX9_execute_65 : decode cX9_execute 65 = .ok (.iload_n 1, 1) := by decide +kernel
theorem dX9_execute_66 : decode cX9_execute 66 = .ok (.imul, 1) := by decide +kernel
theorem dX9_execute_67 : decode cX9_execute 67 = .ok (.iload_n 3, 1) := by decide +kernel
theorem dX9_execute_68 : decode cX9_execute 68 = .ok (.iadd, 1) := by decide +kernel
theorem dX9_execute_69 : decode cX9_execute 69 = .ok (.iaload, 1) := by decide +kernel
theorem dX9_execute_70 : decode cX9_execute 70 = .ok (.iastore, 1) := by decide +kernel
theorem dX9_execute_71 : decode cX9_execute 71 = .ok (.iinc 3 1, 3) := by decide +kernel
theorem dX9_execute_74 : decode cX9_execute 74 = .ok (.goto (-35), 3) := by decide +kernel
theorem dX9_execute_77 : decode cX9_execute 77 = .ok (.aload_n 0, 1) := by decide +kernel
theorem dX9_execute_78 : decode cX9_execute 78 = .ok (.getfield 25, 3) := by decide +kernel
theorem dX9_execute_81 : decode cX9_execute 81 = .ok (.iload_n 1, 1) := by decide +kernel
theorem dX9_execute_82 : decode cX9_execute 82 = .ok (.dup2, 1) := by decide +kernel
theorem dX9_execute_83 : decode cX9_execute 83 = .ok (.iaload, 1) := by decide +kernel
theorem dX9_execute_84 : decode cX9_execute 84 = .ok (.iconst 1, 1) := by decide +kernel
theorem dX9_execute_85 : decode cX9_execute 85 = .ok (.iadd, 1) := by decide +kernel
theorem dX9_execute_86 : decode cX9_execute 86 = .ok (.iastore, 1) := by decide +kernel
theorem dX9_execute_87 : decode cX9_execute 87 = .ok (.aload_n 0, 1) := by decide +kernel
theorem dX9_execute_88 : decode cX9_execute 88 = .ok (.getfield 90, 3) := by decide +kernel
theorem dX9_execute_91 : decode cX9_execute 91 = .ok (.iload_n 1, 1) := by decide +kernel
theorem dX9_execute_92 : decode cX9_execute 92 = .ok (.iconst 0, 1) := by decide +kernel
theorem dX9_execute_93 : decode cX9_execute 93 = .ok (.bastore, 1) := by decide +kernel
theorem dX9_execute_94 : decode cX9_execute 94 = .ok (.aload_n 0, 1) := by decide +kernel
theorem dX9_execute_95 : decode cX9_execute 95 = .ok (.iload_n 1, 1) := by decide +kernel
theorem dX9_execute_96 : decode cX9_execute 96 = .ok (.bipush 67, 2) := by decide +kernel
theorem dX9_execute_98 : decode cX9_execute 98 = .ok (.invokevirtual 157, 3) := by decide +kernel
theorem dX9_execute_101 : decode cX9_execute 101 = .ok (.return_, 1) := by decide +kernel
theorem dX9_acknowledge_0 : decode cX9_acknowledge 0 = .ok (.iconst (-1), 1) := by decide +kernel
theorem dX9_acknowledge_1 : decode cX9_acknowledge 1 = .ok (.istore_n 3, 1) := by decide +kernel
theorem dX9_acknowledge_2 : decode cX9_acknowledge 2 = .ok (.iconst 0, 1) := by decide +kernel
theorem dX9_acknowledge_3 : decode cX9_acknowledge 3 = .ok (.istore 4, 2) := by decide +kernel
theorem dX9_acknowledge_5 : decode cX9_acknowledge 5 = .ok (.iload 4, 2) := by decide +kernel
theorem dX9_acknowledge_7 : decode cX9_acknowledge 7 = .ok (.aload_n 0, 1) := by decide +kernel
theorem dX9_acknowledge_8 : decode cX9_acknowledge 8 = .ok (.getfield 75, 3) := by decide +kernel
theorem dX9_acknowledge_11 : decode cX9_acknowledge 11 = .ok (.iload_n 1, 1) := by decide +kernel
theorem dX9_acknowledge_12 : decode cX9_acknowledge 12 = .ok (.iaload, 1) := by decide +kernel
theorem dX9_acknowledge_13 : decode cX9_acknowledge 13 = .ok (.if_icmp .ge 31, 3) := by decide +kernel
theorem dX9_acknowledge_16 : decode cX9_acknowledge 16 = .ok (.aload_n 0, 1) := by decide +kernel
theorem dX9_acknowledge_17 : decode cX9_acknowledge 17 = .ok (.getfield 78, 3) := by decide +kernel
theorem dX9_acknowledge_20 : decode cX9_acknowledge 20 = .ok (.iconst 3, 1) := by decide +kernel
theorem dX9_acknowledge_21 : decode cX9_acknowledge 21 = .ok (.iload_n 1, 1) := by decide +kernel
theorem dX9_acknowledge_22 : decode cX9_acknowledge 22 = .ok (.imul, 1) := by decide +kernel
theorem dX9_acknowledge_23 : decode cX9_acknowledge 23 = .ok (.iload 4, 2) := by decide +kernel
theorem dX9_acknowledge_25 : decode cX9_acknowledge 25 = .ok (.iadd, 1) := by decide +kernel
theorem dX9_acknowledge_26 : decode cX9_acknowledge 26 = .ok (.iaload, 1) := by decide +kernel
theorem dX9_acknowledge_27 : decode cX9_acknowledge 27 = .ok (.iload_n 2, 1) := by decide +kernel
theorem dX9_acknowledge_28 : decode cX9_acknowledge 28 = .ok (.if_icmp .ne 8, 3) := by decide +kernel
theorem dX9_acknowledge_31 : decode cX9_acknowledge 31 = .ok (.iload 4, 2) := by decide +kernel
theorem dX9_acknowledge_33 : decode cX9_acknowledge 33 = .ok (.goto 4, 3) := by decide +kernel
theorem dX9_acknowledge_36 : decode cX9_acknowledge 36 = .ok (.iload_n 3, 1) := by decide +kernel
theorem dX9_acknowledge_37 : decode cX9_acknowledge 37 = .ok (.istore_n 3, 1) := by decide +kernel
theorem dX9_acknowledge_38 : decode cX9_acknowledge 38 = .ok (.iinc 4 1, 3) := by decide +kernel
theorem dX9_acknowledge_41 : decode cX9_acknowledge 41 = .ok (.goto (-36), 3) := by decide +kernel
theorem dX9_acknowledge_44 : decode cX9_acknowledge 44 = .ok (.iload_n 3, 1) := by decide +kernel
theorem dX9_acknowledge_45 : decode cX9_acknowledge 45 = .ok (.iconst (-1), 1) := by decide +kernel
theorem dX9_acknowledge_46 : decode cX9_acknowledge 46 = .ok (.if_icmp .ne 4, 3) := by decide +kernel
theorem dX9_acknowledge_49 : decode cX9_acknowledge 49 = .ok (.return_, 1) := by decide +kernel
theorem dX9_acknowledge_50 : decode cX9_acknowledge 50 = .ok (.iload_n 3, 1) := by decide +kernel
theorem dX9_acknowledge_51 : decode cX9_acknowledge 51 = .ok (.iconst 1, 1) := by decide +kernel
theorem dX9_acknowledge_52 : decode cX9_acknowledge 52 = .ok (.iadd, 1) := by decide +kernel
theorem dX9_acknowledge_53 : decode cX9_acknowledge 53 = .ok (.istore 4, 2) := by decide +kernel
theorem dX9_acknowledge_55 : decode cX9_acknowledge 55 = .ok (.aload_n 0, 1) := by decide +kernel
theorem dX9_acknowledge_56 : decode cX9_acknowledge 56 = .ok (.getfield 75, 3) := by decide +kernel
theorem dX9_acknowledge_59 : decode cX9_acknowledge 59 = .ok (.iload_n 1, 1) := by decide +kernel
theorem dX9_acknowledge_60 : decode cX9_acknowledge 60 = .ok (.dup2, 1) := by decide +kernel
theorem dX9_acknowledge_61 : decode cX9_acknowledge 61 = .ok (.iaload, 1) := by decide +kernel
theorem dX9_acknowledge_62 : decode cX9_acknowledge 62 = .ok (.iload 4, 2) := by decide +kernel
theorem dX9_acknowledge_64 : decode cX9_acknowledge 64 = .ok (.isub, 1) := by decide +kernel
theorem dX9_acknowledge_65 : decode cX9_acknowledge 65 = .ok (.iastore, 1) := by decide +kernel
theorem dX9_acknowledge_66 : decode cX9_acknowledge 66 = .ok (.iconst 0, 1) := by decide +kernel
theorem dX9_acknowledge_67 : decode cX9_acknowledge 67 = .ok (.istore 5, 2) := by decide +kernel
theorem dX9_acknowledge_69 : decode cX9_acknowledge 69 = .ok (.iload 5, 2) := by decide +kernel
theorem dX9_acknowledge_71 : decode cX9_acknowledge 71 = .ok (.aload_n 0, 1) := by decide +kernel
theorem dX9_acknowledge_72 : decode cX9_acknowledge 72 = .ok (.getfield 75, 3) := by decide +kernel
theorem dX9_acknowledge_75 : decode cX9_acknowledge 75 = .ok (.iload_n 1, 1) := by decide +kernel
theorem dX9_acknowledge_76 : decode cX9_acknowledge 76 = .ok (.iaload, 1) := by decide +kernel
theorem dX9_acknowledge_77 : decode cX9_acknowledge 77 = .ok (.if_icmp .ge 89, 3) := by decide +kernel
theorem dX9_acknowledge_80 : decode cX9_acknowledge 80 = .ok (.aload_n 0, 1) := by decide +kernel
theorem dX9_acknowledge_81 : decode cX9_acknowledge 81 = .ok (.getfield 78, 3) := by decide +kernel
theorem dX9_acknowledge_84 : decode cX9_acknowledge 84 = .ok (.iconst 3, 1) := by decide +kernel
theorem dX9_acknowledge_85 : decode cX9_acknowledge 85 = .ok (.iload_n 1, 1) := by decide +kernel
theorem dX9_acknowledge_86 : decode cX9_acknowledge 86 = .ok (.imul, 1) := by decide +kernel
theorem dX9_acknowledge_87 : decode cX9_acknowledge 87 = .ok (.iload 5, 2) := by decide +kernel
theorem dX9_acknowledge_89 : decode cX9_acknowledge 89 = .ok (.iadd, 1) := by decide +kernel
theorem dX9_acknowledge_90 : decode cX9_acknowledge 90 = .ok (.aload_n 0, 1) := by decide +kernel
theorem dX9_acknowledge_91 : decode cX9_acknowledge 91 = .ok (.getfield 78, 3) := by decide +kernel
theorem dX9_acknowledge_94 : decode cX9_acknowledge 94 = .ok (.iconst 3, 1) := by decide +kernel
theorem dX9_acknowledge_95 : decode cX9_acknowledge 95 = .ok (.iload_n 1, 1) := by decide +kernel
theorem dX9_acknowledge_96 : decode cX9_acknowledge 96 = .ok (.imul, 1) := by decide +kernel
theorem dX9_acknowledge_97 : decode cX9_acknowledge 97 = .ok (.iload 5, 2) := by decide +kernel
theorem dX9_acknowledge_99 : decode cX9_acknowledge 99 = .ok (.iadd, 1) := by decide +kernel
theorem dX9_acknowledge_100 : decode cX9_acknowledge 100 = .ok (.iload 4, 2) := by decide +kernel
theorem dX9_acknowledge_102 : decode cX9_acknowledge 102 = .ok (.iadd, 1) := by decide +kernel
theorem dX9_acknowledge_103 : decode cX9_acknowledge 103 = .ok (.iaload, 1) := by decide +kernel
theorem dX9_acknowledge_104 : decode cX9_acknowledge 104 = .ok (.iastore, 1) := by decide +kernel
theorem dX9_acknowledge_105 : decode cX9_acknowledge 105 = .ok (.iconst 0, 1) := by decide +kernel
theorem dX9_acknowledge_106 : decode cX9_acknowledge 106 = .ok (.istore 6, 2) := by decide +kernel
theorem dX9_acknowledge_108 : decode cX9_acknowledge 108 = .ok (.iload 6, 2) := by decide +kernel
theorem dX9_acknowledge_110 : decode cX9_acknowledge 110 = .ok (.bipush 32, 2) := by decide +kernel
theorem dX9_acknowledge_112 : decode cX9_acknowledge 112 = .ok (.if_icmp .ge 48, 3) := by decide +kernel
theorem dX9_acknowledge_115 : decode cX9_acknowledge 115 = .ok (.aload_n 0, 1) := by decide +kernel
theorem dX9_acknowledge_116 : decode cX9_acknowledge 116 = .ok (.getfield 81, 3) := by decide +kernel
theorem dX9_acknowledge_119 : decode cX9_acknowledge 119 = .ok (.bipush 96, 2) := by decide +kernel
theorem dX9_acknowledge_121 : decode cX9_acknowledge 121 = .ok (.iload_n 1, 1) := by decide +kernel
theorem dX9_acknowledge_122 : decode cX9_acknowledge 122 = .ok (.imul, 1) := by decide +kernel
theorem dX9_acknowledge_123 : decode cX9_acknowledge 123 = .ok (.bipush 32, 2) := by decide +kernel
theorem dX9_acknowledge_125 : decode cX9_acknowledge 125 = .ok (.iload 5, 2) := by decide +kernel
theorem dX9_acknowledge_127 : decode cX9_acknowledge 127 = .ok (.imul, 1) := by decide +kernel
theorem dX9_acknowledge_128 : decode cX9_acknowledge 128 = .ok (.iadd, 1) := by decide +kernel
theorem dX9_acknowledge_129 : decode cX9_acknowledge 129 = .ok (.iload 6, 2) := by decide +kernel
theorem dX9_acknowledge_131 : decode cX9_acknowledge 131 = .ok (.iadd, 1) := by decide +kernel
theorem dX9_acknowledge_132 : decode cX9_acknowledge 132 = .ok (.aload_n 0, 1) := by decide +kernel
theorem dX9_acknowledge_133 : decode cX9_acknowledge 133 = .ok (.getfield 81, 3) := by decide +kernel
theorem dX9_acknowledge_136 : decode cX9_acknowledge 136 = .ok (.bipush 96, 2) := by decide +kernel
theorem dX9_acknowledge_138 : decode cX9_acknowledge 138 = .ok (.iload_n 1, 1) := by decide +kernel
theorem dX9_acknowledge_139 : decode cX9_acknowledge 139 = .ok (.imul, 1) := by decide +kernel
theorem dX9_acknowledge_140 : decode cX9_acknowledge 140 = .ok (.bipush 32, 2) := by decide +kernel
theorem dX9_acknowledge_142 : decode cX9_acknowledge 142 = .ok (.iload 5, 2) := by decide +kernel
theorem dX9_acknowledge_144 : decode cX9_acknowledge 144 = .ok (.iload 4, 2) := by decide +kernel
theorem dX9_acknowledge_146 : decode cX9_acknowledge 146 = .ok (.iadd, 1) := by decide +kernel
theorem dX9_acknowledge_147 : decode cX9_acknowledge 147 = .ok (.imul, 1) := by decide +kernel
theorem dX9_acknowledge_148 : decode cX9_acknowledge 148 = .ok (.iadd, 1) := by decide +kernel
theorem dX9_acknowledge_149 : decode cX9_acknowledge 149 = .ok (.iload 6, 2) := by decide +kernel
theorem dX9_acknowledge_151 : decode cX9_acknowledge 151 = .ok (.iadd, 1) := by decide +kernel
theorem dX9_acknowledge_152 : decode cX9_acknowledge 152 = .ok (.iaload, 1) := by decide +kernel
theorem dX9_acknowledge_153 : decode cX9_acknowledge 153 = .ok (.iastore, 1) := by decide +kernel
theorem dX9_acknowledge_154 : decode cX9_acknowledge 154 = .ok (.iinc 6 1, 3) := by decide +kernel
theorem dX9_acknowledge_157 : decode cX9_acknowledge 157 = .ok (.goto (-49), 3) := by decide +kernel
theorem dX9_acknowledge_160 : decode cX9_acknowledge 160 = .ok (.iinc 5 1, 3) := by decide +kernel
theorem dX9_acknowledge_163 : decode cX9_acknowledge 163 = .ok (.goto (-94), 3) := by decide +kernel
theorem dX9_acknowledge_166 : decode cX9_acknowledge 166 = .ok (.aload_n 0, 1) := by decide +kernel
theorem dX9_acknowledge_167 : decode cX9_acknowledge 167 = .ok (.getfield 105, 3) := by decide +kernel
theorem dX9_acknowledge_170 : decode cX9_acknowledge 170 = .ok (.iload_n 1, 1) := by decide +kernel
theorem dX9_acknowledge_171 : decode cX9_acknowledge 171 = .ok (.iconst 0, 1) := by decide +kernel
theorem dX9_acknowledge_172 : decode cX9_acknowledge 172 = .ok (.iastore, 1) := by decide +kernel
theorem dX9_acknowledge_173 : decode cX9_acknowledge 173 = .ok (.aload_n 0, 1) := by decide +kernel
theorem dX9_acknowledge_174 : decode cX9_acknowledge 174 = .ok (.getfield 108, 3) := by decide +kernel
theorem dX9_acknowledge_177 : decode cX9_acknowledge 177 = .ok (.iload_n 1, 1) := by decide +kernel
theorem dX9_acknowledge_178 : decode cX9_acknowledge 178 = .ok (.iconst 0, 1) := by decide +kernel
theorem dX9_acknowledge_179 : decode cX9_acknowledge 179 = .ok (.iastore, 1) := by decide +kernel
theorem dX9_acknowledge_180 : decode cX9_acknowledge 180 = .ok (.return_, 1) := by decide +kernel
theorem dX9_sendAgain_0 : decode cX9_sendAgain 0 = .ok (.iconst 0, 1) := by decide +kernel
theorem dX9_sendAgain_1 : decode cX9_sendAgain 1 = .ok (.istore_n 2, 1) := by decide +kernel
theorem dX9_sendAgain_2 : decode cX9_sendAgain 2 = .ok (.iload_n 2, 1) := by decide +kernel
theorem dX9_sendAgain_3 : decode cX9_sendAgain 3 = .ok (.aload_n 0, 1) := by decide +kernel
theorem dX9_sendAgain_4 : decode cX9_sendAgain 4 = .ok (.getfield 75, 3) := by decide +kernel
theorem dX9_sendAgain_7 : decode cX9_sendAgain 7 = .ok (.iload_n 1, 1) := by decide +kernel
theorem dX9_sendAgain_8 : decode cX9_sendAgain 8 = .ok (.iaload, 1) := by decide +kernel
theorem dX9_sendAgain_9 : decode cX9_sendAgain 9 = .ok (.if_icmp .ge 15, 3) := by decide +kernel
theorem dX9_sendAgain_12 : decode cX9_sendAgain 12 = .ok (.aload_n 0, 1) := by decide +kernel
theorem dX9_sendAgain_13 : decode cX9_sendAgain 13 = .ok (.iload_n 1, 1) := by decide +kernel
theorem dX9_sendAgain_14 : decode cX9_sendAgain 14 = .ok (.iload_n 2, 1) := by decide +kernel
theorem dX9_sendAgain_15 : decode cX9_sendAgain 15 = .ok (.invokevirtual 145, 3) := by decide +kernel
theorem dX9_sendAgain_18 : decode cX9_sendAgain 18 = .ok (.iinc 2 1, 3) := by decide +kernel
theorem dX9_sendAgain_21 : decode cX9_sendAgain 21 = .ok (.goto (-19), 3) := by decide +kernel
theorem dX9_sendAgain_24 : decode cX9_sendAgain 24 = .ok (.aload_n 0, 1) := by decide +kernel
theorem dX9_sendAgain_25 : decode cX9_sendAgain 25 = .ok (.getfield 105, 3) := by decide +kernel
theorem dX9_sendAgain_28 : decode cX9_sendAgain 28 = .ok (.iload_n 1, 1) := by decide +kernel
theorem dX9_sendAgain_29 : decode cX9_sendAgain 29 = .ok (.aload_n 0, 1) := by decide +kernel
theorem dX9_sendAgain_30 : decode cX9_sendAgain 30 = .ok (.getfield 75, 3) := by decide +kernel
theorem dX9_sendAgain_33 : decode cX9_sendAgain 33 = .ok (.iload_n 1, 1) := by decide +kernel
theorem dX9_sendAgain_34 : decode cX9_sendAgain 34 = .ok (.iaload, 1) := by decide +kernel
theorem dX9_sendAgain_35 : decode cX9_sendAgain 35 = .ok (.ifCond .le 7, 3) := by decide +kernel
theorem dX9_sendAgain_38 : decode cX9_sendAgain 38 = .ok (.iconst 0, 1) := by decide +kernel
theorem dX9_sendAgain_39 : decode cX9_sendAgain 39 = .ok (.goto 9, 3) := by decide +kernel
theorem dX9_sendAgain_42 : decode cX9_sendAgain 42 = .ok (.aload_n 0, 1) := by decide +kernel
theorem dX9_sendAgain_43 : decode cX9_sendAgain 43 = .ok (.getfield 105, 3) := by decide +kernel
theorem dX9_sendAgain_46 : decode cX9_sendAgain 46 = .ok (.iload_n 1, 1) := by decide +kernel
theorem dX9_sendAgain_47 : decode cX9_sendAgain 47 = .ok (.iaload, 1) := by decide +kernel
theorem dX9_sendAgain_48 : decode cX9_sendAgain 48 = .ok (.iastore, 1) := by decide +kernel
theorem dX9_sendAgain_49 : decode cX9_sendAgain 49 = .ok (.return_, 1) := by decide +kernel
theorem dX9_done_0 : decode cX9_done 0 = .ok (.aload_n 0, 1) := by decide +kernel
theorem dX9_done_1 : decode cX9_done 1 = .ok (.getfield 111, 3) := by decide +kernel
theorem dX9_done_4 : decode cX9_done 4 = .ok (.iconst 0, 1) := by decide +kernel
theorem dX9_done_5 : decode cX9_done 5 = .ok (.iaload, 1) := by decide +kernel
theorem dX9_done_6 : decode cX9_done 6 = .ok (.istore_n 2, 1) := by decide +kernel
theorem dX9_done_7 : decode cX9_done 7 = .ok (.aload_n 0, 1) := by decide +kernel
theorem dX9_done_8 : decode cX9_done 8 = .ok (.getfield 111, 3) := by decide +kernel
theorem dX9_done_11 : decode cX9_done 11 = .ok (.iconst 1, 1) := by decide +kernel
theorem dX9_done_12 : decode cX9_done 12 = .ok (.iaload, 1) := by decide +kernel
theorem dX9_done_13 : decode cX9_done 13 = .ok (.istore_n 3, 1) := by decide +kernel
theorem dX9_done_14 : decode cX9_done 14 = .ok (.aload_n 0, 1) := by decide +kernel
theorem dX9_done_15 : decode cX9_done 15 = .ok (.getfield 59, 3) := by decide +kernel
theorem dX9_done_18 : decode cX9_done 18 = .ok (.iload_n 1, 1) := by decide +kernel
theorem dX9_done_19 : decode cX9_done 19 = .ok (.baload, 1) := by decide +kernel
theorem dX9_done_20 : decode cX9_done 20 = .ok (.ifCond .eq 128, 3) := by decide +kernel
theorem dX9_done_23 : decode cX9_done 23 = .ok (.iload_n 2, 1) := by decide +kernel
theorem dX9_done_24 : decode cX9_done 24 = .ok (.iconst 1, 1) := by decide +kernel
theorem dX9_done_25 : decode cX9_done 25 = .ok (.if_icmp .ne 24, 3) := by decide +kernel
theorem dX9_done_28 : decode cX9_done 28 = .ok (.iload_n 3, 1) := by decide +kernel
theorem dX9_done_29 : decode cX9_done 29 = .ok (.bipush 72, 2) := by decide +kernel
theorem dX9_done_31 : decode cX9_done 31 = .ok (.if_icmp .eq 19, 3) := by decide +kernel
theorem dX9_done_34 : decode cX9_done 34 = .ok (.iload_n 3, 1) := by decide +kernel
theorem dX9_done_35 : decode cX9_done 35 = .ok (.bipush 84, 2) := by decide +kernel
theorem dX9_done_37 : decode cX9_done 37 = .ok (.if_icmp .eq 13, 3) := by decide +kernel
theorem dX9_done_40 : decode cX9_done 40 = .ok (.aload_n 0, 1) := by decide +kernel
theorem dX9_done_41 : decode cX9_done 41 = .ok (.getfield 19, 3) := by decide +kernel
theorem dX9_done_44 : decode cX9_done 44 = .ok (.iload_n 1, 1) := by decide +kernel
theorem dX9_done_45 : decode cX9_done 45 = .ok (.iaload, 1) := by decide +kernel
theorem dX9_done_46 : decode cX9_done 46 = .ok (.ifCond .ne 4, 3) := by decide +kernel
theorem dX9_done_49 : decode cX9_done 49 = .ok (.return_, 1) := by decide +kernel
theorem dX9_done_50 : decode cX9_done 50 = .ok (.iload_n 3, 1) := by decide +kernel
theorem dX9_done_51 : decode cX9_done 51 = .ok (.lookupswitch 96 #[(67, 49), (72, 70), (78, 49), (84, 86), (89, 62)], 49) := by decide +kernel
theorem dX9_done_100 : decode cX9_done 100 = .ok (.aload_n 0, 1) := by decide +kernel
theorem dX9_done_101 : decode cX9_done 101 = .ok (.iload_n 1, 1) := by decide +kernel
theorem dX9_done_102 : decode cX9_done 102 = .ok (.invokevirtual 163, 3) := by decide +kernel
theorem dX9_done_105 : decode cX9_done 105 = .ok (.aload_n 0, 1) := by decide +kernel
theorem dX9_done_106 : decode cX9_done 106 = .ok (.iload_n 1, 1) := by decide +kernel
theorem dX9_done_107 : decode cX9_done 107 = .ok (.invokevirtual 166, 3) := by decide +kernel
theorem dX9_done_110 : decode cX9_done 110 = .ok (.goto 37, 3) := by decide +kernel
theorem dX9_done_113 : decode cX9_done 113 = .ok (.aload_n 0, 1) := by decide +kernel
theorem dX9_done_114 : decode cX9_done 114 = .ok (.iload_n 1, 1) := by decide +kernel
theorem dX9_done_115 : decode cX9_done 115 = .ok (.invokevirtual 169, 3) := by decide +kernel
theorem dX9_done_118 : decode cX9_done 118 = .ok (.goto 29, 3) := by decide +kernel
theorem dX9_done_121 : decode cX9_done 121 = .ok (.aload_n 0, 1) := by decide +kernel
theorem dX9_done_122 : decode cX9_done 122 = .ok (.iload_n 1, 1) := by decide +kernel
theorem dX9_done_123 : decode cX9_done 123 = .ok (.iconst 1, 1) := by decide +kernel
theorem dX9_done_124 : decode cX9_done 124 = .ok (.iconst 0, 1) := by decide +kernel
theorem dX9_done_125 : decode cX9_done 125 = .ok (.invokevirtual 172, 3) := by decide +kernel
theorem dX9_done_128 : decode cX9_done 128 = .ok (.aload_n 0, 1) := by decide +kernel
theorem dX9_done_129 : decode cX9_done 129 = .ok (.iload_n 1, 1) := by decide +kernel
theorem dX9_done_130 : decode cX9_done 130 = .ok (.iconst 0, 1) := by decide +kernel
theorem dX9_done_131 : decode cX9_done 131 = .ok (.invokevirtual 176, 3) := by decide +kernel
theorem dX9_done_134 : decode cX9_done 134 = .ok (.goto 13, 3) := by decide +kernel
theorem dX9_done_137 : decode cX9_done 137 = .ok (.aload_n 0, 1) := by decide +kernel
theorem dX9_done_138 : decode cX9_done 138 = .ok (.getfield 59, 3) := by decide +kernel
theorem dX9_done_141 : decode cX9_done 141 = .ok (.iload_n 1, 1) := by decide +kernel
theorem dX9_done_142 : decode cX9_done 142 = .ok (.iconst 0, 1) := by decide +kernel
theorem dX9_done_143 : decode cX9_done 143 = .ok (.bastore, 1) := by decide +kernel
theorem dX9_done_144 : decode cX9_done 144 = .ok (.goto 3, 3) := by decide +kernel
theorem dX9_done_147 : decode cX9_done 147 = .ok (.return_, 1) := by decide +kernel
theorem dX9_done_148 : decode cX9_done 148 = .ok (.iload_n 3, 1) := by decide +kernel
theorem dX9_done_149 : decode cX9_done 149 = .ok (.bipush 83, 2) := by decide +kernel
theorem dX9_done_151 : decode cX9_done 151 = .ok (.if_icmp .ne 39, 3) := by decide +kernel
theorem dX9_done_154 : decode cX9_done 154 = .ok (.iload_n 2, 1) := by decide +kernel
theorem dX9_done_155 : decode cX9_done 155 = .ok (.iconst 3, 1) := by decide +kernel
theorem dX9_done_156 : decode cX9_done 156 = .ok (.if_icmp .ne 34, 3) := by decide +kernel
theorem dX9_done_159 : decode cX9_done 159 = .ok (.aload_n 0, 1) := by decide +kernel
theorem dX9_done_160 : decode cX9_done 160 = .ok (.getfield 111, 3) := by decide +kernel
theorem dX9_done_163 : decode cX9_done 163 = .ok (.iconst 3, 1) := by decide +kernel
theorem dX9_done_164 : decode cX9_done 164 = .ok (.iaload, 1) := by decide +kernel
theorem dX9_done_165 : decode cX9_done 165 = .ok (.bipush 100, 2) := by decide +kernel
theorem dX9_done_167 : decode cX9_done 167 = .ok (.if_icmp .gt 178, 3) := by decide +kernel
theorem dX9_done_170 : decode cX9_done 170 = .ok (.aload_n 0, 1) := by decide +kernel
theorem dX9_done_171 : decode cX9_done 171 = .ok (.iload_n 1, 1) := by decide +kernel
theorem dX9_done_172 : decode cX9_done 172 = .ok (.aload_n 0, 1) := by decide +kernel
theorem dX9_done_173 : decode cX9_done 173 = .ok (.getfield 111, 3) := by decide +kernel
theorem dX9_done_176 : decode cX9_done 176 = .ok (.iconst 2, 1) := by decide +kernel
theorem dX9_done_177 : decode cX9_done 177 = .ok (.iaload, 1) := by decide +kernel
theorem dX9_done_178 : decode cX9_done 178 = .ok (.aload_n 0, 1) := by decide +kernel
theorem dX9_done_179 : decode cX9_done 179 = .ok (.getfield 111, 3) := by decide +kernel
theorem dX9_done_182 : decode cX9_done 182 = .ok (.iconst 3, 1) := by decide +kernel
theorem dX9_done_183 : decode cX9_done 183 = .ok (.iaload, 1) := by decide +kernel
theorem dX9_done_184 : decode cX9_done 184 = .ok (.invokevirtual 179, 3) := by decide +kernel
theorem dX9_done_187 : decode cX9_done 187 = .ok (.goto 158, 3) := by decide +kernel
theorem dX9_done_190 : decode cX9_done 190 = .ok (.iload_n 3, 1) := by decide +kernel
theorem dX9_done_191 : decode cX9_done 191 = .ok (.bipush 68, 2) := by decide +kernel
theorem dX9_done_193 : decode cX9_done 193 = .ok (.if_icmp .ne 103, 3) := by decide +kernel
