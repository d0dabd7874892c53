theorem dX10_init_0 : decode cX10_init 0 = .ok (.aload_n 0, 1) := by decide +kernel
theorem dX10_init_1 : decode cX10_init 1 = .ok (.invokespecial 1, 3) := by decide +kernel
theorem dX10_init_4 : decode cX10_init 4 = .ok (.aload_n 0, 1) := by decide +kernel
theorem dX10_init_5 : decode cX10_init 5 = .ok (.bipush 30, 2) := by decide +kernel
theorem dX10_init_7 : decode cX10_init 7 = .ok (.newarray .int, 2) := by decide +kernel
theorem dX10_init_9 : decode cX10_init 9 = .ok (.putfield 7, 3) := by decide +kernel
theorem dX10_init_12 : decode cX10_init 12 = .ok (.aload_n 0, 1) := by decide +kernel
theorem dX10_init_13 : decode cX10_init 13 = .ok (.bipush 30, 2) := by decide +kernel
theorem dX10_init_15 : decode cX10_init 15 = .ok (.newarray .int, 2) := by decide +kernel
theorem dX10_init_17 : decode cX10_init 17 = .ok (.putfield 13, 3) := by decide +kernel
theorem dX10_init_20 : decode cX10_init 20 = .ok (.aload_n 0, 1) := by decide +kernel
theorem dX10_init_21 : decode cX10_init 21 = .ok (.bipush 30, 2) := by decide +kernel
theorem dX10_init_23 : decode cX10_init 23 = .ok (.newarray .int, 2) := by decide +kernel
theorem dX10_init_25 : decode cX10_init 25 = .ok (.putfield 16, 3) := by decide +kernel
theorem dX10_init_28 : decode cX10_init 28 = .ok (.aload_n 0, 1) := by decide +kernel
theorem dX10_init_29 : decode cX10_init 29 = .ok (.bipush 30, 2) := by decide +kernel
theorem dX10_init_31 : decode cX10_init 31 = .ok (.newarray .int, 2) := by decide +kernel
theorem dX10_init_33 : decode cX10_init 33 = .ok (.putfield 19, 3) := by decide +kernel
theorem dX10_init_36 : decode cX10_init 36 = .ok (.aload_n 0, 1) := by decide +kernel
theorem dX10_init_37 : decode cX10_init 37 = .ok (.bipush 30, 2) := by decide +kernel
theorem dX10_init_39 : decode cX10_init 39 = .ok (.newarray .int, 2) := by decide +kernel
theorem dX10_init_41 : decode cX10_init 41 = .ok (.putfield 22, 3) := by decide +kernel
theorem dX10_init_44 : decode cX10_init 44 = .ok (.aload_n 0, 1) := by decide +kernel
theorem dX10_init_45 : decode cX10_init 45 = .ok (.bipush 30, 2) := by decide +kernel
theorem dX10_init_47 : decode cX10_init 47 = .ok (.newarray .int, 2) := by decide +kernel
theorem dX10_init_49 : decode cX10_init 49 = .ok (.putfield 25, 3) := by decide +kernel
theorem dX10_init_52 : decode cX10_init 52 = .ok (.aload_n 0, 1) := by decide +kernel
theorem dX10_init_53 : decode cX10_init 53 = .ok (.bipush 30, 2) := by decide +kernel
theorem dX10_init_55 : decode cX10_init 55 = .ok (.newarray .boolean, 2) := by decide +kernel
theorem dX10_init_57 : decode cX10_init 57 = .ok (.putfield 28, 3) := by decide +kernel
theorem dX10_init_60 : decode cX10_init 60 = .ok (.aload_n 0, 1) := by decide +kernel
theorem dX10_init_61 : decode cX10_init 61 = .ok (.iconst 5, 1) := by decide +kernel
theorem dX10_init_62 : decode cX10_init 62 = .ok (.newarray .int, 2) := by decide +kernel
theorem dX10_init_64 : decode cX10_init 64 = .ok (.putfield 32, 3) := by decide +kernel
theorem dX10_init_67 : decode cX10_init 67 = .ok (.aload_n 0, 1) := by decide +kernel
theorem dX10_init_68 : decode cX10_init 68 = .ok (.sipush 5000, 3) := by decide +kernel
theorem dX10_init_71 : decode cX10_init 71 = .ok (.newarray .int, 2) := by decide +kernel
theorem dX10_init_73 : decode cX10_init 73 = .ok (.putfield 35, 3) := by decide +kernel
theorem dX10_init_76 : decode cX10_init 76 = .ok (.aload_n 0, 1) := by decide +kernel
theorem dX10_init_77 : decode cX10_init 77 = .ok (.sipush 5000, 3) := by decide +kernel
theorem dX10_init_80 : decode cX10_init 80 = .ok (.newarray .int, 2) := by decide +kernel
theorem dX10_init_82 : decode cX10_init 82 = .ok (.putfield 38, 3) := by decide +kernel
theorem dX10_init_85 : decode cX10_init 85 = .ok (.aload_n 0, 1) := by decide +kernel
theorem dX10_init_86 : decode cX10_init 86 = .ok (.sipush 1600, 3) := by decide +kernel
theorem dX10_init_89 : decode cX10_init 89 = .ok (.newarray .int, 2) := by decide +kernel
theorem dX10_init_91 : decode cX10_init 91 = .ok (.putfield 41, 3) := by decide +kernel
theorem dX10_init_94 : decode cX10_init 94 = .ok (.aload_n 0, 1) := by decide +kernel
theorem dX10_init_95 : decode cX10_init 95 = .ok (.sipush 1600, 3) := by decide +kernel
theorem dX10_init_98 : decode cX10_init 98 = .ok (.newarray .int, 2) := by decide +kernel
theorem dX10_init_100 : decode cX10_init 100 = .ok (.putfield 44, 3) := by decide +kernel
theorem dX10_init_103 : decode cX10_init 103 = .ok (.aload_n 0, 1) := by decide +kernel
theorem dX10_init_104 : decode cX10_init 104 = .ok (.bipush 64, 2) := by decide +kernel
theorem dX10_init_106 : decode cX10_init 106 = .ok (.newarray .int, 2) := by decide +kernel
theorem dX10_init_108 : decode cX10_init 108 = .ok (.putfield 47, 3) := by decide +kernel
theorem dX10_init_111 : decode cX10_init 111 = .ok (.aload_n 0, 1) := by decide +kernel
theorem dX10_init_112 : decode cX10_init 112 = .ok (.bipush 64, 2) := by decide +kernel
theorem dX10_init_114 : decode cX10_init 114 = .ok (.newarray .int, 2) := by decide +kernel
theorem dX10_init_116 : decode cX10_init 116 = .ok (.putfield 50, 3) := by decide +kernel
theorem dX10_init_119 : decode cX10_init 119 = .ok (.aload_n 0, 1) := by decide +kernel
theorem dX10_init_120 : decode cX10_init 120 = .ok (.sipush 1000, 3) := by decide +kernel
theorem dX10_init_123 : decode cX10_init 123 = .ok (.newarray .int, 2) := by decide +kernel
theorem dX10_init_125 : decode cX10_init 125 = .ok (.putfield 53, 3) := by decide +kernel
theorem dX10_init_128 : decode cX10_init 128 = .ok (.aload_n 0, 1) := by decide +kernel
theorem dX10_init_129 : decode cX10_init 129 = .ok (.sipush 1000, 3) := by decide +kernel
theorem dX10_init_132 : decode cX10_init 132 = .ok (.newarray .int, 2) := by decide +kernel
theorem dX10_init_134 : decode cX10_init 134 = .ok (.putfield 56, 3) := by decide +kernel
theorem dX10_init_137 : decode cX10_init 137 = .ok (.aload_n 0, 1) := by decide +kernel
theorem dX10_init_138 : decode cX10_init 138 = .ok (.sipush 1000, 3) := by decide +kernel
theorem dX10_init_141 : decode cX10_init 141 = .ok (.newarray .int, 2) := by decide +kernel
theorem dX10_init_143 : decode cX10_init 143 = .ok (.putfield 59, 3) := by decide +kernel
theorem dX10_init_146 : decode cX10_init 146 = .ok (.aload_n 0, 1) := by decide +kernel
theorem dX10_init_147 : decode cX10_init 147 = .ok (.bipush 40, 2) := by decide +kernel
theorem dX10_init_149 : decode cX10_init 149 = .ok (.newarray .int, 2) := by decide +kernel
theorem dX10_init_151 : decode cX10_init 151 = .ok (.putfield 62, 3) := by decide +kernel
theorem dX10_init_154 : decode cX10_init 154 = .ok (.aload_n 0, 1) := by decide +kernel
theorem dX10_init_155 : decode cX10_init 155 = .ok (.bipush 40, 2) := by decide +kernel
theorem dX10_init_157 : decode cX10_init 157 = .ok (.newarray .int, 2) := by decide +kernel
theorem dX10_init_159 : decode cX10_init 159 = .ok (.putfield 65, 3) := by decide +kernel
theorem dX10_init_162 : decode cX10_init 162 = .ok (.aload_n 0, 1) := by decide +kernel
theorem dX10_init_163 : decode cX10_init 163 = .ok (.bipush 40, 2) := by decide +kernel
theorem dX10_init_165 : decode cX10_init 165 = .ok (.newarray .int, 2) := by decide +kernel
theorem dX10_init_167 : decode cX10_init 167 = .ok (.putfield 68, 3) := by decide +kernel
theorem dX10_init_170 : decode cX10_init 170 = .ok (.aload_n 0, 1) := by decide +kernel
theorem dX10_init_171 : decode cX10_init 171 = .ok (.bipush 40, 2) := by decide +kernel
theorem dX10_init_173 : decode cX10_init 173 = .ok (.newarray .int, 2) := by decide +kernel
theorem dX10_init_175 : decode cX10_init 175 = .ok (.putfield 71, 3) := by decide +kernel
theorem dX10_init_178 : decode cX10_init 178 = .ok (.aload_n 0, 1) := by decide +kernel
theorem dX10_init_179 : decode cX10_init 179 = .ok (.bipush 10, 2) := by decide +kernel
theorem dX10_init_181 : decode cX10_init 181 = .ok (.newarray .int, 2) := by decide +kernel
theorem dX10_init_183 : decode cX10_init 183 = .ok (.putfield 74, 3) := by decide +kernel
theorem dX10_init_186 : decode cX10_init 186 = .ok (.aload_n 0, 1) := by decide +kernel
theorem dX10_init_187 : decode cX10_init 187 = .ok (.iconst 2, 1) := by decide +kernel
theorem dX10_init_188 : decode cX10_init 188 = .ok (.newarray .int, 2) := by decide +kernel
theorem dX10_init_190 : decode cX10_init 190 = .ok (.putfield 77, 3) := by decide +kernel
theorem dX10_init_193 : decode cX10_init 193 = .ok (.aload_n 0, 1) := by decide +kernel
theorem dX10_init_194 : decode cX10_init 194 = .ok (.bipush 64, 2) := by decide +kernel
theorem dX10_init_196 : decode cX10_init 196 = .ok (.newarray .int, 2) := by decide +kernel
theorem dX10_init_198 : decode cX10_init 198 = .ok (.putfield 80, 3) := by decide +kernel
theorem dX10_init_201 : decode cX10_init 201 = .ok (.aload_n 0, 1) := by decide +kernel
theorem dX10_init_202 : decode cX10_init 202 = .ok (.bipush 64, 2) := by decide +kernel
theorem dX10_init_204 : decode cX10_init 204 = .ok (.newarray .int, 2) := by decide +kernel
theorem dX10_init_206 : decode cX10_init 206 = .ok (.putfield 83, 3) := by decide +kernel
theorem dX10_init_209 : decode cX10_init 209 = .ok (.aload_n 0, 1) := by decide +kernel
theorem dX10_init_210 : decode cX10_init 210 = .ok (.bipush 64, 2) := by decide +kernel
theorem dX10_init_212 : decode cX10_init 212 = .ok (.newarray .int, 2) := by decide +kernel
theorem dX10_init_214 : decode cX10_init 214 = .ok (.putfield 86, 3) := by decide +kernel
theorem dX10_init_217 : decode cX10_init 217 = .ok (.aload_n 0, 1) := by decide +kernel
theorem dX10_init_218 : decode cX10_init 218 = .ok (.bipush 64, 2) := by decide +kernel
theorem dX10_init_220 : decode cX10_init 220 = .ok (.newarray .int, 2) := by decide +kernel
theorem dX10_init_222 : decode cX10_init 222 = .ok (.putfield 89, 3) := by decide +kernel
theorem dX10_init_225 : decode cX10_init 225 = .ok (.aload_n 0, 1) := by decide +kernel
theorem dX10_init_226 : decode cX10_init 226 = .ok (.bipush 64, 2) := by decide +kernel
theorem dX10_init_228 : decode cX10_init 228 = .ok (.newarray .boolean, 2) := by decide +kernel
theorem dX10_init_230 : decode cX10_init 230 = .ok (.putfield 92, 3) := by decide +kernel
theorem dX10_init_233 : decode cX10_init 233 = .ok (.aload_n 0, 1) := by decide +kernel
theorem dX10_init_234 : decode cX10_init 234 = .ok (.bipush 20, 2) := by decide +kernel
theorem dX10_init_236 : decode cX10_init 236 = .ok (.newarray .int, 2) := by decide +kernel
theorem dX10_init_238 : decode cX10_init 238 = .ok (.putfield 95, 3) := by decide +kernel
theorem dX10_init_241 : decode cX10_init 241 = .ok (.aload_n 0, 1) := by decide +kernel
theorem dX10_init_242 : decode cX10_init 242 = .ok (.bipush 20, 2) := by decide +kernel
theorem dX10_init_244 : decode cX10_init 244 = .ok (.newarray .int, 2) := by decide +kernel
theorem dX10_init_246 : decode cX10_init 246 = .ok (.putfield 98, 3) := by decide +kernel
theorem dX10_init_249 : decode cX10_init 249 = .ok (.aload_n 0, 1) := by decide +kernel
theorem dX10_init_250 : decode cX10_init 250 = .ok (.bipush 20, 2) := by decide +kernel
theorem dX10_init_252 : decode cX10_init 252 = .ok (.newarray .int, 2) := by decide +kernel
theorem dX10_init_254 : decode cX10_init 254 = .ok (.putfield 101, 3) := by decide +kernel
theorem dX10_init_257 : decode cX10_init 257 = .ok (.aload_n 0, 1) := by decide +kernel
theorem dX10_init_258 : decode cX10_init 258 = .ok (.bipush 60, 2) := by decide +kernel
theorem dX10_init_260 : decode cX10_init 260 = .ok (.newarray .int, 2) := by decide +kernel
theorem dX10_init_262 : decode cX10_init 262 = .ok (.putfield 104, 3) := by decide +kernel
theorem dX10_init_265 : decode cX10_init 265 = .ok (.aload_n 0, 1) := by decide +kernel
theorem dX10_init_266 : decode cX10_init 266 = .ok (.iconst 3, 1) := by decide +kernel
theorem dX10_init_267 : decode cX10_init 267 = .ok (.newarray .int, 2) := by decide +kernel
theorem dX10_init_269 : decode cX10_init 269 = .ok (.putfield 107, 3) := by decide +kernel
theorem dX10_init_272 : decode cX10_init 272 = .ok (.aload_n 0, 1) := by decide +kernel
theorem dX10_init_273 : decode cX10_init 273 = .ok (.sipush 1500, 3) := by decide +kernel
theorem dX10_init_276 : decode cX10_init 276 = .ok (.putfield 110, 3) := by decide +kernel
theorem dX10_init_279 : decode cX10_init 279 = .ok (.aload_n 0, 1) := by decide +kernel
theorem dX10_init_280 : decode cX10_init 280 = .ok (.getfield 32, 3) := by decide +kernel
theorem dX10_init_283 : decode cX10_init 283 = .ok (.iconst 0, 1) := by decide +kernel
theorem dX10_init_284 : decode cX10_init 284 = .ok (.iconst (-1), 1) := by decide +kernel
theorem dX10_init_285 : decode cX10_init 285 = .ok (.iastore, 1) := by decide +kernel
theorem dX10_init_286 : decode cX10_init 286 = .ok (.aload_n 0, 1) := by decide +kernel
theorem dX10_init_287 : decode cX10_init 287 = .ok (.bipush (-9), 2) := by decide +kernel
theorem dX10_init_289 : decode cX10_init 289 = .ok (.putfield 114, 3) := by decide +kernel
theorem dX10_init_292 : decode cX10_init 292 = .ok (.aload_n 0, 1) := by decide +kernel
theorem dX10_init_293 : decode cX10_init 293 = .ok (.iconst 0, 1) := by decide +kernel
theorem dX10_init_294 : decode cX10_init 294 = .ok (.putfield 117, 3) := by decide +kernel
theorem dX10_init_297 : decode cX10_init 297 = .ok (.return_, 1) := by decide +kernel
theorem dX10_in_0 : decode cX10_in 0 = .ok (.iload_n 0, 1) := by decide +kernel
theorem dX10_in_1 : decode cX10_in 1 = .ok (.iload_n 1, 1) := by decide +kernel
theorem dX10_in_2 : decode cX10_in 2 = .ok (.if_icmp .lt 12, 3) := by decide +kernel
theorem dX10_in_5 : decode cX10_in 5 = .ok (.iload_n 0, 1) := by decide +kernel
theorem dX10_in_6 : decode cX10_in 6 = .ok (.iload_n 2, 1) := by decide +kernel
theorem dX10_in_7 : decode cX10_in 7 = .ok (.if_icmp .gt 7, 3) := by decide +kernel
theorem dX10_in_10 : decode cX10_in 10 = .ok (.iconst 1, 1) := by decide +kernel
theorem dX10_in_11 : decode cX10_in 11 = .ok (.goto 4, 3) := by decide +kernel
theorem dX10_in_14 : decode cX10_in 14 = .ok (.iconst 0, 1) := by decide +kernel
theorem dX10_in_15 : decode cX10_in 15 = .ok (.ireturn, 1) := by decide +kernel
theorem dX10_lost_0 : decode cX10_lost 0 = .ok (.ldc2_w 121, 3) := by decide +kernel
theorem dX10_lost_3 : decode cX10_lost 3 = .ok (.lreturn, 1) := by decide +kernel
theorem dX10_noMaker_0 : decode cX10_noMaker 0 = .ok (.iload_n 1, 1) := by decide +kernel
theorem dX10_noMaker_1 : decode cX10_noMaker 1 = .ok (.iconst 0, 1) := by decide +kernel
theorem dX10_noMaker_2 : decode cX10_noMaker 2 = .ok (.aload_n 0, 1) := by decide +kernel
theorem dX10_noMaker_3 : decode cX10_noMaker 3 = .ok (.getfield 123, 3) := by decide +kernel
theorem dX10_noMaker_6 : decode cX10_noMaker 6 = .ok (.iconst 1, 1) := by decide +kernel
theorem dX10_noMaker_7 : decode cX10_noMaker 7 = .ok (.isub, 1) := by decide +kernel
theorem dX10_noMaker_8 : decode cX10_noMaker 8 = .ok (.invokestatic 126, 3) := by decide +kernel
theorem dX10_noMaker_11 : decode cX10_noMaker 11 = .ok (.ifCond .ne 7, 3) := by decide +kernel
theorem dX10_noMaker_14 : decode cX10_noMaker 14 = .ok (.iconst 1, 1) := by decide +kernel
theorem dX10_noMaker_15 : decode cX10_noMaker 15 = .ok (.goto 4, 3) := by decide +kernel
theorem dX10_noMaker_18 : decode cX10_noMaker 18 = .ok (.iconst 0, 1) := by decide +kernel
theorem dX10_noMaker_19 : decode cX10_noMaker 19 = .ok (.ireturn, 1) := by decide +kernel
theorem dX10_added_0 : decode cX10_added 0 = .ok (.aload_n 0, 1) := by decide +kernel
theorem dX10_added_1 : decode cX10_added 1 = .ok (.getfield 123, 3) := by decide +kernel
theorem dX10_added_4 : decode cX10_added 4 = .ok (.bipush 30, 2) := by decide +kernel
theorem dX10_added_6 : decode cX10_added 6 = .ok (.if_icmp .eq 10, 3) := by decide +kernel
theorem dX10_added_9 : decode cX10_added 9 = .ok (.iload 6, 2) := by decide +kernel
theorem dX10_added_11 : decode cX10_added 11 = .ok (.bipush 24, 2) := by decide +kernel
theorem dX10_added_13 : decode cX10_added 13 = .ok (.if_icmp .le 6, 3) := by decide +kernel
theorem dX10_added_16 : decode cX10_added 16 = .ok (.bipush (-4), 2) := by decide +kernel
theorem dX10_added_18 : decode cX10_added 18 = .ok (.ireturn, 1) := by decide +kernel
theorem dX10_added_19 : decode cX10_added 19 = .ok (.aload_n 0, 1) := by decide +kernel
theorem dX10_added_20 : decode cX10_added 20 = .ok (.getfield 7, 3) := by decide +kernel
theorem dX10_added_23 : decode cX10_added 23 = .ok (.aload_n 0, 1) := by decide +kernel
theorem dX10_added_24 : decode cX10_added 24 = .ok (.getfield 123, 3) := by decide +kernel
theorem dX10_added_27 : decode cX10_added 27 = .ok (.iload_n 1, 1) := by decide +kernel
theorem dX10_added_28 : decode cX10_added 28 = .ok (.iastore, 1) := by decide +kernel
theorem dX10_added_29 : decode cX10_added 29 = .ok (.aload_n 0, 1) := by decide +kernel
theorem dX10_added_30 : decode cX10_added 30 = .ok (.getfield 13, 3) := by decide +kernel
theorem dX10_added_33 : decode cX10_added 33 = .ok (.aload_n 0, 1) := by decide +kernel
theorem dX10_added_34 : decode cX10_added 34 = .ok (.getfield 123, 3) := by decide +kernel
theorem dX10_added_37 : decode cX10_added 37 = .ok (.iload_n 2, 1) := by decide +kernel
theorem dX10_added_38 : decode cX10_added 38 = .ok (.iastore, 1) := by decide +kernel
theorem dX10_added_39 : decode cX10_added 39 = .ok (.aload_n 0, 1) := by decide +kernel
theorem dX10_added_40 : decode cX10_added 40 = .ok (.getfield 16, 3) := by decide +kernel
theorem dX10_added_43 : decode cX10_added 43 = .ok (.aload_n 0, 1) := by decide +kernel
theorem dX10_added_44 : decode cX10_added 44 = .ok (.getfield 123, 3) := by decide +kernel
theorem dX10_added_47 : decode cX10_added 47 = .ok (.iload_n 3, 1) := by decide +kernel
theorem dX10_added_48 : decode cX10_added 48 = .ok (.iastore, 1) := by decide +kernel
theorem dX10_added_49 : decode cX10_added 49 = .ok (.aload_n 0, 1) := by decide +kernel
theorem dX10_added_50 : decode cX10_added 50 = .ok (.getfield 19, 3) := by decide +kernel
theorem dX10_added_53 : decode cX10_added 53 = .ok (.aload_n 0, 1) := by decide +kernel
theorem dX10_added_54 : decode cX10_added 54 = .ok (.getfield 123, 3) := by decide +kernel
theorem dX10_added_57 : decode cX10_added 57 = .ok (.iload 4, 2) := by decide +kernel
theorem dX10_added_59 : decode cX10_added 59 = .ok (.iastore, 1) := by decide +kernel
theorem dX10_added_60 : decode cX10_added 60 = .ok (.aload_n 0, 1) := by decide +kernel
theorem dX10_added_61 : decode cX10_added 61 = .ok (.getfield 22, 3) := by decide +kernel
theorem dX10_added_64 : decode cX10_added 64 = .ok (.aload_n 0, 1) := by decide +kernel
theorem dX10_added_65 : decode cX10_added 65 = .ok (.getfield 123, 3) := by decide +kernel
theorem dX10_added_68 : decode cX10_added 68 = .ok (.iload 5, 2) := by decide +kernel
theorem dX10_added_70 : decode cX10_added 70 = .ok (.iastore, 1) := by decide +kernel
theorem dX10_added_71 : decode cX10_added 71 = .ok (.aload_n 0, 1) := by decide +kernel
theorem dX10_added_72 : decode cX10_added 72 = .ok (.getfield 25, 3) := by decide +kernel
theorem dX10_added_75 : decode cX10_added 75 = .ok (.aload_n 0, 1) := by decide +kernel
theorem dX10_added_76 : decode cX10_added 76 = .ok (.getfield 123, 3) := by decide +kernel
theorem dX10_added_79 : decode cX10_added 79 = .ok (.iload 6, 2) := by decide +kernel
theorem dX10_added_81 : decode cX10_added 81 = .ok (.iastore, 1) := by decide +kernel
theorem dX10_added_82 : decode cX10_added 82 = .ok (.aload_n 0, 1) := by decide +kernel
theorem dX10_added_83 : decode cX10_added 83 = .ok (.getfield 28, 3) := by decide +kernel
theorem dX10_added_86 : decode cX10_added 86 = .ok (.aload_n 0, 1) := by decide +kernel
theorem dX10_added_87 : decode cX10_added 87 = .ok (.getfield 123, 3) := by decide +kernel
theorem dX10_added_90 : decode cX10_added 90 = .ok (.iload 7, 2) := by decide +kernel
theorem dX10_added_92 : decode cX10_added 92 = .ok (.bastore, 1) := by decide +kernel
theorem dX10_added_93 : decode cX10_added 93 = .ok (.aload_n 0, 1) := by decide +kernel
theorem dX10_added_94 : decode cX10_added 94 = .ok (.dup, 1) := by decide +kernel
theorem dX10_added_95 : decode cX10_added 95 = .ok (.getfield 123, 3) := by decide +kernel
theorem dX10_added_98 : decode cX10_added 98 = .ok (.iconst 1, 1) := by decide +kernel
theorem dX10_added_99 : decode cX10_added 99 = .ok (.iadd, 1) := by decide +kernel
theorem dX10_added_100 : decode cX10_added 100 = .ok (.putfield 123, 3) := by decide +kernel
theorem dX10_added_103 : decode cX10_added 103 = .ok (.aload_n 0, 1) := by decide +kernel
theorem dX10_added_104 : decode cX10_added 104 = .ok (.getfield 123, 3) := by decide +kernel
theorem dX10_added_107 : decode cX10_added 107 = .ok (.iconst 1, 1) := by decide +kernel
theorem dX10_added_108 : decode cX10_added 108 = .ok (.isub, 1) := by decide +kernel
theorem dX10_added_109 : decode cX10_added 109 = .ok (.ireturn, 1) := by decide +kernel
theorem dX10_whole_0 : decode cX10_whole 0 = .ok (.iload_n 1, 1) := by decide +kernel
theorem dX10_whole_1 : decode cX10_whole 1 = .ok (.ldc 130, 2) := by decide +kernel
theorem dX10_whole_3 : decode cX10_whole 3 = .ok (.ldc 131, 2) := by decide +kernel
theorem dX10_whole_5 : decode cX10_whole 5 = .ok (.invokestatic 126, 3) := by decide +kernel
theorem dX10_whole_8 : decode cX10_whole 8 = .ok (.ifCond .eq 13, 3) := by decide +kernel
theorem dX10_whole_11 : decode cX10_whole 11 = .ok (.iload_n 2, 1) := by decide +kernel
theorem dX10_whole_12 : decode cX10_whole 12 = .ok (.iload_n 1, 1) := by decide +kernel
theorem dX10_whole_13 : decode cX10_whole 13 = .ok (.ldc 131, 2) := by decide +kernel
theorem dX10_whole_15 : decode cX10_whole 15 = .ok (.invokestatic 126, 3) := by decide +kernel
theorem dX10_whole_18 : decode cX10_whole 18 = .ok (.ifCond .ne 6, 3) := by decide +kernel
theorem dX10_whole_21 : decode cX10_whole 21 = .ok (.bipush (-2), 2) := by decide +kernel
theorem dX10_whole_23 : decode cX10_whole 23 = .ok (.ireturn, 1) := by decide +kernel
theorem dX10_whole_24 : decode cX10_whole 24 = .ok (.aload_n 0, 1) := by decide +kernel
theorem dX10_whole_25 : decode cX10_whole 25 = .ok (.iconst 0, 1) := by decide +kernel
theorem dX10_whole_26 : decode cX10_whole 26 = .ok (.iconst (-1), 1) := by decide +kernel
theorem dX10_whole_27 : decode cX10_whole 27 = .ok (.iconst (-1), 1) := by decide +kernel
theorem dX10_whole_28 : decode cX10_whole 28 = .ok (.iload_n 1, 1) := by decide +kernel
theorem dX10_whole_29 : decode cX10_whole 29 = .ok (.iload_n 2, 1) := by decide +kernel
theorem dX10_whole_30 : decode cX10_whole 30 = .ok (.iconst 1, 1) := by decide +kernel
theorem dX10_whole_31 : decode cX10_whole 31 = .ok (.iconst 0, 1) := by decide +kernel
theorem dX10_whole_32 : decode cX10_whole 32 = .ok (.invokevirtual 132, 3) := by decide +kernel
theorem dX10_whole_35 : decode cX10_whole 35 = .ok (.ireturn, 1) := by decide +kernel
theorem dX10_listOf_0 : decode cX10_listOf 0 = .ok (.aload_n 0, 1) := by decide +kernel
theorem dX10_listOf_1 : decode cX10_listOf 1 = .ok (.iload_n 1, 1) := by decide +kernel
theorem dX10_listOf_2 : decode cX10_listOf 2 = .ok (.invokevirtual 136, 3) := by decide +kernel
theorem dX10_listOf_5 : decode cX10_listOf 5 = .ok (.ifCond .eq 5, 3) := by decide +kernel
theorem dX10_listOf_8 : decode cX10_listOf 8 = .ok (.iconst (-1), 1) := by decide +kernel
theorem dX10_listOf_9 : decode cX10_listOf 9 = .ok (.ireturn, 1) := by decide +kernel
theorem dX10_listOf_10 : decode cX10_listOf 10 = .ok (.iload_n 2, 1) := by decide +kernel
theorem dX10_listOf_11 : decode cX10_listOf 11 = .ok (.iconst 1, 1) := by decide +kernel
theorem dX10_listOf_12 : decode cX10_listOf 12 = .ok (.bipush 24, 2) := by decide +kernel
theorem dX10_listOf_14 : decode cX10_listOf 14 = .ok (.invokestatic 126, 3) := by decide +kernel
theorem dX10_listOf_17 : decode cX10_listOf 17 = .ok (.ifCond .eq 29, 3) := by decide +kernel
theorem dX10_listOf_20 : decode cX10_listOf 20 = .ok (.aload_n 0, 1) := by decide +kernel
theorem dX10_listOf_21 : decode cX10_listOf 21 = .ok (.iconst 1, 1) := by decide +kernel
theorem dX10_listOf_22 : decode cX10_listOf 22 = .ok (.iload_n 1, 1) := by decide +kernel
theorem dX10_listOf_23 : decode cX10_listOf 23 = .ok (.iconst (-1), 1) := by decide +kernel
theorem dX10_listOf_24 : decode cX10_listOf 24 = .ok (.iload_n 2, 1) := by decide +kernel
theorem dX10_listOf_25 : decode cX10_listOf 25 = .ok (.iconst 0, 1) := by decide +kernel
theorem dX10_listOf_26 : decode cX10_listOf 26 = .ok (.iload_n 2, 1) := by decide +kernel
theorem dX10_listOf_27 : decode cX10_listOf 27 = .ok (.aload_n 0, 1) := by decide +kernel
theorem dX10_listOf_28 : decode cX10_listOf 28 = .ok (.getfield 25, 3) := by decide +kernel
theorem dX10_listOf_31 : decode cX10_listOf 31 = .ok (.iload_n 1, 1) := by decide +kernel
theorem dX10_listOf_32 : decode cX10_listOf 32 = .ok (.iaload, 1) := by decide +kernel
theorem dX10_listOf_33 : decode cX10_listOf 33 = .ok (.imul, 1) := by decide +kernel
theorem dX10_listOf_34 : decode cX10_listOf 34 = .ok (.aload_n 0, 1) := by decide +kernel
theorem dX10_listOf_35 : decode cX10_listOf 35 = .ok (.getfield 28, 3) := by decide +kernel
theorem dX10_listOf_38 : decode cX10_listOf 38 = .ok (.iload_n 1, 1) := by decide +kernel
theorem dX10_listOf_39 : decode cX10_listOf 39 = .ok (.baload, 1) := by decide +kernel
theorem dX10_listOf_40 : decode cX10_listOf 40 = .ok (.invokevirtual 132, 3) := by decide +kernel
theorem dX10_listOf_43 : decode cX10_listOf 43 = .ok (.goto 5, 3) := by decide +kernel
theorem dX10_listOf_46 : decode cX10_listOf 46 = .ok (.bipush (-2), 2) := by decide +kernel
theorem dX10_listOf_48 : decode cX10_listOf 48 = .ok (.ireturn, 1) := by decide +kernel
theorem dX10_pair_0 : decode cX10_pair 0 = .ok (.aload_n 0, 1) := by decide +kernel
theorem dX10_pair_1 : decode cX10_pair 1 = .ok (.iload_n 1, 1) := by decide +kernel
theorem dX10_pair_2 : decode cX10_pair 2 = .ok (.invokevirtual 136, 3) := by decide +kernel
theorem dX10_pair_5 : decode cX10_pair 5 = .ok (.ifCond .ne 11, 3) := by decide +kernel
theorem dX10_pair_8 : decode cX10_pair 8 = .ok (.aload_n 0, 1) := by decide +kernel
theorem dX10_pair_9 : decode cX10_pair 9 = .ok (.iload_n 2, 1) := by decide +kernel
theorem dX10_pair_10 : decode cX10_pair 10 = .ok (.invokevirtual 136, 3) := by decide +kernel
theorem dX10_pair_13 : decode cX10_pair 13 = .ok (.ifCond .eq 5, 3) := by decide +kernel
theorem dX10_pair_16 : decode cX10_pair 16 = .ok (.iconst (-1), 1) := by decide +kernel
theorem dX10_pair_17 : decode cX10_pair 17 = .ok (.ireturn, 1) := by decide +kernel
theorem dX10_pair_18 : decode cX10_pair 18 = .ok (.aload_n 0, 1) := by decide +kernel
theorem dX10_pair_19 : decode cX10_pair 19 = .ok (.iconst 2, 1) := by decide +kernel
theorem dX10_pair_20 : decode cX10_pair 20 = .ok (.iload_n 1, 1) := by decide +kernel
theorem dX10_pair_21 : decode cX10_pair 21 = .ok (.iload_n 2, 1) := by decide +kernel
theorem dX10_pair_22 : decode cX10_pair 22 = .ok (.iconst 0, 1) := by decide +kernel
theorem dX10_pair_23 : decode cX10_pair 23 = .ok (.iconst 0, 1) := by decide +kernel
theorem dX10_pair_24 : decode cX10_pair 24 = .ok (.aload_n 0, 1) := by decide +kernel
theorem dX10_pair_25 : decode cX10_pair 25 = .ok (.getfield 25, 3) := by decide +kernel
theorem dX10_pair_28 : decode cX10_pair 28 = .ok (.iload_n 1, 1) := by decide +kernel
theorem dX10_pair_29 : decode cX10_pair 29 = .ok (.iaload, 1) := by decide +kernel
theorem dX10_pair_30 : decode cX10_pair 30 = .ok (.aload_n 0, 1) := by decide +kernel
theorem dX10_pair_31 : decode cX10_pair 31 = .ok (.getfield 25, 3) := by decide +kernel
theorem dX10_pair_34 : decode cX10_pair 34 = .ok (.iload_n 2, 1) := by decide +kernel
theorem dX10_pair_35 : decode cX10_pair 35 = .ok (.iaload, 1) := by decide +kernel
theorem dX10_pair_36 : decode cX10_pair 36 = .ok (.iadd, 1) := by decide +kernel
theorem dX10_pair_37 : decode cX10_pair 37 = .ok (.aload_n 0, 1) := by decide +kernel
theorem dX10_pair_38 : decode cX10_pair 38 = .ok (.getfield 28, 3) := by decide +kernel
theorem dX10_pair_41 : decode cX10_pair 41 = .ok (.iload_n 1, 1) := by decide +kernel
theorem dX10_pair_42 : decode cX10_pair 42 = .ok (.baload, 1) := by decide +kernel
theorem dX10_pair_43 : decode cX10_pair 43 = .ok (.ifCond .ne 12, 3) := by decide +kernel
theorem dX10_pair_46 : decode cX10_pair 46 = .ok (.aload_n 0, 1) := by decide +kernel
theorem dX10_pair_47 : decode cX10_pair 47 = .ok (.getfield 28, 3) := by decide +kernel
theorem dX10_pair_50 : decode cX10_pair 50 = .ok (.iload_n 2, 1) := by decide +kernel
theorem dX10_pair_51 : decode cX10_pair 51 = .ok (.baload, 1) := by decide +kernel
theorem dX10_pair_52 : decode cX10_pair 52 = .ok (.ifCond .eq 7, 3) := by decide +kernel
theorem dX10_pair_55 : decode cX10_pair 55 = .ok (.iconst 1, 1) := by decide +kernel
theorem dX10_pair_56 : decode cX10_pair 56 = .ok (.goto 4, 3) := by decide +kernel
theorem dX10_pair_59 : decode cX10_pair 59 = .ok (.iconst 0, 1) := by decide +kernel
theorem dX10_pair_60 : decode cX10_pair 60 = .ok (.invokevirtual 132, 3) := by decide +kernel
theorem dX10_pair_63 : decode cX10_pair 63 = .ok (.ireturn, 1) := by decide +kernel
theorem dX10_oneOf_0 : decode cX10_oneOf 0 = .ok (.aload_n 0, 1) := by decide +kernel
theorem dX10_oneOf_1 : decode cX10_oneOf 1 = .ok (.iload_n 1, 1) := by decide +kernel
theorem dX10_oneOf_2 : decode cX10_oneOf 2 = .ok (.invokevirtual 136, 3) := by decide +kernel
theorem dX10_oneOf_5 : decode cX10_oneOf 5 = .ok (.ifCond .ne 11, 3) := by decide +kernel
theorem dX10_oneOf_8 : decode cX10_oneOf 8 = .ok (.aload_n 0, 1) := by decide +kernel
theorem dX10_oneOf_9 : decode cX10_oneOf 9 = .ok (.iload_n 3, 1) := by decide +kernel
theorem dX10_oneOf_10 : decode cX10_oneOf 10 = .ok (.invokevirtual 136, 3) := by decide +kernel
theorem dX10_oneOf_13 : decode cX10_oneOf 13 = .ok (.ifCond .eq 5, 3) := by decide +kernel
theorem dX10_oneOf_16 : decode cX10_oneOf 16 = .ok (.iconst (-1), 1) := by decide +kernel
theorem dX10_oneOf_17 : decode cX10_oneOf 17 = .ok (.ireturn, 1) := by decide +kernel
theorem dX10_oneOf_18 : decode cX10_oneOf 18 = .ok (.iload_n 2, 1) := by decide +kernel
theorem dX10_oneOf_19 : decode cX10_oneOf 19 = .ok (.iconst 1, 1) := by decide +kernel
theorem dX10_oneOf_20 : decode cX10_oneOf 20 = .ok (.bipush 100, 2) := by decide +kernel
theorem dX10_oneOf_22 : decode cX10_oneOf 22 = .ok (.invokestatic 126, 3) := by decide +kernel
theorem dX10_oneOf_25 : decode cX10_oneOf 25 = .ok (.ifCond .eq 14, 3) := by decide +kernel
theorem dX10_oneOf_28 : decode cX10_oneOf 28 = .ok (.iload 4, 2) := by decide +kernel
theorem dX10_oneOf_30 : decode cX10_oneOf 30 = .ok (.iconst 1, 1) := by decide +kernel
theorem dX10_oneOf_31 : decode cX10_oneOf 31 = .ok (.bipush 100, 2) := by decide +kernel
theorem dX10_oneOf_33 : decode cX10_oneOf 33 = .ok (.invokestatic 126, 3) := by decide +kernel
theorem dX10_oneOf_36 : decode cX10_oneOf 36 = .ok (.ifCond .ne 6, 3) := by decide +kernel
theorem dX10_oneOf_39 : decode cX10_oneOf 39 = .ok (.bipush (-2), 2) := by decide +kernel
theorem dX10_oneOf_41 : decode cX10_oneOf 41 = .ok (.ireturn, 1) := by decide +kernel
theorem dX10_oneOf_42 : decode cX10_oneOf 42 = .ok (.aload_n 0, 1) := by decide +kernel
theorem dX10_oneOf_43 : decode cX10_oneOf 43 = .ok (.iconst 3, 1) := by decide +kernel
theorem dX10_oneOf_44 : decode cX10_oneOf 44 = .ok (.iload_n 1, 1) := by decide +kernel
theorem dX10_oneOf_45 : decode cX10_oneOf 45 = .ok (.iload_n 3, 1) := by decide +kernel
theorem dX10_oneOf_46 : decode cX10_oneOf 46 = .ok (.iload_n 2, 1) := by decide +kernel
theorem dX10_oneOf_47 : decode cX10_oneOf 47 = .ok (.iload 4, 2) := by decide +kernel
theorem dX10_oneOf_49 : decode cX10_oneOf 49 = .ok (.aload_n 0, 1) := by decide +kernel
theorem dX10_oneOf_50 : decode cX10_oneOf 50 = .ok (.getfield 25, 3) := by decide +kernel
theorem dX10_oneOf_53 : decode cX10_oneOf 53 = .ok (.iload_n 1, 1) := by decide +kernel
theorem dX10_oneOf_54 : decode cX10_oneOf 54 = .ok (.iaload, 1) := by decide +kernel
theorem dX10_oneOf_55 : decode cX10_oneOf 55 = .ok (.aload_n 0, 1) := by decide +kernel
theorem dX10_oneOf_56 : decode cX10_oneOf 56 = .ok (.getfield 25, 3) := by decide +kernel
theorem dX10_oneOf_59 : decode cX10_oneOf 59 = .ok (.iload_n 3, 1) := by decide +kernel
theorem dX10_oneOf_60 : decode cX10_oneOf 60 = .ok (.iaload, 1) := by decide +kernel
theorem dX10_oneOf_61 : decode cX10_oneOf 61 = .ok (.if_icmp .le 12, 3) := by decide +kernel
theorem dX10_oneOf_64 : decode cX10_oneOf 64 = .ok (.aload_n 0, 1) := by decide +kernel
theorem dX10_oneOf_65 : decode cX10_oneOf 65 = .ok (.getfield 25, 3) := by decide +kernel
theorem dX10_oneOf_68 : decode cX10_oneOf 68 = .ok (.iload_n 1, 1) := by decide +kernel
theorem dX10_oneOf_69 : decode cX10_oneOf 69 = .ok (.iaload, 1) := by decide +kernel
theorem dX10_oneOf_70 : decode cX10_oneOf 70 = .ok (.goto 9, 3) := by decide +kernel
theorem dX10_oneOf_73 : decode cX10_oneOf 73 = .ok (.aload_n 0, 1) := by decide +kernel
theorem dX10_oneOf_74 : decode cX10_oneOf 74 = .ok (.getfield 25, 3) := by decide +kernel
theorem dX10_oneOf_77 : decode cX10_oneOf 77 = .ok (.iload_n 3, 1) := by decide +kernel
theorem dX10_oneOf_78 : decode cX10_oneOf 78 = .ok (.iaload, 1) := by decide +kernel
theorem dX10_oneOf_79 : decode cX10_oneOf 79 = .ok (.aload_n 0, 1) := by decide +kernel
theorem dX10_oneOf_80 : decode cX10_oneOf 80 = .ok (.getfield 28, 3) := by decide +kernel
theorem dX10_oneOf_83 : decode cX10_oneOf 83 = .ok (.iload_n 1, 1) := by decide +kernel
theorem dX10_oneOf_84 : decode cX10_oneOf 84 = .ok (.baload, 1) := by decide +kernel
theorem dX10_oneOf_85 : decode cX10_oneOf 85 = .ok (.ifCond .ne 12, 3) := by decide +kernel
theorem dX10_oneOf_88 : decode cX10_oneOf 88 = .ok (.aload_n 0, 1) := by decide +kernel
theorem dX10_oneOf_89 : decode cX10_oneOf 89 = .ok (.getfield 28, 3) := by decide +kernel
theorem dX10_oneOf_92 : decode cX10_oneOf 92 = .ok (.iload_n 3, 1) := by decide +kernel
theorem dX10_oneOf_93 : decode cX10_oneOf 93 = .ok (.baload, 1) := by decide +kernel
theorem dX10_oneOf_94 : decode cX10_oneOf 94 = .ok (.ifCond .eq 7, 3) := by decide +kernel
theorem dX10_oneOf_97 : decode cX10_oneOf 97 = .ok (.iconst 1, 1) := by decide +kernel
theorem dX10_oneOf_98 : decode cX10_oneOf 98 = .ok (.goto 4, 3) := by decide +kernel
theorem dX10_oneOf_101 : decode cX10_oneOf 101 = .ok (.iconst 0, 1) := by decide +kernel
theorem dX10_oneOf_102 : decode cX10_oneOf 102 = .ok (.invokevirtual 132, 3) := by decide +kernel
theorem dX10_oneOf_105 : decode cX10_oneOf 105 = .ok (.ireturn, 1) := by decide +kernel
theorem dX10_mapped_0 : decode cX10_mapped 0 = .ok (.aload_n 0, 1) := by decide +kernel
theorem dX10_mapped_1 : decode cX10_mapped 1 = .ok (.iload_n 1, 1) := by decide +kernel
theorem dX10_mapped_2 : decode cX10_mapped 2 = .ok (.invokevirtual 136, 3) := by decide +kernel
theorem dX10_mapped_5 : decode cX10_mapped 5 = .ok (.ifCond .eq 5, 3) := by decide +kernel
theorem dX10_mapped_8 : decode cX10_mapped 8 = .ok (.iconst (-1), 1) := by decide +kernel
theorem dX10_mapped_9 : decode cX10_mapped 9 = .ok (.ireturn, 1) := by decide +kernel
theorem dX10_mapped_10 : decode cX10_mapped 10 = .ok (.iload_n 2, 1) := by decide +kernel
theorem dX10_mapped_11 : decode cX10_mapped 11 = .ok (.iconst 0, 1) := by decide +kernel
theorem dX10_mapped_12 : decode cX10_mapped 12 = .ok (.iconst 4, 1) := by decide +kernel
theorem dX10_mapped_13 : decode cX10_mapped 13 = .ok (.invokestatic 126, 3) := by decide +kernel
theorem dX10_mapped_16 : decode cX10_mapped 16 = .ok (.ifCond .eq 29, 3) := by decide +kernel
theorem dX10_mapped_19 : decode cX10_mapped 19 = .ok (.aload_n 0, 1) := by decide +kernel
theorem dX10_mapped_20 : decode cX10_mapped 20 = .ok (.iconst 4, 1) := by decide +kernel
theorem dX10_mapped_21 : decode cX10_mapped 21 = .ok (.iload_n 1, 1) := by decide +kernel
theorem dX10_mapped_22 : decode cX10_mapped 22 = .ok (.iconst (-1), 1) := by decide +kernel
theorem dX10_mapped_23 : decode cX10_mapped 23 = .ok (.iload_n 2, 1) := by decide +kernel
theorem dX10_mapped_24 : decode cX10_mapped 24 = .ok (.iconst 0, 1) := by decide +kernel
theorem dX10_mapped_25 : decode cX10_mapped 25 = .ok (.aload_n 0, 1) := by decide +kernel
theorem dX10_mapped_26 : decode cX10_mapped 26 = .ok (.getfield 25, 3) := by decide +kernel
theorem dX10_mapped_29 : decode cX10_mapped 29 = .ok (.iload_n 1, 1) := by decide +kernel
theorem dX10_mapped_30 : decode cX10_mapped 30 = .ok (.iaload, 1) := by decide +kernel
theorem dX10_mapped_31 : decode cX10_mapped 31 = .ok (.iconst 1, 1) := by decide +kernel
theorem dX10_mapped_32 : decode cX10_mapped 32 = .ok (.iadd, 1) := by decide +kernel
theorem dX10_mapped_33 : decode cX10_mapped 33 = .ok (.aload_n 0, 1) := by decide +kernel
theorem dX10_mapped_34 : decode cX10_mapped 34 = .ok (.getfield 28, 3) := by decide +kernel
theorem dX10_mapped_37 : decode cX10_mapped 37 = .ok (.iload_n 1, 1) := by decide +kernel
theorem dX10_mapped_38 : decode cX10_mapped 38 = .ok (.baload, 1) := by decide +kernel
theorem dX10_mapped_39 : decode cX10_mapped 39 = .ok (.invokevirtual 132, 3) := by decide +kernel
theorem dX10_mapped_42 : decode cX10_mapped 42 = .ok (.goto 5, 3) := by decide +kernel
theorem dX10_mapped_45 : decode cX10_mapped 45 = .ok (.bipush (-2), 2) := by decide +kernel
theorem dX10_mapped_47 : decode cX10_mapped 47 = .ok (.ireturn, 1) := by decide +kernel
theorem dX10_picked_0 : decode cX10_picked 0 = .ok (.aload_n 0, 1) := by decide +kernel
theorem dX10_picked_1 : decode cX10_picked 1 = .ok (.iload_n 1, 1) := by decide +kernel
theorem dX10_picked_2 : decode cX10_picked 2 = .ok (.invokevirtual 136, 3) := by decide +kernel
theorem dX10_picked_5 : decode cX10_picked 5 = .ok (.ifCond .ne 11, 3) := by decide +kernel
theorem dX10_picked_8 : decode cX10_picked 8 = .ok (.aload_n 0, 1) := by decide +kernel
theorem dX10_picked_9 : decode cX10_picked 9 = .ok (.iload_n 2, 1) := by decide +kernel
theorem dX10_picked_10 : decode cX10_picked 10 = .ok (.invokevirtual 140, 3) := by decide +kernel
theorem dX10_picked_13 : decode cX10_picked 13 = .ok (.ifCond .eq 5, 3) := by decide +kernel
theorem dX10_picked_16 : decode cX10_picked 16 = .ok (.iconst (-1), 1) := by decide +kernel
theorem dX10_picked_17 : decode cX10_picked 17 = .ok (.ireturn, 1) := by decide +kernel
theorem dX10_picked_18 : decode cX10_picked 18 = .ok (.aload_n 0, 1) := by decide +kernel
theorem dX10_picked_19 : decode cX10_picked 19 = .ok (.getfield 28, 3) := by decide +kernel
theorem dX10_picked_22 : decode cX10_picked 22 = .ok (.iload_n 1, 1) := by decide +kernel
theorem dX10_picked_23 : decode cX10_picked 23 = .ok (.baload, 1) := by decide +kernel
theorem dX10_picked_24 : decode cX10_picked 24 = .ok (.ifCond .eq 8, 3) := by decide +kernel
theorem dX10_picked_27 : decode cX10_picked 27 = .ok (.bipush (-3), 2) := by decide +kernel
theorem dX10_picked_29 : decode cX10_picked 29 = .ok (.goto 21, 3) := by decide +kernel
theorem dX10_picked_32 : decode cX10_picked 32 = .ok (.aload_n 0, 1) := by decide +kernel
theorem dX10_picked_33 : decode cX10_picked 33 = .ok (.iconst 5, 1) := by decide +kernel
theorem dX10_picked_34 : decode cX10_picked 34 = .ok (.iload_n 1, 1) := by decide +kernel
theorem dX10_picked_35 : decode cX10_picked 35 = .ok (.iload_n 2, 1) := by decide +kernel
theorem dX10_picked_36 : decode cX10_picked 36 = .ok (.iconst 0, 1) := by decide +kernel
theorem dX10_picked_37 : decode cX10_picked 37 = .ok (.iconst 0, 1) := by decide +kernel
theorem dX10_picked_38 : decode cX10_picked 38 = .ok (.aload_n 0, 1) := by decide +kernel
theorem dX10_picked_39 : decode cX10_picked 39 = .ok (.getfield 25, 3) := by decide +kernel
theorem dX10_picked_42 : decode cX10_picked 42 = .ok (.iload_n 1, 1) := by decide +kernel
theorem dX10_picked_43 : decode cX10_picked 43 = .ok (.iaload, 1) := by decide +kernel
theorem dX10_picked_44 : decode cX10_picked 44 = .ok (.iconst 1, 1) := by decide +kernel
theorem dX10_picked_45 : decode cX10_picked 45 = .ok (.iadd, 1) := by decide +kernel
theorem dX10_picked_46 : decode cX10_picked 46 = .ok (.iconst 1, 1) := by decide +kernel
theorem dX10_picked_47 : decode cX10_picked 47 = .ok (.invokevirtual 132, 3) := by decide +kernel
theorem dX10_picked_50 : decode cX10_picked 50 = .ok (.ireturn, 1) := by decide +kernel
theorem dX10_shuffled_0 : decode cX10_shuffled 0 = .ok (.iload_n 1, 1) := by decide +kernel
theorem dX10_shuffled_1 : decode cX10_shuffled 1 = .ok (.iconst 1, 1) := by decide +kernel
theorem dX10_shuffled_2 : decode cX10_shuffled 2 = .ok (.bipush 24, 2) := by decide +kernel
theorem dX10_shuffled_4 : decode cX10_shuffled 4 = .ok (.invokestatic 126, 3) := by decide +kernel
theorem dX10_shuffled_7 : decode cX10_shuffled 7 = .ok (.ifCond .eq 18, 3) := by decide +kernel
theorem dX10_shuffled_10 : decode cX10_shuffled 10 = .ok (.aload_n 0, 1) := by decide +kernel
theorem dX10_shuffled_11 : decode cX10_shuffled 11 = .ok (.bipush 6, 2) := by decide +kernel
theorem dX10_shuffled_13 : decode cX10_shuffled 13 = .ok (.iconst (-1), 1) := by decide +kernel
theorem dX10_shuffled_14 : decode cX10_shuffled 14 = .ok (.iconst (-1), 1) := by decide +kernel
theorem dX10_shuffled_15 : decode cX10_shuffled 15 = .ok (.iload_n 1, 1) := by decide +kernel
theorem dX10_shuffled_16 : decode cX10_shuffled 16 = .ok (.iconst 0, 1) := by decide +kernel
theorem dX10_shuffled_17 : decode cX10_shuffled 17 = .ok (.iload_n 1, 1) := by decide +kernel
theorem dX10_shuffled_18 : decode cX10_shuffled 18 = .ok (.iconst 0, 1) := by decide +kernel
theorem dX10_shuffled_19 : decode cX10_shuffled 19 = .ok (.invokevirtual 132, 3) := by decide +kernel
theorem dX10_shuffled_22 : decode cX10_shuffled 22 = .ok (.goto 5, 3) := by decide +kernel
theorem dX10_shuffled_25 : decode cX10_shuffled 25 = .ok (.bipush (-2), 2) := by decide +kernel
theorem dX10_shuffled_27 : decode cX10_shuffled 27 = .ok (.ireturn, 1) := by decide +kernel
theorem dX10_below_0 : decode cX10_below 0 = .ok (.aload_n 0, 1) := by decide +kernel
theorem dX10_below_1 : decode cX10_below 1 = .ok (.iload_n 1, 1) := by decide +kernel
theorem dX10_below_2 : decode cX10_below 2 = .ok (.invokevirtual 136, 3) := by decide +kernel
theorem dX10_below_5 : decode cX10_below 5 = .ok (.ifCond .eq 7, 3) := by decide +kernel
theorem dX10_below_8 : decode cX10_below 8 = .ok (.iconst (-1), 1) := by decide +kernel
theorem dX10_below_9 : decode cX10_below 9 = .ok (.goto 27, 3) := by decide +kernel
theorem dX10_below_12 : decode cX10_below 12 = .ok (.aload_n 0, 1) := by decide +kernel
theorem dX10_below_13 : decode cX10_below 13 = .ok (.bipush 7, 2) := by decide +kernel
theorem dX10_below_15 : decode cX10_below 15 = .ok (.iload_n 1, 1) := by decide +kernel
theorem dX10_below_16 : decode cX10_below 16 = .ok (.iconst (-1), 1) := by decide +kernel
theorem dX10_below_17 : decode cX10_below 17 = .ok (.iconst 0, 1) := by decide +kernel
theorem dX10_below_18 : decode cX10_below 18 = .ok (.iconst 0, 1) := by decide +kernel
theorem dX10_below_19 : decode cX10_below 19 = .ok (.aload_n 0, 1) := by decide +kernel
theorem dX10_below_20 : decode cX10_below 20 = .ok (.getfield 25, 3) := by decide +kernel
theorem dX10_below_23 : decode cX10_below 23 = .ok (.iload_n 1, 1) := by decide +kernel
theorem dX10_below_24 : decode cX10_below 24 = .ok (.iaload, 1) := by decide +kernel
theorem dX10_below_25 : decode cX10_below 25 = .ok (.iconst 1, 1) := by decide +kernel
theorem dX10_below_26 : decode cX10_below 26 = .ok (.iadd, 1) := by decide +kernel
theorem dX10_below_27 : decode cX10_below 27 = .ok (.aload_n 0, 1) := by decide +kernel
theorem dX10_below_28 : decode cX10_below 28 = .ok (.getfield 28, 3) := by decide +kernel
theorem dX10_below_31 : decode cX10_below 31 = .ok (.iload_n 1, 1) := by decide +kernel
theorem dX10_below_32 : decode cX10_below 32 = .ok (.baload, 1) := by decide +kernel
theorem dX10_below_33 : decode cX10_below 33 = .ok (.invokevirtual 132, 3) := by decide +kernel
theorem dX10_below_36 : decode cX10_below 36 = .ok (.ireturn, 1) := by decide +kernel
theorem dX10_maker_0 : decode cX10_maker 0 = .ok (.aload_n 0, 1) := by decide +kernel
theorem dX10_maker_1 : decode cX10_maker 1 = .ok (.iload_n 1, 1) := by decide +kernel
theorem dX10_maker_2 : decode cX10_maker 2 = .ok (.invokevirtual 136, 3) := by decide +kernel
theorem dX10_maker_5 : decode cX10_maker 5 = .ok (.ifCond .eq 5, 3) := by decide +kernel
theorem dX10_maker_8 : decode cX10_maker 8 = .ok (.iconst (-1), 1) := by decide +kernel
theorem dX10_maker_9 : decode cX10_maker 9 = .ok (.ireturn, 1) := by decide +kernel
theorem dX10_maker_10 : decode cX10_maker 10 = .ok (.iload_n 2, 1) := by decide +kernel
theorem dX10_maker_11 : decode cX10_maker 11 = .ok (.ifCond .ne 12, 3) := by decide +kernel
theorem dX10_maker_14 : decode cX10_maker 14 = .ok (.aload_n 0, 1) := by decide +kernel
theorem dX10_maker_15 : decode cX10_maker 15 = .ok (.getfield 7, 3) := by decide +kernel
theorem dX10_maker_18 : decode cX10_maker 18 = .ok (.iload_n 1, 1) := by decide +kernel
theorem dX10_maker_19 : decode cX10_maker 19 = .ok (.iaload, 1) := by decide +kernel
theorem dX10_maker_20 : decode cX10_maker 20 = .ok (.goto 41, 3) := by decide +kernel
theorem dX10_maker_23 : decode cX10_maker 23 = .ok (.iload_n 2, 1) := by decide +kernel
theorem dX10_maker_24 : decode cX10_maker 24 = .ok (.iconst 1, 1) := by decide +kernel
theorem dX10_maker_25 : decode cX10_maker 25 = .ok (.if_icmp .ne 12, 3) := by decide +kernel
theorem dX10_maker_28 : decode cX10_maker 28 = .ok (.aload_n 0, 1) := by decide +kernel
theorem dX10_maker_29 : decode cX10_maker 29 = .ok (.getfield 25, 3) := by decide +kernel
theorem dX10_maker_32 : decode cX10_maker 32 = .ok (.iload_n 1, 1) := by decide +kernel
theorem dX10_maker_33 : decode cX10_maker 33 = .ok (.iaload, 1) := by decide +kernel
theorem dX10_maker_34 : decode cX10_maker 34 = .ok (.goto 27, 3) := by decide +kernel
theorem dX10_maker_37 : decode cX10_maker 37 = .ok (.iload_n 2, 1) := by decide +kernel
theorem dX10_maker_38 : decode cX10_maker 38 = .ok (.iconst 2, 1) := by decide +kernel
theorem dX10_maker_39 : decode cX10_maker 39 = .ok (.if_icmp .ne 20, 3) := by decide +kernel
theorem dX10_maker_42 : decode cX10_maker 42 = .ok (.aload_n 0, 1) := by decide +kernel
theorem dX10_maker_43 : decode cX10_maker 43 = .ok (.getfield 28, 3) := by decide +kernel
theorem dX10_maker_46 : decode cX10_maker 46 = .ok (.iload_n 1, 1) := by decide +kernel
theorem dX10_maker_47 : decode cX10_maker 47 = .ok (.baload, 1) := by decide +kernel
theorem dX10_maker_48 : decode cX10_maker 48 = .ok (.ifCond .eq 7, 3) := by decide +kernel
theorem dX10_maker_51 : decode cX10_maker 51 = .ok (.iconst 1, 1) := by decide +kernel
theorem dX10_maker_52 : decode cX10_maker 52 = .ok (.goto 9, 3) := by decide +kernel
theorem dX10_maker_55 : decode cX10_maker 55 = .ok (.iconst 0, 1) := by decide +kernel
theorem dX10_maker_56 : decode cX10_maker 56 = .ok (.goto 5, 3) := by decide +kernel
theorem dX10_maker_59 : decode cX10_maker 59 = .ok (.bipush (-2), 2) := by decide +kernel
theorem dX10_maker_61 : decode cX10_maker 61 = .ok (.ireturn, 1) := by decide +kernel
theorem dX10_copyRow_0 : decode cX10_copyRow 0 = .ok (.iconst 0, 1) := by decide +kernel
theorem dX10_copyRow_1 : decode cX10_copyRow 1 = .ok (.istore_n 3, 1) := by decide +kernel
theorem dX10_copyRow_2 : decode cX10_copyRow 2 = .ok (.iload_n 3, 1) := by decide +kernel
theorem dX10_copyRow_3 : decode cX10_copyRow 3 = .ok (.aload_n 0, 1) := by decide +kernel
theorem dX10_copyRow_4 : decode cX10_copyRow 4 = .ok (.getfield 32, 3) := by decide +kernel
theorem dX10_copyRow_7 : decode cX10_copyRow 7 = .ok (.iload_n 1, 1) := by decide +kernel
theorem dX10_copyRow_8 : decode cX10_copyRow 8 = .ok (.iaload, 1) := by decide +kernel
theorem dX10_copyRow_9 : decode cX10_copyRow 9 = .ok (.if_icmp .ge 57, 3) := by decide +kernel
theorem dX10_copyRow_12 : decode cX10_copyRow 12 = .ok (.aload_n 0, 1) := by decide +kernel
theorem dX10_copyRow_13 : decode cX10_copyRow 13 = .ok (.getfield 35, 3) := by decide +kernel
theorem dX10_copyRow_16 : decode cX10_copyRow 16 = .ok (.sipush 1000, 3) := by decide +kernel
theorem dX10_copyRow_19 : decode cX10_copyRow 19 = .ok (.iload_n 2, 1) := by decide +kernel
theorem dX10_copyRow_20 : decode cX10_copyRow 20 = .ok (.imul, 1) := by decide +kernel
theorem dX10_copyRow_21 : decode cX10_copyRow 21 = .ok (.iload_n 3, 1) := by decide +kernel
theorem dX10_copyRow_22 : decode cX10_copyRow 22 = .ok (.iadd, 1) := by decide +kernel
theorem dX10_copyRow_23 : decode cX10_copyRow 23 = .ok (.aload_n 0, 1) := by decide +kernel
theorem dX10_copyRow_24 : decode cX10_copyRow 24 = .ok (.getfield 35, 3) := by decide +kernel
theorem dX10_copyRow_27 : decode cX10_copyRow 27 = .ok (.sipush 1000, 3) := by decide +kernel
theorem dX10_copyRow_30 : decode cX10_copyRow 30 = .ok (.iload_n 1, 1) := by decide +kernel
theorem dX10_copyRow_31 : decode cX10_copyRow 31 = .ok (.imul, 1) := by decide +kernel
theorem dX10_copyRow_32 : decode cX10_copyRow 32 = .ok (.iload_n 3, 1) := by decide +kernel
theorem dX10_copyRow_33 : decode cX10_copyRow 33 = .ok (.iadd, 1) := by decide +kernel
theorem dX10_copyRow_34 : decode cX10_copyRow 34 = .ok (.iaload, 1) := by decide +kernel
theorem dX10_copyRow_35 : decode cX10_copyRow 35 = .ok (.iastore, 1) := by decide +kernel
theorem dX10_copyRow_36 : decode cX10_copyRow 36 = .ok (.aload_n 0, 1) := by decide +kernel
theorem dX10_copyRow_37 : decode cX10_copyRow 37 = .ok (.getfield 38, 3) := by decide +kernel
theorem dX10_copyRow_40 : decode cX10_copyRow 40 = .ok (.sipush 1000, 3) := by decide +kernel
theorem dX10_copyRow_43 : decode cX10_copyRow 43 = .ok (.iload_n 2, 1) := by decide +kernel
theorem dX10_copyRow_44 : decode cX10_copyRow 44 = .ok (.imul, 1) := by decide +kernel
theorem dX10_copyRow_45 : decode cX10_copyRow 45 = .ok (.iload_n 3, 1) := by decide +kernel
theorem dX10_copyRow_46 : decode cX10_copyRow 46 = .ok (.iadd, 1) := by decide +kernel
theorem dX10_copyRow_47 : decode cX10_copyRow 47 = .ok (.aload_n 0, 1) := by decide +kernel
theorem dX10_copyRow_48 : decode cX10_copyRow 48 = .ok (.getfield 38, 3) := by decide +kernel
theorem dX10_copyRow_51 : decode cX10_copyRow 51 = .ok (.sipush 1000, 3) := by decide +kernel
theorem dX10_copyRow_54 : decode cX10_copyRow 54 = .ok (.iload_n 1, 1) := by decide +kernel
theorem dX10_copyRow_55 : decode cX10_copyRow 55 = .ok (.imul, 1) := by decide +kernel
theorem dX10_copyRow_56 : decode cX10_copyRow 56 = .ok (.iload_n 3, 1) := by decide +kernel
theorem dX10_copyRow_57 : decode cX10_copyRow 57 = .ok (.iadd, 1) := by decide +kernel
theorem dX10_copyRow_58 : decode cX10_copyRow 58 = .ok (.iaload, 1) := by decide +kernel
theorem dX10_copyRow_59 : decode cX10_copyRow 59 = .ok (.iastore, 1) := by decide +kernel
theorem dX10_copyRow_60 : decode cX10_copyRow 60 = .ok (.iinc 3 1, 3) := by decide +kernel
theorem dX10_copyRow_63 : decode cX10_copyRow 63 = .ok (.goto (-61), 3) := by decide +kernel
theorem dX10_copyRow_66 : decode cX10_copyRow 66 = .ok (.aload_n 0, 1) := by decide +kernel
theorem dX10_copyRow_67 : decode cX10_copyRow 67 = .ok (.getfield 32, 3) := by decide +kernel
theorem dX10_copyRow_70 : decode cX10_copyRow 70 = .ok (.iload_n 2, 1) := by decide +kernel
theorem dX10_copyRow_71 : decode cX10_copyRow 71 = .ok (.aload_n 0, 1) := by decide +kernel
theorem dX10_copyRow_72 : decode cX10_copyRow 72 = .ok (.getfield 32, 3) := by decide +kernel
theorem dX10_copyRow_75 : decode cX10_copyRow 75 = .ok (.iload_n 1, 1) := by decide +kernel
theorem dX10_copyRow_76 : decode cX10_copyRow 76 = .ok (.iaload, 1) := by decide +kernel
theorem dX10_copyRow_77 : decode cX10_copyRow 77 = .ok (.iastore, 1) := by decide +kernel
theorem dX10_copyRow_78 : decode cX10_copyRow 78 = .ok (.return_, 1) := by decide +kernel
theorem dX10_parts_0 : decode cX10_parts 0 = .ok (.aload_n 0, 1) := by decide +kernel
theorem dX10_parts_1 : decode cX10_parts 1 = .ok (.getfield 35, 3) := by decide +kernel
theorem dX10_parts_4 : decode cX10_parts 4 = .ok (.iload_n 1, 1) := by decide +kernel
theorem dX10_parts_5 : decode cX10_parts 5 = .ok (.iaload, 1) := by decide +kernel
theorem dX10_parts_6 : decode cX10_parts 6 = .ok (.istore_n 2, 1) := by decide +kernel
theorem dX10_parts_7 : decode cX10_parts 7 = .ok (.iload_n 2, 1) := by decide +kernel
theorem dX10_parts_8 : decode cX10_parts 8 = .ok (.ifCond .ge 5, 3) := by decide +kernel
theorem dX10_parts_11 : decode cX10_parts 11 = .ok (.iconst 0, 1) := by decide +kernel
theorem dX10_parts_12 : decode cX10_parts 12 = .ok (.ireturn, 1) := by decide +kernel
theorem dX10_parts_13 : decode cX10_parts 13 = .ok (.aload_n 0, 1) := by decide +kernel
theorem dX10_parts_14 : decode cX10_parts 14 = .ok (.getfield 7, 3) := by decide +kernel
theorem dX10_parts_17 : decode cX10_parts 17 = .ok (.iload_n 2, 1) := by decide +kernel
theorem dX10_parts_18 : decode cX10_parts 18 = .ok (.iaload, 1) := by decide +kernel
theorem dX10_parts_19 : decode cX10_parts 19 = .ok (.tableswitch 52 0 6 #[41, 43, 50, 52, 52, 52, 43], 41) := by decide +kernel
theorem dX10_parts_60 : decode cX10_parts 60 = .ok (.iconst 0, 1) := by decide +kernel
theorem dX10_parts_61 : decode cX10_parts 61 = .ok (.ireturn, 1) := by decide +kernel
theorem dX10_parts_62 : decode cX10_parts 62 = .ok (.aload_n 0, 1) := by decide +kernel
theorem dX10_parts_63 : decode cX10_parts 63 = .ok (.getfield 38, 3) := by decide +kernel
theorem dX10_parts_66 : decode cX10_parts 66 = .ok (.iload_n 1, 1) := by decide +kernel
theorem dX10_parts_67 : decode cX10_parts 67 = .ok (.iaload, 1) := by decide +kernel
theorem dX10_parts_68 : decode cX10_parts 68 = .ok (.ireturn, 1) := by decide +kernel
theorem dX10_parts_69 : decode cX10_parts 69 = .ok (.iconst 2, 1) := by decide +kernel
theorem dX10_parts_70 : decode cX10_parts 70 = .ok (.ireturn, 1) := by decide +kernel
theorem dX10_parts_71 : decode cX10_parts 71 = .ok (.iconst 1, 1) := by decide +kernel
theorem dX10_parts_72 : decode cX10_parts 72 = .ok (.ireturn, 1) := by decide +kernel
theorem dX10_endOf_0 : decode cX10_endOf 0 = .ok (.iconst 1, 1) := by decide +kernel
theorem dX10_endOf_1 : decode cX10_endOf 1 = .ok (.istore_n 3, 1) := by decide +kernel
theorem dX10_endOf_2 : decode cX10_endOf 2 = .ok (.iload_n 2, 1) := by decide +kernel
theorem dX10_endOf_3 : decode cX10_endOf 3 = .ok (.istore 4, 2) := by decide +kernel
theorem dX10_endOf_5 : decode cX10_endOf 5 = .ok (.iload_n 3, 1) := by decide +kernel
theorem dX10_endOf_6 : decode cX10_endOf 6 = .ok (.ifCond .le 26, 3) := by decide +kernel
theorem dX10_endOf_9 : decode cX10_endOf 9 = .ok (.iload_n 3, 1) := by decide +kernel
theorem dX10_endOf_10 : decode cX10_endOf 10 = .ok (.aload_n 0, 1) := by decide +kernel
theorem dX10_endOf_11 : decode cX10_endOf 11 = .ok (.sipush 1000, 3) := by decide +kernel
theorem dX10_endOf_14 : decode cX10_endOf 14 = .ok (.iload_n 1, 1) := by decide +kernel
theorem dX10_endOf_15 : decode cX10_endOf 15 = .ok (.imul, 1) := by decide +kernel
theorem dX10_endOf_16 : decode cX10_endOf 16 = .ok (.iload 4, 2) := by decide +kernel
theorem dX10_endOf_18 : decode cX10_endOf 18 = .ok (.iadd, 1) := by decide +kernel
theorem dX10_endOf_19 : decode cX10_endOf 19 = .ok (.invokevirtual 143, 3) := by decide +kernel
theorem dX10_endOf_22 : decode cX10_endOf 22 = .ok (.iconst 1, 1) := by decide +kernel
theorem dX10_endOf_23 : decode cX10_endOf 23 = .ok (.isub, 1) := by decide +kernel
theorem dX10_endOf_24 : decode cX10_endOf 24 = .ok (.iadd, 1) := by decide +kernel
theorem dX10_endOf_25 : decode cX10_endOf 25 = .ok (.istore_n 3, 1) := by decide +kernel
theorem dX10_endOf_26 : decode cX10_endOf 26 = .ok (.iinc 4 1, 3) := by decide +kernel
theorem dX10_endOf_29 : decode cX10_endOf 29 = .ok (.goto (-24), 3) := by decide +kernel
theorem dX10_endOf_32 : decode cX10_endOf 32 = .ok (.iload 4, 2) := by decide +kernel
theorem dX10_endOf_34 : decode cX10_endOf 34 = .ok (.ireturn, 1) := by decide +kernel
theorem dX10_leafIs_0 : decode cX10_leafIs 0 = .ok (.aload_n 0, 1) := by decide +kernel
theorem dX10_leafIs_1 : decode cX10_leafIs 1 = .ok (.getfield 47, 3) := by decide +kernel
theorem dX10_leafIs_4 : decode cX10_leafIs 4 = .ok (.aload_n 0, 1) := by decide +kernel
theorem dX10_leafIs_5 : decode cX10_leafIs 5 = .ok (.getfield 147, 3) := by decide +kernel
theorem dX10_leafIs_8 : decode cX10_leafIs 8 = .ok (.iload_n 1, 1) := by decide +kernel
theorem dX10_leafIs_9 : decode cX10_leafIs 9 = .ok (.iastore, 1) := by decide +kernel
theorem dX10_leafIs_10 : decode cX10_leafIs 10 = .ok (.aload_n 0, 1) := by decide +kernel
theorem dX10_leafIs_11 : decode cX10_leafIs 11 = .ok (.getfield 50, 3) := by decide +kernel
theorem dX10_leafIs_14 : decode cX10_leafIs 14 = .ok (.aload_n 0, 1) := by decide +kernel
theorem dX10_leafIs_15 : decode cX10_leafIs 15 = .ok (.getfield 147, 3) := by decide +kernel
theorem dX10_leafIs_18 : decode cX10_leafIs 18 = .ok (.aload_n 0, 1) := by decide +kernel
theorem dX10_leafIs_19 : decode cX10_leafIs 19 = .ok (.getfield 150, 3) := by decide +kernel
theorem dX10_leafIs_22 : decode cX10_leafIs 22 = .ok (.iastore, 1) := by decide +kernel
theorem dX10_leafIs_23 : decode cX10_leafIs 23 = .ok (.aload_n 0, 1) := by decide +kernel
theorem dX10_leafIs_24 : decode cX10_leafIs 24 = .ok (.dup, 1) := by decide +kernel
theorem dX10_leafIs_25 : decode cX10_leafIs 25 = .ok (.getfield 147, 3) := by decide +kernel
theorem dX10_leafIs_28 : decode cX10_leafIs 28 = .ok (.iconst 1, 1) := by decide +kernel
theorem dX10_leafIs_29 : decode cX10_leafIs 29 = .ok (.iadd, 1) := by decide +kernel
theorem dX10_leafIs_30 : decode cX10_leafIs 30 = .ok (.putfield 147, 3) := by decide +kernel
theorem dX10_leafIs_33 : decode cX10_leafIs 33 = .ok (.aload_n 0, 1) := by decide +kernel
theorem dX10_leafIs_34 : decode cX10_leafIs 34 = .ok (.getfield 41, 3) := by decide +kernel
theorem dX10_leafIs_37 : decode cX10_leafIs 37 = .ok (.aload_n 0, 1) := by decide +kernel
theorem dX10_leafIs_38 : decode cX10_leafIs 38 = .ok (.getfield 150, 3) := by decide +kernel
theorem dX10_leafIs_41 : decode cX10_leafIs 41 = .ok (.iconst 0, 1) := by decide +kernel
theorem dX10_leafIs_42 : decode cX10_leafIs 42 = .ok (.iastore, 1) := by decide +kernel
theorem dX10_leafIs_43 : decode cX10_leafIs 43 = .ok (.aload_n 0, 1) := by decide +kernel
theorem dX10_leafIs_44 : decode cX10_leafIs 44 = .ok (.dup, 1) := by decide +kernel
theorem dX10_leafIs_45 : decode cX10_leafIs 45 = .ok (.getfield 150, 3) := by decide +kernel
theorem dX10_leafIs_48 : decode cX10_leafIs 48 = .ok (.iconst 1, 1) := by decide +kernel
theorem dX10_leafIs_49 : decode cX10_leafIs 49 = .ok (.iadd, 1) := by decide +kernel
theorem dX10_leafIs_50 : decode cX10_leafIs 50 = .ok (.putfield 150, 3) := by decide +kernel
theorem dX10_leafIs_53 : decode cX10_leafIs 53 = .ok (.return_, 1) := by decide +kernel
theorem dX10_rowIs_0 : decode cX10_rowIs 0 = .ok (.aload_n 0, 1) := by decide +kernel
theorem dX10_rowIs_1 : decode cX10_rowIs 1 = .ok (.getfield 41, 3) := by decide +kernel
theorem dX10_rowIs_4 : decode cX10_rowIs 4 = .ok (.aload_n 0, 1) := by decide +kernel
theorem dX10_rowIs_5 : decode cX10_rowIs 5 = .ok (.getfield 150, 3) := by decide +kernel
theorem dX10_rowIs_8 : decode cX10_rowIs 8 = .ok (.iconst 1, 1) := by decide +kernel
theorem dX10_rowIs_9 : decode cX10_rowIs 9 = .ok (.iastore, 1) := by decide +kernel
theorem dX10_rowIs_10 : decode cX10_rowIs 10 = .ok (.aload_n 0, 1) := by decide +kernel
theorem dX10_rowIs_11 : decode cX10_rowIs 11 = .ok (.getfield 44, 3) := by decide +kernel
theorem dX10_rowIs_14 : decode cX10_rowIs 14 = .ok (.aload_n 0, 1) := by decide +kernel
theorem dX10_rowIs_15 : decode cX10_rowIs 15 = .ok (.getfield 150, 3) := by decide +kernel
theorem dX10_rowIs_18 : decode cX10_rowIs 18 = .ok (.iload_n 1, 1) := by decide +kernel
theorem dX10_rowIs_19 : decode cX10_rowIs 19 = .ok (.iastore, 1) := by decide +kernel
theorem dX10_rowIs_20 : decode cX10_rowIs 20 = .ok (.aload_n 0, 1) := by decide +kernel
theorem dX10_rowIs_21 : decode cX10_rowIs 21 = .ok (.dup, 1) := by decide +kernel
theorem dX10_rowIs_22 : decode cX10_rowIs 22 = .ok (.getfield 150, 3) := by decide +kernel
theorem dX10_rowIs_25 : decode cX10_rowIs 25 = .ok (.iconst 1, 1) := by decide +kernel
theorem dX10_rowIs_26 : decode cX10_rowIs 26 = .ok (.iadd, 1) := by decide +kernel
theorem dX10_rowIs_27 : decode cX10_rowIs 27 = .ok (.putfield 150, 3) := by decide +kernel
theorem dX10_rowIs_30 : decode cX10_rowIs 30 = .ok (.return_, 1) := by decide +kernel
theorem dX10_through_0 : decode cX10_through 0 = .ok (.iload_n 0, 1) := by decide +kernel
theorem dX10_through_1 : decode cX10_through 1 = .ok (.ifCond .ne 8, 3) := by decide +kernel
theorem dX10_through_4 : decode cX10_through 4 = .ok (.iload_n 1, 1) := by decide +kernel
theorem dX10_through_5 : decode cX10_through 5 = .ok (.ineg, 1) := by decide +kernel
theorem dX10_through_6 : decode cX10_through 6 = .ok (.goto 29, 3) := by decide +kernel
theorem dX10_through_9 : decode cX10_through 9 = .ok (.iload_n 0, 1) := by decide +kernel
theorem dX10_through_10 : decode cX10_through 10 = .ok (.iconst 1, 1) := by decide +kernel
theorem dX10_through_11 : decode cX10_through 11 = .ok (.if_icmp .ne 9, 3) := by decide +kernel
theorem dX10_through_14 : decode cX10_through 14 = .ok (.iconst 2, 1) := by decide +kernel
theorem dX10_through_15 : decode cX10_through 15 = .ok (.iload_n 1, 1) := by decide +kernel
theorem dX10_through_16 : decode cX10_through 16 = .ok (.imul, 1) := by decide +kernel
theorem dX10_through_17 : decode cX10_through 17 = .ok (.goto 18, 3) := by decide +kernel
theorem dX10_through_20 : decode cX10_through 20 = .ok (.iload_n 0, 1) := by decide +kernel
theorem dX10_through_21 : decode cX10_through 21 = .ok (.iconst 2, 1) := by decide +kernel
theorem dX10_through_22 : decode cX10_through 22 = .ok (.if_icmp .ne 9, 3) := by decide +kernel
theorem dX10_through_25 : decode cX10_through 25 = .ok (.iload_n 1, 1) := by decide +kernel
theorem dX10_through_26 : decode cX10_through 26 = .ok (.iload_n 1, 1) := by decide +kernel
theorem dX10_through_27 : decode cX10_through 27 = .ok (.imul, 1) := by decide +kernel
theorem dX10_through_28 : decode cX10_through 28 = .ok (.goto 7, 3) := by decide +kernel
theorem dX10_through_31 : decode cX10_through 31 = .ok (.iload_n 1, 1) := by decide +kernel
theorem dX10_through_32 : decode cX10_through 32 = .ok (.bipush 7, 2) := by decide +kernel
theorem dX10_through_34 : decode cX10_through 34 = .ok (.irem, 1) := by decide +kernel
theorem dX10_through_35 : decode cX10_through 35 = .ok (.ireturn, 1) := by decide +kernel
theorem dX10_mapFrom_0 : decode cX10_mapFrom 0 = .ok (.iload_n 2, 1) := by decide +kernel
theorem dX10_mapFrom_1 : decode cX10_mapFrom 1 = .ok (.istore_n 3, 1) := by decide +kernel
theorem dX10_mapFrom_2 : decode cX10_mapFrom 2 = .ok (.iload_n 3, 1) := by decide +kernel
theorem dX10_mapFrom_3 : decode cX10_mapFrom 3 = .ok (.aload_n 0, 1) := by decide +kernel
theorem dX10_mapFrom_4 : decode cX10_mapFrom 4 = .ok (.getfield 147, 3) := by decide +kernel
theorem dX10_mapFrom_7 : decode cX10_mapFrom 7 = .ok (.if_icmp .ge 94, 3) := by decide +kernel
theorem dX10_mapFrom_10 : decode cX10_mapFrom 10 = .ok (.iload_n 1, 1) := by decide +kernel
theorem dX10_mapFrom_11 : decode cX10_mapFrom 11 = .ok (.iconst 4, 1) := by decide +kernel
theorem dX10_mapFrom_12 : decode cX10_mapFrom 12 = .ok (.if_icmp .ge 16, 3) := by decide +kernel
theorem dX10_mapFrom_15 : decode cX10_mapFrom 15 = .ok (.iload_n 1, 1) := by decide +kernel
theorem dX10_mapFrom_16 : decode cX10_mapFrom 16 = .ok (.aload_n 0, 1) := by decide +kernel
theorem dX10_mapFrom_17 : decode cX10_mapFrom 17 = .ok (.getfield 47, 3) := by decide +kernel
theorem dX10_mapFrom_20 : decode cX10_mapFrom 20 = .ok (.iload_n 3, 1) := by decide +kernel
theorem dX10_mapFrom_21 : decode cX10_mapFrom 21 = .ok (.iaload, 1) := by decide +kernel
theorem dX10_mapFrom_22 : decode cX10_mapFrom 22 = .ok (.invokestatic 153, 3) := by decide +kernel
theorem dX10_mapFrom_25 : decode cX10_mapFrom 25 = .ok (.goto 9, 3) := by decide +kernel
theorem dX10_mapFrom_28 : decode cX10_mapFrom 28 = .ok (.aload_n 0, 1) := by decide +kernel
theorem dX10_mapFrom_29 : decode cX10_mapFrom 29 = .ok (.getfield 47, 3) := by decide +kernel
theorem dX10_mapFrom_32 : decode cX10_mapFrom 32 = .ok (.iload_n 3, 1) := by decide +kernel
theorem dX10_mapFrom_33 : decode cX10_mapFrom 33 = .ok (.iaload, 1) := by decide +kernel
theorem dX10_mapFrom_34 : decode cX10_mapFrom 34 = .ok (.istore 4, 2) := by decide +kernel
theorem dX10_mapFrom_36 : decode cX10_mapFrom 36 = .ok (.iload_n 3, 1) := by decide +kernel
theorem dX10_mapFrom_37 : decode cX10_mapFrom 37 = .ok (.istore 5, 2) := by decide +kernel
theorem dX10_mapFrom_39 : decode cX10_mapFrom 39 = .ok (.iload_n 1, 1) := by decide +kernel
theorem dX10_mapFrom_40 : decode cX10_mapFrom 40 = .ok (.iconst 4, 1) := by decide +kernel
theorem dX10_mapFrom_41 : decode cX10_mapFrom 41 = .ok (.if_icmp .ne 45, 3) := by decide +kernel
theorem dX10_mapFrom_44 : decode cX10_mapFrom 44 = .ok (.iload 5, 2) := by decide +kernel
theorem dX10_mapFrom_46 : decode cX10_mapFrom 46 = .ok (.iload_n 2, 1) := by decide +kernel
theorem dX10_mapFrom_47 : decode cX10_mapFrom 47 = .ok (.if_icmp .le 39, 3) := by decide +kernel
theorem dX10_mapFrom_50 : decode cX10_mapFrom 50 = .ok (.aload_n 0, 1) := by decide +kernel
theorem dX10_mapFrom_51 : decode cX10_mapFrom 51 = .ok (.getfield 47, 3) := by decide +kernel
theorem dX10_mapFrom_54 : decode cX10_mapFrom 54 = .ok (.iload 5, 2) := by decide +kernel
theorem dX10_mapFrom_56 : decode cX10_mapFrom 56 = .ok (.iconst 1, 1) := by decide +kernel
theorem dX10_mapFrom_57 : decode cX10_mapFrom 57 = .ok (.isub, 1) := by decide +kernel
theorem dX10_mapFrom_58 : decode cX10_mapFrom 58 = .ok (.iaload, 1) := by decide +kernel
theorem dX10_mapFrom_59 : decode cX10_mapFrom 59 = .ok (.iload 4, 2) := by decide +kernel
theorem dX10_mapFrom_61 : decode cX10_mapFrom 61 = .ok (.if_icmp .le 25, 3) := by decide +kernel
theorem dX10_mapFrom_64 : decode cX10_mapFrom 64 = .ok (.aload_n 0, 1) := by decide +kernel
theorem dX10_mapFrom_65 : decode cX10_mapFrom 65 = .ok (.getfield 47, 3) := by decide +kernel
theorem dX10_mapFrom_68 : decode cX10_mapFrom 68 = .ok (.iload 5, 2) := by decide +kernel
theorem dX10_mapFrom_70 : decode cX10_mapFrom 70 = .ok (.aload_n 0, 1) := by decide +kernel
theorem dX10_mapFrom_71 : decode cX10_mapFrom 71 = .ok (.getfield 47, 3) := by decide +kernel
theorem dX10_mapFrom_74 : decode cX10_mapFrom 74 = .ok (.iload 5, 2) := by decide +kernel
theorem dX10_mapFrom_76 : decode cX10_mapFrom 76 = .ok (.iconst 1, 1) := by decide +kernel
theorem dX10_mapFrom_77 : decode cX10_mapFrom 77 = .ok (.isub, 1) := by decide +kernel
theorem dX10_mapFrom_78 : decode cX10_mapFrom 78 = .ok (.iaload, 1) := by decide +kernel
theorem dX10_mapFrom_79 : decode cX10_mapFrom 79 = .ok (.iastore, 1) := by decide +kernel
theorem dX10_mapFrom_80 : decode cX10_mapFrom 80 = .ok (.iinc 5 (-1), 3) := by decide +kernel
theorem dX10_mapFrom_83 : decode cX10_mapFrom 83 = .ok (.goto (-44), 3) := by decide +kernel
theorem dX10_mapFrom_86 : decode cX10_mapFrom 86 = .ok (.aload_n 0, 1) := by decide +kernel
theorem dX10_mapFrom_87 : decode cX10_mapFrom 87 = .ok (.getfield 47, 3) := by decide +kernel
theorem dX10_mapFrom_90 : decode cX10_mapFrom 90 = .ok (.iload 5, 2) := by decide +kernel
theorem dX10_mapFrom_92 : decode cX10_mapFrom 92 = .ok (.iload 4, 2) := by decide +kernel
theorem dX10_mapFrom_94 : decode cX10_mapFrom 94 = .ok (.iastore, 1) := by decide +kernel
theorem dX10_mapFrom_95 : decode cX10_mapFrom 95 = .ok (.iinc 3 1, 3) := by decide +kernel
theorem dX10_mapFrom_98 : decode cX10_mapFrom 98 = .ok (.goto (-96), 3) := by decide +kernel
theorem dX10_mapFrom_101 : decode cX10_mapFrom 101 = .ok (.return_, 1) := by decide +kernel
theorem dX10_leave_0 : decode cX10_leave 0 = .ok (.aload_n 0, 1) := by decide +kernel
theorem dX10_leave_1 : decode cX10_leave 1 = .ok (.getfield 157, 3) := by decide +kernel
theorem dX10_leave_4 : decode cX10_leave 4 = .ok (.ifCond .le 130, 3) := by decide +kernel
theorem dX10_leave_7 : decode cX10_leave 7 = .ok (.aload_n 0, 1) := by decide +kernel
theorem dX10_leave_8 : decode cX10_leave 8 = .ok (.getfield 56, 3) := by decide +kernel
theorem dX10_leave_11 : decode cX10_leave 11 = .ok (.aload_n 0, 1) := by decide +kernel
theorem dX10_leave_12 : decode cX10_leave 12 = .ok (.getfield 157, 3) := by decide +kernel
theorem dX10_leave_15 : decode cX10_leave 15 = .ok (.iconst 1, 1) := by decide +kernel
theorem dX10_leave_16 : decode cX10_leave 16 = .ok (.isub, 1) := by decide +kernel
theorem dX10_leave_17 : decode cX10_leave 17 = .ok (.iaload, 1) := by decide +kernel
theorem dX10_leave_18 : decode cX10_leave 18 = .ok (.ifCond .ne 116, 3) := by decide +kernel
theorem dX10_leave_21 : decode cX10_leave 21 = .ok (.aload_n 0, 1) := by decide +kernel
theorem dX10_leave_22 : decode cX10_leave 22 = .ok (.dup, 1) := by decide +kernel
theorem dX10_leave_23 : decode cX10_leave 23 = .ok (.getfield 157, 3) := by decide +kernel
theorem dX10_leave_26 : decode cX10_leave 26 = .ok (.iconst 1, 1) := by decide +kernel
theorem dX10_leave_27 : decode cX10_leave 27 = .ok (.isub, 1) := by decide +kernel
theorem dX10_leave_28 : decode cX10_leave 28 = .ok (.putfield 157, 3) := by decide +kernel
theorem dX10_leave_31 : decode cX10_leave 31 = .ok (.aload_n 0, 1) := by decide +kernel
theorem dX10_leave_32 : decode cX10_leave 32 = .ok (.getfield 53, 3) := by decide +kernel
theorem dX10_leave_35 : decode cX10_leave 35 = .ok (.aload_n 0, 1) := by decide +kernel
theorem dX10_leave_36 : decode cX10_leave 36 = .ok (.getfield 157, 3) := by decide +kernel
theorem dX10_leave_39 : decode cX10_leave 39 = .ok (.iaload, 1) := by decide +kernel
theorem dX10_leave_40 : decode cX10_leave 40 = .ok (.istore_n 1, 1) := by decide +kernel
theorem dX10_leave_41 : decode cX10_leave 41 = .ok (.aload_n 0, 1) := by decide +kernel
theorem dX10_leave_42 : decode cX10_leave 42 = .ok (.getfield 35, 3) := by decide +kernel
theorem dX10_leave_45 : decode cX10_leave 45 = .ok (.iload_n 1, 1) := by decide +kernel
theorem dX10_leave_46 : decode cX10_leave 46 = .ok (.iaload, 1) := by decide +kernel
theorem dX10_leave_47 : decode cX10_leave 47 = .ok (.istore_n 2, 1) := by decide +kernel
theorem dX10_leave_48 : decode cX10_leave 48 = .ok (.iload_n 2, 1) := by decide +kernel
theorem dX10_leave_49 : decode cX10_leave 49 = .ok (.ifCond .lt 35, 3) := by decide +kernel
theorem dX10_leave_52 : decode cX10_leave 52 = .ok (.aload_n 0, 1) := by decide +kernel
theorem dX10_leave_53 : decode cX10_leave 53 = .ok (.getfield 7, 3) := by decide +kernel
theorem dX10_leave_56 : decode cX10_leave 56 = .ok (.iload_n 2, 1) := by decide +kernel
theorem dX10_leave_57 : decode cX10_leave 57 = .ok (.iaload, 1) := by decide +kernel
theorem dX10_leave_58 : decode cX10_leave 58 = .ok (.iconst 4, 1) := by decide +kernel
theorem dX10_leave_59 : decode cX10_leave 59 = .ok (.if_icmp .ne 25, 3) := by decide +kernel
theorem dX10_leave_62 : decode cX10_leave 62 = .ok (.aload_n 0, 1) := by decide +kernel
theorem dX10_leave_63 : decode cX10_leave 63 = .ok (.aload_n 0, 1) := by decide +kernel
theorem dX10_leave_64 : decode cX10_leave 64 = .ok (.getfield 19, 3) := by decide +kernel
theorem dX10_leave_67 : decode cX10_leave 67 = .ok (.iload_n 2, 1) := by decide +kernel
theorem dX10_leave_68 : decode cX10_leave 68 = .ok (.iaload, 1) := by decide +kernel
theorem dX10_leave_69 : decode cX10_leave 69 = .ok (.aload_n 0, 1) := by decide +kernel
theorem dX10_leave_70 : decode cX10_leave 70 = .ok (.getfield 59, 3) := by decide +kernel
theorem dX10_leave_73 : decode cX10_leave 73 = .ok (.aload_n 0, 1) := by decide +kernel
theorem dX10_leave_74 : decode cX10_leave 74 = .ok (.getfield 157, 3) := by decide +kernel
theorem dX10_leave_77 : decode cX10_leave 77 = .ok (.iaload, 1) := by decide +kernel
theorem dX10_leave_78 : decode cX10_leave 78 = .ok (.invokevirtual 160, 3) := by decide +kernel
theorem dX10_leave_81 : decode cX10_leave 81 = .ok (.goto 28, 3) := by decide +kernel
theorem dX10_leave_84 : decode cX10_leave 84 = .ok (.iload_n 2, 1) := by decide +kernel
theorem dX10_leave_85 : decode cX10_leave 85 = .ok (.ifCond .lt 24, 3) := by decide +kernel
theorem dX10_leave_88 : decode cX10_leave 88 = .ok (.aload_n 0, 1) := by decide +kernel
theorem dX10_leave_89 : decode cX10_leave 89 = .ok (.getfield 7, 3) := by decide +kernel
theorem dX10_leave_92 : decode cX10_leave 92 = .ok (.iload_n 2, 1) := by decide +kernel
theorem dX10_leave_93 : decode cX10_leave 93 = .ok (.iaload, 1) := by decide +kernel
theorem dX10_leave_94 : decode cX10_leave 94 = .ok (.bipush 7, 2) := by decide +kernel
theorem dX10_leave_96 : decode cX10_leave 96 = .ok (.if_icmp .ne 13, 3) := by decide +kernel
theorem dX10_leave_99 : decode cX10_leave 99 = .ok (.aload_n 0, 1) := by decide +kernel
theorem dX10_leave_100 : decode cX10_leave 100 = .ok (.aload_n 0, 1) := by decide +kernel
theorem dX10_leave_101 : decode cX10_leave 101 = .ok (.getfield 38, 3) := by decide +kernel
theorem dX10_leave_104 : decode cX10_leave 104 = .ok (.iload_n 1, 1) := by decide +kernel
theorem dX10_leave_105 : decode cX10_leave 105 = .ok (.iaload, 1) := by decide +kernel
theorem dX10_leave_106 : decode cX10_leave 106 = .ok (.invokevirtual 164, 3) := by decide +kernel
theorem dX10_leave_109 : decode cX10_leave 109 = .ok (.aload_n 0, 1) := by decide +kernel
theorem dX10_leave_110 : decode cX10_leave 110 = .ok (.getfield 157, 3) := by decide +kernel
theorem dX10_leave_113 : decode cX10_leave 113 = .ok (.ifCond .le 18, 3) := by decide +kernel
theorem dX10_leave_116 : decode cX10_leave 116 = .ok (.aload_n 0, 1) := by decide +kernel
theorem dX10_leave_117 : decode cX10_leave 117 = .ok (.getfield 56, 3) := by decide +kernel
theorem dX10_leave_120 : decode cX10_leave 120 = .ok (.aload_n 0, 1) := by decide +kernel
theorem dX10_leave_121 : decode cX10_leave 121 = .ok (.getfield 157, 3) := by decide +kernel
theorem dX10_leave_124 : decode cX10_leave 124 = .ok (.iconst 1, 1) := by decide +kernel
theorem dX10_leave_125 : decode cX10_leave 125 = .ok (.isub, 1) := by decide +kernel
theorem dX10_leave_126 : decode cX10_leave 126 = .ok (.dup2, 1) := by decide +kernel
theorem dX10_leave_127 : decode cX10_leave 127 = .ok (.iaload, 1) := by decide +kernel
theorem dX10_leave_128 : decode cX10_leave 128 = .ok (.iconst 1, 1) := by decide +kernel
theorem dX10_leave_129 : decode cX10_leave 129 = .ok (.isub, 1) := by decide +kernel
theorem dX10_leave_130 : decode cX10_leave 130 = .ok (.iastore, 1) := by decide +kernel
theorem dX10_leave_131 : decode cX10_leave 131 = .ok (.goto (-131), 3) := by decide +kernel
theorem dX10_leave_134 : decode cX10_leave 134 = .ok (.return_, 1) := by decide +kernel
theorem dX10_reckon_0 : decode cX10_reckon 0 = .ok (.aload_n 0, 1) := by decide +kernel
theorem dX10_reckon_1 : decode cX10_reckon 1 = .ok (.iconst 0, 1) := by decide +kernel
theorem dX10_reckon_2 : decode cX10_reckon 2 = .ok (.putfield 150, 3) := by decide +kernel
theorem dX10_reckon_5 : decode cX10_reckon 5 = .ok (.aload_n 0, 1) := by decide +kernel
theorem dX10_reckon_6 : decode cX10_reckon 6 = .ok (.iconst 0, 1) := by decide +kernel
theorem dX10_reckon_7 : decode cX10_reckon 7 = .ok (.putfield 147, 3) := by decide +kernel
theorem dX10_reckon_10 : decode cX10_reckon 10 = .ok (.aload_n 0, 1) := by decide +kernel
theorem dX10_reckon_11 : decode cX10_reckon 11 = .ok (.iconst 0, 1) := by decide +kernel
theorem dX10_reckon_12 : decode cX10_reckon 12 = .ok (.putfield 157, 3) := by decide +kernel
theorem dX10_reckon_15 : decode cX10_reckon 15 = .ok (.iload_n 2, 1) := by decide +kernel
theorem dX10_reckon_16 : decode cX10_reckon 16 = .ok (.istore 4, 2) := by decide +kernel
theorem dX10_reckon_18 : decode cX10_reckon 18 = .ok (.iload 4, 2) := by decide +kernel
theorem dX10_reckon_20 : decode cX10_reckon 20 = .ok (.iload_n 3, 1) := by decide +kernel
theorem dX10_reckon_21 : decode cX10_reckon 21 = .ok (.if_icmp .ge 199, 3) := by decide +kernel
theorem dX10_reckon_24 : decode cX10_reckon 24 = .ok (.sipush 1000, 3) := by decide +kernel
theorem dX10_reckon_27 : decode cX10_reckon 27 = .ok (.iload_n 1, 1) := by decide +kernel
theorem dX10_reckon_28 : decode cX10_reckon 28 = .ok (.imul, 1) := by decide +kernel
theorem dX10_reckon_29 : decode cX10_reckon 29 = .ok (.iload 4, 2) := by decide +kernel
theorem dX10_reckon_31 : decode cX10_reckon 31 = .ok (.iadd, 1) := by decide +kernel
theorem dX10_reckon_32 : decode cX10_reckon 32 = .ok (.istore 5, 2) := by decide +kernel
theorem dX10_reckon_34 : decode cX10_reckon 34 = .ok (.aload_n 0, 1) := by decide +kernel
theorem dX10_reckon_35 : decode cX10_reckon 35 = .ok (.getfield 35, 3) := by decide +kernel
theorem dX10_reckon_38 : decode cX10_reckon 38 = .ok (.iload 5, 2) := by decide +kernel
theorem dX10_reckon_40 : decode cX10_reckon 40 = .ok (.iaload, 1) := by decide +kernel
theorem dX10_reckon_41 : decode cX10_reckon 41 = .ok (.istore 6, 2) := by decide +kernel
theorem dX10_reckon_43 : decode cX10_reckon 43 = .ok (.iload 6, 2) := by decide +kernel
theorem dX10_reckon_45 : decode cX10_reckon 45 = .ok (.ifCond .lt 13, 3) := by decide +kernel
theorem dX10_reckon_48 : decode cX10_reckon 48 = .ok (.aload_n 0, 1) := by decide +kernel
theorem dX10_reckon_49 : decode cX10_reckon 49 = .ok (.getfield 7, 3) := by decide +kernel
theorem dX10_reckon_52 : decode cX10_reckon 52 = .ok (.iload 6, 2) := by decide +kernel
theorem dX10_reckon_54 : decode cX10_reckon 54 = .ok (.iaload, 1) := by decide +kernel
theorem dX10_reckon_55 : decode cX10_reckon 55 = .ok (.ifCond .ne 17, 3) := by decide +kernel
theorem dX10_reckon_58 : decode cX10_reckon 58 = .ok (.aload_n 0, 1) := by decide +kernel
theorem dX10_reckon_59 : decode cX10_reckon 59 = .ok (.aload_n 0, 1) := by decide +kernel
theorem dX10_reckon_60 : decode cX10_reckon 60 = .ok (.getfield 38, 3) := by decide +kernel
theorem dX10_reckon_63 : decode cX10_reckon 63 = .ok (.iload 5, 2) := by decide +kernel
theorem dX10_reckon_65 : decode cX10_reckon 65 = .ok (.iaload, 1) := by decide +kernel
theorem dX10_reckon_66 : decode cX10_reckon 66 = .ok (.invokevirtual 164, 3) := by decide +kernel
theorem dX10_reckon_69 : decode cX10_reckon 69 = .ok (.goto 68, 3) := by decide +kernel
theorem dX10_reckon_72 : decode cX10_reckon 72 = .ok (.aload_n 0, 1) := by decide +kernel
theorem dX10_reckon_73 : decode cX10_reckon 73 = .ok (.getfield 7, 3) := by decide +kernel
theorem dX10_reckon_76 : decode cX10_reckon 76 = .ok (.iload 6, 2) := by decide +kernel
theorem dX10_reckon_78 : decode cX10_reckon 78 = .ok (.iaload, 1) := by decide +kernel
theorem dX10_reckon_79 : decode cX10_reckon 79 = .ok (.iconst 1, 1) := by decide +kernel
theorem dX10_reckon_80 : decode cX10_reckon 80 = .ok (.if_icmp .eq 15, 3) := by decide +kernel
theorem dX10_reckon_83 : decode cX10_reckon 83 = .ok (.aload_n 0, 1) := by decide +kernel
theorem dX10_reckon_84 : decode cX10_reckon 84 = .ok (.getfield 7, 3) := by decide +kernel
theorem dX10_reckon_87 : decode cX10_reckon 87 = .ok (.iload 6, 2) := by decide +kernel
theorem dX10_reckon_89 : decode cX10_reckon 89 = .ok (.iaload, 1) := by decide +kernel
theorem dX10_reckon_90 : decode cX10_reckon 90 = .ok (.bipush 6, 2) := by decide +kernel
theorem dX10_reckon_92 : decode cX10_reckon 92 = .ok (.if_icmp .ne 17, 3) := by decide +kernel
theorem dX10_reckon_95 : decode cX10_reckon 95 = .ok (.aload_n 0, 1) := by decide +kernel
theorem dX10_reckon_96 : decode cX10_reckon 96 = .ok (.aload_n 0, 1) := by decide +kernel
theorem dX10_reckon_97 : decode cX10_reckon 97 = .ok (.getfield 38, 3) := by decide +kernel
theorem dX10_reckon_100 : decode cX10_reckon 100 = .ok (.iload 5, 2) := by decide +kernel
theorem dX10_reckon_102 : decode cX10_reckon 102 = .ok (.iaload, 1) := by decide +kernel
theorem dX10_reckon_103 : decode cX10_reckon 103 = .ok (.invokevirtual 168, 3) := by decide +kernel
theorem dX10_reckon_106 : decode cX10_reckon 106 = .ok (.goto 31, 3) := by decide +kernel
theorem dX10_reckon_109 : decode cX10_reckon 109 = .ok (.aload_n 0, 1) := by decide +kernel
theorem dX10_reckon_110 : decode cX10_reckon 110 = .ok (.getfield 7, 3) := by decide +kernel
theorem dX10_reckon_113 : decode cX10_reckon 113 = .ok (.iload 6, 2) := by decide +kernel
theorem dX10_reckon_115 : decode cX10_reckon 115 = .ok (.iaload, 1) := by decide +kernel
theorem dX10_reckon_116 : decode cX10_reckon 116 = .ok (.iconst 2, 1) := by decide +kernel
theorem dX10_reckon_117 : decode cX10_reckon 117 = .ok (.if_icmp .eq 15, 3) := by decide +kernel
theorem dX10_reckon_120 : decode cX10_reckon 120 = .ok (.aload_n 0, 1) := by decide +kernel
theorem dX10_reckon_121 : decode cX10_reckon 121 = .ok (.getfield 7, 3) := by decide +kernel
theorem dX10_reckon_124 : decode cX10_reckon 124 = .ok (.iload 6, 2) := by decide +kernel
theorem dX10_reckon_126 : decode cX10_reckon 126 = .ok (.iaload, 1) := by decide +kernel
theorem dX10_reckon_127 : decode cX10_reckon 127 = .ok (.bipush 7, 2) := by decide +kernel
theorem dX10_reckon_129 : decode cX10_reckon 129 = .ok (.if_icmp .ne 8, 3) := by decide +kernel
theorem dX10_reckon_132 : decode cX10_reckon 132 = .ok (.aload_n 0, 1) := by decide +kernel
theorem dX10_reckon_133 : decode cX10_reckon 133 = .ok (.iconst 2, 1) := by decide +kernel
theorem dX10_reckon_134 : decode cX10_reckon 134 = .ok (.invokevirtual 168, 3) := by decide +kernel
theorem dX10_reckon_137 : decode cX10_reckon 137 = .ok (.aload_n 0, 1) := by decide +kernel
theorem dX10_reckon_138 : decode cX10_reckon 138 = .ok (.getfield 53, 3) := by decide +kernel
theorem dX10_reckon_141 : decode cX10_reckon 141 = .ok (.aload_n 0, 1) := by decide +kernel
theorem dX10_reckon_142 : decode cX10_reckon 142 = .ok (.getfield 157, 3) := by decide +kernel
theorem dX10_reckon_145 : decode cX10_reckon 145 = .ok (.iload 5, 2) := by decide +kernel
theorem dX10_reckon_147 : decode cX10_reckon 147 = .ok (.iastore, 1) := by decide +kernel
theorem dX10_reckon_148 : decode cX10_reckon 148 = .ok (.aload_n 0, 1) := by decide +kernel
theorem dX10_reckon_149 : decode cX10_reckon 149 = .ok (.getfield 56, 3) := by decide +kernel
theorem dX10_reckon_152 : decode cX10_reckon 152 = .ok (.aload_n 0, 1) := by decide +kernel
theorem dX10_reckon_153 : decode cX10_reckon 153 = .ok (.getfield 157, 3) := by decide +kernel
theorem dX10_reckon_156 : decode cX10_reckon 156 = .ok (.aload_n 0, 1) := by decide +kernel
theorem dX10_reckon_157 : decode cX10_reckon 157 = .ok (.iload 5, 2) := by decide +kernel
theorem dX10_reckon_159 : decode cX10_reckon 159 = .ok (.invokevirtual 143, 3) := by decide +kernel
theorem dX10_reckon_162 : decode cX10_reckon 162 = .ok (.iastore, 1) := by decide +kernel
theorem dX10_reckon_163 : decode cX10_reckon 163 = .ok (.aload_n 0, 1) := by decide +kernel
theorem dX10_reckon_164 : decode cX10_reckon 164 = .ok (.getfield 59, 3) := by decide +kernel
theorem dX10_reckon_167 : decode cX10_reckon 167 = .ok (.aload_n 0, 1) := by decide +kernel
theorem dX10_reckon_168 : decode cX10_reckon 168 = .ok (.getfield 157, 3) := by decide +kernel
theorem dX10_reckon_171 : decode cX10_reckon 171 = .ok (.iload 6, 2) := by decide +kernel
theorem dX10_reckon_173 : decode cX10_reckon 173 = .ok (.ifCond .lt 13, 3) := by decide +kernel
theorem dX10_reckon_176 : decode cX10_reckon 176 = .ok (.aload_n 0, 1) := by decide +kernel
theorem dX10_reckon_177 : decode cX10_reckon 177 = .ok (.getfield 7, 3) := by decide +kernel
theorem dX10_reckon_180 : decode cX10_reckon 180 = .ok (.iload 6, 2) := by decide +kernel
theorem dX10_reckon_182 : decode cX10_reckon 182 = .ok (.iaload, 1) := by decide +kernel
theorem dX10_reckon_183 : decode cX10_reckon 183 = .ok (.ifCond .ne 12, 3) := by decide +kernel
theorem dX10_reckon_186 : decode cX10_reckon 186 = .ok (.aload_n 0, 1) := by decide +kernel
theorem dX10_reckon_187 : decode cX10_reckon 187 = .ok (.getfield 147, 3) := by decide +kernel
theorem dX10_reckon_190 : decode cX10_reckon 190 = .ok (.iconst 1, 1) := by decide +kernel
theorem dX10_reckon_191 : decode cX10_reckon 191 = .ok (.isub, 1) := by decide +kernel
theorem dX10_reckon_192 : decode cX10_reckon 192 = .ok (.goto 7, 3) := by decide +kernel
theorem dX10_reckon_195 : decode cX10_reckon 195 = .ok (.aload_n 0, 1) := by decide +kernel
theorem dX10_reckon_196 : decode cX10_reckon 196 = .ok (.getfield 147, 3) := by decide +kernel
theorem dX10_reckon_199 : decode cX10_reckon 199 = .ok (.iastore, 1) := by decide +kernel
theorem dX10_reckon_200 : decode cX10_reckon 200 = .ok (.aload_n 0, 1) := by decide +kernel
theorem dX10_reckon_201 : decode cX10_reckon 201 = .ok (.dup, 1) := by decide +kernel
theorem dX10_reckon_202 : decode cX10_reckon 202 = .ok (.getfield 157, 3) := by decide +kernel
theorem dX10_reckon_205 : decode cX10_reckon 205 = .ok (.iconst 1, 1) := by decide +kernel
theorem dX10_reckon_206 : decode cX10_reckon 206 = .ok (.iadd, 1) := by decide +kernel
theorem dX10_reckon_207 : decode cX10_reckon 207 = .ok (.putfield 157, 3) := by decide +kernel
theorem dX10_reckon_210 : decode cX10_reckon 210 = .ok (.aload_n 0, 1) := by decide +kernel
theorem dX10_reckon_211 : decode cX10_reckon 211 = .ok (.invokevirtual 171, 3) := by decide +kernel
theorem dX10_reckon_214 : decode cX10_reckon 214 = .ok (.iinc 4 1, 3) := by decide +kernel
theorem dX10_reckon_217 : decode cX10_reckon 217 = .ok (.goto (-199), 3) := by decide +kernel
theorem dX10_reckon_220 : decode cX10_reckon 220 = .ok (.iconst 0, 1) := by decide +kernel
theorem dX10_reckon_221 : decode cX10_reckon 221 = .ok (.istore 4, 2) := by decide +kernel
theorem dX10_reckon_223 : decode cX10_reckon 223 = .ok (.iload 4, 2) := by decide +kernel
theorem dX10_reckon_225 : decode cX10_reckon 225 = .ok (.aload_n 0, 1) := by decide +kernel
theorem dX10_reckon_226 : decode cX10_reckon 226 = .ok (.getfield 147, 3) := by decide +kernel
theorem dX10_reckon_229 : decode cX10_reckon 229 = .ok (.if_icmp .ge 28, 3) := by decide +kernel
theorem dX10_reckon_232 : decode cX10_reckon 232 = .ok (.aload_n 0, 1) := by decide +kernel
theorem dX10_reckon_233 : decode cX10_reckon 233 = .ok (.getfield 44, 3) := by decide +kernel
theorem dX10_reckon_236 : decode cX10_reckon 236 = .ok (.aload_n 0, 1) := by decide +kernel
theorem dX10_reckon_237 : decode cX10_reckon 237 = .ok (.getfield 50, 3) := by decide +kernel
theorem dX10_reckon_240 : decode cX10_reckon 240 = .ok (.iload 4, 2) := by decide +kernel
theorem dX10_reckon_242 : decode cX10_reckon 242 = .ok (.iaload, 1) := by decide +kernel
theorem dX10_reckon_243 : decode cX10_reckon 243 = .ok (.aload_n 0, 1) := by decide +kernel
theorem dX10_reckon_244 : decode cX10_reckon 244 = .ok (.getfield 47, 3) := by decide +kernel
theorem dX10_reckon_247 : decode cX10_reckon 247 = .ok (.iload 4, 2) := by decide +kernel
theorem dX10_reckon_249 : decode cX10_reckon 249 = .ok (.iaload, 1) := by decide +kernel
theorem dX10_reckon_250 : decode cX10_reckon 250 = .ok (.iastore, 1) := by decide +kernel
theorem dX10_reckon_251 : decode cX10_reckon 251 = .ok (.iinc 4 1, 3) := by decide +kernel
theorem dX10_reckon_254 : decode cX10_reckon 254 = .ok (.goto (-31), 3) := by decide +kernel
theorem dX10_reckon_257 : decode cX10_reckon 257 = .ok (.return_, 1) := by decide +kernel
theorem dX10_sumOfLeaves_0 : decode cX10_sumOfLeaves 0 = .ok (.iconst 0, 1) := by decide +kernel
theorem dX10_sumOfLeaves_1 : decode cX10_sumOfLeaves 1 = .ok (.istore_n 1, 1) := by decide +kernel
theorem dX10_sumOfLeaves_2 : decode cX10_sumOfLeaves 2 = .ok (.iconst 0, 1) := by decide +kernel
theorem dX10_sumOfLeaves_3 : decode cX10_sumOfLeaves 3 = .ok (.istore_n 2, 1) := by decide +kernel
theorem dX10_sumOfLeaves_4 : decode cX10_sumOfLeaves 4 = .ok (.iload_n 2, 1) := by decide +kernel
theorem dX10_sumOfLeaves_5 : decode cX10_sumOfLeaves 5 = .ok (.aload_n 0, 1) := by decide +kernel
theorem dX10_sumOfLeaves_6 : decode cX10_sumOfLeaves 6 = .ok (.getfield 147, 3) := by decide +kernel
theorem dX10_sumOfLeaves_9 : decode cX10_sumOfLeaves 9 = .ok (.if_icmp .ge 18, 3) := by decide +kernel
theorem dX10_sumOfLeaves_12 : decode cX10_sumOfLeaves 12 = .ok (.iload_n 1, 1) := by decide +kernel
theorem dX10_sumOfLeaves_13 : decode cX10_sumOfLeaves 13 = .ok (.aload_n 0, 1) := by decide +kernel
theorem dX10_sumOfLeaves_14 : decode cX10_sumOfLeaves 14 = .ok (.getfield 47, 3) := by decide +kernel
theorem dX10_sumOfLeaves_17 : decode cX10_sumOfLeaves 17 = .ok (.iload_n 2, 1) := by decide +kernel
theorem dX10_sumOfLeaves_18 : decode cX10_sumOfLeaves 18 = .ok (.iaload, 1) := by decide +kernel
theorem dX10_sumOfLeaves_19 : decode cX10_sumOfLeaves 19 = .ok (.iadd, 1) := by decide +kernel
theorem dX10_sumOfLeaves_20 : decode cX10_sumOfLeaves 20 = .ok (.istore_n 1, 1) := by decide +kernel
theorem dX10_sumOfLeaves_21 : decode cX10_sumOfLeaves 21 = .ok (.iinc 2 1, 3) := by decide +kernel
theorem dX10_sumOfLeaves_24 : decode cX10_sumOfLeaves 24 = .ok (.goto (-20), 3) := by decide +kernel
theorem dX10_sumOfLeaves_27 : decode cX10_sumOfLeaves 27 = .ok (.iload_n 1, 1) := by decide +kernel
theorem dX10_sumOfLeaves_28 : decode cX10_sumOfLeaves 28 = .ok (.ireturn, 1) := by decide +kernel
theorem dX10_bound_0 : decode cX10_bound 0 = .ok (.aload_n 0, 1) := by decide +kernel
theorem dX10_bound_1 : decode cX10_bound 1 = .ok (.invokevirtual 174, 3) := by decide +kernel
theorem dX10_bound_4 : decode cX10_bound 4 = .ok (.istore_n 1, 1) := by decide +kernel
theorem dX10_bound_5 : decode cX10_bound 5 = .ok (.iload_n 1, 1) := by decide +kernel
theorem dX10_bound_6 : decode cX10_bound 6 = .ok (.ifCond .ge 7, 3) := by decide +kernel
theorem dX10_bound_9 : decode cX10_bound 9 = .ok (.iconst 0, 1) := by decide +kernel
theorem dX10_bound_10 : decode cX10_bound 10 = .ok (.goto 15, 3) := by decide +kernel
theorem dX10_bound_13 : decode cX10_bound 13 = .ok (.iload_n 1, 1) := by decide +kernel
theorem dX10_bound_14 : decode cX10_bound 14 = .ok (.ldc 131, 2) := by decide +kernel
theorem dX10_bound_16 : decode cX10_bound 16 = .ok (.if_icmp .le 8, 3) := by decide +kernel
theorem dX10_bound_19 : decode cX10_bound 19 = .ok (.ldc 131, 2) := by decide +kernel
theorem dX10_bound_21 : decode cX10_bound 21 = .ok (.goto 4, 3) := by decide +kernel
theorem dX10_bound_24 : decode cX10_bound 24 = .ok (.iload_n 1, 1) := by decide +kernel
theorem dX10_bound_25 : decode cX10_bound 25 = .ok (.ireturn, 1) := by decide +kernel
theorem dX10_noCheck_0 : decode cX10_noCheck 0 = .ok (.iload_n 1, 1) := by decide +kernel
theorem dX10_noCheck_1 : decode cX10_noCheck 1 = .ok (.iconst 0, 1) := by decide +kernel
theorem dX10_noCheck_2 : decode cX10_noCheck 2 = .ok (.aload_n 0, 1) := by decide +kernel
theorem dX10_noCheck_3 : decode cX10_noCheck 3 = .ok (.getfield 178, 3) := by decide +kernel
theorem dX10_noCheck_6 : decode cX10_noCheck 6 = .ok (.iconst 1, 1) := by decide +kernel
theorem dX10_noCheck_7 : decode cX10_noCheck 7 = .ok (.isub, 1) := by decide +kernel
theorem dX10_noCheck_8 : decode cX10_noCheck 8 = .ok (.invokestatic 126, 3) := by decide +kernel
theorem dX10_noCheck_11 : decode cX10_noCheck 11 = .ok (.ifCond .ne 7, 3) := by decide +kernel
theorem dX10_noCheck_14 : decode cX10_noCheck 14 = .ok (.iconst 1, 1) := by decide +kernel
theorem dX10_noCheck_15 : decode cX10_noCheck 15 = .ok (.goto 4, 3) := by decide +kernel
theorem dX10_noCheck_18 : decode cX10_noCheck 18 = .ok (.iconst 0, 1) := by decide +kernel
theorem dX10_noCheck_19 : decode cX10_noCheck 19 = .ok (.ireturn, 1) := by decide +kernel
theorem dX10_check_0 : decode cX10_check 0 = .ok (.iload_n 1, 1) := by decide +kernel
theorem dX10_check_1 : decode cX10_check 1 = .ok (.bipush 8, 2) := by decide +kernel
theorem dX10_check_3 : decode cX10_check 3 = .ok (.if_icmp .eq 9, 3) := by decide +kernel
theorem dX10_check_6 : decode cX10_check 6 = .ok (.iload_n 1, 1) := by decide +kernel
theorem dX10_check_7 : decode cX10_check 7 = .ok (.bipush 9, 2) := by decide +kernel
theorem dX10_check_9 : decode cX10_check 9 = .ok (.if_icmp .ne 22, 3) := by decide +kernel
theorem dX10_check_12 : decode cX10_check 12 = .ok (.aload_n 0, 1) := by decide +kernel
theorem dX10_check_13 : decode cX10_check 13 = .ok (.iload_n 2, 1) := by decide +kernel
theorem dX10_check_14 : decode cX10_check 14 = .ok (.invokevirtual 140, 3) := by decide +kernel
theorem dX10_check_17 : decode cX10_check 17 = .ok (.ifCond .ne 28, 3) := by decide +kernel
theorem dX10_check_20 : decode cX10_check 20 = .ok (.aload_n 0, 1) := by decide +kernel
theorem dX10_check_21 : decode cX10_check 21 = .ok (.iload_n 3, 1) := by decide +kernel
theorem dX10_check_22 : decode cX10_check 22 = .ok (.invokevirtual 140, 3) := by decide +kernel
theorem dX10_check_25 : decode cX10_check 25 = .ok (.ifCond .eq 22, 3) := by decide +kernel
theorem dX10_check_28 : decode cX10_check 28 = .ok (.goto 17, 3) := by decide +kernel
theorem dX10_check_31 : decode cX10_check 31 = .ok (.iload_n 1, 1) := by decide +kernel
theorem dX10_check_32 : decode cX10_check 32 = .ok (.bipush 10, 2) := by decide +kernel
theorem dX10_check_34 : decode cX10_check 34 = .ok (.if_icmp .ne 13, 3) := by decide +kernel
theorem dX10_check_37 : decode cX10_check 37 = .ok (.aload_n 0, 1) := by decide +kernel
theorem dX10_check_38 : decode cX10_check 38 = .ok (.iload_n 2, 1) := by decide +kernel
theorem dX10_check_39 : decode cX10_check 39 = .ok (.invokevirtual 140, 3) := by decide +kernel
theorem dX10_check_42 : decode cX10_check 42 = .ok (.ifCond .eq 5, 3) := by decide +kernel
theorem dX10_check_45 : decode cX10_check 45 = .ok (.iconst (-1), 1) := by decide +kernel
theorem dX10_check_46 : decode cX10_check 46 = .ok (.ireturn, 1) := by decide +kernel
theorem dX10_check_47 : decode cX10_check 47 = .ok (.iload_n 1, 1) := by decide +kernel
theorem dX10_check_48 : decode cX10_check 48 = .ok (.iconst 0, 1) := by decide +kernel
theorem dX10_check_49 : decode cX10_check 49 = .ok (.bipush 11, 2) := by decide +kernel
theorem dX10_check_51 : decode cX10_check 51 = .ok (.invokestatic 126, 3) := by decide +kernel
theorem dX10_check_54 : decode cX10_check 54 = .ok (.ifCond .eq 27, 3) := by decide +kernel
theorem dX10_check_57 : decode cX10_check 57 = .ok (.iload_n 1, 1) := by decide +kernel
theorem dX10_check_58 : decode cX10_check 58 = .ok (.bipush 11, 2) := by decide +kernel
theorem dX10_check_60 : decode cX10_check 60 = .ok (.if_icmp .ne 24, 3) := by decide +kernel
theorem dX10_check_63 : decode cX10_check 63 = .ok (.iload_n 2, 1) := by decide +kernel
theorem dX10_check_64 : decode cX10_check 64 = .ok (.iconst 0, 1) := by decide +kernel
theorem dX10_check_65 : decode cX10_check 65 = .ok (.iconst 2, 1) := by decide +kernel
theorem dX10_check_66 : decode cX10_check 66 = .ok (.invokestatic 126, 3) := by decide +kernel
theorem dX10_check_69 : decode cX10_check 69 = .ok (.ifCond .eq 12, 3) := by decide +kernel
theorem dX10_check_72 : decode cX10_check 72 = .ok (.iload_n 3, 1) := by decide +kernel
theorem dX10_check_73 : decode cX10_check 73 = .ok (.iconst 0, 1) := by decide +kernel
theorem dX10_check_74 : decode cX10_check 74 = .ok (.iconst 3, 1) := by decide +kernel
theorem dX10_check_75 : decode cX10_check 75 = .ok (.invokestatic 126, 3) := by decide +kernel
theorem dX10_check_78 : decode cX10_check 78 = .ok (.ifCond .ne 6, 3) := by decide +kernel
theorem dX10_check_81 : decode cX10_check 81 = .ok (.bipush (-2), 2) := by decide +kernel
theorem dX10_check_83 : decode cX10_check 83 = .ok (.ireturn, 1) := by decide +kernel
theorem dX10_check_84 : decode cX10_check 84 = .ok (.aload_n 0, 1) := by decide +kernel
theorem dX10_check_85 : decode cX10_check 85 = .ok (.getfield 178, 3) := by decide +kernel
theorem dX10_check_88 : decode cX10_check 88 = .ok (.bipush 40, 2) := by decide +kernel
theorem dX10_check_90 : decode cX10_check 90 = .ok (.if_icmp .ne 6, 3) := by decide +kernel
theorem dX10_check_93 : decode cX10_check 93 = .ok (.bipush (-4), 2) := by decide +kernel
theorem dX10_check_95 : decode cX10_check 95 = .ok (.ireturn, 1) := by decide +kernel
theorem dX10_check_96 : decode cX10_check 96 = .ok (.aload_n 0, 1) := by decide +kernel
theorem dX10_check_97 : decode cX10_check 97 = .ok (.getfield 62, 3) := by decide +kernel
theorem dX10_check_100 : decode cX10_check 100 = .ok (.aload_n 0, 1) := by decide +kernel
theorem dX10_check_101 : decode cX10_check 101 = .ok (.getfield 178, 3) := by decide +kernel
theorem dX10_check_104 : decode cX10_check 104 = .ok (.iload_n 1, 1) := by decide +kernel
theorem dX10_check_105 : decode cX10_check 105 = .ok (.iastore, 1) := by decide +kernel
theorem dX10_check_106 : decode cX10_check 106 = .ok (.aload_n 0, 1) := by decide +kernel
theorem dX10_check_107 : decode cX10_check 107 = .ok (.getfield 65, 3) := by decide +kernel
theorem dX10_check_110 : decode cX10_check 110 = .ok (.aload_n 0, 1) := by decide +kernel
theorem dX10_check_111 : decode cX10_check 111 = .ok (.getfield 178, 3) := by decide +kernel
theorem dX10_check_114 : decode cX10_check 114 = .ok (.iload_n 2, 1) := by decide +kernel
theorem dX10_check_115 : decode cX10_check 115 = .ok (.iastore, 1) := by decide +kernel
theorem dX10_check_116 : decode cX10_check 116 = .ok (.aload_n 0, 1) := by decide +kernel
theorem dX10_check_117 : decode cX10_check 117 = .ok (.getfield 68, 3) := by decide +kernel
theorem dX10_check_120 : decode cX10_check 120 = .ok (.aload_n 0, 1) := by decide +kernel
theorem dX10_check_121 : decode cX10_check 121 = .ok (.getfield 178, 3) := by decide +kernel
theorem dX10_check_124 : decode cX10_check 124 = .ok (.iload_n 3, 1) := by decide +kernel
theorem dX10_check_125 : decode cX10_check 125 = .ok (.iastore, 1) := by decide +kernel
theorem dX10_check_126 : decode cX10_check 126 = .ok (.aload_n 0, 1) := by decide +kernel
theorem dX10_check_127 : decode cX10_check 127 = .ok (.dup, 1) := by decide +kernel
theorem dX10_check_128 : decode cX10_check 128 = .ok (.getfield 178, 3) := by decide +kernel
theorem dX10_check_131 : decode cX10_check 131 = .ok (.iconst 1, 1) := by decide +kernel
theorem dX10_check_132 : decode cX10_check 132 = .ok (.iadd, 1) := by decide +kernel
theorem dX10_check_133 : decode cX10_check 133 = .ok (.putfield 178, 3) := by decide +kernel
theorem dX10_check_136 : decode cX10_check 136 = .ok (.aload_n 0, 1) := by decide +kernel
theorem dX10_check_137 : decode cX10_check 137 = .ok (.getfield 178, 3) := by decide +kernel
theorem dX10_check_140 : decode cX10_check 140 = .ok (.iconst 1, 1) := by decide +kernel
theorem dX10_check_141 : decode cX10_check 141 = .ok (.isub, 1) := by decide +kernel
theorem dX10_check_142 : decode cX10_check 142 = .ok (.ireturn, 1) := by decide +kernel
theorem dX10_truth_0 : decode cX10_truth 0 = .ok (.iload_n 0, 1) := by decide +kernel
theorem dX10_truth_1 : decode cX10_truth 1 = .ok (.ifCond .eq 7, 3) := by decide +kernel
theorem dX10_truth_4 : decode cX10_truth 4 = .ok (.iconst 1, 1) := by decide +kernel
theorem dX10_truth_5 : decode cX10_truth 5 = .ok (.goto 4, 3) := by decide +kernel
theorem dX10_truth_8 : decode cX10_truth 8 = .ok (.iconst 0, 1) := by decide +kernel
theorem dX10_truth_9 : decode cX10_truth 9 = .ok (.ireturn, 1) := by decide +kernel
theorem dX10_quotients_0 : decode cX10_quotients 0 = .ok (.iconst 0, 1) := by decide +kernel
theorem dX10_quotients_1 : decode cX10_quotients 1 = .ok (.istore_n 2, 1) := by decide +kernel
theorem dX10_quotients_2 : decode cX10_quotients 2 = .ok (.iload_n 2, 1) := by decide +kernel
theorem dX10_quotients_3 : decode cX10_quotients 3 = .ok (.aload_n 0, 1) := by decide +kernel
theorem dX10_quotients_4 : decode cX10_quotients 4 = .ok (.getfield 147, 3) := by decide +kernel
theorem dX10_quotients_7 : decode cX10_quotients 7 = .ok (.if_icmp .ge 37, 3) := by decide +kernel
theorem dX10_quotients_10 : decode cX10_quotients 10 = .ok (.aload_n 0, 1) := by decide +kernel
theorem dX10_quotients_11 : decode cX10_quotients 11 = .ok (.getfield 47, 3) := by decide +kernel
theorem dX10_quotients_14 : decode cX10_quotients 14 = .ok (.iload_n 2, 1) := by decide +kernel
theorem dX10_quotients_15 : decode cX10_quotients 15 = .ok (.iaload, 1) := by decide +kernel
theorem dX10_quotients_16 : decode cX10_quotients 16 = .ok (.iload_n 1, 1) := by decide +kernel
theorem dX10_quotients_17 : decode cX10_quotients 17 = .ok (.isub, 1) := by decide +kernel
theorem dX10_quotients_18 : decode cX10_quotients 18 = .ok (.istore_n 3, 1) := by decide +kernel
theorem dX10_quotients_19 : decode cX10_quotients 19 = .ok (.iload_n 3, 1) := by decide +kernel
theorem dX10_quotients_20 : decode cX10_quotients 20 = .ok (.ifCond .ne 6, 3) := by decide +kernel
theorem dX10_quotients_23 : decode cX10_quotients 23 = .ok (.bipush (-11), 2) := by decide +kernel
theorem dX10_quotients_25 : decode cX10_quotients 25 = .ok (.ireturn, 1) := by decide +kernel
theorem dX10_quotients_26 : decode cX10_quotients 26 = .ok (.sipush 1000, 3) := by decide +kernel
theorem dX10_quotients_29 : decode cX10_quotients 29 = .ok (.iload_n 3, 1) := by decide +kernel
theorem dX10_quotients_30 : decode cX10_quotients 30 = .ok (.idiv, 1) := by decide +kernel
theorem dX10_quotients_31 : decode cX10_quotients 31 = .ok (.bipush 7, 2) := by decide +kernel
theorem dX10_quotients_33 : decode cX10_quotients 33 = .ok (.if_icmp .ne 5, 3) := by decide +kernel
theorem dX10_quotients_36 : decode cX10_quotients 36 = .ok (.iconst 0, 1) := by decide +kernel
theorem dX10_quotients_37 : decode cX10_quotients 37 = .ok (.ireturn, 1) := by decide +kernel
theorem dX10_quotients_38 : decode cX10_quotients 38 = .ok (.iinc 2 1, 3) := by decide +kernel
theorem dX10_quotients_41 : decode cX10_quotients 41 = .ok (.goto (-39), 3) := by decide +kernel
theorem dX10_quotients_44 : decode cX10_quotients 44 = .ok (.iconst 1, 1) := by decide +kernel
theorem dX10_quotients_45 : decode cX10_quotients 45 = .ok (.ireturn, 1) := by decide +kernel
theorem dX10_places_0 : decode cX10_places 0 = .ok (.iconst 0, 1) := by decide +kernel
theorem dX10_places_1 : decode cX10_places 1 = .ok (.istore_n 2, 1) := by decide +kernel
theorem dX10_places_2 : decode cX10_places 2 = .ok (.iload_n 2, 1) := by decide +kernel
theorem dX10_places_3 : decode cX10_places 3 = .ok (.aload_n 0, 1) := by decide +kernel
theorem dX10_places_4 : decode cX10_places 4 = .ok (.getfield 147, 3) := by decide +kernel
theorem dX10_places_7 : decode cX10_places 7 = .ok (.if_icmp .ge 48, 3) := by decide +kernel
theorem dX10_places_10 : decode cX10_places 10 = .ok (.aload_n 0, 1) := by decide +kernel
theorem dX10_places_11 : decode cX10_places 11 = .ok (.getfield 47, 3) := by decide +kernel
theorem dX10_places_14 : decode cX10_places 14 = .ok (.iload_n 2, 1) := by decide +kernel
theorem dX10_places_15 : decode cX10_places 15 = .ok (.iaload, 1) := by decide +kernel
theorem dX10_places_16 : decode cX10_places 16 = .ok (.iconst 0, 1) := by decide +kernel
theorem dX10_places_17 : decode cX10_places 17 = .ok (.aload_n 0, 1) := by decide +kernel
theorem dX10_places_18 : decode cX10_places 18 = .ok (.getfield 147, 3) := by decide +kernel
theorem dX10_places_21 : decode cX10_places 21 = .ok (.iconst 1, 1) := by decide +kernel
theorem dX10_places_22 : decode cX10_places 22 = .ok (.isub, 1) := by decide +kernel
theorem dX10_places_23 : decode cX10_places 23 = .ok (.invokestatic 126, 3) := by decide +kernel
theorem dX10_places_26 : decode cX10_places 26 = .ok (.ifCond .ne 6, 3) := by decide +kernel
theorem dX10_places_29 : decode cX10_places 29 = .ok (.bipush (-12), 2) := by decide +kernel
theorem dX10_places_31 : decode cX10_places 31 = .ok (.ireturn, 1) := by decide +kernel
theorem dX10_places_32 : decode cX10_places 32 = .ok (.aload_n 0, 1) := by decide +kernel
theorem dX10_places_33 : decode cX10_places 33 = .ok (.getfield 47, 3) := by decide +kernel
theorem dX10_places_36 : decode cX10_places 36 = .ok (.aload_n 0, 1) := by decide +kernel
theorem dX10_places_37 : decode cX10_places 37 = .ok (.getfield 47, 3) := by decide +kernel
theorem dX10_places_40 : decode cX10_places 40 = .ok (.iload_n 2, 1) := by decide +kernel
theorem dX10_places_41 : decode cX10_places 41 = .ok (.iaload, 1) := by decide +kernel
theorem dX10_places_42 : decode cX10_places 42 = .ok (.iaload, 1) := by decide +kernel
theorem dX10_places_43 : decode cX10_places 43 = .ok (.iload_n 1, 1) := by decide +kernel
theorem dX10_places_44 : decode cX10_places 44 = .ok (.if_icmp .ne 5, 3) := by decide +kernel
theorem dX10_places_47 : decode cX10_places 47 = .ok (.iconst 0, 1) := by decide +kernel
theorem dX10_places_48 : decode cX10_places 48 = .ok (.ireturn, 1) := by decide +kernel
theorem dX10_places_49 : decode cX10_places 49 = .ok (.iinc 2 1, 3) := by decide +kernel
theorem dX10_places_52 : decode cX10_places 52 = .ok (.goto (-50), 3) := by decide +kernel
theorem dX10_places_55 : decode cX10_places 55 = .ok (.iconst 1, 1) := by decide +kernel
theorem dX10_places_56 : decode cX10_places 56 = .ok (.ireturn, 1) := by decide +kernel
theorem dX10_order_0 : decode cX10_order 0 = .ok (.iconst 1, 1) := by decide +kernel
theorem dX10_order_1 : decode cX10_order 1 = .ok (.istore_n 2, 1) := by decide +kernel
theorem dX10_order_2 : decode cX10_order 2 = .ok (.iconst 0, 1) := by decide +kernel
theorem dX10_order_3 : decode cX10_order 3 = .ok (.istore_n 3, 1) := by decide +kernel
theorem dX10_order_4 : decode cX10_order 4 = .ok (.iload_n 3, 1) := by decide +kernel
theorem dX10_order_5 : decode cX10_order 5 = .ok (.aload_n 0, 1) := by decide +kernel
theorem dX10_order_6 : decode cX10_order 6 = .ok (.getfield 147, 3) := by decide +kernel
theorem dX10_order_9 : decode cX10_order 9 = .ok (.if_icmp .ge 73, 3) := by decide +kernel
theorem dX10_order_12 : decode cX10_order 12 = .ok (.iconst 0, 1) := by decide +kernel
theorem dX10_order_13 : decode cX10_order 13 = .ok (.istore 4, 2) := by decide +kernel
theorem dX10_order_15 : decode cX10_order 15 = .ok (.iload 4, 2) := by decide +kernel
theorem dX10_order_17 : decode cX10_order 17 = .ok (.iload_n 3, 1) := by decide +kernel
theorem dX10_order_18 : decode cX10_order 18 = .ok (.if_icmp .ge 58, 3) := by decide +kernel
theorem dX10_order_21 : decode cX10_order 21 = .ok (.iload_n 2, 1) := by decide +kernel
theorem dX10_order_22 : decode cX10_order 22 = .ok (.ifCond .eq 46, 3) := by decide +kernel
theorem dX10_order_25 : decode cX10_order 25 = .ok (.iload_n 1, 1) := by decide +kernel
theorem dX10_order_26 : decode cX10_order 26 = .ok (.ifCond .eq 22, 3) := by decide +kernel
theorem dX10_order_29 : decode cX10_order 29 = .ok (.aload_n 0, 1) := by decide +kernel
theorem dX10_order_30 : decode cX10_order 30 = .ok (.getfield 47, 3) := by decide +kernel
theorem dX10_order_33 : decode cX10_order 33 = .ok (.iload 4, 2) := by decide +kernel
theorem dX10_order_35 : decode cX10_order 35 = .ok (.iaload, 1) := by decide +kernel
theorem dX10_order_36 : decode cX10_order 36 = .ok (.aload_n 0, 1) := by decide +kernel
theorem dX10_order_37 : decode cX10_order 37 = .ok (.getfield 47, 3) := by decide +kernel
theorem dX10_order_40 : decode cX10_order 40 = .ok (.iload_n 3, 1) := by decide +kernel
theorem dX10_order_41 : decode cX10_order 41 = .ok (.iaload, 1) := by decide +kernel
theorem dX10_order_42 : decode cX10_order 42 = .ok (.if_icmp .eq 26, 3) := by decide +kernel
theorem dX10_order_45 : decode cX10_order 45 = .ok (.goto 19, 3) := by decide +kernel
theorem dX10_order_48 : decode cX10_order 48 = .ok (.aload_n 0, 1) := by decide +kernel
theorem dX10_order_49 : decode cX10_order 49 = .ok (.getfield 47, 3) := by decide +kernel
theorem dX10_order_52 : decode cX10_order 52 = .ok (.iload 4, 2) := by decide +kernel
theorem dX10_order_54 : decode cX10_order 54 = .ok (.iaload, 1) := by decide +kernel
theorem dX10_order_55 : decode cX10_order 55 = .ok (.aload_n 0, 1) := by decide +kernel
theorem dX10_order_56 : decode cX10_order 56 = .ok (.getfield 47, 3) := by decide +kernel
theorem dX10_order_59 : decode cX10_order 59 = .ok (.iload_n 3, 1) := by decide +kernel
theorem dX10_order_60 : decode cX10_order 60 = .ok (.iaload, 1) := by decide +kernel
theorem dX10_order_61 : decode cX10_order 61 = .ok (.if_icmp .gt 7, 3) := by decide +kernel
theorem dX10_order_64 : decode cX10_order 64 = .ok (.iconst 1, 1) := by decide +kernel
theorem dX10_order_65 : decode cX10_order 65 = .ok (.goto 4, 3) := by decide +kernel
theorem dX10_order_68 : decode cX10_order 68 = .ok (.iconst 0, 1) := by decide +kernel
theorem dX10_order_69 : decode cX10_order 69 = .ok (.istore_n 2, 1) := by decide +kernel
theorem dX10_order_70 : decode cX10_order 70 = .ok (.iinc 4 1, 3) := by decide +kernel
theorem dX10_order_73 : decode cX10_order 73 = .ok (.goto (-58), 3) := by decide +kernel
theorem dX10_order_76 : decode cX10_order 76 = .ok (.iinc 3 1, 3) := by decide +kernel
theorem dX10_order_79 : decode cX10_order 79 = .ok (.goto (-75), 3) := by decide +kernel
theorem dX10_order_82 : decode cX10_order 82 = .ok (.iload_n 2, 1) := by decide +kernel
theorem dX10_order_83 : decode cX10_order 83 = .ok (.invokestatic 181, 3) := by decide +kernel
theorem dX10_order_86 : decode cX10_order 86 = .ok (.ireturn, 1) := by decide +kernel
theorem dX10_atLeast_0 : decode cX10_atLeast 0 = .ok (.iconst 1, 1) := by decide +kernel
theorem dX10_atLeast_1 : decode cX10_atLeast 1 = .ok (.istore_n 2, 1) := by decide +kernel
theorem dX10_atLeast_2 : decode cX10_atLeast 2 = .ok (.iconst 0, 1) := by decide +kernel
theorem dX10_atLeast_3 : decode cX10_atLeast 3 = .ok (.istore_n 3, 1) := by decide +kernel
theorem dX10_atLeast_4 : decode cX10_atLeast 4 = .ok (.iload_n 3, 1) := by decide +kernel
theorem dX10_atLeast_5 : decode cX10_atLeast 5 = .ok (.aload_n 0, 1) := by decide +kernel
theorem dX10_atLeast_6 : decode cX10_atLeast 6 = .ok (.getfield 147, 3) := by decide +kernel
theorem dX10_atLeast_9 : decode cX10_atLeast 9 = .ok (.if_icmp .ge 29, 3) := by decide +kernel
theorem dX10_atLeast_12 : decode cX10_atLeast 12 = .ok (.iload_n 2, 1) := by decide +kernel
theorem dX10_atLeast_13 : decode cX10_atLeast 13 = .ok (.ifCond .eq 17, 3) := by decide +kernel
theorem dX10_atLeast_16 : decode cX10_atLeast 16 = .ok (.aload_n 0, 1) := by decide +kernel
theorem dX10_atLeast_17 : decode cX10_atLeast 17 = .ok (.getfield 47, 3) := by decide +kernel
theorem dX10_atLeast_20 : decode cX10_atLeast 20 = .ok (.iload_n 3, 1) := by decide +kernel
theorem dX10_atLeast_21 : decode cX10_atLeast 21 = .ok (.iaload, 1) := by decide +kernel
theorem dX10_atLeast_22 : decode cX10_atLeast 22 = .ok (.iload_n 1, 1) := by decide +kernel
theorem dX10_atLeast_23 : decode cX10_atLeast 23 = .ok (.if_icmp .lt 7, 3) := by decide +kernel
theorem dX10_atLeast_26 : decode cX10_atLeast 26 = .ok (.iconst 1, 1) := by decide +kernel
theorem dX10_atLeast_27 : decode cX10_atLeast 27 = .ok (.goto 4, 3) := by decide +kernel
theorem dX10_atLeast_30 : decode cX10_atLeast 30 = .ok (.iconst 0, 1) := by decide +kernel
theorem dX10_atLeast_31 : decode cX10_atLeast 31 = .ok (.istore_n 2, 1) := by decide +kernel
theorem dX10_atLeast_32 : decode cX10_atLeast 32 = .ok (.iinc 3 1, 3) := by decide +kernel
theorem dX10_atLeast_35 : decode cX10_atLeast 35 = .ok (.goto (-31), 3) := by decide +kernel
theorem dX10_atLeast_38 : decode cX10_atLeast 38 = .ok (.iload_n 2, 1) := by decide +kernel
theorem dX10_atLeast_39 : decode cX10_atLeast 39 = .ok (.invokestatic 181, 3) := by decide +kernel
theorem dX10_atLeast_42 : decode cX10_atLeast 42 = .ok (.ireturn, 1) := by decide +kernel
theorem dX10_putAway_0 : decode cX10_putAway 0 = .ok (.iconst 5, 1) := by decide +kernel
theorem dX10_putAway_1 : decode cX10_putAway 1 = .ok (.iload_n 1, 1) := by decide +kernel
theorem dX10_putAway_2 : decode cX10_putAway 2 = .ok (.imul, 1) := by decide +kernel
theorem dX10_putAway_3 : decode cX10_putAway 3 = .ok (.istore_n 3, 1) := by decide +kernel
theorem dX10_putAway_4 : decode cX10_putAway 4 = .ok (.iload_n 2, 1) := by decide +kernel
theorem dX10_putAway_5 : decode cX10_putAway 5 = .ok (.istore 4, 2) := by decide +kernel
theorem dX10_putAway_7 : decode cX10_putAway 7 = .ok (.iload 4, 2) := by decide +kernel
theorem dX10_putAway_9 : decode cX10_putAway 9 = .ok (.iconst 1, 1) := by decide +kernel
theorem dX10_putAway_10 : decode cX10_putAway 10 = .ok (.iadd, 1) := by decide +kernel
theorem dX10_putAway_11 : decode cX10_putAway 11 = .ok (.aload_n 0, 1) := by decide +kernel
theorem dX10_putAway_12 : decode cX10_putAway 12 = .ok (.getfield 77, 3) := by decide +kernel
theorem dX10_putAway_15 : decode cX10_putAway 15 = .ok (.iload_n 1, 1) := by decide +kernel
theorem dX10_putAway_16 : decode cX10_putAway 16 = .ok (.iaload, 1) := by decide +kernel
theorem dX10_putAway_17 : decode cX10_putAway 17 = .ok (.if_icmp .ge 29, 3) := by decide +kernel
theorem dX10_putAway_20 : decode cX10_putAway 20 = .ok (.aload_n 0, 1) := by decide +kernel
theorem dX10_putAway_21 : decode cX10_putAway 21 = .ok (.getfield 74, 3) := by decide +kernel
theorem dX10_putAway_24 : decode cX10_putAway 24 = .ok (.iload_n 3, 1) := by decide +kernel
theorem dX10_putAway_25 : decode cX10_putAway 25 = .ok (.iload 4, 2) := by decide +kernel
theorem dX10_putAway_27 : decode cX10_putAway 27 = .ok (.iadd, 1) := by decide +kernel
theorem dX10_putAway_28 : decode cX10_putAway 28 = .ok (.aload_n 0, 1) := by decide +kernel
theorem dX10_putAway_29 : decode cX10_putAway 29 = .ok (.getfield 74, 3) := by decide +kernel
theorem dX10_putAway_32 : decode cX10_putAway 32 = .ok (.iload_n 3, 1) := by decide +kernel
theorem dX10_putAway_33 : decode cX10_putAway 33 = .ok (.iload 4, 2) := by decide +kernel
theorem dX10_putAway_35 : decode cX10_putAway 35 = .ok (.iadd, 1) := by decide +kernel
theorem dX10_putAway_36 : decode cX10_putAway 36 = .ok (.iconst 1, 1) := by decide +kernel
theorem dX10_putAway_37 : decode cX10_putAway 37 = .ok (.iadd, 1) := by decide +kernel
theorem dX10_putAway_38 : decode cX10_putAway 38 = .ok (.iaload, 1) := by decide +kernel
theorem dX10_putAway_39 : decode cX10_putAway 39 = .ok (.iastore, 1) := by decide +kernel
theorem dX10_putAway_40 : decode cX10_putAway 40 = .ok (.iinc 4 1, 3) := by decide +kernel
theorem dX10_putAway_43 : decode cX10_putAway 43 = .ok (.goto (-36), 3) := by decide +kernel
theorem dX10_putAway_46 : decode cX10_putAway 46 = .ok (.aload_n 0, 1) := by decide +kernel
theorem dX10_putAway_47 : decode cX10_putAway 47 = .ok (.getfield 77, 3) := by decide +kernel
theorem dX10_putAway_50 : decode cX10_putAway 50 = .ok (.iload_n 1, 1) := by decide +kernel
theorem dX10_putAway_51 : decode cX10_putAway 51 = .ok (.dup2, 1) := by decide +kernel
theorem dX10_putAway_52 : decode cX10_putAway 52 = .ok (.iaload, 1) := by decide +kernel
theorem dX10_putAway_53 : decode cX10_putAway 53 = .ok (.iconst 1, 1) := by decide +kernel
theorem dX10_putAway_54 : decode cX10_putAway 54 = .ok (.isub, 1) := by decide +kernel
theorem dX10_putAway_55 : decode cX10_putAway 55 = .ok (.iastore, 1) := by decide +kernel
theorem dX10_putAway_56 : decode cX10_putAway 56 = .ok (.return_, 1) := by decide +kernel
theorem dX10_putIn_0 : decode cX10_putIn 0 = .ok (.iconst 5, 1) := by decide +kernel
theorem dX10_putIn_1 : decode cX10_putIn 1 = .ok (.iload_n 2, 1) := by decide +kernel
theorem dX10_putIn_2 : decode cX10_putIn 2 = .ok (.imul, 1) := by decide +kernel
theorem dX10_putIn_3 : decode cX10_putIn 3 = .ok (.istore 4, 2) := by decide +kernel
theorem dX10_putIn_5 : decode cX10_putIn 5 = .ok (.aload_n 0, 1) := by decide +kernel
theorem dX10_putIn_6 : decode cX10_putIn 6 = .ok (.getfield 77, 3) := by decide +kernel
theorem dX10_putIn_9 : decode cX10_putIn 9 = .ok (.iload_n 2, 1) := by decide +kernel
theorem dX10_putIn_10 : decode cX10_putIn 10 = .ok (.iaload, 1) := by decide +kernel
theorem dX10_putIn_11 : decode cX10_putIn 11 = .ok (.istore 5, 2) := by decide +kernel
theorem dX10_putIn_13 : decode cX10_putIn 13 = .ok (.iload_n 1, 1) := by decide +kernel
theorem dX10_putIn_14 : decode cX10_putIn 14 = .ok (.iconst 2, 1) := by decide +kernel
theorem dX10_putIn_15 : decode cX10_putIn 15 = .ok (.if_icmp .ne 52, 3) := by decide +kernel
theorem dX10_putIn_18 : decode cX10_putIn 18 = .ok (.iload 5, 2) := by decide +kernel
theorem dX10_putIn_20 : decode cX10_putIn 20 = .ok (.ifCond .le 47, 3) := by decide +kernel
theorem dX10_putIn_23 : decode cX10_putIn 23 = .ok (.aload_n 0, 1) := by decide +kernel
theorem dX10_putIn_24 : decode cX10_putIn 24 = .ok (.getfield 74, 3) := by decide +kernel
theorem dX10_putIn_27 : decode cX10_putIn 27 = .ok (.iload 4, 2) := by decide +kernel
theorem dX10_putIn_29 : decode cX10_putIn 29 = .ok (.iload 5, 2) := by decide +kernel
theorem dX10_putIn_31 : decode cX10_putIn 31 = .ok (.iadd, 1) := by decide +kernel
theorem dX10_putIn_32 : decode cX10_putIn 32 = .ok (.iconst 1, 1) := by decide +kernel
theorem dX10_putIn_33 : decode cX10_putIn 33 = .ok (.isub, 1) := by decide +kernel
theorem dX10_putIn_34 : decode cX10_putIn 34 = .ok (.iaload, 1) := by decide +kernel
theorem dX10_putIn_35 : decode cX10_putIn 35 = .ok (.iload_n 3, 1) := by decide +kernel
theorem dX10_putIn_36 : decode cX10_putIn 36 = .ok (.if_icmp .le 31, 3) := by decide +kernel
theorem dX10_putIn_39 : decode cX10_putIn 39 = .ok (.aload_n 0, 1) := by decide +kernel
theorem dX10_putIn_40 : decode cX10_putIn 40 = .ok (.getfield 74, 3) := by decide +kernel
theorem dX10_putIn_43 : decode cX10_putIn 43 = .ok (.iload 4, 2) := by decide +kernel
theorem dX10_putIn_45 : decode cX10_putIn 45 = .ok (.iload 5, 2) := by decide +kernel
theorem dX10_putIn_47 : decode cX10_putIn 47 = .ok (.iadd, 1) := by decide +kernel
theorem dX10_putIn_48 : decode cX10_putIn 48 = .ok (.aload_n 0, 1) := by decide +kernel
theorem dX10_putIn_49 : decode cX10_putIn 49 = .ok (.getfield 74, 3) := by decide +kernel
theorem dX10_putIn_52 : decode cX10_putIn 52 = .ok (.iload 4, 2) := by decide +kernel
theorem dX10_putIn_54 : decode cX10_putIn 54 = .ok (.iload 5, 2) := by decide +kernel
theorem dX10_putIn_56 : decode cX10_putIn 56 = .ok (.iadd, 1) := by decide +kernel
theorem dX10_putIn_57 : decode cX10_putIn 57 = .ok (.iconst 1, 1) := by decide +kernel
theorem dX10_putIn_58 : decode cX10_putIn 58 = .ok (.isub, 1) := by decide +kernel
theorem dX10_putIn_59 : decode cX10_putIn 59 = .ok (.iaload, 1) := by decide +kernel
theorem dX10_putIn_60 : decode cX10_putIn 60 = .ok (.iastore, 1) := by decide +kernel
theorem dX10_putIn_61 : decode cX10_putIn 61 = .ok (.iinc 5 (-1), 3) := by decide +kernel
theorem dX10_putIn_64 : decode cX10_putIn 64 = .ok (.goto (-51), 3) := by decide +kernel
theorem dX10_putIn_67 : decode cX10_putIn 67 = .ok (.aload_n 0, 1) := by decide +kernel
theorem dX10_putIn_68 : decode cX10_putIn 68 = .ok (.getfield 74, 3) := by decide +kernel
theorem dX10_putIn_71 : decode cX10_putIn 71 = .ok (.iload 4, 2) := by decide +kernel
theorem dX10_putIn_73 : decode cX10_putIn 73 = .ok (.iload 5, 2) := by decide +kernel
theorem dX10_putIn_75 : decode cX10_putIn 75 = .ok (.iadd, 1) := by decide +kernel
theorem dX10_putIn_76 : decode cX10_putIn 76 = .ok (.iload_n 3, 1) := by decide +kernel
theorem dX10_putIn_77 : decode cX10_putIn 77 = .ok (.iastore, 1) := by decide +kernel
theorem dX10_putIn_78 : decode cX10_putIn 78 = .ok (.aload_n 0, 1) := by decide +kernel
theorem dX10_putIn_79 : decode cX10_putIn 79 = .ok (.getfield 77, 3) := by decide +kernel
theorem dX10_putIn_82 : decode cX10_putIn 82 = .ok (.iload_n 2, 1) := by decide +kernel
theorem dX10_putIn_83 : decode cX10_putIn 83 = .ok (.dup2, 1) := by decide +kernel
theorem dX10_putIn_84 : decode cX10_putIn 84 = .ok (.iaload, 1) := by decide +kernel
theorem dX10_putIn_85 : decode cX10_putIn 85 = .ok (.iconst 1, 1) := by decide +kernel
theorem dX10_putIn_86 : decode cX10_putIn 86 = .ok (.iadd, 1) := by decide +kernel
theorem dX10_putIn_87 : decode cX10_putIn 87 = .ok (.iastore, 1) := by decide +kernel
theorem dX10_putIn_88 : decode cX10_putIn 88 = .ok (.return_, 1) := by decide +kernel
theorem dX10_answer_0 : decode cX10_answer 0 = .ok (.iconst 5, 1) := by decide +kernel
theorem dX10_answer_1 : decode cX10_answer 1 = .ok (.iload_n 2, 1) := by decide +kernel
theorem dX10_answer_2 : decode cX10_answer 2 = .ok (.imul, 1) := by decide +kernel
theorem dX10_answer_3 : decode cX10_answer 3 = .ok (.istore 6, 2) := by decide +kernel
theorem dX10_answer_5 : decode cX10_answer 5 = .ok (.aload_n 0, 1) := by decide +kernel
theorem dX10_answer_6 : decode cX10_answer 6 = .ok (.getfield 77, 3) := by decide +kernel
theorem dX10_answer_9 : decode cX10_answer 9 = .ok (.iload_n 2, 1) := by decide +kernel
theorem dX10_answer_10 : decode cX10_answer 10 = .ok (.iaload, 1) := by decide +kernel
theorem dX10_answer_11 : decode cX10_answer 11 = .ok (.istore 7, 2) := by decide +kernel
theorem dX10_answer_13 : decode cX10_answer 13 = .ok (.iload 4, 2) := by decide +kernel
theorem dX10_answer_15 : decode cX10_answer 15 = .ok (.ifCond .ne 65, 3) := by decide +kernel
theorem dX10_answer_18 : decode cX10_answer 18 = .ok (.iload 7, 2) := by decide +kernel
theorem dX10_answer_20 : decode cX10_answer 20 = .ok (.iconst 5, 1) := by decide +kernel
theorem dX10_answer_21 : decode cX10_answer 21 = .ok (.if_icmp .ne 15, 3) := by decide +kernel
theorem dX10_answer_24 : decode cX10_answer 24 = .ok (.iload_n 3, 1) := by decide +kernel
theorem dX10_answer_25 : decode cX10_answer 25 = .ok (.iconst 3, 1) := by decide +kernel
theorem dX10_answer_26 : decode cX10_answer 26 = .ok (.if_icmp .ne 10, 3) := by decide +kernel
theorem dX10_answer_29 : decode cX10_answer 29 = .ok (.aload_n 0, 1) := by decide +kernel
theorem dX10_answer_30 : decode cX10_answer 30 = .ok (.iconst 1, 1) := by decide +kernel
theorem dX10_answer_31 : decode cX10_answer 31 = .ok (.putfield 185, 3) := by decide +kernel
theorem dX10_answer_34 : decode cX10_answer 34 = .ok (.iconst 0, 1) := by decide +kernel
theorem dX10_answer_35 : decode cX10_answer 35 = .ok (.ireturn, 1) := by decide +kernel
theorem dX10_answer_36 : decode cX10_answer 36 = .ok (.iload 7, 2) := by decide +kernel
theorem dX10_answer_38 : decode cX10_answer 38 = .ok (.iconst 5, 1) := by decide +kernel
theorem dX10_answer_39 : decode cX10_answer 39 = .ok (.if_icmp .ne 10, 3) := by decide +kernel
theorem dX10_answer_42 : decode cX10_answer 42 = .ok (.iload_n 3, 1) := by decide +kernel
theorem dX10_answer_43 : decode cX10_answer 43 = .ok (.iconst 1, 1) := by decide +kernel
theorem dX10_answer_44 : decode cX10_answer 44 = .ok (.if_icmp .eq 5, 3) := by decide +kernel
theorem dX10_answer_47 : decode cX10_answer 47 = .ok (.iconst 0, 1) := by decide +kernel
theorem dX10_answer_48 : decode cX10_answer 48 = .ok (.ireturn, 1) := by decide +kernel
theorem dX10_answer_49 : decode cX10_answer 49 = .ok (.iload 7, 2) := by decide +kernel
theorem dX10_answer_51 : decode cX10_answer 51 = .ok (.iconst 5, 1) := by decide +kernel
theorem dX10_answer_52 : decode cX10_answer 52 = .ok (.if_icmp .ne 18, 3) := by decide +kernel
theorem dX10_answer_55 : decode cX10_answer 55 = .ok (.aload_n 0, 1) := by decide +kernel
theorem dX10_answer_56 : decode cX10_answer 56 = .ok (.iload_n 2, 1) := by decide +kernel
theorem dX10_answer_57 : decode cX10_answer 57 = .ok (.iload_n 1, 1) := by decide +kernel
theorem dX10_answer_58 : decode cX10_answer 58 = .ok (.iconst 2, 1) := by decide +kernel
theorem dX10_answer_59 : decode cX10_answer 59 = .ok (.if_icmp .ne 7, 3) := by decide +kernel
theorem dX10_answer_62 : decode cX10_answer 62 = .ok (.iconst 4, 1) := by decide +kernel
theorem dX10_answer_63 : decode cX10_answer 63 = .ok (.goto 4, 3) := by decide +kernel
theorem dX10_answer_66 : decode cX10_answer 66 = .ok (.iconst 0, 1) := by decide +kernel
theorem dX10_answer_67 : decode cX10_answer 67 = .ok (.invokevirtual 188, 3) := by decide +kernel
theorem dX10_answer_70 : decode cX10_answer 70 = .ok (.aload_n 0, 1) := by decide +kernel
theorem dX10_answer_71 : decode cX10_answer 71 = .ok (.iload_n 1, 1) := by decide +kernel
theorem dX10_answer_72 : decode cX10_answer 72 = .ok (.iload_n 2, 1) := by decide +kernel
theorem dX10_answer_73 : decode cX10_answer 73 = .ok (.iload 5, 2) := by decide +kernel
theorem dX10_answer_75 : decode cX10_answer 75 = .ok (.invokevirtual 191, 3) := by decide +kernel
theorem dX10_answer_78 : decode cX10_answer 78 = .ok (.iconst 1, 1) := by decide +kernel
theorem dX10_answer_79 : decode cX10_answer 79 = .ok (.ireturn, 1) := by decide +kernel
theorem dX10_answer_80 : decode cX10_answer 80 = .ok (.iload 4, 2) := by decide +kernel
theorem dX10_answer_82 : decode cX10_answer 82 = .ok (.iconst 3, 1) := by decide +kernel
theorem dX10_answer_83 : decode cX10_answer 83 = .ok (.if_icmp .ne 6, 3) := by decide +kernel
theorem dX10_answer_86 : decode cX10_answer 86 = .ok (.iload 7, 2) := by decide +kernel
theorem dX10_answer_88 : decode cX10_answer 88 = .ok (.ireturn, 1) := by decide +kernel
theorem dX10_answer_89 : decode cX10_answer 89 = .ok (.iload 4, 2) := by decide +kernel
theorem dX10_answer_91 : decode cX10_answer 91 = .ok (.iconst 2, 1) := by decide +kernel
theorem dX10_answer_92 : decode cX10_answer 92 = .ok (.if_icmp .ne 55, 3) := by decide +kernel
theorem dX10_answer_95 : decode cX10_answer 95 = .ok (.iload_n 1, 1) := by decide +kernel
theorem dX10_answer_96 : decode cX10_answer 96 = .ok (.iconst 2, 1) := by decide +kernel
theorem dX10_answer_97 : decode cX10_answer 97 = .ok (.if_icmp .ne 50, 3) := by decide +kernel
theorem dX10_answer_100 : decode cX10_answer 100 = .ok (.iconst 0, 1) := by decide +kernel
theorem dX10_answer_101 : decode cX10_answer 101 = .ok (.istore 8, 2) := by decide +kernel
theorem dX10_answer_103 : decode cX10_answer 103 = .ok (.iconst 0, 1) := by decide +kernel
theorem dX10_answer_104 : decode cX10_answer 104 = .ok (.istore 9, 2) := by decide +kernel
theorem dX10_answer_106 : decode cX10_answer 106 = .ok (.iload 9, 2) := by decide +kernel
theorem dX10_answer_108 : decode cX10_answer 108 = .ok (.iload 7, 2) := by decide +kernel
theorem dX10_answer_110 : decode cX10_answer 110 = .ok (.if_icmp .ge 34, 3) := by decide +kernel
theorem dX10_answer_113 : decode cX10_answer 113 = .ok (.iload 8, 2) := by decide +kernel
theorem dX10_answer_115 : decode cX10_answer 115 = .ok (.aload_n 0, 1) := by decide +kernel
theorem dX10_answer_116 : decode cX10_answer 116 = .ok (.getfield 74, 3) := by decide +kernel
theorem dX10_answer_119 : decode cX10_answer 119 = .ok (.iload 6, 2) := by decide +kernel
theorem dX10_answer_121 : decode cX10_answer 121 = .ok (.iload 9, 2) := by decide +kernel
theorem dX10_answer_123 : decode cX10_answer 123 = .ok (.iadd, 1) := by decide +kernel
theorem dX10_answer_124 : decode cX10_answer 124 = .ok (.iaload, 1) := by decide +kernel
theorem dX10_answer_125 : decode cX10_answer 125 = .ok (.iload 5, 2) := by decide +kernel
theorem dX10_answer_127 : decode cX10_answer 127 = .ok (.if_icmp .ne 7, 3) := by decide +kernel
theorem dX10_answer_130 : decode cX10_answer 130 = .ok (.iconst 1, 1) := by decide +kernel
theorem dX10_answer_131 : decode cX10_answer 131 = .ok (.goto 4, 3) := by decide +kernel
theorem dX10_answer_134 : decode cX10_answer 134 = .ok (.iconst 0, 1) := by decide +kernel
theorem dX10_answer_135 : decode cX10_answer 135 = .ok (.iadd, 1) := by decide +kernel
theorem dX10_answer_136 : decode cX10_answer 136 = .ok (.istore 8, 2) := by decide +kernel
theorem dX10_answer_138 : decode cX10_answer 138 = .ok (.iinc 9 1, 3) := by decide +kernel
theorem dX10_answer_141 : decode cX10_answer 141 = .ok (.goto (-35), 3) := by decide +kernel
theorem dX10_answer_144 : decode cX10_answer 144 = .ok (.iload 8, 2) := by decide +kernel
theorem dX10_answer_146 : decode cX10_answer 146 = .ok (.ireturn, 1) := by decide +kernel
theorem dX10_answer_147 : decode cX10_answer 147 = .ok (.iload 7, 2) := by decide +kernel
theorem dX10_answer_149 : decode cX10_answer 149 = .ok (.ifCond .ne 20, 3) := by decide +kernel
theorem dX10_answer_152 : decode cX10_answer 152 = .ok (.iload 4, 2) := by decide +kernel
theorem dX10_answer_154 : decode cX10_answer 154 = .ok (.iconst 1, 1) := by decide +kernel
theorem dX10_answer_155 : decode cX10_answer 155 = .ok (.if_icmp .ne 12, 3) := by decide +kernel
theorem dX10_answer_158 : decode cX10_answer 158 = .ok (.iload_n 3, 1) := by decide +kernel
theorem dX10_answer_159 : decode cX10_answer 159 = .ok (.iconst 2, 1) := by decide +kernel
theorem dX10_answer_160 : decode cX10_answer 160 = .ok (.if_icmp .ne 7, 3) := by decide +kernel
theorem dX10_answer_163 : decode cX10_answer 163 = .ok (.iconst 0, 1) := by decide +kernel
theorem dX10_answer_164 : decode cX10_answer 164 = .ok (.goto 4, 3) := by decide +kernel
theorem dX10_answer_167 : decode cX10_answer 167 = .ok (.iconst (-1), 1) := by decide +kernel
theorem dX10_answer_168 : decode cX10_answer 168 = .ok (.ireturn, 1) := by decide +kernel
theorem dX10_answer_169 : decode cX10_answer 169 = .ok (.iload_n 1, 1) := by decide +kernel
theorem dX10_answer_170 : decode cX10_answer 170 = .ok (.ifCond .ne 10, 3) := by decide +kernel
theorem dX10_answer_173 : decode cX10_answer 173 = .ok (.iload 7, 2) := by decide +kernel
theorem dX10_answer_175 : decode cX10_answer 175 = .ok (.iconst 1, 1) := by decide +kernel
theorem dX10_answer_176 : decode cX10_answer 176 = .ok (.isub, 1) := by decide +kernel
theorem dX10_answer_177 : decode cX10_answer 177 = .ok (.goto 4, 3) := by decide +kernel
theorem dX10_answer_180 : decode cX10_answer 180 = .ok (.iconst 0, 1) := by decide +kernel
theorem dX10_answer_181 : decode cX10_answer 181 = .ok (.istore 8, 2) := by decide +kernel
theorem dX10_answer_183 : decode cX10_answer 183 = .ok (.aload_n 0, 1) := by decide +kernel
theorem dX10_answer_184 : decode cX10_answer 184 = .ok (.getfield 74, 3) := by decide +kernel
theorem dX10_answer_187 : decode cX10_answer 187 = .ok (.iload 6, 2) := by decide +kernel
theorem dX10_answer_189 : decode cX10_answer 189 = .ok (.iload 8, 2) := by decide +kernel
theorem dX10_answer_191 : decode cX10_answer 191 = .ok (.iadd, 1) := by decide +kernel
theorem dX10_answer_192 : decode cX10_answer 192 = .ok (.iaload, 1) := by decide +kernel
theorem dX10_answer_193 : decode cX10_answer 193 = .ok (.istore 9, 2) := by decide +kernel
theorem dX10_answer_195 : decode cX10_answer 195 = .ok (.iload 4, 2) := by decide +kernel
theorem dX10_answer_197 : decode cX10_answer 197 = .ok (.iconst 1, 1) := by decide +kernel
theorem dX10_answer_198 : decode cX10_answer 198 = .ok (.if_icmp .ne 10, 3) := by decide +kernel
theorem dX10_answer_201 : decode cX10_answer 201 = .ok (.aload_n 0, 1) := by decide +kernel
theorem dX10_answer_202 : decode cX10_answer 202 = .ok (.iload_n 2, 1) := by decide +kernel
theorem dX10_answer_203 : decode cX10_answer 203 = .ok (.iload 8, 2) := by decide +kernel
theorem dX10_answer_205 : decode cX10_answer 205 = .ok (.invokevirtual 188, 3) := by decide +kernel
theorem dX10_answer_208 : decode cX10_answer 208 = .ok (.iload 9, 2) := by decide +kernel
theorem dX10_answer_210 : decode cX10_answer 210 = .ok (.ireturn, 1) := by decide +kernel
theorem dX10_runs_0 : decode cX10_runs 0 = .ok (.aload_n 0, 1) := by decide +kernel
theorem dX10_runs_1 : decode cX10_runs 1 = .ok (.getfield 77, 3) := by decide +kernel
theorem dX10_runs_4 : decode cX10_runs 4 = .ok (.iconst 0, 1) := by decide +kernel
theorem dX10_runs_5 : decode cX10_runs 5 = .ok (.iconst 0, 1) := by decide +kernel
theorem dX10_runs_6 : decode cX10_runs 6 = .ok (.iastore, 1) := by decide +kernel
theorem dX10_runs_7 : decode cX10_runs 7 = .ok (.aload_n 0, 1) := by decide +kernel
theorem dX10_runs_8 : decode cX10_runs 8 = .ok (.getfield 77, 3) := by decide +kernel
theorem dX10_runs_11 : decode cX10_runs 11 = .ok (.iconst 1, 1) := by decide +kernel
theorem dX10_runs_12 : decode cX10_runs 12 = .ok (.iconst 0, 1) := by decide +kernel
theorem dX10_runs_13 : decode cX10_runs 13 = .ok (.iastore, 1) := by decide +kernel
theorem dX10_runs_14 : decode cX10_runs 14 = .ok (.aload_n 0, 1) := by decide +kernel
theorem dX10_runs_15 : decode cX10_runs 15 = .ok (.iconst 0, 1) := by decide +kernel
theorem dX10_runs_16 : decode cX10_runs 16 = .ok (.putfield 185, 3) := by decide +kernel
theorem dX10_runs_19 : decode cX10_runs 19 = .ok (.iconst 1, 1) := by decide +kernel
theorem dX10_runs_20 : decode cX10_runs 20 = .ok (.istore 4, 2) := by decide +kernel
theorem dX10_runs_22 : decode cX10_runs 22 = .ok (.iconst 0, 1) := by decide +kernel
theorem dX10_runs_23 : decode cX10_runs 23 = .ok (.istore 5, 2) := by decide +kernel
theorem dX10_runs_25 : decode cX10_runs 25 = .ok (.iload 5, 2) := by decide +kernel
theorem dX10_runs_27 : decode cX10_runs 27 = .ok (.iload_n 3, 1) := by decide +kernel
theorem dX10_runs_28 : decode cX10_runs 28 = .ok (.if_icmp .ge 127, 3) := by decide +kernel
theorem dX10_runs_31 : decode cX10_runs 31 = .ok (.aload_n 0, 1) := by decide +kernel
theorem dX10_runs_32 : decode cX10_runs 32 = .ok (.getfield 47, 3) := by decide +kernel
theorem dX10_runs_35 : decode cX10_runs 35 = .ok (.iconst 2, 1) := by decide +kernel
theorem dX10_runs_36 : decode cX10_runs 36 = .ok (.iload 5, 2) := by decide +kernel
theorem dX10_runs_38 : decode cX10_runs 38 = .ok (.imul, 1) := by decide +kernel
theorem dX10_runs_39 : decode cX10_runs 39 = .ok (.iaload, 1) := by decide +kernel
theorem dX10_runs_40 : decode cX10_runs 40 = .ok (.iconst 4, 1) := by decide +kernel
theorem dX10_runs_41 : decode cX10_runs 41 = .ok (.irem, 1) := by decide +kernel
theorem dX10_runs_42 : decode cX10_runs 42 = .ok (.istore 6, 2) := by decide +kernel
theorem dX10_runs_44 : decode cX10_runs 44 = .ok (.aload_n 0, 1) := by decide +kernel
theorem dX10_runs_45 : decode cX10_runs 45 = .ok (.iload 6, 2) := by decide +kernel
theorem dX10_runs_47 : decode cX10_runs 47 = .ok (.ifCond .ge 10, 3) := by decide +kernel
theorem dX10_runs_50 : decode cX10_runs 50 = .ok (.iload 6, 2) := by decide +kernel
theorem dX10_runs_52 : decode cX10_runs 52 = .ok (.iconst 4, 1) := by decide +kernel
theorem dX10_runs_53 : decode cX10_runs 53 = .ok (.iadd, 1) := by decide +kernel
theorem dX10_runs_54 : decode cX10_runs 54 = .ok (.goto 5, 3) := by decide +kernel
theorem dX10_runs_57 : decode cX10_runs 57 = .ok (.iload 6, 2) := by decide +kernel
theorem dX10_runs_59 : decode cX10_runs 59 = .ok (.putfield 195, 3) := by decide +kernel
theorem dX10_runs_62 : decode cX10_runs 62 = .ok (.aload_n 0, 1) := by decide +kernel
theorem dX10_runs_63 : decode cX10_runs 63 = .ok (.aload_n 0, 1) := by decide +kernel
theorem dX10_runs_64 : decode cX10_runs 64 = .ok (.getfield 47, 3) := by decide +kernel
theorem dX10_runs_67 : decode cX10_runs 67 = .ok (.iconst 2, 1) := by decide +kernel
theorem dX10_runs_68 : decode cX10_runs 68 = .ok (.iload 5, 2) := by decide +kernel
theorem dX10_runs_70 : decode cX10_runs 70 = .ok (.imul, 1) := by decide +kernel
theorem dX10_runs_71 : decode cX10_runs 71 = .ok (.iconst 1, 1) := by decide +kernel
theorem dX10_runs_72 : decode cX10_runs 72 = .ok (.iadd, 1) := by decide +kernel
theorem dX10_runs_73 : decode cX10_runs 73 = .ok (.iaload, 1) := by decide +kernel
theorem dX10_runs_74 : decode cX10_runs 74 = .ok (.putfield 198, 3) := by decide +kernel
theorem dX10_runs_77 : decode cX10_runs 77 = .ok (.aload_n 0, 1) := by decide +kernel
theorem dX10_runs_78 : decode cX10_runs 78 = .ok (.aload_n 0, 1) := by decide +kernel
theorem dX10_runs_79 : decode cX10_runs 79 = .ok (.iload_n 1, 1) := by decide +kernel
theorem dX10_runs_80 : decode cX10_runs 80 = .ok (.iconst 1, 1) := by decide +kernel
theorem dX10_runs_81 : decode cX10_runs 81 = .ok (.iconst 0, 1) := by decide +kernel
theorem dX10_runs_82 : decode cX10_runs 82 = .ok (.aload_n 0, 1) := by decide +kernel
theorem dX10_runs_83 : decode cX10_runs 83 = .ok (.getfield 195, 3) := by decide +kernel
theorem dX10_runs_86 : decode cX10_runs 86 = .ok (.aload_n 0, 1) := by decide +kernel
theorem dX10_runs_87 : decode cX10_runs 87 = .ok (.getfield 198, 3) := by decide +kernel
theorem dX10_runs_90 : decode cX10_runs 90 = .ok (.invokevirtual 201, 3) := by decide +kernel
theorem dX10_runs_93 : decode cX10_runs 93 = .ok (.putfield 205, 3) := by decide +kernel
theorem dX10_runs_96 : decode cX10_runs 96 = .ok (.aload_n 0, 1) := by decide +kernel
theorem dX10_runs_97 : decode cX10_runs 97 = .ok (.aload_n 0, 1) := by decide +kernel
theorem dX10_runs_98 : decode cX10_runs 98 = .ok (.getfield 185, 3) := by decide +kernel
theorem dX10_runs_101 : decode cX10_runs 101 = .ok (.ifCond .eq 7, 3) := by decide +kernel
theorem dX10_runs_104 : decode cX10_runs 104 = .ok (.iconst 0, 1) := by decide +kernel
theorem dX10_runs_105 : decode cX10_runs 105 = .ok (.goto 18, 3) := by decide +kernel
theorem dX10_runs_108 : decode cX10_runs 108 = .ok (.aload_n 0, 1) := by decide +kernel
theorem dX10_runs_109 : decode cX10_runs 109 = .ok (.iload_n 1, 1) := by decide +kernel
theorem dX10_runs_110 : decode cX10_runs 110 = .ok (.iconst 0, 1) := by decide +kernel
theorem dX10_runs_111 : decode cX10_runs 111 = .ok (.iload_n 2, 1) := by decide +kernel
theorem dX10_runs_112 : decode cX10_runs 112 = .ok (.aload_n 0, 1) := by decide +kernel
theorem dX10_runs_113 : decode cX10_runs 113 = .ok (.getfield 195, 3) := by decide +kernel
theorem dX10_runs_116 : decode cX10_runs 116 = .ok (.aload_n 0, 1) := by decide +kernel
theorem dX10_runs_117 : decode cX10_runs 117 = .ok (.getfield 198, 3) := by decide +kernel
theorem dX10_runs_120 : decode cX10_runs 120 = .ok (.invokevirtual 201, 3) := by decide +kernel
theorem dX10_runs_123 : decode cX10_runs 123 = .ok (.putfield 208, 3) := by decide +kernel
theorem dX10_runs_126 : decode cX10_runs 126 = .ok (.iload 4, 2) := by decide +kernel
theorem dX10_runs_128 : decode cX10_runs 128 = .ok (.ifCond .eq 18, 3) := by decide +kernel
theorem dX10_runs_131 : decode cX10_runs 131 = .ok (.aload_n 0, 1) := by decide +kernel
theorem dX10_runs_132 : decode cX10_runs 132 = .ok (.getfield 208, 3) := by decide +kernel
theorem dX10_runs_135 : decode cX10_runs 135 = .ok (.aload_n 0, 1) := by decide +kernel
theorem dX10_runs_136 : decode cX10_runs 136 = .ok (.getfield 205, 3) := by decide +kernel
theorem dX10_runs_139 : decode cX10_runs 139 = .ok (.if_icmp .ne 7, 3) := by decide +kernel
theorem dX10_runs_142 : decode cX10_runs 142 = .ok (.iconst 1, 1) := by decide +kernel
theorem dX10_runs_143 : decode cX10_runs 143 = .ok (.goto 4, 3) := by decide +kernel
theorem dX10_runs_146 : decode cX10_runs 146 = .ok (.iconst 0, 1) := by decide +kernel
theorem dX10_runs_147 : decode cX10_runs 147 = .ok (.istore 4, 2) := by decide +kernel
theorem dX10_runs_149 : decode cX10_runs 149 = .ok (.iinc 5 1, 3) := by decide +kernel
theorem dX10_runs_152 : decode cX10_runs 152 = .ok (.goto (-127), 3) := by decide +kernel
theorem dX10_runs_155 : decode cX10_runs 155 = .ok (.iload 4, 2) := by decide +kernel
theorem dX10_runs_157 : decode cX10_runs 157 = .ok (.ireturn, 1) := by decide +kernel
theorem dX10_machine_0 : decode cX10_machine 0 = .ok (.aload_n 0, 1) := by decide +kernel
theorem dX10_machine_1 : decode cX10_machine 1 = .ok (.iload_n 1, 1) := by decide +kernel
theorem dX10_machine_2 : decode cX10_machine 2 = .ok (.iload_n 2, 1) := by decide +kernel
theorem dX10_machine_3 : decode cX10_machine 3 = .ok (.aload_n 0, 1) := by decide +kernel
theorem dX10_machine_4 : decode cX10_machine 4 = .ok (.getfield 147, 3) := by decide +kernel
theorem dX10_machine_7 : decode cX10_machine 7 = .ok (.iconst 2, 1) := by decide +kernel
theorem dX10_machine_8 : decode cX10_machine 8 = .ok (.idiv, 1) := by decide +kernel
theorem dX10_machine_9 : decode cX10_machine 9 = .ok (.invokevirtual 211, 3) := by decide +kernel
theorem dX10_machine_12 : decode cX10_machine 12 = .ok (.istore_n 3, 1) := by decide +kernel
theorem dX10_machine_13 : decode cX10_machine 13 = .ok (.aload_n 0, 1) := by decide +kernel
theorem dX10_machine_14 : decode cX10_machine 14 = .ok (.getfield 185, 3) := by decide +kernel
theorem dX10_machine_17 : decode cX10_machine 17 = .ok (.ifCond .eq 8, 3) := by decide +kernel
theorem dX10_machine_20 : decode cX10_machine 20 = .ok (.bipush (-13), 2) := by decide +kernel
theorem dX10_machine_22 : decode cX10_machine 22 = .ok (.goto 7, 3) := by decide +kernel
theorem dX10_machine_25 : decode cX10_machine 25 = .ok (.iload_n 3, 1) := by decide +kernel
theorem dX10_machine_26 : decode cX10_machine 26 = .ok (.invokestatic 181, 3) := by decide +kernel
theorem dX10_machine_29 : decode cX10_machine 29 = .ok (.ireturn, 1) := by decide +kernel
theorem dX10_asked_0 : decode cX10_asked 0 = .ok (.aload_n 0, 1) := by decide +kernel
theorem dX10_asked_1 : decode cX10_asked 1 = .ok (.getfield 65, 3) := by decide +kernel
theorem dX10_asked_4 : decode cX10_asked 4 = .ok (.iload_n 1, 1) := by decide +kernel
theorem dX10_asked_5 : decode cX10_asked 5 = .ok (.iaload, 1) := by decide +kernel
theorem dX10_asked_6 : decode cX10_asked 6 = .ok (.istore_n 2, 1) := by decide +kernel
theorem dX10_asked_7 : decode cX10_asked 7 = .ok (.aload_n 0, 1) := by decide +kernel
theorem dX10_asked_8 : decode cX10_asked 8 = .ok (.getfield 68, 3) := by decide +kernel
theorem dX10_asked_11 : decode cX10_asked 11 = .ok (.iload_n 1, 1) := by decide +kernel
theorem dX10_asked_12 : decode cX10_asked 12 = .ok (.iaload, 1) := by decide +kernel
theorem dX10_asked_13 : decode cX10_asked 13 = .ok (.istore_n 3, 1) := by decide +kernel
theorem dX10_asked_14 : decode cX10_asked 14 = .ok (.aload_n 0, 1) := by decide +kernel
theorem dX10_asked_15 : decode cX10_asked 15 = .ok (.getfield 62, 3) := by decide +kernel
theorem dX10_asked_18 : decode cX10_asked 18 = .ok (.iload_n 1, 1) := by decide +kernel
theorem dX10_asked_19 : decode cX10_asked 19 = .ok (.iaload, 1) := by decide +kernel
theorem dX10_asked_20 : decode cX10_asked 20 = .ok (.tableswitch 229 0 10 #[60, 77, 83, 100, 106, 112, 139, 145, 151, 177, 202], 60) := by decide +kernel
theorem dX10_asked_80 : decode cX10_asked 80 = .ok (.aload_n 0, 1) := by decide +kernel
theorem dX10_asked_81 : decode cX10_asked 81 = .ok (.invokevirtual 174, 3) := by decide +kernel
theorem dX10_asked_84 : decode cX10_asked 84 = .ok (.iload_n 2, 1) := by decide +kernel
theorem dX10_asked_85 : decode cX10_asked 85 = .ok (.if_icmp .ge 7, 3) := by decide +kernel
theorem dX10_asked_88 : decode cX10_asked 88 = .ok (.iconst 1, 1) := by decide +kernel
theorem dX10_asked_89 : decode cX10_asked 89 = .ok (.goto 4, 3) := by decide +kernel
theorem dX10_asked_92 : decode cX10_asked 92 = .ok (.iconst 0, 1) := by decide +kernel
theorem dX10_asked_93 : decode cX10_asked 93 = .ok (.invokestatic 181, 3) := by decide +kernel
theorem dX10_asked_96 : decode cX10_asked 96 = .ok (.ireturn, 1) := by decide +kernel
theorem dX10_asked_97 : decode cX10_asked 97 = .ok (.aload_n 0, 1) := by decide +kernel
theorem dX10_asked_98 : decode cX10_asked 98 = .ok (.iload_n 2, 1) := by decide +kernel
theorem dX10_asked_99 : decode cX10_asked 99 = .ok (.invokevirtual 214, 3) := by decide +kernel
theorem dX10_asked_102 : decode cX10_asked 102 = .ok (.ireturn, 1) := by decide +kernel
theorem dX10_asked_103 : decode cX10_asked 103 = .ok (.aload_n 0, 1) := by decide +kernel
theorem dX10_asked_104 : decode cX10_asked 104 = .ok (.getfield 147, 3) := by decide +kernel
theorem dX10_asked_107 : decode cX10_asked 107 = .ok (.iload_n 2, 1) := by decide +kernel
theorem dX10_asked_108 : decode cX10_asked 108 = .ok (.if_icmp .ge 7, 3) := by decide +kernel
theorem dX10_asked_111 : decode cX10_asked 111 = .ok (.iconst 1, 1) := by decide +kernel
theorem dX10_asked_112 : decode cX10_asked 112 = .ok (.goto 4, 3) := by decide +kernel
theorem dX10_asked_115 : decode cX10_asked 115 = .ok (.iconst 0, 1) := by decide +kernel
theorem dX10_asked_116 : decode cX10_asked 116 = .ok (.invokestatic 181, 3) := by decide +kernel
theorem dX10_asked_119 : decode cX10_asked 119 = .ok (.ireturn, 1) := by decide +kernel
theorem dX10_asked_120 : decode cX10_asked 120 = .ok (.aload_n 0, 1) := by decide +kernel
theorem dX10_asked_121 : decode cX10_asked 121 = .ok (.iconst 0, 1) := by decide +kernel
theorem dX10_asked_122 : decode cX10_asked 122 = .ok (.invokevirtual 217, 3) := by decide +kernel
theorem dX10_asked_125 : decode cX10_asked 125 = .ok (.ireturn, 1) := by decide +kernel
theorem dX10_asked_126 : decode cX10_asked 126 = .ok (.aload_n 0, 1) := by decide +kernel
theorem dX10_asked_127 : decode cX10_asked 127 = .ok (.iconst 1, 1) := by decide +kernel
theorem dX10_asked_128 : decode cX10_asked 128 = .ok (.invokevirtual 217, 3) := by decide +kernel
theorem dX10_asked_131 : decode cX10_asked 131 = .ok (.ireturn, 1) := by decide +kernel
theorem dX10_asked_132 : decode cX10_asked 132 = .ok (.iload_n 2, 1) := by decide +kernel
theorem dX10_asked_133 : decode cX10_asked 133 = .ok (.ifCond .ne 8, 3) := by decide +kernel
theorem dX10_asked_136 : decode cX10_asked 136 = .ok (.bipush (-11), 2) := by decide +kernel
theorem dX10_asked_138 : decode cX10_asked 138 = .ok (.goto 20, 3) := by decide +kernel
theorem dX10_asked_141 : decode cX10_asked 141 = .ok (.aload_n 0, 1) := by decide +kernel
theorem dX10_asked_142 : decode cX10_asked 142 = .ok (.invokevirtual 174, 3) := by decide +kernel
theorem dX10_asked_145 : decode cX10_asked 145 = .ok (.iload_n 2, 1) := by decide +kernel
theorem dX10_asked_146 : decode cX10_asked 146 = .ok (.irem, 1) := by decide +kernel
theorem dX10_asked_147 : decode cX10_asked 147 = .ok (.ifCond .ne 7, 3) := by decide +kernel
theorem dX10_asked_150 : decode cX10_asked 150 = .ok (.iconst 1, 1) := by decide +kernel
theorem dX10_asked_151 : decode cX10_asked 151 = .ok (.goto 4, 3) := by decide +kernel
theorem dX10_asked_154 : decode cX10_asked 154 = .ok (.iconst 0, 1) := by decide +kernel
theorem dX10_asked_155 : decode cX10_asked 155 = .ok (.invokestatic 181, 3) := by decide +kernel
theorem dX10_asked_158 : decode cX10_asked 158 = .ok (.ireturn, 1) := by decide +kernel
theorem dX10_asked_159 : decode cX10_asked 159 = .ok (.aload_n 0, 1) := by decide +kernel
theorem dX10_asked_160 : decode cX10_asked 160 = .ok (.iload_n 2, 1) := by decide +kernel
theorem dX10_asked_161 : decode cX10_asked 161 = .ok (.invokevirtual 220, 3) := by decide +kernel
theorem dX10_asked_164 : decode cX10_asked 164 = .ok (.ireturn, 1) := by decide +kernel
theorem dX10_asked_165 : decode cX10_asked 165 = .ok (.aload_n 0, 1) := by decide +kernel
theorem dX10_asked_166 : decode cX10_asked 166 = .ok (.iload_n 2, 1) := by decide +kernel
theorem dX10_asked_167 : decode cX10_asked 167 = .ok (.invokevirtual 223, 3) := by decide +kernel
theorem dX10_asked_170 : decode cX10_asked 170 = .ok (.ireturn, 1) := by decide +kernel
theorem dX10_asked_171 : decode cX10_asked 171 = .ok (.aload_n 0, 1) := by decide +kernel
theorem dX10_asked_172 : decode cX10_asked 172 = .ok (.getfield 71, 3) := by decide +kernel
theorem dX10_asked_175 : decode cX10_asked 175 = .ok (.iload_n 2, 1) := by decide +kernel
theorem dX10_asked_176 : decode cX10_asked 176 = .ok (.iaload, 1) := by decide +kernel
theorem dX10_asked_177 : decode cX10_asked 177 = .ok (.iconst 1, 1) := by decide +kernel
theorem dX10_asked_178 : decode cX10_asked 178 = .ok (.if_icmp .ne 12, 3) := by decide +kernel
theorem dX10_asked_181 : decode cX10_asked 181 = .ok (.aload_n 0, 1) := by decide +kernel
theorem dX10_asked_182 : decode cX10_asked 182 = .ok (.getfield 71, 3) := by decide +kernel
theorem dX10_asked_185 : decode cX10_asked 185 = .ok (.iload_n 3, 1) := by decide +kernel
theorem dX10_asked_186 : decode cX10_asked 186 = .ok (.iaload, 1) := by decide +kernel
theorem dX10_asked_187 : decode cX10_asked 187 = .ok (.goto 9, 3) := by decide +kernel
theorem dX10_asked_190 : decode cX10_asked 190 = .ok (.aload_n 0, 1) := by decide +kernel
theorem dX10_asked_191 : decode cX10_asked 191 = .ok (.getfield 71, 3) := by decide +kernel
theorem dX10_asked_194 : decode cX10_asked 194 = .ok (.iload_n 2, 1) := by decide +kernel
theorem dX10_asked_195 : decode cX10_asked 195 = .ok (.iaload, 1) := by decide +kernel
theorem dX10_asked_196 : decode cX10_asked 196 = .ok (.ireturn, 1) := by decide +kernel
theorem dX10_asked_197 : decode cX10_asked 197 = .ok (.aload_n 0, 1) := by decide +kernel
theorem dX10_asked_198 : decode cX10_asked 198 = .ok (.getfield 71, 3) := by decide +kernel
theorem dX10_asked_201 : decode cX10_asked 201 = .ok (.iload_n 2, 1) := by decide +kernel
theorem dX10_asked_202 : decode cX10_asked 202 = .ok (.iaload, 1) := by decide +kernel
theorem dX10_asked_203 : decode cX10_asked 203 = .ok (.ifCond .ne 12, 3) := by decide +kernel
theorem dX10_asked_206 : decode cX10_asked 206 = .ok (.aload_n 0, 1) := by decide +kernel
theorem dX10_asked_207 : decode cX10_asked 207 = .ok (.getfield 71, 3) := by decide +kernel
theorem dX10_asked_210 : decode cX10_asked 210 = .ok (.iload_n 3, 1) := by decide +kernel
theorem dX10_asked_211 : decode cX10_asked 211 = .ok (.iaload, 1) := by decide +kernel
theorem dX10_asked_212 : decode cX10_asked 212 = .ok (.goto 9, 3) := by decide +kernel
theorem dX10_asked_215 : decode cX10_asked 215 = .ok (.aload_n 0, 1) := by decide +kernel
theorem dX10_asked_216 : decode cX10_asked 216 = .ok (.getfield 71, 3) := by decide +kernel
theorem dX10_asked_219 : decode cX10_asked 219 = .ok (.iload_n 2, 1) := by decide +kernel
theorem dX10_asked_220 : decode cX10_asked 220 = .ok (.iaload, 1) := by decide +kernel
theorem dX10_asked_221 : decode cX10_asked 221 = .ok (.ireturn, 1) := by decide +kernel
theorem dX10_asked_222 : decode cX10_asked 222 = .ok (.aload_n 0, 1) := by decide +kernel
theorem dX10_asked_223 : decode cX10_asked 223 = .ok (.getfield 71, 3) := by decide +kernel
theorem dX10_asked_226 : decode cX10_asked 226 = .ok (.iload_n 2, 1) := by decide +kernel
theorem dX10_asked_227 : decode cX10_asked 227 = .ok (.iaload, 1) := by decide +kernel
theorem dX10_asked_228 : decode cX10_asked 228 = .ok (.ifCond .ge 12, 3) := by decide +kernel
theorem dX10_asked_231 : decode cX10_asked 231 = .ok (.aload_n 0, 1) := by decide +kernel
theorem dX10_asked_232 : decode cX10_asked 232 = .ok (.getfield 71, 3) := by decide +kernel
theorem dX10_asked_235 : decode cX10_asked 235 = .ok (.iload_n 2, 1) := by decide +kernel
theorem dX10_asked_236 : decode cX10_asked 236 = .ok (.iaload, 1) := by decide +kernel
theorem dX10_asked_237 : decode cX10_asked 237 = .ok (.goto 11, 3) := by decide +kernel
theorem dX10_asked_240 : decode cX10_asked 240 = .ok (.iconst 1, 1) := by decide +kernel
theorem dX10_asked_241 : decode cX10_asked 241 = .ok (.aload_n 0, 1) := by decide +kernel
theorem dX10_asked_242 : decode cX10_asked 242 = .ok (.getfield 71, 3) := by decide +kernel
theorem dX10_asked_245 : decode cX10_asked 245 = .ok (.iload_n 2, 1) := by decide +kernel
theorem dX10_asked_246 : decode cX10_asked 246 = .ok (.iaload, 1) := by decide +kernel
theorem dX10_asked_247 : decode cX10_asked 247 = .ok (.isub, 1) := by decide +kernel
theorem dX10_asked_248 : decode cX10_asked 248 = .ok (.ireturn, 1) := by decide +kernel
theorem dX10_asked_249 : decode cX10_asked 249 = .ok (.aload_n 0, 1) := by decide +kernel
theorem dX10_asked_250 : decode cX10_asked 250 = .ok (.iload_n 2, 1) := by decide +kernel
theorem dX10_asked_251 : decode cX10_asked 251 = .ok (.iload_n 3, 1) := by decide +kernel
theorem dX10_asked_252 : decode cX10_asked 252 = .ok (.invokevirtual 226, 3) := by decide +kernel
theorem dX10_asked_255 : decode cX10_asked 255 = .ok (.ireturn, 1) := by decide +kernel
theorem dX10_result_0 : decode cX10_result 0 = .ok (.iconst 0, 1) := by decide +kernel
theorem dX10_result_1 : decode cX10_result 1 = .ok (.istore_n 2, 1) := by decide +kernel
theorem dX10_result_2 : decode cX10_result 2 = .ok (.iload_n 2, 1) := by decide +kernel
theorem dX10_result_3 : decode cX10_result 3 = .ok (.iload_n 1, 1) := by decide +kernel
theorem dX10_result_4 : decode cX10_result 4 = .ok (.if_icmp .gt 20, 3) := by decide +kernel
theorem dX10_result_7 : decode cX10_result 7 = .ok (.aload_n 0, 1) := by decide +kernel
theorem dX10_result_8 : decode cX10_result 8 = .ok (.getfield 71, 3) := by decide +kernel
theorem dX10_result_11 : decode cX10_result 11 = .ok (.iload_n 2, 1) := by decide +kernel
theorem dX10_result_12 : decode cX10_result 12 = .ok (.aload_n 0, 1) := by decide +kernel
theorem dX10_result_13 : decode cX10_result 13 = .ok (.iload_n 2, 1) := by decide +kernel
theorem dX10_result_14 : decode cX10_result 14 = .ok (.invokevirtual 229, 3) := by decide +kernel
theorem dX10_result_17 : decode cX10_result 17 = .ok (.iastore, 1) := by decide +kernel
theorem dX10_result_18 : decode cX10_result 18 = .ok (.iinc 2 1, 3) := by decide +kernel
theorem dX10_result_21 : decode cX10_result 21 = .ok (.goto (-19), 3) := by decide +kernel
theorem dX10_result_24 : decode cX10_result 24 = .ok (.aload_n 0, 1) := by decide +kernel
theorem dX10_result_25 : decode cX10_result 25 = .ok (.getfield 71, 3) := by decide +kernel
theorem dX10_result_28 : decode cX10_result 28 = .ok (.iload_n 1, 1) := by decide +kernel
theorem dX10_result_29 : decode cX10_result 29 = .ok (.iaload, 1) := by decide +kernel
theorem dX10_result_30 : decode cX10_result 30 = .ok (.ireturn, 1) := by decide +kernel
theorem dX10_number_0 : decode cX10_number 0 = .ok (.aload_n 0, 1) := by decide +kernel
theorem dX10_number_1 : decode cX10_number 1 = .ok (.aload_n 0, 1) := by decide +kernel
theorem dX10_number_2 : decode cX10_number 2 = .ok (.getfield 232, 3) := by decide +kernel
theorem dX10_number_5 : decode cX10_number 5 = .ok (.ldc2_w 236, 3) := by decide +kernel
theorem dX10_number_8 : decode cX10_number 8 = .ok (.lmul, 1) := by decide +kernel
theorem dX10_number_9 : decode cX10_number 9 = .ok (.ldc2_w 238, 3) := by decide +kernel
theorem dX10_number_12 : decode cX10_number 12 = .ok (.ladd, 1) := by decide +kernel
theorem dX10_number_13 : decode cX10_number 13 = .ok (.putfield 232, 3) := by decide +kernel
theorem dX10_number_16 : decode cX10_number 16 = .ok (.aload_n 0, 1) := by decide +kernel
theorem dX10_number_17 : decode cX10_number 17 = .ok (.getfield 232, 3) := by decide +kernel
theorem dX10_number_20 : decode cX10_number 20 = .ok (.bipush 32, 2) := by decide +kernel
theorem dX10_number_22 : decode cX10_number 22 = .ok (.lushr, 1) := by decide +kernel
theorem dX10_number_23 : decode cX10_number 23 = .ok (.iload_n 1, 1) := by decide +kernel
theorem dX10_number_24 : decode cX10_number 24 = .ok (.i2l, 1) := by decide +kernel
theorem dX10_number_25 : decode cX10_number 25 = .ok (.lmul, 1) := by decide +kernel
theorem dX10_number_26 : decode cX10_number 26 = .ok (.bipush 32, 2) := by decide +kernel
theorem dX10_number_28 : decode cX10_number 28 = .ok (.lushr, 1) := by decide +kernel
theorem dX10_number_29 : decode cX10_number 29 = .ok (.l2i, 1) := by decide +kernel
theorem dX10_number_30 : decode cX10_number 30 = .ok (.ireturn, 1) := by decide +kernel
theorem dX10_goInto_0 : decode cX10_goInto 0 = .ok (.aload_n 0, 1) := by decide +kernel
theorem dX10_goInto_1 : decode cX10_goInto 1 = .ok (.getfield 80, 3) := by decide +kernel
theorem dX10_goInto_4 : decode cX10_goInto 4 = .ok (.aload_n 0, 1) := by decide +kernel
theorem dX10_goInto_5 : decode cX10_goInto 5 = .ok (.getfield 240, 3) := by decide +kernel
theorem dX10_goInto_8 : decode cX10_goInto 8 = .ok (.iload_n 1, 1) := by decide +kernel
theorem dX10_goInto_9 : decode cX10_goInto 9 = .ok (.iastore, 1) := by decide +kernel
theorem dX10_goInto_10 : decode cX10_goInto 10 = .ok (.aload_n 0, 1) := by decide +kernel
theorem dX10_goInto_11 : decode cX10_goInto 11 = .ok (.getfield 89, 3) := by decide +kernel
theorem dX10_goInto_14 : decode cX10_goInto 14 = .ok (.aload_n 0, 1) := by decide +kernel
theorem dX10_goInto_15 : decode cX10_goInto 15 = .ok (.getfield 240, 3) := by decide +kernel
theorem dX10_goInto_18 : decode cX10_goInto 18 = .ok (.iconst 0, 1) := by decide +kernel
theorem dX10_goInto_19 : decode cX10_goInto 19 = .ok (.iastore, 1) := by decide +kernel
theorem dX10_goInto_20 : decode cX10_goInto 20 = .ok (.aload_n 0, 1) := by decide +kernel
theorem dX10_goInto_21 : decode cX10_goInto 21 = .ok (.getfield 92, 3) := by decide +kernel
theorem dX10_goInto_24 : decode cX10_goInto 24 = .ok (.aload_n 0, 1) := by decide +kernel
theorem dX10_goInto_25 : decode cX10_goInto 25 = .ok (.getfield 240, 3) := by decide +kernel
theorem dX10_goInto_28 : decode cX10_goInto 28 = .ok (.iconst 0, 1) := by decide +kernel
theorem dX10_goInto_29 : decode cX10_goInto 29 = .ok (.bastore, 1) := by decide +kernel
theorem dX10_goInto_30 : decode cX10_goInto 30 = .ok (.aload_n 0, 1) := by decide +kernel
theorem dX10_goInto_31 : decode cX10_goInto 31 = .ok (.dup, 1) := by decide +kernel
theorem dX10_goInto_32 : decode cX10_goInto 32 = .ok (.getfield 240, 3) := by decide +kernel
theorem dX10_goInto_35 : decode cX10_goInto 35 = .ok (.iconst 1, 1) := by decide +kernel
theorem dX10_goInto_36 : decode cX10_goInto 36 = .ok (.iadd, 1) := by decide +kernel
theorem dX10_goInto_37 : decode cX10_goInto 37 = .ok (.putfield 240, 3) := by decide +kernel
theorem dX10_goInto_40 : decode cX10_goInto 40 = .ok (.return_, 1) := by decide +kernel
theorem dX10_add_0 : decode cX10_add 0 = .ok (.aload_n 0, 1) := by decide +kernel
theorem dX10_add_1 : decode cX10_add 1 = .ok (.getfield 35, 3) := by decide +kernel
theorem dX10_add_4 : decode cX10_add 4 = .ok (.sipush 4000, 3) := by decide +kernel
theorem dX10_add_7 : decode cX10_add 7 = .ok (.aload_n 0, 1) := by decide +kernel
theorem dX10_add_8 : decode cX10_add 8 = .ok (.getfield 32, 3) := by decide +kernel
theorem dX10_add_11 : decode cX10_add 11 = .ok (.iconst 4, 1) := by decide +kernel
theorem dX10_add_12 : decode cX10_add 12 = .ok (.iaload, 1) := by decide +kernel
theorem dX10_add_13 : decode cX10_add 13 = .ok (.iadd, 1) := by decide +kernel
theorem dX10_add_14 : decode cX10_add 14 = .ok (.iload_n 1, 1) := by decide +kernel
theorem dX10_add_15 : decode cX10_add 15 = .ok (.iastore, 1) := by decide +kernel
theorem dX10_add_16 : decode cX10_add 16 = .ok (.aload_n 0, 1) := by decide +kernel
theorem dX10_add_17 : decode cX10_add 17 = .ok (.getfield 38, 3) := by decide +kernel
theorem dX10_add_20 : decode cX10_add 20 = .ok (.sipush 4000, 3) := by decide +kernel
theorem dX10_add_23 : decode cX10_add 23 = .ok (.aload_n 0, 1) := by decide +kernel
theorem dX10_add_24 : decode cX10_add 24 = .ok (.getfield 32, 3) := by decide +kernel
theorem dX10_add_27 : decode cX10_add 27 = .ok (.iconst 4, 1) := by decide +kernel
theorem dX10_add_28 : decode cX10_add 28 = .ok (.iaload, 1) := by decide +kernel
theorem dX10_add_29 : decode cX10_add 29 = .ok (.iadd, 1) := by decide +kernel
theorem dX10_add_30 : decode cX10_add 30 = .ok (.iload_n 2, 1) := by decide +kernel
theorem dX10_add_31 : decode cX10_add 31 = .ok (.iastore, 1) := by decide +kernel
theorem dX10_add_32 : decode cX10_add 32 = .ok (.aload_n 0, 1) := by decide +kernel
theorem dX10_add_33 : decode cX10_add 33 = .ok (.getfield 32, 3) := by decide +kernel
theorem dX10_add_36 : decode cX10_add 36 = .ok (.iconst 4, 1) := by decide +kernel
theorem dX10_add_37 : decode cX10_add 37 = .ok (.dup2, 1) := by decide +kernel
theorem dX10_add_38 : decode cX10_add 38 = .ok (.iaload, 1) := by decide +kernel
theorem dX10_add_39 : decode cX10_add 39 = .ok (.iconst 1, 1) := by decide +kernel
theorem dX10_add_40 : decode cX10_add 40 = .ok (.iadd, 1) := by decide +kernel
theorem dX10_add_41 : decode cX10_add 41 = .ok (.iastore, 1) := by decide +kernel
theorem dX10_add_42 : decode cX10_add 42 = .ok (.return_, 1) := by decide +kernel
theorem dX10_shuffle_0 : decode cX10_shuffle 0 = .ok (.sipush 4000, 3) := by decide +kernel
theorem dX10_shuffle_3 : decode cX10_shuffle 3 = .ok (.aload_n 0, 1) := by decide +kernel
theorem dX10_shuffle_4 : decode cX10_shuffle 4 = .ok (.getfield 32, 3) := by decide +kernel
theorem dX10_shuffle_7 : decode cX10_shuffle 7 = .ok (.iconst 4, 1) := by decide +kernel
theorem dX10_shuffle_8 : decode cX10_shuffle 8 = .ok (.iaload, 1) := by decide +kernel
theorem dX10_shuffle_9 : decode cX10_shuffle 9 = .ok (.iadd, 1) := by decide +kernel
theorem dX10_shuffle_10 : decode cX10_shuffle 10 = .ok (.istore_n 2, 1) := by decide +kernel
theorem dX10_shuffle_11 : decode cX10_shuffle 11 = .ok (.iconst 0, 1) := by decide +kernel
theorem dX10_shuffle_12 : decode cX10_shuffle 12 = .ok (.istore_n 3, 1) := by decide +kernel
theorem dX10_shuffle_13 : decode cX10_shuffle 13 = .ok (.iload_n 3, 1) := by decide +kernel
theorem dX10_shuffle_14 : decode cX10_shuffle 14 = .ok (.iload_n 1, 1) := by decide +kernel
theorem dX10_shuffle_15 : decode cX10_shuffle 15 = .ok (.if_icmp .ge 15, 3) := by decide +kernel
theorem dX10_shuffle_18 : decode cX10_shuffle 18 = .ok (.aload_n 0, 1) := by decide +kernel
theorem dX10_shuffle_19 : decode cX10_shuffle 19 = .ok (.iconst (-1), 1) := by decide +kernel
theorem dX10_shuffle_20 : decode cX10_shuffle 20 = .ok (.iload_n 3, 1) := by decide +kernel
theorem dX10_shuffle_21 : decode cX10_shuffle 21 = .ok (.invokevirtual 243, 3) := by decide +kernel
theorem dX10_shuffle_24 : decode cX10_shuffle 24 = .ok (.iinc 3 1, 3) := by decide +kernel
theorem dX10_shuffle_27 : decode cX10_shuffle 27 = .ok (.goto (-14), 3) := by decide +kernel
theorem dX10_shuffle_30 : decode cX10_shuffle 30 = .ok (.iload_n 1, 1) := by decide +kernel
theorem dX10_shuffle_31 : decode cX10_shuffle 31 = .ok (.iconst 1, 1) := by decide +kernel
theorem dX10_shuffle_32 : decode cX10_shuffle 32 = .ok (.isub, 1) := by decide +kernel
theorem dX10_shuffle_33 : decode cX10_shuffle 33 = .ok (.istore_n 3, 1) := by decide +kernel
theorem dX10_shuffle_34 : decode cX10_shuffle 34 = .ok (.iload_n 3, 1) := by decide +kernel
theorem dX10_shuffle_35 : decode cX10_shuffle 35 = .ok (.ifCond .le 56, 3) := by decide +kernel
theorem dX10_shuffle_38 : decode cX10_shuffle 38 = .ok (.aload_n 0, 1) := by decide +kernel
theorem dX10_shuffle_39 : decode cX10_shuffle 39 = .ok (.iload_n 3, 1) := by decide +kernel
theorem dX10_shuffle_40 : decode cX10_shuffle 40 = .ok (.iconst 1, 1) := by decide +kernel
theorem dX10_shuffle_41 : decode cX10_shuffle 41 = .ok (.iadd, 1) := by decide +kernel
theorem dX10_shuffle_42 : decode cX10_shuffle 42 = .ok (.invokevirtual 246, 3) := by decide +kernel
theorem dX10_shuffle_45 : decode cX10_shuffle 45 = .ok (.istore 4, 2) := by decide +kernel
theorem dX10_shuffle_47 : decode cX10_shuffle 47 = .ok (.aload_n 0, 1) := by decide +kernel
theorem dX10_shuffle_48 : decode cX10_shuffle 48 = .ok (.getfield 38, 3) := by decide +kernel
theorem dX10_shuffle_51 : decode cX10_shuffle 51 = .ok (.iload_n 2, 1) := by decide +kernel
theorem dX10_shuffle_52 : decode cX10_shuffle 52 = .ok (.iload_n 3, 1) := by decide +kernel
theorem dX10_shuffle_53 : decode cX10_shuffle 53 = .ok (.iadd, 1) := by decide +kernel
theorem dX10_shuffle_54 : decode cX10_shuffle 54 = .ok (.iaload, 1) := by decide +kernel
theorem dX10_shuffle_55 : decode cX10_shuffle 55 = .ok (.istore 5, 2) := by decide +kernel
theorem dX10_shuffle_57 : decode cX10_shuffle 57 = .ok (.aload_n 0, 1) := by decide +kernel
theorem dX10_shuffle_58 : decode cX10_shuffle 58 = .ok (.getfield 38, 3) := by decide +kernel
theorem dX10_shuffle_61 : decode cX10_shuffle 61 = .ok (.iload_n 2, 1) := by decide +kernel
theorem dX10_shuffle_62 : decode cX10_shuffle 62 = .ok (.iload_n 3, 1) := by decide +kernel
theorem dX10_shuffle_63 : decode cX10_shuffle 63 = .ok (.iadd, 1) := by decide +kernel
theorem dX10_shuffle_64 : decode cX10_shuffle 64 = .ok (.aload_n 0, 1) := by decide +kernel
theorem dX10_shuffle_65 : decode cX10_shuffle 65 = .ok (.getfield 38, 3) := by decide +kernel
theorem dX10_shuffle_68 : decode cX10_shuffle 68 = .ok (.iload_n 2, 1) := by decide +kernel
theorem dX10_shuffle_69 : decode cX10_shuffle 69 = .ok (.iload 4, 2) := by decide +kernel
theorem dX10_shuffle_71 : decode cX10_shuffle 71 = .ok (.iadd, 1) := by decide +kernel
theorem dX10_shuffle_72 : decode cX10_shuffle 72 = .ok (.iaload, 1) := by decide +kernel
theorem dX10_shuffle_73 : decode cX10_shuffle 73 = .ok (.iastore, 1) := by decide +kernel
theorem dX10_shuffle_74 : decode cX10_shuffle 74 = .ok (.aload_n 0, 1) := by decide +kernel
theorem dX10_shuffle_75 : decode cX10_shuffle 75 = .ok (.getfield 38, 3) := by decide +kernel
theorem dX10_shuffle_78 : decode cX10_shuffle 78 = .ok (.iload_n 2, 1) := by decide +kernel
theorem dX10_shuffle_79 : decode cX10_shuffle 79 = .ok (.iload 4, 2) := by decide +kernel
theorem dX10_shuffle_81 : decode cX10_shuffle 81 = .ok (.iadd, 1) := by decide +kernel
theorem dX10_shuffle_82 : decode cX10_shuffle 82 = .ok (.iload 5, 2) := by decide +kernel
theorem dX10_shuffle_84 : decode cX10_shuffle 84 = .ok (.iastore, 1) := by decide +kernel
theorem dX10_shuffle_85 : decode cX10_shuffle 85 = .ok (.iinc 3 (-1), 3) := by decide +kernel
theorem dX10_shuffle_88 : decode cX10_shuffle 88 = .ok (.goto (-54), 3) := by decide +kernel
theorem dX10_shuffle_91 : decode cX10_shuffle 91 = .ok (.return_, 1) := by decide +kernel
theorem dX10_beginNode_0 : decode cX10_beginNode 0 = .ok (.aload_n 0, 1) := by decide +kernel
theorem dX10_beginNode_1 : decode cX10_beginNode 1 = .ok (.getfield 80, 3) := by decide +kernel
theorem dX10_beginNode_4 : decode cX10_beginNode 4 = .ok (.iload_n 1, 1) := by decide +kernel
theorem dX10_beginNode_5 : decode cX10_beginNode 5 = .ok (.iaload, 1) := by decide +kernel
theorem dX10_beginNode_6 : decode cX10_beginNode 6 = .ok (.istore_n 3, 1) := by decide +kernel
theorem dX10_beginNode_7 : decode cX10_beginNode 7 = .ok (.aload_n 0, 1) := by decide +kernel
theorem dX10_beginNode_8 : decode cX10_beginNode 8 = .ok (.getfield 92, 3) := by decide +kernel
theorem dX10_beginNode_11 : decode cX10_beginNode 11 = .ok (.iload_n 1, 1) := by decide +kernel
theorem dX10_beginNode_12 : decode cX10_beginNode 12 = .ok (.iconst 1, 1) := by decide +kernel
theorem dX10_beginNode_13 : decode cX10_beginNode 13 = .ok (.bastore, 1) := by decide +kernel
theorem dX10_beginNode_14 : decode cX10_beginNode 14 = .ok (.aload_n 0, 1) := by decide +kernel
theorem dX10_beginNode_15 : decode cX10_beginNode 15 = .ok (.getfield 83, 3) := by decide +kernel
theorem dX10_beginNode_18 : decode cX10_beginNode 18 = .ok (.iload_n 1, 1) := by decide +kernel
theorem dX10_beginNode_19 : decode cX10_beginNode 19 = .ok (.aload_n 0, 1) := by decide +kernel
theorem dX10_beginNode_20 : decode cX10_beginNode 20 = .ok (.getfield 32, 3) := by decide +kernel
theorem dX10_beginNode_23 : decode cX10_beginNode 23 = .ok (.iconst 4, 1) := by decide +kernel
theorem dX10_beginNode_24 : decode cX10_beginNode 24 = .ok (.iaload, 1) := by decide +kernel
theorem dX10_beginNode_25 : decode cX10_beginNode 25 = .ok (.iastore, 1) := by decide +kernel
theorem dX10_beginNode_26 : decode cX10_beginNode 26 = .ok (.iconst 0, 1) := by decide +kernel
theorem dX10_beginNode_27 : decode cX10_beginNode 27 = .ok (.istore 4, 2) := by decide +kernel
theorem dX10_beginNode_29 : decode cX10_beginNode 29 = .ok (.iconst 1, 1) := by decide +kernel
theorem dX10_beginNode_30 : decode cX10_beginNode 30 = .ok (.istore 5, 2) := by decide +kernel
theorem dX10_beginNode_32 : decode cX10_beginNode 32 = .ok (.aload_n 0, 1) := by decide +kernel
theorem dX10_beginNode_33 : decode cX10_beginNode 33 = .ok (.getfield 7, 3) := by decide +kernel
theorem dX10_beginNode_36 : decode cX10_beginNode 36 = .ok (.iload_n 3, 1) := by decide +kernel
theorem dX10_beginNode_37 : decode cX10_beginNode 37 = .ok (.iaload, 1) := by decide +kernel
theorem dX10_beginNode_38 : decode cX10_beginNode 38 = .ok (.tableswitch 167 0 6 #[42, 76, 111, 117, 167, 167, 153], 42) := by decide +kernel
theorem dX10_beginNode_80 : decode cX10_beginNode 80 = .ok (.aload_n 0, 1) := by decide +kernel
theorem dX10_beginNode_81 : decode cX10_beginNode 81 = .ok (.getfield 19, 3) := by decide +kernel
theorem dX10_beginNode_84 : decode cX10_beginNode 84 = .ok (.iload_n 3, 1) := by decide +kernel
theorem dX10_beginNode_85 : decode cX10_beginNode 85 = .ok (.iaload, 1) := by decide +kernel
theorem dX10_beginNode_86 : decode cX10_beginNode 86 = .ok (.aload_n 0, 1) := by decide +kernel
theorem dX10_beginNode_87 : decode cX10_beginNode 87 = .ok (.aload_n 0, 1) := by decide +kernel
theorem dX10_beginNode_88 : decode cX10_beginNode 88 = .ok (.getfield 22, 3) := by decide +kernel
theorem dX10_beginNode_91 : decode cX10_beginNode 91 = .ok (.iload_n 3, 1) := by decide +kernel
theorem dX10_beginNode_92 : decode cX10_beginNode 92 = .ok (.iaload, 1) := by decide +kernel
theorem dX10_beginNode_93 : decode cX10_beginNode 93 = .ok (.aload_n 0, 1) := by decide +kernel
theorem dX10_beginNode_94 : decode cX10_beginNode 94 = .ok (.getfield 19, 3) := by decide +kernel
theorem dX10_beginNode_97 : decode cX10_beginNode 97 = .ok (.iload_n 3, 1) := by decide +kernel
theorem dX10_beginNode_98 : decode cX10_beginNode 98 = .ok (.iaload, 1) := by decide +kernel
theorem dX10_beginNode_99 : decode cX10_beginNode 99 = .ok (.isub, 1) := by decide +kernel
theorem dX10_beginNode_100 : decode cX10_beginNode 100 = .ok (.iconst 1, 1) := by decide +kernel
theorem dX10_beginNode_101 : decode cX10_beginNode 101 = .ok (.iadd, 1) := by decide +kernel
theorem dX10_beginNode_102 : decode cX10_beginNode 102 = .ok (.invokevirtual 246, 3) := by decide +kernel
theorem dX10_beginNode_105 : decode cX10_beginNode 105 = .ok (.iadd, 1) := by decide +kernel
theorem dX10_beginNode_106 : decode cX10_beginNode 106 = .ok (.istore 4, 2) := by decide +kernel
theorem dX10_beginNode_108 : decode cX10_beginNode 108 = .ok (.iconst 0, 1) := by decide +kernel
theorem dX10_beginNode_109 : decode cX10_beginNode 109 = .ok (.istore 5, 2) := by decide +kernel
theorem dX10_beginNode_111 : decode cX10_beginNode 111 = .ok (.goto 94, 3) := by decide +kernel
theorem dX10_beginNode_114 : decode cX10_beginNode 114 = .ok (.aload_n 0, 1) := by decide +kernel
theorem dX10_beginNode_115 : decode cX10_beginNode 115 = .ok (.iconst 1, 1) := by decide +kernel
theorem dX10_beginNode_116 : decode cX10_beginNode 116 = .ok (.aload_n 0, 1) := by decide +kernel
theorem dX10_beginNode_117 : decode cX10_beginNode 117 = .ok (.getfield 19, 3) := by decide +kernel
theorem dX10_beginNode_120 : decode cX10_beginNode 120 = .ok (.iload_n 3, 1) := by decide +kernel
theorem dX10_beginNode_121 : decode cX10_beginNode 121 = .ok (.iaload, 1) := by decide +kernel
theorem dX10_beginNode_122 : decode cX10_beginNode 122 = .ok (.iload_n 2, 1) := by decide +kernel
theorem dX10_beginNode_123 : decode cX10_beginNode 123 = .ok (.if_icmp .ge 12, 3) := by decide +kernel
theorem dX10_beginNode_126 : decode cX10_beginNode 126 = .ok (.aload_n 0, 1) := by decide +kernel
theorem dX10_beginNode_127 : decode cX10_beginNode 127 = .ok (.getfield 19, 3) := by decide +kernel
theorem dX10_beginNode_130 : decode cX10_beginNode 130 = .ok (.iload_n 3, 1) := by decide +kernel
theorem dX10_beginNode_131 : decode cX10_beginNode 131 = .ok (.iaload, 1) := by decide +kernel
theorem dX10_beginNode_132 : decode cX10_beginNode 132 = .ok (.goto 4, 3) := by decide +kernel
theorem dX10_beginNode_135 : decode cX10_beginNode 135 = .ok (.iload_n 2, 1) := by decide +kernel
theorem dX10_beginNode_136 : decode cX10_beginNode 136 = .ok (.iadd, 1) := by decide +kernel
theorem dX10_beginNode_137 : decode cX10_beginNode 137 = .ok (.invokevirtual 246, 3) := by decide +kernel
theorem dX10_beginNode_140 : decode cX10_beginNode 140 = .ok (.istore 4, 2) := by decide +kernel
theorem dX10_beginNode_142 : decode cX10_beginNode 142 = .ok (.iload 4, 2) := by decide +kernel
theorem dX10_beginNode_144 : decode cX10_beginNode 144 = .ok (.istore 5, 2) := by decide +kernel
theorem dX10_beginNode_146 : decode cX10_beginNode 146 = .ok (.goto 59, 3) := by decide +kernel
theorem dX10_beginNode_149 : decode cX10_beginNode 149 = .ok (.iconst 2, 1) := by decide +kernel
theorem dX10_beginNode_150 : decode cX10_beginNode 150 = .ok (.istore 5, 2) := by decide +kernel
theorem dX10_beginNode_152 : decode cX10_beginNode 152 = .ok (.goto 53, 3) := by decide +kernel
theorem dX10_beginNode_155 : decode cX10_beginNode 155 = .ok (.aload_n 0, 1) := by decide +kernel
theorem dX10_beginNode_156 : decode cX10_beginNode 156 = .ok (.aload_n 0, 1) := by decide +kernel
theorem dX10_beginNode_157 : decode cX10_beginNode 157 = .ok (.getfield 19, 3) := by decide +kernel
theorem dX10_beginNode_160 : decode cX10_beginNode 160 = .ok (.iload_n 3, 1) := by decide +kernel
theorem dX10_beginNode_161 : decode cX10_beginNode 161 = .ok (.iaload, 1) := by decide +kernel
theorem dX10_beginNode_162 : decode cX10_beginNode 162 = .ok (.aload_n 0, 1) := by decide +kernel
theorem dX10_beginNode_163 : decode cX10_beginNode 163 = .ok (.getfield 22, 3) := by decide +kernel
theorem dX10_beginNode_166 : decode cX10_beginNode 166 = .ok (.iload_n 3, 1) := by decide +kernel
theorem dX10_beginNode_167 : decode cX10_beginNode 167 = .ok (.iaload, 1) := by decide +kernel
theorem dX10_beginNode_168 : decode cX10_beginNode 168 = .ok (.iadd, 1) := by decide +kernel
theorem dX10_beginNode_169 : decode cX10_beginNode 169 = .ok (.invokevirtual 246, 3) := by decide +kernel
theorem dX10_beginNode_172 : decode cX10_beginNode 172 = .ok (.aload_n 0, 1) := by decide +kernel
theorem dX10_beginNode_173 : decode cX10_beginNode 173 = .ok (.getfield 19, 3) := by decide +kernel
theorem dX10_beginNode_176 : decode cX10_beginNode 176 = .ok (.iload_n 3, 1) := by decide +kernel
theorem dX10_beginNode_177 : decode cX10_beginNode 177 = .ok (.iaload, 1) := by decide +kernel
theorem dX10_beginNode_178 : decode cX10_beginNode 178 = .ok (.if_icmp .ge 7, 3) := by decide +kernel
theorem dX10_beginNode_181 : decode cX10_beginNode 181 = .ok (.iconst 0, 1) := by decide +kernel
theorem dX10_beginNode_182 : decode cX10_beginNode 182 = .ok (.goto 4, 3) := by decide +kernel
theorem dX10_beginNode_185 : decode cX10_beginNode 185 = .ok (.iconst 1, 1) := by decide +kernel
theorem dX10_beginNode_186 : decode cX10_beginNode 186 = .ok (.istore 4, 2) := by decide +kernel
theorem dX10_beginNode_188 : decode cX10_beginNode 188 = .ok (.goto 17, 3) := by decide +kernel
theorem dX10_beginNode_191 : decode cX10_beginNode 191 = .ok (.aload_n 0, 1) := by decide +kernel
theorem dX10_beginNode_192 : decode cX10_beginNode 192 = .ok (.getfield 19, 3) := by decide +kernel
theorem dX10_beginNode_195 : decode cX10_beginNode 195 = .ok (.iload_n 3, 1) := by decide +kernel
theorem dX10_beginNode_196 : decode cX10_beginNode 196 = .ok (.iaload, 1) := by decide +kernel
theorem dX10_beginNode_197 : decode cX10_beginNode 197 = .ok (.istore 4, 2) := by decide +kernel
theorem dX10_beginNode_199 : decode cX10_beginNode 199 = .ok (.iconst 0, 1) := by decide +kernel
theorem dX10_beginNode_200 : decode cX10_beginNode 200 = .ok (.istore 5, 2) := by decide +kernel
theorem dX10_beginNode_202 : decode cX10_beginNode 202 = .ok (.goto 3, 3) := by decide +kernel
theorem dX10_beginNode_205 : decode cX10_beginNode 205 = .ok (.aload_n 0, 1) := by decide +kernel
theorem dX10_beginNode_206 : decode cX10_beginNode 206 = .ok (.iload_n 3, 1) := by decide +kernel
theorem dX10_beginNode_207 : decode cX10_beginNode 207 = .ok (.iload 4, 2) := by decide +kernel
theorem dX10_beginNode_209 : decode cX10_beginNode 209 = .ok (.invokevirtual 243, 3) := by decide +kernel
theorem dX10_beginNode_212 : decode cX10_beginNode 212 = .ok (.aload_n 0, 1) := by decide +kernel
theorem dX10_beginNode_213 : decode cX10_beginNode 213 = .ok (.getfield 86, 3) := by decide +kernel
theorem dX10_beginNode_216 : decode cX10_beginNode 216 = .ok (.iload_n 1, 1) := by decide +kernel
theorem dX10_beginNode_217 : decode cX10_beginNode 217 = .ok (.iload 5, 2) := by decide +kernel
theorem dX10_beginNode_219 : decode cX10_beginNode 219 = .ok (.iastore, 1) := by decide +kernel
theorem dX10_beginNode_220 : decode cX10_beginNode 220 = .ok (.aload_n 0, 1) := by decide +kernel
theorem dX10_beginNode_221 : decode cX10_beginNode 221 = .ok (.getfield 7, 3) := by decide +kernel
theorem dX10_beginNode_224 : decode cX10_beginNode 224 = .ok (.iload_n 3, 1) := by decide +kernel
theorem dX10_beginNode_225 : decode cX10_beginNode 225 = .ok (.iaload, 1) := by decide +kernel
theorem dX10_beginNode_226 : decode cX10_beginNode 226 = .ok (.bipush 6, 2) := by decide +kernel
theorem dX10_beginNode_228 : decode cX10_beginNode 228 = .ok (.if_icmp .ne 9, 3) := by decide +kernel
theorem dX10_beginNode_231 : decode cX10_beginNode 231 = .ok (.aload_n 0, 1) := by decide +kernel
theorem dX10_beginNode_232 : decode cX10_beginNode 232 = .ok (.iload 4, 2) := by decide +kernel
theorem dX10_beginNode_234 : decode cX10_beginNode 234 = .ok (.invokevirtual 249, 3) := by decide +kernel
theorem dX10_beginNode_237 : decode cX10_beginNode 237 = .ok (.return_, 1) := by decide +kernel
theorem dX10_nextPart_0 : decode cX10_nextPart 0 = .ok (.aload_n 0, 1) := by decide +kernel
theorem dX10_nextPart_1 : decode cX10_nextPart 1 = .ok (.getfield 80, 3) := by decide +kernel
theorem dX10_nextPart_4 : decode cX10_nextPart 4 = .ok (.iload_n 1, 1) := by decide +kernel
theorem dX10_nextPart_5 : decode cX10_nextPart 5 = .ok (.iaload, 1) := by decide +kernel
theorem dX10_nextPart_6 : decode cX10_nextPart 6 = .ok (.istore_n 2, 1) := by decide +kernel
theorem dX10_nextPart_7 : decode cX10_nextPart 7 = .ok (.aload_n 0, 1) := by decide +kernel
theorem dX10_nextPart_8 : decode cX10_nextPart 8 = .ok (.getfield 7, 3) := by decide +kernel
theorem dX10_nextPart_11 : decode cX10_nextPart 11 = .ok (.iload_n 2, 1) := by decide +kernel
theorem dX10_nextPart_12 : decode cX10_nextPart 12 = .ok (.iaload, 1) := by decide +kernel
theorem dX10_nextPart_13 : decode cX10_nextPart 13 = .ok (.iconst 2, 1) := by decide +kernel
theorem dX10_nextPart_14 : decode cX10_nextPart 14 = .ok (.if_icmp .ne 20, 3) := by decide +kernel
theorem dX10_nextPart_17 : decode cX10_nextPart 17 = .ok (.aload_n 0, 1) := by decide +kernel
theorem dX10_nextPart_18 : decode cX10_nextPart 18 = .ok (.getfield 86, 3) := by decide +kernel
theorem dX10_nextPart_21 : decode cX10_nextPart 21 = .ok (.iload_n 1, 1) := by decide +kernel
theorem dX10_nextPart_22 : decode cX10_nextPart 22 = .ok (.iaload, 1) := by decide +kernel
theorem dX10_nextPart_23 : decode cX10_nextPart 23 = .ok (.ifCond .ne 7, 3) := by decide +kernel
theorem dX10_nextPart_26 : decode cX10_nextPart 26 = .ok (.iconst 1, 1) := by decide +kernel
theorem dX10_nextPart_27 : decode cX10_nextPart 27 = .ok (.goto 41, 3) := by decide +kernel
theorem dX10_nextPart_30 : decode cX10_nextPart 30 = .ok (.iconst 0, 1) := by decide +kernel
theorem dX10_nextPart_31 : decode cX10_nextPart 31 = .ok (.goto 37, 3) := by decide +kernel
theorem dX10_nextPart_34 : decode cX10_nextPart 34 = .ok (.aload_n 0, 1) := by decide +kernel
theorem dX10_nextPart_35 : decode cX10_nextPart 35 = .ok (.getfield 7, 3) := by decide +kernel
theorem dX10_nextPart_38 : decode cX10_nextPart 38 = .ok (.iload_n 2, 1) := by decide +kernel
theorem dX10_nextPart_39 : decode cX10_nextPart 39 = .ok (.iaload, 1) := by decide +kernel
theorem dX10_nextPart_40 : decode cX10_nextPart 40 = .ok (.iconst 3, 1) := by decide +kernel
theorem dX10_nextPart_41 : decode cX10_nextPart 41 = .ok (.if_icmp .ne 26, 3) := by decide +kernel
theorem dX10_nextPart_44 : decode cX10_nextPart 44 = .ok (.aload_n 0, 1) := by decide +kernel
theorem dX10_nextPart_45 : decode cX10_nextPart 45 = .ok (.getfield 38, 3) := by decide +kernel
theorem dX10_nextPart_48 : decode cX10_nextPart 48 = .ok (.sipush 4000, 3) := by decide +kernel
theorem dX10_nextPart_51 : decode cX10_nextPart 51 = .ok (.aload_n 0, 1) := by decide +kernel
theorem dX10_nextPart_52 : decode cX10_nextPart 52 = .ok (.getfield 83, 3) := by decide +kernel
theorem dX10_nextPart_55 : decode cX10_nextPart 55 = .ok (.iload_n 1, 1) := by decide +kernel
theorem dX10_nextPart_56 : decode cX10_nextPart 56 = .ok (.iaload, 1) := by decide +kernel
theorem dX10_nextPart_57 : decode cX10_nextPart 57 = .ok (.iadd, 1) := by decide +kernel
theorem dX10_nextPart_58 : decode cX10_nextPart 58 = .ok (.iaload, 1) := by decide +kernel
theorem dX10_nextPart_59 : decode cX10_nextPart 59 = .ok (.iconst 1, 1) := by decide +kernel
theorem dX10_nextPart_60 : decode cX10_nextPart 60 = .ok (.if_icmp .ne 7, 3) := by decide +kernel
theorem dX10_nextPart_63 : decode cX10_nextPart 63 = .ok (.iconst 1, 1) := by decide +kernel
theorem dX10_nextPart_64 : decode cX10_nextPart 64 = .ok (.goto 4, 3) := by decide +kernel
theorem dX10_nextPart_67 : decode cX10_nextPart 67 = .ok (.iconst 0, 1) := by decide +kernel
theorem dX10_nextPart_68 : decode cX10_nextPart 68 = .ok (.istore_n 3, 1) := by decide +kernel
theorem dX10_nextPart_69 : decode cX10_nextPart 69 = .ok (.iload_n 3, 1) := by decide +kernel
theorem dX10_nextPart_70 : decode cX10_nextPart 70 = .ok (.ifCond .eq 12, 3) := by decide +kernel
theorem dX10_nextPart_73 : decode cX10_nextPart 73 = .ok (.aload_n 0, 1) := by decide +kernel
theorem dX10_nextPart_74 : decode cX10_nextPart 74 = .ok (.getfield 16, 3) := by decide +kernel
theorem dX10_nextPart_77 : decode cX10_nextPart 77 = .ok (.iload_n 2, 1) := by decide +kernel
theorem dX10_nextPart_78 : decode cX10_nextPart 78 = .ok (.iaload, 1) := by decide +kernel
theorem dX10_nextPart_79 : decode cX10_nextPart 79 = .ok (.goto 9, 3) := by decide +kernel
theorem dX10_nextPart_82 : decode cX10_nextPart 82 = .ok (.aload_n 0, 1) := by decide +kernel
theorem dX10_nextPart_83 : decode cX10_nextPart 83 = .ok (.getfield 13, 3) := by decide +kernel
theorem dX10_nextPart_86 : decode cX10_nextPart 86 = .ok (.iload_n 2, 1) := by decide +kernel
theorem dX10_nextPart_87 : decode cX10_nextPart 87 = .ok (.iaload, 1) := by decide +kernel
theorem dX10_nextPart_88 : decode cX10_nextPart 88 = .ok (.ireturn, 1) := by decide +kernel
theorem dX10_endNode_0 : decode cX10_endNode 0 = .ok (.aload_n 0, 1) := by decide +kernel
theorem dX10_endNode_1 : decode cX10_endNode 1 = .ok (.getfield 80, 3) := by decide +kernel
theorem dX10_endNode_4 : decode cX10_endNode 4 = .ok (.iload_n 1, 1) := by decide +kernel
theorem dX10_endNode_5 : decode cX10_endNode 5 = .ok (.iaload, 1) := by decide +kernel
theorem dX10_endNode_6 : decode cX10_endNode 6 = .ok (.istore_n 2, 1) := by decide +kernel
theorem dX10_endNode_7 : decode cX10_endNode 7 = .ok (.aload_n 0, 1) := by decide +kernel
theorem dX10_endNode_8 : decode cX10_endNode 8 = .ok (.getfield 83, 3) := by decide +kernel
theorem dX10_endNode_11 : decode cX10_endNode 11 = .ok (.iload_n 1, 1) := by decide +kernel
theorem dX10_endNode_12 : decode cX10_endNode 12 = .ok (.iaload, 1) := by decide +kernel
theorem dX10_endNode_13 : decode cX10_endNode 13 = .ok (.istore_n 3, 1) := by decide +kernel
theorem dX10_endNode_14 : decode cX10_endNode 14 = .ok (.aload_n 0, 1) := by decide +kernel
theorem dX10_endNode_15 : decode cX10_endNode 15 = .ok (.getfield 7, 3) := by decide +kernel
theorem dX10_endNode_18 : decode cX10_endNode 18 = .ok (.iload_n 2, 1) := by decide +kernel
theorem dX10_endNode_19 : decode cX10_endNode 19 = .ok (.iaload, 1) := by decide +kernel
theorem dX10_endNode_20 : decode cX10_endNode 20 = .ok (.bipush 7, 2) := by decide +kernel
theorem dX10_endNode_22 : decode cX10_endNode 22 = .ok (.if_icmp .ne 37, 3) := by decide +kernel
theorem dX10_endNode_25 : decode cX10_endNode 25 = .ok (.aload_n 0, 1) := by decide +kernel
theorem dX10_endNode_26 : decode cX10_endNode 26 = .ok (.iconst 4, 1) := by decide +kernel
theorem dX10_endNode_27 : decode cX10_endNode 27 = .ok (.iload_n 3, 1) := by decide +kernel
theorem dX10_endNode_28 : decode cX10_endNode 28 = .ok (.iconst 1, 1) := by decide +kernel
theorem dX10_endNode_29 : decode cX10_endNode 29 = .ok (.iadd, 1) := by decide +kernel
theorem dX10_endNode_30 : decode cX10_endNode 30 = .ok (.aload_n 0, 1) := by decide +kernel
theorem dX10_endNode_31 : decode cX10_endNode 31 = .ok (.getfield 32, 3) := by decide +kernel
theorem dX10_endNode_34 : decode cX10_endNode 34 = .ok (.iconst 4, 1) := by decide +kernel
theorem dX10_endNode_35 : decode cX10_endNode 35 = .ok (.iaload, 1) := by decide +kernel
theorem dX10_endNode_36 : decode cX10_endNode 36 = .ok (.invokevirtual 252, 3) := by decide +kernel
theorem dX10_endNode_39 : decode cX10_endNode 39 = .ok (.aload_n 0, 1) := by decide +kernel
theorem dX10_endNode_40 : decode cX10_endNode 40 = .ok (.getfield 38, 3) := by decide +kernel
theorem dX10_endNode_43 : decode cX10_endNode 43 = .ok (.sipush 4000, 3) := by decide +kernel
theorem dX10_endNode_46 : decode cX10_endNode 46 = .ok (.iload_n 3, 1) := by decide +kernel
theorem dX10_endNode_47 : decode cX10_endNode 47 = .ok (.iadd, 1) := by decide +kernel
theorem dX10_endNode_48 : decode cX10_endNode 48 = .ok (.aload_n 0, 1) := by decide +kernel
theorem dX10_endNode_49 : decode cX10_endNode 49 = .ok (.iconst 1, 1) := by decide +kernel
theorem dX10_endNode_50 : decode cX10_endNode 50 = .ok (.aload_n 0, 1) := by decide +kernel
theorem dX10_endNode_51 : decode cX10_endNode 51 = .ok (.invokevirtual 255, 3) := by decide +kernel
theorem dX10_endNode_54 : decode cX10_endNode 54 = .ok (.iadd, 1) := by decide +kernel
theorem dX10_endNode_55 : decode cX10_endNode 55 = .ok (.invokevirtual 246, 3) := by decide +kernel
theorem dX10_endNode_58 : decode cX10_endNode 58 = .ok (.iastore, 1) := by decide +kernel
theorem dX10_endNode_59 : decode cX10_endNode 59 = .ok (.aload_n 0, 1) := by decide +kernel
theorem dX10_endNode_60 : decode cX10_endNode 60 = .ok (.getfield 7, 3) := by decide +kernel
theorem dX10_endNode_63 : decode cX10_endNode 63 = .ok (.iload_n 2, 1) := by decide +kernel
theorem dX10_endNode_64 : decode cX10_endNode 64 = .ok (.iaload, 1) := by decide +kernel
theorem dX10_endNode_65 : decode cX10_endNode 65 = .ok (.iconst 5, 1) := by decide +kernel
theorem dX10_endNode_66 : decode cX10_endNode 66 = .ok (.if_icmp .ne 114, 3) := by decide +kernel
theorem dX10_endNode_69 : decode cX10_endNode 69 = .ok (.aload_n 0, 1) := by decide +kernel
theorem dX10_endNode_70 : decode cX10_endNode 70 = .ok (.getfield 110, 3) := by decide +kernel
theorem dX10_endNode_73 : decode cX10_endNode 73 = .ok (.ifCond .ne 6, 3) := by decide +kernel
theorem dX10_endNode_76 : decode cX10_endNode 76 = .ok (.bipush (-6), 2) := by decide +kernel
theorem dX10_endNode_78 : decode cX10_endNode 78 = .ok (.ireturn, 1) := by decide +kernel
theorem dX10_endNode_79 : decode cX10_endNode 79 = .ok (.aload_n 0, 1) := by decide +kernel
theorem dX10_endNode_80 : decode cX10_endNode 80 = .ok (.dup, 1) := by decide +kernel
theorem dX10_endNode_81 : decode cX10_endNode 81 = .ok (.getfield 110, 3) := by decide +kernel
theorem dX10_endNode_84 : decode cX10_endNode 84 = .ok (.iconst 1, 1) := by decide +kernel
theorem dX10_endNode_85 : decode cX10_endNode 85 = .ok (.isub, 1) := by decide +kernel
theorem dX10_endNode_86 : decode cX10_endNode 86 = .ok (.putfield 110, 3) := by decide +kernel
theorem dX10_endNode_89 : decode cX10_endNode 89 = .ok (.aload_n 0, 1) := by decide +kernel
theorem dX10_endNode_90 : decode cX10_endNode 90 = .ok (.iconst 4, 1) := by decide +kernel
theorem dX10_endNode_91 : decode cX10_endNode 91 = .ok (.iload_n 3, 1) := by decide +kernel
theorem dX10_endNode_92 : decode cX10_endNode 92 = .ok (.iconst 1, 1) := by decide +kernel
theorem dX10_endNode_93 : decode cX10_endNode 93 = .ok (.iadd, 1) := by decide +kernel
theorem dX10_endNode_94 : decode cX10_endNode 94 = .ok (.aload_n 0, 1) := by decide +kernel
theorem dX10_endNode_95 : decode cX10_endNode 95 = .ok (.getfield 32, 3) := by decide +kernel
theorem dX10_endNode_98 : decode cX10_endNode 98 = .ok (.iconst 4, 1) := by decide +kernel
theorem dX10_endNode_99 : decode cX10_endNode 99 = .ok (.iaload, 1) := by decide +kernel
theorem dX10_endNode_100 : decode cX10_endNode 100 = .ok (.invokevirtual 252, 3) := by decide +kernel
theorem dX10_endNode_103 : decode cX10_endNode 103 = .ok (.aload_n 0, 1) := by decide +kernel
theorem dX10_endNode_104 : decode cX10_endNode 104 = .ok (.aload_n 0, 1) := by decide +kernel
theorem dX10_endNode_105 : decode cX10_endNode 105 = .ok (.getfield 16, 3) := by decide +kernel
theorem dX10_endNode_108 : decode cX10_endNode 108 = .ok (.iload_n 2, 1) := by decide +kernel
theorem dX10_endNode_109 : decode cX10_endNode 109 = .ok (.iaload, 1) := by decide +kernel
theorem dX10_endNode_110 : decode cX10_endNode 110 = .ok (.invokevirtual 258, 3) := by decide +kernel
theorem dX10_endNode_113 : decode cX10_endNode 113 = .ok (.istore 4, 2) := by decide +kernel
theorem dX10_endNode_115 : decode cX10_endNode 115 = .ok (.iload 4, 2) := by decide +kernel
theorem dX10_endNode_117 : decode cX10_endNode 117 = .ok (.iconst 1, 1) := by decide +kernel
theorem dX10_endNode_118 : decode cX10_endNode 118 = .ok (.if_icmp .ne 15, 3) := by decide +kernel
theorem dX10_endNode_121 : decode cX10_endNode 121 = .ok (.aload_n 0, 1) := by decide +kernel
theorem dX10_endNode_122 : decode cX10_endNode 122 = .ok (.dup, 1) := by decide +kernel
theorem dX10_endNode_123 : decode cX10_endNode 123 = .ok (.getfield 240, 3) := by decide +kernel
theorem dX10_endNode_126 : decode cX10_endNode 126 = .ok (.iconst 1, 1) := by decide +kernel
theorem dX10_endNode_127 : decode cX10_endNode 127 = .ok (.isub, 1) := by decide +kernel
theorem dX10_endNode_128 : decode cX10_endNode 128 = .ok (.putfield 240, 3) := by decide +kernel
theorem dX10_endNode_131 : decode cX10_endNode 131 = .ok (.iconst 0, 1) := by decide +kernel
theorem dX10_endNode_132 : decode cX10_endNode 132 = .ok (.ireturn, 1) := by decide +kernel
theorem dX10_endNode_133 : decode cX10_endNode 133 = .ok (.aload_n 0, 1) := by decide +kernel
theorem dX10_endNode_134 : decode cX10_endNode 134 = .ok (.getfield 89, 3) := by decide +kernel
theorem dX10_endNode_137 : decode cX10_endNode 137 = .ok (.iload_n 1, 1) := by decide +kernel
theorem dX10_endNode_138 : decode cX10_endNode 138 = .ok (.dup2, 1) := by decide +kernel
theorem dX10_endNode_139 : decode cX10_endNode 139 = .ok (.iaload, 1) := by decide +kernel
theorem dX10_endNode_140 : decode cX10_endNode 140 = .ok (.iconst 1, 1) := by decide +kernel
theorem dX10_endNode_141 : decode cX10_endNode 141 = .ok (.iadd, 1) := by decide +kernel
theorem dX10_endNode_142 : decode cX10_endNode 142 = .ok (.iastore, 1) := by decide +kernel
theorem dX10_endNode_143 : decode cX10_endNode 143 = .ok (.iload 4, 2) := by decide +kernel
theorem dX10_endNode_145 : decode cX10_endNode 145 = .ok (.ifCond .lt 14, 3) := by decide +kernel
theorem dX10_endNode_148 : decode cX10_endNode 148 = .ok (.aload_n 0, 1) := by decide +kernel
theorem dX10_endNode_149 : decode cX10_endNode 149 = .ok (.getfield 89, 3) := by decide +kernel
theorem dX10_endNode_152 : decode cX10_endNode 152 = .ok (.iload_n 1, 1) := by decide +kernel
theorem dX10_endNode_153 : decode cX10_endNode 153 = .ok (.iaload, 1) := by decide +kernel
theorem dX10_endNode_154 : decode cX10_endNode 154 = .ok (.bipush 8, 2) := by decide +kernel
theorem dX10_endNode_156 : decode cX10_endNode 156 = .ok (.if_icmp .ne 6, 3) := by decide +kernel
theorem dX10_endNode_159 : decode cX10_endNode 159 = .ok (.bipush (-5), 2) := by decide +kernel
theorem dX10_endNode_161 : decode cX10_endNode 161 = .ok (.ireturn, 1) := by decide +kernel
theorem dX10_endNode_162 : decode cX10_endNode 162 = .ok (.aload_n 0, 1) := by decide +kernel
theorem dX10_endNode_163 : decode cX10_endNode 163 = .ok (.getfield 32, 3) := by decide +kernel
theorem dX10_endNode_166 : decode cX10_endNode 166 = .ok (.iconst 4, 1) := by decide +kernel
theorem dX10_endNode_167 : decode cX10_endNode 167 = .ok (.iload_n 3, 1) := by decide +kernel
theorem dX10_endNode_168 : decode cX10_endNode 168 = .ok (.iconst 1, 1) := by decide +kernel
theorem dX10_endNode_169 : decode cX10_endNode 169 = .ok (.iadd, 1) := by decide +kernel
theorem dX10_endNode_170 : decode cX10_endNode 170 = .ok (.iastore, 1) := by decide +kernel
theorem dX10_endNode_171 : decode cX10_endNode 171 = .ok (.aload_n 0, 1) := by decide +kernel
theorem dX10_endNode_172 : decode cX10_endNode 172 = .ok (.getfield 86, 3) := by decide +kernel
theorem dX10_endNode_175 : decode cX10_endNode 175 = .ok (.iload_n 1, 1) := by decide +kernel
theorem dX10_endNode_176 : decode cX10_endNode 176 = .ok (.iconst 1, 1) := by decide +kernel
theorem dX10_endNode_177 : decode cX10_endNode 177 = .ok (.iastore, 1) := by decide +kernel
theorem dX10_endNode_178 : decode cX10_endNode 178 = .ok (.iconst 0, 1) := by decide +kernel
theorem dX10_endNode_179 : decode cX10_endNode 179 = .ok (.ireturn, 1) := by decide +kernel
theorem dX10_endNode_180 : decode cX10_endNode 180 = .ok (.aload_n 0, 1) := by decide +kernel
theorem dX10_endNode_181 : decode cX10_endNode 181 = .ok (.dup, 1) := by decide +kernel
theorem dX10_endNode_182 : decode cX10_endNode 182 = .ok (.getfield 240, 3) := by decide +kernel
theorem dX10_endNode_185 : decode cX10_endNode 185 = .ok (.iconst 1, 1) := by decide +kernel
theorem dX10_endNode_186 : decode cX10_endNode 186 = .ok (.isub, 1) := by decide +kernel
theorem dX10_endNode_187 : decode cX10_endNode 187 = .ok (.putfield 240, 3) := by decide +kernel
theorem dX10_endNode_190 : decode cX10_endNode 190 = .ok (.iconst 0, 1) := by decide +kernel
theorem dX10_endNode_191 : decode cX10_endNode 191 = .ok (.ireturn, 1) := by decide +kernel
theorem dX10_makes_0 : decode cX10_makes 0 = .ok (.aload_n 0, 1) := by decide +kernel
theorem dX10_makes_1 : decode cX10_makes 1 = .ok (.lload_n 2, 1) := by decide +kernel
theorem dX10_makes_2 : decode cX10_makes 2 = .ok (.putfield 232, 3) := by decide +kernel
theorem dX10_makes_5 : decode cX10_makes 5 = .ok (.aload_n 0, 1) := by decide +kernel
theorem dX10_makes_6 : decode cX10_makes 6 = .ok (.getfield 32, 3) := by decide +kernel
theorem dX10_makes_9 : decode cX10_makes 9 = .ok (.iconst 4, 1) := by decide +kernel
theorem dX10_makes_10 : decode cX10_makes 10 = .ok (.iconst 0, 1) := by decide +kernel
theorem dX10_makes_11 : decode cX10_makes 11 = .ok (.iastore, 1) := by decide +kernel
theorem dX10_makes_12 : decode cX10_makes 12 = .ok (.aload_n 0, 1) := by decide +kernel
theorem dX10_makes_13 : decode cX10_makes 13 = .ok (.iconst 0, 1) := by decide +kernel
theorem dX10_makes_14 : decode cX10_makes 14 = .ok (.putfield 240, 3) := by decide +kernel
theorem dX10_makes_17 : decode cX10_makes 17 = .ok (.aload_n 0, 1) := by decide +kernel
theorem dX10_makes_18 : decode cX10_makes 18 = .ok (.iload_n 1, 1) := by decide +kernel
theorem dX10_makes_19 : decode cX10_makes 19 = .ok (.invokevirtual 261, 3) := by decide +kernel
theorem dX10_makes_22 : decode cX10_makes 22 = .ok (.iconst 0, 1) := by decide +kernel
theorem dX10_makes_23 : decode cX10_makes 23 = .ok (.istore 5, 2) := by decide +kernel
theorem dX10_makes_25 : decode cX10_makes 25 = .ok (.aload_n 0, 1) := by decide +kernel
theorem dX10_makes_26 : decode cX10_makes 26 = .ok (.getfield 240, 3) := by decide +kernel
theorem dX10_makes_29 : decode cX10_makes 29 = .ok (.ifCond .le 82, 3) := by decide +kernel
theorem dX10_makes_32 : decode cX10_makes 32 = .ok (.iload 5, 2) := by decide +kernel
theorem dX10_makes_34 : decode cX10_makes 34 = .ok (.ifCond .ne 77, 3) := by decide +kernel
theorem dX10_makes_37 : decode cX10_makes 37 = .ok (.aload_n 0, 1) := by decide +kernel
theorem dX10_makes_38 : decode cX10_makes 38 = .ok (.getfield 240, 3) := by decide +kernel
theorem dX10_makes_41 : decode cX10_makes 41 = .ok (.iconst 1, 1) := by decide +kernel
theorem dX10_makes_42 : decode cX10_makes 42 = .ok (.isub, 1) := by decide +kernel
theorem dX10_makes_43 : decode cX10_makes 43 = .ok (.istore 6, 2) := by decide +kernel
theorem dX10_makes_45 : decode cX10_makes 45 = .ok (.aload_n 0, 1) := by decide +kernel
theorem dX10_makes_46 : decode cX10_makes 46 = .ok (.getfield 92, 3) := by decide +kernel
theorem dX10_makes_49 : decode cX10_makes 49 = .ok (.iload 6, 2) := by decide +kernel
theorem dX10_makes_51 : decode cX10_makes 51 = .ok (.baload, 1) := by decide +kernel
theorem dX10_makes_52 : decode cX10_makes 52 = .ok (.ifCond .ne 14, 3) := by decide +kernel
theorem dX10_makes_55 : decode cX10_makes 55 = .ok (.aload_n 0, 1) := by decide +kernel
theorem dX10_makes_56 : decode cX10_makes 56 = .ok (.iload 6, 2) := by decide +kernel
theorem dX10_makes_58 : decode cX10_makes 58 = .ok (.iload 4, 2) := by decide +kernel
theorem dX10_makes_60 : decode cX10_makes 60 = .ok (.invokevirtual 264, 3) := by decide +kernel
theorem dX10_makes_63 : decode cX10_makes 63 = .ok (.goto 45, 3) := by decide +kernel
theorem dX10_makes_66 : decode cX10_makes 66 = .ok (.aload_n 0, 1) := by decide +kernel
theorem dX10_makes_67 : decode cX10_makes 67 = .ok (.getfield 86, 3) := by decide +kernel
theorem dX10_makes_70 : decode cX10_makes 70 = .ok (.iload 6, 2) := by decide +kernel
theorem dX10_makes_72 : decode cX10_makes 72 = .ok (.iaload, 1) := by decide +kernel
theorem dX10_makes_73 : decode cX10_makes 73 = .ok (.ifCond .le 27, 3) := by decide +kernel
theorem dX10_makes_76 : decode cX10_makes 76 = .ok (.aload_n 0, 1) := by decide +kernel
theorem dX10_makes_77 : decode cX10_makes 77 = .ok (.getfield 86, 3) := by decide +kernel
theorem dX10_makes_80 : decode cX10_makes 80 = .ok (.iload 6, 2) := by decide +kernel
theorem dX10_makes_82 : decode cX10_makes 82 = .ok (.dup2, 1) := by decide +kernel
theorem dX10_makes_83 : decode cX10_makes 83 = .ok (.iaload, 1) := by decide +kernel
theorem dX10_makes_84 : decode cX10_makes 84 = .ok (.iconst 1, 1) := by decide +kernel
theorem dX10_makes_85 : decode cX10_makes 85 = .ok (.isub, 1) := by decide +kernel
theorem dX10_makes_86 : decode cX10_makes 86 = .ok (.iastore, 1) := by decide +kernel
theorem dX10_makes_87 : decode cX10_makes 87 = .ok (.aload_n 0, 1) := by decide +kernel
theorem dX10_makes_88 : decode cX10_makes 88 = .ok (.aload_n 0, 1) := by decide +kernel
theorem dX10_makes_89 : decode cX10_makes 89 = .ok (.iload 6, 2) := by decide +kernel
theorem dX10_makes_91 : decode cX10_makes 91 = .ok (.invokevirtual 267, 3) := by decide +kernel
theorem dX10_makes_94 : decode cX10_makes 94 = .ok (.invokevirtual 261, 3) := by decide +kernel
theorem dX10_makes_97 : decode cX10_makes 97 = .ok (.goto 11, 3) := by decide +kernel
theorem dX10_makes_100 : decode cX10_makes 100 = .ok (.aload_n 0, 1) := by decide +kernel
theorem dX10_makes_101 : decode cX10_makes 101 = .ok (.iload 6, 2) := by decide +kernel
theorem dX10_makes_103 : decode cX10_makes 103 = .ok (.invokevirtual 270, 3) := by decide +kernel
theorem dX10_makes_106 : decode cX10_makes 106 = .ok (.istore 5, 2) := by decide +kernel
theorem dX10_makes_108 : decode cX10_makes 108 = .ok (.goto (-83), 3) := by decide +kernel
theorem dX10_makes_111 : decode cX10_makes 111 = .ok (.iload 5, 2) := by decide +kernel
theorem dX10_makes_113 : decode cX10_makes 113 = .ok (.ireturn, 1) := by decide +kernel
theorem dX10_shows_0 : decode cX10_shows 0 = .ok (.aload_n 0, 1) := by decide +kernel
theorem dX10_shows_1 : decode cX10_shows 1 = .ok (.iload_n 1, 1) := by decide +kernel
theorem dX10_shows_2 : decode cX10_shows 2 = .ok (.iconst 0, 1) := by decide +kernel
theorem dX10_shows_3 : decode cX10_shows 3 = .ok (.invokevirtual 273, 3) := by decide +kernel
theorem dX10_shows_6 : decode cX10_shows 6 = .ok (.aload_n 0, 1) := by decide +kernel
theorem dX10_shows_7 : decode cX10_shows 7 = .ok (.iconst 0, 1) := by decide +kernel
theorem dX10_shows_8 : decode cX10_shows 8 = .ok (.iconst 0, 1) := by decide +kernel
theorem dX10_shows_9 : decode cX10_shows 9 = .ok (.aload_n 0, 1) := by decide +kernel
theorem dX10_shows_10 : decode cX10_shows 10 = .ok (.getfield 32, 3) := by decide +kernel
theorem dX10_shows_13 : decode cX10_shows 13 = .ok (.iconst 0, 1) := by decide +kernel
theorem dX10_shows_14 : decode cX10_shows 14 = .ok (.iaload, 1) := by decide +kernel
theorem dX10_shows_15 : decode cX10_shows 15 = .ok (.invokevirtual 252, 3) := by decide +kernel
theorem dX10_shows_18 : decode cX10_shows 18 = .ok (.iconst 2, 1) := by decide +kernel
theorem dX10_shows_19 : decode cX10_shows 19 = .ok (.aload_n 0, 1) := by decide +kernel
theorem dX10_shows_20 : decode cX10_shows 20 = .ok (.getfield 150, 3) := by decide +kernel
theorem dX10_shows_23 : decode cX10_shows 23 = .ok (.imul, 1) := by decide +kernel
theorem dX10_shows_24 : decode cX10_shows 24 = .ok (.ireturn, 1) := by decide +kernel
theorem dX10_make_0 : decode cX10_make 0 = .ok (.aload_n 0, 1) := by decide +kernel
theorem dX10_make_1 : decode cX10_make 1 = .ok (.iload_n 1, 1) := by decide +kernel
theorem dX10_make_2 : decode cX10_make 2 = .ok (.invokevirtual 136, 3) := by decide +kernel
theorem dX10_make_5 : decode cX10_make 5 = .ok (.ifCond .eq 5, 3) := by decide +kernel
theorem dX10_make_8 : decode cX10_make 8 = .ok (.iconst (-1), 1) := by decide +kernel
theorem dX10_make_9 : decode cX10_make 9 = .ok (.ireturn, 1) := by decide +kernel
theorem dX10_make_10 : decode cX10_make 10 = .ok (.iload 4, 2) := by decide +kernel
theorem dX10_make_12 : decode cX10_make 12 = .ok (.iconst 0, 1) := by decide +kernel
theorem dX10_make_13 : decode cX10_make 13 = .ok (.bipush 24, 2) := by decide +kernel
theorem dX10_make_15 : decode cX10_make 15 = .ok (.invokestatic 126, 3) := by decide +kernel
theorem dX10_make_18 : decode cX10_make 18 = .ok (.ifCond .ne 6, 3) := by decide +kernel
theorem dX10_make_21 : decode cX10_make 21 = .ok (.bipush (-2), 2) := by decide +kernel
theorem dX10_make_23 : decode cX10_make 23 = .ok (.ireturn, 1) := by decide +kernel
theorem dX10_make_24 : decode cX10_make 24 = .ok (.aload_n 0, 1) := by decide +kernel
theorem dX10_make_25 : decode cX10_make 25 = .ok (.iload_n 1, 1) := by decide +kernel
theorem dX10_make_26 : decode cX10_make 26 = .ok (.lload_n 2, 1) := by decide +kernel
theorem dX10_make_27 : decode cX10_make 27 = .ok (.iload 4, 2) := by decide +kernel
theorem dX10_make_29 : decode cX10_make 29 = .ok (.invokevirtual 276, 3) := by decide +kernel
theorem dX10_make_32 : decode cX10_make 32 = .ok (.istore 5, 2) := by decide +kernel
theorem dX10_make_34 : decode cX10_make 34 = .ok (.iload 5, 2) := by decide +kernel
theorem dX10_make_36 : decode cX10_make 36 = .ok (.ifCond .ge 8, 3) := by decide +kernel
theorem dX10_make_39 : decode cX10_make 39 = .ok (.iload 5, 2) := by decide +kernel
theorem dX10_make_41 : decode cX10_make 41 = .ok (.goto 8, 3) := by decide +kernel
theorem dX10_make_44 : decode cX10_make 44 = .ok (.aload_n 0, 1) := by decide +kernel
theorem dX10_make_45 : decode cX10_make 45 = .ok (.iconst 4, 1) := by decide +kernel
theorem dX10_make_46 : decode cX10_make 46 = .ok (.invokevirtual 280, 3) := by decide +kernel
theorem dX10_make_49 : decode cX10_make 49 = .ok (.ireturn, 1) := by decide +kernel
theorem dX10_beginChanges_0 : decode cX10_beginChanges 0 = .ok (.aload_n 0, 1) := by decide +kernel
theorem dX10_beginChanges_1 : decode cX10_beginChanges 1 = .ok (.iload_n 1, 1) := by decide +kernel
theorem dX10_beginChanges_2 : decode cX10_beginChanges 2 = .ok (.putfield 283, 3) := by decide +kernel
theorem dX10_beginChanges_5 : decode cX10_beginChanges 5 = .ok (.aload_n 0, 1) := by decide +kernel
theorem dX10_beginChanges_6 : decode cX10_beginChanges 6 = .ok (.iconst 0, 1) := by decide +kernel
theorem dX10_beginChanges_7 : decode cX10_beginChanges 7 = .ok (.putfield 286, 3) := by decide +kernel
theorem dX10_beginChanges_10 : decode cX10_beginChanges 10 = .ok (.aload_n 0, 1) := by decide +kernel
theorem dX10_beginChanges_11 : decode cX10_beginChanges 11 = .ok (.iconst 0, 1) := by decide +kernel
theorem dX10_beginChanges_12 : decode cX10_beginChanges 12 = .ok (.putfield 289, 3) := by decide +kernel
theorem dX10_beginChanges_15 : decode cX10_beginChanges 15 = .ok (.aload_n 0, 1) := by decide +kernel
theorem dX10_beginChanges_16 : decode cX10_beginChanges 16 = .ok (.iconst 0, 1) := by decide +kernel
theorem dX10_beginChanges_17 : decode cX10_beginChanges 17 = .ok (.putfield 292, 3) := by decide +kernel
theorem dX10_beginChanges_20 : decode cX10_beginChanges 20 = .ok (.return_, 1) := by decide +kernel
theorem dX10_nearest_0 : decode cX10_nearest 0 = .ok (.iload_n 0, 1) := by decide +kernel
theorem dX10_nearest_1 : decode cX10_nearest 1 = .ok (.ifCond .gt 11, 3) := by decide +kernel
theorem dX10_nearest_4 : decode cX10_nearest 4 = .ok (.iload_n 1, 1) := by decide +kernel
theorem dX10_nearest_5 : decode cX10_nearest 5 = .ok (.ifCond .lt 7, 3) := by decide +kernel
theorem dX10_nearest_8 : decode cX10_nearest 8 = .ok (.iconst 0, 1) := by decide +kernel
theorem dX10_nearest_9 : decode cX10_nearest 9 = .ok (.goto 12, 3) := by decide +kernel
theorem dX10_nearest_12 : decode cX10_nearest 12 = .ok (.iload_n 0, 1) := by decide +kernel
theorem dX10_nearest_13 : decode cX10_nearest 13 = .ok (.ifCond .le 7, 3) := by decide +kernel
theorem dX10_nearest_16 : decode cX10_nearest 16 = .ok (.iload_n 0, 1) := by decide +kernel
theorem dX10_nearest_17 : decode cX10_nearest 17 = .ok (.goto 4, 3) := by decide +kernel
theorem dX10_nearest_20 : decode cX10_nearest 20 = .ok (.iload_n 1, 1) := by decide +kernel
theorem dX10_nearest_21 : decode cX10_nearest 21 = .ok (.ireturn, 1) := by decide +kernel
theorem dX10_smallerNumber_0 : decode cX10_smallerNumber 0 = .ok (.iload_n 0, 1) := by decide +kernel
theorem dX10_smallerNumber_1 : decode cX10_smallerNumber 1 = .ok (.iload_n 1, 1) := by decide +kernel
theorem dX10_smallerNumber_2 : decode cX10_smallerNumber 2 = .ok (.iload_n 2, 1) := by decide +kernel
theorem dX10_smallerNumber_3 : decode cX10_smallerNumber 3 = .ok (.invokestatic 295, 3) := by decide +kernel
theorem dX10_smallerNumber_6 : decode cX10_smallerNumber 6 = .ok (.isub, 1) := by decide +kernel
theorem dX10_smallerNumber_7 : decode cX10_smallerNumber 7 = .ok (.istore 4, 2) := by decide +kernel
theorem dX10_smallerNumber_9 : decode cX10_smallerNumber 9 = .ok (.iload_n 3, 1) := by decide +kernel
theorem dX10_smallerNumber_10 : decode cX10_smallerNumber 10 = .ok (.bipush 30, 2) := by decide +kernel
theorem dX10_smallerNumber_12 : decode cX10_smallerNumber 12 = .ok (.if_icmp .le 7, 3) := by decide +kernel
theorem dX10_smallerNumber_15 : decode cX10_smallerNumber 15 = .ok (.iload_n 0, 1) := by decide +kernel
theorem dX10_smallerNumber_16 : decode cX10_smallerNumber 16 = .ok (.goto 11, 3) := by decide +kernel
theorem dX10_smallerNumber_19 : decode cX10_smallerNumber 19 = .ok (.iload_n 0, 1) := by decide +kernel
theorem dX10_smallerNumber_20 : decode cX10_smallerNumber 20 = .ok (.iload 4, 2) := by decide +kernel
theorem dX10_smallerNumber_22 : decode cX10_smallerNumber 22 = .ok (.iconst 1, 1) := by decide +kernel
theorem dX10_smallerNumber_23 : decode cX10_smallerNumber 23 = .ok (.iload_n 3, 1) := by decide +kernel
theorem dX10_smallerNumber_24 : decode cX10_smallerNumber 24 = .ok (.ishl, 1) := by decide +kernel
theorem dX10_smallerNumber_25 : decode cX10_smallerNumber 25 = .ok (.idiv, 1) := by decide +kernel
theorem dX10_smallerNumber_26 : decode cX10_smallerNumber 26 = .ok (.isub, 1) := by decide +kernel
theorem dX10_smallerNumber_27 : decode cX10_smallerNumber 27 = .ok (.ireturn, 1) := by decide +kernel
theorem dX10_tryWith_0 : decode cX10_tryWith 0 = .ok (.aload_n 0, 1) := by decide +kernel
theorem dX10_tryWith_1 : decode cX10_tryWith 1 = .ok (.aload_n 0, 1) := by decide +kernel
theorem dX10_tryWith_2 : decode cX10_tryWith 2 = .ok (.getfield 283, 3) := by decide +kernel
theorem dX10_tryWith_5 : decode cX10_tryWith 5 = .ok (.iconst 3, 1) := by decide +kernel
theorem dX10_tryWith_6 : decode cX10_tryWith 6 = .ok (.invokevirtual 273, 3) := by decide +kernel
theorem dX10_tryWith_9 : decode cX10_tryWith 9 = .ok (.aload_n 0, 1) := by decide +kernel
theorem dX10_tryWith_10 : decode cX10_tryWith 10 = .ok (.getfield 38, 3) := by decide +kernel
theorem dX10_tryWith_13 : decode cX10_tryWith 13 = .ok (.sipush 3000, 3) := by decide +kernel
theorem dX10_tryWith_16 : decode cX10_tryWith 16 = .ok (.iload_n 1, 1) := by decide +kernel
theorem dX10_tryWith_17 : decode cX10_tryWith 17 = .ok (.iadd, 1) := by decide +kernel
theorem dX10_tryWith_18 : decode cX10_tryWith 18 = .ok (.iload_n 2, 1) := by decide +kernel
theorem dX10_tryWith_19 : decode cX10_tryWith 19 = .ok (.iastore, 1) := by decide +kernel
theorem dX10_tryWith_20 : decode cX10_tryWith 20 = .ok (.return_, 1) := by decide +kernel
theorem dX10_tryWithout_0 : decode cX10_tryWithout 0 = .ok (.iload_n 1, 1) := by decide +kernel
theorem dX10_tryWithout_1 : decode cX10_tryWithout 1 = .ok (.iconst 1, 1) := by decide +kernel
theorem dX10_tryWithout_2 : decode cX10_tryWithout 2 = .ok (.iadd, 1) := by decide +kernel
theorem dX10_tryWithout_3 : decode cX10_tryWithout 3 = .ok (.istore 4, 2) := by decide +kernel
theorem dX10_tryWithout_5 : decode cX10_tryWithout 5 = .ok (.iconst 0, 1) := by decide +kernel
theorem dX10_tryWithout_6 : decode cX10_tryWithout 6 = .ok (.istore 5, 2) := by decide +kernel
theorem dX10_tryWithout_8 : decode cX10_tryWithout 8 = .ok (.iload 5, 2) := by decide +kernel
theorem dX10_tryWithout_10 : decode cX10_tryWithout 10 = .ok (.iload_n 2, 1) := by decide +kernel
theorem dX10_tryWithout_11 : decode cX10_tryWithout 11 = .ok (.if_icmp .ge 21, 3) := by decide +kernel
theorem dX10_tryWithout_14 : decode cX10_tryWithout 14 = .ok (.aload_n 0, 1) := by decide +kernel
theorem dX10_tryWithout_15 : decode cX10_tryWithout 15 = .ok (.aload_n 0, 1) := by decide +kernel
theorem dX10_tryWithout_16 : decode cX10_tryWithout 16 = .ok (.getfield 283, 3) := by decide +kernel
theorem dX10_tryWithout_19 : decode cX10_tryWithout 19 = .ok (.iload 4, 2) := by decide +kernel
theorem dX10_tryWithout_21 : decode cX10_tryWithout 21 = .ok (.invokevirtual 298, 3) := by decide +kernel
theorem dX10_tryWithout_24 : decode cX10_tryWithout 24 = .ok (.istore 4, 2) := by decide +kernel
theorem dX10_tryWithout_26 : decode cX10_tryWithout 26 = .ok (.iinc 5 1, 3) := by decide +kernel
theorem dX10_tryWithout_29 : decode cX10_tryWithout 29 = .ok (.goto (-21), 3) := by decide +kernel
theorem dX10_tryWithout_32 : decode cX10_tryWithout 32 = .ok (.iload 4, 2) := by decide +kernel
theorem dX10_tryWithout_34 : decode cX10_tryWithout 34 = .ok (.istore 5, 2) := by decide +kernel
theorem dX10_tryWithout_36 : decode cX10_tryWithout 36 = .ok (.iconst 0, 1) := by decide +kernel
theorem dX10_tryWithout_37 : decode cX10_tryWithout 37 = .ok (.istore 6, 2) := by decide +kernel
theorem dX10_tryWithout_39 : decode cX10_tryWithout 39 = .ok (.iload 6, 2) := by decide +kernel
theorem dX10_tryWithout_41 : decode cX10_tryWithout 41 = .ok (.iload_n 3, 1) := by decide +kernel
theorem dX10_tryWithout_42 : decode cX10_tryWithout 42 = .ok (.if_icmp .ge 21, 3) := by decide +kernel
theorem dX10_tryWithout_45 : decode cX10_tryWithout 45 = .ok (.aload_n 0, 1) := by decide +kernel
theorem dX10_tryWithout_46 : decode cX10_tryWithout 46 = .ok (.aload_n 0, 1) := by decide +kernel
theorem dX10_tryWithout_47 : decode cX10_tryWithout 47 = .ok (.getfield 283, 3) := by decide +kernel
theorem dX10_tryWithout_50 : decode cX10_tryWithout 50 = .ok (.iload 5, 2) := by decide +kernel
theorem dX10_tryWithout_52 : decode cX10_tryWithout 52 = .ok (.invokevirtual 298, 3) := by decide +kernel
theorem dX10_tryWithout_55 : decode cX10_tryWithout 55 = .ok (.istore 5, 2) := by decide +kernel
theorem dX10_tryWithout_57 : decode cX10_tryWithout 57 = .ok (.iinc 6 1, 3) := by decide +kernel
theorem dX10_tryWithout_60 : decode cX10_tryWithout 60 = .ok (.goto (-21), 3) := by decide +kernel
theorem dX10_tryWithout_63 : decode cX10_tryWithout 63 = .ok (.aload_n 0, 1) := by decide +kernel
theorem dX10_tryWithout_64 : decode cX10_tryWithout 64 = .ok (.aload_n 0, 1) := by decide +kernel
theorem dX10_tryWithout_65 : decode cX10_tryWithout 65 = .ok (.getfield 283, 3) := by decide +kernel
theorem dX10_tryWithout_68 : decode cX10_tryWithout 68 = .ok (.iconst 3, 1) := by decide +kernel
theorem dX10_tryWithout_69 : decode cX10_tryWithout 69 = .ok (.invokevirtual 273, 3) := by decide +kernel
theorem dX10_tryWithout_72 : decode cX10_tryWithout 72 = .ok (.iload 5, 2) := by decide +kernel
theorem dX10_tryWithout_74 : decode cX10_tryWithout 74 = .ok (.istore 6, 2) := by decide +kernel
theorem dX10_tryWithout_76 : decode cX10_tryWithout 76 = .ok (.iload 6, 2) := by decide +kernel
theorem dX10_tryWithout_78 : decode cX10_tryWithout 78 = .ok (.aload_n 0, 1) := by decide +kernel
theorem dX10_tryWithout_79 : decode cX10_tryWithout 79 = .ok (.getfield 32, 3) := by decide +kernel
theorem dX10_tryWithout_82 : decode cX10_tryWithout 82 = .ok (.aload_n 0, 1) := by decide +kernel
theorem dX10_tryWithout_83 : decode cX10_tryWithout 83 = .ok (.getfield 283, 3) := by decide +kernel
theorem dX10_tryWithout_86 : decode cX10_tryWithout 86 = .ok (.iaload, 1) := by decide +kernel
theorem dX10_tryWithout_87 : decode cX10_tryWithout 87 = .ok (.if_icmp .ge 75, 3) := by decide +kernel
theorem dX10_tryWithout_90 : decode cX10_tryWithout 90 = .ok (.aload_n 0, 1) := by decide +kernel
theorem dX10_tryWithout_91 : decode cX10_tryWithout 91 = .ok (.getfield 35, 3) := by decide +kernel
theorem dX10_tryWithout_94 : decode cX10_tryWithout 94 = .ok (.sipush 3000, 3) := by decide +kernel
theorem dX10_tryWithout_97 : decode cX10_tryWithout 97 = .ok (.iload 4, 2) := by decide +kernel
theorem dX10_tryWithout_99 : decode cX10_tryWithout 99 = .ok (.iadd, 1) := by decide +kernel
theorem dX10_tryWithout_100 : decode cX10_tryWithout 100 = .ok (.iload 6, 2) := by decide +kernel
theorem dX10_tryWithout_102 : decode cX10_tryWithout 102 = .ok (.iadd, 1) := by decide +kernel
theorem dX10_tryWithout_103 : decode cX10_tryWithout 103 = .ok (.iload 5, 2) := by decide +kernel
theorem dX10_tryWithout_105 : decode cX10_tryWithout 105 = .ok (.isub, 1) := by decide +kernel
theorem dX10_tryWithout_106 : decode cX10_tryWithout 106 = .ok (.aload_n 0, 1) := by decide +kernel
theorem dX10_tryWithout_107 : decode cX10_tryWithout 107 = .ok (.getfield 35, 3) := by decide +kernel
theorem dX10_tryWithout_110 : decode cX10_tryWithout 110 = .ok (.sipush 1000, 3) := by decide +kernel
theorem dX10_tryWithout_113 : decode cX10_tryWithout 113 = .ok (.aload_n 0, 1) := by decide +kernel
theorem dX10_tryWithout_114 : decode cX10_tryWithout 114 = .ok (.getfield 283, 3) := by decide +kernel
theorem dX10_tryWithout_117 : decode cX10_tryWithout 117 = .ok (.imul, 1) := by decide +kernel
theorem dX10_tryWithout_118 : decode cX10_tryWithout 118 = .ok (.iload 6, 2) := by decide +kernel
theorem dX10_tryWithout_120 : decode cX10_tryWithout 120 = .ok (.iadd, 1) := by decide +kernel
theorem dX10_tryWithout_121 : decode cX10_tryWithout 121 = .ok (.iaload, 1) := by decide +kernel
theorem dX10_tryWithout_122 : decode cX10_tryWithout 122 = .ok (.iastore, 1) := by decide +kernel
theorem dX10_tryWithout_123 : decode cX10_tryWithout 123 = .ok (.aload_n 0, 1) := by decide +kernel
theorem dX10_tryWithout_124 : decode cX10_tryWithout 124 = .ok (.getfield 38, 3) := by decide +kernel
theorem dX10_tryWithout_127 : decode cX10_tryWithout 127 = .ok (.sipush 3000, 3) := by decide +kernel
theorem dX10_tryWithout_130 : decode cX10_tryWithout 130 = .ok (.iload 4, 2) := by decide +kernel
theorem dX10_tryWithout_132 : decode cX10_tryWithout 132 = .ok (.iadd, 1) := by decide +kernel
theorem dX10_tryWithout_133 : decode cX10_tryWithout 133 = .ok (.iload 6, 2) := by decide +kernel
theorem dX10_tryWithout_135 : decode cX10_tryWithout 135 = .ok (.iadd, 1) := by decide +kernel
theorem dX10_tryWithout_136 : decode cX10_tryWithout 136 = .ok (.iload 5, 2) := by decide +kernel
theorem dX10_tryWithout_138 : decode cX10_tryWithout 138 = .ok (.isub, 1) := by decide +kernel
theorem dX10_tryWithout_139 : decode cX10_tryWithout 139 = .ok (.aload_n 0, 1) := by decide +kernel
theorem dX10_tryWithout_140 : decode cX10_tryWithout 140 = .ok (.getfield 38, 3) := by decide +kernel
theorem dX10_tryWithout_143 : decode cX10_tryWithout 143 = .ok (.sipush 1000, 3) := by decide +kernel
theorem dX10_tryWithout_146 : decode cX10_tryWithout 146 = .ok (.aload_n 0, 1) := by decide +kernel
theorem dX10_tryWithout_147 : decode cX10_tryWithout 147 = .ok (.getfield 283, 3) := by decide +kernel
theorem dX10_tryWithout_150 : decode cX10_tryWithout 150 = .ok (.imul, 1) := by decide +kernel
theorem dX10_tryWithout_151 : decode cX10_tryWithout 151 = .ok (.iload 6, 2) := by decide +kernel
theorem dX10_tryWithout_153 : decode cX10_tryWithout 153 = .ok (.iadd, 1) := by decide +kernel
theorem dX10_tryWithout_154 : decode cX10_tryWithout 154 = .ok (.iaload, 1) := by decide +kernel
theorem dX10_tryWithout_155 : decode cX10_tryWithout 155 = .ok (.iastore, 1) := by decide +kernel
theorem dX10_tryWithout_156 : decode cX10_tryWithout 156 = .ok (.iinc 6 1, 3) := by decide +kernel
theorem dX10_tryWithout_159 : decode cX10_tryWithout 159 = .ok (.goto (-83), 3) := by decide +kernel
theorem dX10_tryWithout_162 : decode cX10_tryWithout 162 = .ok (.aload_n 0, 1) := by decide +kernel
theorem dX10_tryWithout_163 : decode cX10_tryWithout 163 = .ok (.getfield 32, 3) := by decide +kernel
theorem dX10_tryWithout_166 : decode cX10_tryWithout 166 = .ok (.iconst 3, 1) := by decide +kernel
theorem dX10_tryWithout_167 : decode cX10_tryWithout 167 = .ok (.aload_n 0, 1) := by decide +kernel
theorem dX10_tryWithout_168 : decode cX10_tryWithout 168 = .ok (.getfield 32, 3) := by decide +kernel
theorem dX10_tryWithout_171 : decode cX10_tryWithout 171 = .ok (.aload_n 0, 1) := by decide +kernel
theorem dX10_tryWithout_172 : decode cX10_tryWithout 172 = .ok (.getfield 283, 3) := by decide +kernel
theorem dX10_tryWithout_175 : decode cX10_tryWithout 175 = .ok (.iaload, 1) := by decide +kernel
theorem dX10_tryWithout_176 : decode cX10_tryWithout 176 = .ok (.iload 5, 2) := by decide +kernel
theorem dX10_tryWithout_178 : decode cX10_tryWithout 178 = .ok (.iload 4, 2) := by decide +kernel
theorem dX10_tryWithout_180 : decode cX10_tryWithout 180 = .ok (.isub, 1) := by decide +kernel
theorem dX10_tryWithout_181 : decode cX10_tryWithout 181 = .ok (.isub, 1) := by decide +kernel
theorem dX10_tryWithout_182 : decode cX10_tryWithout 182 = .ok (.iastore, 1) := by decide +kernel
theorem dX10_tryWithout_183 : decode cX10_tryWithout 183 = .ok (.aload_n 0, 1) := by decide +kernel
theorem dX10_tryWithout_184 : decode cX10_tryWithout 184 = .ok (.getfield 38, 3) := by decide +kernel
theorem dX10_tryWithout_187 : decode cX10_tryWithout 187 = .ok (.sipush 3000, 3) := by decide +kernel
theorem dX10_tryWithout_190 : decode cX10_tryWithout 190 = .ok (.iload_n 1, 1) := by decide +kernel
theorem dX10_tryWithout_191 : decode cX10_tryWithout 191 = .ok (.iadd, 1) := by decide +kernel
theorem dX10_tryWithout_192 : decode cX10_tryWithout 192 = .ok (.dup2, 1) := by decide +kernel
theorem dX10_tryWithout_193 : decode cX10_tryWithout 193 = .ok (.iaload, 1) := by decide +kernel
theorem dX10_tryWithout_194 : decode cX10_tryWithout 194 = .ok (.iload_n 3, 1) := by decide +kernel
theorem dX10_tryWithout_195 : decode cX10_tryWithout 195 = .ok (.isub, 1) := by decide +kernel
theorem dX10_tryWithout_196 : decode cX10_tryWithout 196 = .ok (.iastore, 1) := by decide +kernel
theorem dX10_tryWithout_197 : decode cX10_tryWithout 197 = .ok (.return_, 1) := by decide +kernel
theorem dX10_listChange_0 : decode cX10_listChange 0 = .ok (.aload_n 0, 1) := by decide +kernel
theorem dX10_listChange_1 : decode cX10_listChange 1 = .ok (.getfield 292, 3) := by decide +kernel
theorem dX10_listChange_4 : decode cX10_listChange 4 = .ok (.istore_n 3, 1) := by decide +kernel
theorem dX10_listChange_5 : decode cX10_listChange 5 = .ok (.iload_n 2, 1) := by decide +kernel
theorem dX10_listChange_6 : decode cX10_listChange 6 = .ok (.istore 4, 2) := by decide +kernel
theorem dX10_listChange_8 : decode cX10_listChange 8 = .ok (.iload 4, 2) := by decide +kernel
theorem dX10_listChange_10 : decode cX10_listChange 10 = .ok (.ifCond .le 42, 3) := by decide +kernel
theorem dX10_listChange_13 : decode cX10_listChange 13 = .ok (.iload_n 2, 1) := by decide +kernel
theorem dX10_listChange_14 : decode cX10_listChange 14 = .ok (.iload 4, 2) := by decide +kernel
theorem dX10_listChange_16 : decode cX10_listChange 16 = .ok (.idiv, 1) := by decide +kernel
theorem dX10_listChange_17 : decode cX10_listChange 17 = .ok (.istore 5, 2) := by decide +kernel
theorem dX10_listChange_19 : decode cX10_listChange 19 = .ok (.iload_n 3, 1) := by decide +kernel
theorem dX10_listChange_20 : decode cX10_listChange 20 = .ok (.iload 5, 2) := by decide +kernel
theorem dX10_listChange_22 : decode cX10_listChange 22 = .ok (.if_icmp .ge 16, 3) := by decide +kernel
theorem dX10_listChange_25 : decode cX10_listChange 25 = .ok (.aload_n 0, 1) := by decide +kernel
theorem dX10_listChange_26 : decode cX10_listChange 26 = .ok (.iload_n 1, 1) := by decide +kernel
theorem dX10_listChange_27 : decode cX10_listChange 27 = .ok (.iload 4, 2) := by decide +kernel
theorem dX10_listChange_29 : decode cX10_listChange 29 = .ok (.iload_n 3, 1) := by decide +kernel
theorem dX10_listChange_30 : decode cX10_listChange 30 = .ok (.imul, 1) := by decide +kernel
theorem dX10_listChange_31 : decode cX10_listChange 31 = .ok (.iload 4, 2) := by decide +kernel
theorem dX10_listChange_33 : decode cX10_listChange 33 = .ok (.invokevirtual 301, 3) := by decide +kernel
theorem dX10_listChange_36 : decode cX10_listChange 36 = .ok (.iconst 1, 1) := by decide +kernel
theorem dX10_listChange_37 : decode cX10_listChange 37 = .ok (.ireturn, 1) := by decide +kernel
theorem dX10_listChange_38 : decode cX10_listChange 38 = .ok (.iload_n 3, 1) := by decide +kernel
theorem dX10_listChange_39 : decode cX10_listChange 39 = .ok (.iload 5, 2) := by decide +kernel
theorem dX10_listChange_41 : decode cX10_listChange 41 = .ok (.isub, 1) := by decide +kernel
theorem dX10_listChange_42 : decode cX10_listChange 42 = .ok (.istore_n 3, 1) := by decide +kernel
theorem dX10_listChange_43 : decode cX10_listChange 43 = .ok (.iload 4, 2) := by decide +kernel
theorem dX10_listChange_45 : decode cX10_listChange 45 = .ok (.iconst 2, 1) := by decide +kernel
theorem dX10_listChange_46 : decode cX10_listChange 46 = .ok (.idiv, 1) := by decide +kernel
theorem dX10_listChange_47 : decode cX10_listChange 47 = .ok (.istore 4, 2) := by decide +kernel
theorem dX10_listChange_49 : decode cX10_listChange 49 = .ok (.goto (-41), 3) := by decide +kernel
theorem dX10_listChange_52 : decode cX10_listChange 52 = .ok (.iconst 0, 1) := by decide +kernel
theorem dX10_listChange_53 : decode cX10_listChange 53 = .ok (.ireturn, 1) := by decide +kernel
theorem dX10_shuffleChange_0 : decode cX10_shuffleChange 0 = .ok (.aload_n 0, 1) := by decide +kernel
theorem dX10_shuffleChange_1 : decode cX10_shuffleChange 1 = .ok (.getfield 292, 3) := by decide +kernel
theorem dX10_shuffleChange_4 : decode cX10_shuffleChange 4 = .ok (.istore_n 3, 1) := by decide +kernel
theorem dX10_shuffleChange_5 : decode cX10_shuffleChange 5 = .ok (.iconst 0, 1) := by decide +kernel
theorem dX10_shuffleChange_6 : decode cX10_shuffleChange 6 = .ok (.istore 4, 2) := by decide +kernel
theorem dX10_shuffleChange_8 : decode cX10_shuffleChange 8 = .ok (.iload 4, 2) := by decide +kernel
theorem dX10_shuffleChange_10 : decode cX10_shuffleChange 10 = .ok (.iconst 1, 1) := by decide +kernel
theorem dX10_shuffleChange_11 : decode cX10_shuffleChange 11 = .ok (.iadd, 1) := by decide +kernel
theorem dX10_shuffleChange_12 : decode cX10_shuffleChange 12 = .ok (.iload_n 2, 1) := by decide +kernel
theorem dX10_shuffleChange_13 : decode cX10_shuffleChange 13 = .ok (.if_icmp .ge 109, 3) := by decide +kernel
theorem dX10_shuffleChange_16 : decode cX10_shuffleChange 16 = .ok (.sipush 1000, 3) := by decide +kernel
theorem dX10_shuffleChange_19 : decode cX10_shuffleChange 19 = .ok (.aload_n 0, 1) := by decide +kernel
theorem dX10_shuffleChange_20 : decode cX10_shuffleChange 20 = .ok (.getfield 283, 3) := by decide +kernel
theorem dX10_shuffleChange_23 : decode cX10_shuffleChange 23 = .ok (.imul, 1) := by decide +kernel
theorem dX10_shuffleChange_24 : decode cX10_shuffleChange 24 = .ok (.iload_n 1, 1) := by decide +kernel
theorem dX10_shuffleChange_25 : decode cX10_shuffleChange 25 = .ok (.iadd, 1) := by decide +kernel
theorem dX10_shuffleChange_26 : decode cX10_shuffleChange 26 = .ok (.iconst 1, 1) := by decide +kernel
theorem dX10_shuffleChange_27 : decode cX10_shuffleChange 27 = .ok (.iadd, 1) := by decide +kernel
theorem dX10_shuffleChange_28 : decode cX10_shuffleChange 28 = .ok (.iload 4, 2) := by decide +kernel
theorem dX10_shuffleChange_30 : decode cX10_shuffleChange 30 = .ok (.iadd, 1) := by decide +kernel
theorem dX10_shuffleChange_31 : decode cX10_shuffleChange 31 = .ok (.istore 5, 2) := by decide +kernel
theorem dX10_shuffleChange_33 : decode cX10_shuffleChange 33 = .ok (.aload_n 0, 1) := by decide +kernel
theorem dX10_shuffleChange_34 : decode cX10_shuffleChange 34 = .ok (.getfield 38, 3) := by decide +kernel
theorem dX10_shuffleChange_37 : decode cX10_shuffleChange 37 = .ok (.iload 5, 2) := by decide +kernel
theorem dX10_shuffleChange_39 : decode cX10_shuffleChange 39 = .ok (.iaload, 1) := by decide +kernel
theorem dX10_shuffleChange_40 : decode cX10_shuffleChange 40 = .ok (.aload_n 0, 1) := by decide +kernel
theorem dX10_shuffleChange_41 : decode cX10_shuffleChange 41 = .ok (.getfield 38, 3) := by decide +kernel
theorem dX10_shuffleChange_44 : decode cX10_shuffleChange 44 = .ok (.iload 5, 2) := by decide +kernel
theorem dX10_shuffleChange_46 : decode cX10_shuffleChange 46 = .ok (.iconst 1, 1) := by decide +kernel
theorem dX10_shuffleChange_47 : decode cX10_shuffleChange 47 = .ok (.iadd, 1) := by decide +kernel
theorem dX10_shuffleChange_48 : decode cX10_shuffleChange 48 = .ok (.iaload, 1) := by decide +kernel
theorem dX10_shuffleChange_49 : decode cX10_shuffleChange 49 = .ok (.if_icmp .le 67, 3) := by decide +kernel
theorem dX10_shuffleChange_52 : decode cX10_shuffleChange 52 = .ok (.iload_n 3, 1) := by decide +kernel
theorem dX10_shuffleChange_53 : decode cX10_shuffleChange 53 = .ok (.ifCond .ne 60, 3) := by decide +kernel
theorem dX10_shuffleChange_56 : decode cX10_shuffleChange 56 = .ok (.aload_n 0, 1) := by decide +kernel
theorem dX10_shuffleChange_57 : decode cX10_shuffleChange 57 = .ok (.aload_n 0, 1) := by decide +kernel
theorem dX10_shuffleChange_58 : decode cX10_shuffleChange 58 = .ok (.getfield 283, 3) := by decide +kernel
theorem dX10_shuffleChange_61 : decode cX10_shuffleChange 61 = .ok (.iconst 3, 1) := by decide +kernel
theorem dX10_shuffleChange_62 : decode cX10_shuffleChange 62 = .ok (.invokevirtual 273, 3) := by decide +kernel
theorem dX10_shuffleChange_65 : decode cX10_shuffleChange 65 = .ok (.aload_n 0, 1) := by decide +kernel
theorem dX10_shuffleChange_66 : decode cX10_shuffleChange 66 = .ok (.getfield 38, 3) := by decide +kernel
theorem dX10_shuffleChange_69 : decode cX10_shuffleChange 69 = .ok (.sipush 3000, 3) := by decide +kernel
theorem dX10_shuffleChange_72 : decode cX10_shuffleChange 72 = .ok (.iload_n 1, 1) := by decide +kernel
theorem dX10_shuffleChange_73 : decode cX10_shuffleChange 73 = .ok (.iadd, 1) := by decide +kernel
theorem dX10_shuffleChange_74 : decode cX10_shuffleChange 74 = .ok (.iconst 1, 1) := by decide +kernel
theorem dX10_shuffleChange_75 : decode cX10_shuffleChange 75 = .ok (.iadd, 1) := by decide +kernel
theorem dX10_shuffleChange_76 : decode cX10_shuffleChange 76 = .ok (.iload 4, 2) := by decide +kernel
theorem dX10_shuffleChange_78 : decode cX10_shuffleChange 78 = .ok (.iadd, 1) := by decide +kernel
theorem dX10_shuffleChange_79 : decode cX10_shuffleChange 79 = .ok (.aload_n 0, 1) := by decide +kernel
theorem dX10_shuffleChange_80 : decode cX10_shuffleChange 80 = .ok (.getfield 38, 3) := by decide +kernel
theorem dX10_shuffleChange_83 : decode cX10_shuffleChange 83 = .ok (.iload 5, 2) := by decide +kernel
theorem dX10_shuffleChange_85 : decode cX10_shuffleChange 85 = .ok (.iconst 1, 1) := by decide +kernel
theorem dX10_shuffleChange_86 : decode cX10_shuffleChange 86 = .ok (.iadd, 1) := by decide +kernel
theorem dX10_shuffleChange_87 : decode cX10_shuffleChange 87 = .ok (.iaload, 1) := by decide +kernel
theorem dX10_shuffleChange_88 : decode cX10_shuffleChange 88 = .ok (.iastore, 1) := by decide +kernel
theorem dX10_shuffleChange_89 : decode cX10_shuffleChange 89 = .ok (.aload_n 0, 1) := by decide +kernel
theorem dX10_shuffleChange_90 : decode cX10_shuffleChange 90 = .ok (.getfield 38, 3) := by decide +kernel
theorem dX10_shuffleChange_93 : decode cX10_shuffleChange 93 = .ok (.sipush 3000, 3) := by decide +kernel
theorem dX10_shuffleChange_96 : decode cX10_shuffleChange 96 = .ok (.iload_n 1, 1) := by decide +kernel
theorem dX10_shuffleChange_97 : decode cX10_shuffleChange 97 = .ok (.iadd, 1) := by decide +kernel
theorem dX10_shuffleChange_98 : decode cX10_shuffleChange 98 = .ok (.iconst 2, 1) := by decide +kernel
theorem dX10_shuffleChange_99 : decode cX10_shuffleChange 99 = .ok (.iadd, 1) := by decide +kernel
theorem dX10_shuffleChange_100 : decode cX10_shuffleChange 100 = .ok (.iload 4, 2) := by decide +kernel
theorem dX10_shuffleChange_102 : decode cX10_shuffleChange 102 = .ok (.iadd, 1) := by decide +kernel
theorem dX10_shuffleChange_103 : decode cX10_shuffleChange 103 = .ok (.aload_n 0, 1) := by decide +kernel
theorem dX10_shuffleChange_104 : decode cX10_shuffleChange 104 = .ok (.getfield 38, 3) := by decide +kernel
theorem dX10_shuffleChange_107 : decode cX10_shuffleChange 107 = .ok (.iload 5, 2) := by decide +kernel
theorem dX10_shuffleChange_109 : decode cX10_shuffleChange 109 = .ok (.iaload, 1) := by decide +kernel
theorem dX10_shuffleChange_110 : decode cX10_shuffleChange 110 = .ok (.iastore, 1) := by decide +kernel
theorem dX10_shuffleChange_111 : decode cX10_shuffleChange 111 = .ok (.iconst 1, 1) := by decide +kernel
theorem dX10_shuffleChange_112 : decode cX10_shuffleChange 112 = .ok (.ireturn, 1) := by decide +kernel
theorem dX10_shuffleChange_113 : decode cX10_shuffleChange 113 = .ok (.iinc 3 (-1), 3) := by decide +kernel
theorem dX10_shuffleChange_116 : decode cX10_shuffleChange 116 = .ok (.iinc 4 1, 3) := by decide +kernel
theorem dX10_shuffleChange_119 : decode cX10_shuffleChange 119 = .ok (.goto (-111), 3) := by decide +kernel
theorem dX10_shuffleChange_122 : decode cX10_shuffleChange 122 = .ok (.iconst 0, 1) := by decide +kernel
theorem dX10_shuffleChange_123 : decode cX10_shuffleChange 123 = .ok (.ireturn, 1) := by decide +kernel
theorem dX10_changes_0 : decode cX10_changes 0 = .ok (.sipush 1000, 3) := by decide +kernel
theorem dX10_changes_3 : decode cX10_changes 3 = .ok (.aload_n 0, 1) := by decide +kernel
theorem dX10_changes_4 : decode cX10_changes 4 = .ok (.getfield 283, 3) := by decide +kernel
theorem dX10_changes_7 : decode cX10_changes 7 = .ok (.imul, 1) := by decide +kernel
theorem dX10_changes_8 : decode cX10_changes 8 = .ok (.aload_n 0, 1) := by decide +kernel
theorem dX10_changes_9 : decode cX10_changes 9 = .ok (.getfield 286, 3) := by decide +kernel
theorem dX10_changes_12 : decode cX10_changes 12 = .ok (.iadd, 1) := by decide +kernel
theorem dX10_changes_13 : decode cX10_changes 13 = .ok (.istore_n 1, 1) := by decide +kernel
theorem dX10_changes_14 : decode cX10_changes 14 = .ok (.aload_n 0, 1) := by decide +kernel
theorem dX10_changes_15 : decode cX10_changes 15 = .ok (.getfield 35, 3) := by decide +kernel
theorem dX10_changes_18 : decode cX10_changes 18 = .ok (.iload_n 1, 1) := by decide +kernel
theorem dX10_changes_19 : decode cX10_changes 19 = .ok (.iaload, 1) := by decide +kernel
theorem dX10_changes_20 : decode cX10_changes 20 = .ok (.istore_n 2, 1) := by decide +kernel
theorem dX10_changes_21 : decode cX10_changes 21 = .ok (.iload_n 2, 1) := by decide +kernel
theorem dX10_changes_22 : decode cX10_changes 22 = .ok (.ifCond .ge 5, 3) := by decide +kernel
theorem dX10_changes_25 : decode cX10_changes 25 = .ok (.iconst 0, 1) := by decide +kernel
theorem dX10_changes_26 : decode cX10_changes 26 = .ok (.ireturn, 1) := by decide +kernel
theorem dX10_changes_27 : decode cX10_changes 27 = .ok (.aload_n 0, 1) := by decide +kernel
theorem dX10_changes_28 : decode cX10_changes 28 = .ok (.getfield 38, 3) := by decide +kernel
theorem dX10_changes_31 : decode cX10_changes 31 = .ok (.iload_n 1, 1) := by decide +kernel
theorem dX10_changes_32 : decode cX10_changes 32 = .ok (.iaload, 1) := by decide +kernel
theorem dX10_changes_33 : decode cX10_changes 33 = .ok (.istore_n 3, 1) := by decide +kernel
theorem dX10_changes_34 : decode cX10_changes 34 = .ok (.aload_n 0, 1) := by decide +kernel
theorem dX10_changes_35 : decode cX10_changes 35 = .ok (.getfield 289, 3) := by decide +kernel
theorem dX10_changes_38 : decode cX10_changes 38 = .ok (.ifCond .eq 46, 3) := by decide +kernel
theorem dX10_changes_41 : decode cX10_changes 41 = .ok (.iload_n 3, 1) := by decide +kernel
theorem dX10_changes_42 : decode cX10_changes 42 = .ok (.iconst 0, 1) := by decide +kernel
theorem dX10_changes_43 : decode cX10_changes 43 = .ok (.iload_n 3, 1) := by decide +kernel
theorem dX10_changes_44 : decode cX10_changes 44 = .ok (.aload_n 0, 1) := by decide +kernel
theorem dX10_changes_45 : decode cX10_changes 45 = .ok (.getfield 292, 3) := by decide +kernel
theorem dX10_changes_48 : decode cX10_changes 48 = .ok (.invokestatic 304, 3) := by decide +kernel
theorem dX10_changes_51 : decode cX10_changes 51 = .ok (.istore 4, 2) := by decide +kernel
theorem dX10_changes_53 : decode cX10_changes 53 = .ok (.aload_n 0, 1) := by decide +kernel
theorem dX10_changes_54 : decode cX10_changes 54 = .ok (.getfield 7, 3) := by decide +kernel
theorem dX10_changes_57 : decode cX10_changes 57 = .ok (.iload_n 2, 1) := by decide +kernel
theorem dX10_changes_58 : decode cX10_changes 58 = .ok (.iaload, 1) := by decide +kernel
theorem dX10_changes_59 : decode cX10_changes 59 = .ok (.bipush 7, 2) := by decide +kernel
theorem dX10_changes_61 : decode cX10_changes 61 = .ok (.if_icmp .ne 9, 3) := by decide +kernel
theorem dX10_changes_64 : decode cX10_changes 64 = .ok (.iload 4, 2) := by decide +kernel
theorem dX10_changes_66 : decode cX10_changes 66 = .ok (.iload_n 3, 1) := by decide +kernel
theorem dX10_changes_67 : decode cX10_changes 67 = .ok (.if_icmp .ne 5, 3) := by decide +kernel
theorem dX10_changes_70 : decode cX10_changes 70 = .ok (.iconst 0, 1) := by decide +kernel
theorem dX10_changes_71 : decode cX10_changes 71 = .ok (.ireturn, 1) := by decide +kernel
theorem dX10_changes_72 : decode cX10_changes 72 = .ok (.aload_n 0, 1) := by decide +kernel
theorem dX10_changes_73 : decode cX10_changes 73 = .ok (.aload_n 0, 1) := by decide +kernel
theorem dX10_changes_74 : decode cX10_changes 74 = .ok (.getfield 286, 3) := by decide +kernel
theorem dX10_changes_77 : decode cX10_changes 77 = .ok (.iload 4, 2) := by decide +kernel
theorem dX10_changes_79 : decode cX10_changes 79 = .ok (.invokevirtual 308, 3) := by decide +kernel
theorem dX10_changes_82 : decode cX10_changes 82 = .ok (.iconst 1, 1) := by decide +kernel
theorem dX10_changes_83 : decode cX10_changes 83 = .ok (.ireturn, 1) := by decide +kernel
theorem dX10_changes_84 : decode cX10_changes 84 = .ok (.aload_n 0, 1) := by decide +kernel
theorem dX10_changes_85 : decode cX10_changes 85 = .ok (.getfield 7, 3) := by decide +kernel
theorem dX10_changes_88 : decode cX10_changes 88 = .ok (.iload_n 2, 1) := by decide +kernel
theorem dX10_changes_89 : decode cX10_changes 89 = .ok (.iaload, 1) := by decide +kernel
theorem dX10_changes_90 : decode cX10_changes 90 = .ok (.lookupswitch 104 #[(0, 34), (1, 84), (6, 94)], 34) := by decide +kernel
theorem dX10_changes_124 : decode cX10_changes 124 = .ok (.iload_n 3, 1) := by decide +kernel
theorem dX10_changes_125 : decode cX10_changes 125 = .ok (.aload_n 0, 1) := by decide +kernel
theorem dX10_changes_126 : decode cX10_changes 126 = .ok (.getfield 19, 3) := by decide +kernel
theorem dX10_changes_129 : decode cX10_changes 129 = .ok (.iload_n 2, 1) := by decide +kernel
theorem dX10_changes_130 : decode cX10_changes 130 = .ok (.iaload, 1) := by decide +kernel
theorem dX10_changes_131 : decode cX10_changes 131 = .ok (.aload_n 0, 1) := by decide +kernel
theorem dX10_changes_132 : decode cX10_changes 132 = .ok (.getfield 22, 3) := by decide +kernel
theorem dX10_changes_135 : decode cX10_changes 135 = .ok (.iload_n 2, 1) := by decide +kernel
theorem dX10_changes_136 : decode cX10_changes 136 = .ok (.iaload, 1) := by decide +kernel
theorem dX10_changes_137 : decode cX10_changes 137 = .ok (.aload_n 0, 1) := by decide +kernel
theorem dX10_changes_138 : decode cX10_changes 138 = .ok (.getfield 292, 3) := by decide +kernel
theorem dX10_changes_141 : decode cX10_changes 141 = .ok (.invokestatic 304, 3) := by decide +kernel
theorem dX10_changes_144 : decode cX10_changes 144 = .ok (.istore 4, 2) := by decide +kernel
theorem dX10_changes_146 : decode cX10_changes 146 = .ok (.iload 4, 2) := by decide +kernel
theorem dX10_changes_148 : decode cX10_changes 148 = .ok (.iload_n 3, 1) := by decide +kernel
theorem dX10_changes_149 : decode cX10_changes 149 = .ok (.if_icmp .eq 13, 3) := by decide +kernel
theorem dX10_changes_152 : decode cX10_changes 152 = .ok (.aload_n 0, 1) := by decide +kernel
theorem dX10_changes_153 : decode cX10_changes 153 = .ok (.aload_n 0, 1) := by decide +kernel
theorem dX10_changes_154 : decode cX10_changes 154 = .ok (.getfield 286, 3) := by decide +kernel
theorem dX10_changes_157 : decode cX10_changes 157 = .ok (.iload 4, 2) := by decide +kernel
theorem dX10_changes_159 : decode cX10_changes 159 = .ok (.invokevirtual 308, 3) := by decide +kernel
theorem dX10_changes_162 : decode cX10_changes 162 = .ok (.iload 4, 2) := by decide +kernel
theorem dX10_changes_164 : decode cX10_changes 164 = .ok (.iload_n 3, 1) := by decide +kernel
theorem dX10_changes_165 : decode cX10_changes 165 = .ok (.if_icmp .eq 7, 3) := by decide +kernel
theorem dX10_changes_168 : decode cX10_changes 168 = .ok (.iconst 1, 1) := by decide +kernel
theorem dX10_changes_169 : decode cX10_changes 169 = .ok (.goto 4, 3) := by decide +kernel
theorem dX10_changes_172 : decode cX10_changes 172 = .ok (.iconst 0, 1) := by decide +kernel
theorem dX10_changes_173 : decode cX10_changes 173 = .ok (.ireturn, 1) := by decide +kernel
theorem dX10_changes_174 : decode cX10_changes 174 = .ok (.aload_n 0, 1) := by decide +kernel
theorem dX10_changes_175 : decode cX10_changes 175 = .ok (.aload_n 0, 1) := by decide +kernel
theorem dX10_changes_176 : decode cX10_changes 176 = .ok (.getfield 286, 3) := by decide +kernel
theorem dX10_changes_179 : decode cX10_changes 179 = .ok (.iload_n 3, 1) := by decide +kernel
theorem dX10_changes_180 : decode cX10_changes 180 = .ok (.invokevirtual 311, 3) := by decide +kernel
theorem dX10_changes_183 : decode cX10_changes 183 = .ok (.ireturn, 1) := by decide +kernel
theorem dX10_changes_184 : decode cX10_changes 184 = .ok (.aload_n 0, 1) := by decide +kernel
theorem dX10_changes_185 : decode cX10_changes 185 = .ok (.aload_n 0, 1) := by decide +kernel
theorem dX10_changes_186 : decode cX10_changes 186 = .ok (.getfield 286, 3) := by decide +kernel
theorem dX10_changes_189 : decode cX10_changes 189 = .ok (.iload_n 3, 1) := by decide +kernel
theorem dX10_changes_190 : decode cX10_changes 190 = .ok (.invokevirtual 315, 3) := by decide +kernel
theorem dX10_changes_193 : decode cX10_changes 193 = .ok (.ireturn, 1) := by decide +kernel
theorem dX10_changes_194 : decode cX10_changes 194 = .ok (.iconst 0, 1) := by decide +kernel
theorem dX10_changes_195 : decode cX10_changes 195 = .ok (.ireturn, 1) := by decide +kernel
theorem dX10_nextSite_0 : decode cX10_nextSite 0 = .ok (.aload_n 0, 1) := by decide +kernel
theorem dX10_nextSite_1 : decode cX10_nextSite 1 = .ok (.iconst 0, 1) := by decide +kernel
theorem dX10_nextSite_2 : decode cX10_nextSite 2 = .ok (.putfield 292, 3) := by decide +kernel
theorem dX10_nextSite_5 : decode cX10_nextSite 5 = .ok (.aload_n 0, 1) := by decide +kernel
theorem dX10_nextSite_6 : decode cX10_nextSite 6 = .ok (.getfield 289, 3) := by decide +kernel
theorem dX10_nextSite_9 : decode cX10_nextSite 9 = .ok (.ifCond .eq 18, 3) := by decide +kernel
theorem dX10_nextSite_12 : decode cX10_nextSite 12 = .ok (.aload_n 0, 1) := by decide +kernel
theorem dX10_nextSite_13 : decode cX10_nextSite 13 = .ok (.aload_n 0, 1) := by decide +kernel
theorem dX10_nextSite_14 : decode cX10_nextSite 14 = .ok (.getfield 283, 3) := by decide +kernel
theorem dX10_nextSite_17 : decode cX10_nextSite 17 = .ok (.aload_n 0, 1) := by decide +kernel
theorem dX10_nextSite_18 : decode cX10_nextSite 18 = .ok (.getfield 286, 3) := by decide +kernel
theorem dX10_nextSite_21 : decode cX10_nextSite 21 = .ok (.invokevirtual 298, 3) := by decide +kernel
theorem dX10_nextSite_24 : decode cX10_nextSite 24 = .ok (.goto 9, 3) := by decide +kernel
theorem dX10_nextSite_27 : decode cX10_nextSite 27 = .ok (.aload_n 0, 1) := by decide +kernel
theorem dX10_nextSite_28 : decode cX10_nextSite 28 = .ok (.getfield 286, 3) := by decide +kernel
theorem dX10_nextSite_31 : decode cX10_nextSite 31 = .ok (.iconst 1, 1) := by decide +kernel
theorem dX10_nextSite_32 : decode cX10_nextSite 32 = .ok (.iadd, 1) := by decide +kernel
theorem dX10_nextSite_33 : decode cX10_nextSite 33 = .ok (.istore_n 1, 1) := by decide +kernel
theorem dX10_nextSite_34 : decode cX10_nextSite 34 = .ok (.aload_n 0, 1) := by decide +kernel
theorem dX10_nextSite_35 : decode cX10_nextSite 35 = .ok (.getfield 289, 3) := by decide +kernel
theorem dX10_nextSite_38 : decode cX10_nextSite 38 = .ok (.ifCond .eq 10, 3) := by decide +kernel
theorem dX10_nextSite_41 : decode cX10_nextSite 41 = .ok (.aload_n 0, 1) := by decide +kernel
theorem dX10_nextSite_42 : decode cX10_nextSite 42 = .ok (.getfield 286, 3) := by decide +kernel
theorem dX10_nextSite_45 : decode cX10_nextSite 45 = .ok (.goto 4, 3) := by decide +kernel
theorem dX10_nextSite_48 : decode cX10_nextSite 48 = .ok (.iload_n 1, 1) := by decide +kernel
theorem dX10_nextSite_49 : decode cX10_nextSite 49 = .ok (.istore_n 2, 1) := by decide +kernel
theorem dX10_nextSite_50 : decode cX10_nextSite 50 = .ok (.aload_n 0, 1) := by decide +kernel
theorem dX10_nextSite_51 : decode cX10_nextSite 51 = .ok (.iconst 0, 1) := by decide +kernel
theorem dX10_nextSite_52 : decode cX10_nextSite 52 = .ok (.putfield 289, 3) := by decide +kernel
theorem dX10_nextSite_55 : decode cX10_nextSite 55 = .ok (.iload_n 2, 1) := by decide +kernel
theorem dX10_nextSite_56 : decode cX10_nextSite 56 = .ok (.iconst 1, 1) := by decide +kernel
theorem dX10_nextSite_57 : decode cX10_nextSite 57 = .ok (.isub, 1) := by decide +kernel
theorem dX10_nextSite_58 : decode cX10_nextSite 58 = .ok (.istore_n 3, 1) := by decide +kernel
theorem dX10_nextSite_59 : decode cX10_nextSite 59 = .ok (.iload_n 3, 1) := by decide +kernel
theorem dX10_nextSite_60 : decode cX10_nextSite 60 = .ok (.ifCond .lt 47, 3) := by decide +kernel
theorem dX10_nextSite_63 : decode cX10_nextSite 63 = .ok (.aload_n 0, 1) := by decide +kernel
theorem dX10_nextSite_64 : decode cX10_nextSite 64 = .ok (.getfield 289, 3) := by decide +kernel
theorem dX10_nextSite_67 : decode cX10_nextSite 67 = .ok (.ifCond .ne 40, 3) := by decide +kernel
theorem dX10_nextSite_70 : decode cX10_nextSite 70 = .ok (.aload_n 0, 1) := by decide +kernel
theorem dX10_nextSite_71 : decode cX10_nextSite 71 = .ok (.iload_n 3, 1) := by decide +kernel
theorem dX10_nextSite_72 : decode cX10_nextSite 72 = .ok (.invokevirtual 318, 3) := by decide +kernel
theorem dX10_nextSite_75 : decode cX10_nextSite 75 = .ok (.ifCond .eq 26, 3) := by decide +kernel
theorem dX10_nextSite_78 : decode cX10_nextSite 78 = .ok (.aload_n 0, 1) := by decide +kernel
theorem dX10_nextSite_79 : decode cX10_nextSite 79 = .ok (.aload_n 0, 1) := by decide +kernel
theorem dX10_nextSite_80 : decode cX10_nextSite 80 = .ok (.getfield 283, 3) := by decide +kernel
theorem dX10_nextSite_83 : decode cX10_nextSite 83 = .ok (.iload_n 3, 1) := by decide +kernel
theorem dX10_nextSite_84 : decode cX10_nextSite 84 = .ok (.invokevirtual 298, 3) := by decide +kernel
theorem dX10_nextSite_87 : decode cX10_nextSite 87 = .ok (.iload_n 1, 1) := by decide +kernel
theorem dX10_nextSite_88 : decode cX10_nextSite 88 = .ok (.if_icmp .ne 13, 3) := by decide +kernel
theorem dX10_nextSite_91 : decode cX10_nextSite 91 = .ok (.aload_n 0, 1) := by decide +kernel
theorem dX10_nextSite_92 : decode cX10_nextSite 92 = .ok (.iload_n 3, 1) := by decide +kernel
theorem dX10_nextSite_93 : decode cX10_nextSite 93 = .ok (.putfield 286, 3) := by decide +kernel
theorem dX10_nextSite_96 : decode cX10_nextSite 96 = .ok (.aload_n 0, 1) := by decide +kernel
theorem dX10_nextSite_97 : decode cX10_nextSite 97 = .ok (.iconst 1, 1) := by decide +kernel
theorem dX10_nextSite_98 : decode cX10_nextSite 98 = .ok (.putfield 289, 3) := by decide +kernel
theorem dX10_nextSite_101 : decode cX10_nextSite 101 = .ok (.iinc 3 (-1), 3) := by decide +kernel
theorem dX10_nextSite_104 : decode cX10_nextSite 104 = .ok (.goto (-45), 3) := by decide +kernel
theorem dX10_nextSite_107 : decode cX10_nextSite 107 = .ok (.aload_n 0, 1) := by decide +kernel
theorem dX10_nextSite_108 : decode cX10_nextSite 108 = .ok (.aload_n 0, 1) := by decide +kernel
theorem dX10_nextSite_109 : decode cX10_nextSite 109 = .ok (.getfield 289, 3) := by decide +kernel
theorem dX10_nextSite_112 : decode cX10_nextSite 112 = .ok (.ifCond .eq 10, 3) := by decide +kernel
theorem dX10_nextSite_115 : decode cX10_nextSite 115 = .ok (.aload_n 0, 1) := by decide +kernel
theorem dX10_nextSite_116 : decode cX10_nextSite 116 = .ok (.getfield 286, 3) := by decide +kernel
theorem dX10_nextSite_119 : decode cX10_nextSite 119 = .ok (.goto 4, 3) := by decide +kernel
theorem dX10_nextSite_122 : decode cX10_nextSite 122 = .ok (.iload_n 1, 1) := by decide +kernel
theorem dX10_nextSite_123 : decode cX10_nextSite 123 = .ok (.putfield 286, 3) := by decide +kernel
theorem dX10_nextSite_126 : decode cX10_nextSite 126 = .ok (.return_, 1) := by decide +kernel
theorem dX10_isBelow_0 : decode cX10_isBelow 0 = .ok (.aload_n 0, 1) := by decide +kernel
theorem dX10_isBelow_1 : decode cX10_isBelow 1 = .ok (.getfield 35, 3) := by decide +kernel
theorem dX10_isBelow_4 : decode cX10_isBelow 4 = .ok (.sipush 1000, 3) := by decide +kernel
theorem dX10_isBelow_7 : decode cX10_isBelow 7 = .ok (.aload_n 0, 1) := by decide +kernel
theorem dX10_isBelow_8 : decode cX10_isBelow 8 = .ok (.getfield 283, 3) := by decide +kernel
theorem dX10_isBelow_11 : decode cX10_isBelow 11 = .ok (.imul, 1) := by decide +kernel
theorem dX10_isBelow_12 : decode cX10_isBelow 12 = .ok (.iload_n 1, 1) := by decide +kernel
theorem dX10_isBelow_13 : decode cX10_isBelow 13 = .ok (.iadd, 1) := by decide +kernel
theorem dX10_isBelow_14 : decode cX10_isBelow 14 = .ok (.iaload, 1) := by decide +kernel
theorem dX10_isBelow_15 : decode cX10_isBelow 15 = .ok (.istore_n 2, 1) := by decide +kernel
theorem dX10_isBelow_16 : decode cX10_isBelow 16 = .ok (.iload_n 2, 1) := by decide +kernel
theorem dX10_isBelow_17 : decode cX10_isBelow 17 = .ok (.ifCond .lt 18, 3) := by decide +kernel
theorem dX10_isBelow_20 : decode cX10_isBelow 20 = .ok (.aload_n 0, 1) := by decide +kernel
theorem dX10_isBelow_21 : decode cX10_isBelow 21 = .ok (.getfield 7, 3) := by decide +kernel
theorem dX10_isBelow_24 : decode cX10_isBelow 24 = .ok (.iload_n 2, 1) := by decide +kernel
theorem dX10_isBelow_25 : decode cX10_isBelow 25 = .ok (.iaload, 1) := by decide +kernel
theorem dX10_isBelow_26 : decode cX10_isBelow 26 = .ok (.bipush 7, 2) := by decide +kernel
theorem dX10_isBelow_28 : decode cX10_isBelow 28 = .ok (.if_icmp .ne 7, 3) := by decide +kernel
theorem dX10_isBelow_31 : decode cX10_isBelow 31 = .ok (.iconst 1, 1) := by decide +kernel
theorem dX10_isBelow_32 : decode cX10_isBelow 32 = .ok (.goto 4, 3) := by decide +kernel
theorem dX10_isBelow_35 : decode cX10_isBelow 35 = .ok (.iconst 0, 1) := by decide +kernel
theorem dX10_isBelow_36 : decode cX10_isBelow 36 = .ok (.ireturn, 1) := by decide +kernel
theorem dX10_putRight_0 : decode cX10_putRight 0 = .ok (.aload_n 0, 1) := by decide +kernel
theorem dX10_putRight_1 : decode cX10_putRight 1 = .ok (.getfield 286, 3) := by decide +kernel
theorem dX10_putRight_4 : decode cX10_putRight 4 = .ok (.iconst 1, 1) := by decide +kernel
theorem dX10_putRight_5 : decode cX10_putRight 5 = .ok (.isub, 1) := by decide +kernel
theorem dX10_putRight_6 : decode cX10_putRight 6 = .ok (.istore_n 1, 1) := by decide +kernel
theorem dX10_putRight_7 : decode cX10_putRight 7 = .ok (.iload_n 1, 1) := by decide +kernel
theorem dX10_putRight_8 : decode cX10_putRight 8 = .ok (.ifCond .lt 200, 3) := by decide +kernel
theorem dX10_putRight_11 : decode cX10_putRight 11 = .ok (.aload_n 0, 1) := by decide +kernel
theorem dX10_putRight_12 : decode cX10_putRight 12 = .ok (.getfield 35, 3) := by decide +kernel
theorem dX10_putRight_15 : decode cX10_putRight 15 = .ok (.sipush 1000, 3) := by decide +kernel
theorem dX10_putRight_18 : decode cX10_putRight 18 = .ok (.aload_n 0, 1) := by decide +kernel
theorem dX10_putRight_19 : decode cX10_putRight 19 = .ok (.getfield 283, 3) := by decide +kernel
theorem dX10_putRight_22 : decode cX10_putRight 22 = .ok (.imul, 1) := by decide +kernel
theorem dX10_putRight_23 : decode cX10_putRight 23 = .ok (.iload_n 1, 1) := by decide +kernel
theorem dX10_putRight_24 : decode cX10_putRight 24 = .ok (.iadd, 1) := by decide +kernel
theorem dX10_putRight_25 : decode cX10_putRight 25 = .ok (.iaload, 1) := by decide +kernel
theorem dX10_putRight_26 : decode cX10_putRight 26 = .ok (.istore_n 2, 1) := by decide +kernel
theorem dX10_putRight_27 : decode cX10_putRight 27 = .ok (.iload_n 2, 1) := by decide +kernel
theorem dX10_putRight_28 : decode cX10_putRight 28 = .ok (.ifCond .lt 44, 3) := by decide +kernel
theorem dX10_putRight_31 : decode cX10_putRight 31 = .ok (.aload_n 0, 1) := by decide +kernel
theorem dX10_putRight_32 : decode cX10_putRight 32 = .ok (.getfield 7, 3) := by decide +kernel
theorem dX10_putRight_35 : decode cX10_putRight 35 = .ok (.iload_n 2, 1) := by decide +kernel
theorem dX10_putRight_36 : decode cX10_putRight 36 = .ok (.iaload, 1) := by decide +kernel
theorem dX10_putRight_37 : decode cX10_putRight 37 = .ok (.bipush 7, 2) := by decide +kernel
theorem dX10_putRight_39 : decode cX10_putRight 39 = .ok (.if_icmp .eq 13, 3) := by decide +kernel
theorem dX10_putRight_42 : decode cX10_putRight 42 = .ok (.aload_n 0, 1) := by decide +kernel
theorem dX10_putRight_43 : decode cX10_putRight 43 = .ok (.getfield 7, 3) := by decide +kernel
theorem dX10_putRight_46 : decode cX10_putRight 46 = .ok (.iload_n 2, 1) := by decide +kernel
theorem dX10_putRight_47 : decode cX10_putRight 47 = .ok (.iaload, 1) := by decide +kernel
theorem dX10_putRight_48 : decode cX10_putRight 48 = .ok (.iconst 5, 1) := by decide +kernel
theorem dX10_putRight_49 : decode cX10_putRight 49 = .ok (.if_icmp .ne 23, 3) := by decide +kernel
theorem dX10_putRight_52 : decode cX10_putRight 52 = .ok (.aload_n 0, 1) := by decide +kernel
theorem dX10_putRight_53 : decode cX10_putRight 53 = .ok (.aload_n 0, 1) := by decide +kernel
theorem dX10_putRight_54 : decode cX10_putRight 54 = .ok (.getfield 283, 3) := by decide +kernel
theorem dX10_putRight_57 : decode cX10_putRight 57 = .ok (.iload_n 1, 1) := by decide +kernel
theorem dX10_putRight_58 : decode cX10_putRight 58 = .ok (.invokevirtual 298, 3) := by decide +kernel
theorem dX10_putRight_61 : decode cX10_putRight 61 = .ok (.aload_n 0, 1) := by decide +kernel
theorem dX10_putRight_62 : decode cX10_putRight 62 = .ok (.getfield 286, 3) := by decide +kernel
theorem dX10_putRight_65 : decode cX10_putRight 65 = .ok (.if_icmp .le 7, 3) := by decide +kernel
theorem dX10_putRight_68 : decode cX10_putRight 68 = .ok (.iconst 1, 1) := by decide +kernel
theorem dX10_putRight_69 : decode cX10_putRight 69 = .ok (.goto 4, 3) := by decide +kernel
theorem dX10_putRight_72 : decode cX10_putRight 72 = .ok (.iconst 0, 1) := by decide +kernel
theorem dX10_putRight_73 : decode cX10_putRight 73 = .ok (.istore_n 3, 1) := by decide +kernel
theorem dX10_putRight_74 : decode cX10_putRight 74 = .ok (.iload_n 3, 1) := by decide +kernel
theorem dX10_putRight_75 : decode cX10_putRight 75 = .ok (.ifCond .eq 127, 3) := by decide +kernel
theorem dX10_putRight_78 : decode cX10_putRight 78 = .ok (.sipush 3000, 3) := by decide +kernel
theorem dX10_putRight_81 : decode cX10_putRight 81 = .ok (.iload_n 1, 1) := by decide +kernel
theorem dX10_putRight_82 : decode cX10_putRight 82 = .ok (.iadd, 1) := by decide +kernel
theorem dX10_putRight_83 : decode cX10_putRight 83 = .ok (.istore 4, 2) := by decide +kernel
theorem dX10_putRight_85 : decode cX10_putRight 85 = .ok (.aload_n 0, 1) := by decide +kernel
theorem dX10_putRight_86 : decode cX10_putRight 86 = .ok (.getfield 7, 3) := by decide +kernel
theorem dX10_putRight_89 : decode cX10_putRight 89 = .ok (.iload_n 2, 1) := by decide +kernel
theorem dX10_putRight_90 : decode cX10_putRight 90 = .ok (.iaload, 1) := by decide +kernel
theorem dX10_putRight_91 : decode cX10_putRight 91 = .ok (.iconst 5, 1) := by decide +kernel
theorem dX10_putRight_92 : decode cX10_putRight 92 = .ok (.if_icmp .ne 13, 3) := by decide +kernel
theorem dX10_putRight_95 : decode cX10_putRight 95 = .ok (.aload_n 0, 1) := by decide +kernel
theorem dX10_putRight_96 : decode cX10_putRight 96 = .ok (.getfield 110, 3) := by decide +kernel
theorem dX10_putRight_99 : decode cX10_putRight 99 = .ok (.ifCond .ne 6, 3) := by decide +kernel
theorem dX10_putRight_102 : decode cX10_putRight 102 = .ok (.bipush (-6), 2) := by decide +kernel
theorem dX10_putRight_104 : decode cX10_putRight 104 = .ok (.ireturn, 1) := by decide +kernel
theorem dX10_putRight_105 : decode cX10_putRight 105 = .ok (.aload_n 0, 1) := by decide +kernel
theorem dX10_putRight_106 : decode cX10_putRight 106 = .ok (.iconst 3, 1) := by decide +kernel
theorem dX10_putRight_107 : decode cX10_putRight 107 = .ok (.iload_n 1, 1) := by decide +kernel
theorem dX10_putRight_108 : decode cX10_putRight 108 = .ok (.iconst 1, 1) := by decide +kernel
theorem dX10_putRight_109 : decode cX10_putRight 109 = .ok (.iadd, 1) := by decide +kernel
theorem dX10_putRight_110 : decode cX10_putRight 110 = .ok (.aload_n 0, 1) := by decide +kernel
theorem dX10_putRight_111 : decode cX10_putRight 111 = .ok (.iconst 3, 1) := by decide +kernel
theorem dX10_putRight_112 : decode cX10_putRight 112 = .ok (.iload_n 1, 1) := by decide +kernel
theorem dX10_putRight_113 : decode cX10_putRight 113 = .ok (.invokevirtual 298, 3) := by decide +kernel
theorem dX10_putRight_116 : decode cX10_putRight 116 = .ok (.invokevirtual 252, 3) := by decide +kernel
theorem dX10_putRight_119 : decode cX10_putRight 119 = .ok (.aload_n 0, 1) := by decide +kernel
theorem dX10_putRight_120 : decode cX10_putRight 120 = .ok (.getfield 7, 3) := by decide +kernel
theorem dX10_putRight_123 : decode cX10_putRight 123 = .ok (.iload_n 2, 1) := by decide +kernel
theorem dX10_putRight_124 : decode cX10_putRight 124 = .ok (.iaload, 1) := by decide +kernel
theorem dX10_putRight_125 : decode cX10_putRight 125 = .ok (.bipush 7, 2) := by decide +kernel
theorem dX10_putRight_127 : decode cX10_putRight 127 = .ok (.if_icmp .ne 49, 3) := by decide +kernel
theorem dX10_putRight_130 : decode cX10_putRight 130 = .ok (.aload_n 0, 1) := by decide +kernel
theorem dX10_putRight_131 : decode cX10_putRight 131 = .ok (.getfield 38, 3) := by decide +kernel
theorem dX10_putRight_134 : decode cX10_putRight 134 = .ok (.iload 4, 2) := by decide +kernel
theorem dX10_putRight_136 : decode cX10_putRight 136 = .ok (.aload_n 0, 1) := by decide +kernel
theorem dX10_putRight_137 : decode cX10_putRight 137 = .ok (.getfield 38, 3) := by decide +kernel
theorem dX10_putRight_140 : decode cX10_putRight 140 = .ok (.iload 4, 2) := by decide +kernel
theorem dX10_putRight_142 : decode cX10_putRight 142 = .ok (.iaload, 1) := by decide +kernel
theorem dX10_putRight_143 : decode cX10_putRight 143 = .ok (.aload_n 0, 1) := by decide +kernel
theorem dX10_putRight_144 : decode cX10_putRight 144 = .ok (.invokevirtual 174, 3) := by decide +kernel
theorem dX10_putRight_147 : decode cX10_putRight 147 = .ok (.ifCond .ge 7, 3) := by decide +kernel
theorem dX10_putRight_150 : decode cX10_putRight 150 = .ok (.iconst 0, 1) := by decide +kernel
theorem dX10_putRight_151 : decode cX10_putRight 151 = .ok (.goto 7, 3) := by decide +kernel
theorem dX10_putRight_154 : decode cX10_putRight 154 = .ok (.aload_n 0, 1) := by decide +kernel
theorem dX10_putRight_155 : decode cX10_putRight 155 = .ok (.invokevirtual 174, 3) := by decide +kernel
theorem dX10_putRight_158 : decode cX10_putRight 158 = .ok (.if_icmp .le 7, 3) := by decide +kernel
theorem dX10_putRight_161 : decode cX10_putRight 161 = .ok (.iconst 0, 1) := by decide +kernel
theorem dX10_putRight_162 : decode cX10_putRight 162 = .ok (.goto 10, 3) := by decide +kernel
theorem dX10_putRight_165 : decode cX10_putRight 165 = .ok (.aload_n 0, 1) := by decide +kernel
theorem dX10_putRight_166 : decode cX10_putRight 166 = .ok (.getfield 38, 3) := by decide +kernel
theorem dX10_putRight_169 : decode cX10_putRight 169 = .ok (.iload 4, 2) := by decide +kernel
theorem dX10_putRight_171 : decode cX10_putRight 171 = .ok (.iaload, 1) := by decide +kernel
theorem dX10_putRight_172 : decode cX10_putRight 172 = .ok (.iastore, 1) := by decide +kernel
theorem dX10_putRight_173 : decode cX10_putRight 173 = .ok (.goto 29, 3) := by decide +kernel
theorem dX10_putRight_176 : decode cX10_putRight 176 = .ok (.aload_n 0, 1) := by decide +kernel
theorem dX10_putRight_177 : decode cX10_putRight 177 = .ok (.dup, 1) := by decide +kernel
theorem dX10_putRight_178 : decode cX10_putRight 178 = .ok (.getfield 110, 3) := by decide +kernel
theorem dX10_putRight_181 : decode cX10_putRight 181 = .ok (.iconst 1, 1) := by decide +kernel
theorem dX10_putRight_182 : decode cX10_putRight 182 = .ok (.isub, 1) := by decide +kernel
theorem dX10_putRight_183 : decode cX10_putRight 183 = .ok (.putfield 110, 3) := by decide +kernel
theorem dX10_putRight_186 : decode cX10_putRight 186 = .ok (.aload_n 0, 1) := by decide +kernel
theorem dX10_putRight_187 : decode cX10_putRight 187 = .ok (.aload_n 0, 1) := by decide +kernel
theorem dX10_putRight_188 : decode cX10_putRight 188 = .ok (.getfield 16, 3) := by decide +kernel
theorem dX10_putRight_191 : decode cX10_putRight 191 = .ok (.iload_n 2, 1) := by decide +kernel
theorem dX10_putRight_192 : decode cX10_putRight 192 = .ok (.iaload, 1) := by decide +kernel
theorem dX10_putRight_193 : decode cX10_putRight 193 = .ok (.invokevirtual 258, 3) := by decide +kernel
theorem dX10_putRight_196 : decode cX10_putRight 196 = .ok (.iconst 1, 1) := by decide +kernel
theorem dX10_putRight_197 : decode cX10_putRight 197 = .ok (.if_icmp .eq 5, 3) := by decide +kernel
theorem dX10_putRight_200 : decode cX10_putRight 200 = .ok (.iconst 0, 1) := by decide +kernel
theorem dX10_putRight_201 : decode cX10_putRight 201 = .ok (.ireturn, 1) := by decide +kernel
theorem dX10_putRight_202 : decode cX10_putRight 202 = .ok (.iinc 1 (-1), 3) := by decide +kernel
theorem dX10_putRight_205 : decode cX10_putRight 205 = .ok (.goto (-198), 3) := by decide +kernel
theorem dX10_putRight_208 : decode cX10_putRight 208 = .ok (.iconst 1, 1) := by decide +kernel
theorem dX10_putRight_209 : decode cX10_putRight 209 = .ok (.ireturn, 1) := by decide +kernel
theorem dX10_nextChange_0 : decode cX10_nextChange 0 = .ok (.aload_n 0, 1) := by decide +kernel
theorem dX10_nextChange_1 : decode cX10_nextChange 1 = .ok (.getfield 286, 3) := by decide +kernel
theorem dX10_nextChange_4 : decode cX10_nextChange 4 = .ok (.aload_n 0, 1) := by decide +kernel
theorem dX10_nextChange_5 : decode cX10_nextChange 5 = .ok (.getfield 32, 3) := by decide +kernel
theorem dX10_nextChange_8 : decode cX10_nextChange 8 = .ok (.aload_n 0, 1) := by decide +kernel
theorem dX10_nextChange_9 : decode cX10_nextChange 9 = .ok (.getfield 283, 3) := by decide +kernel
theorem dX10_nextChange_12 : decode cX10_nextChange 12 = .ok (.iaload, 1) := by decide +kernel
theorem dX10_nextChange_13 : decode cX10_nextChange 13 = .ok (.if_icmp .ge 41, 3) := by decide +kernel
theorem dX10_nextChange_16 : decode cX10_nextChange 16 = .ok (.aload_n 0, 1) := by decide +kernel
theorem dX10_nextChange_17 : decode cX10_nextChange 17 = .ok (.invokevirtual 321, 3) := by decide +kernel
theorem dX10_nextChange_20 : decode cX10_nextChange 20 = .ok (.ifCond .eq 27, 3) := by decide +kernel
theorem dX10_nextChange_23 : decode cX10_nextChange 23 = .ok (.aload_n 0, 1) := by decide +kernel
theorem dX10_nextChange_24 : decode cX10_nextChange 24 = .ok (.invokevirtual 325, 3) := by decide +kernel
theorem dX10_nextChange_27 : decode cX10_nextChange 27 = .ok (.istore_n 1, 1) := by decide +kernel
theorem dX10_nextChange_28 : decode cX10_nextChange 28 = .ok (.aload_n 0, 1) := by decide +kernel
theorem dX10_nextChange_29 : decode cX10_nextChange 29 = .ok (.dup, 1) := by decide +kernel
theorem dX10_nextChange_30 : decode cX10_nextChange 30 = .ok (.getfield 292, 3) := by decide +kernel
theorem dX10_nextChange_33 : decode cX10_nextChange 33 = .ok (.iconst 1, 1) := by decide +kernel
theorem dX10_nextChange_34 : decode cX10_nextChange 34 = .ok (.iadd, 1) := by decide +kernel
theorem dX10_nextChange_35 : decode cX10_nextChange 35 = .ok (.putfield 292, 3) := by decide +kernel
theorem dX10_nextChange_38 : decode cX10_nextChange 38 = .ok (.iload_n 1, 1) := by decide +kernel
theorem dX10_nextChange_39 : decode cX10_nextChange 39 = .ok (.ifCond .eq 5, 3) := by decide +kernel
theorem dX10_nextChange_42 : decode cX10_nextChange 42 = .ok (.iload_n 1, 1) := by decide +kernel
theorem dX10_nextChange_43 : decode cX10_nextChange 43 = .ok (.ireturn, 1) := by decide +kernel
theorem dX10_nextChange_44 : decode cX10_nextChange 44 = .ok (.goto (-44), 3) := by decide +kernel
theorem dX10_nextChange_47 : decode cX10_nextChange 47 = .ok (.aload_n 0, 1) := by decide +kernel
theorem dX10_nextChange_48 : decode cX10_nextChange 48 = .ok (.invokevirtual 328, 3) := by decide +kernel
theorem dX10_nextChange_51 : decode cX10_nextChange 51 = .ok (.goto (-51), 3) := by decide +kernel
theorem dX10_nextChange_54 : decode cX10_nextChange 54 = .ok (.iconst 0, 1) := by decide +kernel
theorem dX10_nextChange_55 : decode cX10_nextChange 55 = .ok (.ireturn, 1) := by decide +kernel
theorem dX10_smaller_0 : decode cX10_smaller 0 = .ok (.iload_n 1, 1) := by decide +kernel
theorem dX10_smaller_1 : decode cX10_smaller 1 = .ok (.iconst 0, 1) := by decide +kernel
theorem dX10_smaller_2 : decode cX10_smaller 2 = .ok (.bipush 20, 2) := by decide +kernel
theorem dX10_smaller_4 : decode cX10_smaller 4 = .ok (.invokestatic 126, 3) := by decide +kernel
theorem dX10_smaller_7 : decode cX10_smaller 7 = .ok (.ifCond .ne 6, 3) := by decide +kernel
theorem dX10_smaller_10 : decode cX10_smaller 10 = .ok (.bipush (-2), 2) := by decide +kernel
theorem dX10_smaller_12 : decode cX10_smaller 12 = .ok (.ireturn, 1) := by decide +kernel
theorem dX10_smaller_13 : decode cX10_smaller 13 = .ok (.aload_n 0, 1) := by decide +kernel
theorem dX10_smaller_14 : decode cX10_smaller 14 = .ok (.getfield 32, 3) := by decide +kernel
theorem dX10_smaller_17 : decode cX10_smaller 17 = .ok (.iconst 0, 1) := by decide +kernel
theorem dX10_smaller_18 : decode cX10_smaller 18 = .ok (.iaload, 1) := by decide +kernel
theorem dX10_smaller_19 : decode cX10_smaller 19 = .ok (.ifCond .ge 6, 3) := by decide +kernel
theorem dX10_smaller_22 : decode cX10_smaller 22 = .ok (.bipush (-9), 2) := by decide +kernel
theorem dX10_smaller_24 : decode cX10_smaller 24 = .ok (.ireturn, 1) := by decide +kernel
theorem dX10_smaller_25 : decode cX10_smaller 25 = .ok (.aload_n 0, 1) := by decide +kernel
theorem dX10_smaller_26 : decode cX10_smaller 26 = .ok (.iconst 0, 1) := by decide +kernel
theorem dX10_smaller_27 : decode cX10_smaller 27 = .ok (.invokevirtual 331, 3) := by decide +kernel
theorem dX10_smaller_30 : decode cX10_smaller 30 = .ok (.iconst 0, 1) := by decide +kernel
theorem dX10_smaller_31 : decode cX10_smaller 31 = .ok (.istore_n 2, 1) := by decide +kernel
theorem dX10_smaller_32 : decode cX10_smaller 32 = .ok (.iload_n 2, 1) := by decide +kernel
theorem dX10_smaller_33 : decode cX10_smaller 33 = .ok (.iload_n 1, 1) := by decide +kernel
theorem dX10_smaller_34 : decode cX10_smaller 34 = .ok (.if_icmp .gt 31, 3) := by decide +kernel
theorem dX10_smaller_37 : decode cX10_smaller 37 = .ok (.aload_n 0, 1) := by decide +kernel
theorem dX10_smaller_38 : decode cX10_smaller 38 = .ok (.invokevirtual 334, 3) := by decide +kernel
theorem dX10_smaller_41 : decode cX10_smaller 41 = .ok (.istore_n 3, 1) := by decide +kernel
theorem dX10_smaller_42 : decode cX10_smaller 42 = .ok (.iload_n 3, 1) := by decide +kernel
theorem dX10_smaller_43 : decode cX10_smaller 43 = .ok (.iconst 1, 1) := by decide +kernel
theorem dX10_smaller_44 : decode cX10_smaller 44 = .ok (.if_icmp .eq 15, 3) := by decide +kernel
theorem dX10_smaller_47 : decode cX10_smaller 47 = .ok (.iload_n 3, 1) := by decide +kernel
theorem dX10_smaller_48 : decode cX10_smaller 48 = .ok (.ifCond .ne 8, 3) := by decide +kernel
theorem dX10_smaller_51 : decode cX10_smaller 51 = .ok (.bipush (-9), 2) := by decide +kernel
theorem dX10_smaller_53 : decode cX10_smaller 53 = .ok (.goto 5, 3) := by decide +kernel
theorem dX10_smaller_56 : decode cX10_smaller 56 = .ok (.bipush (-6), 2) := by decide +kernel
theorem dX10_smaller_58 : decode cX10_smaller 58 = .ok (.ireturn, 1) := by decide +kernel
theorem dX10_smaller_59 : decode cX10_smaller 59 = .ok (.iinc 2 1, 3) := by decide +kernel
theorem dX10_smaller_62 : decode cX10_smaller 62 = .ok (.goto (-30), 3) := by decide +kernel
theorem dX10_smaller_65 : decode cX10_smaller 65 = .ok (.aload_n 0, 1) := by decide +kernel
theorem dX10_smaller_66 : decode cX10_smaller 66 = .ok (.iconst 3, 1) := by decide +kernel
theorem dX10_smaller_67 : decode cX10_smaller 67 = .ok (.invokevirtual 280, 3) := by decide +kernel
theorem dX10_smaller_70 : decode cX10_smaller 70 = .ok (.ireturn, 1) := by decide +kernel
theorem dX10_reckonShown_0 : decode cX10_reckonShown 0 = .ok (.aload_n 0, 1) := by decide +kernel
theorem dX10_reckonShown_1 : decode cX10_reckonShown 1 = .ok (.iconst 0, 1) := by decide +kernel
theorem dX10_reckonShown_2 : decode cX10_reckonShown 2 = .ok (.iconst 0, 1) := by decide +kernel
theorem dX10_reckonShown_3 : decode cX10_reckonShown 3 = .ok (.aload_n 0, 1) := by decide +kernel
theorem dX10_reckonShown_4 : decode cX10_reckonShown 4 = .ok (.getfield 32, 3) := by decide +kernel
theorem dX10_reckonShown_7 : decode cX10_reckonShown 7 = .ok (.iconst 0, 1) := by decide +kernel
theorem dX10_reckonShown_8 : decode cX10_reckonShown 8 = .ok (.iaload, 1) := by decide +kernel
theorem dX10_reckonShown_9 : decode cX10_reckonShown 9 = .ok (.invokevirtual 252, 3) := by decide +kernel
theorem dX10_reckonShown_12 : decode cX10_reckonShown 12 = .ok (.return_, 1) := by decide +kernel
theorem dX10_sign_0 : decode cX10_sign 0 = .ok (.aload_n 0, 1) := by decide +kernel
theorem dX10_sign_1 : decode cX10_sign 1 = .ok (.getfield 32, 3) := by decide +kernel
theorem dX10_sign_4 : decode cX10_sign 4 = .ok (.iconst 0, 1) := by decide +kernel
theorem dX10_sign_5 : decode cX10_sign 5 = .ok (.iaload, 1) := by decide +kernel
theorem dX10_sign_6 : decode cX10_sign 6 = .ok (.ifCond .ge 7, 3) := by decide +kernel
theorem dX10_sign_9 : decode cX10_sign 9 = .ok (.invokestatic 337, 3) := by decide +kernel
theorem dX10_sign_12 : decode cX10_sign 12 = .ok (.lreturn, 1) := by decide +kernel
theorem dX10_sign_13 : decode cX10_sign 13 = .ok (.aload_n 0, 1) := by decide +kernel
theorem dX10_sign_14 : decode cX10_sign 14 = .ok (.invokevirtual 341, 3) := by decide +kernel
theorem dX10_sign_17 : decode cX10_sign 17 = .ok (.iload_n 1, 1) := by decide +kernel
theorem dX10_sign_18 : decode cX10_sign 18 = .ok (.iconst 0, 1) := by decide +kernel
theorem dX10_sign_19 : decode cX10_sign 19 = .ok (.iconst 2, 1) := by decide +kernel
theorem dX10_sign_20 : decode cX10_sign 20 = .ok (.aload_n 0, 1) := by decide +kernel
theorem dX10_sign_21 : decode cX10_sign 21 = .ok (.getfield 150, 3) := by decide +kernel
theorem dX10_sign_24 : decode cX10_sign 24 = .ok (.imul, 1) := by decide +kernel
theorem dX10_sign_25 : decode cX10_sign 25 = .ok (.iconst 1, 1) := by decide +kernel
theorem dX10_sign_26 : decode cX10_sign 26 = .ok (.isub, 1) := by decide +kernel
theorem dX10_sign_27 : decode cX10_sign 27 = .ok (.invokestatic 126, 3) := by decide +kernel
theorem dX10_sign_30 : decode cX10_sign 30 = .ok (.ifCond .ne 7, 3) := by decide +kernel
theorem dX10_sign_33 : decode cX10_sign 33 = .ok (.invokestatic 337, 3) := by decide +kernel
theorem dX10_sign_36 : decode cX10_sign 36 = .ok (.lreturn, 1) := by decide +kernel
theorem dX10_sign_37 : decode cX10_sign 37 = .ok (.iload_n 1, 1) := by decide +kernel
theorem dX10_sign_38 : decode cX10_sign 38 = .ok (.iconst 2, 1) := by decide +kernel
theorem dX10_sign_39 : decode cX10_sign 39 = .ok (.irem, 1) := by decide +kernel
theorem dX10_sign_40 : decode cX10_sign 40 = .ok (.ifCond .ne 15, 3) := by decide +kernel
theorem dX10_sign_43 : decode cX10_sign 43 = .ok (.aload_n 0, 1) := by decide +kernel
theorem dX10_sign_44 : decode cX10_sign 44 = .ok (.getfield 41, 3) := by decide +kernel
theorem dX10_sign_47 : decode cX10_sign 47 = .ok (.iload_n 1, 1) := by decide +kernel
theorem dX10_sign_48 : decode cX10_sign 48 = .ok (.iconst 2, 1) := by decide +kernel
theorem dX10_sign_49 : decode cX10_sign 49 = .ok (.idiv, 1) := by decide +kernel
theorem dX10_sign_50 : decode cX10_sign 50 = .ok (.iaload, 1) := by decide +kernel
theorem dX10_sign_51 : decode cX10_sign 51 = .ok (.i2l, 1) := by decide +kernel
theorem dX10_sign_52 : decode cX10_sign 52 = .ok (.goto 12, 3) := by decide +kernel
theorem dX10_sign_55 : decode cX10_sign 55 = .ok (.aload_n 0, 1) := by decide +kernel
theorem dX10_sign_56 : decode cX10_sign 56 = .ok (.getfield 44, 3) := by decide +kernel
theorem dX10_sign_59 : decode cX10_sign 59 = .ok (.iload_n 1, 1) := by decide +kernel
theorem dX10_sign_60 : decode cX10_sign 60 = .ok (.iconst 2, 1) := by decide +kernel
theorem dX10_sign_61 : decode cX10_sign 61 = .ok (.idiv, 1) := by decide +kernel
theorem dX10_sign_62 : decode cX10_sign 62 = .ok (.iaload, 1) := by decide +kernel
theorem dX10_sign_63 : decode cX10_sign 63 = .ok (.i2l, 1) := by decide +kernel
theorem dX10_sign_64 : decode cX10_sign 64 = .ok (.lreturn, 1) := by decide +kernel
theorem dX10_holds_0 : decode cX10_holds 0 = .ok (.aload_n 0, 1) := by decide +kernel
theorem dX10_holds_1 : decode cX10_holds 1 = .ok (.iload_n 1, 1) := by decide +kernel
theorem dX10_holds_2 : decode cX10_holds 2 = .ok (.invokevirtual 140, 3) := by decide +kernel
theorem dX10_holds_5 : decode cX10_holds 5 = .ok (.ifCond .eq 5, 3) := by decide +kernel
theorem dX10_holds_8 : decode cX10_holds 8 = .ok (.iconst (-1), 1) := by decide +kernel
theorem dX10_holds_9 : decode cX10_holds 9 = .ok (.ireturn, 1) := by decide +kernel
theorem dX10_holds_10 : decode cX10_holds 10 = .ok (.aload_n 0, 1) := by decide +kernel
theorem dX10_holds_11 : decode cX10_holds 11 = .ok (.getfield 32, 3) := by decide +kernel
theorem dX10_holds_14 : decode cX10_holds 14 = .ok (.iconst 0, 1) := by decide +kernel
theorem dX10_holds_15 : decode cX10_holds 15 = .ok (.iaload, 1) := by decide +kernel
theorem dX10_holds_16 : decode cX10_holds 16 = .ok (.ifCond .ge 6, 3) := by decide +kernel
theorem dX10_holds_19 : decode cX10_holds 19 = .ok (.bipush (-3), 2) := by decide +kernel
theorem dX10_holds_21 : decode cX10_holds 21 = .ok (.ireturn, 1) := by decide +kernel
theorem dX10_holds_22 : decode cX10_holds 22 = .ok (.aload_n 0, 1) := by decide +kernel
theorem dX10_holds_23 : decode cX10_holds 23 = .ok (.invokevirtual 341, 3) := by decide +kernel
theorem dX10_holds_26 : decode cX10_holds 26 = .ok (.aload_n 0, 1) := by decide +kernel
theorem dX10_holds_27 : decode cX10_holds 27 = .ok (.iload_n 1, 1) := by decide +kernel
theorem dX10_holds_28 : decode cX10_holds 28 = .ok (.invokevirtual 258, 3) := by decide +kernel
theorem dX10_holds_31 : decode cX10_holds 31 = .ok (.ireturn, 1) := by decide +kernel
theorem dX10_script_0 : decode cX10_script 0 = .ok (.aload_n 0, 1) := by decide +kernel
theorem dX10_script_1 : decode cX10_script 1 = .ok (.getfield 32, 3) := by decide +kernel
theorem dX10_script_4 : decode cX10_script 4 = .ok (.iconst 0, 1) := by decide +kernel
theorem dX10_script_5 : decode cX10_script 5 = .ok (.iaload, 1) := by decide +kernel
theorem dX10_script_6 : decode cX10_script 6 = .ok (.ifCond .lt 31, 3) := by decide +kernel
theorem dX10_script_9 : decode cX10_script 9 = .ok (.iload_n 1, 1) := by decide +kernel
theorem dX10_script_10 : decode cX10_script 10 = .ok (.iconst 0, 1) := by decide +kernel
theorem dX10_script_11 : decode cX10_script 11 = .ok (.iconst 2, 1) := by decide +kernel
theorem dX10_script_12 : decode cX10_script 12 = .ok (.invokestatic 126, 3) := by decide +kernel
theorem dX10_script_15 : decode cX10_script 15 = .ok (.ifCond .eq 22, 3) := by decide +kernel
theorem dX10_script_18 : decode cX10_script 18 = .ok (.iload_n 2, 1) := by decide +kernel
theorem dX10_script_19 : decode cX10_script 19 = .ok (.iconst 0, 1) := by decide +kernel
theorem dX10_script_20 : decode cX10_script 20 = .ok (.iconst 3, 1) := by decide +kernel
theorem dX10_script_21 : decode cX10_script 21 = .ok (.invokestatic 126, 3) := by decide +kernel
theorem dX10_script_24 : decode cX10_script 24 = .ok (.ifCond .eq 13, 3) := by decide +kernel
theorem dX10_script_27 : decode cX10_script 27 = .ok (.iload 4, 2) := by decide +kernel
theorem dX10_script_29 : decode cX10_script 29 = .ok (.iconst 0, 1) := by decide +kernel
theorem dX10_script_30 : decode cX10_script 30 = .ok (.iconst 3, 1) := by decide +kernel
theorem dX10_script_31 : decode cX10_script 31 = .ok (.invokestatic 126, 3) := by decide +kernel
theorem dX10_script_34 : decode cX10_script 34 = .ok (.ifCond .ne 7, 3) := by decide +kernel
theorem dX10_script_37 : decode cX10_script 37 = .ok (.invokestatic 337, 3) := by decide +kernel
theorem dX10_script_40 : decode cX10_script 40 = .ok (.lreturn, 1) := by decide +kernel
theorem dX10_script_41 : decode cX10_script 41 = .ok (.aload_n 0, 1) := by decide +kernel
theorem dX10_script_42 : decode cX10_script 42 = .ok (.invokevirtual 341, 3) := by decide +kernel
theorem dX10_script_45 : decode cX10_script 45 = .ok (.iload_n 3, 1) := by decide +kernel
theorem dX10_script_46 : decode cX10_script 46 = .ok (.iconst 0, 1) := by decide +kernel
theorem dX10_script_47 : decode cX10_script 47 = .ok (.aload_n 0, 1) := by decide +kernel
theorem dX10_script_48 : decode cX10_script 48 = .ok (.getfield 147, 3) := by decide +kernel
theorem dX10_script_51 : decode cX10_script 51 = .ok (.iconst 2, 1) := by decide +kernel
theorem dX10_script_52 : decode cX10_script 52 = .ok (.idiv, 1) := by decide +kernel
theorem dX10_script_53 : decode cX10_script 53 = .ok (.iconst 1, 1) := by decide +kernel
theorem dX10_script_54 : decode cX10_script 54 = .ok (.isub, 1) := by decide +kernel
theorem dX10_script_55 : decode cX10_script 55 = .ok (.invokestatic 126, 3) := by decide +kernel
theorem dX10_script_58 : decode cX10_script 58 = .ok (.ifCond .ne 7, 3) := by decide +kernel
theorem dX10_script_61 : decode cX10_script 61 = .ok (.invokestatic 337, 3) := by decide +kernel
theorem dX10_script_64 : decode cX10_script 64 = .ok (.lreturn, 1) := by decide +kernel
theorem dX10_script_65 : decode cX10_script 65 = .ok (.aload_n 0, 1) := by decide +kernel
theorem dX10_script_66 : decode cX10_script 66 = .ok (.iload_n 1, 1) := by decide +kernel
theorem dX10_script_67 : decode cX10_script 67 = .ok (.iload_n 2, 1) := by decide +kernel
theorem dX10_script_68 : decode cX10_script 68 = .ok (.iload_n 3, 1) := by decide +kernel
theorem dX10_script_69 : decode cX10_script 69 = .ok (.iconst 1, 1) := by decide +kernel
theorem dX10_script_70 : decode cX10_script 70 = .ok (.iadd, 1) := by decide +kernel
theorem dX10_script_71 : decode cX10_script 71 = .ok (.invokevirtual 211, 3) := by decide +kernel
theorem dX10_script_74 : decode cX10_script 74 = .ok (.pop, 1) := by decide +kernel
theorem dX10_script_75 : decode cX10_script 75 = .ok (.iload 4, 2) := by decide +kernel
theorem dX10_script_77 : decode cX10_script 77 = .ok (.iconst 2, 1) := by decide +kernel
theorem dX10_script_78 : decode cX10_script 78 = .ok (.if_icmp .ne 22, 3) := by decide +kernel
theorem dX10_script_81 : decode cX10_script 81 = .ok (.aload_n 0, 1) := by decide +kernel
theorem dX10_script_82 : decode cX10_script 82 = .ok (.getfield 185, 3) := by decide +kernel
theorem dX10_script_85 : decode cX10_script 85 = .ok (.ifCond .eq 9, 3) := by decide +kernel
theorem dX10_script_88 : decode cX10_script 88 = .ok (.invokestatic 337, 3) := by decide +kernel
theorem dX10_script_91 : decode cX10_script 91 = .ok (.goto 8, 3) := by decide +kernel
theorem dX10_script_94 : decode cX10_script 94 = .ok (.aload_n 0, 1) := by decide +kernel
theorem dX10_script_95 : decode cX10_script 95 = .ok (.getfield 208, 3) := by decide +kernel
theorem dX10_script_98 : decode cX10_script 98 = .ok (.i2l, 1) := by decide +kernel
theorem dX10_script_99 : decode cX10_script 99 = .ok (.lreturn, 1) := by decide +kernel
theorem dX10_script_100 : decode cX10_script 100 = .ok (.iload 4, 2) := by decide +kernel
theorem dX10_script_102 : decode cX10_script 102 = .ok (.ifCond .ne 11, 3) := by decide +kernel
theorem dX10_script_105 : decode cX10_script 105 = .ok (.aload_n 0, 1) := by decide +kernel
theorem dX10_script_106 : decode cX10_script 106 = .ok (.getfield 195, 3) := by decide +kernel
theorem dX10_script_109 : decode cX10_script 109 = .ok (.i2l, 1) := by decide +kernel
theorem dX10_script_110 : decode cX10_script 110 = .ok (.goto 22, 3) := by decide +kernel
theorem dX10_script_113 : decode cX10_script 113 = .ok (.iload 4, 2) := by decide +kernel
theorem dX10_script_115 : decode cX10_script 115 = .ok (.iconst 1, 1) := by decide +kernel
theorem dX10_script_116 : decode cX10_script 116 = .ok (.if_icmp .ne 11, 3) := by decide +kernel
theorem dX10_script_119 : decode cX10_script 119 = .ok (.aload_n 0, 1) := by decide +kernel
theorem dX10_script_120 : decode cX10_script 120 = .ok (.getfield 198, 3) := by decide +kernel
theorem dX10_script_123 : decode cX10_script 123 = .ok (.i2l, 1) := by decide +kernel
theorem dX10_script_124 : decode cX10_script 124 = .ok (.goto 8, 3) := by decide +kernel
theorem dX10_script_127 : decode cX10_script 127 = .ok (.aload_n 0, 1) := by decide +kernel
theorem dX10_script_128 : decode cX10_script 128 = .ok (.getfield 205, 3) := by decide +kernel
theorem dX10_script_131 : decode cX10_script 131 = .ok (.i2l, 1) := by decide +kernel
theorem dX10_script_132 : decode cX10_script 132 = .ok (.lreturn, 1) := by decide +kernel
theorem dX10_draw_0 : decode cX10_draw 0 = .ok (.iload 4, 2) := by decide +kernel
theorem dX10_draw_2 : decode cX10_draw 2 = .ok (.iconst 1, 1) := by decide +kernel
theorem dX10_draw_3 : decode cX10_draw 3 = .ok (.if_icmp .lt 14, 3) := by decide +kernel
theorem dX10_draw_6 : decode cX10_draw 6 = .ok (.iload_n 3, 1) := by decide +kernel
theorem dX10_draw_7 : decode cX10_draw 7 = .ok (.iconst 0, 1) := by decide +kernel
theorem dX10_draw_8 : decode cX10_draw 8 = .ok (.sipush 1000, 3) := by decide +kernel
theorem dX10_draw_11 : decode cX10_draw 11 = .ok (.invokestatic 126, 3) := by decide +kernel
theorem dX10_draw_14 : decode cX10_draw 14 = .ok (.ifCond .ne 6, 3) := by decide +kernel
theorem dX10_draw_17 : decode cX10_draw 17 = .ok (.bipush (-2), 2) := by decide +kernel
theorem dX10_draw_19 : decode cX10_draw 19 = .ok (.ireturn, 1) := by decide +kernel
theorem dX10_draw_20 : decode cX10_draw 20 = .ok (.aload_n 0, 1) := by decide +kernel
theorem dX10_draw_21 : decode cX10_draw 21 = .ok (.lload_n 1, 1) := by decide +kernel
theorem dX10_draw_22 : decode cX10_draw 22 = .ok (.putfield 232, 3) := by decide +kernel
theorem dX10_draw_25 : decode cX10_draw 25 = .ok (.iconst 0, 1) := by decide +kernel
theorem dX10_draw_26 : decode cX10_draw 26 = .ok (.istore 5, 2) := by decide +kernel
theorem dX10_draw_28 : decode cX10_draw 28 = .ok (.iload 5, 2) := by decide +kernel
theorem dX10_draw_30 : decode cX10_draw 30 = .ok (.iload_n 3, 1) := by decide +kernel
theorem dX10_draw_31 : decode cX10_draw 31 = .ok (.if_icmp .ge 25, 3) := by decide +kernel
theorem dX10_draw_34 : decode cX10_draw 34 = .ok (.aload_n 0, 1) := by decide +kernel
theorem dX10_draw_35 : decode cX10_draw 35 = .ok (.aload_n 0, 1) := by decide +kernel
theorem dX10_draw_36 : decode cX10_draw 36 = .ok (.getfield 232, 3) := by decide +kernel
theorem dX10_draw_39 : decode cX10_draw 39 = .ok (.ldc2_w 236, 3) := by decide +kernel
theorem dX10_draw_42 : decode cX10_draw 42 = .ok (.lmul, 1) := by decide +kernel
theorem dX10_draw_43 : decode cX10_draw 43 = .ok (.ldc2_w 238, 3) := by decide +kernel
theorem dX10_draw_46 : decode cX10_draw 46 = .ok (.ladd, 1) := by decide +kernel
theorem dX10_draw_47 : decode cX10_draw 47 = .ok (.putfield 232, 3) := by decide +kernel
theorem dX10_draw_50 : decode cX10_draw 50 = .ok (.iinc 5 1, 3) := by decide +kernel
theorem dX10_draw_53 : decode cX10_draw 53 = .ok (.goto (-25), 3) := by decide +kernel
theorem dX10_draw_56 : decode cX10_draw 56 = .ok (.aload_n 0, 1) := by decide +kernel
theorem dX10_draw_57 : decode cX10_draw 57 = .ok (.iload 4, 2) := by decide +kernel
theorem dX10_draw_59 : decode cX10_draw 59 = .ok (.invokevirtual 246, 3) := by decide +kernel
theorem dX10_draw_62 : decode cX10_draw 62 = .ok (.ireturn, 1) := by decide +kernel
theorem dX10_property_0 : decode cX10_property 0 = .ok (.aload_n 0, 1) := by decide +kernel
theorem dX10_property_1 : decode cX10_property 1 = .ok (.iload_n 1, 1) := by decide +kernel
theorem dX10_property_2 : decode cX10_property 2 = .ok (.invokevirtual 136, 3) := by decide +kernel
theorem dX10_property_5 : decode cX10_property 5 = .ok (.ifCond .ne 11, 3) := by decide +kernel
theorem dX10_property_8 : decode cX10_property 8 = .ok (.aload_n 0, 1) := by decide +kernel
theorem dX10_property_9 : decode cX10_property 9 = .ok (.iload_n 2, 1) := by decide +kernel
theorem dX10_property_10 : decode cX10_property 10 = .ok (.invokevirtual 140, 3) := by decide +kernel
theorem dX10_property_13 : decode cX10_property 13 = .ok (.ifCond .eq 5, 3) := by decide +kernel
theorem dX10_property_16 : decode cX10_property 16 = .ok (.iconst (-1), 1) := by decide +kernel
theorem dX10_property_17 : decode cX10_property 17 = .ok (.ireturn, 1) := by decide +kernel
theorem dX10_property_18 : decode cX10_property 18 = .ok (.aload_n 0, 1) := by decide +kernel
theorem dX10_property_19 : decode cX10_property 19 = .ok (.getfield 344, 3) := by decide +kernel
theorem dX10_property_22 : decode cX10_property 22 = .ok (.bipush 20, 2) := by decide +kernel
theorem dX10_property_24 : decode cX10_property 24 = .ok (.if_icmp .ne 6, 3) := by decide +kernel
theorem dX10_property_27 : decode cX10_property 27 = .ok (.bipush (-4), 2) := by decide +kernel
theorem dX10_property_29 : decode cX10_property 29 = .ok (.ireturn, 1) := by decide +kernel
theorem dX10_property_30 : decode cX10_property 30 = .ok (.aload_n 0, 1) := by decide +kernel
theorem dX10_property_31 : decode cX10_property 31 = .ok (.getfield 95, 3) := by decide +kernel
theorem dX10_property_34 : decode cX10_property 34 = .ok (.aload_n 0, 1) := by decide +kernel
theorem dX10_property_35 : decode cX10_property 35 = .ok (.getfield 344, 3) := by decide +kernel
theorem dX10_property_38 : decode cX10_property 38 = .ok (.iload_n 1, 1) := by decide +kernel
theorem dX10_property_39 : decode cX10_property 39 = .ok (.iastore, 1) := by decide +kernel
theorem dX10_property_40 : decode cX10_property 40 = .ok (.aload_n 0, 1) := by decide +kernel
theorem dX10_property_41 : decode cX10_property 41 = .ok (.getfield 98, 3) := by decide +kernel
theorem dX10_property_44 : decode cX10_property 44 = .ok (.aload_n 0, 1) := by decide +kernel
theorem dX10_property_45 : decode cX10_property 45 = .ok (.getfield 344, 3) := by decide +kernel
theorem dX10_property_48 : decode cX10_property 48 = .ok (.iload_n 2, 1) := by decide +kernel
theorem dX10_property_49 : decode cX10_property 49 = .ok (.iastore, 1) := by decide +kernel
theorem dX10_property_50 : decode cX10_property 50 = .ok (.aload_n 0, 1) := by decide +kernel
theorem dX10_property_51 : decode cX10_property 51 = .ok (.getfield 101, 3) := by decide +kernel
theorem dX10_property_54 : decode cX10_property 54 = .ok (.aload_n 0, 1) := by decide +kernel
theorem dX10_property_55 : decode cX10_property 55 = .ok (.getfield 344, 3) := by decide +kernel
theorem dX10_property_58 : decode cX10_property 58 = .ok (.iconst 0, 1) := by decide +kernel
theorem dX10_property_59 : decode cX10_property 59 = .ok (.iastore, 1) := by decide +kernel
theorem dX10_property_60 : decode cX10_property 60 = .ok (.aload_n 0, 1) := by decide +kernel
theorem dX10_property_61 : decode cX10_property 61 = .ok (.dup, 1) := by decide +kernel
theorem dX10_property_62 : decode cX10_property 62 = .ok (.getfield 344, 3) := by decide +kernel
theorem dX10_property_65 : decode cX10_property 65 = .ok (.iconst 1, 1) := by decide +kernel
theorem dX10_property_66 : decode cX10_property 66 = .ok (.iadd, 1) := by decide +kernel
theorem dX10_property_67 : decode cX10_property 67 = .ok (.putfield 344, 3) := by decide +kernel
theorem dX10_property_70 : decode cX10_property 70 = .ok (.aload_n 0, 1) := by decide +kernel
theorem dX10_property_71 : decode cX10_property 71 = .ok (.getfield 344, 3) := by decide +kernel
theorem dX10_property_74 : decode cX10_property 74 = .ok (.iconst 1, 1) := by decide +kernel
theorem dX10_property_75 : decode cX10_property 75 = .ok (.isub, 1) := by decide +kernel
theorem dX10_property_76 : decode cX10_property 76 = .ok (.ireturn, 1) := by decide +kernel
theorem dX10_label_0 : decode cX10_label 0 = .ok (.iload_n 1, 1) := by decide +kernel
theorem dX10_label_1 : decode cX10_label 1 = .ok (.iconst 0, 1) := by decide +kernel
theorem dX10_label_2 : decode cX10_label 2 = .ok (.aload_n 0, 1) := by decide +kernel
theorem dX10_label_3 : decode cX10_label 3 = .ok (.getfield 344, 3) := by decide +kernel
theorem dX10_label_6 : decode cX10_label 6 = .ok (.iconst 1, 1) := by decide +kernel
theorem dX10_label_7 : decode cX10_label 7 = .ok (.isub, 1) := by decide +kernel
theorem dX10_label_8 : decode cX10_label 8 = .ok (.invokestatic 126, 3) := by decide +kernel
theorem dX10_label_11 : decode cX10_label 11 = .ok (.ifCond .eq 11, 3) := by decide +kernel
theorem dX10_label_14 : decode cX10_label 14 = .ok (.aload_n 0, 1) := by decide +kernel
theorem dX10_label_15 : decode cX10_label 15 = .ok (.iload_n 2, 1) := by decide +kernel
theorem dX10_label_16 : decode cX10_label 16 = .ok (.invokevirtual 140, 3) := by decide +kernel
theorem dX10_label_19 : decode cX10_label 19 = .ok (.ifCond .eq 5, 3) := by decide +kernel
theorem dX10_label_22 : decode cX10_label 22 = .ok (.iconst (-1), 1) := by decide +kernel
theorem dX10_label_23 : decode cX10_label 23 = .ok (.ireturn, 1) := by decide +kernel
theorem dX10_label_24 : decode cX10_label 24 = .ok (.aload_n 0, 1) := by decide +kernel
theorem dX10_label_25 : decode cX10_label 25 = .ok (.getfield 101, 3) := by decide +kernel
theorem dX10_label_28 : decode cX10_label 28 = .ok (.iload_n 1, 1) := by decide +kernel
theorem dX10_label_29 : decode cX10_label 29 = .ok (.iaload, 1) := by decide +kernel
theorem dX10_label_30 : decode cX10_label 30 = .ok (.iconst 3, 1) := by decide +kernel
theorem dX10_label_31 : decode cX10_label 31 = .ok (.if_icmp .ne 6, 3) := by decide +kernel
theorem dX10_label_34 : decode cX10_label 34 = .ok (.bipush (-4), 2) := by decide +kernel
theorem dX10_label_36 : decode cX10_label 36 = .ok (.ireturn, 1) := by decide +kernel
theorem dX10_label_37 : decode cX10_label 37 = .ok (.aload_n 0, 1) := by decide +kernel
theorem dX10_label_38 : decode cX10_label 38 = .ok (.getfield 104, 3) := by decide +kernel
theorem dX10_label_41 : decode cX10_label 41 = .ok (.iconst 3, 1) := by decide +kernel
theorem dX10_label_42 : decode cX10_label 42 = .ok (.iload_n 1, 1) := by decide +kernel
theorem dX10_label_43 : decode cX10_label 43 = .ok (.imul, 1) := by decide +kernel
theorem dX10_label_44 : decode cX10_label 44 = .ok (.aload_n 0, 1) := by decide +kernel
theorem dX10_label_45 : decode cX10_label 45 = .ok (.getfield 101, 3) := by decide +kernel
theorem dX10_label_48 : decode cX10_label 48 = .ok (.iload_n 1, 1) := by decide +kernel
theorem dX10_label_49 : decode cX10_label 49 = .ok (.iaload, 1) := by decide +kernel
theorem dX10_label_50 : decode cX10_label 50 = .ok (.iadd, 1) := by decide +kernel
theorem dX10_label_51 : decode cX10_label 51 = .ok (.iload_n 2, 1) := by decide +kernel
theorem dX10_label_52 : decode cX10_label 52 = .ok (.iastore, 1) := by decide +kernel
theorem dX10_label_53 : decode cX10_label 53 = .ok (.aload_n 0, 1) := by decide +kernel
theorem dX10_label_54 : decode cX10_label 54 = .ok (.getfield 101, 3) := by decide +kernel
theorem dX10_label_57 : decode cX10_label 57 = .ok (.iload_n 1, 1) := by decide +kernel
theorem dX10_label_58 : decode cX10_label 58 = .ok (.dup2, 1) := by decide +kernel
theorem dX10_label_59 : decode cX10_label 59 = .ok (.iaload, 1) := by decide +kernel
theorem dX10_label_60 : decode cX10_label 60 = .ok (.iconst 1, 1) := by decide +kernel
theorem dX10_label_61 : decode cX10_label 61 = .ok (.iadd, 1) := by decide +kernel
theorem dX10_label_62 : decode cX10_label 62 = .ok (.iastore, 1) := by decide +kernel
theorem dX10_label_63 : decode cX10_label 63 = .ok (.aload_n 0, 1) := by decide +kernel
theorem dX10_label_64 : decode cX10_label 64 = .ok (.getfield 101, 3) := by decide +kernel
theorem dX10_label_67 : decode cX10_label 67 = .ok (.iload_n 1, 1) := by decide +kernel
theorem dX10_label_68 : decode cX10_label 68 = .ok (.iaload, 1) := by decide +kernel
theorem dX10_label_69 : decode cX10_label 69 = .ok (.ireturn, 1) := by decide +kernel
theorem dX10_shrink_0 : decode cX10_shrink 0 = .ok (.aload_n 0, 1) := by decide +kernel
theorem dX10_shrink_1 : decode cX10_shrink 1 = .ok (.iconst 2, 1) := by decide +kernel
theorem dX10_shrink_2 : decode cX10_shrink 2 = .ok (.invokevirtual 331, 3) := by decide +kernel
theorem dX10_shrink_5 : decode cX10_shrink 5 = .ok (.aload_n 0, 1) := by decide +kernel
theorem dX10_shrink_6 : decode cX10_shrink 6 = .ok (.invokevirtual 334, 3) := by decide +kernel
theorem dX10_shrink_9 : decode cX10_shrink 9 = .ok (.istore_n 2, 1) := by decide +kernel
theorem dX10_shrink_10 : decode cX10_shrink 10 = .ok (.iload_n 2, 1) := by decide +kernel
theorem dX10_shrink_11 : decode cX10_shrink 11 = .ok (.iconst 1, 1) := by decide +kernel
theorem dX10_shrink_12 : decode cX10_shrink 12 = .ok (.if_icmp .ne 10, 3) := by decide +kernel
theorem dX10_shrink_15 : decode cX10_shrink 15 = .ok (.aload_n 0, 1) := by decide +kernel
theorem dX10_shrink_16 : decode cX10_shrink 16 = .ok (.getfield 110, 3) := by decide +kernel
theorem dX10_shrink_19 : decode cX10_shrink 19 = .ok (.ifCond .ne 4, 3) := by decide +kernel
theorem dX10_shrink_22 : decode cX10_shrink 22 = .ok (.return_, 1) := by decide +kernel
theorem dX10_shrink_23 : decode cX10_shrink 23 = .ok (.aload_n 0, 1) := by decide +kernel
theorem dX10_shrink_24 : decode cX10_shrink 24 = .ok (.dup, 1) := by decide +kernel
theorem dX10_shrink_25 : decode cX10_shrink 25 = .ok (.getfield 110, 3) := by decide +kernel
theorem dX10_shrink_28 : decode cX10_shrink 28 = .ok (.iconst 1, 1) := by decide +kernel
theorem dX10_shrink_29 : decode cX10_shrink 29 = .ok (.isub, 1) := by decide +kernel
theorem dX10_shrink_30 : decode cX10_shrink 30 = .ok (.putfield 110, 3) := by decide +kernel
theorem dX10_shrink_33 : decode cX10_shrink 33 = .ok (.aload_n 0, 1) := by decide +kernel
theorem dX10_shrink_34 : decode cX10_shrink 34 = .ok (.iconst 3, 1) := by decide +kernel
theorem dX10_shrink_35 : decode cX10_shrink 35 = .ok (.iconst 0, 1) := by decide +kernel
theorem dX10_shrink_36 : decode cX10_shrink 36 = .ok (.aload_n 0, 1) := by decide +kernel
theorem dX10_shrink_37 : decode cX10_shrink 37 = .ok (.getfield 32, 3) := by decide +kernel
theorem dX10_shrink_40 : decode cX10_shrink 40 = .ok (.iconst 3, 1) := by decide +kernel
theorem dX10_shrink_41 : decode cX10_shrink 41 = .ok (.iaload, 1) := by decide +kernel
theorem dX10_shrink_42 : decode cX10_shrink 42 = .ok (.invokevirtual 252, 3) := by decide +kernel
theorem dX10_shrink_45 : decode cX10_shrink 45 = .ok (.aload_n 0, 1) := by decide +kernel
theorem dX10_shrink_46 : decode cX10_shrink 46 = .ok (.iload_n 1, 1) := by decide +kernel
theorem dX10_shrink_47 : decode cX10_shrink 47 = .ok (.invokevirtual 258, 3) := by decide +kernel
theorem dX10_shrink_50 : decode cX10_shrink 50 = .ok (.istore_n 3, 1) := by decide +kernel
theorem dX10_shrink_51 : decode cX10_shrink 51 = .ok (.iload_n 3, 1) := by decide +kernel
theorem dX10_shrink_52 : decode cX10_shrink 52 = .ok (.iconst 1, 1) := by decide +kernel
theorem dX10_shrink_53 : decode cX10_shrink 53 = .ok (.if_icmp .eq 40, 3) := by decide +kernel
theorem dX10_shrink_56 : decode cX10_shrink 56 = .ok (.aload_n 0, 1) := by decide +kernel
theorem dX10_shrink_57 : decode cX10_shrink 57 = .ok (.iconst 3, 1) := by decide +kernel
theorem dX10_shrink_58 : decode cX10_shrink 58 = .ok (.iconst 2, 1) := by decide +kernel
theorem dX10_shrink_59 : decode cX10_shrink 59 = .ok (.invokevirtual 273, 3) := by decide +kernel
theorem dX10_shrink_62 : decode cX10_shrink 62 = .ok (.aload_n 0, 1) := by decide +kernel
theorem dX10_shrink_63 : decode cX10_shrink 63 = .ok (.dup, 1) := by decide +kernel
theorem dX10_shrink_64 : decode cX10_shrink 64 = .ok (.getfield 347, 3) := by decide +kernel
theorem dX10_shrink_67 : decode cX10_shrink 67 = .ok (.iconst 1, 1) := by decide +kernel
theorem dX10_shrink_68 : decode cX10_shrink 68 = .ok (.iadd, 1) := by decide +kernel
theorem dX10_shrink_69 : decode cX10_shrink 69 = .ok (.putfield 347, 3) := by decide +kernel
theorem dX10_shrink_72 : decode cX10_shrink 72 = .ok (.aload_n 0, 1) := by decide +kernel
theorem dX10_shrink_73 : decode cX10_shrink 73 = .ok (.iload_n 3, 1) := by decide +kernel
theorem dX10_shrink_74 : decode cX10_shrink 74 = .ok (.ifCond .ge 10, 3) := by decide +kernel
theorem dX10_shrink_77 : decode cX10_shrink 77 = .ok (.bipush (-10), 2) := by decide +kernel
theorem dX10_shrink_79 : decode cX10_shrink 79 = .ok (.iload_n 3, 1) := by decide +kernel
theorem dX10_shrink_80 : decode cX10_shrink 80 = .ok (.isub, 1) := by decide +kernel
theorem dX10_shrink_81 : decode cX10_shrink 81 = .ok (.goto 4, 3) := by decide +kernel
theorem dX10_shrink_84 : decode cX10_shrink 84 = .ok (.iconst 0, 1) := by decide +kernel
theorem dX10_shrink_85 : decode cX10_shrink 85 = .ok (.putfield 350, 3) := by decide +kernel
theorem dX10_shrink_88 : decode cX10_shrink 88 = .ok (.aload_n 0, 1) := by decide +kernel
theorem dX10_shrink_89 : decode cX10_shrink 89 = .ok (.iconst 2, 1) := by decide +kernel
theorem dX10_shrink_90 : decode cX10_shrink 90 = .ok (.invokevirtual 331, 3) := by decide +kernel
theorem dX10_shrink_93 : decode cX10_shrink 93 = .ok (.goto (-88), 3) := by decide +kernel
theorem dX10_run_0 : decode cX10_run 0 = .ok (.iload_n 1, 1) := by decide +kernel
theorem dX10_run_1 : decode cX10_run 1 = .ok (.iconst 0, 1) := by decide +kernel
theorem dX10_run_2 : decode cX10_run 2 = .ok (.aload_n 0, 1) := by decide +kernel
theorem dX10_run_3 : decode cX10_run 3 = .ok (.getfield 344, 3) := by decide +kernel
theorem dX10_run_6 : decode cX10_run 6 = .ok (.iconst 1, 1) := by decide +kernel
theorem dX10_run_7 : decode cX10_run 7 = .ok (.isub, 1) := by decide +kernel
theorem dX10_run_8 : decode cX10_run 8 = .ok (.invokestatic 126, 3) := by decide +kernel
theorem dX10_run_11 : decode cX10_run 11 = .ok (.ifCond .ne 5, 3) := by decide +kernel
theorem dX10_run_14 : decode cX10_run 14 = .ok (.iconst (-1), 1) := by decide +kernel
theorem dX10_run_15 : decode cX10_run 15 = .ok (.ireturn, 1) := by decide +kernel
theorem dX10_run_16 : decode cX10_run 16 = .ok (.iload 4, 2) := by decide +kernel
theorem dX10_run_18 : decode cX10_run 18 = .ok (.iconst 1, 1) := by decide +kernel
theorem dX10_run_19 : decode cX10_run 19 = .ok (.bipush 50, 2) := by decide +kernel
theorem dX10_run_21 : decode cX10_run 21 = .ok (.invokestatic 126, 3) := by decide +kernel
theorem dX10_run_24 : decode cX10_run 24 = .ok (.ifCond .eq 14, 3) := by decide +kernel
theorem dX10_run_27 : decode cX10_run 27 = .ok (.iload 5, 2) := by decide +kernel
theorem dX10_run_29 : decode cX10_run 29 = .ok (.iconst 0, 1) := by decide +kernel
theorem dX10_run_30 : decode cX10_run 30 = .ok (.bipush 24, 2) := by decide +kernel
theorem dX10_run_32 : decode cX10_run 32 = .ok (.invokestatic 126, 3) := by decide +kernel
theorem dX10_run_35 : decode cX10_run 35 = .ok (.ifCond .ne 6, 3) := by decide +kernel
theorem dX10_run_38 : decode cX10_run 38 = .ok (.bipush (-2), 2) := by decide +kernel
theorem dX10_run_40 : decode cX10_run 40 = .ok (.ireturn, 1) := by decide +kernel
theorem dX10_run_41 : decode cX10_run 41 = .ok (.aload_n 0, 1) := by decide +kernel
theorem dX10_run_42 : decode cX10_run 42 = .ok (.getfield 98, 3) := by decide +kernel
theorem dX10_run_45 : decode cX10_run 45 = .ok (.iload_n 1, 1) := by decide +kernel
theorem dX10_run_46 : decode cX10_run 46 = .ok (.iaload, 1) := by decide +kernel
theorem dX10_run_47 : decode cX10_run 47 = .ok (.istore 6, 2) := by decide +kernel
theorem dX10_run_49 : decode cX10_run 49 = .ok (.aload_n 0, 1) := by decide +kernel
theorem dX10_run_50 : decode cX10_run 50 = .ok (.iconst 0, 1) := by decide +kernel
theorem dX10_run_51 : decode cX10_run 51 = .ok (.putfield 353, 3) := by decide +kernel
theorem dX10_run_54 : decode cX10_run 54 = .ok (.aload_n 0, 1) := by decide +kernel
theorem dX10_run_55 : decode cX10_run 55 = .ok (.iconst 0, 1) := by decide +kernel
theorem dX10_run_56 : decode cX10_run 56 = .ok (.putfield 117, 3) := by decide +kernel
theorem dX10_run_59 : decode cX10_run 59 = .ok (.aload_n 0, 1) := by decide +kernel
theorem dX10_run_60 : decode cX10_run 60 = .ok (.bipush (-9), 2) := by decide +kernel
theorem dX10_run_62 : decode cX10_run 62 = .ok (.putfield 356, 3) := by decide +kernel
theorem dX10_run_65 : decode cX10_run 65 = .ok (.aload_n 0, 1) := by decide +kernel
theorem dX10_run_66 : decode cX10_run 66 = .ok (.iconst 0, 1) := by decide +kernel
theorem dX10_run_67 : decode cX10_run 67 = .ok (.putfield 347, 3) := by decide +kernel
theorem dX10_run_70 : decode cX10_run 70 = .ok (.aload_n 0, 1) := by decide +kernel
theorem dX10_run_71 : decode cX10_run 71 = .ok (.iconst 0, 1) := by decide +kernel
theorem dX10_run_72 : decode cX10_run 72 = .ok (.putfield 350, 3) := by decide +kernel
theorem dX10_run_75 : decode cX10_run 75 = .ok (.aload_n 0, 1) := by decide +kernel
theorem dX10_run_76 : decode cX10_run 76 = .ok (.iconst 0, 1) := by decide +kernel
theorem dX10_run_77 : decode cX10_run 77 = .ok (.putfield 114, 3) := by decide +kernel
theorem dX10_run_80 : decode cX10_run 80 = .ok (.iconst 0, 1) := by decide +kernel
theorem dX10_run_81 : decode cX10_run 81 = .ok (.istore 7, 2) := by decide +kernel
theorem dX10_run_83 : decode cX10_run 83 = .ok (.iload 7, 2) := by decide +kernel
theorem dX10_run_85 : decode cX10_run 85 = .ok (.iconst 3, 1) := by decide +kernel
theorem dX10_run_86 : decode cX10_run 86 = .ok (.if_icmp .ge 17, 3) := by decide +kernel
theorem dX10_run_89 : decode cX10_run 89 = .ok (.aload_n 0, 1) := by decide +kernel
theorem dX10_run_90 : decode cX10_run 90 = .ok (.getfield 107, 3) := by decide +kernel
theorem dX10_run_93 : decode cX10_run 93 = .ok (.iload 7, 2) := by decide +kernel
theorem dX10_run_95 : decode cX10_run 95 = .ok (.iconst 0, 1) := by decide +kernel
theorem dX10_run_96 : decode cX10_run 96 = .ok (.iastore, 1) := by decide +kernel
theorem dX10_run_97 : decode cX10_run 97 = .ok (.iinc 7 1, 3) := by decide +kernel
theorem dX10_run_100 : decode cX10_run 100 = .ok (.goto (-17), 3) := by decide +kernel
theorem dX10_run_103 : decode cX10_run 103 = .ok (.iconst 0, 1) := by decide +kernel
theorem dX10_run_104 : decode cX10_run 104 = .ok (.istore 7, 2) := by decide +kernel
theorem dX10_run_106 : decode cX10_run 106 = .ok (.iload 7, 2) := by decide +kernel
theorem dX10_run_108 : decode cX10_run 108 = .ok (.iload 4, 2) := by decide +kernel
theorem dX10_run_110 : decode cX10_run 110 = .ok (.if_icmp .ge 231, 3) := by decide +kernel
theorem dX10_run_113 : decode cX10_run 113 = .ok (.aload_n 0, 1) := by decide +kernel
theorem dX10_run_114 : decode cX10_run 114 = .ok (.getfield 114, 3) := by decide +kernel
theorem dX10_run_117 : decode cX10_run 117 = .ok (.ifCond .ne 224, 3) := by decide +kernel
theorem dX10_run_120 : decode cX10_run 120 = .ok (.aload_n 0, 1) := by decide +kernel
theorem dX10_run_121 : decode cX10_run 121 = .ok (.aload_n 0, 1) := by decide +kernel
theorem dX10_run_122 : decode cX10_run 122 = .ok (.getfield 95, 3) := by decide +kernel
theorem dX10_run_125 : decode cX10_run 125 = .ok (.iload_n 1, 1) := by decide +kernel
theorem dX10_run_126 : decode cX10_run 126 = .ok (.iaload, 1) := by decide +kernel
theorem dX10_run_127 : decode cX10_run 127 = .ok (.lload_n 2, 1) := by decide +kernel
theorem dX10_run_128 : decode cX10_run 128 = .ok (.iload 7, 2) := by decide +kernel
theorem dX10_run_130 : decode cX10_run 130 = .ok (.i2l, 1) := by decide +kernel
theorem dX10_run_131 : decode cX10_run 131 = .ok (.ldc2_w 359, 3) := by decide +kernel
theorem dX10_run_134 : decode cX10_run 134 = .ok (.lmul, 1) := by decide +kernel
theorem dX10_run_135 : decode cX10_run 135 = .ok (.ladd, 1) := by decide +kernel
theorem dX10_run_136 : decode cX10_run 136 = .ok (.iload 5, 2) := by decide +kernel
theorem dX10_run_138 : decode cX10_run 138 = .ok (.invokevirtual 276, 3) := by decide +kernel
theorem dX10_run_141 : decode cX10_run 141 = .ok (.istore 8, 2) := by decide +kernel
theorem dX10_run_143 : decode cX10_run 143 = .ok (.iload 8, 2) := by decide +kernel
theorem dX10_run_145 : decode cX10_run 145 = .ok (.ifCond .ge 24, 3) := by decide +kernel
theorem dX10_run_148 : decode cX10_run 148 = .ok (.aload_n 0, 1) := by decide +kernel
theorem dX10_run_149 : decode cX10_run 149 = .ok (.iload 8, 2) := by decide +kernel
theorem dX10_run_151 : decode cX10_run 151 = .ok (.bipush (-5), 2) := by decide +kernel
theorem dX10_run_153 : decode cX10_run 153 = .ok (.if_icmp .ne 7, 3) := by decide +kernel
theorem dX10_run_156 : decode cX10_run 156 = .ok (.iconst 2, 1) := by decide +kernel
theorem dX10_run_157 : decode cX10_run 157 = .ok (.goto 4, 3) := by decide +kernel
theorem dX10_run_160 : decode cX10_run 160 = .ok (.iconst 3, 1) := by decide +kernel
theorem dX10_run_161 : decode cX10_run 161 = .ok (.putfield 114, 3) := by decide +kernel
theorem dX10_run_164 : decode cX10_run 164 = .ok (.aload_n 0, 1) := by decide +kernel
theorem dX10_run_165 : decode cX10_run 165 = .ok (.getfield 114, 3) := by decide +kernel
theorem dX10_run_168 : decode cX10_run 168 = .ok (.ireturn, 1) := by decide +kernel
theorem dX10_run_169 : decode cX10_run 169 = .ok (.aload_n 0, 1) := by decide +kernel
theorem dX10_run_170 : decode cX10_run 170 = .ok (.dup, 1) := by decide +kernel
theorem dX10_run_171 : decode cX10_run 171 = .ok (.getfield 353, 3) := by decide +kernel
theorem dX10_run_174 : decode cX10_run 174 = .ok (.iconst 1, 1) := by decide +kernel
theorem dX10_run_175 : decode cX10_run 175 = .ok (.iadd, 1) := by decide +kernel
theorem dX10_run_176 : decode cX10_run 176 = .ok (.putfield 353, 3) := by decide +kernel
theorem dX10_run_179 : decode cX10_run 179 = .ok (.aload_n 0, 1) := by decide +kernel
theorem dX10_run_180 : decode cX10_run 180 = .ok (.iconst 4, 1) := by decide +kernel
theorem dX10_run_181 : decode cX10_run 181 = .ok (.iconst 0, 1) := by decide +kernel
theorem dX10_run_182 : decode cX10_run 182 = .ok (.aload_n 0, 1) := by decide +kernel
theorem dX10_run_183 : decode cX10_run 183 = .ok (.getfield 32, 3) := by decide +kernel
theorem dX10_run_186 : decode cX10_run 186 = .ok (.iconst 4, 1) := by decide +kernel
theorem dX10_run_187 : decode cX10_run 187 = .ok (.iaload, 1) := by decide +kernel
theorem dX10_run_188 : decode cX10_run 188 = .ok (.invokevirtual 252, 3) := by decide +kernel
theorem dX10_run_191 : decode cX10_run 191 = .ok (.iconst 0, 1) := by decide +kernel
theorem dX10_run_192 : decode cX10_run 192 = .ok (.istore 9, 2) := by decide +kernel
theorem dX10_run_194 : decode cX10_run 194 = .ok (.iload 9, 2) := by decide +kernel
theorem dX10_run_196 : decode cX10_run 196 = .ok (.aload_n 0, 1) := by decide +kernel
theorem dX10_run_197 : decode cX10_run 197 = .ok (.getfield 101, 3) := by decide +kernel
theorem dX10_run_200 : decode cX10_run 200 = .ok (.iload_n 1, 1) := by decide +kernel
theorem dX10_run_201 : decode cX10_run 201 = .ok (.iaload, 1) := by decide +kernel
theorem dX10_run_202 : decode cX10_run 202 = .ok (.if_icmp .ge 43, 3) := by decide +kernel
theorem dX10_run_205 : decode cX10_run 205 = .ok (.aload_n 0, 1) := by decide +kernel
theorem dX10_run_206 : decode cX10_run 206 = .ok (.getfield 107, 3) := by decide +kernel
theorem dX10_run_209 : decode cX10_run 209 = .ok (.iload 9, 2) := by decide +kernel
theorem dX10_run_211 : decode cX10_run 211 = .ok (.dup2, 1) := by decide +kernel
theorem dX10_run_212 : decode cX10_run 212 = .ok (.iaload, 1) := by decide +kernel
theorem dX10_run_213 : decode cX10_run 213 = .ok (.aload_n 0, 1) := by decide +kernel
theorem dX10_run_214 : decode cX10_run 214 = .ok (.aload_n 0, 1) := by decide +kernel
theorem dX10_run_215 : decode cX10_run 215 = .ok (.getfield 104, 3) := by decide +kernel
theorem dX10_run_218 : decode cX10_run 218 = .ok (.iconst 3, 1) := by decide +kernel
theorem dX10_run_219 : decode cX10_run 219 = .ok (.iload_n 1, 1) := by decide +kernel
theorem dX10_run_220 : decode cX10_run 220 = .ok (.imul, 1) := by decide +kernel
theorem dX10_run_221 : decode cX10_run 221 = .ok (.iload 9, 2) := by decide +kernel
theorem dX10_run_223 : decode cX10_run 223 = .ok (.iadd, 1) := by decide +kernel
theorem dX10_run_224 : decode cX10_run 224 = .ok (.iaload, 1) := by decide +kernel
theorem dX10_run_225 : decode cX10_run 225 = .ok (.invokevirtual 258, 3) := by decide +kernel
theorem dX10_run_228 : decode cX10_run 228 = .ok (.iconst 1, 1) := by decide +kernel
theorem dX10_run_229 : decode cX10_run 229 = .ok (.if_icmp .ne 7, 3) := by decide +kernel
theorem dX10_run_232 : decode cX10_run 232 = .ok (.iconst 1, 1) := by decide +kernel
theorem dX10_run_233 : decode cX10_run 233 = .ok (.goto 4, 3) := by decide +kernel
theorem dX10_run_236 : decode cX10_run 236 = .ok (.iconst 0, 1) := by decide +kernel
theorem dX10_run_237 : decode cX10_run 237 = .ok (.iadd, 1) := by decide +kernel
theorem dX10_run_238 : decode cX10_run 238 = .ok (.iastore, 1) := by decide +kernel
theorem dX10_run_239 : decode cX10_run 239 = .ok (.iinc 9 1, 3) := by decide +kernel
theorem dX10_run_242 : decode cX10_run 242 = .ok (.goto (-48), 3) := by decide +kernel
theorem dX10_run_245 : decode cX10_run 245 = .ok (.aload_n 0, 1) := by decide +kernel
theorem dX10_run_246 : decode cX10_run 246 = .ok (.getfield 110, 3) := by decide +kernel
theorem dX10_run_249 : decode cX10_run 249 = .ok (.ifCond .ne 10, 3) := by decide +kernel
theorem dX10_run_252 : decode cX10_run 252 = .ok (.aload_n 0, 1) := by decide +kernel
theorem dX10_run_253 : decode cX10_run 253 = .ok (.iconst 3, 1) := by decide +kernel
theorem dX10_run_254 : decode cX10_run 254 = .ok (.putfield 114, 3) := by decide +kernel
theorem dX10_run_257 : decode cX10_run 257 = .ok (.iconst 3, 1) := by decide +kernel
theorem dX10_run_258 : decode cX10_run 258 = .ok (.ireturn, 1) := by decide +kernel
theorem dX10_run_259 : decode cX10_run 259 = .ok (.aload_n 0, 1) := by decide +kernel
theorem dX10_run_260 : decode cX10_run 260 = .ok (.dup, 1) := by decide +kernel
theorem dX10_run_261 : decode cX10_run 261 = .ok (.getfield 110, 3) := by decide +kernel
theorem dX10_run_264 : decode cX10_run 264 = .ok (.iconst 1, 1) := by decide +kernel
theorem dX10_run_265 : decode cX10_run 265 = .ok (.isub, 1) := by decide +kernel
theorem dX10_run_266 : decode cX10_run 266 = .ok (.putfield 110, 3) := by decide +kernel
theorem dX10_run_269 : decode cX10_run 269 = .ok (.aload_n 0, 1) := by decide +kernel
theorem dX10_run_270 : decode cX10_run 270 = .ok (.iload 6, 2) := by decide +kernel
theorem dX10_run_272 : decode cX10_run 272 = .ok (.invokevirtual 258, 3) := by decide +kernel
theorem dX10_run_275 : decode cX10_run 275 = .ok (.istore 9, 2) := by decide +kernel
theorem dX10_run_277 : decode cX10_run 277 = .ok (.iload 9, 2) := by decide +kernel
theorem dX10_run_279 : decode cX10_run 279 = .ok (.iconst 1, 1) := by decide +kernel
theorem dX10_run_280 : decode cX10_run 280 = .ok (.if_icmp .eq 55, 3) := by decide +kernel
theorem dX10_run_283 : decode cX10_run 283 = .ok (.aload_n 0, 1) := by decide +kernel
theorem dX10_run_284 : decode cX10_run 284 = .ok (.iconst 1, 1) := by decide +kernel
theorem dX10_run_285 : decode cX10_run 285 = .ok (.putfield 114, 3) := by decide +kernel
theorem dX10_run_288 : decode cX10_run 288 = .ok (.aload_n 0, 1) := by decide +kernel
theorem dX10_run_289 : decode cX10_run 289 = .ok (.iconst 1, 1) := by decide +kernel
theorem dX10_run_290 : decode cX10_run 290 = .ok (.putfield 117, 3) := by decide +kernel
theorem dX10_run_293 : decode cX10_run 293 = .ok (.aload_n 0, 1) := by decide +kernel
theorem dX10_run_294 : decode cX10_run 294 = .ok (.iload 7, 2) := by decide +kernel
theorem dX10_run_296 : decode cX10_run 296 = .ok (.putfield 356, 3) := by decide +kernel
theorem dX10_run_299 : decode cX10_run 299 = .ok (.aload_n 0, 1) := by decide +kernel
theorem dX10_run_300 : decode cX10_run 300 = .ok (.iload 9, 2) := by decide +kernel
theorem dX10_run_302 : decode cX10_run 302 = .ok (.ifCond .ge 11, 3) := by decide +kernel
theorem dX10_run_305 : decode cX10_run 305 = .ok (.bipush (-10), 2) := by decide +kernel
theorem dX10_run_307 : decode cX10_run 307 = .ok (.iload 9, 2) := by decide +kernel
theorem dX10_run_309 : decode cX10_run 309 = .ok (.isub, 1) := by decide +kernel
theorem dX10_run_310 : decode cX10_run 310 = .ok (.goto 4, 3) := by decide +kernel
theorem dX10_run_313 : decode cX10_run 313 = .ok (.iconst 0, 1) := by decide +kernel
theorem dX10_run_314 : decode cX10_run 314 = .ok (.putfield 350, 3) := by decide +kernel
theorem dX10_run_317 : decode cX10_run 317 = .ok (.aload_n 0, 1) := by decide +kernel
theorem dX10_run_318 : decode cX10_run 318 = .ok (.iconst 4, 1) := by decide +kernel
theorem dX10_run_319 : decode cX10_run 319 = .ok (.iconst 1, 1) := by decide +kernel
theorem dX10_run_320 : decode cX10_run 320 = .ok (.invokevirtual 273, 3) := by decide +kernel
theorem dX10_run_323 : decode cX10_run 323 = .ok (.aload_n 0, 1) := by decide +kernel
theorem dX10_run_324 : decode cX10_run 324 = .ok (.iconst 4, 1) := by decide +kernel
theorem dX10_run_325 : decode cX10_run 325 = .ok (.iconst 2, 1) := by decide +kernel
theorem dX10_run_326 : decode cX10_run 326 = .ok (.invokevirtual 273, 3) := by decide +kernel
theorem dX10_run_329 : decode cX10_run 329 = .ok (.aload_n 0, 1) := by decide +kernel
theorem dX10_run_330 : decode cX10_run 330 = .ok (.iload 6, 2) := by decide +kernel
theorem dX10_run_332 : decode cX10_run 332 = .ok (.invokevirtual 361, 3) := by decide +kernel
theorem dX10_run_335 : decode cX10_run 335 = .ok (.iinc 7 1, 3) := by decide +kernel
theorem dX10_run_338 : decode cX10_run 338 = .ok (.goto (-232), 3) := by decide +kernel
theorem dX10_run_341 : decode cX10_run 341 = .ok (.aload_n 0, 1) := by decide +kernel
theorem dX10_run_342 : decode cX10_run 342 = .ok (.getfield 114, 3) := by decide +kernel
theorem dX10_run_345 : decode cX10_run 345 = .ok (.ireturn, 1) := by decide +kernel
theorem dX10_ran_0 : decode cX10_ran 0 = .ok (.iload_n 1, 1) := by decide +kernel
theorem dX10_ran_1 : decode cX10_ran 1 = .ok (.iconst 0, 1) := by decide +kernel
theorem dX10_ran_2 : decode cX10_ran 2 = .ok (.bipush 7, 2) := by decide +kernel
theorem dX10_ran_4 : decode cX10_ran 4 = .ok (.invokestatic 126, 3) := by decide +kernel
theorem dX10_ran_7 : decode cX10_ran 7 = .ok (.ifCond .ne 6, 3) := by decide +kernel
theorem dX10_ran_10 : decode cX10_ran 10 = .ok (.bipush (-2), 2) := by decide +kernel
theorem dX10_ran_12 : decode cX10_ran 12 = .ok (.ireturn, 1) := by decide +kernel
theorem dX10_ran_13 : decode cX10_ran 13 = .ok (.aload_n 0, 1) := by decide +kernel
theorem dX10_ran_14 : decode cX10_ran 14 = .ok (.getfield 114, 3) := by decide +kernel
theorem dX10_ran_17 : decode cX10_ran 17 = .ok (.ifCond .ge 6, 3) := by decide +kernel
theorem dX10_ran_20 : decode cX10_ran 20 = .ok (.bipush (-9), 2) := by decide +kernel
theorem dX10_ran_22 : decode cX10_ran 22 = .ok (.ireturn, 1) := by decide +kernel
theorem dX10_ran_23 : decode cX10_ran 23 = .ok (.iload_n 1, 1) := by decide +kernel
theorem dX10_ran_24 : decode cX10_ran 24 = .ok (.tableswitch 61 0 4 #[36, 41, 46, 51, 56], 36) := by decide +kernel
theorem dX10_ran_60 : decode cX10_ran 60 = .ok (.aload_n 0, 1) := by decide +kernel
theorem dX10_ran_61 : decode cX10_ran 61 = .ok (.getfield 114, 3) := by decide +kernel
theorem dX10_ran_64 : decode cX10_ran 64 = .ok (.ireturn, 1) := by decide +kernel
theorem dX10_ran_65 : decode cX10_ran 65 = .ok (.aload_n 0, 1) := by decide +kernel
theorem dX10_ran_66 : decode cX10_ran 66 = .ok (.getfield 353, 3) := by decide +kernel
theorem dX10_ran_69 : decode cX10_ran 69 = .ok (.ireturn, 1) := by decide +kernel
theorem dX10_ran_70 : decode cX10_ran 70 = .ok (.aload_n 0, 1) := by decide +kernel
theorem dX10_ran_71 : decode cX10_ran 71 = .ok (.getfield 356, 3) := by decide +kernel
theorem dX10_ran_74 : decode cX10_ran 74 = .ok (.ireturn, 1) := by decide +kernel
theorem dX10_ran_75 : decode cX10_ran 75 = .ok (.aload_n 0, 1) := by decide +kernel
theorem dX10_ran_76 : decode cX10_ran 76 = .ok (.getfield 347, 3) := by decide +kernel
theorem dX10_ran_79 : decode cX10_ran 79 = .ok (.ireturn, 1) := by decide +kernel
theorem dX10_ran_80 : decode cX10_ran 80 = .ok (.aload_n 0, 1) := by decide +kernel
theorem dX10_ran_81 : decode cX10_ran 81 = .ok (.getfield 350, 3) := by decide +kernel
theorem dX10_ran_84 : decode cX10_ran 84 = .ok (.ireturn, 1) := by decide +kernel
theorem dX10_ran_85 : decode cX10_ran 85 = .ok (.aload_n 0, 1) := by decide +kernel
theorem dX10_ran_86 : decode cX10_ran 86 = .ok (.getfield 107, 3) := by decide +kernel
theorem dX10_ran_89 : decode cX10_ran 89 = .ok (.iload_n 1, 1) := by decide +kernel
theorem dX10_ran_90 : decode cX10_ran 90 = .ok (.iconst 5, 1) := by decide +kernel
theorem dX10_ran_91 : decode cX10_ran 91 = .ok (.isub, 1) := by decide +kernel
theorem dX10_ran_92 : decode cX10_ran 92 = .ok (.iaload, 1) := by decide +kernel
theorem dX10_ran_93 : decode cX10_ran 93 = .ok (.ireturn, 1) := by decide +kernel
theorem dX10_show_0 : decode cX10_show 0 = .ok (.aload_n 0, 1) := by decide +kernel
theorem dX10_show_1 : decode cX10_show 1 = .ok (.getfield 117, 3) := by decide +kernel
theorem dX10_show_4 : decode cX10_show 4 = .ok (.ifCond .eq 19, 3) := by decide +kernel
theorem dX10_show_7 : decode cX10_show 7 = .ok (.aload_n 0, 1) := by decide +kernel
theorem dX10_show_8 : decode cX10_show 8 = .ok (.iload_n 1, 1) := by decide +kernel
theorem dX10_show_9 : decode cX10_show 9 = .ok (.ifCond .eq 7, 3) := by decide +kernel
theorem dX10_show_12 : decode cX10_show 12 = .ok (.iconst 1, 1) := by decide +kernel
theorem dX10_show_13 : decode cX10_show 13 = .ok (.goto 4, 3) := by decide +kernel
theorem dX10_show_16 : decode cX10_show 16 = .ok (.iconst 2, 1) := by decide +kernel
theorem dX10_show_17 : decode cX10_show 17 = .ok (.invokevirtual 280, 3) := by decide +kernel
theorem dX10_show_20 : decode cX10_show 20 = .ok (.goto 5, 3) := by decide +kernel
theorem dX10_show_23 : decode cX10_show 23 = .ok (.bipush (-3), 2) := by decide +kernel
theorem dX10_show_25 : decode cX10_show 25 = .ok (.ireturn, 1) := by decide +kernel
theorem dX10_effort_0 : decode cX10_effort 0 = .ok (.aload_n 0, 1) := by decide +kernel
theorem dX10_effort_1 : decode cX10_effort 1 = .ok (.getfield 110, 3) := by decide +kernel
theorem dX10_effort_4 : decode cX10_effort 4 = .ok (.ireturn, 1) := by decide +kernel
theorem dX10_told_0 : decode cX10_told 0 = .ok (.iload_n 1, 1) := by decide +kernel
theorem dX10_told_1 : decode cX10_told 1 = .ok (.tableswitch 67 0 3 #[31, 36, 41, 46], 31) := by decide +kernel
theorem dX10_told_32 : decode cX10_told 32 = .ok (.aload_n 0, 1) := by decide +kernel
theorem dX10_told_33 : decode cX10_told 33 = .ok (.getfield 123, 3) := by decide +kernel
theorem dX10_told_36 : decode cX10_told 36 = .ok (.ireturn, 1) := by decide +kernel
theorem dX10_told_37 : decode cX10_told 37 = .ok (.aload_n 0, 1) := by decide +kernel
theorem dX10_told_38 : decode cX10_told 38 = .ok (.getfield 178, 3) := by decide +kernel
theorem dX10_told_41 : decode cX10_told 41 = .ok (.ireturn, 1) := by decide +kernel
theorem dX10_told_42 : decode cX10_told 42 = .ok (.aload_n 0, 1) := by decide +kernel
theorem dX10_told_43 : decode cX10_told 43 = .ok (.getfield 344, 3) := by decide +kernel
theorem dX10_told_46 : decode cX10_told 46 = .ok (.ireturn, 1) := by decide +kernel
theorem dX10_told_47 : decode cX10_told 47 = .ok (.aload_n 0, 1) := by decide +kernel
theorem dX10_told_48 : decode cX10_told 48 = .ok (.getfield 32, 3) := by decide +kernel
theorem dX10_told_51 : decode cX10_told 51 = .ok (.iconst 0, 1) := by decide +kernel
theorem dX10_told_52 : decode cX10_told 52 = .ok (.iaload, 1) := by decide +kernel
theorem dX10_told_53 : decode cX10_told 53 = .ok (.ifCond .ge 6, 3) := by decide +kernel
theorem dX10_told_56 : decode cX10_told 56 = .ok (.bipush (-9), 2) := by decide +kernel
theorem dX10_told_58 : decode cX10_told 58 = .ok (.ireturn, 1) := by decide +kernel
theorem dX10_told_59 : decode cX10_told 59 = .ok (.aload_n 0, 1) := by decide +kernel
theorem dX10_told_60 : decode cX10_told 60 = .ok (.invokevirtual 341, 3) := by decide +kernel
theorem dX10_told_63 : decode cX10_told 63 = .ok (.aload_n 0, 1) := by decide +kernel
theorem dX10_told_64 : decode cX10_told 64 = .ok (.getfield 147, 3) := by decide +kernel
theorem dX10_told_67 : decode cX10_told 67 = .ok (.ireturn, 1) := by decide +kernel
theorem dX10_told_68 : decode cX10_told 68 = .ok (.bipush (-2), 2) := by decide +kernel
theorem dX10_told_70 : decode cX10_told 70 = .ok (.ireturn, 1) := by decide +kernel
