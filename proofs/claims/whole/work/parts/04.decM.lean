theorem dX10_init_0 : decode cX10_init 0 = .ok (.aload_n 0, 1) := by decide +kernel
theorem dX10_init_1 : decode cX10_init 1 = .ok (.invokespecial 1, 3) := by decide +kernel
theorem dX10_init_4 : decode cX10_init 4 = .ok (.aload_n 0, 1) := by decide +kernel
theorem dX10_init_5 : decode cX10_init 5 = .ok (.sipush 400, 3) := by decide +kernel
theorem dX10_init_8 : decode cX10_init 8 = .ok (.newarray .int, 2) := by decide +kernel
theorem dX10_init_10 : decode cX10_init 10 = .ok (.putfield 7, 3) := by decide +kernel
theorem dX10_init_13 : decode cX10_init 13 = .ok (.aload_n 0, 1) := by decide +kernel
theorem dX10_init_14 : decode cX10_init 14 = .ok (.iconst (-1), 1) := by decide +kernel
theorem dX10_init_15 : decode cX10_init 15 = .ok (.putfield 13, 3) := by decide +kernel
theorem dX10_init_18 : decode cX10_init 18 = .ok (.aload_n 0, 1) := by decide +kernel
theorem dX10_init_19 : decode cX10_init 19 = .ok (.iconst 3, 1) := by decide +kernel
theorem dX10_init_20 : decode cX10_init 20 = .ok (.newarray .char, 2) := by decide +kernel
theorem dX10_init_22 : decode cX10_init 22 = .ok (.dup, 1) := by decide +kernel
theorem dX10_init_23 : decode cX10_init 23 = .ok (.iconst 0, 1) := by decide +kernel
theorem dX10_init_24 : decode cX10_init 24 = .ok (.bipush 98, 2) := by decide +kernel
theorem dX10_init_26 : decode cX10_init 26 = .ok (.castore, 1) := by decide +kernel
theorem dX10_init_27 : decode cX10_init 27 = .ok (.dup, 1) := by decide +kernel
theorem dX10_init_28 : decode cX10_init 28 = .ok (.iconst 1, 1) := by decide +kernel
theorem dX10_init_29 : decode cX10_init 29 = .ok (.bipush 111, 2) := by decide +kernel
theorem dX10_init_31 : decode cX10_init 31 = .ok (.castore, 1) := by decide +kernel
theorem dX10_init_32 : decode cX10_init 32 = .ok (.dup, 1) := by decide +kernel
theorem dX10_init_33 : decode cX10_init 33 = .ok (.iconst 2, 1) := by decide +kernel
theorem dX10_init_34 : decode cX10_init 34 = .ok (.bipush 120, 2) := by decide +kernel
theorem dX10_init_36 : decode cX10_init 36 = .ok (.castore, 1) := by decide +kernel
theorem dX10_init_37 : decode cX10_init 37 = .ok (.putfield 17, 3) := by decide +kernel
theorem dX10_init_40 : decode cX10_init 40 = .ok (.aload_n 0, 1) := by decide +kernel
theorem dX10_init_41 : decode cX10_init 41 = .ok (.iconst 4, 1) := by decide +kernel
theorem dX10_init_42 : decode cX10_init 42 = .ok (.newarray .char, 2) := by decide +kernel
theorem dX10_init_44 : decode cX10_init 44 = .ok (.dup, 1) := by decide +kernel
theorem dX10_init_45 : decode cX10_init 45 = .ok (.iconst 0, 1) := by decide +kernel
theorem dX10_init_46 : decode cX10_init 46 = .ok (.bipush 104, 2) := by decide +kernel
theorem dX10_init_48 : decode cX10_init 48 = .ok (.castore, 1) := by decide +kernel
theorem dX10_init_49 : decode cX10_init 49 = .ok (.dup, 1) := by decide +kernel
theorem dX10_init_50 : decode cX10_init 50 = .ok (.iconst 1, 1) := by decide +kernel
theorem dX10_init_51 : decode cX10_init 51 = .ok (.bipush 111, 2) := by decide +kernel
theorem dX10_init_53 : decode cX10_init 53 = .ok (.castore, 1) := by decide +kernel
theorem dX10_init_54 : decode cX10_init 54 = .ok (.dup, 1) := by decide +kernel
theorem dX10_init_55 : decode cX10_init 55 = .ok (.iconst 2, 1) := by decide +kernel
theorem dX10_init_56 : decode cX10_init 56 = .ok (.bipush 108, 2) := by decide +kernel
theorem dX10_init_58 : decode cX10_init 58 = .ok (.castore, 1) := by decide +kernel
theorem dX10_init_59 : decode cX10_init 59 = .ok (.dup, 1) := by decide +kernel
theorem dX10_init_60 : decode cX10_init 60 = .ok (.iconst 3, 1) := by decide +kernel
theorem dX10_init_61 : decode cX10_init 61 = .ok (.bipush 101, 2) := by decide +kernel
theorem dX10_init_63 : decode cX10_init 63 = .ok (.castore, 1) := by decide +kernel
theorem dX10_init_64 : decode cX10_init 64 = .ok (.putfield 21, 3) := by decide +kernel
theorem dX10_init_67 : decode cX10_init 67 = .ok (.aload_n 0, 1) := by decide +kernel
theorem dX10_init_68 : decode cX10_init 68 = .ok (.bipush 6, 2) := by decide +kernel
theorem dX10_init_70 : decode cX10_init 70 = .ok (.newarray .char, 2) := by decide +kernel
theorem dX10_init_72 : decode cX10_init 72 = .ok (.dup, 1) := by decide +kernel
theorem dX10_init_73 : decode cX10_init 73 = .ok (.iconst 0, 1) := by decide +kernel
theorem dX10_init_74 : decode cX10_init 74 = .ok (.bipush 109, 2) := by decide +kernel
theorem dX10_init_76 : decode cX10_init 76 = .ok (.castore, 1) := by decide +kernel
theorem dX10_init_77 : decode cX10_init 77 = .ok (.dup, 1) := by decide +kernel
theorem dX10_init_78 : decode cX10_init 78 = .ok (.iconst 1, 1) := by decide +kernel
theorem dX10_init_79 : decode cX10_init 79 = .ok (.bipush 105, 2) := by decide +kernel
theorem dX10_init_81 : decode cX10_init 81 = .ok (.castore, 1) := by decide +kernel
theorem dX10_init_82 : decode cX10_init 82 = .ok (.dup, 1) := by decide +kernel
theorem dX10_init_83 : decode cX10_init 83 = .ok (.iconst 2, 1) := by decide +kernel
theorem dX10_init_84 : decode cX10_init 84 = .ok (.bipush 114, 2) := by decide +kernel
theorem dX10_init_86 : decode cX10_init 86 = .ok (.castore, 1) := by decide +kernel
theorem dX10_init_87 : decode cX10_init 87 = .ok (.dup, 1) := by decide +kernel
theorem dX10_init_88 : decode cX10_init 88 = .ok (.iconst 3, 1) := by decide +kernel
theorem dX10_init_89 : decode cX10_init 89 = .ok (.bipush 114, 2) := by decide +kernel
theorem dX10_init_91 : decode cX10_init 91 = .ok (.castore, 1) := by decide +kernel
theorem dX10_init_92 : decode cX10_init 92 = .ok (.dup, 1) := by decide +kernel
theorem dX10_init_93 : decode cX10_init 93 = .ok (.iconst 4, 1) := by decide +kernel
theorem dX10_init_94 : decode cX10_init 94 = .ok (.bipush 111, 2) := by decide +kernel
theorem dX10_init_96 : decode cX10_init 96 = .ok (.castore, 1) := by decide +kernel
theorem dX10_init_97 : decode cX10_init 97 = .ok (.dup, 1) := by decide +kernel
theorem dX10_init_98 : decode cX10_init 98 = .ok (.iconst 5, 1) := by decide +kernel
theorem dX10_init_99 : decode cX10_init 99 = .ok (.bipush 114, 2) := by decide +kernel
theorem dX10_init_101 : decode cX10_init 101 = .ok (.castore, 1) := by decide +kernel
theorem dX10_init_102 : decode cX10_init 102 = .ok (.putfield 24, 3) := by decide +kernel
theorem dX10_init_105 : decode cX10_init 105 = .ok (.aload_n 0, 1) := by decide +kernel
theorem dX10_init_106 : decode cX10_init 106 = .ok (.iconst 4, 1) := by decide +kernel
theorem dX10_init_107 : decode cX10_init 107 = .ok (.newarray .char, 2) := by decide +kernel
theorem dX10_init_109 : decode cX10_init 109 = .ok (.dup, 1) := by decide +kernel
theorem dX10_init_110 : decode cX10_init 110 = .ok (.iconst 0, 1) := by decide +kernel
theorem dX10_init_111 : decode cX10_init 111 = .ok (.bipush 116, 2) := by decide +kernel
theorem dX10_init_113 : decode cX10_init 113 = .ok (.castore, 1) := by decide +kernel
theorem dX10_init_114 : decode cX10_init 114 = .ok (.dup, 1) := by decide +kernel
theorem dX10_init_115 : decode cX10_init 115 = .ok (.iconst 1, 1) := by decide +kernel
theorem dX10_init_116 : decode cX10_init 116 = .ok (.bipush 117, 2) := by decide +kernel
theorem dX10_init_118 : decode cX10_init 118 = .ok (.castore, 1) := by decide +kernel
theorem dX10_init_119 : decode cX10_init 119 = .ok (.dup, 1) := by decide +kernel
theorem dX10_init_120 : decode cX10_init 120 = .ok (.iconst 2, 1) := by decide +kernel
theorem dX10_init_121 : decode cX10_init 121 = .ok (.bipush 114, 2) := by decide +kernel
theorem dX10_init_123 : decode cX10_init 123 = .ok (.castore, 1) := by decide +kernel
theorem dX10_init_124 : decode cX10_init 124 = .ok (.dup, 1) := by decide +kernel
theorem dX10_init_125 : decode cX10_init 125 = .ok (.iconst 3, 1) := by decide +kernel
theorem dX10_init_126 : decode cX10_init 126 = .ok (.bipush 110, 2) := by decide +kernel
theorem dX10_init_128 : decode cX10_init 128 = .ok (.castore, 1) := by decide +kernel
theorem dX10_init_129 : decode cX10_init 129 = .ok (.putfield 27, 3) := by decide +kernel
theorem dX10_init_132 : decode cX10_init 132 = .ok (.aload_n 0, 1) := by decide +kernel
theorem dX10_init_133 : decode cX10_init 133 = .ok (.sipush 512, 3) := by decide +kernel
theorem dX10_init_136 : decode cX10_init 136 = .ok (.newarray .boolean, 2) := by decide +kernel
theorem dX10_init_138 : decode cX10_init 138 = .ok (.putfield 30, 3) := by decide +kernel
theorem dX10_init_141 : decode cX10_init 141 = .ok (.aload_n 0, 1) := by decide +kernel
theorem dX10_init_142 : decode cX10_init 142 = .ok (.sipush 512, 3) := by decide +kernel
theorem dX10_init_145 : decode cX10_init 145 = .ok (.newarray .boolean, 2) := by decide +kernel
theorem dX10_init_147 : decode cX10_init 147 = .ok (.putfield 34, 3) := by decide +kernel
theorem dX10_init_150 : decode cX10_init 150 = .ok (.aload_n 0, 1) := by decide +kernel
theorem dX10_init_151 : decode cX10_init 151 = .ok (.bipush 6, 2) := by decide +kernel
theorem dX10_init_153 : decode cX10_init 153 = .ok (.newarray .int, 2) := by decide +kernel
theorem dX10_init_155 : decode cX10_init 155 = .ok (.putfield 37, 3) := by decide +kernel
theorem dX10_init_158 : decode cX10_init 158 = .ok (.aload_n 0, 1) := by decide +kernel
theorem dX10_init_159 : decode cX10_init 159 = .ok (.sipush 1000, 3) := by decide +kernel
theorem dX10_init_162 : decode cX10_init 162 = .ok (.newarray .boolean, 2) := by decide +kernel
theorem dX10_init_164 : decode cX10_init 164 = .ok (.putfield 40, 3) := by decide +kernel
theorem dX10_init_167 : decode cX10_init 167 = .ok (.aload_n 0, 1) := by decide +kernel
theorem dX10_init_168 : decode cX10_init 168 = .ok (.sipush 1000, 3) := by decide +kernel
theorem dX10_init_171 : decode cX10_init 171 = .ok (.newarray .int, 2) := by decide +kernel
theorem dX10_init_173 : decode cX10_init 173 = .ok (.putfield 43, 3) := by decide +kernel
theorem dX10_init_176 : decode cX10_init 176 = .ok (.aload_n 0, 1) := by decide +kernel
theorem dX10_init_177 : decode cX10_init 177 = .ok (.bipush 6, 2) := by decide +kernel
theorem dX10_init_179 : decode cX10_init 179 = .ok (.newarray .int, 2) := by decide +kernel
theorem dX10_init_181 : decode cX10_init 181 = .ok (.putfield 46, 3) := by decide +kernel
theorem dX10_init_184 : decode cX10_init 184 = .ok (.aload_n 0, 1) := by decide +kernel
theorem dX10_init_185 : decode cX10_init 185 = .ok (.bipush 6, 2) := by decide +kernel
theorem dX10_init_187 : decode cX10_init 187 = .ok (.newarray .int, 2) := by decide +kernel
theorem dX10_init_189 : decode cX10_init 189 = .ok (.putfield 49, 3) := by decide +kernel
theorem dX10_init_192 : decode cX10_init 192 = .ok (.aload_n 0, 1) := by decide +kernel
theorem dX10_init_193 : decode cX10_init 193 = .ok (.sipush 1000, 3) := by decide +kernel
theorem dX10_init_196 : decode cX10_init 196 = .ok (.newarray .int, 2) := by decide +kernel
theorem dX10_init_198 : decode cX10_init 198 = .ok (.putfield 52, 3) := by decide +kernel
theorem dX10_init_201 : decode cX10_init 201 = .ok (.aload_n 0, 1) := by decide +kernel
theorem dX10_init_202 : decode cX10_init 202 = .ok (.sipush 1000, 3) := by decide +kernel
theorem dX10_init_205 : decode cX10_init 205 = .ok (.newarray .int, 2) := by decide +kernel
theorem dX10_init_207 : decode cX10_init 207 = .ok (.putfield 55, 3) := by decide +kernel
theorem dX10_init_210 : decode cX10_init 210 = .ok (.aload_n 0, 1) := by decide +kernel
theorem dX10_init_211 : decode cX10_init 211 = .ok (.sipush 1000, 3) := by decide +kernel
theorem dX10_init_214 : decode cX10_init 214 = .ok (.newarray .int, 2) := by decide +kernel
theorem dX10_init_216 : decode cX10_init 216 = .ok (.putfield 58, 3) := by decide +kernel
theorem dX10_init_219 : decode cX10_init 219 = .ok (.aload_n 0, 1) := by decide +kernel
theorem dX10_init_220 : decode cX10_init 220 = .ok (.sipush 1000, 3) := by decide +kernel
theorem dX10_init_223 : decode cX10_init 223 = .ok (.newarray .int, 2) := by decide +kernel
theorem dX10_init_225 : decode cX10_init 225 = .ok (.putfield 61, 3) := by decide +kernel
theorem dX10_init_228 : decode cX10_init 228 = .ok (.aload_n 0, 1) := by decide +kernel
theorem dX10_init_229 : decode cX10_init 229 = .ok (.sipush 1000, 3) := by decide +kernel
theorem dX10_init_232 : decode cX10_init 232 = .ok (.newarray .int, 2) := by decide +kernel
theorem dX10_init_234 : decode cX10_init 234 = .ok (.putfield 64, 3) := by decide +kernel
theorem dX10_init_237 : decode cX10_init 237 = .ok (.aload_n 0, 1) := by decide +kernel
theorem dX10_init_238 : decode cX10_init 238 = .ok (.sipush 1000, 3) := by decide +kernel
theorem dX10_init_241 : decode cX10_init 241 = .ok (.newarray .int, 2) := by decide +kernel
theorem dX10_init_243 : decode cX10_init 243 = .ok (.putfield 67, 3) := by decide +kernel
theorem dX10_init_246 : decode cX10_init 246 = .ok (.aload_n 0, 1) := by decide +kernel
theorem dX10_init_247 : decode cX10_init 247 = .ok (.bipush 20, 2) := by decide +kernel
theorem dX10_init_249 : decode cX10_init 249 = .ok (.putfield 70, 3) := by decide +kernel
theorem dX10_init_252 : decode cX10_init 252 = .ok (.aload_n 0, 1) := by decide +kernel
theorem dX10_init_253 : decode cX10_init 253 = .ok (.iconst 1, 1) := by decide +kernel
theorem dX10_init_254 : decode cX10_init 254 = .ok (.putfield 73, 3) := by decide +kernel
theorem dX10_init_257 : decode cX10_init 257 = .ok (.aload_n 0, 1) := by decide +kernel
theorem dX10_init_258 : decode cX10_init 258 = .ok (.iconst 2, 1) := by decide +kernel
theorem dX10_init_259 : decode cX10_init 259 = .ok (.putfield 76, 3) := by decide +kernel
theorem dX10_init_262 : decode cX10_init 262 = .ok (.aload_n 0, 1) := by decide +kernel
theorem dX10_init_263 : decode cX10_init 263 = .ok (.bipush 10, 2) := by decide +kernel
theorem dX10_init_265 : decode cX10_init 265 = .ok (.newarray .boolean, 2) := by decide +kernel
theorem dX10_init_267 : decode cX10_init 267 = .ok (.putfield 79, 3) := by decide +kernel
theorem dX10_init_270 : decode cX10_init 270 = .ok (.aload_n 0, 1) := by decide +kernel
theorem dX10_init_271 : decode cX10_init 271 = .ok (.bipush 10, 2) := by decide +kernel
theorem dX10_init_273 : decode cX10_init 273 = .ok (.newarray .int, 2) := by decide +kernel
theorem dX10_init_275 : decode cX10_init 275 = .ok (.putfield 82, 3) := by decide +kernel
theorem dX10_init_278 : decode cX10_init 278 = .ok (.aload_n 0, 1) := by decide +kernel
theorem dX10_init_279 : decode cX10_init 279 = .ok (.bipush 10, 2) := by decide +kernel
theorem dX10_init_281 : decode cX10_init 281 = .ok (.newarray .int, 2) := by decide +kernel
theorem dX10_init_283 : decode cX10_init 283 = .ok (.putfield 85, 3) := by decide +kernel
theorem dX10_init_286 : decode cX10_init 286 = .ok (.aload_n 0, 1) := by decide +kernel
theorem dX10_init_287 : decode cX10_init 287 = .ok (.bipush 10, 2) := by decide +kernel
theorem dX10_init_289 : decode cX10_init 289 = .ok (.newarray .int, 2) := by decide +kernel
theorem dX10_init_291 : decode cX10_init 291 = .ok (.putfield 88, 3) := by decide +kernel
theorem dX10_init_294 : decode cX10_init 294 = .ok (.aload_n 0, 1) := by decide +kernel
theorem dX10_init_295 : decode cX10_init 295 = .ok (.sipush 1024, 3) := by decide +kernel
theorem dX10_init_298 : decode cX10_init 298 = .ok (.newarray .int, 2) := by decide +kernel
theorem dX10_init_300 : decode cX10_init 300 = .ok (.putfield 91, 3) := by decide +kernel
theorem dX10_init_303 : decode cX10_init 303 = .ok (.aload_n 0, 1) := by decide +kernel
theorem dX10_init_304 : decode cX10_init 304 = .ok (.bipush 10, 2) := by decide +kernel
theorem dX10_init_306 : decode cX10_init 306 = .ok (.newarray .int, 2) := by decide +kernel
theorem dX10_init_308 : decode cX10_init 308 = .ok (.putfield 94, 3) := by decide +kernel
theorem dX10_init_311 : decode cX10_init 311 = .ok (.aload_n 0, 1) := by decide +kernel
theorem dX10_init_312 : decode cX10_init 312 = .ok (.bipush 10, 2) := by decide +kernel
theorem dX10_init_314 : decode cX10_init 314 = .ok (.newarray .int, 2) := by decide +kernel
theorem dX10_init_316 : decode cX10_init 316 = .ok (.putfield 97, 3) := by decide +kernel
theorem dX10_init_319 : decode cX10_init 319 = .ok (.aload_n 0, 1) := by decide +kernel
theorem dX10_init_320 : decode cX10_init 320 = .ok (.bipush 12, 2) := by decide +kernel
theorem dX10_init_322 : decode cX10_init 322 = .ok (.newarray .int, 2) := by decide +kernel
theorem dX10_init_324 : decode cX10_init 324 = .ok (.putfield 100, 3) := by decide +kernel
theorem dX10_init_327 : decode cX10_init 327 = .ok (.aload_n 0, 1) := by decide +kernel
theorem dX10_init_328 : decode cX10_init 328 = .ok (.bipush 12, 2) := by decide +kernel
theorem dX10_init_330 : decode cX10_init 330 = .ok (.newarray .int, 2) := by decide +kernel
theorem dX10_init_332 : decode cX10_init 332 = .ok (.putfield 103, 3) := by decide +kernel
theorem dX10_init_335 : decode cX10_init 335 = .ok (.aload_n 0, 1) := by decide +kernel
theorem dX10_init_336 : decode cX10_init 336 = .ok (.sipush 990, 3) := by decide +kernel
theorem dX10_init_339 : decode cX10_init 339 = .ok (.putfield 106, 3) := by decide +kernel
theorem dX10_init_342 : decode cX10_init 342 = .ok (.aload_n 0, 1) := by decide +kernel
theorem dX10_init_343 : decode cX10_init 343 = .ok (.sipush 950, 3) := by decide +kernel
theorem dX10_init_346 : decode cX10_init 346 = .ok (.putfield 109, 3) := by decide +kernel
theorem dX10_init_349 : decode cX10_init 349 = .ok (.aload_n 0, 1) := by decide +kernel
theorem dX10_init_350 : decode cX10_init 350 = .ok (.bipush 50, 2) := by decide +kernel
theorem dX10_init_352 : decode cX10_init 352 = .ok (.putfield 112, 3) := by decide +kernel
theorem dX10_init_355 : decode cX10_init 355 = .ok (.return_, 1) := by decide +kernel
theorem dX10_feed_0 : decode cX10_feed 0 = .ok (.aload_n 0, 1) := by decide +kernel
theorem dX10_feed_1 : decode cX10_feed 1 = .ok (.getfield 115, 3) := by decide +kernel
theorem dX10_feed_4 : decode cX10_feed 4 = .ok (.bipush 20, 2) := by decide +kernel
theorem dX10_feed_6 : decode cX10_feed 6 = .ok (.iadd, 1) := by decide +kernel
theorem dX10_feed_7 : decode cX10_feed 7 = .ok (.sipush 400, 3) := by decide +kernel
theorem dX10_feed_10 : decode cX10_feed 10 = .ok (.if_icmp .le 5, 3) := by decide +kernel
theorem dX10_feed_13 : decode cX10_feed 13 = .ok (.iconst (-1), 1) := by decide +kernel
theorem dX10_feed_14 : decode cX10_feed 14 = .ok (.ireturn, 1) := by decide +kernel
theorem dX10_feed_15 : decode cX10_feed 15 = .ok (.iconst 0, 1) := by decide +kernel
theorem dX10_feed_16 : decode cX10_feed 16 = .ok (.istore 6, 2) := by decide +kernel
theorem dX10_feed_18 : decode cX10_feed 18 = .ok (.iload 6, 2) := by decide +kernel
theorem dX10_feed_20 : decode cX10_feed 20 = .ok (.bipush 20, 2) := by decide +kernel
theorem dX10_feed_22 : decode cX10_feed 22 = .ok (.if_icmp .ge 92, 3) := by decide +kernel
theorem dX10_feed_25 : decode cX10_feed 25 = .ok (.iload 6, 2) := by decide +kernel
theorem dX10_feed_27 : decode cX10_feed 27 = .ok (.iconst 4, 1) := by decide +kernel
theorem dX10_feed_28 : decode cX10_feed 28 = .ok (.if_icmp .ge 7, 3) := by decide +kernel
theorem dX10_feed_31 : decode cX10_feed 31 = .ok (.iload_n 1, 1) := by decide +kernel
theorem dX10_feed_32 : decode cX10_feed 32 = .ok (.goto 39, 3) := by decide +kernel
theorem dX10_feed_35 : decode cX10_feed 35 = .ok (.iload 6, 2) := by decide +kernel
theorem dX10_feed_37 : decode cX10_feed 37 = .ok (.bipush 8, 2) := by decide +kernel
theorem dX10_feed_39 : decode cX10_feed 39 = .ok (.if_icmp .ge 7, 3) := by decide +kernel
theorem dX10_feed_42 : decode cX10_feed 42 = .ok (.iload_n 2, 1) := by decide +kernel
theorem dX10_feed_43 : decode cX10_feed 43 = .ok (.goto 28, 3) := by decide +kernel
theorem dX10_feed_46 : decode cX10_feed 46 = .ok (.iload 6, 2) := by decide +kernel
theorem dX10_feed_48 : decode cX10_feed 48 = .ok (.bipush 12, 2) := by decide +kernel
theorem dX10_feed_50 : decode cX10_feed 50 = .ok (.if_icmp .ge 7, 3) := by decide +kernel
theorem dX10_feed_53 : decode cX10_feed 53 = .ok (.iload_n 3, 1) := by decide +kernel
theorem dX10_feed_54 : decode cX10_feed 54 = .ok (.goto 17, 3) := by decide +kernel
theorem dX10_feed_57 : decode cX10_feed 57 = .ok (.iload 6, 2) := by decide +kernel
theorem dX10_feed_59 : decode cX10_feed 59 = .ok (.bipush 16, 2) := by decide +kernel
theorem dX10_feed_61 : decode cX10_feed 61 = .ok (.if_icmp .ge 8, 3) := by decide +kernel
theorem dX10_feed_64 : decode cX10_feed 64 = .ok (.iload 4, 2) := by decide +kernel
theorem dX10_feed_66 : decode cX10_feed 66 = .ok (.goto 5, 3) := by decide +kernel
theorem dX10_feed_69 : decode cX10_feed 69 = .ok (.iload 5, 2) := by decide +kernel
theorem dX10_feed_71 : decode cX10_feed 71 = .ok (.istore 7, 2) := by decide +kernel
theorem dX10_feed_73 : decode cX10_feed 73 = .ok (.aload_n 0, 1) := by decide +kernel
theorem dX10_feed_74 : decode cX10_feed 74 = .ok (.getfield 7, 3) := by decide +kernel
theorem dX10_feed_77 : decode cX10_feed 77 = .ok (.aload_n 0, 1) := by decide +kernel
theorem dX10_feed_78 : decode cX10_feed 78 = .ok (.getfield 115, 3) := by decide +kernel
theorem dX10_feed_81 : decode cX10_feed 81 = .ok (.iload 7, 2) := by decide +kernel
theorem dX10_feed_83 : decode cX10_feed 83 = .ok (.bipush 8, 2) := by decide +kernel
theorem dX10_feed_85 : decode cX10_feed 85 = .ok (.iconst 3, 1) := by decide +kernel
theorem dX10_feed_86 : decode cX10_feed 86 = .ok (.iload 6, 2) := by decide +kernel
theorem dX10_feed_88 : decode cX10_feed 88 = .ok (.iconst 4, 1) := by decide +kernel
theorem dX10_feed_89 : decode cX10_feed 89 = .ok (.irem, 1) := by decide +kernel
theorem dX10_feed_90 : decode cX10_feed 90 = .ok (.isub, 1) := by decide +kernel
theorem dX10_feed_91 : decode cX10_feed 91 = .ok (.imul, 1) := by decide +kernel
theorem dX10_feed_92 : decode cX10_feed 92 = .ok (.ishr, 1) := by decide +kernel
theorem dX10_feed_93 : decode cX10_feed 93 = .ok (.sipush 255, 3) := by decide +kernel
theorem dX10_feed_96 : decode cX10_feed 96 = .ok (.iand, 1) := by decide +kernel
theorem dX10_feed_97 : decode cX10_feed 97 = .ok (.iastore, 1) := by decide +kernel
theorem dX10_feed_98 : decode cX10_feed 98 = .ok (.aload_n 0, 1) := by decide +kernel
theorem dX10_feed_99 : decode cX10_feed 99 = .ok (.dup, 1) := by decide +kernel
theorem dX10_feed_100 : decode cX10_feed 100 = .ok (.getfield 115, 3) := by decide +kernel
theorem dX10_feed_103 : decode cX10_feed 103 = .ok (.iconst 1, 1) := by decide +kernel
theorem dX10_feed_104 : decode cX10_feed 104 = .ok (.iadd, 1) := by decide +kernel
theorem dX10_feed_105 : decode cX10_feed 105 = .ok (.putfield 115, 3) := by decide +kernel
theorem dX10_feed_108 : decode cX10_feed 108 = .ok (.iinc 6 1, 3) := by decide +kernel
theorem dX10_feed_111 : decode cX10_feed 111 = .ok (.goto (-93), 3) := by decide +kernel
theorem dX10_feed_114 : decode cX10_feed 114 = .ok (.aload_n 0, 1) := by decide +kernel
theorem dX10_feed_115 : decode cX10_feed 115 = .ok (.getfield 115, 3) := by decide +kernel
theorem dX10_feed_118 : decode cX10_feed 118 = .ok (.ireturn, 1) := by decide +kernel
theorem dX10_end_0 : decode cX10_end 0 = .ok (.iload_n 1, 1) := by decide +kernel
theorem dX10_end_1 : decode cX10_end 1 = .ok (.ifCond .lt 11, 3) := by decide +kernel
theorem dX10_end_4 : decode cX10_end 4 = .ok (.iload_n 1, 1) := by decide +kernel
theorem dX10_end_5 : decode cX10_end 5 = .ok (.aload_n 0, 1) := by decide +kernel
theorem dX10_end_6 : decode cX10_end 6 = .ok (.getfield 115, 3) := by decide +kernel
theorem dX10_end_9 : decode cX10_end 9 = .ok (.if_icmp .le 5, 3) := by decide +kernel
theorem dX10_end_12 : decode cX10_end 12 = .ok (.iconst 0, 1) := by decide +kernel
theorem dX10_end_13 : decode cX10_end 13 = .ok (.ireturn, 1) := by decide +kernel
theorem dX10_end_14 : decode cX10_end 14 = .ok (.aload_n 0, 1) := by decide +kernel
theorem dX10_end_15 : decode cX10_end 15 = .ok (.iload_n 1, 1) := by decide +kernel
theorem dX10_end_16 : decode cX10_end 16 = .ok (.putfield 115, 3) := by decide +kernel
theorem dX10_end_19 : decode cX10_end 19 = .ok (.iconst 1, 1) := by decide +kernel
theorem dX10_end_20 : decode cX10_end 20 = .ok (.ireturn, 1) := by decide +kernel
theorem dX10_fail_0 : decode cX10_fail 0 = .ok (.aload_n 0, 1) := by decide +kernel
theorem dX10_fail_1 : decode cX10_fail 1 = .ok (.getfield 118, 3) := by decide +kernel
theorem dX10_fail_4 : decode cX10_fail 4 = .ok (.ifCond .eq 4, 3) := by decide +kernel
theorem dX10_fail_7 : decode cX10_fail 7 = .ok (.return_, 1) := by decide +kernel
theorem dX10_fail_8 : decode cX10_fail 8 = .ok (.aload_n 0, 1) := by decide +kernel
theorem dX10_fail_9 : decode cX10_fail 9 = .ok (.iload_n 1, 1) := by decide +kernel
theorem dX10_fail_10 : decode cX10_fail 10 = .ok (.putfield 118, 3) := by decide +kernel
theorem dX10_fail_13 : decode cX10_fail 13 = .ok (.aload_n 0, 1) := by decide +kernel
theorem dX10_fail_14 : decode cX10_fail 14 = .ok (.iload_n 2, 1) := by decide +kernel
theorem dX10_fail_15 : decode cX10_fail 15 = .ok (.putfield 121, 3) := by decide +kernel
theorem dX10_fail_18 : decode cX10_fail 18 = .ok (.return_, 1) := by decide +kernel
theorem dX10_isLetter_0 : decode cX10_isLetter 0 = .ok (.iload_n 0, 1) := by decide +kernel
theorem dX10_isLetter_1 : decode cX10_isLetter 1 = .ok (.bipush 97, 2) := by decide +kernel
theorem dX10_isLetter_3 : decode cX10_isLetter 3 = .ok (.if_icmp .lt 13, 3) := by decide +kernel
theorem dX10_isLetter_6 : decode cX10_isLetter 6 = .ok (.iload_n 0, 1) := by decide +kernel
theorem dX10_isLetter_7 : decode cX10_isLetter 7 = .ok (.bipush 122, 2) := by decide +kernel
theorem dX10_isLetter_9 : decode cX10_isLetter 9 = .ok (.if_icmp .gt 7, 3) := by decide +kernel
theorem dX10_isLetter_12 : decode cX10_isLetter 12 = .ok (.iconst 1, 1) := by decide +kernel
theorem dX10_isLetter_13 : decode cX10_isLetter 13 = .ok (.goto 4, 3) := by decide +kernel
theorem dX10_isLetter_16 : decode cX10_isLetter 16 = .ok (.iconst 0, 1) := by decide +kernel
theorem dX10_isLetter_17 : decode cX10_isLetter 17 = .ok (.ireturn, 1) := by decide +kernel
theorem dX10_isDigit_0 : decode cX10_isDigit 0 = .ok (.iload_n 0, 1) := by decide +kernel
theorem dX10_isDigit_1 : decode cX10_isDigit 1 = .ok (.bipush 48, 2) := by decide +kernel
theorem dX10_isDigit_3 : decode cX10_isDigit 3 = .ok (.if_icmp .lt 13, 3) := by decide +kernel
theorem dX10_isDigit_6 : decode cX10_isDigit 6 = .ok (.iload_n 0, 1) := by decide +kernel
theorem dX10_isDigit_7 : decode cX10_isDigit 7 = .ok (.bipush 57, 2) := by decide +kernel
theorem dX10_isDigit_9 : decode cX10_isDigit 9 = .ok (.if_icmp .gt 7, 3) := by decide +kernel
theorem dX10_isDigit_12 : decode cX10_isDigit 12 = .ok (.iconst 1, 1) := by decide +kernel
theorem dX10_isDigit_13 : decode cX10_isDigit 13 = .ok (.goto 4, 3) := by decide +kernel
theorem dX10_isDigit_16 : decode cX10_isDigit 16 = .ok (.iconst 0, 1) := by decide +kernel
theorem dX10_isDigit_17 : decode cX10_isDigit 17 = .ok (.ireturn, 1) := by decide +kernel
theorem dX10_next_0 : decode cX10_next 0 = .ok (.aload_n 0, 1) := by decide +kernel
theorem dX10_next_1 : decode cX10_next 1 = .ok (.getfield 124, 3) := by decide +kernel
theorem dX10_next_4 : decode cX10_next 4 = .ok (.aload_n 0, 1) := by decide +kernel
theorem dX10_next_5 : decode cX10_next 5 = .ok (.getfield 127, 3) := by decide +kernel
theorem dX10_next_8 : decode cX10_next 8 = .ok (.if_icmp .ge 44, 3) := by decide +kernel
theorem dX10_next_11 : decode cX10_next 11 = .ok (.aload_n 0, 1) := by decide +kernel
theorem dX10_next_12 : decode cX10_next 12 = .ok (.getfield 7, 3) := by decide +kernel
theorem dX10_next_15 : decode cX10_next 15 = .ok (.aload_n 0, 1) := by decide +kernel
theorem dX10_next_16 : decode cX10_next 16 = .ok (.getfield 124, 3) := by decide +kernel
theorem dX10_next_19 : decode cX10_next 19 = .ok (.iaload, 1) := by decide +kernel
theorem dX10_next_20 : decode cX10_next 20 = .ok (.bipush 10, 2) := by decide +kernel
theorem dX10_next_22 : decode cX10_next 22 = .ok (.if_icmp .eq 17, 3) := by decide +kernel
theorem dX10_next_25 : decode cX10_next 25 = .ok (.aload_n 0, 1) := by decide +kernel
theorem dX10_next_26 : decode cX10_next 26 = .ok (.getfield 7, 3) := by decide +kernel
theorem dX10_next_29 : decode cX10_next 29 = .ok (.aload_n 0, 1) := by decide +kernel
theorem dX10_next_30 : decode cX10_next 30 = .ok (.getfield 124, 3) := by decide +kernel
theorem dX10_next_33 : decode cX10_next 33 = .ok (.iaload, 1) := by decide +kernel
theorem dX10_next_34 : decode cX10_next 34 = .ok (.bipush 32, 2) := by decide +kernel
theorem dX10_next_36 : decode cX10_next 36 = .ok (.if_icmp .ne 16, 3) := by decide +kernel
theorem dX10_next_39 : decode cX10_next 39 = .ok (.aload_n 0, 1) := by decide +kernel
theorem dX10_next_40 : decode cX10_next 40 = .ok (.dup, 1) := by decide +kernel
theorem dX10_next_41 : decode cX10_next 41 = .ok (.getfield 124, 3) := by decide +kernel
theorem dX10_next_44 : decode cX10_next 44 = .ok (.iconst 1, 1) := by decide +kernel
theorem dX10_next_45 : decode cX10_next 45 = .ok (.iadd, 1) := by decide +kernel
theorem dX10_next_46 : decode cX10_next 46 = .ok (.putfield 124, 3) := by decide +kernel
theorem dX10_next_49 : decode cX10_next 49 = .ok (.goto (-49), 3) := by decide +kernel
theorem dX10_next_52 : decode cX10_next 52 = .ok (.aload_n 0, 1) := by decide +kernel
theorem dX10_next_53 : decode cX10_next 53 = .ok (.aload_n 0, 1) := by decide +kernel
theorem dX10_next_54 : decode cX10_next 54 = .ok (.getfield 124, 3) := by decide +kernel
theorem dX10_next_57 : decode cX10_next 57 = .ok (.putfield 130, 3) := by decide +kernel
theorem dX10_next_60 : decode cX10_next 60 = .ok (.aload_n 0, 1) := by decide +kernel
theorem dX10_next_61 : decode cX10_next 61 = .ok (.getfield 124, 3) := by decide +kernel
theorem dX10_next_64 : decode cX10_next 64 = .ok (.aload_n 0, 1) := by decide +kernel
theorem dX10_next_65 : decode cX10_next 65 = .ok (.getfield 127, 3) := by decide +kernel
theorem dX10_next_68 : decode cX10_next 68 = .ok (.if_icmp .ge 15, 3) := by decide +kernel
theorem dX10_next_71 : decode cX10_next 71 = .ok (.aload_n 0, 1) := by decide +kernel
theorem dX10_next_72 : decode cX10_next 72 = .ok (.getfield 7, 3) := by decide +kernel
theorem dX10_next_75 : decode cX10_next 75 = .ok (.aload_n 0, 1) := by decide +kernel
theorem dX10_next_76 : decode cX10_next 76 = .ok (.getfield 124, 3) := by decide +kernel
theorem dX10_next_79 : decode cX10_next 79 = .ok (.iaload, 1) := by decide +kernel
theorem dX10_next_80 : decode cX10_next 80 = .ok (.goto 4, 3) := by decide +kernel
theorem dX10_next_83 : decode cX10_next 83 = .ok (.iconst (-1), 1) := by decide +kernel
theorem dX10_next_84 : decode cX10_next 84 = .ok (.ireturn, 1) := by decide +kernel
theorem dX10_number_0 : decode cX10_number 0 = .ok (.aload_n 0, 1) := by decide +kernel
theorem dX10_number_1 : decode cX10_number 1 = .ok (.invokevirtual 133, 3) := by decide +kernel
theorem dX10_number_4 : decode cX10_number 4 = .ok (.invokestatic 137, 3) := by decide +kernel
theorem dX10_number_7 : decode cX10_number 7 = .ok (.ifCond .eq 14, 3) := by decide +kernel
theorem dX10_number_10 : decode cX10_number 10 = .ok (.aload_n 0, 1) := by decide +kernel
theorem dX10_number_11 : decode cX10_number 11 = .ok (.getfield 124, 3) := by decide +kernel
theorem dX10_number_14 : decode cX10_number 14 = .ok (.aload_n 0, 1) := by decide +kernel
theorem dX10_number_15 : decode cX10_number 15 = .ok (.getfield 141, 3) := by decide +kernel
theorem dX10_number_18 : decode cX10_number 18 = .ok (.if_icmp .ne 14, 3) := by decide +kernel
theorem dX10_number_21 : decode cX10_number 21 = .ok (.aload_n 0, 1) := by decide +kernel
theorem dX10_number_22 : decode cX10_number 22 = .ok (.iconst 1, 1) := by decide +kernel
theorem dX10_number_23 : decode cX10_number 23 = .ok (.aload_n 0, 1) := by decide +kernel
theorem dX10_number_24 : decode cX10_number 24 = .ok (.getfield 124, 3) := by decide +kernel
theorem dX10_number_27 : decode cX10_number 27 = .ok (.invokevirtual 144, 3) := by decide +kernel
theorem dX10_number_30 : decode cX10_number 30 = .ok (.iconst 0, 1) := by decide +kernel
theorem dX10_number_31 : decode cX10_number 31 = .ok (.ireturn, 1) := by decide +kernel
theorem dX10_number_32 : decode cX10_number 32 = .ok (.aload_n 0, 1) := by decide +kernel
theorem dX10_number_33 : decode cX10_number 33 = .ok (.getfield 7, 3) := by decide +kernel
theorem dX10_number_36 : decode cX10_number 36 = .ok (.aload_n 0, 1) := by decide +kernel
theorem dX10_number_37 : decode cX10_number 37 = .ok (.getfield 124, 3) := by decide +kernel
theorem dX10_number_40 : decode cX10_number 40 = .ok (.iaload, 1) := by decide +kernel
theorem dX10_number_41 : decode cX10_number 41 = .ok (.bipush 48, 2) := by decide +kernel
theorem dX10_number_43 : decode cX10_number 43 = .ok (.isub, 1) := by decide +kernel
theorem dX10_number_44 : decode cX10_number 44 = .ok (.istore_n 2, 1) := by decide +kernel
theorem dX10_number_45 : decode cX10_number 45 = .ok (.iload_n 2, 1) := by decide +kernel
theorem dX10_number_46 : decode cX10_number 46 = .ok (.iload_n 1, 1) := by decide +kernel
theorem dX10_number_47 : decode cX10_number 47 = .ok (.if_icmp .ge 12, 3) := by decide +kernel
theorem dX10_number_50 : decode cX10_number 50 = .ok (.aload_n 0, 1) := by decide +kernel
theorem dX10_number_51 : decode cX10_number 51 = .ok (.iconst 2, 1) := by decide +kernel
theorem dX10_number_52 : decode cX10_number 52 = .ok (.aload_n 0, 1) := by decide +kernel
theorem dX10_number_53 : decode cX10_number 53 = .ok (.getfield 124, 3) := by decide +kernel
theorem dX10_number_56 : decode cX10_number 56 = .ok (.invokevirtual 144, 3) := by decide +kernel
theorem dX10_number_59 : decode cX10_number 59 = .ok (.aload_n 0, 1) := by decide +kernel
theorem dX10_number_60 : decode cX10_number 60 = .ok (.dup, 1) := by decide +kernel
theorem dX10_number_61 : decode cX10_number 61 = .ok (.getfield 124, 3) := by decide +kernel
theorem dX10_number_64 : decode cX10_number 64 = .ok (.iconst 1, 1) := by decide +kernel
theorem dX10_number_65 : decode cX10_number 65 = .ok (.iadd, 1) := by decide +kernel
theorem dX10_number_66 : decode cX10_number 66 = .ok (.putfield 124, 3) := by decide +kernel
theorem dX10_number_69 : decode cX10_number 69 = .ok (.aload_n 0, 1) := by decide +kernel
theorem dX10_number_70 : decode cX10_number 70 = .ok (.getfield 124, 3) := by decide +kernel
theorem dX10_number_73 : decode cX10_number 73 = .ok (.aload_n 0, 1) := by decide +kernel
theorem dX10_number_74 : decode cX10_number 74 = .ok (.getfield 127, 3) := by decide +kernel
theorem dX10_number_77 : decode cX10_number 77 = .ok (.if_icmp .ge 27, 3) := by decide +kernel
theorem dX10_number_80 : decode cX10_number 80 = .ok (.aload_n 0, 1) := by decide +kernel
theorem dX10_number_81 : decode cX10_number 81 = .ok (.getfield 7, 3) := by decide +kernel
theorem dX10_number_84 : decode cX10_number 84 = .ok (.aload_n 0, 1) := by decide +kernel
theorem dX10_number_85 : decode cX10_number 85 = .ok (.getfield 124, 3) := by decide +kernel
theorem dX10_number_88 : decode cX10_number 88 = .ok (.iaload, 1) := by decide +kernel
theorem dX10_number_89 : decode cX10_number 89 = .ok (.invokestatic 137, 3) := by decide +kernel
theorem dX10_number_92 : decode cX10_number 92 = .ok (.ifCond .eq 12, 3) := by decide +kernel
theorem dX10_number_95 : decode cX10_number 95 = .ok (.aload_n 0, 1) := by decide +kernel
theorem dX10_number_96 : decode cX10_number 96 = .ok (.iconst 1, 1) := by decide +kernel
theorem dX10_number_97 : decode cX10_number 97 = .ok (.aload_n 0, 1) := by decide +kernel
theorem dX10_number_98 : decode cX10_number 98 = .ok (.getfield 124, 3) := by decide +kernel
theorem dX10_number_101 : decode cX10_number 101 = .ok (.invokevirtual 144, 3) := by decide +kernel
theorem dX10_number_104 : decode cX10_number 104 = .ok (.aload_n 0, 1) := by decide +kernel
theorem dX10_number_105 : decode cX10_number 105 = .ok (.aload_n 0, 1) := by decide +kernel
theorem dX10_number_106 : decode cX10_number 106 = .ok (.getfield 124, 3) := by decide +kernel
theorem dX10_number_109 : decode cX10_number 109 = .ok (.putfield 141, 3) := by decide +kernel
theorem dX10_number_112 : decode cX10_number 112 = .ok (.iload_n 2, 1) := by decide +kernel
theorem dX10_number_113 : decode cX10_number 113 = .ok (.ireturn, 1) := by decide +kernel
theorem dX10_isWord_0 : decode cX10_isWord 0 = .ok (.aload_n 0, 1) := by decide +kernel
theorem dX10_isWord_1 : decode cX10_isWord 1 = .ok (.invokevirtual 133, 3) := by decide +kernel
theorem dX10_isWord_4 : decode cX10_isWord 4 = .ok (.iconst (-1), 1) := by decide +kernel
theorem dX10_isWord_5 : decode cX10_isWord 5 = .ok (.if_icmp .eq 14, 3) := by decide +kernel
theorem dX10_isWord_8 : decode cX10_isWord 8 = .ok (.aload_n 0, 1) := by decide +kernel
theorem dX10_isWord_9 : decode cX10_isWord 9 = .ok (.getfield 124, 3) := by decide +kernel
theorem dX10_isWord_12 : decode cX10_isWord 12 = .ok (.aload_n 0, 1) := by decide +kernel
theorem dX10_isWord_13 : decode cX10_isWord 13 = .ok (.getfield 141, 3) := by decide +kernel
theorem dX10_isWord_16 : decode cX10_isWord 16 = .ok (.if_icmp .ne 5, 3) := by decide +kernel
theorem dX10_isWord_19 : decode cX10_isWord 19 = .ok (.iconst 0, 1) := by decide +kernel
theorem dX10_isWord_20 : decode cX10_isWord 20 = .ok (.ireturn, 1) := by decide +kernel
theorem dX10_isWord_21 : decode cX10_isWord 21 = .ok (.aload_n 0, 1) := by decide +kernel
theorem dX10_isWord_22 : decode cX10_isWord 22 = .ok (.getfield 124, 3) := by decide +kernel
theorem dX10_isWord_25 : decode cX10_isWord 25 = .ok (.istore_n 2, 1) := by decide +kernel
theorem dX10_isWord_26 : decode cX10_isWord 26 = .ok (.iload_n 2, 1) := by decide +kernel
theorem dX10_isWord_27 : decode cX10_isWord 27 = .ok (.aload_n 0, 1) := by decide +kernel
theorem dX10_isWord_28 : decode cX10_isWord 28 = .ok (.getfield 127, 3) := by decide +kernel
theorem dX10_isWord_31 : decode cX10_isWord 31 = .ok (.if_icmp .ge 21, 3) := by decide +kernel
theorem dX10_isWord_34 : decode cX10_isWord 34 = .ok (.aload_n 0, 1) := by decide +kernel
theorem dX10_isWord_35 : decode cX10_isWord 35 = .ok (.getfield 7, 3) := by decide +kernel
theorem dX10_isWord_38 : decode cX10_isWord 38 = .ok (.iload_n 2, 1) := by decide +kernel
theorem dX10_isWord_39 : decode cX10_isWord 39 = .ok (.iaload, 1) := by decide +kernel
theorem dX10_isWord_40 : decode cX10_isWord 40 = .ok (.invokestatic 148, 3) := by decide +kernel
theorem dX10_isWord_43 : decode cX10_isWord 43 = .ok (.ifCond .eq 9, 3) := by decide +kernel
theorem dX10_isWord_46 : decode cX10_isWord 46 = .ok (.iinc 2 1, 3) := by decide +kernel
theorem dX10_isWord_49 : decode cX10_isWord 49 = .ok (.goto (-23), 3) := by decide +kernel
theorem dX10_isWord_52 : decode cX10_isWord 52 = .ok (.iload_n 2, 1) := by decide +kernel
theorem dX10_isWord_53 : decode cX10_isWord 53 = .ok (.aload_n 0, 1) := by decide +kernel
theorem dX10_isWord_54 : decode cX10_isWord 54 = .ok (.getfield 124, 3) := by decide +kernel
theorem dX10_isWord_57 : decode cX10_isWord 57 = .ok (.isub, 1) := by decide +kernel
theorem dX10_isWord_58 : decode cX10_isWord 58 = .ok (.aload_n 1, 1) := by decide +kernel
theorem dX10_isWord_59 : decode cX10_isWord 59 = .ok (.arraylength, 1) := by decide +kernel
theorem dX10_isWord_60 : decode cX10_isWord 60 = .ok (.if_icmp .eq 5, 3) := by decide +kernel
theorem dX10_isWord_63 : decode cX10_isWord 63 = .ok (.iconst 0, 1) := by decide +kernel
theorem dX10_isWord_64 : decode cX10_isWord 64 = .ok (.ireturn, 1) := by decide +kernel
theorem dX10_isWord_65 : decode cX10_isWord 65 = .ok (.iconst 0, 1) := by decide +kernel
theorem dX10_isWord_66 : decode cX10_isWord 66 = .ok (.istore_n 3, 1) := by decide +kernel
theorem dX10_isWord_67 : decode cX10_isWord 67 = .ok (.iload_n 3, 1) := by decide +kernel
theorem dX10_isWord_68 : decode cX10_isWord 68 = .ok (.aload_n 1, 1) := by decide +kernel
theorem dX10_isWord_69 : decode cX10_isWord 69 = .ok (.arraylength, 1) := by decide +kernel
theorem dX10_isWord_70 : decode cX10_isWord 70 = .ok (.if_icmp .ge 28, 3) := by decide +kernel
theorem dX10_isWord_73 : decode cX10_isWord 73 = .ok (.aload_n 0, 1) := by decide +kernel
theorem dX10_isWord_74 : decode cX10_isWord 74 = .ok (.getfield 7, 3) := by decide +kernel
theorem dX10_isWord_77 : decode cX10_isWord 77 = .ok (.aload_n 0, 1) := by decide +kernel
theorem dX10_isWord_78 : decode cX10_isWord 78 = .ok (.getfield 124, 3) := by decide +kernel
theorem dX10_isWord_81 : decode cX10_isWord 81 = .ok (.iload_n 3, 1) := by decide +kernel
theorem dX10_isWord_82 : decode cX10_isWord 82 = .ok (.iadd, 1) := by decide +kernel
theorem dX10_isWord_83 : decode cX10_isWord 83 = .ok (.iaload, 1) := by decide +kernel
theorem dX10_isWord_84 : decode cX10_isWord 84 = .ok (.aload_n 1, 1) := by decide +kernel
theorem dX10_isWord_85 : decode cX10_isWord 85 = .ok (.iload_n 3, 1) := by decide +kernel
theorem dX10_isWord_86 : decode cX10_isWord 86 = .ok (.caload, 1) := by decide +kernel
theorem dX10_isWord_87 : decode cX10_isWord 87 = .ok (.if_icmp .eq 5, 3) := by decide +kernel
theorem dX10_isWord_90 : decode cX10_isWord 90 = .ok (.iconst 0, 1) := by decide +kernel
theorem dX10_isWord_91 : decode cX10_isWord 91 = .ok (.ireturn, 1) := by decide +kernel
theorem dX10_isWord_92 : decode cX10_isWord 92 = .ok (.iinc 3 1, 3) := by decide +kernel
theorem dX10_isWord_95 : decode cX10_isWord 95 = .ok (.goto (-28), 3) := by decide +kernel
theorem dX10_isWord_98 : decode cX10_isWord 98 = .ok (.aload_n 0, 1) := by decide +kernel
theorem dX10_isWord_99 : decode cX10_isWord 99 = .ok (.iload_n 2, 1) := by decide +kernel
theorem dX10_isWord_100 : decode cX10_isWord 100 = .ok (.putfield 124, 3) := by decide +kernel
theorem dX10_isWord_103 : decode cX10_isWord 103 = .ok (.aload_n 0, 1) := by decide +kernel
theorem dX10_isWord_104 : decode cX10_isWord 104 = .ok (.iload_n 2, 1) := by decide +kernel
theorem dX10_isWord_105 : decode cX10_isWord 105 = .ok (.putfield 141, 3) := by decide +kernel
theorem dX10_isWord_108 : decode cX10_isWord 108 = .ok (.iconst 1, 1) := by decide +kernel
theorem dX10_isWord_109 : decode cX10_isWord 109 = .ok (.ireturn, 1) := by decide +kernel
theorem dX10_cell_0 : decode cX10_cell 0 = .ok (.iload_n 2, 1) := by decide +kernel
theorem dX10_cell_1 : decode cX10_cell 1 = .ok (.bipush 8, 2) := by decide +kernel
theorem dX10_cell_3 : decode cX10_cell 3 = .ok (.imul, 1) := by decide +kernel
theorem dX10_cell_4 : decode cX10_cell 4 = .ok (.iload_n 1, 1) := by decide +kernel
theorem dX10_cell_5 : decode cX10_cell 5 = .ok (.iadd, 1) := by decide +kernel
theorem dX10_cell_6 : decode cX10_cell 6 = .ok (.bipush 8, 2) := by decide +kernel
theorem dX10_cell_8 : decode cX10_cell 8 = .ok (.imul, 1) := by decide +kernel
theorem dX10_cell_9 : decode cX10_cell 9 = .ok (.iload_n 0, 1) := by decide +kernel
theorem dX10_cell_10 : decode cX10_cell 10 = .ok (.iadd, 1) := by decide +kernel
theorem dX10_cell_11 : decode cX10_cell 11 = .ok (.ireturn, 1) := by decide +kernel
theorem dX10_boxes_0 : decode cX10_boxes 0 = .ok (.iconst 0, 1) := by decide +kernel
theorem dX10_boxes_1 : decode cX10_boxes 1 = .ok (.istore_n 2, 1) := by decide +kernel
theorem dX10_boxes_2 : decode cX10_boxes 2 = .ok (.iload_n 2, 1) := by decide +kernel
theorem dX10_boxes_3 : decode cX10_boxes 3 = .ok (.bipush 6, 2) := by decide +kernel
theorem dX10_boxes_5 : decode cX10_boxes 5 = .ok (.if_icmp .ge 36, 3) := by decide +kernel
theorem dX10_boxes_8 : decode cX10_boxes 8 = .ok (.aload_n 0, 1) := by decide +kernel
theorem dX10_boxes_9 : decode cX10_boxes 9 = .ok (.getfield 118, 3) := by decide +kernel
theorem dX10_boxes_12 : decode cX10_boxes 12 = .ok (.ifCond .ne 29, 3) := by decide +kernel
theorem dX10_boxes_15 : decode cX10_boxes 15 = .ok (.aload_n 0, 1) := by decide +kernel
theorem dX10_boxes_16 : decode cX10_boxes 16 = .ok (.getfield 37, 3) := by decide +kernel
theorem dX10_boxes_19 : decode cX10_boxes 19 = .ok (.iload_n 2, 1) := by decide +kernel
theorem dX10_boxes_20 : decode cX10_boxes 20 = .ok (.aload_n 0, 1) := by decide +kernel
theorem dX10_boxes_21 : decode cX10_boxes 21 = .ok (.iload_n 2, 1) := by decide +kernel
theorem dX10_boxes_22 : decode cX10_boxes 22 = .ok (.iconst 2, 1) := by decide +kernel
theorem dX10_boxes_23 : decode cX10_boxes 23 = .ok (.if_icmp .le 7, 3) := by decide +kernel
theorem dX10_boxes_26 : decode cX10_boxes 26 = .ok (.iconst 1, 1) := by decide +kernel
theorem dX10_boxes_27 : decode cX10_boxes 27 = .ok (.goto 4, 3) := by decide +kernel
theorem dX10_boxes_30 : decode cX10_boxes 30 = .ok (.iconst 0, 1) := by decide +kernel
theorem dX10_boxes_31 : decode cX10_boxes 31 = .ok (.invokevirtual 151, 3) := by decide +kernel
theorem dX10_boxes_34 : decode cX10_boxes 34 = .ok (.iastore, 1) := by decide +kernel
theorem dX10_boxes_35 : decode cX10_boxes 35 = .ok (.iinc 2 1, 3) := by decide +kernel
theorem dX10_boxes_38 : decode cX10_boxes 38 = .ok (.goto (-36), 3) := by decide +kernel
theorem dX10_boxes_41 : decode cX10_boxes 41 = .ok (.aload_n 0, 1) := by decide +kernel
theorem dX10_boxes_42 : decode cX10_boxes 42 = .ok (.getfield 118, 3) := by decide +kernel
theorem dX10_boxes_45 : decode cX10_boxes 45 = .ok (.ifCond .eq 4, 3) := by decide +kernel
theorem dX10_boxes_48 : decode cX10_boxes 48 = .ok (.return_, 1) := by decide +kernel
theorem dX10_boxes_49 : decode cX10_boxes 49 = .ok (.aload_n 0, 1) := by decide +kernel
theorem dX10_boxes_50 : decode cX10_boxes 50 = .ok (.getfield 37, 3) := by decide +kernel
theorem dX10_boxes_53 : decode cX10_boxes 53 = .ok (.iconst 2, 1) := by decide +kernel
theorem dX10_boxes_54 : decode cX10_boxes 54 = .ok (.iaload, 1) := by decide +kernel
theorem dX10_boxes_55 : decode cX10_boxes 55 = .ok (.istore_n 2, 1) := by decide +kernel
theorem dX10_boxes_56 : decode cX10_boxes 56 = .ok (.iload_n 2, 1) := by decide +kernel
theorem dX10_boxes_57 : decode cX10_boxes 57 = .ok (.aload_n 0, 1) := by decide +kernel
theorem dX10_boxes_58 : decode cX10_boxes 58 = .ok (.getfield 37, 3) := by decide +kernel
theorem dX10_boxes_61 : decode cX10_boxes 61 = .ok (.iconst 2, 1) := by decide +kernel
theorem dX10_boxes_62 : decode cX10_boxes 62 = .ok (.iaload, 1) := by decide +kernel
theorem dX10_boxes_63 : decode cX10_boxes 63 = .ok (.aload_n 0, 1) := by decide +kernel
theorem dX10_boxes_64 : decode cX10_boxes 64 = .ok (.getfield 37, 3) := by decide +kernel
theorem dX10_boxes_67 : decode cX10_boxes 67 = .ok (.iconst 5, 1) := by decide +kernel
theorem dX10_boxes_68 : decode cX10_boxes 68 = .ok (.iaload, 1) := by decide +kernel
theorem dX10_boxes_69 : decode cX10_boxes 69 = .ok (.iadd, 1) := by decide +kernel
theorem dX10_boxes_70 : decode cX10_boxes 70 = .ok (.if_icmp .ge 109, 3) := by decide +kernel
theorem dX10_boxes_73 : decode cX10_boxes 73 = .ok (.iload_n 2, 1) := by decide +kernel
theorem dX10_boxes_74 : decode cX10_boxes 74 = .ok (.aload_n 0, 1) := by decide +kernel
theorem dX10_boxes_75 : decode cX10_boxes 75 = .ok (.getfield 155, 3) := by decide +kernel
theorem dX10_boxes_78 : decode cX10_boxes 78 = .ok (.if_icmp .ge 101, 3) := by decide +kernel
theorem dX10_boxes_81 : decode cX10_boxes 81 = .ok (.aload_n 0, 1) := by decide +kernel
theorem dX10_boxes_82 : decode cX10_boxes 82 = .ok (.getfield 37, 3) := by decide +kernel
theorem dX10_boxes_85 : decode cX10_boxes 85 = .ok (.iconst 1, 1) := by decide +kernel
theorem dX10_boxes_86 : decode cX10_boxes 86 = .ok (.iaload, 1) := by decide +kernel
theorem dX10_boxes_87 : decode cX10_boxes 87 = .ok (.istore_n 3, 1) := by decide +kernel
theorem dX10_boxes_88 : decode cX10_boxes 88 = .ok (.iload_n 3, 1) := by decide +kernel
theorem dX10_boxes_89 : decode cX10_boxes 89 = .ok (.aload_n 0, 1) := by decide +kernel
theorem dX10_boxes_90 : decode cX10_boxes 90 = .ok (.getfield 37, 3) := by decide +kernel
theorem dX10_boxes_93 : decode cX10_boxes 93 = .ok (.iconst 1, 1) := by decide +kernel
theorem dX10_boxes_94 : decode cX10_boxes 94 = .ok (.iaload, 1) := by decide +kernel
theorem dX10_boxes_95 : decode cX10_boxes 95 = .ok (.aload_n 0, 1) := by decide +kernel
theorem dX10_boxes_96 : decode cX10_boxes 96 = .ok (.getfield 37, 3) := by decide +kernel
theorem dX10_boxes_99 : decode cX10_boxes 99 = .ok (.iconst 4, 1) := by decide +kernel
theorem dX10_boxes_100 : decode cX10_boxes 100 = .ok (.iaload, 1) := by decide +kernel
theorem dX10_boxes_101 : decode cX10_boxes 101 = .ok (.iadd, 1) := by decide +kernel
theorem dX10_boxes_102 : decode cX10_boxes 102 = .ok (.if_icmp .ge 71, 3) := by decide +kernel
theorem dX10_boxes_105 : decode cX10_boxes 105 = .ok (.iload_n 3, 1) := by decide +kernel
theorem dX10_boxes_106 : decode cX10_boxes 106 = .ok (.aload_n 0, 1) := by decide +kernel
theorem dX10_boxes_107 : decode cX10_boxes 107 = .ok (.getfield 158, 3) := by decide +kernel
theorem dX10_boxes_110 : decode cX10_boxes 110 = .ok (.if_icmp .ge 63, 3) := by decide +kernel
theorem dX10_boxes_113 : decode cX10_boxes 113 = .ok (.aload_n 0, 1) := by decide +kernel
theorem dX10_boxes_114 : decode cX10_boxes 114 = .ok (.getfield 37, 3) := by decide +kernel
theorem dX10_boxes_117 : decode cX10_boxes 117 = .ok (.iconst 0, 1) := by decide +kernel
theorem dX10_boxes_118 : decode cX10_boxes 118 = .ok (.iaload, 1) := by decide +kernel
theorem dX10_boxes_119 : decode cX10_boxes 119 = .ok (.istore 4, 2) := by decide +kernel
theorem dX10_boxes_121 : decode cX10_boxes 121 = .ok (.iload 4, 2) := by decide +kernel
theorem dX10_boxes_123 : decode cX10_boxes 123 = .ok (.aload_n 0, 1) := by decide +kernel
theorem dX10_boxes_124 : decode cX10_boxes 124 = .ok (.getfield 37, 3) := by decide +kernel
theorem dX10_boxes_127 : decode cX10_boxes 127 = .ok (.iconst 0, 1) := by decide +kernel
theorem dX10_boxes_128 : decode cX10_boxes 128 = .ok (.iaload, 1) := by decide +kernel
theorem dX10_boxes_129 : decode cX10_boxes 129 = .ok (.aload_n 0, 1) := by decide +kernel
theorem dX10_boxes_130 : decode cX10_boxes 130 = .ok (.getfield 37, 3) := by decide +kernel
theorem dX10_boxes_133 : decode cX10_boxes 133 = .ok (.iconst 3, 1) := by decide +kernel
theorem dX10_boxes_134 : decode cX10_boxes 134 = .ok (.iaload, 1) := by decide +kernel
theorem dX10_boxes_135 : decode cX10_boxes 135 = .ok (.iadd, 1) := by decide +kernel
theorem dX10_boxes_136 : decode cX10_boxes 136 = .ok (.if_icmp .ge 31, 3) := by decide +kernel
theorem dX10_boxes_139 : decode cX10_boxes 139 = .ok (.iload 4, 2) := by decide +kernel
theorem dX10_boxes_141 : decode cX10_boxes 141 = .ok (.aload_n 0, 1) := by decide +kernel
theorem dX10_boxes_142 : decode cX10_boxes 142 = .ok (.getfield 161, 3) := by decide +kernel
theorem dX10_boxes_145 : decode cX10_boxes 145 = .ok (.if_icmp .ge 22, 3) := by decide +kernel
theorem dX10_boxes_148 : decode cX10_boxes 148 = .ok (.aload_n 0, 1) := by decide +kernel
theorem dX10_boxes_149 : decode cX10_boxes 149 = .ok (.getfield 30, 3) := by decide +kernel
theorem dX10_boxes_152 : decode cX10_boxes 152 = .ok (.iload 4, 2) := by decide +kernel
theorem dX10_boxes_154 : decode cX10_boxes 154 = .ok (.iload_n 3, 1) := by decide +kernel
theorem dX10_boxes_155 : decode cX10_boxes 155 = .ok (.iload_n 2, 1) := by decide +kernel
theorem dX10_boxes_156 : decode cX10_boxes 156 = .ok (.invokestatic 164, 3) := by decide +kernel
theorem dX10_boxes_159 : decode cX10_boxes 159 = .ok (.iload_n 1, 1) := by decide +kernel
theorem dX10_boxes_160 : decode cX10_boxes 160 = .ok (.bastore, 1) := by decide +kernel
theorem dX10_boxes_161 : decode cX10_boxes 161 = .ok (.iinc 4 1, 3) := by decide +kernel
theorem dX10_boxes_164 : decode cX10_boxes 164 = .ok (.goto (-43), 3) := by decide +kernel
theorem dX10_boxes_167 : decode cX10_boxes 167 = .ok (.iinc 3 1, 3) := by decide +kernel
theorem dX10_boxes_170 : decode cX10_boxes 170 = .ok (.goto (-82), 3) := by decide +kernel
theorem dX10_boxes_173 : decode cX10_boxes 173 = .ok (.iinc 2 1, 3) := by decide +kernel
theorem dX10_boxes_176 : decode cX10_boxes 176 = .ok (.goto (-120), 3) := by decide +kernel
theorem dX10_boxes_179 : decode cX10_boxes 179 = .ok (.return_, 1) := by decide +kernel
theorem dX10_mirrors_0 : decode cX10_mirrors 0 = .ok (.aload_n 0, 1) := by decide +kernel
theorem dX10_mirrors_1 : decode cX10_mirrors 1 = .ok (.invokevirtual 133, 3) := by decide +kernel
theorem dX10_mirrors_4 : decode cX10_mirrors 4 = .ok (.istore_n 1, 1) := by decide +kernel
theorem dX10_mirrors_5 : decode cX10_mirrors 5 = .ok (.iload_n 1, 1) := by decide +kernel
theorem dX10_mirrors_6 : decode cX10_mirrors 6 = .ok (.bipush 120, 2) := by decide +kernel
theorem dX10_mirrors_8 : decode cX10_mirrors 8 = .ok (.if_icmp .eq 15, 3) := by decide +kernel
theorem dX10_mirrors_11 : decode cX10_mirrors 11 = .ok (.iload_n 1, 1) := by decide +kernel
theorem dX10_mirrors_12 : decode cX10_mirrors 12 = .ok (.bipush 121, 2) := by decide +kernel
theorem dX10_mirrors_14 : decode cX10_mirrors 14 = .ok (.if_icmp .eq 9, 3) := by decide +kernel
theorem dX10_mirrors_17 : decode cX10_mirrors 17 = .ok (.iload_n 1, 1) := by decide +kernel
theorem dX10_mirrors_18 : decode cX10_mirrors 18 = .ok (.bipush 122, 2) := by decide +kernel
theorem dX10_mirrors_20 : decode cX10_mirrors 20 = .ok (.if_icmp .ne 44, 3) := by decide +kernel
theorem dX10_mirrors_23 : decode cX10_mirrors 23 = .ok (.aload_n 0, 1) := by decide +kernel
theorem dX10_mirrors_24 : decode cX10_mirrors 24 = .ok (.getfield 124, 3) := by decide +kernel
theorem dX10_mirrors_27 : decode cX10_mirrors 27 = .ok (.aload_n 0, 1) := by decide +kernel
theorem dX10_mirrors_28 : decode cX10_mirrors 28 = .ok (.getfield 141, 3) := by decide +kernel
theorem dX10_mirrors_31 : decode cX10_mirrors 31 = .ok (.if_icmp .eq 33, 3) := by decide +kernel
theorem dX10_mirrors_34 : decode cX10_mirrors 34 = .ok (.aload_n 0, 1) := by decide +kernel
theorem dX10_mirrors_35 : decode cX10_mirrors 35 = .ok (.getfield 124, 3) := by decide +kernel
theorem dX10_mirrors_38 : decode cX10_mirrors 38 = .ok (.iconst 1, 1) := by decide +kernel
theorem dX10_mirrors_39 : decode cX10_mirrors 39 = .ok (.iadd, 1) := by decide +kernel
theorem dX10_mirrors_40 : decode cX10_mirrors 40 = .ok (.aload_n 0, 1) := by decide +kernel
theorem dX10_mirrors_41 : decode cX10_mirrors 41 = .ok (.getfield 127, 3) := by decide +kernel
theorem dX10_mirrors_44 : decode cX10_mirrors 44 = .ok (.if_icmp .ge 30, 3) := by decide +kernel
theorem dX10_mirrors_47 : decode cX10_mirrors 47 = .ok (.aload_n 0, 1) := by decide +kernel
theorem dX10_mirrors_48 : decode cX10_mirrors 48 = .ok (.getfield 7, 3) := by decide +kernel
theorem dX10_mirrors_51 : decode cX10_mirrors 51 = .ok (.aload_n 0, 1) := by decide +kernel
theorem dX10_mirrors_52 : decode cX10_mirrors 52 = .ok (.getfield 124, 3) := by decide +kernel
theorem dX10_mirrors_55 : decode cX10_mirrors 55 = .ok (.iconst 1, 1) := by decide +kernel
theorem dX10_mirrors_56 : decode cX10_mirrors 56 = .ok (.iadd, 1) := by decide +kernel
theorem dX10_mirrors_57 : decode cX10_mirrors 57 = .ok (.iaload, 1) := by decide +kernel
theorem dX10_mirrors_58 : decode cX10_mirrors 58 = .ok (.invokestatic 148, 3) := by decide +kernel
theorem dX10_mirrors_61 : decode cX10_mirrors 61 = .ok (.ifCond .eq 13, 3) := by decide +kernel
theorem dX10_mirrors_64 : decode cX10_mirrors 64 = .ok (.aload_n 0, 1) := by decide +kernel
theorem dX10_mirrors_65 : decode cX10_mirrors 65 = .ok (.iconst 1, 1) := by decide +kernel
theorem dX10_mirrors_66 : decode cX10_mirrors 66 = .ok (.aload_n 0, 1) := by decide +kernel
theorem dX10_mirrors_67 : decode cX10_mirrors 67 = .ok (.getfield 124, 3) := by decide +kernel
theorem dX10_mirrors_70 : decode cX10_mirrors 70 = .ok (.invokevirtual 144, 3) := by decide +kernel
theorem dX10_mirrors_73 : decode cX10_mirrors 73 = .ok (.return_, 1) := by decide +kernel
theorem dX10_mirrors_74 : decode cX10_mirrors 74 = .ok (.aload_n 0, 1) := by decide +kernel
theorem dX10_mirrors_75 : decode cX10_mirrors 75 = .ok (.dup, 1) := by decide +kernel
theorem dX10_mirrors_76 : decode cX10_mirrors 76 = .ok (.getfield 124, 3) := by decide +kernel
theorem dX10_mirrors_79 : decode cX10_mirrors 79 = .ok (.iconst 1, 1) := by decide +kernel
theorem dX10_mirrors_80 : decode cX10_mirrors 80 = .ok (.iadd, 1) := by decide +kernel
theorem dX10_mirrors_81 : decode cX10_mirrors 81 = .ok (.putfield 124, 3) := by decide +kernel
theorem dX10_mirrors_84 : decode cX10_mirrors 84 = .ok (.aload_n 0, 1) := by decide +kernel
theorem dX10_mirrors_85 : decode cX10_mirrors 85 = .ok (.aload_n 0, 1) := by decide +kernel
theorem dX10_mirrors_86 : decode cX10_mirrors 86 = .ok (.getfield 124, 3) := by decide +kernel
theorem dX10_mirrors_89 : decode cX10_mirrors 89 = .ok (.putfield 141, 3) := by decide +kernel
theorem dX10_mirrors_92 : decode cX10_mirrors 92 = .ok (.iconst 0, 1) := by decide +kernel
theorem dX10_mirrors_93 : decode cX10_mirrors 93 = .ok (.istore_n 2, 1) := by decide +kernel
theorem dX10_mirrors_94 : decode cX10_mirrors 94 = .ok (.iload_n 2, 1) := by decide +kernel
theorem dX10_mirrors_95 : decode cX10_mirrors 95 = .ok (.sipush 512, 3) := by decide +kernel
theorem dX10_mirrors_98 : decode cX10_mirrors 98 = .ok (.if_icmp .ge 21, 3) := by decide +kernel
theorem dX10_mirrors_101 : decode cX10_mirrors 101 = .ok (.aload_n 0, 1) := by decide +kernel
theorem dX10_mirrors_102 : decode cX10_mirrors 102 = .ok (.getfield 34, 3) := by decide +kernel
theorem dX10_mirrors_105 : decode cX10_mirrors 105 = .ok (.iload_n 2, 1) := by decide +kernel
theorem dX10_mirrors_106 : decode cX10_mirrors 106 = .ok (.aload_n 0, 1) := by decide +kernel
theorem dX10_mirrors_107 : decode cX10_mirrors 107 = .ok (.getfield 30, 3) := by decide +kernel
theorem dX10_mirrors_110 : decode cX10_mirrors 110 = .ok (.iload_n 2, 1) := by decide +kernel
theorem dX10_mirrors_111 : decode cX10_mirrors 111 = .ok (.baload, 1) := by decide +kernel
theorem dX10_mirrors_112 : decode cX10_mirrors 112 = .ok (.bastore, 1) := by decide +kernel
theorem dX10_mirrors_113 : decode cX10_mirrors 113 = .ok (.iinc 2 1, 3) := by decide +kernel
theorem dX10_mirrors_116 : decode cX10_mirrors 116 = .ok (.goto (-22), 3) := by decide +kernel
theorem dX10_mirrors_119 : decode cX10_mirrors 119 = .ok (.iconst 0, 1) := by decide +kernel
theorem dX10_mirrors_120 : decode cX10_mirrors 120 = .ok (.istore_n 2, 1) := by decide +kernel
theorem dX10_mirrors_121 : decode cX10_mirrors 121 = .ok (.iload_n 2, 1) := by decide +kernel
theorem dX10_mirrors_122 : decode cX10_mirrors 122 = .ok (.aload_n 0, 1) := by decide +kernel
theorem dX10_mirrors_123 : decode cX10_mirrors 123 = .ok (.getfield 155, 3) := by decide +kernel
theorem dX10_mirrors_126 : decode cX10_mirrors 126 = .ok (.if_icmp .ge 126, 3) := by decide +kernel
theorem dX10_mirrors_129 : decode cX10_mirrors 129 = .ok (.iconst 0, 1) := by decide +kernel
theorem dX10_mirrors_130 : decode cX10_mirrors 130 = .ok (.istore_n 3, 1) := by decide +kernel
theorem dX10_mirrors_131 : decode cX10_mirrors 131 = .ok (.iload_n 3, 1) := by decide +kernel
theorem dX10_mirrors_132 : decode cX10_mirrors 132 = .ok (.aload_n 0, 1) := by decide +kernel
theorem dX10_mirrors_133 : decode cX10_mirrors 133 = .ok (.getfield 158, 3) := by decide +kernel
theorem dX10_mirrors_136 : decode cX10_mirrors 136 = .ok (.if_icmp .ge 110, 3) := by decide +kernel
theorem dX10_mirrors_139 : decode cX10_mirrors 139 = .ok (.iconst 0, 1) := by decide +kernel
theorem dX10_mirrors_140 : decode cX10_mirrors 140 = .ok (.istore 4, 2) := by decide +kernel
theorem dX10_mirrors_142 : decode cX10_mirrors 142 = .ok (.iload 4, 2) := by decide +kernel
theorem dX10_mirrors_144 : decode cX10_mirrors 144 = .ok (.aload_n 0, 1) := by decide +kernel
theorem dX10_mirrors_145 : decode cX10_mirrors 145 = .ok (.getfield 161, 3) := by decide +kernel
theorem dX10_mirrors_148 : decode cX10_mirrors 148 = .ok (.if_icmp .ge 92, 3) := by decide +kernel
theorem dX10_mirrors_151 : decode cX10_mirrors 151 = .ok (.aload_n 0, 1) := by decide +kernel
theorem dX10_mirrors_152 : decode cX10_mirrors 152 = .ok (.getfield 34, 3) := by decide +kernel
theorem dX10_mirrors_155 : decode cX10_mirrors 155 = .ok (.iload 4, 2) := by decide +kernel
theorem dX10_mirrors_157 : decode cX10_mirrors 157 = .ok (.iload_n 3, 1) := by decide +kernel
theorem dX10_mirrors_158 : decode cX10_mirrors 158 = .ok (.iload_n 2, 1) := by decide +kernel
theorem dX10_mirrors_159 : decode cX10_mirrors 159 = .ok (.invokestatic 164, 3) := by decide +kernel
theorem dX10_mirrors_162 : decode cX10_mirrors 162 = .ok (.baload, 1) := by decide +kernel
theorem dX10_mirrors_163 : decode cX10_mirrors 163 = .ok (.ifCond .ne 6, 3) := by decide +kernel
theorem dX10_mirrors_166 : decode cX10_mirrors 166 = .ok (.goto 68, 3) := by decide +kernel
theorem dX10_mirrors_169 : decode cX10_mirrors 169 = .ok (.aload_n 0, 1) := by decide +kernel
theorem dX10_mirrors_170 : decode cX10_mirrors 170 = .ok (.getfield 30, 3) := by decide +kernel
theorem dX10_mirrors_173 : decode cX10_mirrors 173 = .ok (.iload_n 1, 1) := by decide +kernel
theorem dX10_mirrors_174 : decode cX10_mirrors 174 = .ok (.bipush 120, 2) := by decide +kernel
theorem dX10_mirrors_176 : decode cX10_mirrors 176 = .ok (.if_icmp .ne 15, 3) := by decide +kernel
theorem dX10_mirrors_179 : decode cX10_mirrors 179 = .ok (.aload_n 0, 1) := by decide +kernel
theorem dX10_mirrors_180 : decode cX10_mirrors 180 = .ok (.getfield 161, 3) := by decide +kernel
theorem dX10_mirrors_183 : decode cX10_mirrors 183 = .ok (.iconst 1, 1) := by decide +kernel
theorem dX10_mirrors_184 : decode cX10_mirrors 184 = .ok (.isub, 1) := by decide +kernel
theorem dX10_mirrors_185 : decode cX10_mirrors 185 = .ok (.iload 4, 2) := by decide +kernel
theorem dX10_mirrors_187 : decode cX10_mirrors 187 = .ok (.isub, 1) := by decide +kernel
theorem dX10_mirrors_188 : decode cX10_mirrors 188 = .ok (.goto 5, 3) := by decide +kernel
theorem dX10_mirrors_191 : decode cX10_mirrors 191 = .ok (.iload 4, 2) := by decide +kernel
theorem dX10_mirrors_193 : decode cX10_mirrors 193 = .ok (.iload_n 1, 1) := by decide +kernel
theorem dX10_mirrors_194 : decode cX10_mirrors 194 = .ok (.bipush 121, 2) := by decide +kernel
theorem dX10_mirrors_196 : decode cX10_mirrors 196 = .ok (.if_icmp .ne 14, 3) := by decide +kernel
theorem dX10_mirrors_199 : decode cX10_mirrors 199 = .ok (.aload_n 0, 1) := by decide +kernel
theorem dX10_mirrors_200 : decode cX10_mirrors 200 = .ok (.getfield 158, 3) := by decide +kernel
theorem dX10_mirrors_203 : decode cX10_mirrors 203 = .ok (.iconst 1, 1) := by decide +kernel
theorem dX10_mirrors_204 : decode cX10_mirrors 204 = .ok (.isub, 1) := by decide +kernel
theorem dX10_mirrors_205 : decode cX10_mirrors 205 = .ok (.iload_n 3, 1) := by decide +kernel
theorem dX10_mirrors_206 : decode cX10_mirrors 206 = .ok (.isub, 1) := by decide +kernel
theorem dX10_mirrors_207 : decode cX10_mirrors 207 = .ok (.goto 4, 3) := by decide +kernel
theorem dX10_mirrors_210 : decode cX10_mirrors 210 = .ok (.iload_n 3, 1) := by decide +kernel
theorem dX10_mirrors_211 : decode cX10_mirrors 211 = .ok (.iload_n 1, 1) := by decide +kernel
theorem dX10_mirrors_212 : decode cX10_mirrors 212 = .ok (.bipush 122, 2) := by decide +kernel
theorem dX10_mirrors_214 : decode cX10_mirrors 214 = .ok (.if_icmp .ne 14, 3) := by decide +kernel
theorem dX10_mirrors_217 : decode cX10_mirrors 217 = .ok (.aload_n 0, 1) := by decide +kernel
theorem dX10_mirrors_218 : decode cX10_mirrors 218 = .ok (.getfield 155, 3) := by decide +kernel
theorem dX10_mirrors_221 : decode cX10_mirrors 221 = .ok (.iconst 1, 1) := by decide +kernel
theorem dX10_mirrors_222 : decode cX10_mirrors 222 = .ok (.isub, 1) := by decide +kernel
theorem dX10_mirrors_223 : decode cX10_mirrors 223 = .ok (.iload_n 2, 1) := by decide +kernel
theorem dX10_mirrors_224 : decode cX10_mirrors 224 = .ok (.isub, 1) := by decide +kernel
theorem dX10_mirrors_225 : decode cX10_mirrors 225 = .ok (.goto 4, 3) := by decide +kernel
theorem dX10_mirrors_228 : decode cX10_mirrors 228 = .ok (.iload_n 2, 1) := by decide +kernel
theorem dX10_mirrors_229 : decode cX10_mirrors 229 = .ok (.invokestatic 164, 3) := by decide +kernel
theorem dX10_mirrors_232 : decode cX10_mirrors 232 = .ok (.iconst 1, 1) := by decide +kernel
theorem dX10_mirrors_233 : decode cX10_mirrors 233 = .ok (.bastore, 1) := by decide +kernel
theorem dX10_mirrors_234 : decode cX10_mirrors 234 = .ok (.iinc 4 1, 3) := by decide +kernel
theorem dX10_mirrors_237 : decode cX10_mirrors 237 = .ok (.goto (-95), 3) := by decide +kernel
theorem dX10_mirrors_240 : decode cX10_mirrors 240 = .ok (.iinc 3 1, 3) := by decide +kernel
theorem dX10_mirrors_243 : decode cX10_mirrors 243 = .ok (.goto (-112), 3) := by decide +kernel
theorem dX10_mirrors_246 : decode cX10_mirrors 246 = .ok (.iinc 2 1, 3) := by decide +kernel
theorem dX10_mirrors_249 : decode cX10_mirrors 249 = .ok (.goto (-128), 3) := by decide +kernel
theorem dX10_mirrors_252 : decode cX10_mirrors 252 = .ok (.return_, 1) := by decide +kernel
theorem dX10_turns_0 : decode cX10_turns 0 = .ok (.aload_n 0, 1) := by decide +kernel
theorem dX10_turns_1 : decode cX10_turns 1 = .ok (.getfield 161, 3) := by decide +kernel
theorem dX10_turns_4 : decode cX10_turns 4 = .ok (.aload_n 0, 1) := by decide +kernel
theorem dX10_turns_5 : decode cX10_turns 5 = .ok (.getfield 158, 3) := by decide +kernel
theorem dX10_turns_8 : decode cX10_turns 8 = .ok (.if_icmp .eq 10, 3) := by decide +kernel
theorem dX10_turns_11 : decode cX10_turns 11 = .ok (.aload_n 0, 1) := by decide +kernel
theorem dX10_turns_12 : decode cX10_turns 12 = .ok (.iconst 2, 1) := by decide +kernel
theorem dX10_turns_13 : decode cX10_turns 13 = .ok (.iload_n 1, 1) := by decide +kernel
theorem dX10_turns_14 : decode cX10_turns 14 = .ok (.invokevirtual 144, 3) := by decide +kernel
theorem dX10_turns_17 : decode cX10_turns 17 = .ok (.return_, 1) := by decide +kernel
theorem dX10_turns_18 : decode cX10_turns 18 = .ok (.iconst 0, 1) := by decide +kernel
theorem dX10_turns_19 : decode cX10_turns 19 = .ok (.istore_n 2, 1) := by decide +kernel
theorem dX10_turns_20 : decode cX10_turns 20 = .ok (.iload_n 2, 1) := by decide +kernel
theorem dX10_turns_21 : decode cX10_turns 21 = .ok (.sipush 512, 3) := by decide +kernel
theorem dX10_turns_24 : decode cX10_turns 24 = .ok (.if_icmp .ge 21, 3) := by decide +kernel
theorem dX10_turns_27 : decode cX10_turns 27 = .ok (.aload_n 0, 1) := by decide +kernel
theorem dX10_turns_28 : decode cX10_turns 28 = .ok (.getfield 34, 3) := by decide +kernel
theorem dX10_turns_31 : decode cX10_turns 31 = .ok (.iload_n 2, 1) := by decide +kernel
theorem dX10_turns_32 : decode cX10_turns 32 = .ok (.aload_n 0, 1) := by decide +kernel
theorem dX10_turns_33 : decode cX10_turns 33 = .ok (.getfield 30, 3) := by decide +kernel
theorem dX10_turns_36 : decode cX10_turns 36 = .ok (.iload_n 2, 1) := by decide +kernel
theorem dX10_turns_37 : decode cX10_turns 37 = .ok (.baload, 1) := by decide +kernel
theorem dX10_turns_38 : decode cX10_turns 38 = .ok (.bastore, 1) := by decide +kernel
theorem dX10_turns_39 : decode cX10_turns 39 = .ok (.iinc 2 1, 3) := by decide +kernel
theorem dX10_turns_42 : decode cX10_turns 42 = .ok (.goto (-22), 3) := by decide +kernel
theorem dX10_turns_45 : decode cX10_turns 45 = .ok (.iconst 0, 1) := by decide +kernel
theorem dX10_turns_46 : decode cX10_turns 46 = .ok (.istore_n 2, 1) := by decide +kernel
theorem dX10_turns_47 : decode cX10_turns 47 = .ok (.iload_n 2, 1) := by decide +kernel
theorem dX10_turns_48 : decode cX10_turns 48 = .ok (.aload_n 0, 1) := by decide +kernel
theorem dX10_turns_49 : decode cX10_turns 49 = .ok (.getfield 155, 3) := by decide +kernel
theorem dX10_turns_52 : decode cX10_turns 52 = .ok (.if_icmp .ge 74, 3) := by decide +kernel
theorem dX10_turns_55 : decode cX10_turns 55 = .ok (.iconst 0, 1) := by decide +kernel
theorem dX10_turns_56 : decode cX10_turns 56 = .ok (.istore_n 3, 1) := by decide +kernel
theorem dX10_turns_57 : decode cX10_turns 57 = .ok (.iload_n 3, 1) := by decide +kernel
theorem dX10_turns_58 : decode cX10_turns 58 = .ok (.aload_n 0, 1) := by decide +kernel
theorem dX10_turns_59 : decode cX10_turns 59 = .ok (.getfield 158, 3) := by decide +kernel
theorem dX10_turns_62 : decode cX10_turns 62 = .ok (.if_icmp .ge 58, 3) := by decide +kernel
theorem dX10_turns_65 : decode cX10_turns 65 = .ok (.iconst 0, 1) := by decide +kernel
theorem dX10_turns_66 : decode cX10_turns 66 = .ok (.istore 4, 2) := by decide +kernel
theorem dX10_turns_68 : decode cX10_turns 68 = .ok (.iload 4, 2) := by decide +kernel
theorem dX10_turns_70 : decode cX10_turns 70 = .ok (.aload_n 0, 1) := by decide +kernel
theorem dX10_turns_71 : decode cX10_turns 71 = .ok (.getfield 161, 3) := by decide +kernel
theorem dX10_turns_74 : decode cX10_turns 74 = .ok (.if_icmp .ge 40, 3) := by decide +kernel
theorem dX10_turns_77 : decode cX10_turns 77 = .ok (.aload_n 0, 1) := by decide +kernel
theorem dX10_turns_78 : decode cX10_turns 78 = .ok (.getfield 30, 3) := by decide +kernel
theorem dX10_turns_81 : decode cX10_turns 81 = .ok (.iload_n 3, 1) := by decide +kernel
theorem dX10_turns_82 : decode cX10_turns 82 = .ok (.aload_n 0, 1) := by decide +kernel
theorem dX10_turns_83 : decode cX10_turns 83 = .ok (.getfield 161, 3) := by decide +kernel
theorem dX10_turns_86 : decode cX10_turns 86 = .ok (.iconst 1, 1) := by decide +kernel
theorem dX10_turns_87 : decode cX10_turns 87 = .ok (.isub, 1) := by decide +kernel
theorem dX10_turns_88 : decode cX10_turns 88 = .ok (.iload 4, 2) := by decide +kernel
theorem dX10_turns_90 : decode cX10_turns 90 = .ok (.isub, 1) := by decide +kernel
theorem dX10_turns_91 : decode cX10_turns 91 = .ok (.iload_n 2, 1) := by decide +kernel
theorem dX10_turns_92 : decode cX10_turns 92 = .ok (.invokestatic 164, 3) := by decide +kernel
theorem dX10_turns_95 : decode cX10_turns 95 = .ok (.aload_n 0, 1) := by decide +kernel
theorem dX10_turns_96 : decode cX10_turns 96 = .ok (.getfield 34, 3) := by decide +kernel
theorem dX10_turns_99 : decode cX10_turns 99 = .ok (.iload 4, 2) := by decide +kernel
theorem dX10_turns_101 : decode cX10_turns 101 = .ok (.iload_n 3, 1) := by decide +kernel
theorem dX10_turns_102 : decode cX10_turns 102 = .ok (.iload_n 2, 1) := by decide +kernel
theorem dX10_turns_103 : decode cX10_turns 103 = .ok (.invokestatic 164, 3) := by decide +kernel
theorem dX10_turns_106 : decode cX10_turns 106 = .ok (.baload, 1) := by decide +kernel
theorem dX10_turns_107 : decode cX10_turns 107 = .ok (.bastore, 1) := by decide +kernel
theorem dX10_turns_108 : decode cX10_turns 108 = .ok (.iinc 4 1, 3) := by decide +kernel
theorem dX10_turns_111 : decode cX10_turns 111 = .ok (.goto (-43), 3) := by decide +kernel
theorem dX10_turns_114 : decode cX10_turns 114 = .ok (.iinc 3 1, 3) := by decide +kernel
theorem dX10_turns_117 : decode cX10_turns 117 = .ok (.goto (-60), 3) := by decide +kernel
theorem dX10_turns_120 : decode cX10_turns 120 = .ok (.iinc 2 1, 3) := by decide +kernel
theorem dX10_turns_123 : decode cX10_turns 123 = .ok (.goto (-76), 3) := by decide +kernel
theorem dX10_turns_126 : decode cX10_turns 126 = .ok (.return_, 1) := by decide +kernel
theorem dX10_reads_0 : decode cX10_reads 0 = .ok (.aload_n 0, 1) := by decide +kernel
theorem dX10_reads_1 : decode cX10_reads 1 = .ok (.getfield 118, 3) := by decide +kernel
theorem dX10_reads_4 : decode cX10_reads 4 = .ok (.ifCond .ne 138, 3) := by decide +kernel
theorem dX10_reads_7 : decode cX10_reads 7 = .ok (.aload_n 0, 1) := by decide +kernel
theorem dX10_reads_8 : decode cX10_reads 8 = .ok (.invokevirtual 133, 3) := by decide +kernel
theorem dX10_reads_11 : decode cX10_reads 11 = .ok (.iconst (-1), 1) := by decide +kernel
theorem dX10_reads_12 : decode cX10_reads 12 = .ok (.if_icmp .eq 130, 3) := by decide +kernel
theorem dX10_reads_15 : decode cX10_reads 15 = .ok (.aload_n 0, 1) := by decide +kernel
theorem dX10_reads_16 : decode cX10_reads 16 = .ok (.getfield 124, 3) := by decide +kernel
theorem dX10_reads_19 : decode cX10_reads 19 = .ok (.istore_n 1, 1) := by decide +kernel
theorem dX10_reads_20 : decode cX10_reads 20 = .ok (.aload_n 0, 1) := by decide +kernel
theorem dX10_reads_21 : decode cX10_reads 21 = .ok (.aload_n 0, 1) := by decide +kernel
theorem dX10_reads_22 : decode cX10_reads 22 = .ok (.getfield 17, 3) := by decide +kernel
theorem dX10_reads_25 : decode cX10_reads 25 = .ok (.invokevirtual 168, 3) := by decide +kernel
theorem dX10_reads_28 : decode cX10_reads 28 = .ok (.ifCond .eq 11, 3) := by decide +kernel
theorem dX10_reads_31 : decode cX10_reads 31 = .ok (.aload_n 0, 1) := by decide +kernel
theorem dX10_reads_32 : decode cX10_reads 32 = .ok (.iconst 1, 1) := by decide +kernel
theorem dX10_reads_33 : decode cX10_reads 33 = .ok (.invokevirtual 172, 3) := by decide +kernel
theorem dX10_reads_36 : decode cX10_reads 36 = .ok (.goto 68, 3) := by decide +kernel
theorem dX10_reads_39 : decode cX10_reads 39 = .ok (.aload_n 0, 1) := by decide +kernel
theorem dX10_reads_40 : decode cX10_reads 40 = .ok (.aload_n 0, 1) := by decide +kernel
theorem dX10_reads_41 : decode cX10_reads 41 = .ok (.getfield 21, 3) := by decide +kernel
theorem dX10_reads_44 : decode cX10_reads 44 = .ok (.invokevirtual 168, 3) := by decide +kernel
theorem dX10_reads_47 : decode cX10_reads 47 = .ok (.ifCond .eq 11, 3) := by decide +kernel
theorem dX10_reads_50 : decode cX10_reads 50 = .ok (.aload_n 0, 1) := by decide +kernel
theorem dX10_reads_51 : decode cX10_reads 51 = .ok (.iconst 0, 1) := by decide +kernel
theorem dX10_reads_52 : decode cX10_reads 52 = .ok (.invokevirtual 172, 3) := by decide +kernel
theorem dX10_reads_55 : decode cX10_reads 55 = .ok (.goto 49, 3) := by decide +kernel
theorem dX10_reads_58 : decode cX10_reads 58 = .ok (.aload_n 0, 1) := by decide +kernel
theorem dX10_reads_59 : decode cX10_reads 59 = .ok (.aload_n 0, 1) := by decide +kernel
theorem dX10_reads_60 : decode cX10_reads 60 = .ok (.getfield 24, 3) := by decide +kernel
theorem dX10_reads_63 : decode cX10_reads 63 = .ok (.invokevirtual 168, 3) := by decide +kernel
theorem dX10_reads_66 : decode cX10_reads 66 = .ok (.ifCond .eq 10, 3) := by decide +kernel
theorem dX10_reads_69 : decode cX10_reads 69 = .ok (.aload_n 0, 1) := by decide +kernel
theorem dX10_reads_70 : decode cX10_reads 70 = .ok (.invokevirtual 176, 3) := by decide +kernel
theorem dX10_reads_73 : decode cX10_reads 73 = .ok (.goto 31, 3) := by decide +kernel
theorem dX10_reads_76 : decode cX10_reads 76 = .ok (.aload_n 0, 1) := by decide +kernel
theorem dX10_reads_77 : decode cX10_reads 77 = .ok (.aload_n 0, 1) := by decide +kernel
theorem dX10_reads_78 : decode cX10_reads 78 = .ok (.getfield 27, 3) := by decide +kernel
theorem dX10_reads_81 : decode cX10_reads 81 = .ok (.invokevirtual 168, 3) := by decide +kernel
theorem dX10_reads_84 : decode cX10_reads 84 = .ok (.ifCond .eq 11, 3) := by decide +kernel
theorem dX10_reads_87 : decode cX10_reads 87 = .ok (.aload_n 0, 1) := by decide +kernel
theorem dX10_reads_88 : decode cX10_reads 88 = .ok (.iload_n 1, 1) := by decide +kernel
theorem dX10_reads_89 : decode cX10_reads 89 = .ok (.invokevirtual 179, 3) := by decide +kernel
theorem dX10_reads_92 : decode cX10_reads 92 = .ok (.goto 12, 3) := by decide +kernel
theorem dX10_reads_95 : decode cX10_reads 95 = .ok (.aload_n 0, 1) := by decide +kernel
theorem dX10_reads_96 : decode cX10_reads 96 = .ok (.iconst 1, 1) := by decide +kernel
theorem dX10_reads_97 : decode cX10_reads 97 = .ok (.aload_n 0, 1) := by decide +kernel
theorem dX10_reads_98 : decode cX10_reads 98 = .ok (.getfield 124, 3) := by decide +kernel
theorem dX10_reads_101 : decode cX10_reads 101 = .ok (.invokevirtual 144, 3) := by decide +kernel
theorem dX10_reads_104 : decode cX10_reads 104 = .ok (.aload_n 0, 1) := by decide +kernel
theorem dX10_reads_105 : decode cX10_reads 105 = .ok (.getfield 118, 3) := by decide +kernel
theorem dX10_reads_108 : decode cX10_reads 108 = .ok (.ifCond .ne 21, 3) := by decide +kernel
theorem dX10_reads_111 : decode cX10_reads 111 = .ok (.aload_n 0, 1) := by decide +kernel
theorem dX10_reads_112 : decode cX10_reads 112 = .ok (.invokevirtual 133, 3) := by decide +kernel
theorem dX10_reads_115 : decode cX10_reads 115 = .ok (.bipush 59, 2) := by decide +kernel
theorem dX10_reads_117 : decode cX10_reads 117 = .ok (.if_icmp .eq 12, 3) := by decide +kernel
theorem dX10_reads_120 : decode cX10_reads 120 = .ok (.aload_n 0, 1) := by decide +kernel
theorem dX10_reads_121 : decode cX10_reads 121 = .ok (.iconst 1, 1) := by decide +kernel
theorem dX10_reads_122 : decode cX10_reads 122 = .ok (.aload_n 0, 1) := by decide +kernel
theorem dX10_reads_123 : decode cX10_reads 123 = .ok (.getfield 124, 3) := by decide +kernel
theorem dX10_reads_126 : decode cX10_reads 126 = .ok (.invokevirtual 144, 3) := by decide +kernel
theorem dX10_reads_129 : decode cX10_reads 129 = .ok (.aload_n 0, 1) := by decide +kernel
theorem dX10_reads_130 : decode cX10_reads 130 = .ok (.dup, 1) := by decide +kernel
theorem dX10_reads_131 : decode cX10_reads 131 = .ok (.getfield 124, 3) := by decide +kernel
theorem dX10_reads_134 : decode cX10_reads 134 = .ok (.iconst 1, 1) := by decide +kernel
theorem dX10_reads_135 : decode cX10_reads 135 = .ok (.iadd, 1) := by decide +kernel
theorem dX10_reads_136 : decode cX10_reads 136 = .ok (.putfield 124, 3) := by decide +kernel
theorem dX10_reads_139 : decode cX10_reads 139 = .ok (.goto (-139), 3) := by decide +kernel
theorem dX10_reads_142 : decode cX10_reads 142 = .ok (.return_, 1) := by decide +kernel
theorem dX10_isIn_0 : decode cX10_isIn 0 = .ok (.iload_n 0, 1) := by decide +kernel
theorem dX10_isIn_1 : decode cX10_isIn 1 = .ok (.iload_n 1, 1) := by decide +kernel
theorem dX10_isIn_2 : decode cX10_isIn 2 = .ok (.if_icmp .lt 12, 3) := by decide +kernel
theorem dX10_isIn_5 : decode cX10_isIn 5 = .ok (.iload_n 0, 1) := by decide +kernel
theorem dX10_isIn_6 : decode cX10_isIn 6 = .ok (.iload_n 2, 1) := by decide +kernel
theorem dX10_isIn_7 : decode cX10_isIn 7 = .ok (.if_icmp .gt 7, 3) := by decide +kernel
theorem dX10_isIn_10 : decode cX10_isIn 10 = .ok (.iconst 1, 1) := by decide +kernel
theorem dX10_isIn_11 : decode cX10_isIn 11 = .ok (.goto 4, 3) := by decide +kernel
theorem dX10_isIn_14 : decode cX10_isIn 14 = .ok (.iconst 0, 1) := by decide +kernel
theorem dX10_isIn_15 : decode cX10_isIn 15 = .ok (.ireturn, 1) := by decide +kernel
theorem dX10_place_0 : decode cX10_place 0 = .ok (.iload_n 2, 1) := by decide +kernel
theorem dX10_place_1 : decode cX10_place 1 = .ok (.iconst 1, 1) := by decide +kernel
theorem dX10_place_2 : decode cX10_place 2 = .ok (.iadd, 1) := by decide +kernel
theorem dX10_place_3 : decode cX10_place 3 = .ok (.bipush 10, 2) := by decide +kernel
theorem dX10_place_5 : decode cX10_place 5 = .ok (.imul, 1) := by decide +kernel
theorem dX10_place_6 : decode cX10_place 6 = .ok (.iload_n 1, 1) := by decide +kernel
theorem dX10_place_7 : decode cX10_place 7 = .ok (.iadd, 1) := by decide +kernel
theorem dX10_place_8 : decode cX10_place 8 = .ok (.iconst 1, 1) := by decide +kernel
theorem dX10_place_9 : decode cX10_place 9 = .ok (.iadd, 1) := by decide +kernel
theorem dX10_place_10 : decode cX10_place 10 = .ok (.bipush 10, 2) := by decide +kernel
theorem dX10_place_12 : decode cX10_place 12 = .ok (.imul, 1) := by decide +kernel
theorem dX10_place_13 : decode cX10_place 13 = .ok (.iload_n 0, 1) := by decide +kernel
theorem dX10_place_14 : decode cX10_place 14 = .ok (.iadd, 1) := by decide +kernel
theorem dX10_place_15 : decode cX10_place 15 = .ok (.iconst 1, 1) := by decide +kernel
theorem dX10_place_16 : decode cX10_place 16 = .ok (.iadd, 1) := by decide +kernel
theorem dX10_place_17 : decode cX10_place 17 = .ok (.ireturn, 1) := by decide +kernel
theorem dX10_isMould_0 : decode cX10_isMould 0 = .ok (.aload_n 0, 1) := by decide +kernel
theorem dX10_isMould_1 : decode cX10_isMould 1 = .ok (.getfield 183, 3) := by decide +kernel
theorem dX10_isMould_4 : decode cX10_isMould 4 = .ok (.ifCond .eq 46, 3) := by decide +kernel
theorem dX10_isMould_7 : decode cX10_isMould 7 = .ok (.iload_n 1, 1) := by decide +kernel
theorem dX10_isMould_8 : decode cX10_isMould 8 = .ok (.iconst (-1), 1) := by decide +kernel
theorem dX10_isMould_9 : decode cX10_isMould 9 = .ok (.if_icmp .lt 41, 3) := by decide +kernel
theorem dX10_isMould_12 : decode cX10_isMould 12 = .ok (.iload_n 1, 1) := by decide +kernel
theorem dX10_isMould_13 : decode cX10_isMould 13 = .ok (.aload_n 0, 1) := by decide +kernel
theorem dX10_isMould_14 : decode cX10_isMould 14 = .ok (.getfield 187, 3) := by decide +kernel
theorem dX10_isMould_17 : decode cX10_isMould 17 = .ok (.if_icmp .gt 33, 3) := by decide +kernel
theorem dX10_isMould_20 : decode cX10_isMould 20 = .ok (.iload_n 2, 1) := by decide +kernel
theorem dX10_isMould_21 : decode cX10_isMould 21 = .ok (.iconst (-1), 1) := by decide +kernel
theorem dX10_isMould_22 : decode cX10_isMould 22 = .ok (.if_icmp .lt 28, 3) := by decide +kernel
theorem dX10_isMould_25 : decode cX10_isMould 25 = .ok (.iload_n 2, 1) := by decide +kernel
theorem dX10_isMould_26 : decode cX10_isMould 26 = .ok (.aload_n 0, 1) := by decide +kernel
theorem dX10_isMould_27 : decode cX10_isMould 27 = .ok (.getfield 190, 3) := by decide +kernel
theorem dX10_isMould_30 : decode cX10_isMould 30 = .ok (.if_icmp .gt 20, 3) := by decide +kernel
theorem dX10_isMould_33 : decode cX10_isMould 33 = .ok (.iload_n 3, 1) := by decide +kernel
theorem dX10_isMould_34 : decode cX10_isMould 34 = .ok (.iconst (-1), 1) := by decide +kernel
theorem dX10_isMould_35 : decode cX10_isMould 35 = .ok (.if_icmp .lt 15, 3) := by decide +kernel
theorem dX10_isMould_38 : decode cX10_isMould 38 = .ok (.iload_n 3, 1) := by decide +kernel
theorem dX10_isMould_39 : decode cX10_isMould 39 = .ok (.aload_n 0, 1) := by decide +kernel
theorem dX10_isMould_40 : decode cX10_isMould 40 = .ok (.getfield 193, 3) := by decide +kernel
theorem dX10_isMould_43 : decode cX10_isMould 43 = .ok (.if_icmp .gt 7, 3) := by decide +kernel
theorem dX10_isMould_46 : decode cX10_isMould 46 = .ok (.iconst 1, 1) := by decide +kernel
theorem dX10_isMould_47 : decode cX10_isMould 47 = .ok (.goto 4, 3) := by decide +kernel
theorem dX10_isMould_50 : decode cX10_isMould 50 = .ok (.iconst 0, 1) := by decide +kernel
theorem dX10_isMould_51 : decode cX10_isMould 51 = .ok (.ireturn, 1) := by decide +kernel
theorem dX10_form_0 : decode cX10_form 0 = .ok (.iload_n 1, 1) := by decide +kernel
theorem dX10_form_1 : decode cX10_form 1 = .ok (.iconst 1, 1) := by decide +kernel
theorem dX10_form_2 : decode cX10_form 2 = .ok (.bipush 8, 2) := by decide +kernel
theorem dX10_form_4 : decode cX10_form 4 = .ok (.invokestatic 196, 3) := by decide +kernel
theorem dX10_form_7 : decode cX10_form 7 = .ok (.ifCond .eq 23, 3) := by decide +kernel
theorem dX10_form_10 : decode cX10_form 10 = .ok (.iload_n 2, 1) := by decide +kernel
theorem dX10_form_11 : decode cX10_form 11 = .ok (.iconst 1, 1) := by decide +kernel
theorem dX10_form_12 : decode cX10_form 12 = .ok (.bipush 8, 2) := by decide +kernel
theorem dX10_form_14 : decode cX10_form 14 = .ok (.invokestatic 196, 3) := by decide +kernel
theorem dX10_form_17 : decode cX10_form 17 = .ok (.ifCond .eq 13, 3) := by decide +kernel
theorem dX10_form_20 : decode cX10_form 20 = .ok (.iload_n 3, 1) := by decide +kernel
theorem dX10_form_21 : decode cX10_form 21 = .ok (.iconst 1, 1) := by decide +kernel
theorem dX10_form_22 : decode cX10_form 22 = .ok (.bipush 8, 2) := by decide +kernel
theorem dX10_form_24 : decode cX10_form 24 = .ok (.invokestatic 196, 3) := by decide +kernel
theorem dX10_form_27 : decode cX10_form 27 = .ok (.ifCond .ne 6, 3) := by decide +kernel
theorem dX10_form_30 : decode cX10_form 30 = .ok (.bipush (-2), 2) := by decide +kernel
theorem dX10_form_32 : decode cX10_form 32 = .ok (.ireturn, 1) := by decide +kernel
theorem dX10_form_33 : decode cX10_form 33 = .ok (.aload_n 0, 1) := by decide +kernel
theorem dX10_form_34 : decode cX10_form 34 = .ok (.iconst 0, 1) := by decide +kernel
theorem dX10_form_35 : decode cX10_form 35 = .ok (.putfield 124, 3) := by decide +kernel
theorem dX10_form_38 : decode cX10_form 38 = .ok (.aload_n 0, 1) := by decide +kernel
theorem dX10_form_39 : decode cX10_form 39 = .ok (.iconst (-1), 1) := by decide +kernel
theorem dX10_form_40 : decode cX10_form 40 = .ok (.putfield 141, 3) := by decide +kernel
theorem dX10_form_43 : decode cX10_form 43 = .ok (.aload_n 0, 1) := by decide +kernel
theorem dX10_form_44 : decode cX10_form 44 = .ok (.aload_n 0, 1) := by decide +kernel
theorem dX10_form_45 : decode cX10_form 45 = .ok (.getfield 115, 3) := by decide +kernel
theorem dX10_form_48 : decode cX10_form 48 = .ok (.putfield 127, 3) := by decide +kernel
theorem dX10_form_51 : decode cX10_form 51 = .ok (.aload_n 0, 1) := by decide +kernel
theorem dX10_form_52 : decode cX10_form 52 = .ok (.iconst 0, 1) := by decide +kernel
theorem dX10_form_53 : decode cX10_form 53 = .ok (.putfield 115, 3) := by decide +kernel
theorem dX10_form_56 : decode cX10_form 56 = .ok (.aload_n 0, 1) := by decide +kernel
theorem dX10_form_57 : decode cX10_form 57 = .ok (.iconst 0, 1) := by decide +kernel
theorem dX10_form_58 : decode cX10_form 58 = .ok (.putfield 118, 3) := by decide +kernel
theorem dX10_form_61 : decode cX10_form 61 = .ok (.aload_n 0, 1) := by decide +kernel
theorem dX10_form_62 : decode cX10_form 62 = .ok (.iconst (-1), 1) := by decide +kernel
theorem dX10_form_63 : decode cX10_form 63 = .ok (.putfield 121, 3) := by decide +kernel
theorem dX10_form_66 : decode cX10_form 66 = .ok (.aload_n 0, 1) := by decide +kernel
theorem dX10_form_67 : decode cX10_form 67 = .ok (.iload_n 1, 1) := by decide +kernel
theorem dX10_form_68 : decode cX10_form 68 = .ok (.putfield 161, 3) := by decide +kernel
theorem dX10_form_71 : decode cX10_form 71 = .ok (.aload_n 0, 1) := by decide +kernel
theorem dX10_form_72 : decode cX10_form 72 = .ok (.iload_n 2, 1) := by decide +kernel
theorem dX10_form_73 : decode cX10_form 73 = .ok (.putfield 158, 3) := by decide +kernel
theorem dX10_form_76 : decode cX10_form 76 = .ok (.aload_n 0, 1) := by decide +kernel
theorem dX10_form_77 : decode cX10_form 77 = .ok (.iload_n 3, 1) := by decide +kernel
theorem dX10_form_78 : decode cX10_form 78 = .ok (.putfield 155, 3) := by decide +kernel
theorem dX10_form_81 : decode cX10_form 81 = .ok (.iconst 0, 1) := by decide +kernel
theorem dX10_form_82 : decode cX10_form 82 = .ok (.istore 4, 2) := by decide +kernel
theorem dX10_form_84 : decode cX10_form 84 = .ok (.iload 4, 2) := by decide +kernel
theorem dX10_form_86 : decode cX10_form 86 = .ok (.sipush 512, 3) := by decide +kernel
theorem dX10_form_89 : decode cX10_form 89 = .ok (.if_icmp .ge 17, 3) := by decide +kernel
theorem dX10_form_92 : decode cX10_form 92 = .ok (.aload_n 0, 1) := by decide +kernel
theorem dX10_form_93 : decode cX10_form 93 = .ok (.getfield 30, 3) := by decide +kernel
theorem dX10_form_96 : decode cX10_form 96 = .ok (.iload 4, 2) := by decide +kernel
theorem dX10_form_98 : decode cX10_form 98 = .ok (.iconst 0, 1) := by decide +kernel
theorem dX10_form_99 : decode cX10_form 99 = .ok (.bastore, 1) := by decide +kernel
theorem dX10_form_100 : decode cX10_form 100 = .ok (.iinc 4 1, 3) := by decide +kernel
theorem dX10_form_103 : decode cX10_form 103 = .ok (.goto (-19), 3) := by decide +kernel
theorem dX10_form_106 : decode cX10_form 106 = .ok (.aload_n 0, 1) := by decide +kernel
theorem dX10_form_107 : decode cX10_form 107 = .ok (.invokevirtual 200, 3) := by decide +kernel
theorem dX10_form_110 : decode cX10_form 110 = .ok (.aload_n 0, 1) := by decide +kernel
theorem dX10_form_111 : decode cX10_form 111 = .ok (.aload_n 0, 1) := by decide +kernel
theorem dX10_form_112 : decode cX10_form 112 = .ok (.getfield 118, 3) := by decide +kernel
theorem dX10_form_115 : decode cX10_form 115 = .ok (.putfield 203, 3) := by decide +kernel
theorem dX10_form_118 : decode cX10_form 118 = .ok (.aload_n 0, 1) := by decide +kernel
theorem dX10_form_119 : decode cX10_form 119 = .ok (.aload_n 0, 1) := by decide +kernel
theorem dX10_form_120 : decode cX10_form 120 = .ok (.getfield 121, 3) := by decide +kernel
theorem dX10_form_123 : decode cX10_form 123 = .ok (.putfield 13, 3) := by decide +kernel
theorem dX10_form_126 : decode cX10_form 126 = .ok (.aload_n 0, 1) := by decide +kernel
theorem dX10_form_127 : decode cX10_form 127 = .ok (.getfield 118, 3) := by decide +kernel
theorem dX10_form_130 : decode cX10_form 130 = .ok (.ifCond .eq 5, 3) := by decide +kernel
theorem dX10_form_133 : decode cX10_form 133 = .ok (.iconst (-1), 1) := by decide +kernel
theorem dX10_form_134 : decode cX10_form 134 = .ok (.ireturn, 1) := by decide +kernel
theorem dX10_form_135 : decode cX10_form 135 = .ok (.aload_n 0, 1) := by decide +kernel
theorem dX10_form_136 : decode cX10_form 136 = .ok (.iconst 1, 1) := by decide +kernel
theorem dX10_form_137 : decode cX10_form 137 = .ok (.putfield 183, 3) := by decide +kernel
theorem dX10_form_140 : decode cX10_form 140 = .ok (.aload_n 0, 1) := by decide +kernel
theorem dX10_form_141 : decode cX10_form 141 = .ok (.iconst 0, 1) := by decide +kernel
theorem dX10_form_142 : decode cX10_form 142 = .ok (.putfield 206, 3) := by decide +kernel
theorem dX10_form_145 : decode cX10_form 145 = .ok (.aload_n 0, 1) := by decide +kernel
theorem dX10_form_146 : decode cX10_form 146 = .ok (.iload_n 1, 1) := by decide +kernel
theorem dX10_form_147 : decode cX10_form 147 = .ok (.putfield 187, 3) := by decide +kernel
theorem dX10_form_150 : decode cX10_form 150 = .ok (.aload_n 0, 1) := by decide +kernel
theorem dX10_form_151 : decode cX10_form 151 = .ok (.iload_n 2, 1) := by decide +kernel
theorem dX10_form_152 : decode cX10_form 152 = .ok (.putfield 190, 3) := by decide +kernel
theorem dX10_form_155 : decode cX10_form 155 = .ok (.aload_n 0, 1) := by decide +kernel
theorem dX10_form_156 : decode cX10_form 156 = .ok (.iload_n 3, 1) := by decide +kernel
theorem dX10_form_157 : decode cX10_form 157 = .ok (.putfield 193, 3) := by decide +kernel
theorem dX10_form_160 : decode cX10_form 160 = .ok (.iconst 0, 1) := by decide +kernel
theorem dX10_form_161 : decode cX10_form 161 = .ok (.istore 4, 2) := by decide +kernel
theorem dX10_form_163 : decode cX10_form 163 = .ok (.iconst 0, 1) := by decide +kernel
theorem dX10_form_164 : decode cX10_form 164 = .ok (.istore 5, 2) := by decide +kernel
theorem dX10_form_166 : decode cX10_form 166 = .ok (.iload 5, 2) := by decide +kernel
theorem dX10_form_168 : decode cX10_form 168 = .ok (.sipush 1000, 3) := by decide +kernel
theorem dX10_form_171 : decode cX10_form 171 = .ok (.if_icmp .ge 17, 3) := by decide +kernel
theorem dX10_form_174 : decode cX10_form 174 = .ok (.aload_n 0, 1) := by decide +kernel
theorem dX10_form_175 : decode cX10_form 175 = .ok (.getfield 40, 3) := by decide +kernel
theorem dX10_form_178 : decode cX10_form 178 = .ok (.iload 5, 2) := by decide +kernel
theorem dX10_form_180 : decode cX10_form 180 = .ok (.iconst 0, 1) := by decide +kernel
theorem dX10_form_181 : decode cX10_form 181 = .ok (.bastore, 1) := by decide +kernel
theorem dX10_form_182 : decode cX10_form 182 = .ok (.iinc 5 1, 3) := by decide +kernel
theorem dX10_form_185 : decode cX10_form 185 = .ok (.goto (-19), 3) := by decide +kernel
theorem dX10_form_188 : decode cX10_form 188 = .ok (.iconst 0, 1) := by decide +kernel
theorem dX10_form_189 : decode cX10_form 189 = .ok (.istore 5, 2) := by decide +kernel
theorem dX10_form_191 : decode cX10_form 191 = .ok (.iload 5, 2) := by decide +kernel
theorem dX10_form_193 : decode cX10_form 193 = .ok (.iload_n 3, 1) := by decide +kernel
theorem dX10_form_194 : decode cX10_form 194 = .ok (.if_icmp .ge 87, 3) := by decide +kernel
theorem dX10_form_197 : decode cX10_form 197 = .ok (.iconst 0, 1) := by decide +kernel
theorem dX10_form_198 : decode cX10_form 198 = .ok (.istore 6, 2) := by decide +kernel
theorem dX10_form_200 : decode cX10_form 200 = .ok (.iload 6, 2) := by decide +kernel
theorem dX10_form_202 : decode cX10_form 202 = .ok (.iload_n 2, 1) := by decide +kernel
theorem dX10_form_203 : decode cX10_form 203 = .ok (.if_icmp .ge 72, 3) := by decide +kernel
theorem dX10_form_206 : decode cX10_form 206 = .ok (.iconst 0, 1) := by decide +kernel
theorem dX10_form_207 : decode cX10_form 207 = .ok (.istore 7, 2) := by decide +kernel
theorem dX10_form_209 : decode cX10_form 209 = .ok (.iload 7, 2) := by decide +kernel
theorem dX10_form_211 : decode cX10_form 211 = .ok (.iload_n 1, 1) := by decide +kernel
theorem dX10_form_212 : decode cX10_form 212 = .ok (.if_icmp .ge 57, 3) := by decide +kernel
theorem dX10_form_215 : decode cX10_form 215 = .ok (.aload_n 0, 1) := by decide +kernel
theorem dX10_form_216 : decode cX10_form 216 = .ok (.getfield 40, 3) := by decide +kernel
theorem dX10_form_219 : decode cX10_form 219 = .ok (.iload 7, 2) := by decide +kernel
theorem dX10_form_221 : decode cX10_form 221 = .ok (.iload 6, 2) := by decide +kernel
theorem dX10_form_223 : decode cX10_form 223 = .ok (.iload 5, 2) := by decide +kernel
theorem dX10_form_225 : decode cX10_form 225 = .ok (.invokestatic 209, 3) := by decide +kernel
theorem dX10_form_228 : decode cX10_form 228 = .ok (.aload_n 0, 1) := by decide +kernel
theorem dX10_form_229 : decode cX10_form 229 = .ok (.getfield 30, 3) := by decide +kernel
theorem dX10_form_232 : decode cX10_form 232 = .ok (.iload 7, 2) := by decide +kernel
theorem dX10_form_234 : decode cX10_form 234 = .ok (.iload 6, 2) := by decide +kernel
theorem dX10_form_236 : decode cX10_form 236 = .ok (.iload 5, 2) := by decide +kernel
theorem dX10_form_238 : decode cX10_form 238 = .ok (.invokestatic 164, 3) := by decide +kernel
theorem dX10_form_241 : decode cX10_form 241 = .ok (.baload, 1) := by decide +kernel
theorem dX10_form_242 : decode cX10_form 242 = .ok (.bastore, 1) := by decide +kernel
theorem dX10_form_243 : decode cX10_form 243 = .ok (.aload_n 0, 1) := by decide +kernel
theorem dX10_form_244 : decode cX10_form 244 = .ok (.getfield 30, 3) := by decide +kernel
theorem dX10_form_247 : decode cX10_form 247 = .ok (.iload 7, 2) := by decide +kernel
theorem dX10_form_249 : decode cX10_form 249 = .ok (.iload 6, 2) := by decide +kernel
theorem dX10_form_251 : decode cX10_form 251 = .ok (.iload 5, 2) := by decide +kernel
theorem dX10_form_253 : decode cX10_form 253 = .ok (.invokestatic 164, 3) := by decide +kernel
theorem dX10_form_256 : decode cX10_form 256 = .ok (.baload, 1) := by decide +kernel
theorem dX10_form_257 : decode cX10_form 257 = .ok (.ifCond .eq 6, 3) := by decide +kernel
theorem dX10_form_260 : decode cX10_form 260 = .ok (.iinc 4 1, 3) := by decide +kernel
theorem dX10_form_263 : decode cX10_form 263 = .ok (.iinc 7 1, 3) := by decide +kernel
theorem dX10_form_266 : decode cX10_form 266 = .ok (.goto (-57), 3) := by decide +kernel
theorem dX10_form_269 : decode cX10_form 269 = .ok (.iinc 6 1, 3) := by decide +kernel
theorem dX10_form_272 : decode cX10_form 272 = .ok (.goto (-72), 3) := by decide +kernel
theorem dX10_form_275 : decode cX10_form 275 = .ok (.iinc 5 1, 3) := by decide +kernel
theorem dX10_form_278 : decode cX10_form 278 = .ok (.goto (-87), 3) := by decide +kernel
theorem dX10_form_281 : decode cX10_form 281 = .ok (.iconst (-1), 1) := by decide +kernel
theorem dX10_form_282 : decode cX10_form 282 = .ok (.istore 5, 2) := by decide +kernel
theorem dX10_form_284 : decode cX10_form 284 = .ok (.iload 5, 2) := by decide +kernel
theorem dX10_form_286 : decode cX10_form 286 = .ok (.iload_n 3, 1) := by decide +kernel
theorem dX10_form_287 : decode cX10_form 287 = .ok (.if_icmp .gt 84, 3) := by decide +kernel
theorem dX10_form_290 : decode cX10_form 290 = .ok (.iconst (-1), 1) := by decide +kernel
theorem dX10_form_291 : decode cX10_form 291 = .ok (.istore 6, 2) := by decide +kernel
theorem dX10_form_293 : decode cX10_form 293 = .ok (.iload 6, 2) := by decide +kernel
theorem dX10_form_295 : decode cX10_form 295 = .ok (.iload_n 2, 1) := by decide +kernel
theorem dX10_form_296 : decode cX10_form 296 = .ok (.if_icmp .gt 69, 3) := by decide +kernel
theorem dX10_form_299 : decode cX10_form 299 = .ok (.iconst (-1), 1) := by decide +kernel
theorem dX10_form_300 : decode cX10_form 300 = .ok (.istore 7, 2) := by decide +kernel
theorem dX10_form_302 : decode cX10_form 302 = .ok (.iload 7, 2) := by decide +kernel
theorem dX10_form_304 : decode cX10_form 304 = .ok (.iload_n 1, 1) := by decide +kernel
theorem dX10_form_305 : decode cX10_form 305 = .ok (.if_icmp .gt 54, 3) := by decide +kernel
theorem dX10_form_308 : decode cX10_form 308 = .ok (.aload_n 0, 1) := by decide +kernel
theorem dX10_form_309 : decode cX10_form 309 = .ok (.getfield 43, 3) := by decide +kernel
theorem dX10_form_312 : decode cX10_form 312 = .ok (.iload 7, 2) := by decide +kernel
theorem dX10_form_314 : decode cX10_form 314 = .ok (.iload 6, 2) := by decide +kernel
theorem dX10_form_316 : decode cX10_form 316 = .ok (.iload 5, 2) := by decide +kernel
theorem dX10_form_318 : decode cX10_form 318 = .ok (.invokestatic 209, 3) := by decide +kernel
theorem dX10_form_321 : decode cX10_form 321 = .ok (.aload_n 0, 1) := by decide +kernel
theorem dX10_form_322 : decode cX10_form 322 = .ok (.getfield 40, 3) := by decide +kernel
theorem dX10_form_325 : decode cX10_form 325 = .ok (.iload 7, 2) := by decide +kernel
theorem dX10_form_327 : decode cX10_form 327 = .ok (.iload 6, 2) := by decide +kernel
theorem dX10_form_329 : decode cX10_form 329 = .ok (.iload 5, 2) := by decide +kernel
theorem dX10_form_331 : decode cX10_form 331 = .ok (.invokestatic 209, 3) := by decide +kernel
theorem dX10_form_334 : decode cX10_form 334 = .ok (.baload, 1) := by decide +kernel
theorem dX10_form_335 : decode cX10_form 335 = .ok (.ifCond .eq 7, 3) := by decide +kernel
theorem dX10_form_338 : decode cX10_form 338 = .ok (.iconst 0, 1) := by decide +kernel
theorem dX10_form_339 : decode cX10_form 339 = .ok (.goto 13, 3) := by decide +kernel
theorem dX10_form_342 : decode cX10_form 342 = .ok (.aload_n 0, 1) := by decide +kernel
theorem dX10_form_343 : decode cX10_form 343 = .ok (.iload 7, 2) := by decide +kernel
theorem dX10_form_345 : decode cX10_form 345 = .ok (.iload 6, 2) := by decide +kernel
theorem dX10_form_347 : decode cX10_form 347 = .ok (.iload 5, 2) := by decide +kernel
theorem dX10_form_349 : decode cX10_form 349 = .ok (.invokevirtual 212, 3) := by decide +kernel
theorem dX10_form_352 : decode cX10_form 352 = .ok (.iastore, 1) := by decide +kernel
theorem dX10_form_353 : decode cX10_form 353 = .ok (.iinc 7 1, 3) := by decide +kernel
theorem dX10_form_356 : decode cX10_form 356 = .ok (.goto (-54), 3) := by decide +kernel
theorem dX10_form_359 : decode cX10_form 359 = .ok (.iinc 6 1, 3) := by decide +kernel
theorem dX10_form_362 : decode cX10_form 362 = .ok (.goto (-69), 3) := by decide +kernel
theorem dX10_form_365 : decode cX10_form 365 = .ok (.iinc 5 1, 3) := by decide +kernel
theorem dX10_form_368 : decode cX10_form 368 = .ok (.goto (-84), 3) := by decide +kernel
theorem dX10_form_371 : decode cX10_form 371 = .ok (.iload 4, 2) := by decide +kernel
theorem dX10_form_373 : decode cX10_form 373 = .ok (.ireturn, 1) := by decide +kernel
theorem dX10_stepX_0 : decode cX10_stepX 0 = .ok (.iload_n 0, 1) := by decide +kernel
theorem dX10_stepX_1 : decode cX10_stepX 1 = .ok (.ifCond .ne 7, 3) := by decide +kernel
theorem dX10_stepX_4 : decode cX10_stepX 4 = .ok (.iconst 1, 1) := by decide +kernel
theorem dX10_stepX_5 : decode cX10_stepX 5 = .ok (.goto 13, 3) := by decide +kernel
theorem dX10_stepX_8 : decode cX10_stepX 8 = .ok (.iload_n 0, 1) := by decide +kernel
theorem dX10_stepX_9 : decode cX10_stepX 9 = .ok (.iconst 1, 1) := by decide +kernel
theorem dX10_stepX_10 : decode cX10_stepX 10 = .ok (.if_icmp .ne 7, 3) := by decide +kernel
theorem dX10_stepX_13 : decode cX10_stepX 13 = .ok (.iconst (-1), 1) := by decide +kernel
theorem dX10_stepX_14 : decode cX10_stepX 14 = .ok (.goto 4, 3) := by decide +kernel
theorem dX10_stepX_17 : decode cX10_stepX 17 = .ok (.iconst 0, 1) := by decide +kernel
theorem dX10_stepX_18 : decode cX10_stepX 18 = .ok (.ireturn, 1) := by decide +kernel
theorem dX10_stepY_0 : decode cX10_stepY 0 = .ok (.iload_n 0, 1) := by decide +kernel
theorem dX10_stepY_1 : decode cX10_stepY 1 = .ok (.iconst 2, 1) := by decide +kernel
theorem dX10_stepY_2 : decode cX10_stepY 2 = .ok (.if_icmp .ne 7, 3) := by decide +kernel
theorem dX10_stepY_5 : decode cX10_stepY 5 = .ok (.iconst 1, 1) := by decide +kernel
theorem dX10_stepY_6 : decode cX10_stepY 6 = .ok (.goto 13, 3) := by decide +kernel
theorem dX10_stepY_9 : decode cX10_stepY 9 = .ok (.iload_n 0, 1) := by decide +kernel
theorem dX10_stepY_10 : decode cX10_stepY 10 = .ok (.iconst 3, 1) := by decide +kernel
theorem dX10_stepY_11 : decode cX10_stepY 11 = .ok (.if_icmp .ne 7, 3) := by decide +kernel
theorem dX10_stepY_14 : decode cX10_stepY 14 = .ok (.iconst (-1), 1) := by decide +kernel
theorem dX10_stepY_15 : decode cX10_stepY 15 = .ok (.goto 4, 3) := by decide +kernel
theorem dX10_stepY_18 : decode cX10_stepY 18 = .ok (.iconst 0, 1) := by decide +kernel
theorem dX10_stepY_19 : decode cX10_stepY 19 = .ok (.ireturn, 1) := by decide +kernel
theorem dX10_stepZ_0 : decode cX10_stepZ 0 = .ok (.iload_n 0, 1) := by decide +kernel
theorem dX10_stepZ_1 : decode cX10_stepZ 1 = .ok (.iconst 4, 1) := by decide +kernel
theorem dX10_stepZ_2 : decode cX10_stepZ 2 = .ok (.if_icmp .ne 7, 3) := by decide +kernel
theorem dX10_stepZ_5 : decode cX10_stepZ 5 = .ok (.iconst 1, 1) := by decide +kernel
theorem dX10_stepZ_6 : decode cX10_stepZ 6 = .ok (.goto 13, 3) := by decide +kernel
theorem dX10_stepZ_9 : decode cX10_stepZ 9 = .ok (.iload_n 0, 1) := by decide +kernel
theorem dX10_stepZ_10 : decode cX10_stepZ 10 = .ok (.iconst 5, 1) := by decide +kernel
theorem dX10_stepZ_11 : decode cX10_stepZ 11 = .ok (.if_icmp .ne 7, 3) := by decide +kernel
theorem dX10_stepZ_14 : decode cX10_stepZ 14 = .ok (.iconst (-1), 1) := by decide +kernel
theorem dX10_stepZ_15 : decode cX10_stepZ 15 = .ok (.goto 4, 3) := by decide +kernel
theorem dX10_stepZ_18 : decode cX10_stepZ 18 = .ok (.iconst 0, 1) := by decide +kernel
theorem dX10_stepZ_19 : decode cX10_stepZ 19 = .ok (.ireturn, 1) := by decide +kernel
theorem dX10_waysOf_0 : decode cX10_waysOf 0 = .ok (.iconst 0, 1) := by decide +kernel
theorem dX10_waysOf_1 : decode cX10_waysOf 1 = .ok (.istore 4, 2) := by decide +kernel
theorem dX10_waysOf_3 : decode cX10_waysOf 3 = .ok (.iconst 0, 1) := by decide +kernel
theorem dX10_waysOf_4 : decode cX10_waysOf 4 = .ok (.istore 5, 2) := by decide +kernel
theorem dX10_waysOf_6 : decode cX10_waysOf 6 = .ok (.iload 5, 2) := by decide +kernel
theorem dX10_waysOf_8 : decode cX10_waysOf 8 = .ok (.bipush 6, 2) := by decide +kernel
theorem dX10_waysOf_10 : decode cX10_waysOf 10 = .ok (.if_icmp .ge 110, 3) := by decide +kernel
theorem dX10_waysOf_13 : decode cX10_waysOf 13 = .ok (.iconst 1, 1) := by decide +kernel
theorem dX10_waysOf_14 : decode cX10_waysOf 14 = .ok (.istore 6, 2) := by decide +kernel
theorem dX10_waysOf_16 : decode cX10_waysOf 16 = .ok (.iload_n 1, 1) := by decide +kernel
theorem dX10_waysOf_17 : decode cX10_waysOf 17 = .ok (.istore 7, 2) := by decide +kernel
theorem dX10_waysOf_19 : decode cX10_waysOf 19 = .ok (.iload_n 2, 1) := by decide +kernel
theorem dX10_waysOf_20 : decode cX10_waysOf 20 = .ok (.istore 8, 2) := by decide +kernel
theorem dX10_waysOf_22 : decode cX10_waysOf 22 = .ok (.iload_n 3, 1) := by decide +kernel
theorem dX10_waysOf_23 : decode cX10_waysOf 23 = .ok (.istore 9, 2) := by decide +kernel
theorem dX10_waysOf_25 : decode cX10_waysOf 25 = .ok (.aload_n 0, 1) := by decide +kernel
theorem dX10_waysOf_26 : decode cX10_waysOf 26 = .ok (.iload 7, 2) := by decide +kernel
theorem dX10_waysOf_28 : decode cX10_waysOf 28 = .ok (.iload 8, 2) := by decide +kernel
theorem dX10_waysOf_30 : decode cX10_waysOf 30 = .ok (.iload 9, 2) := by decide +kernel
theorem dX10_waysOf_32 : decode cX10_waysOf 32 = .ok (.invokevirtual 215, 3) := by decide +kernel
theorem dX10_waysOf_35 : decode cX10_waysOf 35 = .ok (.ifCond .eq 65, 3) := by decide +kernel
theorem dX10_waysOf_38 : decode cX10_waysOf 38 = .ok (.iload 6, 2) := by decide +kernel
theorem dX10_waysOf_40 : decode cX10_waysOf 40 = .ok (.ifCond .eq 24, 3) := by decide +kernel
theorem dX10_waysOf_43 : decode cX10_waysOf 43 = .ok (.aload_n 0, 1) := by decide +kernel
theorem dX10_waysOf_44 : decode cX10_waysOf 44 = .ok (.getfield 40, 3) := by decide +kernel
theorem dX10_waysOf_47 : decode cX10_waysOf 47 = .ok (.iload 7, 2) := by decide +kernel
theorem dX10_waysOf_49 : decode cX10_waysOf 49 = .ok (.iload 8, 2) := by decide +kernel
theorem dX10_waysOf_51 : decode cX10_waysOf 51 = .ok (.iload 9, 2) := by decide +kernel
theorem dX10_waysOf_53 : decode cX10_waysOf 53 = .ok (.invokestatic 209, 3) := by decide +kernel
theorem dX10_waysOf_56 : decode cX10_waysOf 56 = .ok (.baload, 1) := by decide +kernel
theorem dX10_waysOf_57 : decode cX10_waysOf 57 = .ok (.ifCond .ne 7, 3) := by decide +kernel
theorem dX10_waysOf_60 : decode cX10_waysOf 60 = .ok (.iconst 1, 1) := by decide +kernel
theorem dX10_waysOf_61 : decode cX10_waysOf 61 = .ok (.goto 4, 3) := by decide +kernel
theorem dX10_waysOf_64 : decode cX10_waysOf 64 = .ok (.iconst 0, 1) := by decide +kernel
theorem dX10_waysOf_65 : decode cX10_waysOf 65 = .ok (.istore 6, 2) := by decide +kernel
theorem dX10_waysOf_67 : decode cX10_waysOf 67 = .ok (.iload 7, 2) := by decide +kernel
theorem dX10_waysOf_69 : decode cX10_waysOf 69 = .ok (.iload 5, 2) := by decide +kernel
theorem dX10_waysOf_71 : decode cX10_waysOf 71 = .ok (.invokestatic 218, 3) := by decide +kernel
theorem dX10_waysOf_74 : decode cX10_waysOf 74 = .ok (.iadd, 1) := by decide +kernel
theorem dX10_waysOf_75 : decode cX10_waysOf 75 = .ok (.istore 7, 2) := by decide +kernel
theorem dX10_waysOf_77 : decode cX10_waysOf 77 = .ok (.iload 8, 2) := by decide +kernel
theorem dX10_waysOf_79 : decode cX10_waysOf 79 = .ok (.iload 5, 2) := by decide +kernel
theorem dX10_waysOf_81 : decode cX10_waysOf 81 = .ok (.invokestatic 221, 3) := by decide +kernel
theorem dX10_waysOf_84 : decode cX10_waysOf 84 = .ok (.iadd, 1) := by decide +kernel
theorem dX10_waysOf_85 : decode cX10_waysOf 85 = .ok (.istore 8, 2) := by decide +kernel
theorem dX10_waysOf_87 : decode cX10_waysOf 87 = .ok (.iload 9, 2) := by decide +kernel
theorem dX10_waysOf_89 : decode cX10_waysOf 89 = .ok (.iload 5, 2) := by decide +kernel
theorem dX10_waysOf_91 : decode cX10_waysOf 91 = .ok (.invokestatic 224, 3) := by decide +kernel
theorem dX10_waysOf_94 : decode cX10_waysOf 94 = .ok (.iadd, 1) := by decide +kernel
theorem dX10_waysOf_95 : decode cX10_waysOf 95 = .ok (.istore 9, 2) := by decide +kernel
theorem dX10_waysOf_97 : decode cX10_waysOf 97 = .ok (.goto (-72), 3) := by decide +kernel
theorem dX10_waysOf_100 : decode cX10_waysOf 100 = .ok (.iload 6, 2) := by decide +kernel
theorem dX10_waysOf_102 : decode cX10_waysOf 102 = .ok (.ifCond .eq 12, 3) := by decide +kernel
theorem dX10_waysOf_105 : decode cX10_waysOf 105 = .ok (.iload 4, 2) := by decide +kernel
theorem dX10_waysOf_107 : decode cX10_waysOf 107 = .ok (.iconst 1, 1) := by decide +kernel
theorem dX10_waysOf_108 : decode cX10_waysOf 108 = .ok (.iload 5, 2) := by decide +kernel
theorem dX10_waysOf_110 : decode cX10_waysOf 110 = .ok (.ishl, 1) := by decide +kernel
theorem dX10_waysOf_111 : decode cX10_waysOf 111 = .ok (.ior, 1) := by decide +kernel
theorem dX10_waysOf_112 : decode cX10_waysOf 112 = .ok (.istore 4, 2) := by decide +kernel
theorem dX10_waysOf_114 : decode cX10_waysOf 114 = .ok (.iinc 5 1, 3) := by decide +kernel
theorem dX10_waysOf_117 : decode cX10_waysOf 117 = .ok (.goto (-111), 3) := by decide +kernel
theorem dX10_waysOf_120 : decode cX10_waysOf 120 = .ok (.iload 4, 2) := by decide +kernel
theorem dX10_waysOf_122 : decode cX10_waysOf 122 = .ok (.ireturn, 1) := by decide +kernel
theorem dX10_fault_0 : decode cX10_fault 0 = .ok (.iload_n 1, 1) := by decide +kernel
theorem dX10_fault_1 : decode cX10_fault 1 = .ok (.ifCond .ne 10, 3) := by decide +kernel
theorem dX10_fault_4 : decode cX10_fault 4 = .ok (.aload_n 0, 1) := by decide +kernel
theorem dX10_fault_5 : decode cX10_fault 5 = .ok (.getfield 203, 3) := by decide +kernel
theorem dX10_fault_8 : decode cX10_fault 8 = .ok (.goto 16, 3) := by decide +kernel
theorem dX10_fault_11 : decode cX10_fault 11 = .ok (.iload_n 1, 1) := by decide +kernel
theorem dX10_fault_12 : decode cX10_fault 12 = .ok (.iconst 1, 1) := by decide +kernel
theorem dX10_fault_13 : decode cX10_fault 13 = .ok (.if_icmp .ne 10, 3) := by decide +kernel
theorem dX10_fault_16 : decode cX10_fault 16 = .ok (.aload_n 0, 1) := by decide +kernel
theorem dX10_fault_17 : decode cX10_fault 17 = .ok (.getfield 13, 3) := by decide +kernel
theorem dX10_fault_20 : decode cX10_fault 20 = .ok (.goto 4, 3) := by decide +kernel
theorem dX10_fault_23 : decode cX10_fault 23 = .ok (.iconst (-1), 1) := by decide +kernel
theorem dX10_fault_24 : decode cX10_fault 24 = .ok (.ireturn, 1) := by decide +kernel
theorem dX10_solid_0 : decode cX10_solid 0 = .ok (.aload_n 0, 1) := by decide +kernel
theorem dX10_solid_1 : decode cX10_solid 1 = .ok (.getfield 183, 3) := by decide +kernel
theorem dX10_solid_4 : decode cX10_solid 4 = .ok (.ifCond .eq 39, 3) := by decide +kernel
theorem dX10_solid_7 : decode cX10_solid 7 = .ok (.iload_n 1, 1) := by decide +kernel
theorem dX10_solid_8 : decode cX10_solid 8 = .ok (.ifCond .lt 35, 3) := by decide +kernel
theorem dX10_solid_11 : decode cX10_solid 11 = .ok (.iload_n 1, 1) := by decide +kernel
theorem dX10_solid_12 : decode cX10_solid 12 = .ok (.aload_n 0, 1) := by decide +kernel
theorem dX10_solid_13 : decode cX10_solid 13 = .ok (.getfield 187, 3) := by decide +kernel
theorem dX10_solid_16 : decode cX10_solid 16 = .ok (.if_icmp .ge 27, 3) := by decide +kernel
theorem dX10_solid_19 : decode cX10_solid 19 = .ok (.iload_n 2, 1) := by decide +kernel
theorem dX10_solid_20 : decode cX10_solid 20 = .ok (.ifCond .lt 23, 3) := by decide +kernel
theorem dX10_solid_23 : decode cX10_solid 23 = .ok (.iload_n 2, 1) := by decide +kernel
theorem dX10_solid_24 : decode cX10_solid 24 = .ok (.aload_n 0, 1) := by decide +kernel
theorem dX10_solid_25 : decode cX10_solid 25 = .ok (.getfield 190, 3) := by decide +kernel
theorem dX10_solid_28 : decode cX10_solid 28 = .ok (.if_icmp .ge 15, 3) := by decide +kernel
theorem dX10_solid_31 : decode cX10_solid 31 = .ok (.iload_n 3, 1) := by decide +kernel
theorem dX10_solid_32 : decode cX10_solid 32 = .ok (.ifCond .lt 11, 3) := by decide +kernel
theorem dX10_solid_35 : decode cX10_solid 35 = .ok (.iload_n 3, 1) := by decide +kernel
theorem dX10_solid_36 : decode cX10_solid 36 = .ok (.aload_n 0, 1) := by decide +kernel
theorem dX10_solid_37 : decode cX10_solid 37 = .ok (.getfield 193, 3) := by decide +kernel
theorem dX10_solid_40 : decode cX10_solid 40 = .ok (.if_icmp .lt 5, 3) := by decide +kernel
theorem dX10_solid_43 : decode cX10_solid 43 = .ok (.iconst (-1), 1) := by decide +kernel
theorem dX10_solid_44 : decode cX10_solid 44 = .ok (.ireturn, 1) := by decide +kernel
theorem dX10_solid_45 : decode cX10_solid 45 = .ok (.aload_n 0, 1) := by decide +kernel
theorem dX10_solid_46 : decode cX10_solid 46 = .ok (.getfield 40, 3) := by decide +kernel
theorem dX10_solid_49 : decode cX10_solid 49 = .ok (.iload_n 1, 1) := by decide +kernel
theorem dX10_solid_50 : decode cX10_solid 50 = .ok (.iload_n 2, 1) := by decide +kernel
theorem dX10_solid_51 : decode cX10_solid 51 = .ok (.iload_n 3, 1) := by decide +kernel
theorem dX10_solid_52 : decode cX10_solid 52 = .ok (.invokestatic 209, 3) := by decide +kernel
theorem dX10_solid_55 : decode cX10_solid 55 = .ok (.baload, 1) := by decide +kernel
theorem dX10_solid_56 : decode cX10_solid 56 = .ok (.ifCond .eq 7, 3) := by decide +kernel
theorem dX10_solid_59 : decode cX10_solid 59 = .ok (.iconst 1, 1) := by decide +kernel
theorem dX10_solid_60 : decode cX10_solid 60 = .ok (.goto 4, 3) := by decide +kernel
theorem dX10_solid_63 : decode cX10_solid 63 = .ok (.iconst 0, 1) := by decide +kernel
theorem dX10_solid_64 : decode cX10_solid 64 = .ok (.ireturn, 1) := by decide +kernel
theorem dX10_free_0 : decode cX10_free 0 = .ok (.aload_n 0, 1) := by decide +kernel
theorem dX10_free_1 : decode cX10_free 1 = .ok (.iload_n 1, 1) := by decide +kernel
theorem dX10_free_2 : decode cX10_free 2 = .ok (.iload_n 2, 1) := by decide +kernel
theorem dX10_free_3 : decode cX10_free 3 = .ok (.iload_n 3, 1) := by decide +kernel
theorem dX10_free_4 : decode cX10_free 4 = .ok (.invokevirtual 215, 3) := by decide +kernel
theorem dX10_free_7 : decode cX10_free 7 = .ok (.ifCond .eq 31, 3) := by decide +kernel
theorem dX10_free_10 : decode cX10_free 10 = .ok (.aload_n 0, 1) := by decide +kernel
theorem dX10_free_11 : decode cX10_free 11 = .ok (.getfield 40, 3) := by decide +kernel
theorem dX10_free_14 : decode cX10_free 14 = .ok (.iload_n 1, 1) := by decide +kernel
theorem dX10_free_15 : decode cX10_free 15 = .ok (.iload_n 2, 1) := by decide +kernel
theorem dX10_free_16 : decode cX10_free 16 = .ok (.iload_n 3, 1) := by decide +kernel
theorem dX10_free_17 : decode cX10_free 17 = .ok (.invokestatic 209, 3) := by decide +kernel
theorem dX10_free_20 : decode cX10_free 20 = .ok (.baload, 1) := by decide +kernel
theorem dX10_free_21 : decode cX10_free 21 = .ok (.ifCond .ne 17, 3) := by decide +kernel
theorem dX10_free_24 : decode cX10_free 24 = .ok (.aload_n 0, 1) := by decide +kernel
theorem dX10_free_25 : decode cX10_free 25 = .ok (.getfield 43, 3) := by decide +kernel
theorem dX10_free_28 : decode cX10_free 28 = .ok (.iload_n 1, 1) := by decide +kernel
theorem dX10_free_29 : decode cX10_free 29 = .ok (.iload_n 2, 1) := by decide +kernel
theorem dX10_free_30 : decode cX10_free 30 = .ok (.iload_n 3, 1) := by decide +kernel
theorem dX10_free_31 : decode cX10_free 31 = .ok (.invokestatic 209, 3) := by decide +kernel
theorem dX10_free_34 : decode cX10_free 34 = .ok (.iaload, 1) := by decide +kernel
theorem dX10_free_35 : decode cX10_free 35 = .ok (.goto 4, 3) := by decide +kernel
theorem dX10_free_38 : decode cX10_free 38 = .ok (.iconst (-1), 1) := by decide +kernel
theorem dX10_free_39 : decode cX10_free 39 = .ok (.ireturn, 1) := by decide +kernel
theorem dX10_shut_0 : decode cX10_shut 0 = .ok (.aload_n 0, 1) := by decide +kernel
theorem dX10_shut_1 : decode cX10_shut 1 = .ok (.getfield 183, 3) := by decide +kernel
theorem dX10_shut_4 : decode cX10_shut 4 = .ok (.ifCond .ne 5, 3) := by decide +kernel
theorem dX10_shut_7 : decode cX10_shut 7 = .ok (.iconst (-1), 1) := by decide +kernel
theorem dX10_shut_8 : decode cX10_shut 8 = .ok (.ireturn, 1) := by decide +kernel
theorem dX10_shut_9 : decode cX10_shut 9 = .ok (.iconst 0, 1) := by decide +kernel
theorem dX10_shut_10 : decode cX10_shut 10 = .ok (.istore_n 1, 1) := by decide +kernel
theorem dX10_shut_11 : decode cX10_shut 11 = .ok (.iconst 0, 1) := by decide +kernel
theorem dX10_shut_12 : decode cX10_shut 12 = .ok (.istore_n 2, 1) := by decide +kernel
theorem dX10_shut_13 : decode cX10_shut 13 = .ok (.iload_n 2, 1) := by decide +kernel
theorem dX10_shut_14 : decode cX10_shut 14 = .ok (.aload_n 0, 1) := by decide +kernel
theorem dX10_shut_15 : decode cX10_shut 15 = .ok (.getfield 193, 3) := by decide +kernel
theorem dX10_shut_18 : decode cX10_shut 18 = .ok (.if_icmp .ge 76, 3) := by decide +kernel
theorem dX10_shut_21 : decode cX10_shut 21 = .ok (.iconst 0, 1) := by decide +kernel
theorem dX10_shut_22 : decode cX10_shut 22 = .ok (.istore_n 3, 1) := by decide +kernel
theorem dX10_shut_23 : decode cX10_shut 23 = .ok (.iload_n 3, 1) := by decide +kernel
theorem dX10_shut_24 : decode cX10_shut 24 = .ok (.aload_n 0, 1) := by decide +kernel
theorem dX10_shut_25 : decode cX10_shut 25 = .ok (.getfield 190, 3) := by decide +kernel
theorem dX10_shut_28 : decode cX10_shut 28 = .ok (.if_icmp .ge 60, 3) := by decide +kernel
theorem dX10_shut_31 : decode cX10_shut 31 = .ok (.iconst 0, 1) := by decide +kernel
theorem dX10_shut_32 : decode cX10_shut 32 = .ok (.istore 4, 2) := by decide +kernel
theorem dX10_shut_34 : decode cX10_shut 34 = .ok (.iload 4, 2) := by decide +kernel
theorem dX10_shut_36 : decode cX10_shut 36 = .ok (.aload_n 0, 1) := by decide +kernel
theorem dX10_shut_37 : decode cX10_shut 37 = .ok (.getfield 187, 3) := by decide +kernel
theorem dX10_shut_40 : decode cX10_shut 40 = .ok (.if_icmp .ge 42, 3) := by decide +kernel
theorem dX10_shut_43 : decode cX10_shut 43 = .ok (.aload_n 0, 1) := by decide +kernel
theorem dX10_shut_44 : decode cX10_shut 44 = .ok (.getfield 40, 3) := by decide +kernel
theorem dX10_shut_47 : decode cX10_shut 47 = .ok (.iload 4, 2) := by decide +kernel
theorem dX10_shut_49 : decode cX10_shut 49 = .ok (.iload_n 3, 1) := by decide +kernel
theorem dX10_shut_50 : decode cX10_shut 50 = .ok (.iload_n 2, 1) := by decide +kernel
theorem dX10_shut_51 : decode cX10_shut 51 = .ok (.invokestatic 209, 3) := by decide +kernel
theorem dX10_shut_54 : decode cX10_shut 54 = .ok (.baload, 1) := by decide +kernel
theorem dX10_shut_55 : decode cX10_shut 55 = .ok (.ifCond .ne 21, 3) := by decide +kernel
theorem dX10_shut_58 : decode cX10_shut 58 = .ok (.aload_n 0, 1) := by decide +kernel
theorem dX10_shut_59 : decode cX10_shut 59 = .ok (.getfield 43, 3) := by decide +kernel
theorem dX10_shut_62 : decode cX10_shut 62 = .ok (.iload 4, 2) := by decide +kernel
theorem dX10_shut_64 : decode cX10_shut 64 = .ok (.iload_n 3, 1) := by decide +kernel
theorem dX10_shut_65 : decode cX10_shut 65 = .ok (.iload_n 2, 1) := by decide +kernel
theorem dX10_shut_66 : decode cX10_shut 66 = .ok (.invokestatic 209, 3) := by decide +kernel
theorem dX10_shut_69 : decode cX10_shut 69 = .ok (.iaload, 1) := by decide +kernel
theorem dX10_shut_70 : decode cX10_shut 70 = .ok (.ifCond .ne 6, 3) := by decide +kernel
theorem dX10_shut_73 : decode cX10_shut 73 = .ok (.iinc 1 1, 3) := by decide +kernel
theorem dX10_shut_76 : decode cX10_shut 76 = .ok (.iinc 4 1, 3) := by decide +kernel
theorem dX10_shut_79 : decode cX10_shut 79 = .ok (.goto (-45), 3) := by decide +kernel
theorem dX10_shut_82 : decode cX10_shut 82 = .ok (.iinc 3 1, 3) := by decide +kernel
theorem dX10_shut_85 : decode cX10_shut 85 = .ok (.goto (-62), 3) := by decide +kernel
theorem dX10_shut_88 : decode cX10_shut 88 = .ok (.iinc 2 1, 3) := by decide +kernel
theorem dX10_shut_91 : decode cX10_shut 91 = .ok (.goto (-78), 3) := by decide +kernel
theorem dX10_shut_94 : decode cX10_shut 94 = .ok (.iload_n 1, 1) := by decide +kernel
theorem dX10_shut_95 : decode cX10_shut 95 = .ok (.ireturn, 1) := by decide +kernel
theorem dX10_belongs_0 : decode cX10_belongs 0 = .ok (.iconst 0, 1) := by decide +kernel
theorem dX10_belongs_1 : decode cX10_belongs 1 = .ok (.istore 4, 2) := by decide +kernel
theorem dX10_belongs_3 : decode cX10_belongs 3 = .ok (.iload 4, 2) := by decide +kernel
theorem dX10_belongs_5 : decode cX10_belongs 5 = .ok (.iload_n 3, 1) := by decide +kernel
theorem dX10_belongs_6 : decode cX10_belongs 6 = .ok (.if_icmp .ge 29, 3) := by decide +kernel
theorem dX10_belongs_9 : decode cX10_belongs 9 = .ok (.aload_n 0, 1) := by decide +kernel
theorem dX10_belongs_10 : decode cX10_belongs 10 = .ok (.getfield 43, 3) := by decide +kernel
theorem dX10_belongs_13 : decode cX10_belongs 13 = .ok (.iload_n 1, 1) := by decide +kernel
theorem dX10_belongs_14 : decode cX10_belongs 14 = .ok (.iaload, 1) := by decide +kernel
theorem dX10_belongs_15 : decode cX10_belongs 15 = .ok (.aload_n 2, 1) := by decide +kernel
theorem dX10_belongs_16 : decode cX10_belongs 16 = .ok (.iload 4, 2) := by decide +kernel
theorem dX10_belongs_18 : decode cX10_belongs 18 = .ok (.iaload, 1) := by decide +kernel
theorem dX10_belongs_19 : decode cX10_belongs 19 = .ok (.ishr, 1) := by decide +kernel
theorem dX10_belongs_20 : decode cX10_belongs 20 = .ok (.iconst 1, 1) := by decide +kernel
theorem dX10_belongs_21 : decode cX10_belongs 21 = .ok (.iand, 1) := by decide +kernel
theorem dX10_belongs_22 : decode cX10_belongs 22 = .ok (.iconst 1, 1) := by decide +kernel
theorem dX10_belongs_23 : decode cX10_belongs 23 = .ok (.if_icmp .ne 6, 3) := by decide +kernel
theorem dX10_belongs_26 : decode cX10_belongs 26 = .ok (.iload 4, 2) := by decide +kernel
theorem dX10_belongs_28 : decode cX10_belongs 28 = .ok (.ireturn, 1) := by decide +kernel
theorem dX10_belongs_29 : decode cX10_belongs 29 = .ok (.iinc 4 1, 3) := by decide +kernel
theorem dX10_belongs_32 : decode cX10_belongs 32 = .ok (.goto (-29), 3) := by decide +kernel
theorem dX10_belongs_35 : decode cX10_belongs 35 = .ok (.iconst (-1), 1) := by decide +kernel
theorem dX10_belongs_36 : decode cX10_belongs 36 = .ok (.ireturn, 1) := by decide +kernel
theorem dX10_covers_0 : decode cX10_covers 0 = .ok (.iconst (-1), 1) := by decide +kernel
theorem dX10_covers_1 : decode cX10_covers 1 = .ok (.istore_n 2, 1) := by decide +kernel
theorem dX10_covers_2 : decode cX10_covers 2 = .ok (.iload_n 2, 1) := by decide +kernel
theorem dX10_covers_3 : decode cX10_covers 3 = .ok (.aload_n 0, 1) := by decide +kernel
theorem dX10_covers_4 : decode cX10_covers 4 = .ok (.getfield 193, 3) := by decide +kernel
theorem dX10_covers_7 : decode cX10_covers 7 = .ok (.if_icmp .gt 77, 3) := by decide +kernel
theorem dX10_covers_10 : decode cX10_covers 10 = .ok (.iconst (-1), 1) := by decide +kernel
theorem dX10_covers_11 : decode cX10_covers 11 = .ok (.istore_n 3, 1) := by decide +kernel
theorem dX10_covers_12 : decode cX10_covers 12 = .ok (.iload_n 3, 1) := by decide +kernel
theorem dX10_covers_13 : decode cX10_covers 13 = .ok (.aload_n 0, 1) := by decide +kernel
theorem dX10_covers_14 : decode cX10_covers 14 = .ok (.getfield 190, 3) := by decide +kernel
theorem dX10_covers_17 : decode cX10_covers 17 = .ok (.if_icmp .gt 61, 3) := by decide +kernel
theorem dX10_covers_20 : decode cX10_covers 20 = .ok (.iconst (-1), 1) := by decide +kernel
theorem dX10_covers_21 : decode cX10_covers 21 = .ok (.istore 4, 2) := by decide +kernel
theorem dX10_covers_23 : decode cX10_covers 23 = .ok (.iload 4, 2) := by decide +kernel
theorem dX10_covers_25 : decode cX10_covers 25 = .ok (.aload_n 0, 1) := by decide +kernel
theorem dX10_covers_26 : decode cX10_covers 26 = .ok (.getfield 187, 3) := by decide +kernel
theorem dX10_covers_29 : decode cX10_covers 29 = .ok (.if_icmp .gt 43, 3) := by decide +kernel
theorem dX10_covers_32 : decode cX10_covers 32 = .ok (.aload_n 0, 1) := by decide +kernel
theorem dX10_covers_33 : decode cX10_covers 33 = .ok (.getfield 40, 3) := by decide +kernel
theorem dX10_covers_36 : decode cX10_covers 36 = .ok (.iload 4, 2) := by decide +kernel
theorem dX10_covers_38 : decode cX10_covers 38 = .ok (.iload_n 3, 1) := by decide +kernel
theorem dX10_covers_39 : decode cX10_covers 39 = .ok (.iload_n 2, 1) := by decide +kernel
theorem dX10_covers_40 : decode cX10_covers 40 = .ok (.invokestatic 209, 3) := by decide +kernel
theorem dX10_covers_43 : decode cX10_covers 43 = .ok (.baload, 1) := by decide +kernel
theorem dX10_covers_44 : decode cX10_covers 44 = .ok (.ifCond .ne 22, 3) := by decide +kernel
theorem dX10_covers_47 : decode cX10_covers 47 = .ok (.aload_n 0, 1) := by decide +kernel
theorem dX10_covers_48 : decode cX10_covers 48 = .ok (.getfield 43, 3) := by decide +kernel
theorem dX10_covers_51 : decode cX10_covers 51 = .ok (.iload 4, 2) := by decide +kernel
theorem dX10_covers_53 : decode cX10_covers 53 = .ok (.iload_n 3, 1) := by decide +kernel
theorem dX10_covers_54 : decode cX10_covers 54 = .ok (.iload_n 2, 1) := by decide +kernel
theorem dX10_covers_55 : decode cX10_covers 55 = .ok (.invokestatic 209, 3) := by decide +kernel
theorem dX10_covers_58 : decode cX10_covers 58 = .ok (.iaload, 1) := by decide +kernel
theorem dX10_covers_59 : decode cX10_covers 59 = .ok (.iload_n 1, 1) := by decide +kernel
theorem dX10_covers_60 : decode cX10_covers 60 = .ok (.iand, 1) := by decide +kernel
theorem dX10_covers_61 : decode cX10_covers 61 = .ok (.ifCond .ne 5, 3) := by decide +kernel
theorem dX10_covers_64 : decode cX10_covers 64 = .ok (.iconst 0, 1) := by decide +kernel
theorem dX10_covers_65 : decode cX10_covers 65 = .ok (.ireturn, 1) := by decide +kernel
theorem dX10_covers_66 : decode cX10_covers 66 = .ok (.iinc 4 1, 3) := by decide +kernel
theorem dX10_covers_69 : decode cX10_covers 69 = .ok (.goto (-46), 3) := by decide +kernel
theorem dX10_covers_72 : decode cX10_covers 72 = .ok (.iinc 3 1, 3) := by decide +kernel
theorem dX10_covers_75 : decode cX10_covers 75 = .ok (.goto (-63), 3) := by decide +kernel
theorem dX10_covers_78 : decode cX10_covers 78 = .ok (.iinc 2 1, 3) := by decide +kernel
theorem dX10_covers_81 : decode cX10_covers 81 = .ok (.goto (-79), 3) := by decide +kernel
theorem dX10_covers_84 : decode cX10_covers 84 = .ok (.iconst 1, 1) := by decide +kernel
theorem dX10_covers_85 : decode cX10_covers 85 = .ok (.ireturn, 1) := by decide +kernel
theorem dX10_touches_0 : decode cX10_touches 0 = .ok (.iconst 0, 1) := by decide +kernel
theorem dX10_touches_1 : decode cX10_touches 1 = .ok (.istore 4, 2) := by decide +kernel
theorem dX10_touches_3 : decode cX10_touches 3 = .ok (.iload 4, 2) := by decide +kernel
theorem dX10_touches_5 : decode cX10_touches 5 = .ok (.bipush 6, 2) := by decide +kernel
theorem dX10_touches_7 : decode cX10_touches 7 = .ok (.if_icmp .ge 71, 3) := by decide +kernel
theorem dX10_touches_10 : decode cX10_touches 10 = .ok (.aload_n 0, 1) := by decide +kernel
theorem dX10_touches_11 : decode cX10_touches 11 = .ok (.iload_n 1, 1) := by decide +kernel
theorem dX10_touches_12 : decode cX10_touches 12 = .ok (.iload 4, 2) := by decide +kernel
theorem dX10_touches_14 : decode cX10_touches 14 = .ok (.invokestatic 218, 3) := by decide +kernel
theorem dX10_touches_17 : decode cX10_touches 17 = .ok (.iadd, 1) := by decide +kernel
theorem dX10_touches_18 : decode cX10_touches 18 = .ok (.iload_n 2, 1) := by decide +kernel
theorem dX10_touches_19 : decode cX10_touches 19 = .ok (.iload 4, 2) := by decide +kernel
theorem dX10_touches_21 : decode cX10_touches 21 = .ok (.invokestatic 221, 3) := by decide +kernel
theorem dX10_touches_24 : decode cX10_touches 24 = .ok (.iadd, 1) := by decide +kernel
theorem dX10_touches_25 : decode cX10_touches 25 = .ok (.iload_n 3, 1) := by decide +kernel
theorem dX10_touches_26 : decode cX10_touches 26 = .ok (.iload 4, 2) := by decide +kernel
theorem dX10_touches_28 : decode cX10_touches 28 = .ok (.invokestatic 224, 3) := by decide +kernel
theorem dX10_touches_31 : decode cX10_touches 31 = .ok (.iadd, 1) := by decide +kernel
theorem dX10_touches_32 : decode cX10_touches 32 = .ok (.invokevirtual 215, 3) := by decide +kernel
theorem dX10_touches_35 : decode cX10_touches 35 = .ok (.ifCond .eq 37, 3) := by decide +kernel
theorem dX10_touches_38 : decode cX10_touches 38 = .ok (.aload_n 0, 1) := by decide +kernel
theorem dX10_touches_39 : decode cX10_touches 39 = .ok (.getfield 40, 3) := by decide +kernel
theorem dX10_touches_42 : decode cX10_touches 42 = .ok (.iload_n 1, 1) := by decide +kernel
theorem dX10_touches_43 : decode cX10_touches 43 = .ok (.iload 4, 2) := by decide +kernel
theorem dX10_touches_45 : decode cX10_touches 45 = .ok (.invokestatic 218, 3) := by decide +kernel
theorem dX10_touches_48 : decode cX10_touches 48 = .ok (.iadd, 1) := by decide +kernel
theorem dX10_touches_49 : decode cX10_touches 49 = .ok (.iload_n 2, 1) := by decide +kernel
theorem dX10_touches_50 : decode cX10_touches 50 = .ok (.iload 4, 2) := by decide +kernel
theorem dX10_touches_52 : decode cX10_touches 52 = .ok (.invokestatic 221, 3) := by decide +kernel
theorem dX10_touches_55 : decode cX10_touches 55 = .ok (.iadd, 1) := by decide +kernel
theorem dX10_touches_56 : decode cX10_touches 56 = .ok (.iload_n 3, 1) := by decide +kernel
theorem dX10_touches_57 : decode cX10_touches 57 = .ok (.iload 4, 2) := by decide +kernel
theorem dX10_touches_59 : decode cX10_touches 59 = .ok (.invokestatic 224, 3) := by decide +kernel
theorem dX10_touches_62 : decode cX10_touches 62 = .ok (.iadd, 1) := by decide +kernel
theorem dX10_touches_63 : decode cX10_touches 63 = .ok (.invokestatic 209, 3) := by decide +kernel
theorem dX10_touches_66 : decode cX10_touches 66 = .ok (.baload, 1) := by decide +kernel
theorem dX10_touches_67 : decode cX10_touches 67 = .ok (.ifCond .eq 5, 3) := by decide +kernel
theorem dX10_touches_70 : decode cX10_touches 70 = .ok (.iconst 1, 1) := by decide +kernel
theorem dX10_touches_71 : decode cX10_touches 71 = .ok (.ireturn, 1) := by decide +kernel
theorem dX10_touches_72 : decode cX10_touches 72 = .ok (.iinc 4 1, 3) := by decide +kernel
theorem dX10_touches_75 : decode cX10_touches 75 = .ok (.goto (-72), 3) := by decide +kernel
theorem dX10_touches_78 : decode cX10_touches 78 = .ok (.iconst 0, 1) := by decide +kernel
theorem dX10_touches_79 : decode cX10_touches 79 = .ok (.ireturn, 1) := by decide +kernel
theorem dX10_parts_0 : decode cX10_parts 0 = .ok (.iconst 0, 1) := by decide +kernel
theorem dX10_parts_1 : decode cX10_parts 1 = .ok (.istore_n 3, 1) := by decide +kernel
theorem dX10_parts_2 : decode cX10_parts 2 = .ok (.iload_n 3, 1) := by decide +kernel
theorem dX10_parts_3 : decode cX10_parts 3 = .ok (.sipush 1000, 3) := by decide +kernel
theorem dX10_parts_6 : decode cX10_parts 6 = .ok (.if_icmp .ge 16, 3) := by decide +kernel
theorem dX10_parts_9 : decode cX10_parts 9 = .ok (.aload_n 0, 1) := by decide +kernel
theorem dX10_parts_10 : decode cX10_parts 10 = .ok (.getfield 52, 3) := by decide +kernel
theorem dX10_parts_13 : decode cX10_parts 13 = .ok (.iload_n 3, 1) := by decide +kernel
theorem dX10_parts_14 : decode cX10_parts 14 = .ok (.iconst (-1), 1) := by decide +kernel
theorem dX10_parts_15 : decode cX10_parts 15 = .ok (.iastore, 1) := by decide +kernel
theorem dX10_parts_16 : decode cX10_parts 16 = .ok (.iinc 3 1, 3) := by decide +kernel
theorem dX10_parts_19 : decode cX10_parts 19 = .ok (.goto (-17), 3) := by decide +kernel
theorem dX10_parts_22 : decode cX10_parts 22 = .ok (.aload_n 0, 1) := by decide +kernel
theorem dX10_parts_23 : decode cX10_parts 23 = .ok (.iconst 0, 1) := by decide +kernel
theorem dX10_parts_24 : decode cX10_parts 24 = .ok (.putfield 227, 3) := by decide +kernel
theorem dX10_parts_27 : decode cX10_parts 27 = .ok (.iconst 0, 1) := by decide +kernel
theorem dX10_parts_28 : decode cX10_parts 28 = .ok (.istore_n 3, 1) := by decide +kernel
theorem dX10_parts_29 : decode cX10_parts 29 = .ok (.iload_n 3, 1) := by decide +kernel
theorem dX10_parts_30 : decode cX10_parts 30 = .ok (.iload_n 2, 1) := by decide +kernel
theorem dX10_parts_31 : decode cX10_parts 31 = .ok (.if_icmp .ge 119, 3) := by decide +kernel
theorem dX10_parts_34 : decode cX10_parts 34 = .ok (.iconst (-1), 1) := by decide +kernel
theorem dX10_parts_35 : decode cX10_parts 35 = .ok (.istore 4, 2) := by decide +kernel
theorem dX10_parts_37 : decode cX10_parts 37 = .ok (.iload 4, 2) := by decide +kernel
theorem dX10_parts_39 : decode cX10_parts 39 = .ok (.aload_n 0, 1) := by decide +kernel
theorem dX10_parts_40 : decode cX10_parts 40 = .ok (.getfield 193, 3) := by decide +kernel
theorem dX10_parts_43 : decode cX10_parts 43 = .ok (.if_icmp .gt 101, 3) := by decide +kernel
theorem dX10_parts_46 : decode cX10_parts 46 = .ok (.iconst (-1), 1) := by decide +kernel
theorem dX10_parts_47 : decode cX10_parts 47 = .ok (.istore 5, 2) := by decide +kernel
theorem dX10_parts_49 : decode cX10_parts 49 = .ok (.iload 5, 2) := by decide +kernel
theorem dX10_parts_51 : decode cX10_parts 51 = .ok (.aload_n 0, 1) := by decide +kernel
theorem dX10_parts_52 : decode cX10_parts 52 = .ok (.getfield 190, 3) := by decide +kernel
theorem dX10_parts_55 : decode cX10_parts 55 = .ok (.if_icmp .gt 83, 3) := by decide +kernel
theorem dX10_parts_58 : decode cX10_parts 58 = .ok (.iconst (-1), 1) := by decide +kernel
theorem dX10_parts_59 : decode cX10_parts 59 = .ok (.istore 6, 2) := by decide +kernel
theorem dX10_parts_61 : decode cX10_parts 61 = .ok (.iload 6, 2) := by decide +kernel
theorem dX10_parts_63 : decode cX10_parts 63 = .ok (.aload_n 0, 1) := by decide +kernel
theorem dX10_parts_64 : decode cX10_parts 64 = .ok (.getfield 187, 3) := by decide +kernel
theorem dX10_parts_67 : decode cX10_parts 67 = .ok (.if_icmp .gt 65, 3) := by decide +kernel
theorem dX10_parts_70 : decode cX10_parts 70 = .ok (.iload 6, 2) := by decide +kernel
theorem dX10_parts_72 : decode cX10_parts 72 = .ok (.iload 5, 2) := by decide +kernel
theorem dX10_parts_74 : decode cX10_parts 74 = .ok (.iload 4, 2) := by decide +kernel
theorem dX10_parts_76 : decode cX10_parts 76 = .ok (.invokestatic 209, 3) := by decide +kernel
theorem dX10_parts_79 : decode cX10_parts 79 = .ok (.istore 7, 2) := by decide +kernel
theorem dX10_parts_81 : decode cX10_parts 81 = .ok (.aload_n 0, 1) := by decide +kernel
theorem dX10_parts_82 : decode cX10_parts 82 = .ok (.getfield 40, 3) := by decide +kernel
theorem dX10_parts_85 : decode cX10_parts 85 = .ok (.iload 7, 2) := by decide +kernel
theorem dX10_parts_87 : decode cX10_parts 87 = .ok (.baload, 1) := by decide +kernel
theorem dX10_parts_88 : decode cX10_parts 88 = .ok (.ifCond .ne 38, 3) := by decide +kernel
theorem dX10_parts_91 : decode cX10_parts 91 = .ok (.aload_n 0, 1) := by decide +kernel
theorem dX10_parts_92 : decode cX10_parts 92 = .ok (.getfield 52, 3) := by decide +kernel
theorem dX10_parts_95 : decode cX10_parts 95 = .ok (.iload 7, 2) := by decide +kernel
theorem dX10_parts_97 : decode cX10_parts 97 = .ok (.iaload, 1) := by decide +kernel
theorem dX10_parts_98 : decode cX10_parts 98 = .ok (.iconst (-1), 1) := by decide +kernel
theorem dX10_parts_99 : decode cX10_parts 99 = .ok (.if_icmp .ne 27, 3) := by decide +kernel
theorem dX10_parts_102 : decode cX10_parts 102 = .ok (.aload_n 0, 1) := by decide +kernel
theorem dX10_parts_103 : decode cX10_parts 103 = .ok (.iload 7, 2) := by decide +kernel
theorem dX10_parts_105 : decode cX10_parts 105 = .ok (.aload_n 1, 1) := by decide +kernel
theorem dX10_parts_106 : decode cX10_parts 106 = .ok (.iload_n 2, 1) := by decide +kernel
theorem dX10_parts_107 : decode cX10_parts 107 = .ok (.invokevirtual 230, 3) := by decide +kernel
theorem dX10_parts_110 : decode cX10_parts 110 = .ok (.iload_n 3, 1) := by decide +kernel
theorem dX10_parts_111 : decode cX10_parts 111 = .ok (.if_icmp .eq 6, 3) := by decide +kernel
theorem dX10_parts_114 : decode cX10_parts 114 = .ok (.goto 12, 3) := by decide +kernel
theorem dX10_parts_117 : decode cX10_parts 117 = .ok (.aload_n 0, 1) := by decide +kernel
theorem dX10_parts_118 : decode cX10_parts 118 = .ok (.iload 7, 2) := by decide +kernel
theorem dX10_parts_120 : decode cX10_parts 120 = .ok (.aload_n 1, 1) := by decide +kernel
theorem dX10_parts_121 : decode cX10_parts 121 = .ok (.iload_n 2, 1) := by decide +kernel
theorem dX10_parts_122 : decode cX10_parts 122 = .ok (.iload_n 3, 1) := by decide +kernel
theorem dX10_parts_123 : decode cX10_parts 123 = .ok (.invokevirtual 234, 3) := by decide +kernel
theorem dX10_parts_126 : decode cX10_parts 126 = .ok (.iinc 6 1, 3) := by decide +kernel
theorem dX10_parts_129 : decode cX10_parts 129 = .ok (.goto (-68), 3) := by decide +kernel
theorem dX10_parts_132 : decode cX10_parts 132 = .ok (.iinc 5 1, 3) := by decide +kernel
theorem dX10_parts_135 : decode cX10_parts 135 = .ok (.goto (-86), 3) := by decide +kernel
theorem dX10_parts_138 : decode cX10_parts 138 = .ok (.iinc 4 1, 3) := by decide +kernel
theorem dX10_parts_141 : decode cX10_parts 141 = .ok (.goto (-104), 3) := by decide +kernel
theorem dX10_parts_144 : decode cX10_parts 144 = .ok (.iinc 3 1, 3) := by decide +kernel
theorem dX10_parts_147 : decode cX10_parts 147 = .ok (.goto (-118), 3) := by decide +kernel
theorem dX10_parts_150 : decode cX10_parts 150 = .ok (.aload_n 0, 1) := by decide +kernel
theorem dX10_parts_151 : decode cX10_parts 151 = .ok (.getfield 227, 3) := by decide +kernel
theorem dX10_parts_154 : decode cX10_parts 154 = .ok (.ireturn, 1) := by decide +kernel
theorem dX10_hangs_0 : decode cX10_hangs 0 = .ok (.iconst 1, 1) := by decide +kernel
theorem dX10_hangs_1 : decode cX10_hangs 1 = .ok (.istore 5, 2) := by decide +kernel
theorem dX10_hangs_3 : decode cX10_hangs 3 = .ok (.aload_n 0, 1) := by decide +kernel
theorem dX10_hangs_4 : decode cX10_hangs 4 = .ok (.getfield 55, 3) := by decide +kernel
theorem dX10_hangs_7 : decode cX10_hangs 7 = .ok (.iconst 0, 1) := by decide +kernel
theorem dX10_hangs_8 : decode cX10_hangs 8 = .ok (.iload_n 1, 1) := by decide +kernel
theorem dX10_hangs_9 : decode cX10_hangs 9 = .ok (.iastore, 1) := by decide +kernel
theorem dX10_hangs_10 : decode cX10_hangs 10 = .ok (.aload_n 0, 1) := by decide +kernel
theorem dX10_hangs_11 : decode cX10_hangs 11 = .ok (.getfield 52, 3) := by decide +kernel
theorem dX10_hangs_14 : decode cX10_hangs 14 = .ok (.iload_n 1, 1) := by decide +kernel
theorem dX10_hangs_15 : decode cX10_hangs 15 = .ok (.aload_n 0, 1) := by decide +kernel
theorem dX10_hangs_16 : decode cX10_hangs 16 = .ok (.getfield 227, 3) := by decide +kernel
theorem dX10_hangs_19 : decode cX10_hangs 19 = .ok (.iastore, 1) := by decide +kernel
theorem dX10_hangs_20 : decode cX10_hangs 20 = .ok (.aload_n 0, 1) := by decide +kernel
theorem dX10_hangs_21 : decode cX10_hangs 21 = .ok (.getfield 58, 3) := by decide +kernel
theorem dX10_hangs_24 : decode cX10_hangs 24 = .ok (.aload_n 0, 1) := by decide +kernel
theorem dX10_hangs_25 : decode cX10_hangs 25 = .ok (.getfield 227, 3) := by decide +kernel
theorem dX10_hangs_28 : decode cX10_hangs 28 = .ok (.aload_n 2, 1) := by decide +kernel
theorem dX10_hangs_29 : decode cX10_hangs 29 = .ok (.iload 4, 2) := by decide +kernel
theorem dX10_hangs_31 : decode cX10_hangs 31 = .ok (.iaload, 1) := by decide +kernel
theorem dX10_hangs_32 : decode cX10_hangs 32 = .ok (.iastore, 1) := by decide +kernel
theorem dX10_hangs_33 : decode cX10_hangs 33 = .ok (.aload_n 0, 1) := by decide +kernel
theorem dX10_hangs_34 : decode cX10_hangs 34 = .ok (.getfield 61, 3) := by decide +kernel
theorem dX10_hangs_37 : decode cX10_hangs 37 = .ok (.aload_n 0, 1) := by decide +kernel
theorem dX10_hangs_38 : decode cX10_hangs 38 = .ok (.getfield 227, 3) := by decide +kernel
theorem dX10_hangs_41 : decode cX10_hangs 41 = .ok (.iconst 0, 1) := by decide +kernel
theorem dX10_hangs_42 : decode cX10_hangs 42 = .ok (.iastore, 1) := by decide +kernel
theorem dX10_hangs_43 : decode cX10_hangs 43 = .ok (.aload_n 0, 1) := by decide +kernel
theorem dX10_hangs_44 : decode cX10_hangs 44 = .ok (.getfield 64, 3) := by decide +kernel
theorem dX10_hangs_47 : decode cX10_hangs 47 = .ok (.aload_n 0, 1) := by decide +kernel
theorem dX10_hangs_48 : decode cX10_hangs 48 = .ok (.getfield 227, 3) := by decide +kernel
theorem dX10_hangs_51 : decode cX10_hangs 51 = .ok (.iconst 0, 1) := by decide +kernel
theorem dX10_hangs_52 : decode cX10_hangs 52 = .ok (.iastore, 1) := by decide +kernel
theorem dX10_hangs_53 : decode cX10_hangs 53 = .ok (.aload_n 0, 1) := by decide +kernel
theorem dX10_hangs_54 : decode cX10_hangs 54 = .ok (.getfield 67, 3) := by decide +kernel
theorem dX10_hangs_57 : decode cX10_hangs 57 = .ok (.aload_n 0, 1) := by decide +kernel
theorem dX10_hangs_58 : decode cX10_hangs 58 = .ok (.getfield 227, 3) := by decide +kernel
theorem dX10_hangs_61 : decode cX10_hangs 61 = .ok (.iconst 0, 1) := by decide +kernel
theorem dX10_hangs_62 : decode cX10_hangs 62 = .ok (.iastore, 1) := by decide +kernel
theorem dX10_hangs_63 : decode cX10_hangs 63 = .ok (.iconst 0, 1) := by decide +kernel
theorem dX10_hangs_64 : decode cX10_hangs 64 = .ok (.istore 6, 2) := by decide +kernel
theorem dX10_hangs_66 : decode cX10_hangs 66 = .ok (.iload 6, 2) := by decide +kernel
theorem dX10_hangs_68 : decode cX10_hangs 68 = .ok (.iload 5, 2) := by decide +kernel
theorem dX10_hangs_70 : decode cX10_hangs 70 = .ok (.if_icmp .ge 226, 3) := by decide +kernel
theorem dX10_hangs_73 : decode cX10_hangs 73 = .ok (.aload_n 0, 1) := by decide +kernel
theorem dX10_hangs_74 : decode cX10_hangs 74 = .ok (.getfield 55, 3) := by decide +kernel
theorem dX10_hangs_77 : decode cX10_hangs 77 = .ok (.iload 6, 2) := by decide +kernel
theorem dX10_hangs_79 : decode cX10_hangs 79 = .ok (.iaload, 1) := by decide +kernel
theorem dX10_hangs_80 : decode cX10_hangs 80 = .ok (.bipush 10, 2) := by decide +kernel
theorem dX10_hangs_82 : decode cX10_hangs 82 = .ok (.irem, 1) := by decide +kernel
theorem dX10_hangs_83 : decode cX10_hangs 83 = .ok (.iconst 1, 1) := by decide +kernel
theorem dX10_hangs_84 : decode cX10_hangs 84 = .ok (.isub, 1) := by decide +kernel
theorem dX10_hangs_85 : decode cX10_hangs 85 = .ok (.istore 7, 2) := by decide +kernel
theorem dX10_hangs_87 : decode cX10_hangs 87 = .ok (.aload_n 0, 1) := by decide +kernel
theorem dX10_hangs_88 : decode cX10_hangs 88 = .ok (.getfield 55, 3) := by decide +kernel
theorem dX10_hangs_91 : decode cX10_hangs 91 = .ok (.iload 6, 2) := by decide +kernel
theorem dX10_hangs_93 : decode cX10_hangs 93 = .ok (.iaload, 1) := by decide +kernel
theorem dX10_hangs_94 : decode cX10_hangs 94 = .ok (.bipush 10, 2) := by decide +kernel
theorem dX10_hangs_96 : decode cX10_hangs 96 = .ok (.idiv, 1) := by decide +kernel
theorem dX10_hangs_97 : decode cX10_hangs 97 = .ok (.bipush 10, 2) := by decide +kernel
theorem dX10_hangs_99 : decode cX10_hangs 99 = .ok (.irem, 1) := by decide +kernel
theorem dX10_hangs_100 : decode cX10_hangs 100 = .ok (.iconst 1, 1) := by decide +kernel
theorem dX10_hangs_101 : decode cX10_hangs 101 = .ok (.isub, 1) := by decide +kernel
theorem dX10_hangs_102 : decode cX10_hangs 102 = .ok (.istore 8, 2) := by decide +kernel
theorem dX10_hangs_104 : decode cX10_hangs 104 = .ok (.aload_n 0, 1) := by decide +kernel
theorem dX10_hangs_105 : decode cX10_hangs 105 = .ok (.getfield 55, 3) := by decide +kernel
theorem dX10_hangs_108 : decode cX10_hangs 108 = .ok (.iload 6, 2) := by decide +kernel
theorem dX10_hangs_110 : decode cX10_hangs 110 = .ok (.iaload, 1) := by decide +kernel
theorem dX10_hangs_111 : decode cX10_hangs 111 = .ok (.bipush 100, 2) := by decide +kernel
theorem dX10_hangs_113 : decode cX10_hangs 113 = .ok (.idiv, 1) := by decide +kernel
theorem dX10_hangs_114 : decode cX10_hangs 114 = .ok (.iconst 1, 1) := by decide +kernel
theorem dX10_hangs_115 : decode cX10_hangs 115 = .ok (.isub, 1) := by decide +kernel
theorem dX10_hangs_116 : decode cX10_hangs 116 = .ok (.istore 9, 2) := by decide +kernel
theorem dX10_hangs_118 : decode cX10_hangs 118 = .ok (.aload_n 0, 1) := by decide +kernel
theorem dX10_hangs_119 : decode cX10_hangs 119 = .ok (.getfield 61, 3) := by decide +kernel
theorem dX10_hangs_122 : decode cX10_hangs 122 = .ok (.aload_n 0, 1) := by decide +kernel
theorem dX10_hangs_123 : decode cX10_hangs 123 = .ok (.getfield 227, 3) := by decide +kernel
theorem dX10_hangs_126 : decode cX10_hangs 126 = .ok (.dup2, 1) := by decide +kernel
theorem dX10_hangs_127 : decode cX10_hangs 127 = .ok (.iaload, 1) := by decide +kernel
theorem dX10_hangs_128 : decode cX10_hangs 128 = .ok (.iconst 1, 1) := by decide +kernel
theorem dX10_hangs_129 : decode cX10_hangs 129 = .ok (.iadd, 1) := by decide +kernel
theorem dX10_hangs_130 : decode cX10_hangs 130 = .ok (.iastore, 1) := by decide +kernel
theorem dX10_hangs_131 : decode cX10_hangs 131 = .ok (.aload_n 0, 1) := by decide +kernel
theorem dX10_hangs_132 : decode cX10_hangs 132 = .ok (.iload 7, 2) := by decide +kernel
theorem dX10_hangs_134 : decode cX10_hangs 134 = .ok (.iload 8, 2) := by decide +kernel
theorem dX10_hangs_136 : decode cX10_hangs 136 = .ok (.iload 9, 2) := by decide +kernel
theorem dX10_hangs_138 : decode cX10_hangs 138 = .ok (.invokevirtual 238, 3) := by decide +kernel
theorem dX10_hangs_141 : decode cX10_hangs 141 = .ok (.ifCond .eq 16, 3) := by decide +kernel
theorem dX10_hangs_144 : decode cX10_hangs 144 = .ok (.aload_n 0, 1) := by decide +kernel
theorem dX10_hangs_145 : decode cX10_hangs 145 = .ok (.getfield 64, 3) := by decide +kernel
theorem dX10_hangs_148 : decode cX10_hangs 148 = .ok (.aload_n 0, 1) := by decide +kernel
theorem dX10_hangs_149 : decode cX10_hangs 149 = .ok (.getfield 227, 3) := by decide +kernel
theorem dX10_hangs_152 : decode cX10_hangs 152 = .ok (.dup2, 1) := by decide +kernel
theorem dX10_hangs_153 : decode cX10_hangs 153 = .ok (.iaload, 1) := by decide +kernel
theorem dX10_hangs_154 : decode cX10_hangs 154 = .ok (.iconst 1, 1) := by decide +kernel
theorem dX10_hangs_155 : decode cX10_hangs 155 = .ok (.iadd, 1) := by decide +kernel
theorem dX10_hangs_156 : decode cX10_hangs 156 = .ok (.iastore, 1) := by decide +kernel
theorem dX10_hangs_157 : decode cX10_hangs 157 = .ok (.iconst 0, 1) := by decide +kernel
theorem dX10_hangs_158 : decode cX10_hangs 158 = .ok (.istore 10, 2) := by decide +kernel
theorem dX10_hangs_160 : decode cX10_hangs 160 = .ok (.iload 10, 2) := by decide +kernel
theorem dX10_hangs_162 : decode cX10_hangs 162 = .ok (.bipush 6, 2) := by decide +kernel
theorem dX10_hangs_164 : decode cX10_hangs 164 = .ok (.if_icmp .ge 126, 3) := by decide +kernel
theorem dX10_hangs_167 : decode cX10_hangs 167 = .ok (.iload 7, 2) := by decide +kernel
theorem dX10_hangs_169 : decode cX10_hangs 169 = .ok (.iload 10, 2) := by decide +kernel
theorem dX10_hangs_171 : decode cX10_hangs 171 = .ok (.invokestatic 218, 3) := by decide +kernel
theorem dX10_hangs_174 : decode cX10_hangs 174 = .ok (.iadd, 1) := by decide +kernel
theorem dX10_hangs_175 : decode cX10_hangs 175 = .ok (.istore 11, 2) := by decide +kernel
theorem dX10_hangs_177 : decode cX10_hangs 177 = .ok (.iload 8, 2) := by decide +kernel
theorem dX10_hangs_179 : decode cX10_hangs 179 = .ok (.iload 10, 2) := by decide +kernel
theorem dX10_hangs_181 : decode cX10_hangs 181 = .ok (.invokestatic 221, 3) := by decide +kernel
theorem dX10_hangs_184 : decode cX10_hangs 184 = .ok (.iadd, 1) := by decide +kernel
theorem dX10_hangs_185 : decode cX10_hangs 185 = .ok (.istore 12, 2) := by decide +kernel
theorem dX10_hangs_187 : decode cX10_hangs 187 = .ok (.iload 9, 2) := by decide +kernel
theorem dX10_hangs_189 : decode cX10_hangs 189 = .ok (.iload 10, 2) := by decide +kernel
theorem dX10_hangs_191 : decode cX10_hangs 191 = .ok (.invokestatic 224, 3) := by decide +kernel
theorem dX10_hangs_194 : decode cX10_hangs 194 = .ok (.iadd, 1) := by decide +kernel
theorem dX10_hangs_195 : decode cX10_hangs 195 = .ok (.istore 13, 2) := by decide +kernel
theorem dX10_hangs_197 : decode cX10_hangs 197 = .ok (.aload_n 0, 1) := by decide +kernel
theorem dX10_hangs_198 : decode cX10_hangs 198 = .ok (.iload 11, 2) := by decide +kernel
theorem dX10_hangs_200 : decode cX10_hangs 200 = .ok (.iload 12, 2) := by decide +kernel
theorem dX10_hangs_202 : decode cX10_hangs 202 = .ok (.iload 13, 2) := by decide +kernel
theorem dX10_hangs_204 : decode cX10_hangs 204 = .ok (.invokevirtual 215, 3) := by decide +kernel
theorem dX10_hangs_207 : decode cX10_hangs 207 = .ok (.ifCond .ne 6, 3) := by decide +kernel
theorem dX10_hangs_210 : decode cX10_hangs 210 = .ok (.goto 74, 3) := by decide +kernel
theorem dX10_hangs_213 : decode cX10_hangs 213 = .ok (.iload 11, 2) := by decide +kernel
theorem dX10_hangs_215 : decode cX10_hangs 215 = .ok (.iload 12, 2) := by decide +kernel
theorem dX10_hangs_217 : decode cX10_hangs 217 = .ok (.iload 13, 2) := by decide +kernel
theorem dX10_hangs_219 : decode cX10_hangs 219 = .ok (.invokestatic 209, 3) := by decide +kernel
theorem dX10_hangs_222 : decode cX10_hangs 222 = .ok (.istore 14, 2) := by decide +kernel
theorem dX10_hangs_224 : decode cX10_hangs 224 = .ok (.aload_n 0, 1) := by decide +kernel
theorem dX10_hangs_225 : decode cX10_hangs 225 = .ok (.getfield 40, 3) := by decide +kernel
theorem dX10_hangs_228 : decode cX10_hangs 228 = .ok (.iload 14, 2) := by decide +kernel
theorem dX10_hangs_230 : decode cX10_hangs 230 = .ok (.baload, 1) := by decide +kernel
theorem dX10_hangs_231 : decode cX10_hangs 231 = .ok (.ifCond .ne 53, 3) := by decide +kernel
theorem dX10_hangs_234 : decode cX10_hangs 234 = .ok (.aload_n 0, 1) := by decide +kernel
theorem dX10_hangs_235 : decode cX10_hangs 235 = .ok (.getfield 52, 3) := by decide +kernel
theorem dX10_hangs_238 : decode cX10_hangs 238 = .ok (.iload 14, 2) := by decide +kernel
theorem dX10_hangs_240 : decode cX10_hangs 240 = .ok (.iaload, 1) := by decide +kernel
theorem dX10_hangs_241 : decode cX10_hangs 241 = .ok (.iconst (-1), 1) := by decide +kernel
theorem dX10_hangs_242 : decode cX10_hangs 242 = .ok (.if_icmp .ne 42, 3) := by decide +kernel
theorem dX10_hangs_245 : decode cX10_hangs 245 = .ok (.aload_n 0, 1) := by decide +kernel
theorem dX10_hangs_246 : decode cX10_hangs 246 = .ok (.iload 14, 2) := by decide +kernel
theorem dX10_hangs_248 : decode cX10_hangs 248 = .ok (.aload_n 2, 1) := by decide +kernel
theorem dX10_hangs_249 : decode cX10_hangs 249 = .ok (.iload_n 3, 1) := by decide +kernel
theorem dX10_hangs_250 : decode cX10_hangs 250 = .ok (.invokevirtual 230, 3) := by decide +kernel
theorem dX10_hangs_253 : decode cX10_hangs 253 = .ok (.iload 4, 2) := by decide +kernel
theorem dX10_hangs_255 : decode cX10_hangs 255 = .ok (.if_icmp .eq 6, 3) := by decide +kernel
theorem dX10_hangs_258 : decode cX10_hangs 258 = .ok (.goto 26, 3) := by decide +kernel
theorem dX10_hangs_261 : decode cX10_hangs 261 = .ok (.aload_n 0, 1) := by decide +kernel
theorem dX10_hangs_262 : decode cX10_hangs 262 = .ok (.getfield 52, 3) := by decide +kernel
theorem dX10_hangs_265 : decode cX10_hangs 265 = .ok (.iload 14, 2) := by decide +kernel
theorem dX10_hangs_267 : decode cX10_hangs 267 = .ok (.aload_n 0, 1) := by decide +kernel
theorem dX10_hangs_268 : decode cX10_hangs 268 = .ok (.getfield 227, 3) := by decide +kernel
theorem dX10_hangs_271 : decode cX10_hangs 271 = .ok (.iastore, 1) := by decide +kernel
theorem dX10_hangs_272 : decode cX10_hangs 272 = .ok (.aload_n 0, 1) := by decide +kernel
theorem dX10_hangs_273 : decode cX10_hangs 273 = .ok (.getfield 55, 3) := by decide +kernel
theorem dX10_hangs_276 : decode cX10_hangs 276 = .ok (.iload 5, 2) := by decide +kernel
theorem dX10_hangs_278 : decode cX10_hangs 278 = .ok (.iload 14, 2) := by decide +kernel
theorem dX10_hangs_280 : decode cX10_hangs 280 = .ok (.iastore, 1) := by decide +kernel
theorem dX10_hangs_281 : decode cX10_hangs 281 = .ok (.iinc 5 1, 3) := by decide +kernel
theorem dX10_hangs_284 : decode cX10_hangs 284 = .ok (.iinc 10 1, 3) := by decide +kernel
theorem dX10_hangs_287 : decode cX10_hangs 287 = .ok (.goto (-127), 3) := by decide +kernel
theorem dX10_hangs_290 : decode cX10_hangs 290 = .ok (.iinc 6 1, 3) := by decide +kernel
theorem dX10_hangs_293 : decode cX10_hangs 293 = .ok (.goto (-227), 3) := by decide +kernel
theorem dX10_hangs_296 : decode cX10_hangs 296 = .ok (.aload_n 0, 1) := by decide +kernel
theorem dX10_hangs_297 : decode cX10_hangs 297 = .ok (.dup, 1) := by decide +kernel
theorem dX10_hangs_298 : decode cX10_hangs 298 = .ok (.getfield 227, 3) := by decide +kernel
theorem dX10_hangs_301 : decode cX10_hangs 301 = .ok (.iconst 1, 1) := by decide +kernel
theorem dX10_hangs_302 : decode cX10_hangs 302 = .ok (.iadd, 1) := by decide +kernel
theorem dX10_hangs_303 : decode cX10_hangs 303 = .ok (.putfield 227, 3) := by decide +kernel
theorem dX10_hangs_306 : decode cX10_hangs 306 = .ok (.return_, 1) := by decide +kernel
theorem dX10_ones_0 : decode cX10_ones 0 = .ok (.iconst 0, 1) := by decide +kernel
theorem dX10_ones_1 : decode cX10_ones 1 = .ok (.istore_n 1, 1) := by decide +kernel
theorem dX10_ones_2 : decode cX10_ones 2 = .ok (.iconst 0, 1) := by decide +kernel
theorem dX10_ones_3 : decode cX10_ones 3 = .ok (.istore_n 2, 1) := by decide +kernel
theorem dX10_ones_4 : decode cX10_ones 4 = .ok (.iload_n 2, 1) := by decide +kernel
theorem dX10_ones_5 : decode cX10_ones 5 = .ok (.bipush 6, 2) := by decide +kernel
theorem dX10_ones_7 : decode cX10_ones 7 = .ok (.if_icmp .ge 17, 3) := by decide +kernel
theorem dX10_ones_10 : decode cX10_ones 10 = .ok (.iload_n 1, 1) := by decide +kernel
theorem dX10_ones_11 : decode cX10_ones 11 = .ok (.iload_n 0, 1) := by decide +kernel
theorem dX10_ones_12 : decode cX10_ones 12 = .ok (.iload_n 2, 1) := by decide +kernel
theorem dX10_ones_13 : decode cX10_ones 13 = .ok (.ishr, 1) := by decide +kernel
theorem dX10_ones_14 : decode cX10_ones 14 = .ok (.iconst 1, 1) := by decide +kernel
theorem dX10_ones_15 : decode cX10_ones 15 = .ok (.iand, 1) := by decide +kernel
theorem dX10_ones_16 : decode cX10_ones 16 = .ok (.iadd, 1) := by decide +kernel
theorem dX10_ones_17 : decode cX10_ones 17 = .ok (.istore_n 1, 1) := by decide +kernel
theorem dX10_ones_18 : decode cX10_ones 18 = .ok (.iinc 2 1, 3) := by decide +kernel
theorem dX10_ones_21 : decode cX10_ones 21 = .ok (.goto (-17), 3) := by decide +kernel
theorem dX10_ones_24 : decode cX10_ones 24 = .ok (.iload_n 1, 1) := by decide +kernel
theorem dX10_ones_25 : decode cX10_ones 25 = .ok (.ireturn, 1) := by decide +kernel
theorem dX10_fewest_0 : decode cX10_fewest 0 = .ok (.bipush 7, 2) := by decide +kernel
theorem dX10_fewest_2 : decode cX10_fewest 2 = .ok (.istore_n 1, 1) := by decide +kernel
theorem dX10_fewest_3 : decode cX10_fewest 3 = .ok (.iconst 1, 1) := by decide +kernel
theorem dX10_fewest_4 : decode cX10_fewest 4 = .ok (.istore_n 2, 1) := by decide +kernel
theorem dX10_fewest_5 : decode cX10_fewest 5 = .ok (.iload_n 2, 1) := by decide +kernel
theorem dX10_fewest_6 : decode cX10_fewest 6 = .ok (.bipush 64, 2) := by decide +kernel
theorem dX10_fewest_8 : decode cX10_fewest 8 = .ok (.if_icmp .ge 30, 3) := by decide +kernel
theorem dX10_fewest_11 : decode cX10_fewest 11 = .ok (.iload_n 2, 1) := by decide +kernel
theorem dX10_fewest_12 : decode cX10_fewest 12 = .ok (.invokestatic 241, 3) := by decide +kernel
theorem dX10_fewest_15 : decode cX10_fewest 15 = .ok (.iload_n 1, 1) := by decide +kernel
theorem dX10_fewest_16 : decode cX10_fewest 16 = .ok (.if_icmp .ge 16, 3) := by decide +kernel
theorem dX10_fewest_19 : decode cX10_fewest 19 = .ok (.aload_n 0, 1) := by decide +kernel
theorem dX10_fewest_20 : decode cX10_fewest 20 = .ok (.iload_n 2, 1) := by decide +kernel
theorem dX10_fewest_21 : decode cX10_fewest 21 = .ok (.invokevirtual 244, 3) := by decide +kernel
theorem dX10_fewest_24 : decode cX10_fewest 24 = .ok (.ifCond .eq 8, 3) := by decide +kernel
theorem dX10_fewest_27 : decode cX10_fewest 27 = .ok (.iload_n 2, 1) := by decide +kernel
theorem dX10_fewest_28 : decode cX10_fewest 28 = .ok (.invokestatic 241, 3) := by decide +kernel
theorem dX10_fewest_31 : decode cX10_fewest 31 = .ok (.istore_n 1, 1) := by decide +kernel
theorem dX10_fewest_32 : decode cX10_fewest 32 = .ok (.iinc 2 1, 3) := by decide +kernel
theorem dX10_fewest_35 : decode cX10_fewest 35 = .ok (.goto (-30), 3) := by decide +kernel
theorem dX10_fewest_38 : decode cX10_fewest 38 = .ok (.iload_n 1, 1) := by decide +kernel
theorem dX10_fewest_39 : decode cX10_fewest 39 = .ok (.ireturn, 1) := by decide +kernel
theorem dX10_draw_0 : decode cX10_draw 0 = .ok (.aload_n 0, 1) := by decide +kernel
theorem dX10_draw_1 : decode cX10_draw 1 = .ok (.getfield 183, 3) := by decide +kernel
theorem dX10_draw_4 : decode cX10_draw 4 = .ok (.ifCond .ne 5, 3) := by decide +kernel
theorem dX10_draw_7 : decode cX10_draw 7 = .ok (.iconst (-1), 1) := by decide +kernel
theorem dX10_draw_8 : decode cX10_draw 8 = .ok (.ireturn, 1) := by decide +kernel
theorem dX10_draw_9 : decode cX10_draw 9 = .ok (.aload_n 0, 1) := by decide +kernel
theorem dX10_draw_10 : decode cX10_draw 10 = .ok (.invokevirtual 247, 3) := by decide +kernel
theorem dX10_draw_13 : decode cX10_draw 13 = .ok (.istore_n 1, 1) := by decide +kernel
theorem dX10_draw_14 : decode cX10_draw 14 = .ok (.iload_n 1, 1) := by decide +kernel
theorem dX10_draw_15 : decode cX10_draw 15 = .ok (.bipush 7, 2) := by decide +kernel
theorem dX10_draw_17 : decode cX10_draw 17 = .ok (.if_icmp .ne 6, 3) := by decide +kernel
theorem dX10_draw_20 : decode cX10_draw 20 = .ok (.bipush (-2), 2) := by decide +kernel
theorem dX10_draw_22 : decode cX10_draw 22 = .ok (.ireturn, 1) := by decide +kernel
theorem dX10_draw_23 : decode cX10_draw 23 = .ok (.iconst 1, 1) := by decide +kernel
theorem dX10_draw_24 : decode cX10_draw 24 = .ok (.istore_n 2, 1) := by decide +kernel
theorem dX10_draw_25 : decode cX10_draw 25 = .ok (.iconst 0, 1) := by decide +kernel
theorem dX10_draw_26 : decode cX10_draw 26 = .ok (.istore_n 3, 1) := by decide +kernel
theorem dX10_draw_27 : decode cX10_draw 27 = .ok (.iload_n 3, 1) := by decide +kernel
theorem dX10_draw_28 : decode cX10_draw 28 = .ok (.iload_n 1, 1) := by decide +kernel
theorem dX10_draw_29 : decode cX10_draw 29 = .ok (.if_icmp .ge 14, 3) := by decide +kernel
theorem dX10_draw_32 : decode cX10_draw 32 = .ok (.iload_n 2, 1) := by decide +kernel
theorem dX10_draw_33 : decode cX10_draw 33 = .ok (.bipush 6, 2) := by decide +kernel
theorem dX10_draw_35 : decode cX10_draw 35 = .ok (.imul, 1) := by decide +kernel
theorem dX10_draw_36 : decode cX10_draw 36 = .ok (.istore_n 2, 1) := by decide +kernel
theorem dX10_draw_37 : decode cX10_draw 37 = .ok (.iinc 3 1, 3) := by decide +kernel
theorem dX10_draw_40 : decode cX10_draw 40 = .ok (.goto (-13), 3) := by decide +kernel
theorem dX10_draw_43 : decode cX10_draw 43 = .ok (.ldc 250, 2) := by decide +kernel
theorem dX10_draw_45 : decode cX10_draw 45 = .ok (.istore_n 3, 1) := by decide +kernel
theorem dX10_draw_46 : decode cX10_draw 46 = .ok (.iconst 0, 1) := by decide +kernel
theorem dX10_draw_47 : decode cX10_draw 47 = .ok (.istore 4, 2) := by decide +kernel
theorem dX10_draw_49 : decode cX10_draw 49 = .ok (.iload 4, 2) := by decide +kernel
theorem dX10_draw_51 : decode cX10_draw 51 = .ok (.iload_n 2, 1) := by decide +kernel
theorem dX10_draw_52 : decode cX10_draw 52 = .ok (.if_icmp .ge 138, 3) := by decide +kernel
theorem dX10_draw_55 : decode cX10_draw 55 = .ok (.iload 4, 2) := by decide +kernel
theorem dX10_draw_57 : decode cX10_draw 57 = .ok (.istore 5, 2) := by decide +kernel
theorem dX10_draw_59 : decode cX10_draw 59 = .ok (.iconst 0, 1) := by decide +kernel
theorem dX10_draw_60 : decode cX10_draw 60 = .ok (.istore 6, 2) := by decide +kernel
theorem dX10_draw_62 : decode cX10_draw 62 = .ok (.iload_n 1, 1) := by decide +kernel
theorem dX10_draw_63 : decode cX10_draw 63 = .ok (.iconst 1, 1) := by decide +kernel
theorem dX10_draw_64 : decode cX10_draw 64 = .ok (.isub, 1) := by decide +kernel
theorem dX10_draw_65 : decode cX10_draw 65 = .ok (.istore 7, 2) := by decide +kernel
theorem dX10_draw_67 : decode cX10_draw 67 = .ok (.iload 7, 2) := by decide +kernel
theorem dX10_draw_69 : decode cX10_draw 69 = .ok (.ifCond .lt 42, 3) := by decide +kernel
theorem dX10_draw_72 : decode cX10_draw 72 = .ok (.aload_n 0, 1) := by decide +kernel
theorem dX10_draw_73 : decode cX10_draw 73 = .ok (.getfield 49, 3) := by decide +kernel
theorem dX10_draw_76 : decode cX10_draw 76 = .ok (.iload 7, 2) := by decide +kernel
theorem dX10_draw_78 : decode cX10_draw 78 = .ok (.iload 5, 2) := by decide +kernel
theorem dX10_draw_80 : decode cX10_draw 80 = .ok (.bipush 6, 2) := by decide +kernel
theorem dX10_draw_82 : decode cX10_draw 82 = .ok (.irem, 1) := by decide +kernel
theorem dX10_draw_83 : decode cX10_draw 83 = .ok (.iastore, 1) := by decide +kernel
theorem dX10_draw_84 : decode cX10_draw 84 = .ok (.iload 5, 2) := by decide +kernel
theorem dX10_draw_86 : decode cX10_draw 86 = .ok (.bipush 6, 2) := by decide +kernel
theorem dX10_draw_88 : decode cX10_draw 88 = .ok (.idiv, 1) := by decide +kernel
theorem dX10_draw_89 : decode cX10_draw 89 = .ok (.istore 5, 2) := by decide +kernel
theorem dX10_draw_91 : decode cX10_draw 91 = .ok (.iload 6, 2) := by decide +kernel
theorem dX10_draw_93 : decode cX10_draw 93 = .ok (.iconst 1, 1) := by decide +kernel
theorem dX10_draw_94 : decode cX10_draw 94 = .ok (.aload_n 0, 1) := by decide +kernel
theorem dX10_draw_95 : decode cX10_draw 95 = .ok (.getfield 49, 3) := by decide +kernel
theorem dX10_draw_98 : decode cX10_draw 98 = .ok (.iload 7, 2) := by decide +kernel
theorem dX10_draw_100 : decode cX10_draw 100 = .ok (.iaload, 1) := by decide +kernel
theorem dX10_draw_101 : decode cX10_draw 101 = .ok (.ishl, 1) := by decide +kernel
theorem dX10_draw_102 : decode cX10_draw 102 = .ok (.ior, 1) := by decide +kernel
theorem dX10_draw_103 : decode cX10_draw 103 = .ok (.istore 6, 2) := by decide +kernel
theorem dX10_draw_105 : decode cX10_draw 105 = .ok (.iinc 7 (-1), 3) := by decide +kernel
theorem dX10_draw_108 : decode cX10_draw 108 = .ok (.goto (-41), 3) := by decide +kernel
theorem dX10_draw_111 : decode cX10_draw 111 = .ok (.iload 6, 2) := by decide +kernel
theorem dX10_draw_113 : decode cX10_draw 113 = .ok (.invokestatic 241, 3) := by decide +kernel
theorem dX10_draw_116 : decode cX10_draw 116 = .ok (.iload_n 1, 1) := by decide +kernel
theorem dX10_draw_117 : decode cX10_draw 117 = .ok (.if_icmp .lt 67, 3) := by decide +kernel
theorem dX10_draw_120 : decode cX10_draw 120 = .ok (.aload_n 0, 1) := by decide +kernel
theorem dX10_draw_121 : decode cX10_draw 121 = .ok (.iload 6, 2) := by decide +kernel
theorem dX10_draw_123 : decode cX10_draw 123 = .ok (.invokevirtual 244, 3) := by decide +kernel
theorem dX10_draw_126 : decode cX10_draw 126 = .ok (.ifCond .ne 6, 3) := by decide +kernel
theorem dX10_draw_129 : decode cX10_draw 129 = .ok (.goto 55, 3) := by decide +kernel
theorem dX10_draw_132 : decode cX10_draw 132 = .ok (.aload_n 0, 1) := by decide +kernel
theorem dX10_draw_133 : decode cX10_draw 133 = .ok (.aload_n 0, 1) := by decide +kernel
theorem dX10_draw_134 : decode cX10_draw 134 = .ok (.getfield 49, 3) := by decide +kernel
theorem dX10_draw_137 : decode cX10_draw 137 = .ok (.iload_n 1, 1) := by decide +kernel
theorem dX10_draw_138 : decode cX10_draw 138 = .ok (.invokevirtual 251, 3) := by decide +kernel
theorem dX10_draw_141 : decode cX10_draw 141 = .ok (.istore 7, 2) := by decide +kernel
theorem dX10_draw_143 : decode cX10_draw 143 = .ok (.iload 7, 2) := by decide +kernel
theorem dX10_draw_145 : decode cX10_draw 145 = .ok (.iload_n 3, 1) := by decide +kernel
theorem dX10_draw_146 : decode cX10_draw 146 = .ok (.if_icmp .lt 6, 3) := by decide +kernel
theorem dX10_draw_149 : decode cX10_draw 149 = .ok (.goto 35, 3) := by decide +kernel
theorem dX10_draw_152 : decode cX10_draw 152 = .ok (.iload 7, 2) := by decide +kernel
theorem dX10_draw_154 : decode cX10_draw 154 = .ok (.istore_n 3, 1) := by decide +kernel
theorem dX10_draw_155 : decode cX10_draw 155 = .ok (.iconst 0, 1) := by decide +kernel
theorem dX10_draw_156 : decode cX10_draw 156 = .ok (.istore 8, 2) := by decide +kernel
theorem dX10_draw_158 : decode cX10_draw 158 = .ok (.iload 8, 2) := by decide +kernel
theorem dX10_draw_160 : decode cX10_draw 160 = .ok (.iload_n 1, 1) := by decide +kernel
theorem dX10_draw_161 : decode cX10_draw 161 = .ok (.if_icmp .ge 23, 3) := by decide +kernel
theorem dX10_draw_164 : decode cX10_draw 164 = .ok (.aload_n 0, 1) := by decide +kernel
theorem dX10_draw_165 : decode cX10_draw 165 = .ok (.getfield 46, 3) := by decide +kernel
theorem dX10_draw_168 : decode cX10_draw 168 = .ok (.iload 8, 2) := by decide +kernel
theorem dX10_draw_170 : decode cX10_draw 170 = .ok (.aload_n 0, 1) := by decide +kernel
theorem dX10_draw_171 : decode cX10_draw 171 = .ok (.getfield 49, 3) := by decide +kernel
theorem dX10_draw_174 : decode cX10_draw 174 = .ok (.iload 8, 2) := by decide +kernel
theorem dX10_draw_176 : decode cX10_draw 176 = .ok (.iaload, 1) := by decide +kernel
theorem dX10_draw_177 : decode cX10_draw 177 = .ok (.iastore, 1) := by decide +kernel
theorem dX10_draw_178 : decode cX10_draw 178 = .ok (.iinc 8 1, 3) := by decide +kernel
theorem dX10_draw_181 : decode cX10_draw 181 = .ok (.goto (-23), 3) := by decide +kernel
theorem dX10_draw_184 : decode cX10_draw 184 = .ok (.iinc 4 1, 3) := by decide +kernel
theorem dX10_draw_187 : decode cX10_draw 187 = .ok (.goto (-138), 3) := by decide +kernel
theorem dX10_draw_190 : decode cX10_draw 190 = .ok (.aload_n 0, 1) := by decide +kernel
theorem dX10_draw_191 : decode cX10_draw 191 = .ok (.iload_n 1, 1) := by decide +kernel
theorem dX10_draw_192 : decode cX10_draw 192 = .ok (.putfield 255, 3) := by decide +kernel
theorem dX10_draw_195 : decode cX10_draw 195 = .ok (.aload_n 0, 1) := by decide +kernel
theorem dX10_draw_196 : decode cX10_draw 196 = .ok (.iconst 1, 1) := by decide +kernel
theorem dX10_draw_197 : decode cX10_draw 197 = .ok (.putfield 206, 3) := by decide +kernel
theorem dX10_draw_200 : decode cX10_draw 200 = .ok (.aload_n 0, 1) := by decide +kernel
theorem dX10_draw_201 : decode cX10_draw 201 = .ok (.aload_n 0, 1) := by decide +kernel
theorem dX10_draw_202 : decode cX10_draw 202 = .ok (.getfield 46, 3) := by decide +kernel
theorem dX10_draw_205 : decode cX10_draw 205 = .ok (.iload_n 1, 1) := by decide +kernel
theorem dX10_draw_206 : decode cX10_draw 206 = .ok (.invokevirtual 251, 3) := by decide +kernel
theorem dX10_draw_209 : decode cX10_draw 209 = .ok (.ireturn, 1) := by decide +kernel
theorem dX10_way_0 : decode cX10_way 0 = .ok (.aload_n 0, 1) := by decide +kernel
theorem dX10_way_1 : decode cX10_way 1 = .ok (.getfield 206, 3) := by decide +kernel
theorem dX10_way_4 : decode cX10_way 4 = .ok (.ifCond .eq 24, 3) := by decide +kernel
theorem dX10_way_7 : decode cX10_way 7 = .ok (.iload_n 1, 1) := by decide +kernel
theorem dX10_way_8 : decode cX10_way 8 = .ok (.ifCond .lt 20, 3) := by decide +kernel
theorem dX10_way_11 : decode cX10_way 11 = .ok (.iload_n 1, 1) := by decide +kernel
theorem dX10_way_12 : decode cX10_way 12 = .ok (.aload_n 0, 1) := by decide +kernel
theorem dX10_way_13 : decode cX10_way 13 = .ok (.getfield 255, 3) := by decide +kernel
theorem dX10_way_16 : decode cX10_way 16 = .ok (.if_icmp .ge 12, 3) := by decide +kernel
theorem dX10_way_19 : decode cX10_way 19 = .ok (.aload_n 0, 1) := by decide +kernel
theorem dX10_way_20 : decode cX10_way 20 = .ok (.getfield 46, 3) := by decide +kernel
theorem dX10_way_23 : decode cX10_way 23 = .ok (.iload_n 1, 1) := by decide +kernel
theorem dX10_way_24 : decode cX10_way 24 = .ok (.iaload, 1) := by decide +kernel
theorem dX10_way_25 : decode cX10_way 25 = .ok (.goto 4, 3) := by decide +kernel
theorem dX10_way_28 : decode cX10_way 28 = .ok (.iconst (-1), 1) := by decide +kernel
theorem dX10_way_29 : decode cX10_way 29 = .ok (.ireturn, 1) := by decide +kernel
theorem dX10_pieceAt_0 : decode cX10_pieceAt 0 = .ok (.aload_n 0, 1) := by decide +kernel
theorem dX10_pieceAt_1 : decode cX10_pieceAt 1 = .ok (.getfield 206, 3) := by decide +kernel
theorem dX10_pieceAt_4 : decode cX10_pieceAt 4 = .ok (.ifCond .eq 41, 3) := by decide +kernel
theorem dX10_pieceAt_7 : decode cX10_pieceAt 7 = .ok (.aload_n 0, 1) := by decide +kernel
theorem dX10_pieceAt_8 : decode cX10_pieceAt 8 = .ok (.iload_n 1, 1) := by decide +kernel
theorem dX10_pieceAt_9 : decode cX10_pieceAt 9 = .ok (.iload_n 2, 1) := by decide +kernel
theorem dX10_pieceAt_10 : decode cX10_pieceAt 10 = .ok (.iload_n 3, 1) := by decide +kernel
theorem dX10_pieceAt_11 : decode cX10_pieceAt 11 = .ok (.invokevirtual 215, 3) := by decide +kernel
theorem dX10_pieceAt_14 : decode cX10_pieceAt 14 = .ok (.ifCond .eq 31, 3) := by decide +kernel
theorem dX10_pieceAt_17 : decode cX10_pieceAt 17 = .ok (.aload_n 0, 1) := by decide +kernel
theorem dX10_pieceAt_18 : decode cX10_pieceAt 18 = .ok (.getfield 40, 3) := by decide +kernel
theorem dX10_pieceAt_21 : decode cX10_pieceAt 21 = .ok (.iload_n 1, 1) := by decide +kernel
theorem dX10_pieceAt_22 : decode cX10_pieceAt 22 = .ok (.iload_n 2, 1) := by decide +kernel
theorem dX10_pieceAt_23 : decode cX10_pieceAt 23 = .ok (.iload_n 3, 1) := by decide +kernel
theorem dX10_pieceAt_24 : decode cX10_pieceAt 24 = .ok (.invokestatic 209, 3) := by decide +kernel
theorem dX10_pieceAt_27 : decode cX10_pieceAt 27 = .ok (.baload, 1) := by decide +kernel
theorem dX10_pieceAt_28 : decode cX10_pieceAt 28 = .ok (.ifCond .ne 17, 3) := by decide +kernel
theorem dX10_pieceAt_31 : decode cX10_pieceAt 31 = .ok (.aload_n 0, 1) := by decide +kernel
theorem dX10_pieceAt_32 : decode cX10_pieceAt 32 = .ok (.getfield 52, 3) := by decide +kernel
theorem dX10_pieceAt_35 : decode cX10_pieceAt 35 = .ok (.iload_n 1, 1) := by decide +kernel
theorem dX10_pieceAt_36 : decode cX10_pieceAt 36 = .ok (.iload_n 2, 1) := by decide +kernel
theorem dX10_pieceAt_37 : decode cX10_pieceAt 37 = .ok (.iload_n 3, 1) := by decide +kernel
theorem dX10_pieceAt_38 : decode cX10_pieceAt 38 = .ok (.invokestatic 209, 3) := by decide +kernel
theorem dX10_pieceAt_41 : decode cX10_pieceAt 41 = .ok (.iaload, 1) := by decide +kernel
theorem dX10_pieceAt_42 : decode cX10_pieceAt 42 = .ok (.goto 4, 3) := by decide +kernel
theorem dX10_pieceAt_45 : decode cX10_pieceAt 45 = .ok (.iconst (-1), 1) := by decide +kernel
theorem dX10_pieceAt_46 : decode cX10_pieceAt 46 = .ok (.ireturn, 1) := by decide +kernel
theorem dX10_isPiece_0 : decode cX10_isPiece 0 = .ok (.aload_n 0, 1) := by decide +kernel
theorem dX10_isPiece_1 : decode cX10_isPiece 1 = .ok (.getfield 206, 3) := by decide +kernel
theorem dX10_isPiece_4 : decode cX10_isPiece 4 = .ok (.ifCond .eq 19, 3) := by decide +kernel
theorem dX10_isPiece_7 : decode cX10_isPiece 7 = .ok (.iload_n 1, 1) := by decide +kernel
theorem dX10_isPiece_8 : decode cX10_isPiece 8 = .ok (.ifCond .lt 15, 3) := by decide +kernel
theorem dX10_isPiece_11 : decode cX10_isPiece 11 = .ok (.iload_n 1, 1) := by decide +kernel
theorem dX10_isPiece_12 : decode cX10_isPiece 12 = .ok (.aload_n 0, 1) := by decide +kernel
theorem dX10_isPiece_13 : decode cX10_isPiece 13 = .ok (.getfield 227, 3) := by decide +kernel
theorem dX10_isPiece_16 : decode cX10_isPiece 16 = .ok (.if_icmp .ge 7, 3) := by decide +kernel
theorem dX10_isPiece_19 : decode cX10_isPiece 19 = .ok (.iconst 1, 1) := by decide +kernel
theorem dX10_isPiece_20 : decode cX10_isPiece 20 = .ok (.goto 4, 3) := by decide +kernel
theorem dX10_isPiece_23 : decode cX10_isPiece 23 = .ok (.iconst 0, 1) := by decide +kernel
theorem dX10_isPiece_24 : decode cX10_isPiece 24 = .ok (.ireturn, 1) := by decide +kernel
theorem dX10_bears_0 : decode cX10_bears 0 = .ok (.aload_n 0, 1) := by decide +kernel
theorem dX10_bears_1 : decode cX10_bears 1 = .ok (.getfield 70, 3) := by decide +kernel
theorem dX10_bears_4 : decode cX10_bears 4 = .ok (.aload_n 0, 1) := by decide +kernel
theorem dX10_bears_5 : decode cX10_bears 5 = .ok (.getfield 64, 3) := by decide +kernel
theorem dX10_bears_8 : decode cX10_bears 8 = .ok (.iload_n 1, 1) := by decide +kernel
theorem dX10_bears_9 : decode cX10_bears 9 = .ok (.iaload, 1) := by decide +kernel
theorem dX10_bears_10 : decode cX10_bears 10 = .ok (.isub, 1) := by decide +kernel
theorem dX10_bears_11 : decode cX10_bears 11 = .ok (.iconst 1, 1) := by decide +kernel
theorem dX10_bears_12 : decode cX10_bears 12 = .ok (.if_icmp .ge 7, 3) := by decide +kernel
theorem dX10_bears_15 : decode cX10_bears 15 = .ok (.iconst 1, 1) := by decide +kernel
theorem dX10_bears_16 : decode cX10_bears 16 = .ok (.goto 14, 3) := by decide +kernel
theorem dX10_bears_19 : decode cX10_bears 19 = .ok (.aload_n 0, 1) := by decide +kernel
theorem dX10_bears_20 : decode cX10_bears 20 = .ok (.getfield 70, 3) := by decide +kernel
theorem dX10_bears_23 : decode cX10_bears 23 = .ok (.aload_n 0, 1) := by decide +kernel
theorem dX10_bears_24 : decode cX10_bears 24 = .ok (.getfield 64, 3) := by decide +kernel
theorem dX10_bears_27 : decode cX10_bears 27 = .ok (.iload_n 1, 1) := by decide +kernel
theorem dX10_bears_28 : decode cX10_bears 28 = .ok (.iaload, 1) := by decide +kernel
theorem dX10_bears_29 : decode cX10_bears 29 = .ok (.isub, 1) := by decide +kernel
theorem dX10_bears_30 : decode cX10_bears 30 = .ok (.ireturn, 1) := by decide +kernel
theorem dX10_piece_0 : decode cX10_piece 0 = .ok (.aload_n 0, 1) := by decide +kernel
theorem dX10_piece_1 : decode cX10_piece 1 = .ok (.iload_n 1, 1) := by decide +kernel
theorem dX10_piece_2 : decode cX10_piece 2 = .ok (.invokevirtual 258, 3) := by decide +kernel
theorem dX10_piece_5 : decode cX10_piece 5 = .ok (.ifCond .ne 5, 3) := by decide +kernel
theorem dX10_piece_8 : decode cX10_piece 8 = .ok (.iconst (-1), 1) := by decide +kernel
theorem dX10_piece_9 : decode cX10_piece 9 = .ok (.ireturn, 1) := by decide +kernel
theorem dX10_piece_10 : decode cX10_piece 10 = .ok (.iload_n 2, 1) := by decide +kernel
theorem dX10_piece_11 : decode cX10_piece 11 = .ok (.tableswitch 67 0 4 #[33, 40, 47, 54, 60], 33) := by decide +kernel
theorem dX10_piece_44 : decode cX10_piece 44 = .ok (.aload_n 0, 1) := by decide +kernel
theorem dX10_piece_45 : decode cX10_piece 45 = .ok (.getfield 58, 3) := by decide +kernel
theorem dX10_piece_48 : decode cX10_piece 48 = .ok (.iload_n 1, 1) := by decide +kernel
theorem dX10_piece_49 : decode cX10_piece 49 = .ok (.iaload, 1) := by decide +kernel
theorem dX10_piece_50 : decode cX10_piece 50 = .ok (.ireturn, 1) := by decide +kernel
theorem dX10_piece_51 : decode cX10_piece 51 = .ok (.aload_n 0, 1) := by decide +kernel
theorem dX10_piece_52 : decode cX10_piece 52 = .ok (.getfield 61, 3) := by decide +kernel
theorem dX10_piece_55 : decode cX10_piece 55 = .ok (.iload_n 1, 1) := by decide +kernel
theorem dX10_piece_56 : decode cX10_piece 56 = .ok (.iaload, 1) := by decide +kernel
theorem dX10_piece_57 : decode cX10_piece 57 = .ok (.ireturn, 1) := by decide +kernel
theorem dX10_piece_58 : decode cX10_piece 58 = .ok (.aload_n 0, 1) := by decide +kernel
theorem dX10_piece_59 : decode cX10_piece 59 = .ok (.getfield 64, 3) := by decide +kernel
theorem dX10_piece_62 : decode cX10_piece 62 = .ok (.iload_n 1, 1) := by decide +kernel
theorem dX10_piece_63 : decode cX10_piece 63 = .ok (.iaload, 1) := by decide +kernel
theorem dX10_piece_64 : decode cX10_piece 64 = .ok (.ireturn, 1) := by decide +kernel
theorem dX10_piece_65 : decode cX10_piece 65 = .ok (.aload_n 0, 1) := by decide +kernel
theorem dX10_piece_66 : decode cX10_piece 66 = .ok (.iload_n 1, 1) := by decide +kernel
theorem dX10_piece_67 : decode cX10_piece 67 = .ok (.invokevirtual 261, 3) := by decide +kernel
theorem dX10_piece_70 : decode cX10_piece 70 = .ok (.ireturn, 1) := by decide +kernel
theorem dX10_piece_71 : decode cX10_piece 71 = .ok (.aload_n 0, 1) := by decide +kernel
theorem dX10_piece_72 : decode cX10_piece 72 = .ok (.getfield 67, 3) := by decide +kernel
theorem dX10_piece_75 : decode cX10_piece 75 = .ok (.iload_n 1, 1) := by decide +kernel
theorem dX10_piece_76 : decode cX10_piece 76 = .ok (.iaload, 1) := by decide +kernel
theorem dX10_piece_77 : decode cX10_piece 77 = .ok (.ireturn, 1) := by decide +kernel
theorem dX10_piece_78 : decode cX10_piece 78 = .ok (.iconst (-1), 1) := by decide +kernel
theorem dX10_piece_79 : decode cX10_piece 79 = .ok (.ireturn, 1) := by decide +kernel
theorem dX10_wear_0 : decode cX10_wear 0 = .ok (.iload_n 1, 1) := by decide +kernel
theorem dX10_wear_1 : decode cX10_wear 1 = .ok (.iconst 1, 1) := by decide +kernel
theorem dX10_wear_2 : decode cX10_wear 2 = .ok (.sipush 1000, 3) := by decide +kernel
theorem dX10_wear_5 : decode cX10_wear 5 = .ok (.invokestatic 196, 3) := by decide +kernel
theorem dX10_wear_8 : decode cX10_wear 8 = .ok (.ifCond .eq 13, 3) := by decide +kernel
theorem dX10_wear_11 : decode cX10_wear 11 = .ok (.iload_n 2, 1) := by decide +kernel
theorem dX10_wear_12 : decode cX10_wear 12 = .ok (.iconst 0, 1) := by decide +kernel
theorem dX10_wear_13 : decode cX10_wear 13 = .ok (.bipush 100, 2) := by decide +kernel
theorem dX10_wear_15 : decode cX10_wear 15 = .ok (.invokestatic 196, 3) := by decide +kernel
theorem dX10_wear_18 : decode cX10_wear 18 = .ok (.ifCond .ne 5, 3) := by decide +kernel
theorem dX10_wear_21 : decode cX10_wear 21 = .ok (.iconst 0, 1) := by decide +kernel
theorem dX10_wear_22 : decode cX10_wear 22 = .ok (.ireturn, 1) := by decide +kernel
theorem dX10_wear_23 : decode cX10_wear 23 = .ok (.aload_n 0, 1) := by decide +kernel
theorem dX10_wear_24 : decode cX10_wear 24 = .ok (.iload_n 1, 1) := by decide +kernel
theorem dX10_wear_25 : decode cX10_wear 25 = .ok (.putfield 70, 3) := by decide +kernel
theorem dX10_wear_28 : decode cX10_wear 28 = .ok (.aload_n 0, 1) := by decide +kernel
theorem dX10_wear_29 : decode cX10_wear 29 = .ok (.iload_n 2, 1) := by decide +kernel
theorem dX10_wear_30 : decode cX10_wear 30 = .ok (.putfield 73, 3) := by decide +kernel
theorem dX10_wear_33 : decode cX10_wear 33 = .ok (.iconst 1, 1) := by decide +kernel
theorem dX10_wear_34 : decode cX10_wear 34 = .ok (.ireturn, 1) := by decide +kernel
theorem dX10_isBorne_0 : decode cX10_isBorne 0 = .ok (.iconst 0, 1) := by decide +kernel
theorem dX10_isBorne_1 : decode cX10_isBorne 1 = .ok (.istore_n 1, 1) := by decide +kernel
theorem dX10_isBorne_2 : decode cX10_isBorne 2 = .ok (.iload_n 1, 1) := by decide +kernel
theorem dX10_isBorne_3 : decode cX10_isBorne 3 = .ok (.aload_n 0, 1) := by decide +kernel
theorem dX10_isBorne_4 : decode cX10_isBorne 4 = .ok (.getfield 227, 3) := by decide +kernel
theorem dX10_isBorne_7 : decode cX10_isBorne 7 = .ok (.if_icmp .ge 25, 3) := by decide +kernel
theorem dX10_isBorne_10 : decode cX10_isBorne 10 = .ok (.aload_n 0, 1) := by decide +kernel
theorem dX10_isBorne_11 : decode cX10_isBorne 11 = .ok (.getfield 67, 3) := by decide +kernel
theorem dX10_isBorne_14 : decode cX10_isBorne 14 = .ok (.iload_n 1, 1) := by decide +kernel
theorem dX10_isBorne_15 : decode cX10_isBorne 15 = .ok (.iaload, 1) := by decide +kernel
theorem dX10_isBorne_16 : decode cX10_isBorne 16 = .ok (.aload_n 0, 1) := by decide +kernel
theorem dX10_isBorne_17 : decode cX10_isBorne 17 = .ok (.iload_n 1, 1) := by decide +kernel
theorem dX10_isBorne_18 : decode cX10_isBorne 18 = .ok (.invokevirtual 261, 3) := by decide +kernel
theorem dX10_isBorne_21 : decode cX10_isBorne 21 = .ok (.if_icmp .lt 5, 3) := by decide +kernel
theorem dX10_isBorne_24 : decode cX10_isBorne 24 = .ok (.iconst 0, 1) := by decide +kernel
theorem dX10_isBorne_25 : decode cX10_isBorne 25 = .ok (.ireturn, 1) := by decide +kernel
theorem dX10_isBorne_26 : decode cX10_isBorne 26 = .ok (.iinc 1 1, 3) := by decide +kernel
theorem dX10_isBorne_29 : decode cX10_isBorne 29 = .ok (.goto (-27), 3) := by decide +kernel
theorem dX10_isBorne_32 : decode cX10_isBorne 32 = .ok (.iconst 1, 1) := by decide +kernel
theorem dX10_isBorne_33 : decode cX10_isBorne 33 = .ok (.ireturn, 1) := by decide +kernel
theorem dX10_pours_0 : decode cX10_pours 0 = .ok (.iconst 0, 1) := by decide +kernel
theorem dX10_pours_1 : decode cX10_pours 1 = .ok (.istore_n 1, 1) := by decide +kernel
theorem dX10_pours_2 : decode cX10_pours 2 = .ok (.iload_n 1, 1) := by decide +kernel
theorem dX10_pours_3 : decode cX10_pours 3 = .ok (.aload_n 0, 1) := by decide +kernel
theorem dX10_pours_4 : decode cX10_pours 4 = .ok (.getfield 227, 3) := by decide +kernel
theorem dX10_pours_7 : decode cX10_pours 7 = .ok (.if_icmp .ge 19, 3) := by decide +kernel
theorem dX10_pours_10 : decode cX10_pours 10 = .ok (.aload_n 0, 1) := by decide +kernel
theorem dX10_pours_11 : decode cX10_pours 11 = .ok (.getfield 67, 3) := by decide +kernel
theorem dX10_pours_14 : decode cX10_pours 14 = .ok (.iload_n 1, 1) := by decide +kernel
theorem dX10_pours_15 : decode cX10_pours 15 = .ok (.dup2, 1) := by decide +kernel
theorem dX10_pours_16 : decode cX10_pours 16 = .ok (.iaload, 1) := by decide +kernel
theorem dX10_pours_17 : decode cX10_pours 17 = .ok (.iconst 1, 1) := by decide +kernel
theorem dX10_pours_18 : decode cX10_pours 18 = .ok (.iadd, 1) := by decide +kernel
theorem dX10_pours_19 : decode cX10_pours 19 = .ok (.iastore, 1) := by decide +kernel
theorem dX10_pours_20 : decode cX10_pours 20 = .ok (.iinc 1 1, 3) := by decide +kernel
theorem dX10_pours_23 : decode cX10_pours 23 = .ok (.goto (-21), 3) := by decide +kernel
theorem dX10_pours_26 : decode cX10_pours 26 = .ok (.return_, 1) := by decide +kernel
theorem dX10_pour_0 : decode cX10_pour 0 = .ok (.aload_n 0, 1) := by decide +kernel
theorem dX10_pour_1 : decode cX10_pour 1 = .ok (.getfield 206, 3) := by decide +kernel
theorem dX10_pour_4 : decode cX10_pour 4 = .ok (.ifCond .eq 14, 3) := by decide +kernel
theorem dX10_pour_7 : decode cX10_pour 7 = .ok (.iload_n 1, 1) := by decide +kernel
theorem dX10_pour_8 : decode cX10_pour 8 = .ok (.iconst 1, 1) := by decide +kernel
theorem dX10_pour_9 : decode cX10_pour 9 = .ok (.sipush 1000, 3) := by decide +kernel
theorem dX10_pour_12 : decode cX10_pour 12 = .ok (.invokestatic 196, 3) := by decide +kernel
theorem dX10_pour_15 : decode cX10_pour 15 = .ok (.ifCond .ne 5, 3) := by decide +kernel
theorem dX10_pour_18 : decode cX10_pour 18 = .ok (.iconst (-1), 1) := by decide +kernel
theorem dX10_pour_19 : decode cX10_pour 19 = .ok (.ireturn, 1) := by decide +kernel
theorem dX10_pour_20 : decode cX10_pour 20 = .ok (.iconst 0, 1) := by decide +kernel
theorem dX10_pour_21 : decode cX10_pour 21 = .ok (.istore_n 2, 1) := by decide +kernel
theorem dX10_pour_22 : decode cX10_pour 22 = .ok (.iload_n 2, 1) := by decide +kernel
theorem dX10_pour_23 : decode cX10_pour 23 = .ok (.iload_n 1, 1) := by decide +kernel
theorem dX10_pour_24 : decode cX10_pour 24 = .ok (.if_icmp .ge 20, 3) := by decide +kernel
theorem dX10_pour_27 : decode cX10_pour 27 = .ok (.aload_n 0, 1) := by decide +kernel
theorem dX10_pour_28 : decode cX10_pour 28 = .ok (.invokevirtual 264, 3) := by decide +kernel
theorem dX10_pour_31 : decode cX10_pour 31 = .ok (.ifCond .eq 13, 3) := by decide +kernel
theorem dX10_pour_34 : decode cX10_pour 34 = .ok (.aload_n 0, 1) := by decide +kernel
theorem dX10_pour_35 : decode cX10_pour 35 = .ok (.invokevirtual 268, 3) := by decide +kernel
theorem dX10_pour_38 : decode cX10_pour 38 = .ok (.iinc 2 1, 3) := by decide +kernel
theorem dX10_pour_41 : decode cX10_pour 41 = .ok (.goto (-19), 3) := by decide +kernel
theorem dX10_pour_44 : decode cX10_pour 44 = .ok (.iload_n 2, 1) := by decide +kernel
theorem dX10_pour_45 : decode cX10_pour 45 = .ok (.ireturn, 1) := by decide +kernel
theorem dX10_mend_0 : decode cX10_mend 0 = .ok (.aload_n 0, 1) := by decide +kernel
theorem dX10_mend_1 : decode cX10_mend 1 = .ok (.iload_n 1, 1) := by decide +kernel
theorem dX10_mend_2 : decode cX10_mend 2 = .ok (.invokevirtual 258, 3) := by decide +kernel
theorem dX10_mend_5 : decode cX10_mend 5 = .ok (.ifCond .ne 5, 3) := by decide +kernel
theorem dX10_mend_8 : decode cX10_mend 8 = .ok (.iconst (-1), 1) := by decide +kernel
theorem dX10_mend_9 : decode cX10_mend 9 = .ok (.ireturn, 1) := by decide +kernel
theorem dX10_mend_10 : decode cX10_mend 10 = .ok (.aload_n 0, 1) := by decide +kernel
theorem dX10_mend_11 : decode cX10_mend 11 = .ok (.getfield 67, 3) := by decide +kernel
theorem dX10_mend_14 : decode cX10_mend 14 = .ok (.iload_n 1, 1) := by decide +kernel
theorem dX10_mend_15 : decode cX10_mend 15 = .ok (.iconst 0, 1) := by decide +kernel
theorem dX10_mend_16 : decode cX10_mend 16 = .ok (.iastore, 1) := by decide +kernel
theorem dX10_mend_17 : decode cX10_mend 17 = .ok (.aload_n 0, 1) := by decide +kernel
theorem dX10_mend_18 : decode cX10_mend 18 = .ok (.getfield 61, 3) := by decide +kernel
theorem dX10_mend_21 : decode cX10_mend 21 = .ok (.iload_n 1, 1) := by decide +kernel
theorem dX10_mend_22 : decode cX10_mend 22 = .ok (.iaload, 1) := by decide +kernel
theorem dX10_mend_23 : decode cX10_mend 23 = .ok (.aload_n 0, 1) := by decide +kernel
theorem dX10_mend_24 : decode cX10_mend 24 = .ok (.getfield 73, 3) := by decide +kernel
theorem dX10_mend_27 : decode cX10_mend 27 = .ok (.imul, 1) := by decide +kernel
theorem dX10_mend_28 : decode cX10_mend 28 = .ok (.ireturn, 1) := by decide +kernel
theorem dX10_run_0 : decode cX10_run 0 = .ok (.aload_n 0, 1) := by decide +kernel
theorem dX10_run_1 : decode cX10_run 1 = .ok (.getfield 206, 3) := by decide +kernel
theorem dX10_run_4 : decode cX10_run 4 = .ok (.ifCond .eq 14, 3) := by decide +kernel
theorem dX10_run_7 : decode cX10_run 7 = .ok (.iload_n 1, 1) := by decide +kernel
theorem dX10_run_8 : decode cX10_run 8 = .ok (.iconst 1, 1) := by decide +kernel
theorem dX10_run_9 : decode cX10_run 9 = .ok (.sipush 1000, 3) := by decide +kernel
theorem dX10_run_12 : decode cX10_run 12 = .ok (.invokestatic 196, 3) := by decide +kernel
theorem dX10_run_15 : decode cX10_run 15 = .ok (.ifCond .ne 5, 3) := by decide +kernel
theorem dX10_run_18 : decode cX10_run 18 = .ok (.iconst (-1), 1) := by decide +kernel
theorem dX10_run_19 : decode cX10_run 19 = .ok (.ireturn, 1) := by decide +kernel
theorem dX10_run_20 : decode cX10_run 20 = .ok (.iconst 0, 1) := by decide +kernel
theorem dX10_run_21 : decode cX10_run 21 = .ok (.istore_n 2, 1) := by decide +kernel
theorem dX10_run_22 : decode cX10_run 22 = .ok (.iconst 0, 1) := by decide +kernel
theorem dX10_run_23 : decode cX10_run 23 = .ok (.istore_n 3, 1) := by decide +kernel
theorem dX10_run_24 : decode cX10_run 24 = .ok (.iload_n 3, 1) := by decide +kernel
theorem dX10_run_25 : decode cX10_run 25 = .ok (.iload_n 1, 1) := by decide +kernel
theorem dX10_run_26 : decode cX10_run 26 = .ok (.if_icmp .ge 56, 3) := by decide +kernel
theorem dX10_run_29 : decode cX10_run 29 = .ok (.iconst 0, 1) := by decide +kernel
theorem dX10_run_30 : decode cX10_run 30 = .ok (.istore 4, 2) := by decide +kernel
theorem dX10_run_32 : decode cX10_run 32 = .ok (.iload 4, 2) := by decide +kernel
theorem dX10_run_34 : decode cX10_run 34 = .ok (.aload_n 0, 1) := by decide +kernel
theorem dX10_run_35 : decode cX10_run 35 = .ok (.getfield 227, 3) := by decide +kernel
theorem dX10_run_38 : decode cX10_run 38 = .ok (.if_icmp .ge 34, 3) := by decide +kernel
theorem dX10_run_41 : decode cX10_run 41 = .ok (.aload_n 0, 1) := by decide +kernel
theorem dX10_run_42 : decode cX10_run 42 = .ok (.getfield 67, 3) := by decide +kernel
theorem dX10_run_45 : decode cX10_run 45 = .ok (.iload 4, 2) := by decide +kernel
theorem dX10_run_47 : decode cX10_run 47 = .ok (.iaload, 1) := by decide +kernel
theorem dX10_run_48 : decode cX10_run 48 = .ok (.aload_n 0, 1) := by decide +kernel
theorem dX10_run_49 : decode cX10_run 49 = .ok (.iload 4, 2) := by decide +kernel
theorem dX10_run_51 : decode cX10_run 51 = .ok (.invokevirtual 261, 3) := by decide +kernel
theorem dX10_run_54 : decode cX10_run 54 = .ok (.if_icmp .lt 12, 3) := by decide +kernel
theorem dX10_run_57 : decode cX10_run 57 = .ok (.iload_n 2, 1) := by decide +kernel
theorem dX10_run_58 : decode cX10_run 58 = .ok (.aload_n 0, 1) := by decide +kernel
theorem dX10_run_59 : decode cX10_run 59 = .ok (.iload 4, 2) := by decide +kernel
theorem dX10_run_61 : decode cX10_run 61 = .ok (.invokevirtual 271, 3) := by decide +kernel
theorem dX10_run_64 : decode cX10_run 64 = .ok (.iadd, 1) := by decide +kernel
theorem dX10_run_65 : decode cX10_run 65 = .ok (.istore_n 2, 1) := by decide +kernel
theorem dX10_run_66 : decode cX10_run 66 = .ok (.iinc 4 1, 3) := by decide +kernel
theorem dX10_run_69 : decode cX10_run 69 = .ok (.goto (-37), 3) := by decide +kernel
theorem dX10_run_72 : decode cX10_run 72 = .ok (.aload_n 0, 1) := by decide +kernel
theorem dX10_run_73 : decode cX10_run 73 = .ok (.invokevirtual 268, 3) := by decide +kernel
theorem dX10_run_76 : decode cX10_run 76 = .ok (.iinc 3 1, 3) := by decide +kernel
theorem dX10_run_79 : decode cX10_run 79 = .ok (.goto (-55), 3) := by decide +kernel
theorem dX10_run_82 : decode cX10_run 82 = .ok (.iload_n 2, 1) := by decide +kernel
theorem dX10_run_83 : decode cX10_run 83 = .ok (.ireturn, 1) := by decide +kernel
theorem dX10_dry_0 : decode cX10_dry 0 = .ok (.iload_n 1, 1) := by decide +kernel
theorem dX10_dry_1 : decode cX10_dry 1 = .ok (.iconst 0, 1) := by decide +kernel
theorem dX10_dry_2 : decode cX10_dry 2 = .ok (.bipush 100, 2) := by decide +kernel
theorem dX10_dry_4 : decode cX10_dry 4 = .ok (.invokestatic 196, 3) := by decide +kernel
theorem dX10_dry_7 : decode cX10_dry 7 = .ok (.ifCond .ne 5, 3) := by decide +kernel
theorem dX10_dry_10 : decode cX10_dry 10 = .ok (.iconst (-1), 1) := by decide +kernel
theorem dX10_dry_11 : decode cX10_dry 11 = .ok (.ireturn, 1) := by decide +kernel
theorem dX10_dry_12 : decode cX10_dry 12 = .ok (.aload_n 0, 1) := by decide +kernel
theorem dX10_dry_13 : decode cX10_dry 13 = .ok (.getfield 76, 3) := by decide +kernel
theorem dX10_dry_16 : decode cX10_dry 16 = .ok (.istore_n 2, 1) := by decide +kernel
theorem dX10_dry_17 : decode cX10_dry 17 = .ok (.aload_n 0, 1) := by decide +kernel
theorem dX10_dry_18 : decode cX10_dry 18 = .ok (.iload_n 1, 1) := by decide +kernel
theorem dX10_dry_19 : decode cX10_dry 19 = .ok (.putfield 76, 3) := by decide +kernel
theorem dX10_dry_22 : decode cX10_dry 22 = .ok (.iload_n 2, 1) := by decide +kernel
theorem dX10_dry_23 : decode cX10_dry 23 = .ok (.ireturn, 1) := by decide +kernel
theorem dX10_order_0 : decode cX10_order 0 = .ok (.iload_n 1, 1) := by decide +kernel
theorem dX10_order_1 : decode cX10_order 1 = .ok (.iconst 1, 1) := by decide +kernel
theorem dX10_order_2 : decode cX10_order 2 = .ok (.bipush 50, 2) := by decide +kernel
theorem dX10_order_4 : decode cX10_order 4 = .ok (.invokestatic 196, 3) := by decide +kernel
theorem dX10_order_7 : decode cX10_order 7 = .ok (.ifCond .eq 24, 3) := by decide +kernel
theorem dX10_order_10 : decode cX10_order 10 = .ok (.iload_n 2, 1) := by decide +kernel
theorem dX10_order_11 : decode cX10_order 11 = .ok (.iconst 0, 1) := by decide +kernel
theorem dX10_order_12 : decode cX10_order 12 = .ok (.sipush 1000, 3) := by decide +kernel
theorem dX10_order_15 : decode cX10_order 15 = .ok (.invokestatic 196, 3) := by decide +kernel
theorem dX10_order_18 : decode cX10_order 18 = .ok (.ifCond .eq 13, 3) := by decide +kernel
theorem dX10_order_21 : decode cX10_order 21 = .ok (.iload_n 3, 1) := by decide +kernel
theorem dX10_order_22 : decode cX10_order 22 = .ok (.iconst 1, 1) := by decide +kernel
theorem dX10_order_23 : decode cX10_order 23 = .ok (.bipush 100, 2) := by decide +kernel
theorem dX10_order_25 : decode cX10_order 25 = .ok (.invokestatic 196, 3) := by decide +kernel
theorem dX10_order_28 : decode cX10_order 28 = .ok (.ifCond .ne 5, 3) := by decide +kernel
theorem dX10_order_31 : decode cX10_order 31 = .ok (.iconst (-1), 1) := by decide +kernel
theorem dX10_order_32 : decode cX10_order 32 = .ok (.ireturn, 1) := by decide +kernel
theorem dX10_order_33 : decode cX10_order 33 = .ok (.iconst 0, 1) := by decide +kernel
theorem dX10_order_34 : decode cX10_order 34 = .ok (.istore 4, 2) := by decide +kernel
theorem dX10_order_36 : decode cX10_order 36 = .ok (.iload 4, 2) := by decide +kernel
theorem dX10_order_38 : decode cX10_order 38 = .ok (.bipush 10, 2) := by decide +kernel
theorem dX10_order_40 : decode cX10_order 40 = .ok (.if_icmp .ge 19, 3) := by decide +kernel
theorem dX10_order_43 : decode cX10_order 43 = .ok (.aload_n 0, 1) := by decide +kernel
theorem dX10_order_44 : decode cX10_order 44 = .ok (.getfield 79, 3) := by decide +kernel
theorem dX10_order_47 : decode cX10_order 47 = .ok (.iload 4, 2) := by decide +kernel
theorem dX10_order_49 : decode cX10_order 49 = .ok (.baload, 1) := by decide +kernel
theorem dX10_order_50 : decode cX10_order 50 = .ok (.ifCond .eq 9, 3) := by decide +kernel
theorem dX10_order_53 : decode cX10_order 53 = .ok (.iinc 4 1, 3) := by decide +kernel
theorem dX10_order_56 : decode cX10_order 56 = .ok (.goto (-20), 3) := by decide +kernel
theorem dX10_order_59 : decode cX10_order 59 = .ok (.iload 4, 2) := by decide +kernel
theorem dX10_order_61 : decode cX10_order 61 = .ok (.bipush 10, 2) := by decide +kernel
theorem dX10_order_63 : decode cX10_order 63 = .ok (.if_icmp .ne 5, 3) := by decide +kernel
theorem dX10_order_66 : decode cX10_order 66 = .ok (.iconst (-1), 1) := by decide +kernel
theorem dX10_order_67 : decode cX10_order 67 = .ok (.ireturn, 1) := by decide +kernel
theorem dX10_order_68 : decode cX10_order 68 = .ok (.aload_n 0, 1) := by decide +kernel
theorem dX10_order_69 : decode cX10_order 69 = .ok (.getfield 79, 3) := by decide +kernel
theorem dX10_order_72 : decode cX10_order 72 = .ok (.iload 4, 2) := by decide +kernel
theorem dX10_order_74 : decode cX10_order 74 = .ok (.iconst 1, 1) := by decide +kernel
theorem dX10_order_75 : decode cX10_order 75 = .ok (.bastore, 1) := by decide +kernel
theorem dX10_order_76 : decode cX10_order 76 = .ok (.aload_n 0, 1) := by decide +kernel
theorem dX10_order_77 : decode cX10_order 77 = .ok (.getfield 82, 3) := by decide +kernel
theorem dX10_order_80 : decode cX10_order 80 = .ok (.iload 4, 2) := by decide +kernel
theorem dX10_order_82 : decode cX10_order 82 = .ok (.iload_n 1, 1) := by decide +kernel
theorem dX10_order_83 : decode cX10_order 83 = .ok (.iastore, 1) := by decide +kernel
theorem dX10_order_84 : decode cX10_order 84 = .ok (.aload_n 0, 1) := by decide +kernel
theorem dX10_order_85 : decode cX10_order 85 = .ok (.getfield 85, 3) := by decide +kernel
theorem dX10_order_88 : decode cX10_order 88 = .ok (.iload 4, 2) := by decide +kernel
theorem dX10_order_90 : decode cX10_order 90 = .ok (.iload_n 2, 1) := by decide +kernel
theorem dX10_order_91 : decode cX10_order 91 = .ok (.iastore, 1) := by decide +kernel
theorem dX10_order_92 : decode cX10_order 92 = .ok (.aload_n 0, 1) := by decide +kernel
theorem dX10_order_93 : decode cX10_order 93 = .ok (.getfield 88, 3) := by decide +kernel
theorem dX10_order_96 : decode cX10_order 96 = .ok (.iload 4, 2) := by decide +kernel
theorem dX10_order_98 : decode cX10_order 98 = .ok (.iload_n 3, 1) := by decide +kernel
theorem dX10_order_99 : decode cX10_order 99 = .ok (.iastore, 1) := by decide +kernel
theorem dX10_order_100 : decode cX10_order 100 = .ok (.iload 4, 2) := by decide +kernel
theorem dX10_order_102 : decode cX10_order 102 = .ok (.ireturn, 1) := by decide +kernel
theorem dX10_cancel_0 : decode cX10_cancel 0 = .ok (.iload_n 1, 1) := by decide +kernel
theorem dX10_cancel_1 : decode cX10_cancel 1 = .ok (.ifCond .lt 18, 3) := by decide +kernel
theorem dX10_cancel_4 : decode cX10_cancel 4 = .ok (.iload_n 1, 1) := by decide +kernel
theorem dX10_cancel_5 : decode cX10_cancel 5 = .ok (.bipush 9, 2) := by decide +kernel
theorem dX10_cancel_7 : decode cX10_cancel 7 = .ok (.if_icmp .gt 12, 3) := by decide +kernel
theorem dX10_cancel_10 : decode cX10_cancel 10 = .ok (.aload_n 0, 1) := by decide +kernel
theorem dX10_cancel_11 : decode cX10_cancel 11 = .ok (.getfield 79, 3) := by decide +kernel
theorem dX10_cancel_14 : decode cX10_cancel 14 = .ok (.iload_n 1, 1) := by decide +kernel
theorem dX10_cancel_15 : decode cX10_cancel 15 = .ok (.baload, 1) := by decide +kernel
theorem dX10_cancel_16 : decode cX10_cancel 16 = .ok (.ifCond .ne 5, 3) := by decide +kernel
theorem dX10_cancel_19 : decode cX10_cancel 19 = .ok (.iconst 0, 1) := by decide +kernel
theorem dX10_cancel_20 : decode cX10_cancel 20 = .ok (.ireturn, 1) := by decide +kernel
theorem dX10_cancel_21 : decode cX10_cancel 21 = .ok (.aload_n 0, 1) := by decide +kernel
theorem dX10_cancel_22 : decode cX10_cancel 22 = .ok (.getfield 79, 3) := by decide +kernel
theorem dX10_cancel_25 : decode cX10_cancel 25 = .ok (.iload_n 1, 1) := by decide +kernel
theorem dX10_cancel_26 : decode cX10_cancel 26 = .ok (.iconst 0, 1) := by decide +kernel
theorem dX10_cancel_27 : decode cX10_cancel 27 = .ok (.bastore, 1) := by decide +kernel
theorem dX10_cancel_28 : decode cX10_cancel 28 = .ok (.iconst 1, 1) := by decide +kernel
theorem dX10_cancel_29 : decode cX10_cancel 29 = .ok (.ireturn, 1) := by decide +kernel
theorem dX10_poursOf_0 : decode cX10_poursOf 0 = .ok (.iconst 0, 1) := by decide +kernel
theorem dX10_poursOf_1 : decode cX10_poursOf 1 = .ok (.istore_n 2, 1) := by decide +kernel
theorem dX10_poursOf_2 : decode cX10_poursOf 2 = .ok (.iconst 0, 1) := by decide +kernel
theorem dX10_poursOf_3 : decode cX10_poursOf 3 = .ok (.istore_n 3, 1) := by decide +kernel
theorem dX10_poursOf_4 : decode cX10_poursOf 4 = .ok (.iload_n 3, 1) := by decide +kernel
theorem dX10_poursOf_5 : decode cX10_poursOf 5 = .ok (.bipush 10, 2) := by decide +kernel
theorem dX10_poursOf_7 : decode cX10_poursOf 7 = .ok (.if_icmp .ge 27, 3) := by decide +kernel
theorem dX10_poursOf_10 : decode cX10_poursOf 10 = .ok (.iload_n 1, 1) := by decide +kernel
theorem dX10_poursOf_11 : decode cX10_poursOf 11 = .ok (.iload_n 3, 1) := by decide +kernel
theorem dX10_poursOf_12 : decode cX10_poursOf 12 = .ok (.ishr, 1) := by decide +kernel
theorem dX10_poursOf_13 : decode cX10_poursOf 13 = .ok (.iconst 1, 1) := by decide +kernel
theorem dX10_poursOf_14 : decode cX10_poursOf 14 = .ok (.iand, 1) := by decide +kernel
theorem dX10_poursOf_15 : decode cX10_poursOf 15 = .ok (.iconst 1, 1) := by decide +kernel
theorem dX10_poursOf_16 : decode cX10_poursOf 16 = .ok (.if_icmp .ne 12, 3) := by decide +kernel
theorem dX10_poursOf_19 : decode cX10_poursOf 19 = .ok (.iload_n 2, 1) := by decide +kernel
theorem dX10_poursOf_20 : decode cX10_poursOf 20 = .ok (.aload_n 0, 1) := by decide +kernel
theorem dX10_poursOf_21 : decode cX10_poursOf 21 = .ok (.getfield 82, 3) := by decide +kernel
theorem dX10_poursOf_24 : decode cX10_poursOf 24 = .ok (.iload_n 3, 1) := by decide +kernel
theorem dX10_poursOf_25 : decode cX10_poursOf 25 = .ok (.iaload, 1) := by decide +kernel
theorem dX10_poursOf_26 : decode cX10_poursOf 26 = .ok (.iadd, 1) := by decide +kernel
theorem dX10_poursOf_27 : decode cX10_poursOf 27 = .ok (.istore_n 2, 1) := by decide +kernel
theorem dX10_poursOf_28 : decode cX10_poursOf 28 = .ok (.iinc 3 1, 3) := by decide +kernel
theorem dX10_poursOf_31 : decode cX10_poursOf 31 = .ok (.goto (-27), 3) := by decide +kernel
theorem dX10_poursOf_34 : decode cX10_poursOf 34 = .ok (.iload_n 2, 1) := by decide +kernel
theorem dX10_poursOf_35 : decode cX10_poursOf 35 = .ok (.ireturn, 1) := by decide +kernel
theorem dX10_lateOf_0 : decode cX10_lateOf 0 = .ok (.aload_n 0, 1) := by decide +kernel
theorem dX10_lateOf_1 : decode cX10_lateOf 1 = .ok (.iload_n 2, 1) := by decide +kernel
theorem dX10_lateOf_2 : decode cX10_lateOf 2 = .ok (.invokevirtual 274, 3) := by decide +kernel
theorem dX10_lateOf_5 : decode cX10_lateOf 5 = .ok (.aload_n 0, 1) := by decide +kernel
theorem dX10_lateOf_6 : decode cX10_lateOf 6 = .ok (.getfield 82, 3) := by decide +kernel
theorem dX10_lateOf_9 : decode cX10_lateOf 9 = .ok (.iload_n 1, 1) := by decide +kernel
theorem dX10_lateOf_10 : decode cX10_lateOf 10 = .ok (.iaload, 1) := by decide +kernel
theorem dX10_lateOf_11 : decode cX10_lateOf 11 = .ok (.iadd, 1) := by decide +kernel
theorem dX10_lateOf_12 : decode cX10_lateOf 12 = .ok (.aload_n 0, 1) := by decide +kernel
theorem dX10_lateOf_13 : decode cX10_lateOf 13 = .ok (.getfield 76, 3) := by decide +kernel
theorem dX10_lateOf_16 : decode cX10_lateOf 16 = .ok (.iadd, 1) := by decide +kernel
theorem dX10_lateOf_17 : decode cX10_lateOf 17 = .ok (.aload_n 0, 1) := by decide +kernel
theorem dX10_lateOf_18 : decode cX10_lateOf 18 = .ok (.getfield 85, 3) := by decide +kernel
theorem dX10_lateOf_21 : decode cX10_lateOf 21 = .ok (.iload_n 1, 1) := by decide +kernel
theorem dX10_lateOf_22 : decode cX10_lateOf 22 = .ok (.iaload, 1) := by decide +kernel
theorem dX10_lateOf_23 : decode cX10_lateOf 23 = .ok (.isub, 1) := by decide +kernel
theorem dX10_lateOf_24 : decode cX10_lateOf 24 = .ok (.istore_n 3, 1) := by decide +kernel
theorem dX10_lateOf_25 : decode cX10_lateOf 25 = .ok (.iload_n 3, 1) := by decide +kernel
theorem dX10_lateOf_26 : decode cX10_lateOf 26 = .ok (.ifCond .ge 7, 3) := by decide +kernel
theorem dX10_lateOf_29 : decode cX10_lateOf 29 = .ok (.iconst 0, 1) := by decide +kernel
theorem dX10_lateOf_30 : decode cX10_lateOf 30 = .ok (.goto 4, 3) := by decide +kernel
theorem dX10_lateOf_33 : decode cX10_lateOf 33 = .ok (.iload_n 3, 1) := by decide +kernel
theorem dX10_lateOf_34 : decode cX10_lateOf 34 = .ok (.ireturn, 1) := by decide +kernel
theorem dX10_row_0 : decode cX10_row 0 = .ok (.iconst 0, 1) := by decide +kernel
theorem dX10_row_1 : decode cX10_row 1 = .ok (.istore_n 1, 1) := by decide +kernel
theorem dX10_row_2 : decode cX10_row 2 = .ok (.iconst 0, 1) := by decide +kernel
theorem dX10_row_3 : decode cX10_row 3 = .ok (.istore_n 2, 1) := by decide +kernel
theorem dX10_row_4 : decode cX10_row 4 = .ok (.iload_n 2, 1) := by decide +kernel
theorem dX10_row_5 : decode cX10_row 5 = .ok (.bipush 10, 2) := by decide +kernel
theorem dX10_row_7 : decode cX10_row 7 = .ok (.if_icmp .ge 24, 3) := by decide +kernel
theorem dX10_row_10 : decode cX10_row 10 = .ok (.aload_n 0, 1) := by decide +kernel
theorem dX10_row_11 : decode cX10_row 11 = .ok (.getfield 79, 3) := by decide +kernel
theorem dX10_row_14 : decode cX10_row 14 = .ok (.iload_n 2, 1) := by decide +kernel
theorem dX10_row_15 : decode cX10_row 15 = .ok (.baload, 1) := by decide +kernel
theorem dX10_row_16 : decode cX10_row 16 = .ok (.ifCond .eq 9, 3) := by decide +kernel
theorem dX10_row_19 : decode cX10_row 19 = .ok (.iload_n 1, 1) := by decide +kernel
theorem dX10_row_20 : decode cX10_row 20 = .ok (.iconst 1, 1) := by decide +kernel
theorem dX10_row_21 : decode cX10_row 21 = .ok (.iload_n 2, 1) := by decide +kernel
theorem dX10_row_22 : decode cX10_row 22 = .ok (.ishl, 1) := by decide +kernel
theorem dX10_row_23 : decode cX10_row 23 = .ok (.ior, 1) := by decide +kernel
theorem dX10_row_24 : decode cX10_row 24 = .ok (.istore_n 1, 1) := by decide +kernel
theorem dX10_row_25 : decode cX10_row 25 = .ok (.iinc 2 1, 3) := by decide +kernel
theorem dX10_row_28 : decode cX10_row 28 = .ok (.goto (-24), 3) := by decide +kernel
theorem dX10_row_31 : decode cX10_row 31 = .ok (.iload_n 1, 1) := by decide +kernel
theorem dX10_row_32 : decode cX10_row 32 = .ok (.ifCond .ne 5, 3) := by decide +kernel
theorem dX10_row_35 : decode cX10_row 35 = .ok (.iconst (-1), 1) := by decide +kernel
theorem dX10_row_36 : decode cX10_row 36 = .ok (.ireturn, 1) := by decide +kernel
theorem dX10_row_37 : decode cX10_row 37 = .ok (.iload_n 1, 1) := by decide +kernel
theorem dX10_row_38 : decode cX10_row 38 = .ok (.istore_n 2, 1) := by decide +kernel
theorem dX10_row_39 : decode cX10_row 39 = .ok (.iload_n 2, 1) := by decide +kernel
theorem dX10_row_40 : decode cX10_row 40 = .ok (.ifCond .lt 116, 3) := by decide +kernel
theorem dX10_row_43 : decode cX10_row 43 = .ok (.iload_n 2, 1) := by decide +kernel
theorem dX10_row_44 : decode cX10_row 44 = .ok (.iload_n 1, 1) := by decide +kernel
theorem dX10_row_45 : decode cX10_row 45 = .ok (.iconst (-1), 1) := by decide +kernel
theorem dX10_row_46 : decode cX10_row 46 = .ok (.ixor, 1) := by decide +kernel
theorem dX10_row_47 : decode cX10_row 47 = .ok (.iand, 1) := by decide +kernel
theorem dX10_row_48 : decode cX10_row 48 = .ok (.ifCond .eq 6, 3) := by decide +kernel
theorem dX10_row_51 : decode cX10_row 51 = .ok (.goto 99, 3) := by decide +kernel
theorem dX10_row_54 : decode cX10_row 54 = .ok (.iload_n 2, 1) := by decide +kernel
theorem dX10_row_55 : decode cX10_row 55 = .ok (.iload_n 1, 1) := by decide +kernel
theorem dX10_row_56 : decode cX10_row 56 = .ok (.if_icmp .ne 7, 3) := by decide +kernel
theorem dX10_row_59 : decode cX10_row 59 = .ok (.iconst 0, 1) := by decide +kernel
theorem dX10_row_60 : decode cX10_row 60 = .ok (.goto 6, 3) := by decide +kernel
theorem dX10_row_63 : decode cX10_row 63 = .ok (.ldc_w 277, 3) := by decide +kernel
theorem dX10_row_66 : decode cX10_row 66 = .ok (.istore_n 3, 1) := by decide +kernel
theorem dX10_row_67 : decode cX10_row 67 = .ok (.iconst 0, 1) := by decide +kernel
theorem dX10_row_68 : decode cX10_row 68 = .ok (.istore 4, 2) := by decide +kernel
theorem dX10_row_70 : decode cX10_row 70 = .ok (.iload 4, 2) := by decide +kernel
theorem dX10_row_72 : decode cX10_row 72 = .ok (.bipush 10, 2) := by decide +kernel
theorem dX10_row_74 : decode cX10_row 74 = .ok (.if_icmp .ge 69, 3) := by decide +kernel
theorem dX10_row_77 : decode cX10_row 77 = .ok (.iload_n 1, 1) := by decide +kernel
theorem dX10_row_78 : decode cX10_row 78 = .ok (.iload 4, 2) := by decide +kernel
theorem dX10_row_80 : decode cX10_row 80 = .ok (.ishr, 1) := by decide +kernel
theorem dX10_row_81 : decode cX10_row 81 = .ok (.iconst 1, 1) := by decide +kernel
theorem dX10_row_82 : decode cX10_row 82 = .ok (.iand, 1) := by decide +kernel
theorem dX10_row_83 : decode cX10_row 83 = .ok (.ifCond .eq 54, 3) := by decide +kernel
theorem dX10_row_86 : decode cX10_row 86 = .ok (.iload_n 2, 1) := by decide +kernel
theorem dX10_row_87 : decode cX10_row 87 = .ok (.iload 4, 2) := by decide +kernel
theorem dX10_row_89 : decode cX10_row 89 = .ok (.ishr, 1) := by decide +kernel
theorem dX10_row_90 : decode cX10_row 90 = .ok (.iconst 1, 1) := by decide +kernel
theorem dX10_row_91 : decode cX10_row 91 = .ok (.iand, 1) := by decide +kernel
theorem dX10_row_92 : decode cX10_row 92 = .ok (.iconst 1, 1) := by decide +kernel
theorem dX10_row_93 : decode cX10_row 93 = .ok (.if_icmp .ne 6, 3) := by decide +kernel
theorem dX10_row_96 : decode cX10_row 96 = .ok (.goto 41, 3) := by decide +kernel
theorem dX10_row_99 : decode cX10_row 99 = .ok (.aload_n 0, 1) := by decide +kernel
theorem dX10_row_100 : decode cX10_row 100 = .ok (.getfield 88, 3) := by decide +kernel
theorem dX10_row_103 : decode cX10_row 103 = .ok (.iload 4, 2) := by decide +kernel
theorem dX10_row_105 : decode cX10_row 105 = .ok (.iaload, 1) := by decide +kernel
theorem dX10_row_106 : decode cX10_row 106 = .ok (.aload_n 0, 1) := by decide +kernel
theorem dX10_row_107 : decode cX10_row 107 = .ok (.iload 4, 2) := by decide +kernel
theorem dX10_row_109 : decode cX10_row 109 = .ok (.iload_n 2, 1) := by decide +kernel
theorem dX10_row_110 : decode cX10_row 110 = .ok (.invokevirtual 278, 3) := by decide +kernel
theorem dX10_row_113 : decode cX10_row 113 = .ok (.imul, 1) := by decide +kernel
theorem dX10_row_114 : decode cX10_row 114 = .ok (.aload_n 0, 1) := by decide +kernel
theorem dX10_row_115 : decode cX10_row 115 = .ok (.getfield 91, 3) := by decide +kernel
theorem dX10_row_118 : decode cX10_row 118 = .ok (.iload_n 2, 1) := by decide +kernel
theorem dX10_row_119 : decode cX10_row 119 = .ok (.iconst 1, 1) := by decide +kernel
theorem dX10_row_120 : decode cX10_row 120 = .ok (.iload 4, 2) := by decide +kernel
theorem dX10_row_122 : decode cX10_row 122 = .ok (.ishl, 1) := by decide +kernel
theorem dX10_row_123 : decode cX10_row 123 = .ok (.ior, 1) := by decide +kernel
theorem dX10_row_124 : decode cX10_row 124 = .ok (.iaload, 1) := by decide +kernel
theorem dX10_row_125 : decode cX10_row 125 = .ok (.iadd, 1) := by decide +kernel
theorem dX10_row_126 : decode cX10_row 126 = .ok (.istore 5, 2) := by decide +kernel
theorem dX10_row_128 : decode cX10_row 128 = .ok (.iload 5, 2) := by decide +kernel
theorem dX10_row_130 : decode cX10_row 130 = .ok (.iload_n 3, 1) := by decide +kernel
theorem dX10_row_131 : decode cX10_row 131 = .ok (.if_icmp .ge 6, 3) := by decide +kernel
theorem dX10_row_134 : decode cX10_row 134 = .ok (.iload 5, 2) := by decide +kernel
theorem dX10_row_136 : decode cX10_row 136 = .ok (.istore_n 3, 1) := by decide +kernel
theorem dX10_row_137 : decode cX10_row 137 = .ok (.iinc 4 1, 3) := by decide +kernel
theorem dX10_row_140 : decode cX10_row 140 = .ok (.goto (-70), 3) := by decide +kernel
theorem dX10_row_143 : decode cX10_row 143 = .ok (.aload_n 0, 1) := by decide +kernel
theorem dX10_row_144 : decode cX10_row 144 = .ok (.getfield 91, 3) := by decide +kernel
theorem dX10_row_147 : decode cX10_row 147 = .ok (.iload_n 2, 1) := by decide +kernel
theorem dX10_row_148 : decode cX10_row 148 = .ok (.iload_n 3, 1) := by decide +kernel
theorem dX10_row_149 : decode cX10_row 149 = .ok (.iastore, 1) := by decide +kernel
theorem dX10_row_150 : decode cX10_row 150 = .ok (.iinc 2 (-1), 3) := by decide +kernel
theorem dX10_row_153 : decode cX10_row 153 = .ok (.goto (-114), 3) := by decide +kernel
theorem dX10_row_156 : decode cX10_row 156 = .ok (.aload_n 0, 1) := by decide +kernel
theorem dX10_row_157 : decode cX10_row 157 = .ok (.iconst 0, 1) := by decide +kernel
theorem dX10_row_158 : decode cX10_row 158 = .ok (.putfield 282, 3) := by decide +kernel
theorem dX10_row_161 : decode cX10_row 161 = .ok (.iconst 0, 1) := by decide +kernel
theorem dX10_row_162 : decode cX10_row 162 = .ok (.istore_n 2, 1) := by decide +kernel
theorem dX10_row_163 : decode cX10_row 163 = .ok (.iload_n 2, 1) := by decide +kernel
theorem dX10_row_164 : decode cX10_row 164 = .ok (.iload_n 1, 1) := by decide +kernel
theorem dX10_row_165 : decode cX10_row 165 = .ok (.if_icmp .eq 105, 3) := by decide +kernel
theorem dX10_row_168 : decode cX10_row 168 = .ok (.iconst 0, 1) := by decide +kernel
theorem dX10_row_169 : decode cX10_row 169 = .ok (.istore_n 3, 1) := by decide +kernel
theorem dX10_row_170 : decode cX10_row 170 = .ok (.iload_n 1, 1) := by decide +kernel
theorem dX10_row_171 : decode cX10_row 171 = .ok (.iload_n 3, 1) := by decide +kernel
theorem dX10_row_172 : decode cX10_row 172 = .ok (.ishr, 1) := by decide +kernel
theorem dX10_row_173 : decode cX10_row 173 = .ok (.iconst 1, 1) := by decide +kernel
theorem dX10_row_174 : decode cX10_row 174 = .ok (.iand, 1) := by decide +kernel
theorem dX10_row_175 : decode cX10_row 175 = .ok (.ifCond .eq 45, 3) := by decide +kernel
theorem dX10_row_178 : decode cX10_row 178 = .ok (.iload_n 2, 1) := by decide +kernel
theorem dX10_row_179 : decode cX10_row 179 = .ok (.iload_n 3, 1) := by decide +kernel
theorem dX10_row_180 : decode cX10_row 180 = .ok (.ishr, 1) := by decide +kernel
theorem dX10_row_181 : decode cX10_row 181 = .ok (.iconst 1, 1) := by decide +kernel
theorem dX10_row_182 : decode cX10_row 182 = .ok (.iand, 1) := by decide +kernel
theorem dX10_row_183 : decode cX10_row 183 = .ok (.iconst 1, 1) := by decide +kernel
theorem dX10_row_184 : decode cX10_row 184 = .ok (.if_icmp .eq 36, 3) := by decide +kernel
theorem dX10_row_187 : decode cX10_row 187 = .ok (.aload_n 0, 1) := by decide +kernel
theorem dX10_row_188 : decode cX10_row 188 = .ok (.getfield 88, 3) := by decide +kernel
theorem dX10_row_191 : decode cX10_row 191 = .ok (.iload_n 3, 1) := by decide +kernel
theorem dX10_row_192 : decode cX10_row 192 = .ok (.iaload, 1) := by decide +kernel
theorem dX10_row_193 : decode cX10_row 193 = .ok (.aload_n 0, 1) := by decide +kernel
theorem dX10_row_194 : decode cX10_row 194 = .ok (.iload_n 3, 1) := by decide +kernel
theorem dX10_row_195 : decode cX10_row 195 = .ok (.iload_n 2, 1) := by decide +kernel
theorem dX10_row_196 : decode cX10_row 196 = .ok (.invokevirtual 278, 3) := by decide +kernel
theorem dX10_row_199 : decode cX10_row 199 = .ok (.imul, 1) := by decide +kernel
theorem dX10_row_200 : decode cX10_row 200 = .ok (.aload_n 0, 1) := by decide +kernel
theorem dX10_row_201 : decode cX10_row 201 = .ok (.getfield 91, 3) := by decide +kernel
theorem dX10_row_204 : decode cX10_row 204 = .ok (.iload_n 2, 1) := by decide +kernel
theorem dX10_row_205 : decode cX10_row 205 = .ok (.iconst 1, 1) := by decide +kernel
theorem dX10_row_206 : decode cX10_row 206 = .ok (.iload_n 3, 1) := by decide +kernel
theorem dX10_row_207 : decode cX10_row 207 = .ok (.ishl, 1) := by decide +kernel
theorem dX10_row_208 : decode cX10_row 208 = .ok (.ior, 1) := by decide +kernel
theorem dX10_row_209 : decode cX10_row 209 = .ok (.iaload, 1) := by decide +kernel
theorem dX10_row_210 : decode cX10_row 210 = .ok (.iadd, 1) := by decide +kernel
theorem dX10_row_211 : decode cX10_row 211 = .ok (.aload_n 0, 1) := by decide +kernel
theorem dX10_row_212 : decode cX10_row 212 = .ok (.getfield 91, 3) := by decide +kernel
theorem dX10_row_215 : decode cX10_row 215 = .ok (.iload_n 2, 1) := by decide +kernel
theorem dX10_row_216 : decode cX10_row 216 = .ok (.iaload, 1) := by decide +kernel
theorem dX10_row_217 : decode cX10_row 217 = .ok (.if_icmp .eq 9, 3) := by decide +kernel
theorem dX10_row_220 : decode cX10_row 220 = .ok (.iinc 3 1, 3) := by decide +kernel
theorem dX10_row_223 : decode cX10_row 223 = .ok (.goto (-53), 3) := by decide +kernel
theorem dX10_row_226 : decode cX10_row 226 = .ok (.aload_n 0, 1) := by decide +kernel
theorem dX10_row_227 : decode cX10_row 227 = .ok (.getfield 94, 3) := by decide +kernel
theorem dX10_row_230 : decode cX10_row 230 = .ok (.aload_n 0, 1) := by decide +kernel
theorem dX10_row_231 : decode cX10_row 231 = .ok (.getfield 282, 3) := by decide +kernel
theorem dX10_row_234 : decode cX10_row 234 = .ok (.iload_n 3, 1) := by decide +kernel
theorem dX10_row_235 : decode cX10_row 235 = .ok (.iastore, 1) := by decide +kernel
theorem dX10_row_236 : decode cX10_row 236 = .ok (.aload_n 0, 1) := by decide +kernel
theorem dX10_row_237 : decode cX10_row 237 = .ok (.getfield 97, 3) := by decide +kernel
theorem dX10_row_240 : decode cX10_row 240 = .ok (.aload_n 0, 1) := by decide +kernel
theorem dX10_row_241 : decode cX10_row 241 = .ok (.getfield 282, 3) := by decide +kernel
theorem dX10_row_244 : decode cX10_row 244 = .ok (.aload_n 0, 1) := by decide +kernel
theorem dX10_row_245 : decode cX10_row 245 = .ok (.iload_n 3, 1) := by decide +kernel
theorem dX10_row_246 : decode cX10_row 246 = .ok (.iload_n 2, 1) := by decide +kernel
theorem dX10_row_247 : decode cX10_row 247 = .ok (.invokevirtual 278, 3) := by decide +kernel
theorem dX10_row_250 : decode cX10_row 250 = .ok (.iastore, 1) := by decide +kernel
theorem dX10_row_251 : decode cX10_row 251 = .ok (.aload_n 0, 1) := by decide +kernel
theorem dX10_row_252 : decode cX10_row 252 = .ok (.dup, 1) := by decide +kernel
theorem dX10_row_253 : decode cX10_row 253 = .ok (.getfield 282, 3) := by decide +kernel
theorem dX10_row_256 : decode cX10_row 256 = .ok (.iconst 1, 1) := by decide +kernel
theorem dX10_row_257 : decode cX10_row 257 = .ok (.iadd, 1) := by decide +kernel
theorem dX10_row_258 : decode cX10_row 258 = .ok (.putfield 282, 3) := by decide +kernel
theorem dX10_row_261 : decode cX10_row 261 = .ok (.iload_n 2, 1) := by decide +kernel
theorem dX10_row_262 : decode cX10_row 262 = .ok (.iconst 1, 1) := by decide +kernel
theorem dX10_row_263 : decode cX10_row 263 = .ok (.iload_n 3, 1) := by decide +kernel
theorem dX10_row_264 : decode cX10_row 264 = .ok (.ishl, 1) := by decide +kernel
theorem dX10_row_265 : decode cX10_row 265 = .ok (.ior, 1) := by decide +kernel
theorem dX10_row_266 : decode cX10_row 266 = .ok (.istore_n 2, 1) := by decide +kernel
theorem dX10_row_267 : decode cX10_row 267 = .ok (.goto (-104), 3) := by decide +kernel
theorem dX10_row_270 : decode cX10_row 270 = .ok (.aload_n 0, 1) := by decide +kernel
theorem dX10_row_271 : decode cX10_row 271 = .ok (.getfield 91, 3) := by decide +kernel
theorem dX10_row_274 : decode cX10_row 274 = .ok (.iconst 0, 1) := by decide +kernel
theorem dX10_row_275 : decode cX10_row 275 = .ok (.iaload, 1) := by decide +kernel
theorem dX10_row_276 : decode cX10_row 276 = .ok (.ireturn, 1) := by decide +kernel
theorem dX10_next__0 : decode cX10_next_ 0 = .ok (.iload_n 1, 1) := by decide +kernel
theorem dX10_next__1 : decode cX10_next_ 1 = .ok (.ifCond .lt 20, 3) := by decide +kernel
theorem dX10_next__4 : decode cX10_next_ 4 = .ok (.iload_n 1, 1) := by decide +kernel
theorem dX10_next__5 : decode cX10_next_ 5 = .ok (.aload_n 0, 1) := by decide +kernel
theorem dX10_next__6 : decode cX10_next_ 6 = .ok (.getfield 282, 3) := by decide +kernel
theorem dX10_next__9 : decode cX10_next_ 9 = .ok (.if_icmp .ge 12, 3) := by decide +kernel
theorem dX10_next__12 : decode cX10_next_ 12 = .ok (.aload_n 0, 1) := by decide +kernel
theorem dX10_next__13 : decode cX10_next_ 13 = .ok (.getfield 94, 3) := by decide +kernel
theorem dX10_next__16 : decode cX10_next_ 16 = .ok (.iload_n 1, 1) := by decide +kernel
theorem dX10_next__17 : decode cX10_next_ 17 = .ok (.iaload, 1) := by decide +kernel
theorem dX10_next__18 : decode cX10_next_ 18 = .ok (.goto 4, 3) := by decide +kernel
theorem dX10_next__21 : decode cX10_next_ 21 = .ok (.iconst (-1), 1) := by decide +kernel
theorem dX10_next__22 : decode cX10_next_ 22 = .ok (.ireturn, 1) := by decide +kernel
theorem dX10_late_0 : decode cX10_late 0 = .ok (.iload_n 1, 1) := by decide +kernel
theorem dX10_late_1 : decode cX10_late 1 = .ok (.ifCond .lt 20, 3) := by decide +kernel
theorem dX10_late_4 : decode cX10_late 4 = .ok (.iload_n 1, 1) := by decide +kernel
theorem dX10_late_5 : decode cX10_late 5 = .ok (.aload_n 0, 1) := by decide +kernel
theorem dX10_late_6 : decode cX10_late 6 = .ok (.getfield 282, 3) := by decide +kernel
theorem dX10_late_9 : decode cX10_late 9 = .ok (.if_icmp .ge 12, 3) := by decide +kernel
theorem dX10_late_12 : decode cX10_late 12 = .ok (.aload_n 0, 1) := by decide +kernel
theorem dX10_late_13 : decode cX10_late 13 = .ok (.getfield 97, 3) := by decide +kernel
theorem dX10_late_16 : decode cX10_late 16 = .ok (.iload_n 1, 1) := by decide +kernel
theorem dX10_late_17 : decode cX10_late 17 = .ok (.iaload, 1) := by decide +kernel
theorem dX10_late_18 : decode cX10_late 18 = .ok (.goto 4, 3) := by decide +kernel
theorem dX10_late_21 : decode cX10_late 21 = .ok (.iconst (-1), 1) := by decide +kernel
theorem dX10_late_22 : decode cX10_late 22 = .ok (.ireturn, 1) := by decide +kernel
theorem dX10_isCast_0 : decode cX10_isCast 0 = .ok (.iload_n 1, 1) := by decide +kernel
theorem dX10_isCast_1 : decode cX10_isCast 1 = .ok (.ifCond .lt 22, 3) := by decide +kernel
theorem dX10_isCast_4 : decode cX10_isCast 4 = .ok (.iload_n 1, 1) := by decide +kernel
theorem dX10_isCast_5 : decode cX10_isCast 5 = .ok (.bipush 12, 2) := by decide +kernel
theorem dX10_isCast_7 : decode cX10_isCast 7 = .ok (.if_icmp .ge 16, 3) := by decide +kernel
theorem dX10_isCast_10 : decode cX10_isCast 10 = .ok (.aload_n 0, 1) := by decide +kernel
theorem dX10_isCast_11 : decode cX10_isCast 11 = .ok (.getfield 100, 3) := by decide +kernel
theorem dX10_isCast_14 : decode cX10_isCast 14 = .ok (.iload_n 1, 1) := by decide +kernel
theorem dX10_isCast_15 : decode cX10_isCast 15 = .ok (.iaload, 1) := by decide +kernel
theorem dX10_isCast_16 : decode cX10_isCast 16 = .ok (.ifCond .le 7, 3) := by decide +kernel
theorem dX10_isCast_19 : decode cX10_isCast 19 = .ok (.iconst 1, 1) := by decide +kernel
theorem dX10_isCast_20 : decode cX10_isCast 20 = .ok (.goto 4, 3) := by decide +kernel
theorem dX10_isCast_23 : decode cX10_isCast 23 = .ok (.iconst 0, 1) := by decide +kernel
theorem dX10_isCast_24 : decode cX10_isCast 24 = .ok (.ireturn, 1) := by decide +kernel
theorem dX10_cast_0 : decode cX10_cast 0 = .ok (.iload_n 1, 1) := by decide +kernel
theorem dX10_cast_1 : decode cX10_cast 1 = .ok (.ifCond .lt 35, 3) := by decide +kernel
theorem dX10_cast_4 : decode cX10_cast 4 = .ok (.iload_n 1, 1) := by decide +kernel
theorem dX10_cast_5 : decode cX10_cast 5 = .ok (.bipush 12, 2) := by decide +kernel
theorem dX10_cast_7 : decode cX10_cast 7 = .ok (.if_icmp .ge 29, 3) := by decide +kernel
theorem dX10_cast_10 : decode cX10_cast 10 = .ok (.iload_n 2, 1) := by decide +kernel
theorem dX10_cast_11 : decode cX10_cast 11 = .ok (.iconst 0, 1) := by decide +kernel
theorem dX10_cast_12 : decode cX10_cast 12 = .ok (.ldc_w 285, 3) := by decide +kernel
theorem dX10_cast_15 : decode cX10_cast 15 = .ok (.invokestatic 196, 3) := by decide +kernel
theorem dX10_cast_18 : decode cX10_cast 18 = .ok (.ifCond .eq 18, 3) := by decide +kernel
theorem dX10_cast_21 : decode cX10_cast 21 = .ok (.iload_n 2, 1) := by decide +kernel
theorem dX10_cast_22 : decode cX10_cast 22 = .ok (.ifCond .le 16, 3) := by decide +kernel
theorem dX10_cast_25 : decode cX10_cast 25 = .ok (.iload_n 3, 1) := by decide +kernel
theorem dX10_cast_26 : decode cX10_cast 26 = .ok (.iconst 0, 1) := by decide +kernel
theorem dX10_cast_27 : decode cX10_cast 27 = .ok (.sipush 1000, 3) := by decide +kernel
theorem dX10_cast_30 : decode cX10_cast 30 = .ok (.invokestatic 196, 3) := by decide +kernel
theorem dX10_cast_33 : decode cX10_cast 33 = .ok (.ifCond .ne 5, 3) := by decide +kernel
theorem dX10_cast_36 : decode cX10_cast 36 = .ok (.iconst 0, 1) := by decide +kernel
theorem dX10_cast_37 : decode cX10_cast 37 = .ok (.ireturn, 1) := by decide +kernel
theorem dX10_cast_38 : decode cX10_cast 38 = .ok (.aload_n 0, 1) := by decide +kernel
theorem dX10_cast_39 : decode cX10_cast 39 = .ok (.getfield 100, 3) := by decide +kernel
theorem dX10_cast_42 : decode cX10_cast 42 = .ok (.iload_n 1, 1) := by decide +kernel
theorem dX10_cast_43 : decode cX10_cast 43 = .ok (.iload_n 2, 1) := by decide +kernel
theorem dX10_cast_44 : decode cX10_cast 44 = .ok (.iastore, 1) := by decide +kernel
theorem dX10_cast_45 : decode cX10_cast 45 = .ok (.aload_n 0, 1) := by decide +kernel
theorem dX10_cast_46 : decode cX10_cast 46 = .ok (.getfield 103, 3) := by decide +kernel
theorem dX10_cast_49 : decode cX10_cast 49 = .ok (.iload_n 1, 1) := by decide +kernel
theorem dX10_cast_50 : decode cX10_cast 50 = .ok (.iload_n 3, 1) := by decide +kernel
theorem dX10_cast_51 : decode cX10_cast 51 = .ok (.iastore, 1) := by decide +kernel
theorem dX10_cast_52 : decode cX10_cast 52 = .ok (.iconst 1, 1) := by decide +kernel
theorem dX10_cast_53 : decode cX10_cast 53 = .ok (.ireturn, 1) := by decide +kernel
theorem dX10_copies_0 : decode cX10_copies 0 = .ok (.iload_n 1, 1) := by decide +kernel
theorem dX10_copies_1 : decode cX10_copies 1 = .ok (.sipush 900, 3) := by decide +kernel
theorem dX10_copies_4 : decode cX10_copies 4 = .ok (.sipush 1000, 3) := by decide +kernel
theorem dX10_copies_7 : decode cX10_copies 7 = .ok (.invokestatic 196, 3) := by decide +kernel
theorem dX10_copies_10 : decode cX10_copies 10 = .ok (.ifCond .eq 25, 3) := by decide +kernel
theorem dX10_copies_13 : decode cX10_copies 13 = .ok (.iload_n 2, 1) := by decide +kernel
theorem dX10_copies_14 : decode cX10_copies 14 = .ok (.iconst 0, 1) := by decide +kernel
theorem dX10_copies_15 : decode cX10_copies 15 = .ok (.sipush 1000, 3) := by decide +kernel
theorem dX10_copies_18 : decode cX10_copies 18 = .ok (.invokestatic 196, 3) := by decide +kernel
theorem dX10_copies_21 : decode cX10_copies 21 = .ok (.ifCond .eq 14, 3) := by decide +kernel
theorem dX10_copies_24 : decode cX10_copies 24 = .ok (.iload_n 3, 1) := by decide +kernel
theorem dX10_copies_25 : decode cX10_copies 25 = .ok (.iconst 0, 1) := by decide +kernel
theorem dX10_copies_26 : decode cX10_copies 26 = .ok (.ldc_w 285, 3) := by decide +kernel
theorem dX10_copies_29 : decode cX10_copies 29 = .ok (.invokestatic 196, 3) := by decide +kernel
theorem dX10_copies_32 : decode cX10_copies 32 = .ok (.ifCond .ne 5, 3) := by decide +kernel
theorem dX10_copies_35 : decode cX10_copies 35 = .ok (.iconst 0, 1) := by decide +kernel
theorem dX10_copies_36 : decode cX10_copies 36 = .ok (.ireturn, 1) := by decide +kernel
theorem dX10_copies_37 : decode cX10_copies 37 = .ok (.aload_n 0, 1) := by decide +kernel
theorem dX10_copies_38 : decode cX10_copies 38 = .ok (.iload_n 1, 1) := by decide +kernel
theorem dX10_copies_39 : decode cX10_copies 39 = .ok (.putfield 106, 3) := by decide +kernel
theorem dX10_copies_42 : decode cX10_copies 42 = .ok (.aload_n 0, 1) := by decide +kernel
theorem dX10_copies_43 : decode cX10_copies 43 = .ok (.iload_n 2, 1) := by decide +kernel
theorem dX10_copies_44 : decode cX10_copies 44 = .ok (.putfield 109, 3) := by decide +kernel
theorem dX10_copies_47 : decode cX10_copies 47 = .ok (.aload_n 0, 1) := by decide +kernel
theorem dX10_copies_48 : decode cX10_copies 48 = .ok (.iload_n 3, 1) := by decide +kernel
theorem dX10_copies_49 : decode cX10_copies 49 = .ok (.putfield 112, 3) := by decide +kernel
theorem dX10_copies_52 : decode cX10_copies 52 = .ok (.iconst 1, 1) := by decide +kernel
theorem dX10_copies_53 : decode cX10_copies 53 = .ok (.ireturn, 1) := by decide +kernel
theorem dX10_far_0 : decode cX10_far 0 = .ok (.iload_n 0, 1) := by decide +kernel
theorem dX10_far_1 : decode cX10_far 1 = .ok (.iload_n 1, 1) := by decide +kernel
theorem dX10_far_2 : decode cX10_far 2 = .ok (.if_icmp .ge 9, 3) := by decide +kernel
theorem dX10_far_5 : decode cX10_far 5 = .ok (.iload_n 1, 1) := by decide +kernel
theorem dX10_far_6 : decode cX10_far 6 = .ok (.iload_n 0, 1) := by decide +kernel
theorem dX10_far_7 : decode cX10_far 7 = .ok (.isub, 1) := by decide +kernel
theorem dX10_far_8 : decode cX10_far 8 = .ok (.goto 6, 3) := by decide +kernel
theorem dX10_far_11 : decode cX10_far 11 = .ok (.iload_n 0, 1) := by decide +kernel
theorem dX10_far_12 : decode cX10_far 12 = .ok (.iload_n 1, 1) := by decide +kernel
theorem dX10_far_13 : decode cX10_far 13 = .ok (.isub, 1) := by decide +kernel
theorem dX10_far_14 : decode cX10_far 14 = .ok (.ireturn, 1) := by decide +kernel
theorem dX10_quarrel_0 : decode cX10_quarrel 0 = .ok (.aload_n 0, 1) := by decide +kernel
theorem dX10_quarrel_1 : decode cX10_quarrel 1 = .ok (.getfield 100, 3) := by decide +kernel
theorem dX10_quarrel_4 : decode cX10_quarrel 4 = .ok (.iload_n 1, 1) := by decide +kernel
theorem dX10_quarrel_5 : decode cX10_quarrel 5 = .ok (.iaload, 1) := by decide +kernel
theorem dX10_quarrel_6 : decode cX10_quarrel 6 = .ok (.aload_n 0, 1) := by decide +kernel
theorem dX10_quarrel_7 : decode cX10_quarrel 7 = .ok (.getfield 100, 3) := by decide +kernel
theorem dX10_quarrel_10 : decode cX10_quarrel 10 = .ok (.iload_n 2, 1) := by decide +kernel
theorem dX10_quarrel_11 : decode cX10_quarrel 11 = .ok (.iaload, 1) := by decide +kernel
theorem dX10_quarrel_12 : decode cX10_quarrel 12 = .ok (.aload_n 0, 1) := by decide +kernel
theorem dX10_quarrel_13 : decode cX10_quarrel 13 = .ok (.getfield 106, 3) := by decide +kernel
theorem dX10_quarrel_16 : decode cX10_quarrel 16 = .ok (.imul, 1) := by decide +kernel
theorem dX10_quarrel_17 : decode cX10_quarrel 17 = .ok (.sipush 1000, 3) := by decide +kernel
theorem dX10_quarrel_20 : decode cX10_quarrel 20 = .ok (.idiv, 1) := by decide +kernel
theorem dX10_quarrel_21 : decode cX10_quarrel 21 = .ok (.invokestatic 286, 3) := by decide +kernel
theorem dX10_quarrel_24 : decode cX10_quarrel 24 = .ok (.aload_n 0, 1) := by decide +kernel
theorem dX10_quarrel_25 : decode cX10_quarrel 25 = .ok (.getfield 103, 3) := by decide +kernel
theorem dX10_quarrel_28 : decode cX10_quarrel 28 = .ok (.iload_n 1, 1) := by decide +kernel
theorem dX10_quarrel_29 : decode cX10_quarrel 29 = .ok (.iaload, 1) := by decide +kernel
theorem dX10_quarrel_30 : decode cX10_quarrel 30 = .ok (.aload_n 0, 1) := by decide +kernel
theorem dX10_quarrel_31 : decode cX10_quarrel 31 = .ok (.getfield 103, 3) := by decide +kernel
theorem dX10_quarrel_34 : decode cX10_quarrel 34 = .ok (.iload_n 2, 1) := by decide +kernel
theorem dX10_quarrel_35 : decode cX10_quarrel 35 = .ok (.iaload, 1) := by decide +kernel
theorem dX10_quarrel_36 : decode cX10_quarrel 36 = .ok (.aload_n 0, 1) := by decide +kernel
theorem dX10_quarrel_37 : decode cX10_quarrel 37 = .ok (.getfield 109, 3) := by decide +kernel
theorem dX10_quarrel_40 : decode cX10_quarrel 40 = .ok (.imul, 1) := by decide +kernel
theorem dX10_quarrel_41 : decode cX10_quarrel 41 = .ok (.sipush 1000, 3) := by decide +kernel
theorem dX10_quarrel_44 : decode cX10_quarrel 44 = .ok (.idiv, 1) := by decide +kernel
theorem dX10_quarrel_45 : decode cX10_quarrel 45 = .ok (.invokestatic 286, 3) := by decide +kernel
theorem dX10_quarrel_48 : decode cX10_quarrel 48 = .ok (.iadd, 1) := by decide +kernel
theorem dX10_quarrel_49 : decode cX10_quarrel 49 = .ok (.ireturn, 1) := by decide +kernel
theorem dX10_mother_0 : decode cX10_mother 0 = .ok (.aload_n 0, 1) := by decide +kernel
theorem dX10_mother_1 : decode cX10_mother 1 = .ok (.iload_n 1, 1) := by decide +kernel
theorem dX10_mother_2 : decode cX10_mother 2 = .ok (.invokevirtual 289, 3) := by decide +kernel
theorem dX10_mother_5 : decode cX10_mother 5 = .ok (.ifCond .ne 5, 3) := by decide +kernel
theorem dX10_mother_8 : decode cX10_mother 8 = .ok (.iconst (-1), 1) := by decide +kernel
theorem dX10_mother_9 : decode cX10_mother 9 = .ok (.ireturn, 1) := by decide +kernel
theorem dX10_mother_10 : decode cX10_mother 10 = .ok (.bipush (-2), 2) := by decide +kernel
theorem dX10_mother_12 : decode cX10_mother 12 = .ok (.istore_n 2, 1) := by decide +kernel
theorem dX10_mother_13 : decode cX10_mother 13 = .ok (.iconst 0, 1) := by decide +kernel
theorem dX10_mother_14 : decode cX10_mother 14 = .ok (.istore_n 3, 1) := by decide +kernel
theorem dX10_mother_15 : decode cX10_mother 15 = .ok (.iload_n 3, 1) := by decide +kernel
theorem dX10_mother_16 : decode cX10_mother 16 = .ok (.bipush 12, 2) := by decide +kernel
theorem dX10_mother_18 : decode cX10_mother 18 = .ok (.if_icmp .ge 101, 3) := by decide +kernel
theorem dX10_mother_21 : decode cX10_mother 21 = .ok (.aload_n 0, 1) := by decide +kernel
theorem dX10_mother_22 : decode cX10_mother 22 = .ok (.iload_n 3, 1) := by decide +kernel
theorem dX10_mother_23 : decode cX10_mother 23 = .ok (.invokevirtual 289, 3) := by decide +kernel
theorem dX10_mother_26 : decode cX10_mother 26 = .ok (.ifCond .eq 87, 3) := by decide +kernel
theorem dX10_mother_29 : decode cX10_mother 29 = .ok (.aload_n 0, 1) := by decide +kernel
theorem dX10_mother_30 : decode cX10_mother 30 = .ok (.getfield 100, 3) := by decide +kernel
theorem dX10_mother_33 : decode cX10_mother 33 = .ok (.iload_n 3, 1) := by decide +kernel
theorem dX10_mother_34 : decode cX10_mother 34 = .ok (.iaload, 1) := by decide +kernel
theorem dX10_mother_35 : decode cX10_mother 35 = .ok (.aload_n 0, 1) := by decide +kernel
theorem dX10_mother_36 : decode cX10_mother 36 = .ok (.getfield 100, 3) := by decide +kernel
theorem dX10_mother_39 : decode cX10_mother 39 = .ok (.iload_n 1, 1) := by decide +kernel
theorem dX10_mother_40 : decode cX10_mother 40 = .ok (.iaload, 1) := by decide +kernel
theorem dX10_mother_41 : decode cX10_mother 41 = .ok (.if_icmp .lt 72, 3) := by decide +kernel
theorem dX10_mother_44 : decode cX10_mother 44 = .ok (.aload_n 0, 1) := by decide +kernel
theorem dX10_mother_45 : decode cX10_mother 45 = .ok (.getfield 100, 3) := by decide +kernel
theorem dX10_mother_48 : decode cX10_mother 48 = .ok (.iload_n 3, 1) := by decide +kernel
theorem dX10_mother_49 : decode cX10_mother 49 = .ok (.iaload, 1) := by decide +kernel
theorem dX10_mother_50 : decode cX10_mother 50 = .ok (.aload_n 0, 1) := by decide +kernel
theorem dX10_mother_51 : decode cX10_mother 51 = .ok (.getfield 100, 3) := by decide +kernel
theorem dX10_mother_54 : decode cX10_mother 54 = .ok (.iload_n 1, 1) := by decide +kernel
theorem dX10_mother_55 : decode cX10_mother 55 = .ok (.iaload, 1) := by decide +kernel
theorem dX10_mother_56 : decode cX10_mother 56 = .ok (.if_icmp .ne 21, 3) := by decide +kernel
theorem dX10_mother_59 : decode cX10_mother 59 = .ok (.aload_n 0, 1) := by decide +kernel
theorem dX10_mother_60 : decode cX10_mother 60 = .ok (.getfield 103, 3) := by decide +kernel
theorem dX10_mother_63 : decode cX10_mother 63 = .ok (.iload_n 3, 1) := by decide +kernel
theorem dX10_mother_64 : decode cX10_mother 64 = .ok (.iaload, 1) := by decide +kernel
theorem dX10_mother_65 : decode cX10_mother 65 = .ok (.aload_n 0, 1) := by decide +kernel
theorem dX10_mother_66 : decode cX10_mother 66 = .ok (.getfield 103, 3) := by decide +kernel
theorem dX10_mother_69 : decode cX10_mother 69 = .ok (.iload_n 1, 1) := by decide +kernel
theorem dX10_mother_70 : decode cX10_mother 70 = .ok (.iaload, 1) := by decide +kernel
theorem dX10_mother_71 : decode cX10_mother 71 = .ok (.if_icmp .gt 6, 3) := by decide +kernel
theorem dX10_mother_74 : decode cX10_mother 74 = .ok (.goto 39, 3) := by decide +kernel
theorem dX10_mother_77 : decode cX10_mother 77 = .ok (.aload_n 0, 1) := by decide +kernel
theorem dX10_mother_78 : decode cX10_mother 78 = .ok (.iload_n 1, 1) := by decide +kernel
theorem dX10_mother_79 : decode cX10_mother 79 = .ok (.iload_n 3, 1) := by decide +kernel
theorem dX10_mother_80 : decode cX10_mother 80 = .ok (.invokevirtual 292, 3) := by decide +kernel
theorem dX10_mother_83 : decode cX10_mother 83 = .ok (.aload_n 0, 1) := by decide +kernel
theorem dX10_mother_84 : decode cX10_mother 84 = .ok (.getfield 112, 3) := by decide +kernel
theorem dX10_mother_87 : decode cX10_mother 87 = .ok (.if_icmp .gt 26, 3) := by decide +kernel
theorem dX10_mother_90 : decode cX10_mother 90 = .ok (.iload_n 2, 1) := by decide +kernel
theorem dX10_mother_91 : decode cX10_mother 91 = .ok (.bipush (-2), 2) := by decide +kernel
theorem dX10_mother_93 : decode cX10_mother 93 = .ok (.if_icmp .eq 18, 3) := by decide +kernel
theorem dX10_mother_96 : decode cX10_mother 96 = .ok (.aload_n 0, 1) := by decide +kernel
theorem dX10_mother_97 : decode cX10_mother 97 = .ok (.iload_n 1, 1) := by decide +kernel
theorem dX10_mother_98 : decode cX10_mother 98 = .ok (.iload_n 3, 1) := by decide +kernel
theorem dX10_mother_99 : decode cX10_mother 99 = .ok (.invokevirtual 292, 3) := by decide +kernel
theorem dX10_mother_102 : decode cX10_mother 102 = .ok (.aload_n 0, 1) := by decide +kernel
theorem dX10_mother_103 : decode cX10_mother 103 = .ok (.iload_n 1, 1) := by decide +kernel
theorem dX10_mother_104 : decode cX10_mother 104 = .ok (.iload_n 2, 1) := by decide +kernel
theorem dX10_mother_105 : decode cX10_mother 105 = .ok (.invokevirtual 292, 3) := by decide +kernel
theorem dX10_mother_108 : decode cX10_mother 108 = .ok (.if_icmp .ge 5, 3) := by decide +kernel
theorem dX10_mother_111 : decode cX10_mother 111 = .ok (.iload_n 3, 1) := by decide +kernel
theorem dX10_mother_112 : decode cX10_mother 112 = .ok (.istore_n 2, 1) := by decide +kernel
theorem dX10_mother_113 : decode cX10_mother 113 = .ok (.iinc 3 1, 3) := by decide +kernel
theorem dX10_mother_116 : decode cX10_mother 116 = .ok (.goto (-101), 3) := by decide +kernel
theorem dX10_mother_119 : decode cX10_mother 119 = .ok (.iload_n 2, 1) := by decide +kernel
theorem dX10_mother_120 : decode cX10_mother 120 = .ok (.ireturn, 1) := by decide +kernel
theorem dX10_steps_0 : decode cX10_steps 0 = .ok (.aload_n 0, 1) := by decide +kernel
theorem dX10_steps_1 : decode cX10_steps 1 = .ok (.iload_n 1, 1) := by decide +kernel
theorem dX10_steps_2 : decode cX10_steps 2 = .ok (.invokevirtual 289, 3) := by decide +kernel
theorem dX10_steps_5 : decode cX10_steps 5 = .ok (.ifCond .ne 5, 3) := by decide +kernel
theorem dX10_steps_8 : decode cX10_steps 8 = .ok (.iconst (-1), 1) := by decide +kernel
theorem dX10_steps_9 : decode cX10_steps 9 = .ok (.ireturn, 1) := by decide +kernel
theorem dX10_steps_10 : decode cX10_steps 10 = .ok (.iconst 0, 1) := by decide +kernel
theorem dX10_steps_11 : decode cX10_steps 11 = .ok (.istore_n 2, 1) := by decide +kernel
theorem dX10_steps_12 : decode cX10_steps 12 = .ok (.aload_n 0, 1) := by decide +kernel
theorem dX10_steps_13 : decode cX10_steps 13 = .ok (.iload_n 1, 1) := by decide +kernel
theorem dX10_steps_14 : decode cX10_steps 14 = .ok (.invokevirtual 295, 3) := by decide +kernel
theorem dX10_steps_17 : decode cX10_steps 17 = .ok (.istore_n 3, 1) := by decide +kernel
theorem dX10_steps_18 : decode cX10_steps 18 = .ok (.iload_n 3, 1) := by decide +kernel
theorem dX10_steps_19 : decode cX10_steps 19 = .ok (.ifCond .lt 15, 3) := by decide +kernel
theorem dX10_steps_22 : decode cX10_steps 22 = .ok (.iinc 2 1, 3) := by decide +kernel
theorem dX10_steps_25 : decode cX10_steps 25 = .ok (.aload_n 0, 1) := by decide +kernel
theorem dX10_steps_26 : decode cX10_steps 26 = .ok (.iload_n 3, 1) := by decide +kernel
theorem dX10_steps_27 : decode cX10_steps 27 = .ok (.invokevirtual 295, 3) := by decide +kernel
theorem dX10_steps_30 : decode cX10_steps 30 = .ok (.istore_n 3, 1) := by decide +kernel
theorem dX10_steps_31 : decode cX10_steps 31 = .ok (.goto (-13), 3) := by decide +kernel
theorem dX10_steps_34 : decode cX10_steps 34 = .ok (.iload_n 2, 1) := by decide +kernel
theorem dX10_steps_35 : decode cX10_steps 35 = .ok (.ireturn, 1) := by decide +kernel
theorem dX10_told_0 : decode cX10_told 0 = .ok (.iload_n 1, 1) := by decide +kernel
theorem dX10_told_1 : decode cX10_told 1 = .ok (.ifCond .eq 10, 3) := by decide +kernel
theorem dX10_told_4 : decode cX10_told 4 = .ok (.iload_n 1, 1) := by decide +kernel
theorem dX10_told_5 : decode cX10_told 5 = .ok (.iconst 1, 1) := by decide +kernel
theorem dX10_told_6 : decode cX10_told 6 = .ok (.if_icmp .eq 5, 3) := by decide +kernel
theorem dX10_told_9 : decode cX10_told 9 = .ok (.iconst (-1), 1) := by decide +kernel
theorem dX10_told_10 : decode cX10_told 10 = .ok (.ireturn, 1) := by decide +kernel
theorem dX10_told_11 : decode cX10_told 11 = .ok (.iconst 0, 1) := by decide +kernel
theorem dX10_told_12 : decode cX10_told 12 = .ok (.istore_n 2, 1) := by decide +kernel
theorem dX10_told_13 : decode cX10_told 13 = .ok (.iconst 0, 1) := by decide +kernel
theorem dX10_told_14 : decode cX10_told 14 = .ok (.istore_n 3, 1) := by decide +kernel
theorem dX10_told_15 : decode cX10_told 15 = .ok (.iload_n 3, 1) := by decide +kernel
theorem dX10_told_16 : decode cX10_told 16 = .ok (.bipush 12, 2) := by decide +kernel
theorem dX10_told_18 : decode cX10_told 18 = .ok (.if_icmp .ge 59, 3) := by decide +kernel
theorem dX10_told_21 : decode cX10_told 21 = .ok (.aload_n 0, 1) := by decide +kernel
theorem dX10_told_22 : decode cX10_told 22 = .ok (.iload_n 3, 1) := by decide +kernel
theorem dX10_told_23 : decode cX10_told 23 = .ok (.invokevirtual 289, 3) := by decide +kernel
theorem dX10_told_26 : decode cX10_told 26 = .ok (.ifCond .ne 6, 3) := by decide +kernel
theorem dX10_told_29 : decode cX10_told 29 = .ok (.goto 42, 3) := by decide +kernel
theorem dX10_told_32 : decode cX10_told 32 = .ok (.aload_n 0, 1) := by decide +kernel
theorem dX10_told_33 : decode cX10_told 33 = .ok (.iload_n 3, 1) := by decide +kernel
theorem dX10_told_34 : decode cX10_told 34 = .ok (.invokevirtual 295, 3) := by decide +kernel
theorem dX10_told_37 : decode cX10_told 37 = .ok (.istore 4, 2) := by decide +kernel
theorem dX10_told_39 : decode cX10_told 39 = .ok (.iload_n 1, 1) := by decide +kernel
theorem dX10_told_40 : decode cX10_told 40 = .ok (.ifCond .ne 11, 3) := by decide +kernel
theorem dX10_told_43 : decode cX10_told 43 = .ok (.iload 4, 2) := by decide +kernel
theorem dX10_told_45 : decode cX10_told 45 = .ok (.ifCond .ge 6, 3) := by decide +kernel
theorem dX10_told_48 : decode cX10_told 48 = .ok (.iinc 2 1, 3) := by decide +kernel
theorem dX10_told_51 : decode cX10_told 51 = .ok (.iload_n 1, 1) := by decide +kernel
theorem dX10_told_52 : decode cX10_told 52 = .ok (.iconst 1, 1) := by decide +kernel
theorem dX10_told_53 : decode cX10_told 53 = .ok (.if_icmp .ne 18, 3) := by decide +kernel
theorem dX10_told_56 : decode cX10_told 56 = .ok (.iload 4, 2) := by decide +kernel
theorem dX10_told_58 : decode cX10_told 58 = .ok (.ifCond .lt 13, 3) := by decide +kernel
theorem dX10_told_61 : decode cX10_told 61 = .ok (.iload_n 2, 1) := by decide +kernel
theorem dX10_told_62 : decode cX10_told 62 = .ok (.aload_n 0, 1) := by decide +kernel
theorem dX10_told_63 : decode cX10_told 63 = .ok (.iload_n 3, 1) := by decide +kernel
theorem dX10_told_64 : decode cX10_told 64 = .ok (.iload 4, 2) := by decide +kernel
theorem dX10_told_66 : decode cX10_told 66 = .ok (.invokevirtual 292, 3) := by decide +kernel
theorem dX10_told_69 : decode cX10_told 69 = .ok (.iadd, 1) := by decide +kernel
theorem dX10_told_70 : decode cX10_told 70 = .ok (.istore_n 2, 1) := by decide +kernel
theorem dX10_told_71 : decode cX10_told 71 = .ok (.iinc 3 1, 3) := by decide +kernel
theorem dX10_told_74 : decode cX10_told 74 = .ok (.goto (-59), 3) := by decide +kernel
theorem dX10_told_77 : decode cX10_told 77 = .ok (.iload_n 2, 1) := by decide +kernel
theorem dX10_told_78 : decode cX10_told 78 = .ok (.ireturn, 1) := by decide +kernel
