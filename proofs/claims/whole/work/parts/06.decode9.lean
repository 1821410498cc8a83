theorem dX9_init_0 : decode cX9_init 0 = .ok (.aload_n 0, 1) := by decide +kernel
theorem dX9_init_1 : decode cX9_init 1 = .ok (.invokespecial 1, 3) := by decide +kernel
theorem dX9_init_4 : decode cX9_init 4 = .ok (.aload_n 0, 1) := by decide +kernel
theorem dX9_init_5 : decode cX9_init 5 = .ok (.sipush 1024, 3) := by decide +kernel
theorem dX9_init_8 : decode cX9_init 8 = .ok (.newarray .int, 2) := by decide +kernel
theorem dX9_init_10 : decode cX9_init 10 = .ok (.putfield 7, 3) := by decide +kernel
theorem dX9_init_13 : decode cX9_init 13 = .ok (.aload_n 0, 1) := by decide +kernel
theorem dX9_init_14 : decode cX9_init 14 = .ok (.bipush 20, 2) := by decide +kernel
theorem dX9_init_16 : decode cX9_init 16 = .ok (.putfield 13, 3) := by decide +kernel
theorem dX9_init_19 : decode cX9_init 19 = .ok (.aload_n 0, 1) := by decide +kernel
theorem dX9_init_20 : decode cX9_init 20 = .ok (.sipush 300, 3) := by decide +kernel
theorem dX9_init_23 : decode cX9_init 23 = .ok (.putfield 17, 3) := by decide +kernel
theorem dX9_init_26 : decode cX9_init 26 = .ok (.aload_n 0, 1) := by decide +kernel
theorem dX9_init_27 : decode cX9_init 27 = .ok (.bipush 10, 2) := by decide +kernel
theorem dX9_init_29 : decode cX9_init 29 = .ok (.putfield 20, 3) := by decide +kernel
theorem dX9_init_32 : decode cX9_init 32 = .ok (.aload_n 0, 1) := by decide +kernel
theorem dX9_init_33 : decode cX9_init 33 = .ok (.sipush 200, 3) := by decide +kernel
theorem dX9_init_36 : decode cX9_init 36 = .ok (.putfield 23, 3) := by decide +kernel
theorem dX9_init_39 : decode cX9_init 39 = .ok (.aload_n 0, 1) := by decide +kernel
theorem dX9_init_40 : decode cX9_init 40 = .ok (.sipush 4096, 3) := by decide +kernel
theorem dX9_init_43 : decode cX9_init 43 = .ok (.putfield 26, 3) := by decide +kernel
theorem dX9_init_46 : decode cX9_init 46 = .ok (.aload_n 0, 1) := by decide +kernel
theorem dX9_init_47 : decode cX9_init 47 = .ok (.bipush 36, 2) := by decide +kernel
theorem dX9_init_49 : decode cX9_init 49 = .ok (.newarray .int, 2) := by decide +kernel
theorem dX9_init_51 : decode cX9_init 51 = .ok (.dup, 1) := by decide +kernel
theorem dX9_init_52 : decode cX9_init 52 = .ok (.iconst 0, 1) := by decide +kernel
theorem dX9_init_53 : decode cX9_init 53 = .ok (.sipush 10000, 3) := by decide +kernel
theorem dX9_init_56 : decode cX9_init 56 = .ok (.iastore, 1) := by decide +kernel
theorem dX9_init_57 : decode cX9_init 57 = .ok (.dup, 1) := by decide +kernel
theorem dX9_init_58 : decode cX9_init 58 = .ok (.iconst 1, 1) := by decide +kernel
theorem dX9_init_59 : decode cX9_init 59 = .ok (.sipush 9439, 3) := by decide +kernel
theorem dX9_init_62 : decode cX9_init 62 = .ok (.iastore, 1) := by decide +kernel
theorem dX9_init_63 : decode cX9_init 63 = .ok (.dup, 1) := by decide +kernel
theorem dX9_init_64 : decode cX9_init 64 = .ok (.iconst 2, 1) := by decide +kernel
theorem dX9_init_65 : decode cX9_init 65 = .ok (.sipush 8909, 3) := by decide +kernel
theorem dX9_init_68 : decode cX9_init 68 = .ok (.iastore, 1) := by decide +kernel
theorem dX9_init_69 : decode cX9_init 69 = .ok (.dup, 1) := by decide +kernel
theorem dX9_init_70 : decode cX9_init 70 = .ok (.iconst 3, 1) := by decide +kernel
theorem dX9_init_71 : decode cX9_init 71 = .ok (.sipush 8409, 3) := by decide +kernel
theorem dX9_init_74 : decode cX9_init 74 = .ok (.iastore, 1) := by decide +kernel
theorem dX9_init_75 : decode cX9_init 75 = .ok (.dup, 1) := by decide +kernel
theorem dX9_init_76 : decode cX9_init 76 = .ok (.iconst 4, 1) := by decide +kernel
theorem dX9_init_77 : decode cX9_init 77 = .ok (.sipush 7937, 3) := by decide +kernel
theorem dX9_init_80 : decode cX9_init 80 = .ok (.iastore, 1) := by decide +kernel
theorem dX9_init_81 : decode cX9_init 81 = .ok (.dup, 1) := by decide +kernel
theorem dX9_init_82 : decode cX9_init 82 = .ok (.iconst 5, 1) := by decide +kernel
theorem dX9_init_83 : decode cX9_init 83 = .ok (.sipush 7492, 3) := by decide +kernel
theorem dX9_init_86 : decode cX9_init 86 = .ok (.iastore, 1) := by decide +kernel
theorem dX9_init_87 : decode cX9_init 87 = .ok (.dup, 1) := by decide +kernel
theorem dX9_init_88 : decode cX9_init 88 = .ok (.bipush 6, 2) := by decide +kernel
theorem dX9_init_90 : decode cX9_init 90 = .ok (.sipush 7071, 3) := by decide +kernel
theorem dX9_init_93 : decode cX9_init 93 = .ok (.iastore, 1) := by decide +kernel
theorem dX9_init_94 : decode cX9_init 94 = .ok (.dup, 1) := by decide +kernel
theorem dX9_init_95 : decode cX9_init 95 = .ok (.bipush 7, 2) := by decide +kernel
theorem dX9_init_97 : decode cX9_init 97 = .ok (.sipush 6674, 3) := by decide +kernel
theorem dX9_init_100 : decode cX9_init 100 = .ok (.iastore, 1) := by decide +kernel
theorem dX9_init_101 : decode cX9_init 101 = .ok (.dup, 1) := by decide +kernel
theorem dX9_init_102 : decode cX9_init 102 = .ok (.bipush 8, 2) := by decide +kernel
theorem dX9_init_104 : decode cX9_init 104 = .ok (.sipush 6300, 3) := by decide +kernel
theorem dX9_init_107 : decode cX9_init 107 = .ok (.iastore, 1) := by decide +kernel
theorem dX9_init_108 : decode cX9_init 108 = .ok (.dup, 1) := by decide +kernel
theorem dX9_init_109 : decode cX9_init 109 = .ok (.bipush 9, 2) := by decide +kernel
theorem dX9_init_111 : decode cX9_init 111 = .ok (.sipush 5946, 3) := by decide +kernel
theorem dX9_init_114 : decode cX9_init 114 = .ok (.iastore, 1) := by decide +kernel
theorem dX9_init_115 : decode cX9_init 115 = .ok (.dup, 1) := by decide +kernel
theorem dX9_init_116 : decode cX9_init 116 = .ok (.bipush 10, 2) := by decide +kernel
theorem dX9_init_118 : decode cX9_init 118 = .ok (.sipush 5612, 3) := by decide +kernel
theorem dX9_init_121 : decode cX9_init 121 = .ok (.iastore, 1) := by decide +kernel
theorem dX9_init_122 : decode cX9_init 122 = .ok (.dup, 1) := by decide +kernel
theorem dX9_init_123 : decode cX9_init 123 = .ok (.bipush 11, 2) := by decide +kernel
theorem dX9_init_125 : decode cX9_init 125 = .ok (.sipush 5297, 3) := by decide +kernel
theorem dX9_init_128 : decode cX9_init 128 = .ok (.iastore, 1) := by decide +kernel
theorem dX9_init_129 : decode cX9_init 129 = .ok (.dup, 1) := by decide +kernel
theorem dX9_init_130 : decode cX9_init 130 = .ok (.bipush 12, 2) := by decide +kernel
theorem dX9_init_132 : decode cX9_init 132 = .ok (.sipush 10000, 3) := by decide +kernel
theorem dX9_init_135 : decode cX9_init 135 = .ok (.iastore, 1) := by decide +kernel
theorem dX9_init_136 : decode cX9_init 136 = .ok (.dup, 1) := by decide +kernel
theorem dX9_init_137 : decode cX9_init 137 = .ok (.bipush 13, 2) := by decide +kernel
theorem dX9_init_139 : decode cX9_init 139 = .ok (.sipush 9375, 3) := by decide +kernel
theorem dX9_init_142 : decode cX9_init 142 = .ok (.iastore, 1) := by decide +kernel
theorem dX9_init_143 : decode cX9_init 143 = .ok (.dup, 1) := by decide +kernel
theorem dX9_init_144 : decode cX9_init 144 = .ok (.bipush 14, 2) := by decide +kernel
theorem dX9_init_146 : decode cX9_init 146 = .ok (.sipush 8889, 3) := by decide +kernel
theorem dX9_init_149 : decode cX9_init 149 = .ok (.iastore, 1) := by decide +kernel
theorem dX9_init_150 : decode cX9_init 150 = .ok (.dup, 1) := by decide +kernel
theorem dX9_init_151 : decode cX9_init 151 = .ok (.bipush 15, 2) := by decide +kernel
theorem dX9_init_153 : decode cX9_init 153 = .ok (.sipush 8333, 3) := by decide +kernel
theorem dX9_init_156 : decode cX9_init 156 = .ok (.iastore, 1) := by decide +kernel
theorem dX9_init_157 : decode cX9_init 157 = .ok (.dup, 1) := by decide +kernel
theorem dX9_init_158 : decode cX9_init 158 = .ok (.bipush 16, 2) := by decide +kernel
theorem dX9_init_160 : decode cX9_init 160 = .ok (.sipush 8000, 3) := by decide +kernel
theorem dX9_init_163 : decode cX9_init 163 = .ok (.iastore, 1) := by decide +kernel
theorem dX9_init_164 : decode cX9_init 164 = .ok (.dup, 1) := by decide +kernel
theorem dX9_init_165 : decode cX9_init 165 = .ok (.bipush 17, 2) := by decide +kernel
theorem dX9_init_167 : decode cX9_init 167 = .ok (.sipush 7500, 3) := by decide +kernel
theorem dX9_init_170 : decode cX9_init 170 = .ok (.iastore, 1) := by decide +kernel
theorem dX9_init_171 : decode cX9_init 171 = .ok (.dup, 1) := by decide +kernel
theorem dX9_init_172 : decode cX9_init 172 = .ok (.bipush 18, 2) := by decide +kernel
theorem dX9_init_174 : decode cX9_init 174 = .ok (.sipush 7111, 3) := by decide +kernel
theorem dX9_init_177 : decode cX9_init 177 = .ok (.iastore, 1) := by decide +kernel
theorem dX9_init_178 : decode cX9_init 178 = .ok (.dup, 1) := by decide +kernel
theorem dX9_init_179 : decode cX9_init 179 = .ok (.bipush 19, 2) := by decide +kernel
theorem dX9_init_181 : decode cX9_init 181 = .ok (.sipush 6667, 3) := by decide +kernel
theorem dX9_init_184 : decode cX9_init 184 = .ok (.iastore, 1) := by decide +kernel
theorem dX9_init_185 : decode cX9_init 185 = .ok (.dup, 1) := by decide +kernel
theorem dX9_init_186 : decode cX9_init 186 = .ok (.bipush 20, 2) := by decide +kernel
theorem dX9_init_188 : decode cX9_init 188 = .ok (.sipush 6250, 3) := by decide +kernel
theorem dX9_init_191 : decode cX9_init 191 = .ok (.iastore, 1) := by decide +kernel
theorem dX9_init_192 : decode cX9_init 192 = .ok (.dup, 1) := by decide +kernel
theorem dX9_init_193 : decode cX9_init 193 = .ok (.bipush 21, 2) := by decide +kernel
theorem dX9_init_195 : decode cX9_init 195 = .ok (.sipush 6000, 3) := by decide +kernel
theorem dX9_init_198 : decode cX9_init 198 = .ok (.iastore, 1) := by decide +kernel
theorem dX9_init_199 : decode cX9_init 199 = .ok (.dup, 1) := by decide +kernel
theorem dX9_init_200 : decode cX9_init 200 = .ok (.bipush 22, 2) := by decide +kernel
theorem dX9_init_202 : decode cX9_init 202 = .ok (.sipush 5625, 3) := by decide +kernel
theorem dX9_init_205 : decode cX9_init 205 = .ok (.iastore, 1) := by decide +kernel
theorem dX9_init_206 : decode cX9_init 206 = .ok (.dup, 1) := by decide +kernel
theorem dX9_init_207 : decode cX9_init 207 = .ok (.bipush 23, 2) := by decide +kernel
theorem dX9_init_209 : decode cX9_init 209 = .ok (.sipush 5333, 3) := by decide +kernel
theorem dX9_init_212 : decode cX9_init 212 = .ok (.iastore, 1) := by decide +kernel
theorem dX9_init_213 : decode cX9_init 213 = .ok (.dup, 1) := by decide +kernel
theorem dX9_init_214 : decode cX9_init 214 = .ok (.bipush 24, 2) := by decide +kernel
theorem dX9_init_216 : decode cX9_init 216 = .ok (.sipush 10000, 3) := by decide +kernel
theorem dX9_init_219 : decode cX9_init 219 = .ok (.iastore, 1) := by decide +kernel
theorem dX9_init_220 : decode cX9_init 220 = .ok (.dup, 1) := by decide +kernel
theorem dX9_init_221 : decode cX9_init 221 = .ok (.bipush 25, 2) := by decide +kernel
theorem dX9_init_223 : decode cX9_init 223 = .ok (.sipush 9492, 3) := by decide +kernel
theorem dX9_init_226 : decode cX9_init 226 = .ok (.iastore, 1) := by decide +kernel
theorem dX9_init_227 : decode cX9_init 227 = .ok (.dup, 1) := by decide +kernel
theorem dX9_init_228 : decode cX9_init 228 = .ok (.bipush 26, 2) := by decide +kernel
theorem dX9_init_230 : decode cX9_init 230 = .ok (.sipush 8889, 3) := by decide +kernel
theorem dX9_init_233 : decode cX9_init 233 = .ok (.iastore, 1) := by decide +kernel
theorem dX9_init_234 : decode cX9_init 234 = .ok (.dup, 1) := by decide +kernel
theorem dX9_init_235 : decode cX9_init 235 = .ok (.bipush 27, 2) := by decide +kernel
theorem dX9_init_237 : decode cX9_init 237 = .ok (.sipush 8438, 3) := by decide +kernel
theorem dX9_init_240 : decode cX9_init 240 = .ok (.iastore, 1) := by decide +kernel
theorem dX9_init_241 : decode cX9_init 241 = .ok (.dup, 1) := by decide +kernel
theorem dX9_init_242 : decode cX9_init 242 = .ok (.bipush 28, 2) := by decide +kernel
theorem dX9_init_244 : decode cX9_init 244 = .ok (.sipush 7901, 3) := by decide +kernel
theorem dX9_init_247 : decode cX9_init 247 = .ok (.iastore, 1) := by decide +kernel
theorem dX9_init_248 : decode cX9_init 248 = .ok (.dup, 1) := by decide +kernel
theorem dX9_init_249 : decode cX9_init 249 = .ok (.bipush 29, 2) := by decide +kernel
theorem dX9_init_251 : decode cX9_init 251 = .ok (.sipush 7500, 3) := by decide +kernel
theorem dX9_init_254 : decode cX9_init 254 = .ok (.iastore, 1) := by decide +kernel
theorem dX9_init_255 : decode cX9_init 255 = .ok (.dup, 1) := by decide +kernel
theorem dX9_init_256 : decode cX9_init 256 = .ok (.bipush 30, 2) := by decide +kernel
theorem dX9_init_258 : decode cX9_init 258 = .ok (.sipush 7023, 3) := by decide +kernel
theorem dX9_init_261 : decode cX9_init 261 = .ok (.iastore, 1) := by decide +kernel
theorem dX9_init_262 : decode cX9_init 262 = .ok (.dup, 1) := by decide +kernel
theorem dX9_init_263 : decode cX9_init 263 = .ok (.bipush 31, 2) := by decide +kernel
theorem dX9_init_265 : decode cX9_init 265 = .ok (.sipush 6667, 3) := by decide +kernel
theorem dX9_init_268 : decode cX9_init 268 = .ok (.iastore, 1) := by decide +kernel
theorem dX9_init_269 : decode cX9_init 269 = .ok (.dup, 1) := by decide +kernel
theorem dX9_init_270 : decode cX9_init 270 = .ok (.bipush 32, 2) := by decide +kernel
theorem dX9_init_272 : decode cX9_init 272 = .ok (.sipush 6328, 3) := by decide +kernel
theorem dX9_init_275 : decode cX9_init 275 = .ok (.iastore, 1) := by decide +kernel
theorem dX9_init_276 : decode cX9_init 276 = .ok (.dup, 1) := by decide +kernel
theorem dX9_init_277 : decode cX9_init 277 = .ok (.bipush 33, 2) := by decide +kernel
theorem dX9_init_279 : decode cX9_init 279 = .ok (.sipush 5926, 3) := by decide +kernel
theorem dX9_init_282 : decode cX9_init 282 = .ok (.iastore, 1) := by decide +kernel
theorem dX9_init_283 : decode cX9_init 283 = .ok (.dup, 1) := by decide +kernel
theorem dX9_init_284 : decode cX9_init 284 = .ok (.bipush 34, 2) := by decide +kernel
theorem dX9_init_286 : decode cX9_init 286 = .ok (.sipush 5625, 3) := by decide +kernel
theorem dX9_init_289 : decode cX9_init 289 = .ok (.iastore, 1) := by decide +kernel
theorem dX9_init_290 : decode cX9_init 290 = .ok (.dup, 1) := by decide +kernel
theorem dX9_init_291 : decode cX9_init 291 = .ok (.bipush 35, 2) := by decide +kernel
theorem dX9_init_293 : decode cX9_init 293 = .ok (.sipush 5267, 3) := by decide +kernel
theorem dX9_init_296 : decode cX9_init 296 = .ok (.iastore, 1) := by decide +kernel
theorem dX9_init_297 : decode cX9_init 297 = .ok (.putfield 29, 3) := by decide +kernel
theorem dX9_init_300 : decode cX9_init 300 = .ok (.aload_n 0, 1) := by decide +kernel
theorem dX9_init_301 : decode cX9_init 301 = .ok (.bipush 65, 2) := by decide +kernel
theorem dX9_init_303 : decode cX9_init 303 = .ok (.newarray .int, 2) := by decide +kernel
theorem dX9_init_305 : decode cX9_init 305 = .ok (.putfield 32, 3) := by decide +kernel
theorem dX9_init_308 : decode cX9_init 308 = .ok (.aload_n 0, 1) := by decide +kernel
theorem dX9_init_309 : decode cX9_init 309 = .ok (.bipush 65, 2) := by decide +kernel
theorem dX9_init_311 : decode cX9_init 311 = .ok (.newarray .int, 2) := by decide +kernel
theorem dX9_init_313 : decode cX9_init 313 = .ok (.putfield 35, 3) := by decide +kernel
theorem dX9_init_316 : decode cX9_init 316 = .ok (.aload_n 0, 1) := by decide +kernel
theorem dX9_init_317 : decode cX9_init 317 = .ok (.bipush 29, 2) := by decide +kernel
theorem dX9_init_319 : decode cX9_init 319 = .ok (.newarray .int, 2) := by decide +kernel
theorem dX9_init_321 : decode cX9_init 321 = .ok (.putfield 38, 3) := by decide +kernel
theorem dX9_init_324 : decode cX9_init 324 = .ok (.aload_n 0, 1) := by decide +kernel
theorem dX9_init_325 : decode cX9_init 325 = .ok (.sipush 261, 3) := by decide +kernel
theorem dX9_init_328 : decode cX9_init 328 = .ok (.newarray .int, 2) := by decide +kernel
theorem dX9_init_330 : decode cX9_init 330 = .ok (.putfield 41, 3) := by decide +kernel
theorem dX9_init_333 : decode cX9_init 333 = .ok (.aload_n 0, 1) := by decide +kernel
theorem dX9_init_334 : decode cX9_init 334 = .ok (.sipush 261, 3) := by decide +kernel
theorem dX9_init_337 : decode cX9_init 337 = .ok (.newarray .int, 2) := by decide +kernel
theorem dX9_init_339 : decode cX9_init 339 = .ok (.putfield 44, 3) := by decide +kernel
theorem dX9_init_342 : decode cX9_init 342 = .ok (.aload_n 0, 1) := by decide +kernel
theorem dX9_init_343 : decode cX9_init 343 = .ok (.sipush 261, 3) := by decide +kernel
theorem dX9_init_346 : decode cX9_init 346 = .ok (.newarray .int, 2) := by decide +kernel
theorem dX9_init_348 : decode cX9_init 348 = .ok (.putfield 47, 3) := by decide +kernel
theorem dX9_init_351 : decode cX9_init 351 = .ok (.aload_n 0, 1) := by decide +kernel
theorem dX9_init_352 : decode cX9_init 352 = .ok (.sipush 261, 3) := by decide +kernel
theorem dX9_init_355 : decode cX9_init 355 = .ok (.newarray .int, 2) := by decide +kernel
theorem dX9_init_357 : decode cX9_init 357 = .ok (.putfield 50, 3) := by decide +kernel
theorem dX9_init_360 : decode cX9_init 360 = .ok (.aload_n 0, 1) := by decide +kernel
theorem dX9_init_361 : decode cX9_init 361 = .ok (.bipush 29, 2) := by decide +kernel
theorem dX9_init_363 : decode cX9_init 363 = .ok (.newarray .int, 2) := by decide +kernel
theorem dX9_init_365 : decode cX9_init 365 = .ok (.putfield 53, 3) := by decide +kernel
theorem dX9_init_368 : decode cX9_init 368 = .ok (.aload_n 0, 1) := by decide +kernel
theorem dX9_init_369 : decode cX9_init 369 = .ok (.bipush 29, 2) := by decide +kernel
theorem dX9_init_371 : decode cX9_init 371 = .ok (.newarray .int, 2) := by decide +kernel
theorem dX9_init_373 : decode cX9_init 373 = .ok (.putfield 56, 3) := by decide +kernel
theorem dX9_init_376 : decode cX9_init 376 = .ok (.return_, 1) := by decide +kernel
theorem dX9_thrown_0 : decode cX9_thrown 0 = .ok (.aload_n 0, 1) := by decide +kernel
theorem dX9_thrown_1 : decode cX9_thrown 1 = .ok (.getfield 59, 3) := by decide +kernel
theorem dX9_thrown_4 : decode cX9_thrown 4 = .ok (.ireturn, 1) := by decide +kernel
theorem dX9_in_0 : decode cX9_in 0 = .ok (.iload_n 0, 1) := by decide +kernel
theorem dX9_in_1 : decode cX9_in 1 = .ok (.iload_n 1, 1) := by decide +kernel
theorem dX9_in_2 : decode cX9_in 2 = .ok (.if_icmp .lt 12, 3) := by decide +kernel
theorem dX9_in_5 : decode cX9_in 5 = .ok (.iload_n 0, 1) := by decide +kernel
theorem dX9_in_6 : decode cX9_in 6 = .ok (.iload_n 2, 1) := by decide +kernel
theorem dX9_in_7 : decode cX9_in 7 = .ok (.if_icmp .gt 7, 3) := by decide +kernel
theorem dX9_in_10 : decode cX9_in 10 = .ok (.iconst 1, 1) := by decide +kernel
theorem dX9_in_11 : decode cX9_in 11 = .ok (.goto 4, 3) := by decide +kernel
theorem dX9_in_14 : decode cX9_in 14 = .ok (.iconst 0, 1) := by decide +kernel
theorem dX9_in_15 : decode cX9_in 15 = .ok (.ireturn, 1) := by decide +kernel
theorem dX9_adds_0 : decode cX9_adds 0 = .ok (.aload_n 0, 1) := by decide +kernel
theorem dX9_adds_1 : decode cX9_adds 1 = .ok (.getfield 7, 3) := by decide +kernel
theorem dX9_adds_4 : decode cX9_adds 4 = .ok (.aload_n 0, 1) := by decide +kernel
theorem dX9_adds_5 : decode cX9_adds 5 = .ok (.getfield 62, 3) := by decide +kernel
theorem dX9_adds_8 : decode cX9_adds 8 = .ok (.iload_n 1, 1) := by decide +kernel
theorem dX9_adds_9 : decode cX9_adds 9 = .ok (.iastore, 1) := by decide +kernel
theorem dX9_adds_10 : decode cX9_adds 10 = .ok (.aload_n 0, 1) := by decide +kernel
theorem dX9_adds_11 : decode cX9_adds 11 = .ok (.dup, 1) := by decide +kernel
theorem dX9_adds_12 : decode cX9_adds 12 = .ok (.getfield 62, 3) := by decide +kernel
theorem dX9_adds_15 : decode cX9_adds 15 = .ok (.iconst 1, 1) := by decide +kernel
theorem dX9_adds_16 : decode cX9_adds 16 = .ok (.iadd, 1) := by decide +kernel
theorem dX9_adds_17 : decode cX9_adds 17 = .ok (.putfield 62, 3) := by decide +kernel
theorem dX9_adds_20 : decode cX9_adds 20 = .ok (.return_, 1) := by decide +kernel
set_option maxRecDepth 20000 in
theorem ggX9_feed_X9_in : GoodIn wsX9_feed wsX9_in := goodIn_r _ [6] (by decide +kernel) (by decide +kernel)
set_option maxRecDepth 20000 in
theorem gX9_feed_X9_in : GoodIn wsX9_feed (va_wsS RX9 65 yX9_in wsX9_in) := goodIn_app (goodIn_of _ (by decide +kernel)) ggX9_feed_X9_in
set_option maxRecDepth 20000 in
theorem ggX9_feed_X9_adds : GoodIn wsX9_feed wsX9_adds := goodIn_r _ [10, 11, 1, 12, 13, 14, 15, 16, 17, 18, 19, 20, 21, 22, 23, 24, 25, 26, 27, 28, 29, 30, 31, 32, 33] (by decide +kernel) (by decide +kernel)
set_option maxRecDepth 20000 in
theorem gX9_feed_X9_adds : GoodIn wsX9_feed (wsV RX9 69 RX9 yX9_adds wsX9_adds) := goodIn_app (goodIn_of _ (by decide +kernel)) ggX9_feed_X9_adds
theorem dX9_feed_0 : decode cX9_feed 0 = .ok (.aload_n 0, 1) := by decide +kernel
theorem dX9_feed_1 : decode cX9_feed 1 = .ok (.iload_n 1, 1) := by decide +kernel
theorem dX9_feed_2 : decode cX9_feed 2 = .ok (.bipush (-100), 2) := by decide +kernel
theorem dX9_feed_4 : decode cX9_feed 4 = .ok (.bipush 100, 2) := by decide +kernel
theorem dX9_feed_6 : decode cX9_feed 6 = .ok (.invokestatic 65, 3) := by decide +kernel
theorem dX9_feed_9 : decode cX9_feed 9 = .ok (.ifCond .ne 7, 3) := by decide +kernel
theorem dX9_feed_12 : decode cX9_feed 12 = .ok (.iconst 1, 1) := by decide +kernel
theorem dX9_feed_13 : decode cX9_feed 13 = .ok (.goto 18, 3) := by decide +kernel
theorem dX9_feed_16 : decode cX9_feed 16 = .ok (.aload_n 0, 1) := by decide +kernel
theorem dX9_feed_17 : decode cX9_feed 17 = .ok (.getfield 62, 3) := by decide +kernel
theorem dX9_feed_20 : decode cX9_feed 20 = .ok (.sipush 1024, 3) := by decide +kernel
theorem dX9_feed_23 : decode cX9_feed 23 = .ok (.if_icmp .ne 7, 3) := by decide +kernel
theorem dX9_feed_26 : decode cX9_feed 26 = .ok (.iconst 2, 1) := by decide +kernel
theorem dX9_feed_27 : decode cX9_feed 27 = .ok (.goto 4, 3) := by decide +kernel
theorem dX9_feed_30 : decode cX9_feed 30 = .ok (.iconst 0, 1) := by decide +kernel
theorem dX9_feed_31 : decode cX9_feed 31 = .ok (.putfield 59, 3) := by decide +kernel
theorem dX9_feed_34 : decode cX9_feed 34 = .ok (.aload_n 0, 1) := by decide +kernel
theorem dX9_feed_35 : decode cX9_feed 35 = .ok (.getfield 59, 3) := by decide +kernel
theorem dX9_feed_38 : decode cX9_feed 38 = .ok (.ifCond .le 5, 3) := by decide +kernel
theorem dX9_feed_41 : decode cX9_feed 41 = .ok (.iconst 0, 1) := by decide +kernel
theorem dX9_feed_42 : decode cX9_feed 42 = .ok (.ireturn, 1) := by decide +kernel
theorem dX9_feed_43 : decode cX9_feed 43 = .ok (.aload_n 0, 1) := by decide +kernel
theorem dX9_feed_44 : decode cX9_feed 44 = .ok (.iload_n 1, 1) := by decide +kernel
theorem dX9_feed_45 : decode cX9_feed 45 = .ok (.invokevirtual 69, 3) := by decide +kernel
theorem dX9_feed_48 : decode cX9_feed 48 = .ok (.aload_n 0, 1) := by decide +kernel
theorem dX9_feed_49 : decode cX9_feed 49 = .ok (.getfield 62, 3) := by decide +kernel
theorem dX9_feed_52 : decode cX9_feed 52 = .ok (.ireturn, 1) := by decide +kernel
theorem dX9_wave_0 : decode cX9_wave 0 = .ok (.iload_n 3, 1) := by decide +kernel
theorem dX9_wave_1 : decode cX9_wave 1 = .ok (.iload_n 1, 1) := by decide +kernel
theorem dX9_wave_2 : decode cX9_wave 2 = .ok (.irem, 1) := by decide +kernel
theorem dX9_wave_3 : decode cX9_wave 3 = .ok (.istore 4, 2) := by decide +kernel
theorem dX9_wave_5 : decode cX9_wave 5 = .ok (.iload_n 0, 1) := by decide +kernel
theorem dX9_wave_6 : decode cX9_wave 6 = .ok (.iconst 2, 1) := by decide +kernel
theorem dX9_wave_7 : decode cX9_wave 7 = .ok (.if_icmp .ne 18, 3) := by decide +kernel
theorem dX9_wave_10 : decode cX9_wave 10 = .ok (.iconst 2, 1) := by decide +kernel
theorem dX9_wave_11 : decode cX9_wave 11 = .ok (.iload 4, 2) := by decide +kernel
theorem dX9_wave_13 : decode cX9_wave 13 = .ok (.imul, 1) := by decide +kernel
theorem dX9_wave_14 : decode cX9_wave 14 = .ok (.iload_n 1, 1) := by decide +kernel
theorem dX9_wave_15 : decode cX9_wave 15 = .ok (.if_icmp .ge 7, 3) := by decide +kernel
theorem dX9_wave_18 : decode cX9_wave 18 = .ok (.iload_n 2, 1) := by decide +kernel
theorem dX9_wave_19 : decode cX9_wave 19 = .ok (.goto 5, 3) := by decide +kernel
theorem dX9_wave_22 : decode cX9_wave 22 = .ok (.iload_n 2, 1) := by decide +kernel
theorem dX9_wave_23 : decode cX9_wave 23 = .ok (.ineg, 1) := by decide +kernel
theorem dX9_wave_24 : decode cX9_wave 24 = .ok (.ireturn, 1) := by decide +kernel
theorem dX9_wave_25 : decode cX9_wave 25 = .ok (.iload_n 0, 1) := by decide +kernel
theorem dX9_wave_26 : decode cX9_wave 26 = .ok (.ifCond .ne 8, 3) := by decide +kernel
theorem dX9_wave_29 : decode cX9_wave 29 = .ok (.iload 4, 2) := by decide +kernel
theorem dX9_wave_31 : decode cX9_wave 31 = .ok (.goto 26, 3) := by decide +kernel
theorem dX9_wave_34 : decode cX9_wave 34 = .ok (.iconst 2, 1) := by decide +kernel
theorem dX9_wave_35 : decode cX9_wave 35 = .ok (.iload 4, 2) := by decide +kernel
theorem dX9_wave_37 : decode cX9_wave 37 = .ok (.imul, 1) := by decide +kernel
theorem dX9_wave_38 : decode cX9_wave 38 = .ok (.iload_n 1, 1) := by decide +kernel
theorem dX9_wave_39 : decode cX9_wave 39 = .ok (.if_icmp .gt 10, 3) := by decide +kernel
theorem dX9_wave_42 : decode cX9_wave 42 = .ok (.iconst 2, 1) := by decide +kernel
theorem dX9_wave_43 : decode cX9_wave 43 = .ok (.iload 4, 2) := by decide +kernel
theorem dX9_wave_45 : decode cX9_wave 45 = .ok (.imul, 1) := by decide +kernel
theorem dX9_wave_46 : decode cX9_wave 46 = .ok (.goto 11, 3) := by decide +kernel
theorem dX9_wave_49 : decode cX9_wave 49 = .ok (.iconst 2, 1) := by decide +kernel
theorem dX9_wave_50 : decode cX9_wave 50 = .ok (.iload_n 1, 1) := by decide +kernel
theorem dX9_wave_51 : decode cX9_wave 51 = .ok (.imul, 1) := by decide +kernel
theorem dX9_wave_52 : decode cX9_wave 52 = .ok (.iconst 2, 1) := by decide +kernel
theorem dX9_wave_53 : decode cX9_wave 53 = .ok (.iload 4, 2) := by decide +kernel
theorem dX9_wave_55 : decode cX9_wave 55 = .ok (.imul, 1) := by decide +kernel
theorem dX9_wave_56 : decode cX9_wave 56 = .ok (.isub, 1) := by decide +kernel
theorem dX9_wave_57 : decode cX9_wave 57 = .ok (.istore 5, 2) := by decide +kernel
theorem dX9_wave_59 : decode cX9_wave 59 = .ok (.iconst 2, 1) := by decide +kernel
theorem dX9_wave_60 : decode cX9_wave 60 = .ok (.iload_n 2, 1) := by decide +kernel
theorem dX9_wave_61 : decode cX9_wave 61 = .ok (.imul, 1) := by decide +kernel
theorem dX9_wave_62 : decode cX9_wave 62 = .ok (.iload 5, 2) := by decide +kernel
theorem dX9_wave_64 : decode cX9_wave 64 = .ok (.imul, 1) := by decide +kernel
theorem dX9_wave_65 : decode cX9_wave 65 = .ok (.iload_n 1, 1) := by decide +kernel
theorem dX9_wave_66 : decode cX9_wave 66 = .ok (.idiv, 1) := by decide +kernel
theorem dX9_wave_67 : decode cX9_wave 67 = .ok (.iload_n 2, 1) := by decide +kernel
theorem dX9_wave_68 : decode cX9_wave 68 = .ok (.isub, 1) := by decide +kernel
theorem dX9_wave_69 : decode cX9_wave 69 = .ok (.ireturn, 1) := by decide +kernel
set_option maxRecDepth 20000 in
theorem ggX9_feedWave_X9_in : GoodIn wsX9_feedWave wsX9_in := goodIn_r _ [6] (by decide +kernel) (by decide +kernel)
set_option maxRecDepth 20000 in
theorem gX9_feedWave_X9_in : GoodIn wsX9_feedWave (va_wsS RX9 65 yX9_in wsX9_in) := goodIn_app (goodIn_of _ (by decide +kernel)) ggX9_feedWave_X9_in
set_option maxRecDepth 20000 in
theorem ggX9_feedWave_X9_wave : GoodIn wsX9_feedWave wsX9_wave := goodIn_r _ [9] (by decide +kernel) (by decide +kernel)
set_option maxRecDepth 20000 in
theorem gX9_feedWave_X9_wave : GoodIn wsX9_feedWave (va_wsS RX9 73 yX9_wave wsX9_wave) := goodIn_app (goodIn_of _ (by decide +kernel)) ggX9_feedWave_X9_wave
set_option maxRecDepth 20000 in
theorem ggX9_feedWave_X9_adds : GoodIn wsX9_feedWave wsX9_adds := goodIn_r _ [13, 14, 1, 15, 16, 17, 18, 19, 20, 21, 22, 23, 24, 25, 26, 27, 28, 29, 30, 31, 32, 33, 34, 35, 36] (by decide +kernel) (by decide +kernel)
set_option maxRecDepth 20000 in
theorem gX9_feedWave_X9_adds : GoodIn wsX9_feedWave (wsV RX9 69 RX9 yX9_adds wsX9_adds) := goodIn_app (goodIn_of _ (by decide +kernel)) ggX9_feedWave_X9_adds
theorem dX9_feedWave_0 : decode cX9_feedWave 0 = .ok (.iload_n 1, 1) := by decide +kernel
theorem dX9_feedWave_1 : decode cX9_feedWave 1 = .ok (.iconst 0, 1) := by decide +kernel
theorem dX9_feedWave_2 : decode cX9_feedWave 2 = .ok (.iconst 2, 1) := by decide +kernel
theorem dX9_feedWave_3 : decode cX9_feedWave 3 = .ok (.invokestatic 65, 3) := by decide +kernel
theorem dX9_feedWave_6 : decode cX9_feedWave 6 = .ok (.ifCond .eq 39, 3) := by decide +kernel
theorem dX9_feedWave_9 : decode cX9_feedWave 9 = .ok (.iload_n 2, 1) := by decide +kernel
theorem dX9_feedWave_10 : decode cX9_feedWave 10 = .ok (.iconst 2, 1) := by decide +kernel
theorem dX9_feedWave_11 : decode cX9_feedWave 11 = .ok (.bipush 64, 2) := by decide +kernel
theorem dX9_feedWave_13 : decode cX9_feedWave 13 = .ok (.invokestatic 65, 3) := by decide +kernel
theorem dX9_feedWave_16 : decode cX9_feedWave 16 = .ok (.ifCond .eq 29, 3) := by decide +kernel
theorem dX9_feedWave_19 : decode cX9_feedWave 19 = .ok (.iload_n 3, 1) := by decide +kernel
theorem dX9_feedWave_20 : decode cX9_feedWave 20 = .ok (.iconst 0, 1) := by decide +kernel
theorem dX9_feedWave_21 : decode cX9_feedWave 21 = .ok (.bipush 100, 2) := by decide +kernel
theorem dX9_feedWave_23 : decode cX9_feedWave 23 = .ok (.invokestatic 65, 3) := by decide +kernel
theorem dX9_feedWave_26 : decode cX9_feedWave 26 = .ok (.ifCond .eq 19, 3) := by decide +kernel
theorem dX9_feedWave_29 : decode cX9_feedWave 29 = .ok (.iload 4, 2) := by decide +kernel
theorem dX9_feedWave_31 : decode cX9_feedWave 31 = .ok (.iconst 1, 1) := by decide +kernel
theorem dX9_feedWave_32 : decode cX9_feedWave 32 = .ok (.sipush 400, 3) := by decide +kernel
theorem dX9_feedWave_35 : decode cX9_feedWave 35 = .ok (.invokestatic 65, 3) := by decide +kernel
theorem dX9_feedWave_38 : decode cX9_feedWave 38 = .ok (.ifCond .eq 7, 3) := by decide +kernel
theorem dX9_feedWave_41 : decode cX9_feedWave 41 = .ok (.iconst 1, 1) := by decide +kernel
theorem dX9_feedWave_42 : decode cX9_feedWave 42 = .ok (.goto 4, 3) := by decide +kernel
theorem dX9_feedWave_45 : decode cX9_feedWave 45 = .ok (.iconst 0, 1) := by decide +kernel
theorem dX9_feedWave_46 : decode cX9_feedWave 46 = .ok (.istore 5, 2) := by decide +kernel
theorem dX9_feedWave_48 : decode cX9_feedWave 48 = .ok (.aload_n 0, 1) := by decide +kernel
theorem dX9_feedWave_49 : decode cX9_feedWave 49 = .ok (.iload 5, 2) := by decide +kernel
theorem dX9_feedWave_51 : decode cX9_feedWave 51 = .ok (.ifCond .ne 7, 3) := by decide +kernel
theorem dX9_feedWave_54 : decode cX9_feedWave 54 = .ok (.iconst 1, 1) := by decide +kernel
theorem dX9_feedWave_55 : decode cX9_feedWave 55 = .ok (.goto 21, 3) := by decide +kernel
theorem dX9_feedWave_58 : decode cX9_feedWave 58 = .ok (.aload_n 0, 1) := by decide +kernel
theorem dX9_feedWave_59 : decode cX9_feedWave 59 = .ok (.getfield 62, 3) := by decide +kernel
theorem dX9_feedWave_62 : decode cX9_feedWave 62 = .ok (.iload 4, 2) := by decide +kernel
theorem dX9_feedWave_64 : decode cX9_feedWave 64 = .ok (.iadd, 1) := by decide +kernel
theorem dX9_feedWave_65 : decode cX9_feedWave 65 = .ok (.sipush 1024, 3) := by decide +kernel
theorem dX9_feedWave_68 : decode cX9_feedWave 68 = .ok (.if_icmp .le 7, 3) := by decide +kernel
theorem dX9_feedWave_71 : decode cX9_feedWave 71 = .ok (.iconst 2, 1) := by decide +kernel
theorem dX9_feedWave_72 : decode cX9_feedWave 72 = .ok (.goto 4, 3) := by decide +kernel
theorem dX9_feedWave_75 : decode cX9_feedWave 75 = .ok (.iconst 0, 1) := by decide +kernel
theorem dX9_feedWave_76 : decode cX9_feedWave 76 = .ok (.putfield 59, 3) := by decide +kernel
theorem dX9_feedWave_79 : decode cX9_feedWave 79 = .ok (.iconst 0, 1) := by decide +kernel
theorem dX9_feedWave_80 : decode cX9_feedWave 80 = .ok (.istore 6, 2) := by decide +kernel
theorem dX9_feedWave_82 : decode cX9_feedWave 82 = .ok (.iload 6, 2) := by decide +kernel
theorem dX9_feedWave_84 : decode cX9_feedWave 84 = .ok (.iload 4, 2) := by decide +kernel
theorem dX9_feedWave_86 : decode cX9_feedWave 86 = .ok (.if_icmp .ge 28, 3) := by decide +kernel
theorem dX9_feedWave_89 : decode cX9_feedWave 89 = .ok (.aload_n 0, 1) := by decide +kernel
theorem dX9_feedWave_90 : decode cX9_feedWave 90 = .ok (.getfield 59, 3) := by decide +kernel
theorem dX9_feedWave_93 : decode cX9_feedWave 93 = .ok (.ifCond .ne 21, 3) := by decide +kernel
theorem dX9_feedWave_96 : decode cX9_feedWave 96 = .ok (.aload_n 0, 1) := by decide +kernel
theorem dX9_feedWave_97 : decode cX9_feedWave 97 = .ok (.iload_n 1, 1) := by decide +kernel
theorem dX9_feedWave_98 : decode cX9_feedWave 98 = .ok (.iload_n 2, 1) := by decide +kernel
theorem dX9_feedWave_99 : decode cX9_feedWave 99 = .ok (.iload_n 3, 1) := by decide +kernel
theorem dX9_feedWave_100 : decode cX9_feedWave 100 = .ok (.iload 6, 2) := by decide +kernel
theorem dX9_feedWave_102 : decode cX9_feedWave 102 = .ok (.invokestatic 73, 3) := by decide +kernel
theorem dX9_feedWave_105 : decode cX9_feedWave 105 = .ok (.invokevirtual 69, 3) := by decide +kernel
theorem dX9_feedWave_108 : decode cX9_feedWave 108 = .ok (.iinc 6 1, 3) := by decide +kernel
theorem dX9_feedWave_111 : decode cX9_feedWave 111 = .ok (.goto (-29), 3) := by decide +kernel
theorem dX9_feedWave_114 : decode cX9_feedWave 114 = .ok (.aload_n 0, 1) := by decide +kernel
theorem dX9_feedWave_115 : decode cX9_feedWave 115 = .ok (.getfield 59, 3) := by decide +kernel
theorem dX9_feedWave_118 : decode cX9_feedWave 118 = .ok (.ifCond .le 7, 3) := by decide +kernel
theorem dX9_feedWave_121 : decode cX9_feedWave 121 = .ok (.iconst 0, 1) := by decide +kernel
theorem dX9_feedWave_122 : decode cX9_feedWave 122 = .ok (.goto 7, 3) := by decide +kernel
theorem dX9_feedWave_125 : decode cX9_feedWave 125 = .ok (.aload_n 0, 1) := by decide +kernel
theorem dX9_feedWave_126 : decode cX9_feedWave 126 = .ok (.getfield 62, 3) := by decide +kernel
theorem dX9_feedWave_129 : decode cX9_feedWave 129 = .ok (.ireturn, 1) := by decide +kernel
set_option maxRecDepth 20000 in
theorem ggX9_feedNoise_X9_in : GoodIn wsX9_feedNoise wsX9_in := goodIn_r _ [7] (by decide +kernel) (by decide +kernel)
set_option maxRecDepth 20000 in
theorem gX9_feedNoise_X9_in : GoodIn wsX9_feedNoise (va_wsS RX9 65 yX9_in wsX9_in) := goodIn_app (goodIn_of _ (by decide +kernel)) ggX9_feedNoise_X9_in
set_option maxRecDepth 20000 in
theorem ggX9_feedNoise_X9_adds : GoodIn wsX9_feedNoise wsX9_adds := goodIn_r _ [11, 12, 1, 13, 14, 15, 16, 17, 18, 19, 20, 21, 22, 23, 24, 25, 26, 27, 28, 29, 30, 31, 32, 33, 34] (by decide +kernel) (by decide +kernel)
set_option maxRecDepth 20000 in
theorem gX9_feedNoise_X9_adds : GoodIn wsX9_feedNoise (wsV RX9 69 RX9 yX9_adds wsX9_adds) := goodIn_app (goodIn_of _ (by decide +kernel)) ggX9_feedNoise_X9_adds
theorem dX9_feedNoise_0 : decode cX9_feedNoise 0 = .ok (.aload_n 0, 1) := by decide +kernel
theorem dX9_feedNoise_1 : decode cX9_feedNoise 1 = .ok (.iload_n 2, 1) := by decide +kernel
theorem dX9_feedNoise_2 : decode cX9_feedNoise 2 = .ok (.iconst 0, 1) := by decide +kernel
theorem dX9_feedNoise_3 : decode cX9_feedNoise 3 = .ok (.bipush 100, 2) := by decide +kernel
theorem dX9_feedNoise_5 : decode cX9_feedNoise 5 = .ok (.invokestatic 65, 3) := by decide +kernel
theorem dX9_feedNoise_8 : decode cX9_feedNoise 8 = .ok (.ifCond .eq 14, 3) := by decide +kernel
theorem dX9_feedNoise_11 : decode cX9_feedNoise 11 = .ok (.iload_n 3, 1) := by decide +kernel
theorem dX9_feedNoise_12 : decode cX9_feedNoise 12 = .ok (.iconst 1, 1) := by decide +kernel
theorem dX9_feedNoise_13 : decode cX9_feedNoise 13 = .ok (.sipush 400, 3) := by decide +kernel
theorem dX9_feedNoise_16 : decode cX9_feedNoise 16 = .ok (.invokestatic 65, 3) := by decide +kernel
theorem dX9_feedNoise_19 : decode cX9_feedNoise 19 = .ok (.ifCond .ne 7, 3) := by decide +kernel
theorem dX9_feedNoise_22 : decode cX9_feedNoise 22 = .ok (.iconst 1, 1) := by decide +kernel
theorem dX9_feedNoise_23 : decode cX9_feedNoise 23 = .ok (.goto 20, 3) := by decide +kernel
theorem dX9_feedNoise_26 : decode cX9_feedNoise 26 = .ok (.aload_n 0, 1) := by decide +kernel
theorem dX9_feedNoise_27 : decode cX9_feedNoise 27 = .ok (.getfield 62, 3) := by decide +kernel
theorem dX9_feedNoise_30 : decode cX9_feedNoise 30 = .ok (.iload_n 3, 1) := by decide +kernel
theorem dX9_feedNoise_31 : decode cX9_feedNoise 31 = .ok (.iadd, 1) := by decide +kernel
theorem dX9_feedNoise_32 : decode cX9_feedNoise 32 = .ok (.sipush 1024, 3) := by decide +kernel
theorem dX9_feedNoise_35 : decode cX9_feedNoise 35 = .ok (.if_icmp .le 7, 3) := by decide +kernel
theorem dX9_feedNoise_38 : decode cX9_feedNoise 38 = .ok (.iconst 2, 1) := by decide +kernel
theorem dX9_feedNoise_39 : decode cX9_feedNoise 39 = .ok (.goto 4, 3) := by decide +kernel
theorem dX9_feedNoise_42 : decode cX9_feedNoise 42 = .ok (.iconst 0, 1) := by decide +kernel
theorem dX9_feedNoise_43 : decode cX9_feedNoise 43 = .ok (.putfield 59, 3) := by decide +kernel
theorem dX9_feedNoise_46 : decode cX9_feedNoise 46 = .ok (.iload_n 1, 1) := by decide +kernel
theorem dX9_feedNoise_47 : decode cX9_feedNoise 47 = .ok (.istore 4, 2) := by decide +kernel
theorem dX9_feedNoise_49 : decode cX9_feedNoise 49 = .ok (.iconst 0, 1) := by decide +kernel
theorem dX9_feedNoise_50 : decode cX9_feedNoise 50 = .ok (.istore 5, 2) := by decide +kernel
theorem dX9_feedNoise_52 : decode cX9_feedNoise 52 = .ok (.iload 5, 2) := by decide +kernel
theorem dX9_feedNoise_54 : decode cX9_feedNoise 54 = .ok (.iload_n 3, 1) := by decide +kernel
theorem dX9_feedNoise_55 : decode cX9_feedNoise 55 = .ok (.if_icmp .ge 44, 3) := by decide +kernel
theorem dX9_feedNoise_58 : decode cX9_feedNoise 58 = .ok (.aload_n 0, 1) := by decide +kernel
theorem dX9_feedNoise_59 : decode cX9_feedNoise 59 = .ok (.getfield 59, 3) := by decide +kernel
theorem dX9_feedNoise_62 : decode cX9_feedNoise 62 = .ok (.ifCond .ne 37, 3) := by decide +kernel
theorem dX9_feedNoise_65 : decode cX9_feedNoise 65 = .ok (.iload 4, 2) := by decide +kernel
theorem dX9_feedNoise_67 : decode cX9_feedNoise 67 = .ok (.ldc 77, 2) := by decide +kernel
theorem dX9_feedNoise_69 : decode cX9_feedNoise 69 = .ok (.imul, 1) := by decide +kernel
theorem dX9_feedNoise_70 : decode cX9_feedNoise 70 = .ok (.sipush 12345, 3) := by decide +kernel
theorem dX9_feedNoise_73 : decode cX9_feedNoise 73 = .ok (.iadd, 1) := by decide +kernel
theorem dX9_feedNoise_74 : decode cX9_feedNoise 74 = .ok (.istore 4, 2) := by decide +kernel
theorem dX9_feedNoise_76 : decode cX9_feedNoise 76 = .ok (.aload_n 0, 1) := by decide +kernel
theorem dX9_feedNoise_77 : decode cX9_feedNoise 77 = .ok (.iload 4, 2) := by decide +kernel
theorem dX9_feedNoise_79 : decode cX9_feedNoise 79 = .ok (.bipush 16, 2) := by decide +kernel
theorem dX9_feedNoise_81 : decode cX9_feedNoise 81 = .ok (.iushr, 1) := by decide +kernel
theorem dX9_feedNoise_82 : decode cX9_feedNoise 82 = .ok (.iconst 2, 1) := by decide +kernel
theorem dX9_feedNoise_83 : decode cX9_feedNoise 83 = .ok (.iload_n 2, 1) := by decide +kernel
theorem dX9_feedNoise_84 : decode cX9_feedNoise 84 = .ok (.imul, 1) := by decide +kernel
theorem dX9_feedNoise_85 : decode cX9_feedNoise 85 = .ok (.iconst 1, 1) := by decide +kernel
theorem dX9_feedNoise_86 : decode cX9_feedNoise 86 = .ok (.iadd, 1) := by decide +kernel
theorem dX9_feedNoise_87 : decode cX9_feedNoise 87 = .ok (.irem, 1) := by decide +kernel
theorem dX9_feedNoise_88 : decode cX9_feedNoise 88 = .ok (.iload_n 2, 1) := by decide +kernel
theorem dX9_feedNoise_89 : decode cX9_feedNoise 89 = .ok (.isub, 1) := by decide +kernel
theorem dX9_feedNoise_90 : decode cX9_feedNoise 90 = .ok (.invokevirtual 69, 3) := by decide +kernel
theorem dX9_feedNoise_93 : decode cX9_feedNoise 93 = .ok (.iinc 5 1, 3) := by decide +kernel
theorem dX9_feedNoise_96 : decode cX9_feedNoise 96 = .ok (.goto (-44), 3) := by decide +kernel
theorem dX9_feedNoise_99 : decode cX9_feedNoise 99 = .ok (.aload_n 0, 1) := by decide +kernel
theorem dX9_feedNoise_100 : decode cX9_feedNoise 100 = .ok (.getfield 59, 3) := by decide +kernel
theorem dX9_feedNoise_103 : decode cX9_feedNoise 103 = .ok (.ifCond .le 7, 3) := by decide +kernel
theorem dX9_feedNoise_106 : decode cX9_feedNoise 106 = .ok (.iconst 0, 1) := by decide +kernel
theorem dX9_feedNoise_107 : decode cX9_feedNoise 107 = .ok (.goto 7, 3) := by decide +kernel
theorem dX9_feedNoise_110 : decode cX9_feedNoise 110 = .ok (.aload_n 0, 1) := by decide +kernel
theorem dX9_feedNoise_111 : decode cX9_feedNoise 111 = .ok (.getfield 62, 3) := by decide +kernel
theorem dX9_feedNoise_114 : decode cX9_feedNoise 114 = .ok (.ireturn, 1) := by decide +kernel
theorem dX9_clear_0 : decode cX9_clear 0 = .ok (.aload_n 0, 1) := by decide +kernel
theorem dX9_clear_1 : decode cX9_clear 1 = .ok (.iconst 0, 1) := by decide +kernel
theorem dX9_clear_2 : decode cX9_clear 2 = .ok (.putfield 59, 3) := by decide +kernel
theorem dX9_clear_5 : decode cX9_clear 5 = .ok (.aload_n 0, 1) := by decide +kernel
theorem dX9_clear_6 : decode cX9_clear 6 = .ok (.getfield 62, 3) := by decide +kernel
theorem dX9_clear_9 : decode cX9_clear 9 = .ok (.istore_n 1, 1) := by decide +kernel
theorem dX9_clear_10 : decode cX9_clear 10 = .ok (.aload_n 0, 1) := by decide +kernel
theorem dX9_clear_11 : decode cX9_clear 11 = .ok (.iconst 0, 1) := by decide +kernel
theorem dX9_clear_12 : decode cX9_clear 12 = .ok (.putfield 62, 3) := by decide +kernel
theorem dX9_clear_15 : decode cX9_clear 15 = .ok (.iload_n 1, 1) := by decide +kernel
theorem dX9_clear_16 : decode cX9_clear 16 = .ok (.ireturn, 1) := by decide +kernel
set_option maxRecDepth 20000 in
theorem ggX9_setThreshold_X9_in : GoodIn wsX9_setThreshold wsX9_in := goodIn_r _ [6] (by decide +kernel) (by decide +kernel)
set_option maxRecDepth 20000 in
theorem gX9_setThreshold_X9_in : GoodIn wsX9_setThreshold (va_wsS RX9 65 yX9_in wsX9_in) := goodIn_app (goodIn_of _ (by decide +kernel)) ggX9_setThreshold_X9_in
theorem dX9_setThreshold_0 : decode cX9_setThreshold 0 = .ok (.aload_n 0, 1) := by decide +kernel
theorem dX9_setThreshold_1 : decode cX9_setThreshold 1 = .ok (.iload_n 1, 1) := by decide +kernel
theorem dX9_setThreshold_2 : decode cX9_setThreshold 2 = .ok (.iconst 1, 1) := by decide +kernel
theorem dX9_setThreshold_3 : decode cX9_setThreshold 3 = .ok (.bipush 100, 2) := by decide +kernel
theorem dX9_setThreshold_5 : decode cX9_setThreshold 5 = .ok (.invokestatic 65, 3) := by decide +kernel
theorem dX9_setThreshold_8 : decode cX9_setThreshold 8 = .ok (.ifCond .eq 7, 3) := by decide +kernel
theorem dX9_setThreshold_11 : decode cX9_setThreshold 11 = .ok (.iconst 0, 1) := by decide +kernel
theorem dX9_setThreshold_12 : decode cX9_setThreshold 12 = .ok (.goto 4, 3) := by decide +kernel
theorem dX9_setThreshold_15 : decode cX9_setThreshold 15 = .ok (.iconst 1, 1) := by decide +kernel
theorem dX9_setThreshold_16 : decode cX9_setThreshold 16 = .ok (.putfield 59, 3) := by decide +kernel
theorem dX9_setThreshold_19 : decode cX9_setThreshold 19 = .ok (.aload_n 0, 1) := by decide +kernel
theorem dX9_setThreshold_20 : decode cX9_setThreshold 20 = .ok (.getfield 59, 3) := by decide +kernel
theorem dX9_setThreshold_23 : decode cX9_setThreshold 23 = .ok (.ifCond .le 5, 3) := by decide +kernel
theorem dX9_setThreshold_26 : decode cX9_setThreshold 26 = .ok (.iconst 0, 1) := by decide +kernel
theorem dX9_setThreshold_27 : decode cX9_setThreshold 27 = .ok (.ireturn, 1) := by decide +kernel
theorem dX9_setThreshold_28 : decode cX9_setThreshold 28 = .ok (.aload_n 0, 1) := by decide +kernel
theorem dX9_setThreshold_29 : decode cX9_setThreshold 29 = .ok (.getfield 13, 3) := by decide +kernel
theorem dX9_setThreshold_32 : decode cX9_setThreshold 32 = .ok (.istore_n 2, 1) := by decide +kernel
theorem dX9_setThreshold_33 : decode cX9_setThreshold 33 = .ok (.aload_n 0, 1) := by decide +kernel
theorem dX9_setThreshold_34 : decode cX9_setThreshold 34 = .ok (.iload_n 1, 1) := by decide +kernel
theorem dX9_setThreshold_35 : decode cX9_setThreshold 35 = .ok (.putfield 13, 3) := by decide +kernel
theorem dX9_setThreshold_38 : decode cX9_setThreshold 38 = .ok (.iload_n 2, 1) := by decide +kernel
theorem dX9_setThreshold_39 : decode cX9_setThreshold 39 = .ok (.ireturn, 1) := by decide +kernel
set_option maxRecDepth 20000 in
theorem ggX9_setCosts_X9_in : GoodIn wsX9_setCosts wsX9_in := goodIn_r _ [8] (by decide +kernel) (by decide +kernel)
set_option maxRecDepth 20000 in
theorem gX9_setCosts_X9_in : GoodIn wsX9_setCosts (va_wsS RX9 65 yX9_in wsX9_in) := goodIn_app (goodIn_of _ (by decide +kernel)) ggX9_setCosts_X9_in
theorem dX9_setCosts_0 : decode cX9_setCosts 0 = .ok (.aload_n 0, 1) := by decide +kernel
theorem dX9_setCosts_1 : decode cX9_setCosts 1 = .ok (.iload_n 1, 1) := by decide +kernel
theorem dX9_setCosts_2 : decode cX9_setCosts 2 = .ok (.iconst 0, 1) := by decide +kernel
theorem dX9_setCosts_3 : decode cX9_setCosts 3 = .ok (.sipush 1000, 3) := by decide +kernel
theorem dX9_setCosts_6 : decode cX9_setCosts 6 = .ok (.invokestatic 65, 3) := by decide +kernel
theorem dX9_setCosts_9 : decode cX9_setCosts 9 = .ok (.ifCond .eq 28, 3) := by decide +kernel
theorem dX9_setCosts_12 : decode cX9_setCosts 12 = .ok (.iload_n 2, 1) := by decide +kernel
theorem dX9_setCosts_13 : decode cX9_setCosts 13 = .ok (.iconst 0, 1) := by decide +kernel
theorem dX9_setCosts_14 : decode cX9_setCosts 14 = .ok (.bipush 100, 2) := by decide +kernel
theorem dX9_setCosts_16 : decode cX9_setCosts 16 = .ok (.invokestatic 65, 3) := by decide +kernel
theorem dX9_setCosts_19 : decode cX9_setCosts 19 = .ok (.ifCond .eq 18, 3) := by decide +kernel
theorem dX9_setCosts_22 : decode cX9_setCosts 22 = .ok (.iload_n 3, 1) := by decide +kernel
theorem dX9_setCosts_23 : decode cX9_setCosts 23 = .ok (.iconst 0, 1) := by decide +kernel
theorem dX9_setCosts_24 : decode cX9_setCosts 24 = .ok (.sipush 1000, 3) := by decide +kernel
theorem dX9_setCosts_27 : decode cX9_setCosts 27 = .ok (.invokestatic 65, 3) := by decide +kernel
theorem dX9_setCosts_30 : decode cX9_setCosts 30 = .ok (.ifCond .eq 7, 3) := by decide +kernel
theorem dX9_setCosts_33 : decode cX9_setCosts 33 = .ok (.iconst 0, 1) := by decide +kernel
theorem dX9_setCosts_34 : decode cX9_setCosts 34 = .ok (.goto 4, 3) := by decide +kernel
theorem dX9_setCosts_37 : decode cX9_setCosts 37 = .ok (.iconst 1, 1) := by decide +kernel
theorem dX9_setCosts_38 : decode cX9_setCosts 38 = .ok (.putfield 59, 3) := by decide +kernel
theorem dX9_setCosts_41 : decode cX9_setCosts 41 = .ok (.aload_n 0, 1) := by decide +kernel
theorem dX9_setCosts_42 : decode cX9_setCosts 42 = .ok (.getfield 59, 3) := by decide +kernel
theorem dX9_setCosts_45 : decode cX9_setCosts 45 = .ok (.ifCond .ne 18, 3) := by decide +kernel
theorem dX9_setCosts_48 : decode cX9_setCosts 48 = .ok (.aload_n 0, 1) := by decide +kernel
theorem dX9_setCosts_49 : decode cX9_setCosts 49 = .ok (.iload_n 1, 1) := by decide +kernel
theorem dX9_setCosts_50 : decode cX9_setCosts 50 = .ok (.putfield 17, 3) := by decide +kernel
theorem dX9_setCosts_53 : decode cX9_setCosts 53 = .ok (.aload_n 0, 1) := by decide +kernel
theorem dX9_setCosts_54 : decode cX9_setCosts 54 = .ok (.iload_n 2, 1) := by decide +kernel
theorem dX9_setCosts_55 : decode cX9_setCosts 55 = .ok (.putfield 20, 3) := by decide +kernel
theorem dX9_setCosts_58 : decode cX9_setCosts 58 = .ok (.aload_n 0, 1) := by decide +kernel
theorem dX9_setCosts_59 : decode cX9_setCosts 59 = .ok (.iload_n 3, 1) := by decide +kernel
theorem dX9_setCosts_60 : decode cX9_setCosts 60 = .ok (.putfield 23, 3) := by decide +kernel
theorem dX9_setCosts_63 : decode cX9_setCosts 63 = .ok (.return_, 1) := by decide +kernel
set_option maxRecDepth 20000 in
theorem ggX9_setTemperament_X9_in : GoodIn wsX9_setTemperament wsX9_in := goodIn_r _ [7] (by decide +kernel) (by decide +kernel)
set_option maxRecDepth 20000 in
theorem gX9_setTemperament_X9_in : GoodIn wsX9_setTemperament (va_wsS RX9 65 yX9_in wsX9_in) := goodIn_app (goodIn_of _ (by decide +kernel)) ggX9_setTemperament_X9_in
theorem dX9_setTemperament_0 : decode cX9_setTemperament 0 = .ok (.aload_n 0, 1) := by decide +kernel
theorem dX9_setTemperament_1 : decode cX9_setTemperament 1 = .ok (.iload_n 1, 1) := by decide +kernel
theorem dX9_setTemperament_2 : decode cX9_setTemperament 2 = .ok (.iconst 0, 1) := by decide +kernel
theorem dX9_setTemperament_3 : decode cX9_setTemperament 3 = .ok (.iconst 2, 1) := by decide +kernel
theorem dX9_setTemperament_4 : decode cX9_setTemperament 4 = .ok (.invokestatic 65, 3) := by decide +kernel
theorem dX9_setTemperament_7 : decode cX9_setTemperament 7 = .ok (.ifCond .eq 19, 3) := by decide +kernel
theorem dX9_setTemperament_10 : decode cX9_setTemperament 10 = .ok (.iload_n 2, 1) := by decide +kernel
theorem dX9_setTemperament_11 : decode cX9_setTemperament 11 = .ok (.bipush 64, 2) := by decide +kernel
theorem dX9_setTemperament_13 : decode cX9_setTemperament 13 = .ok (.sipush 8192, 3) := by decide +kernel
theorem dX9_setTemperament_16 : decode cX9_setTemperament 16 = .ok (.invokestatic 65, 3) := by decide +kernel
theorem dX9_setTemperament_19 : decode cX9_setTemperament 19 = .ok (.ifCond .eq 7, 3) := by decide +kernel
theorem dX9_setTemperament_22 : decode cX9_setTemperament 22 = .ok (.iconst 0, 1) := by decide +kernel
theorem dX9_setTemperament_23 : decode cX9_setTemperament 23 = .ok (.goto 4, 3) := by decide +kernel
theorem dX9_setTemperament_26 : decode cX9_setTemperament 26 = .ok (.iconst 1, 1) := by decide +kernel
theorem dX9_setTemperament_27 : decode cX9_setTemperament 27 = .ok (.putfield 59, 3) := by decide +kernel
theorem dX9_setTemperament_30 : decode cX9_setTemperament 30 = .ok (.aload_n 0, 1) := by decide +kernel
theorem dX9_setTemperament_31 : decode cX9_setTemperament 31 = .ok (.getfield 59, 3) := by decide +kernel
theorem dX9_setTemperament_34 : decode cX9_setTemperament 34 = .ok (.ifCond .ne 13, 3) := by decide +kernel
theorem dX9_setTemperament_37 : decode cX9_setTemperament 37 = .ok (.aload_n 0, 1) := by decide +kernel
theorem dX9_setTemperament_38 : decode cX9_setTemperament 38 = .ok (.iload_n 1, 1) := by decide +kernel
theorem dX9_setTemperament_39 : decode cX9_setTemperament 39 = .ok (.putfield 78, 3) := by decide +kernel
theorem dX9_setTemperament_42 : decode cX9_setTemperament 42 = .ok (.aload_n 0, 1) := by decide +kernel
theorem dX9_setTemperament_43 : decode cX9_setTemperament 43 = .ok (.iload_n 2, 1) := by decide +kernel
theorem dX9_setTemperament_44 : decode cX9_setTemperament 44 = .ok (.putfield 26, 3) := by decide +kernel
theorem dX9_setTemperament_47 : decode cX9_setTemperament 47 = .ok (.return_, 1) := by decide +kernel
theorem dX9_manyFrames_0 : decode cX9_manyFrames 0 = .ok (.aload_n 0, 1) := by decide +kernel
theorem dX9_manyFrames_1 : decode cX9_manyFrames 1 = .ok (.getfield 62, 3) := by decide +kernel
theorem dX9_manyFrames_4 : decode cX9_manyFrames 4 = .ok (.sipush 128, 3) := by decide +kernel
theorem dX9_manyFrames_7 : decode cX9_manyFrames 7 = .ok (.if_icmp .ge 7, 3) := by decide +kernel
theorem dX9_manyFrames_10 : decode cX9_manyFrames 10 = .ok (.iconst 0, 1) := by decide +kernel
theorem dX9_manyFrames_11 : decode cX9_manyFrames 11 = .ok (.goto 16, 3) := by decide +kernel
theorem dX9_manyFrames_14 : decode cX9_manyFrames 14 = .ok (.aload_n 0, 1) := by decide +kernel
theorem dX9_manyFrames_15 : decode cX9_manyFrames 15 = .ok (.getfield 62, 3) := by decide +kernel
theorem dX9_manyFrames_18 : decode cX9_manyFrames 18 = .ok (.sipush 128, 3) := by decide +kernel
theorem dX9_manyFrames_21 : decode cX9_manyFrames 21 = .ok (.isub, 1) := by decide +kernel
theorem dX9_manyFrames_22 : decode cX9_manyFrames 22 = .ok (.bipush 32, 2) := by decide +kernel
theorem dX9_manyFrames_24 : decode cX9_manyFrames 24 = .ok (.idiv, 1) := by decide +kernel
theorem dX9_manyFrames_25 : decode cX9_manyFrames 25 = .ok (.iconst 1, 1) := by decide +kernel
theorem dX9_manyFrames_26 : decode cX9_manyFrames 26 = .ok (.iadd, 1) := by decide +kernel
theorem dX9_manyFrames_27 : decode cX9_manyFrames 27 = .ok (.ireturn, 1) := by decide +kernel
set_option maxRecDepth 20000 in
theorem ggX9_isFrame_X9_manyFrames : GoodIn wsX9_isFrame wsX9_manyFrames := goodIn_r _ [5, 6, 10, 11, 12, 13, 14, 15, 16, 17, 18, 19, 20, 21, 22, 23, 24, 25, 26, 27, 28, 29, 30, 31] (by decide +kernel) (by decide +kernel)
set_option maxRecDepth 20000 in
theorem gX9_isFrame_X9_manyFrames : GoodIn wsX9_isFrame (wsV RX9 81 RX9 yX9_manyFrames wsX9_manyFrames) := goodIn_app (goodIn_of _ (by decide +kernel)) ggX9_isFrame_X9_manyFrames
set_option maxRecDepth 20000 in
theorem ggX9_isFrame_X9_in : GoodIn wsX9_isFrame wsX9_in := goodIn_r _ [9] (by decide +kernel) (by decide +kernel)
set_option maxRecDepth 20000 in
theorem gX9_isFrame_X9_in : GoodIn wsX9_isFrame (va_wsS RX9 65 yX9_in wsX9_in) := goodIn_app (goodIn_of _ (by decide +kernel)) ggX9_isFrame_X9_in
theorem dX9_isFrame_0 : decode cX9_isFrame 0 = .ok (.iload_n 1, 1) := by decide +kernel
theorem dX9_isFrame_1 : decode cX9_isFrame 1 = .ok (.iconst 0, 1) := by decide +kernel
theorem dX9_isFrame_2 : decode cX9_isFrame 2 = .ok (.aload_n 0, 1) := by decide +kernel
theorem dX9_isFrame_3 : decode cX9_isFrame 3 = .ok (.invokevirtual 81, 3) := by decide +kernel
theorem dX9_isFrame_6 : decode cX9_isFrame 6 = .ok (.iconst 1, 1) := by decide +kernel
theorem dX9_isFrame_7 : decode cX9_isFrame 7 = .ok (.isub, 1) := by decide +kernel
theorem dX9_isFrame_8 : decode cX9_isFrame 8 = .ok (.invokestatic 65, 3) := by decide +kernel
theorem dX9_isFrame_11 : decode cX9_isFrame 11 = .ok (.ireturn, 1) := by decide +kernel
theorem dX9_energyOf_0 : decode cX9_energyOf 0 = .ok (.iconst 0, 1) := by decide +kernel
theorem dX9_energyOf_1 : decode cX9_energyOf 1 = .ok (.istore_n 3, 1) := by decide +kernel
theorem dX9_energyOf_2 : decode cX9_energyOf 2 = .ok (.iconst 0, 1) := by decide +kernel
theorem dX9_energyOf_3 : decode cX9_energyOf 3 = .ok (.istore 4, 2) := by decide +kernel
theorem dX9_energyOf_5 : decode cX9_energyOf 5 = .ok (.iload 4, 2) := by decide +kernel
theorem dX9_energyOf_7 : decode cX9_energyOf 7 = .ok (.bipush 64, 2) := by decide +kernel
theorem dX9_energyOf_9 : decode cX9_energyOf 9 = .ok (.if_icmp .ge 33, 3) := by decide +kernel
theorem dX9_energyOf_12 : decode cX9_energyOf 12 = .ok (.aload_n 0, 1) := by decide +kernel
theorem dX9_energyOf_13 : decode cX9_energyOf 13 = .ok (.getfield 7, 3) := by decide +kernel
theorem dX9_energyOf_16 : decode cX9_energyOf 16 = .ok (.bipush 32, 2) := by decide +kernel
theorem dX9_energyOf_18 : decode cX9_energyOf 18 = .ok (.iload_n 1, 1) := by decide +kernel
theorem dX9_energyOf_19 : decode cX9_energyOf 19 = .ok (.imul, 1) := by decide +kernel
theorem dX9_energyOf_20 : decode cX9_energyOf 20 = .ok (.iload 4, 2) := by decide +kernel
theorem dX9_energyOf_22 : decode cX9_energyOf 22 = .ok (.iadd, 1) := by decide +kernel
theorem dX9_energyOf_23 : decode cX9_energyOf 23 = .ok (.iload_n 2, 1) := by decide +kernel
theorem dX9_energyOf_24 : decode cX9_energyOf 24 = .ok (.iadd, 1) := by decide +kernel
theorem dX9_energyOf_25 : decode cX9_energyOf 25 = .ok (.iaload, 1) := by decide +kernel
theorem dX9_energyOf_26 : decode cX9_energyOf 26 = .ok (.istore 5, 2) := by decide +kernel
theorem dX9_energyOf_28 : decode cX9_energyOf 28 = .ok (.iload_n 3, 1) := by decide +kernel
theorem dX9_energyOf_29 : decode cX9_energyOf 29 = .ok (.iload 5, 2) := by decide +kernel
theorem dX9_energyOf_31 : decode cX9_energyOf 31 = .ok (.iload 5, 2) := by decide +kernel
theorem dX9_energyOf_33 : decode cX9_energyOf 33 = .ok (.imul, 1) := by decide +kernel
theorem dX9_energyOf_34 : decode cX9_energyOf 34 = .ok (.iadd, 1) := by decide +kernel
theorem dX9_energyOf_35 : decode cX9_energyOf 35 = .ok (.istore_n 3, 1) := by decide +kernel
theorem dX9_energyOf_36 : decode cX9_energyOf 36 = .ok (.iinc 4 1, 3) := by decide +kernel
theorem dX9_energyOf_39 : decode cX9_energyOf 39 = .ok (.goto (-34), 3) := by decide +kernel
theorem dX9_energyOf_42 : decode cX9_energyOf 42 = .ok (.iload_n 3, 1) := by decide +kernel
theorem dX9_energyOf_43 : decode cX9_energyOf 43 = .ok (.ireturn, 1) := by decide +kernel
theorem dX9_correlation_0 : decode cX9_correlation 0 = .ok (.iconst 0, 1) := by decide +kernel
theorem dX9_correlation_1 : decode cX9_correlation 1 = .ok (.istore_n 3, 1) := by decide +kernel
theorem dX9_correlation_2 : decode cX9_correlation 2 = .ok (.iconst 0, 1) := by decide +kernel
theorem dX9_correlation_3 : decode cX9_correlation 3 = .ok (.istore 4, 2) := by decide +kernel
theorem dX9_correlation_5 : decode cX9_correlation 5 = .ok (.iload 4, 2) := by decide +kernel
theorem dX9_correlation_7 : decode cX9_correlation 7 = .ok (.bipush 64, 2) := by decide +kernel
theorem dX9_correlation_9 : decode cX9_correlation 9 = .ok (.if_icmp .ge 39, 3) := by decide +kernel
theorem dX9_correlation_12 : decode cX9_correlation 12 = .ok (.iload_n 3, 1) := by decide +kernel
theorem dX9_correlation_13 : decode cX9_correlation 13 = .ok (.aload_n 0, 1) := by decide +kernel
theorem dX9_correlation_14 : decode cX9_correlation 14 = .ok (.getfield 7, 3) := by decide +kernel
theorem dX9_correlation_17 : decode cX9_correlation 17 = .ok (.bipush 32, 2) := by decide +kernel
theorem dX9_correlation_19 : decode cX9_correlation 19 = .ok (.iload_n 1, 1) := by decide +kernel
theorem dX9_correlation_20 : decode cX9_correlation 20 = .ok (.imul, 1) := by decide +kernel
theorem dX9_correlation_21 : decode cX9_correlation 21 = .ok (.iload 4, 2) := by decide +kernel
theorem dX9_correlation_23 : decode cX9_correlation 23 = .ok (.iadd, 1) := by decide +kernel
theorem dX9_correlation_24 : decode cX9_correlation 24 = .ok (.iaload, 1) := by decide +kernel
theorem dX9_correlation_25 : decode cX9_correlation 25 = .ok (.aload_n 0, 1) := by decide +kernel
theorem dX9_correlation_26 : decode cX9_correlation 26 = .ok (.getfield 7, 3) := by decide +kernel
theorem dX9_correlation_29 : decode cX9_correlation 29 = .ok (.bipush 32, 2) := by decide +kernel
theorem dX9_correlation_31 : decode cX9_correlation 31 = .ok (.iload_n 1, 1) := by decide +kernel
theorem dX9_correlation_32 : decode cX9_correlation 32 = .ok (.imul, 1) := by decide +kernel
theorem dX9_correlation_33 : decode cX9_correlation 33 = .ok (.iload 4, 2) := by decide +kernel
theorem dX9_correlation_35 : decode cX9_correlation 35 = .ok (.iadd, 1) := by decide +kernel
theorem dX9_correlation_36 : decode cX9_correlation 36 = .ok (.iload_n 2, 1) := by decide +kernel
theorem dX9_correlation_37 : decode cX9_correlation 37 = .ok (.iadd, 1) := by decide +kernel
theorem dX9_correlation_38 : decode cX9_correlation 38 = .ok (.iaload, 1) := by decide +kernel
theorem dX9_correlation_39 : decode cX9_correlation 39 = .ok (.imul, 1) := by decide +kernel
theorem dX9_correlation_40 : decode cX9_correlation 40 = .ok (.iadd, 1) := by decide +kernel
theorem dX9_correlation_41 : decode cX9_correlation 41 = .ok (.istore_n 3, 1) := by decide +kernel
theorem dX9_correlation_42 : decode cX9_correlation 42 = .ok (.iinc 4 1, 3) := by decide +kernel
theorem dX9_correlation_45 : decode cX9_correlation 45 = .ok (.goto (-40), 3) := by decide +kernel
theorem dX9_correlation_48 : decode cX9_correlation 48 = .ok (.iload_n 3, 1) := by decide +kernel
theorem dX9_correlation_49 : decode cX9_correlation 49 = .ok (.ireturn, 1) := by decide +kernel
theorem dX9_differenceOf_0 : decode cX9_differenceOf 0 = .ok (.iconst 0, 1) := by decide +kernel
theorem dX9_differenceOf_1 : decode cX9_differenceOf 1 = .ok (.istore_n 3, 1) := by decide +kernel
theorem dX9_differenceOf_2 : decode cX9_differenceOf 2 = .ok (.iconst 0, 1) := by decide +kernel
theorem dX9_differenceOf_3 : decode cX9_differenceOf 3 = .ok (.istore 4, 2) := by decide +kernel
theorem dX9_differenceOf_5 : decode cX9_differenceOf 5 = .ok (.iload 4, 2) := by decide +kernel
theorem dX9_differenceOf_7 : decode cX9_differenceOf 7 = .ok (.bipush 64, 2) := by decide +kernel
theorem dX9_differenceOf_9 : decode cX9_differenceOf 9 = .ok (.if_icmp .ge 46, 3) := by decide +kernel
theorem dX9_differenceOf_12 : decode cX9_differenceOf 12 = .ok (.aload_n 0, 1) := by decide +kernel
theorem dX9_differenceOf_13 : decode cX9_differenceOf 13 = .ok (.getfield 7, 3) := by decide +kernel
theorem dX9_differenceOf_16 : decode cX9_differenceOf 16 = .ok (.bipush 32, 2) := by decide +kernel
theorem dX9_differenceOf_18 : decode cX9_differenceOf 18 = .ok (.iload_n 1, 1) := by decide +kernel
theorem dX9_differenceOf_19 : decode cX9_differenceOf 19 = .ok (.imul, 1) := by decide +kernel
theorem dX9_differenceOf_20 : decode cX9_differenceOf 20 = .ok (.iload 4, 2) := by decide +kernel
theorem dX9_differenceOf_22 : decode cX9_differenceOf 22 = .ok (.iadd, 1) := by decide +kernel
theorem dX9_differenceOf_23 : decode cX9_differenceOf 23 = .ok (.iaload, 1) := by decide +kernel
theorem dX9_differenceOf_24 : decode cX9_differenceOf 24 = .ok (.aload_n 0, 1) := by decide +kernel
theorem dX9_differenceOf_25 : decode cX9_differenceOf 25 = .ok (.getfield 7, 3) := by decide +kernel
theorem dX9_differenceOf_28 : decode cX9_differenceOf 28 = .ok (.bipush 32, 2) := by decide +kernel
theorem dX9_differenceOf_30 : decode cX9_differenceOf 30 = .ok (.iload_n 1, 1) := by decide +kernel
theorem dX9_differenceOf_31 : decode cX9_differenceOf 31 = .ok (.imul, 1) := by decide +kernel
theorem dX9_differenceOf_32 : decode cX9_differenceOf 32 = .ok (.iload 4, 2) := by decide +kernel
theorem dX9_differenceOf_34 : decode cX9_differenceOf 34 = .ok (.iadd, 1) := by decide +kernel
theorem dX9_differenceOf_35 : decode cX9_differenceOf 35 = .ok (.iload_n 2, 1) := by decide +kernel
theorem dX9_differenceOf_36 : decode cX9_differenceOf 36 = .ok (.iadd, 1) := by decide +kernel
theorem dX9_differenceOf_37 : decode cX9_differenceOf 37 = .ok (.iaload, 1) := by decide +kernel
theorem dX9_differenceOf_38 : decode cX9_differenceOf 38 = .ok (.isub, 1) := by decide +kernel
theorem dX9_differenceOf_39 : decode cX9_differenceOf 39 = .ok (.istore 5, 2) := by decide +kernel
theorem dX9_differenceOf_41 : decode cX9_differenceOf 41 = .ok (.iload_n 3, 1) := by decide +kernel
theorem dX9_differenceOf_42 : decode cX9_differenceOf 42 = .ok (.iload 5, 2) := by decide +kernel
theorem dX9_differenceOf_44 : decode cX9_differenceOf 44 = .ok (.iload 5, 2) := by decide +kernel
theorem dX9_differenceOf_46 : decode cX9_differenceOf 46 = .ok (.imul, 1) := by decide +kernel
theorem dX9_differenceOf_47 : decode cX9_differenceOf 47 = .ok (.iadd, 1) := by decide +kernel
theorem dX9_differenceOf_48 : decode cX9_differenceOf 48 = .ok (.istore_n 3, 1) := by decide +kernel
theorem dX9_differenceOf_49 : decode cX9_differenceOf 49 = .ok (.iinc 4 1, 3) := by decide +kernel
theorem dX9_differenceOf_52 : decode cX9_differenceOf 52 = .ok (.goto (-47), 3) := by decide +kernel
theorem dX9_differenceOf_55 : decode cX9_differenceOf 55 = .ok (.iload_n 3, 1) := by decide +kernel
theorem dX9_differenceOf_56 : decode cX9_differenceOf 56 = .ok (.ireturn, 1) := by decide +kernel
set_option maxRecDepth 20000 in
theorem ggX9_lays_X9_differenceOf : GoodIn wsX9_lays wsX9_differenceOf := goodIn_r _ [7, 8, 9, 10, 11, 12, 13, 14, 15, 16, 17, 18, 19, 20, 21, 22, 23, 24, 25, 26, 27, 28, 29, 30] (by decide +kernel) (by decide +kernel)
set_option maxRecDepth 20000 in
theorem gX9_lays_X9_differenceOf : GoodIn wsX9_lays (wsV RX9 85 RX9 yX9_differenceOf wsX9_differenceOf) := goodIn_app (goodIn_of _ (by decide +kernel)) ggX9_lays_X9_differenceOf
theorem dX9_lays_0 : decode cX9_lays 0 = .ok (.aload_n 0, 1) := by decide +kernel
theorem dX9_lays_1 : decode cX9_lays 1 = .ok (.getfield 35, 3) := by decide +kernel
theorem dX9_lays_4 : decode cX9_lays 4 = .ok (.iconst 0, 1) := by decide +kernel
theorem dX9_lays_5 : decode cX9_lays 5 = .ok (.iconst 0, 1) := by decide +kernel
theorem dX9_lays_6 : decode cX9_lays 6 = .ok (.iastore, 1) := by decide +kernel
theorem dX9_lays_7 : decode cX9_lays 7 = .ok (.iconst 1, 1) := by decide +kernel
theorem dX9_lays_8 : decode cX9_lays 8 = .ok (.istore_n 2, 1) := by decide +kernel
theorem dX9_lays_9 : decode cX9_lays 9 = .ok (.iload_n 2, 1) := by decide +kernel
theorem dX9_lays_10 : decode cX9_lays 10 = .ok (.bipush 64, 2) := by decide +kernel
theorem dX9_lays_12 : decode cX9_lays 12 = .ok (.if_icmp .gt 42, 3) := by decide +kernel
theorem dX9_lays_15 : decode cX9_lays 15 = .ok (.aload_n 0, 1) := by decide +kernel
theorem dX9_lays_16 : decode cX9_lays 16 = .ok (.getfield 32, 3) := by decide +kernel
theorem dX9_lays_19 : decode cX9_lays 19 = .ok (.iload_n 2, 1) := by decide +kernel
theorem dX9_lays_20 : decode cX9_lays 20 = .ok (.aload_n 0, 1) := by decide +kernel
theorem dX9_lays_21 : decode cX9_lays 21 = .ok (.iload_n 1, 1) := by decide +kernel
theorem dX9_lays_22 : decode cX9_lays 22 = .ok (.iload_n 2, 1) := by decide +kernel
theorem dX9_lays_23 : decode cX9_lays 23 = .ok (.invokevirtual 85, 3) := by decide +kernel
theorem dX9_lays_26 : decode cX9_lays 26 = .ok (.iastore, 1) := by decide +kernel
theorem dX9_lays_27 : decode cX9_lays 27 = .ok (.aload_n 0, 1) := by decide +kernel
theorem dX9_lays_28 : decode cX9_lays 28 = .ok (.getfield 35, 3) := by decide +kernel
theorem dX9_lays_31 : decode cX9_lays 31 = .ok (.iload_n 2, 1) := by decide +kernel
theorem dX9_lays_32 : decode cX9_lays 32 = .ok (.aload_n 0, 1) := by decide +kernel
theorem dX9_lays_33 : decode cX9_lays 33 = .ok (.getfield 35, 3) := by decide +kernel
theorem dX9_lays_36 : decode cX9_lays 36 = .ok (.iload_n 2, 1) := by decide +kernel
theorem dX9_lays_37 : decode cX9_lays 37 = .ok (.iconst 1, 1) := by decide +kernel
theorem dX9_lays_38 : decode cX9_lays 38 = .ok (.isub, 1) := by decide +kernel
theorem dX9_lays_39 : decode cX9_lays 39 = .ok (.iaload, 1) := by decide +kernel
theorem dX9_lays_40 : decode cX9_lays 40 = .ok (.aload_n 0, 1) := by decide +kernel
theorem dX9_lays_41 : decode cX9_lays 41 = .ok (.getfield 32, 3) := by decide +kernel
theorem dX9_lays_44 : decode cX9_lays 44 = .ok (.iload_n 2, 1) := by decide +kernel
theorem dX9_lays_45 : decode cX9_lays 45 = .ok (.iaload, 1) := by decide +kernel
theorem dX9_lays_46 : decode cX9_lays 46 = .ok (.iadd, 1) := by decide +kernel
theorem dX9_lays_47 : decode cX9_lays 47 = .ok (.iastore, 1) := by decide +kernel
theorem dX9_lays_48 : decode cX9_lays 48 = .ok (.iinc 2 1, 3) := by decide +kernel
theorem dX9_lays_51 : decode cX9_lays 51 = .ok (.goto (-42), 3) := by decide +kernel
theorem dX9_lays_54 : decode cX9_lays 54 = .ok (.return_, 1) := by decide +kernel
theorem dX9_over_0 : decode cX9_over 0 = .ok (.aload_n 0, 1) := by decide +kernel
theorem dX9_over_1 : decode cX9_over 1 = .ok (.getfield 35, 3) := by decide +kernel
theorem dX9_over_4 : decode cX9_over 4 = .ok (.iload_n 1, 1) := by decide +kernel
theorem dX9_over_5 : decode cX9_over 5 = .ok (.iaload, 1) := by decide +kernel
theorem dX9_over_6 : decode cX9_over 6 = .ok (.ifCond .ne 7, 3) := by decide +kernel
theorem dX9_over_9 : decode cX9_over 9 = .ok (.lconst 1, 1) := by decide +kernel
theorem dX9_over_10 : decode cX9_over 10 = .ok (.goto 13, 3) := by decide +kernel
theorem dX9_over_13 : decode cX9_over 13 = .ok (.iload_n 1, 1) := by decide +kernel
theorem dX9_over_14 : decode cX9_over 14 = .ok (.i2l, 1) := by decide +kernel
theorem dX9_over_15 : decode cX9_over 15 = .ok (.aload_n 0, 1) := by decide +kernel
theorem dX9_over_16 : decode cX9_over 16 = .ok (.getfield 32, 3) := by decide +kernel
theorem dX9_over_19 : decode cX9_over 19 = .ok (.iload_n 1, 1) := by decide +kernel
theorem dX9_over_20 : decode cX9_over 20 = .ok (.iaload, 1) := by decide +kernel
theorem dX9_over_21 : decode cX9_over 21 = .ok (.i2l, 1) := by decide +kernel
theorem dX9_over_22 : decode cX9_over 22 = .ok (.lmul, 1) := by decide +kernel
theorem dX9_over_23 : decode cX9_over 23 = .ok (.lreturn, 1) := by decide +kernel
theorem dX9_under_0 : decode cX9_under 0 = .ok (.aload_n 0, 1) := by decide +kernel
theorem dX9_under_1 : decode cX9_under 1 = .ok (.getfield 35, 3) := by decide +kernel
theorem dX9_under_4 : decode cX9_under 4 = .ok (.iload_n 1, 1) := by decide +kernel
theorem dX9_under_5 : decode cX9_under 5 = .ok (.iaload, 1) := by decide +kernel
theorem dX9_under_6 : decode cX9_under 6 = .ok (.ifCond .ne 7, 3) := by decide +kernel
theorem dX9_under_9 : decode cX9_under 9 = .ok (.lconst 1, 1) := by decide +kernel
theorem dX9_under_10 : decode cX9_under 10 = .ok (.goto 10, 3) := by decide +kernel
theorem dX9_under_13 : decode cX9_under 13 = .ok (.aload_n 0, 1) := by decide +kernel
theorem dX9_under_14 : decode cX9_under 14 = .ok (.getfield 35, 3) := by decide +kernel
theorem dX9_under_17 : decode cX9_under 17 = .ok (.iload_n 1, 1) := by decide +kernel
theorem dX9_under_18 : decode cX9_under 18 = .ok (.iaload, 1) := by decide +kernel
theorem dX9_under_19 : decode cX9_under 19 = .ok (.i2l, 1) := by decide +kernel
theorem dX9_under_20 : decode cX9_under 20 = .ok (.lreturn, 1) := by decide +kernel
set_option maxRecDepth 20000 in
theorem ggX9_isLess_X9_over : GoodIn wsX9_isLess wsX9_over := goodIn_r _ [5, 6, 7, 12, 13, 14, 15, 16, 17, 18, 19, 20, 21, 22, 23, 24, 25, 26, 27, 28, 29, 30, 31, 32, 33] (by decide +kernel) (by decide +kernel)
set_option maxRecDepth 20000 in
theorem gX9_isLess_X9_over : GoodIn wsX9_isLess (wsV RX9 89 RX9 yX9_over wsX9_over) := goodIn_app (goodIn_of _ (by decide +kernel)) ggX9_isLess_X9_over
set_option maxRecDepth 20000 in
theorem ggX9_isLess_X9_under : GoodIn wsX9_isLess wsX9_under := goodIn_r _ [11, 6, 12, 13, 14, 15, 16, 17, 18, 19, 20, 21, 22, 23, 24, 25, 26, 27, 28, 29, 30, 31, 32, 33] (by decide +kernel) (by decide +kernel)
set_option maxRecDepth 20000 in
theorem gX9_isLess_X9_under : GoodIn wsX9_isLess (wsV RX9 93 RX9 yX9_under wsX9_under) := goodIn_app (goodIn_of _ (by decide +kernel)) ggX9_isLess_X9_under
theorem dX9_isLess_0 : decode cX9_isLess 0 = .ok (.aload_n 0, 1) := by decide +kernel
theorem dX9_isLess_1 : decode cX9_isLess 1 = .ok (.iload_n 1, 1) := by decide +kernel
theorem dX9_isLess_2 : decode cX9_isLess 2 = .ok (.invokevirtual 89, 3) := by decide +kernel
theorem dX9_isLess_5 : decode cX9_isLess 5 = .ok (.aload_n 0, 1) := by decide +kernel
theorem dX9_isLess_6 : decode cX9_isLess 6 = .ok (.iload_n 2, 1) := by decide +kernel
theorem dX9_isLess_7 : decode cX9_isLess 7 = .ok (.invokevirtual 93, 3) := by decide +kernel
theorem dX9_isLess_10 : decode cX9_isLess 10 = .ok (.lmul, 1) := by decide +kernel
theorem dX9_isLess_11 : decode cX9_isLess 11 = .ok (.aload_n 0, 1) := by decide +kernel
theorem dX9_isLess_12 : decode cX9_isLess 12 = .ok (.iload_n 2, 1) := by decide +kernel
theorem dX9_isLess_13 : decode cX9_isLess 13 = .ok (.invokevirtual 89, 3) := by decide +kernel
theorem dX9_isLess_16 : decode cX9_isLess 16 = .ok (.aload_n 0, 1) := by decide +kernel
theorem dX9_isLess_17 : decode cX9_isLess 17 = .ok (.iload_n 1, 1) := by decide +kernel
theorem dX9_isLess_18 : decode cX9_isLess 18 = .ok (.invokevirtual 93, 3) := by decide +kernel
theorem dX9_isLess_21 : decode cX9_isLess 21 = .ok (.lmul, 1) := by decide +kernel
theorem dX9_isLess_22 : decode cX9_isLess 22 = .ok (.lcmp, 1) := by decide +kernel
theorem dX9_isLess_23 : decode cX9_isLess 23 = .ok (.ifCond .ge 7, 3) := by decide +kernel
theorem dX9_isLess_26 : decode cX9_isLess 26 = .ok (.iconst 1, 1) := by decide +kernel
theorem dX9_isLess_27 : decode cX9_isLess 27 = .ok (.goto 4, 3) := by decide +kernel
theorem dX9_isLess_30 : decode cX9_isLess 30 = .ok (.iconst 0, 1) := by decide +kernel
theorem dX9_isLess_31 : decode cX9_isLess 31 = .ok (.ireturn, 1) := by decide +kernel
set_option maxRecDepth 20000 in
theorem ggX9_isCandidate_X9_over : GoodIn wsX9_isCandidate wsX9_over := goodIn_r _ [7, 8, 9, 18, 19, 20, 21, 22, 23, 24, 25, 26, 27, 28, 29, 30, 31, 32, 33, 34, 35, 36, 37, 38, 39] (by decide +kernel) (by decide +kernel)
set_option maxRecDepth 20000 in
theorem gX9_isCandidate_X9_over : GoodIn wsX9_isCandidate (wsV RX9 89 RX9 yX9_over wsX9_over) := goodIn_app (goodIn_of _ (by decide +kernel)) ggX9_isCandidate_X9_over
set_option maxRecDepth 20000 in
theorem ggX9_isCandidate_X9_under : GoodIn wsX9_isCandidate wsX9_under := goodIn_r _ [13, 8, 18, 19, 20, 21, 22, 23, 24, 25, 26, 27, 28, 29, 30, 31, 32, 33, 34, 35, 36, 37, 38, 39] (by decide +kernel) (by decide +kernel)
set_option maxRecDepth 20000 in
theorem gX9_isCandidate_X9_under : GoodIn wsX9_isCandidate (wsV RX9 93 RX9 yX9_under wsX9_under) := goodIn_app (goodIn_of _ (by decide +kernel)) ggX9_isCandidate_X9_under
set_option maxRecDepth 20000 in
theorem ggX9_isCandidate_X9_isLess : GoodIn wsX9_isCandidate wsX9_isLess := goodIn_r _ [17, 3, 4, 5, 6, 7, 8, 9, 10, 11, 12, 13, 18, 19, 20, 21, 22, 23, 24, 25, 26, 27, 28, 29, 30, 31, 32, 33, 34, 35, 36, 37, 38, 39] (by decide +kernel) (by decide +kernel)
set_option maxRecDepth 20000 in
theorem gX9_isCandidate_X9_isLess : GoodIn wsX9_isCandidate (wsV RX9 98 RX9 yX9_isLess wsX9_isLess) := goodIn_app (goodIn_of _ (by decide +kernel)) ggX9_isCandidate_X9_isLess
theorem dX9_isCandidate_0 : decode cX9_isCandidate 0 = .ok (.ldc2_w 96, 3) := by decide +kernel
theorem dX9_isCandidate_3 : decode cX9_isCandidate 3 = .ok (.aload_n 0, 1) := by decide +kernel
theorem dX9_isCandidate_4 : decode cX9_isCandidate 4 = .ok (.iload_n 1, 1) := by decide +kernel
theorem dX9_isCandidate_5 : decode cX9_isCandidate 5 = .ok (.invokevirtual 89, 3) := by decide +kernel
theorem dX9_isCandidate_8 : decode cX9_isCandidate 8 = .ok (.lmul, 1) := by decide +kernel
theorem dX9_isCandidate_9 : decode cX9_isCandidate 9 = .ok (.aload_n 0, 1) := by decide +kernel
theorem dX9_isCandidate_10 : decode cX9_isCandidate 10 = .ok (.getfield 13, 3) := by decide +kernel
theorem dX9_isCandidate_13 : decode cX9_isCandidate 13 = .ok (.i2l, 1) := by decide +kernel
theorem dX9_isCandidate_14 : decode cX9_isCandidate 14 = .ok (.aload_n 0, 1) := by decide +kernel
theorem dX9_isCandidate_15 : decode cX9_isCandidate 15 = .ok (.iload_n 1, 1) := by decide +kernel
theorem dX9_isCandidate_16 : decode cX9_isCandidate 16 = .ok (.invokevirtual 93, 3) := by decide +kernel
theorem dX9_isCandidate_19 : decode cX9_isCandidate 19 = .ok (.lmul, 1) := by decide +kernel
theorem dX9_isCandidate_20 : decode cX9_isCandidate 20 = .ok (.lcmp, 1) := by decide +kernel
theorem dX9_isCandidate_21 : decode cX9_isCandidate 21 = .ok (.ifCond .ge 29, 3) := by decide +kernel
theorem dX9_isCandidate_24 : decode cX9_isCandidate 24 = .ok (.aload_n 0, 1) := by decide +kernel
theorem dX9_isCandidate_25 : decode cX9_isCandidate 25 = .ok (.iload_n 1, 1) := by decide +kernel
theorem dX9_isCandidate_26 : decode cX9_isCandidate 26 = .ok (.iload_n 1, 1) := by decide +kernel
theorem dX9_isCandidate_27 : decode cX9_isCandidate 27 = .ok (.iconst 1, 1) := by decide +kernel
theorem dX9_isCandidate_28 : decode cX9_isCandidate 28 = .ok (.isub, 1) := by decide +kernel
theorem dX9_isCandidate_29 : decode cX9_isCandidate 29 = .ok (.invokevirtual 98, 3) := by decide +kernel
theorem dX9_isCandidate_32 : decode cX9_isCandidate 32 = .ok (.ifCond .eq 18, 3) := by decide +kernel
theorem dX9_isCandidate_35 : decode cX9_isCandidate 35 = .ok (.aload_n 0, 1) := by decide +kernel
theorem dX9_isCandidate_36 : decode cX9_isCandidate 36 = .ok (.iload_n 1, 1) := by decide +kernel
theorem dX9_isCandidate_37 : decode cX9_isCandidate 37 = .ok (.iconst 1, 1) := by decide +kernel
theorem dX9_isCandidate_38 : decode cX9_isCandidate 38 = .ok (.iadd, 1) := by decide +kernel
theorem dX9_isCandidate_39 : decode cX9_isCandidate 39 = .ok (.iload_n 1, 1) := by decide +kernel
theorem dX9_isCandidate_40 : decode cX9_isCandidate 40 = .ok (.invokevirtual 98, 3) := by decide +kernel
theorem dX9_isCandidate_43 : decode cX9_isCandidate 43 = .ok (.ifCond .ne 7, 3) := by decide +kernel
theorem dX9_isCandidate_46 : decode cX9_isCandidate 46 = .ok (.iconst 1, 1) := by decide +kernel
theorem dX9_isCandidate_47 : decode cX9_isCandidate 47 = .ok (.goto 4, 3) := by decide +kernel
theorem dX9_isCandidate_50 : decode cX9_isCandidate 50 = .ok (.iconst 0, 1) := by decide +kernel
theorem dX9_isCandidate_51 : decode cX9_isCandidate 51 = .ok (.ireturn, 1) := by decide +kernel
set_option maxRecDepth 20000 in
theorem ggX9_mean_X9_over : GoodIn wsX9_mean wsX9_over := goodIn_r _ [6, 7, 8, 13, 14, 15, 16, 17, 18, 19, 20, 21, 22, 23, 24, 25, 26, 27, 28, 29, 30, 31, 32, 33, 34] (by decide +kernel) (by decide +kernel)
set_option maxRecDepth 20000 in
theorem gX9_mean_X9_over : GoodIn wsX9_mean (wsV RX9 89 RX9 yX9_over wsX9_over) := goodIn_app (goodIn_of _ (by decide +kernel)) ggX9_mean_X9_over
set_option maxRecDepth 20000 in
theorem ggX9_mean_X9_under : GoodIn wsX9_mean wsX9_under := goodIn_r _ [12, 7, 13, 14, 15, 16, 17, 18, 19, 20, 21, 22, 23, 24, 25, 26, 27, 28, 29, 30, 31, 32, 33, 34] (by decide +kernel) (by decide +kernel)
set_option maxRecDepth 20000 in
theorem gX9_mean_X9_under : GoodIn wsX9_mean (wsV RX9 93 RX9 yX9_under wsX9_under) := goodIn_app (goodIn_of _ (by decide +kernel)) ggX9_mean_X9_under
theorem dX9_mean_0 : decode cX9_mean 0 = .ok (.ldc2_w 102, 3) := by decide +kernel
theorem dX9_mean_3 : decode cX9_mean 3 = .ok (.aload_n 0, 1) := by decide +kernel
theorem dX9_mean_4 : decode cX9_mean 4 = .ok (.iload_n 1, 1) := by decide +kernel
theorem dX9_mean_5 : decode cX9_mean 5 = .ok (.invokevirtual 89, 3) := by decide +kernel
theorem dX9_mean_8 : decode cX9_mean 8 = .ok (.lmul, 1) := by decide +kernel
theorem dX9_mean_9 : decode cX9_mean 9 = .ok (.aload_n 0, 1) := by decide +kernel
theorem dX9_mean_10 : decode cX9_mean 10 = .ok (.iload_n 1, 1) := by decide +kernel
theorem dX9_mean_11 : decode cX9_mean 11 = .ok (.invokevirtual 93, 3) := by decide +kernel
theorem dX9_mean_14 : decode cX9_mean 14 = .ok (.ldiv, 1) := by decide +kernel
theorem dX9_mean_15 : decode cX9_mean 15 = .ok (.l2i, 1) := by decide +kernel
theorem dX9_mean_16 : decode cX9_mean 16 = .ok (.ireturn, 1) := by decide +kernel
set_option maxRecDepth 20000 in
theorem ggX9_laysCandidates_X9_lays : GoodIn wsX9_laysCandidates wsX9_lays := goodIn_r _ [9, 10, 11, 12, 13, 14, 8, 15, 16, 40, 41, 42, 43, 44, 45, 46, 47, 48, 49, 50, 51, 52, 53, 54, 55, 56, 57, 58, 59, 60, 61] (by decide +kernel) (by decide +kernel)
set_option maxRecDepth 20000 in
theorem gX9_laysCandidates_X9_lays : GoodIn wsX9_laysCandidates (wsV RX9 104 RX9 yX9_lays wsX9_lays) := goodIn_app (goodIn_of _ (by decide +kernel)) ggX9_laysCandidates_X9_lays
set_option maxRecDepth 20000 in
theorem ggX9_laysCandidates_X9_isCandidate : GoodIn wsX9_laysCandidates wsX9_isCandidate := goodIn_r _ [20, 21, 22, 23, 24, 25, 8, 26, 10, 11, 27, 28, 29, 30, 31, 32, 33, 34, 40, 41, 42, 43, 44, 45, 46, 47, 48, 49, 50, 51, 52, 53, 54, 55, 56, 57, 58, 59, 60, 61] (by decide +kernel) (by decide +kernel)
set_option maxRecDepth 20000 in
theorem gX9_laysCandidates_X9_isCandidate : GoodIn wsX9_laysCandidates (wsV RX9 107 RX9 yX9_isCandidate wsX9_isCandidate) := goodIn_app (goodIn_of _ (by decide +kernel)) ggX9_laysCandidates_X9_isCandidate
set_option maxRecDepth 20000 in
theorem ggX9_laysCandidates_X9_mean : GoodIn wsX9_laysCandidates wsX9_mean := goodIn_r _ [38, 39, 23, 24, 25, 8, 26, 10, 11, 27, 28, 29, 30, 40, 41, 42, 43, 44, 45, 46, 47, 48, 49, 50, 51, 52, 53, 54, 55, 56, 57, 58, 59, 60, 61] (by decide +kernel) (by decide +kernel)
set_option maxRecDepth 20000 in
theorem gX9_laysCandidates_X9_mean : GoodIn wsX9_laysCandidates (wsV RX9 111 RX9 yX9_mean wsX9_mean) := goodIn_app (goodIn_of _ (by decide +kernel)) ggX9_laysCandidates_X9_mean
theorem dX9_laysCandidates_0 : decode cX9_laysCandidates 0 = .ok (.aload_n 0, 1) := by decide +kernel
theorem dX9_laysCandidates_1 : decode cX9_laysCandidates 1 = .ok (.iload_n 1, 1) := by decide +kernel
theorem dX9_laysCandidates_2 : decode cX9_laysCandidates 2 = .ok (.invokevirtual 104, 3) := by decide +kernel
theorem dX9_laysCandidates_5 : decode cX9_laysCandidates 5 = .ok (.aload_n 0, 1) := by decide +kernel
theorem dX9_laysCandidates_6 : decode cX9_laysCandidates 6 = .ok (.getfield 38, 3) := by decide +kernel
theorem dX9_laysCandidates_9 : decode cX9_laysCandidates 9 = .ok (.iload_n 1, 1) := by decide +kernel
theorem dX9_laysCandidates_10 : decode cX9_laysCandidates 10 = .ok (.iconst 1, 1) := by decide +kernel
theorem dX9_laysCandidates_11 : decode cX9_laysCandidates 11 = .ok (.iastore, 1) := by decide +kernel
theorem dX9_laysCandidates_12 : decode cX9_laysCandidates 12 = .ok (.aload_n 0, 1) := by decide +kernel
theorem dX9_laysCandidates_13 : decode cX9_laysCandidates 13 = .ok (.getfield 41, 3) := by decide +kernel
theorem dX9_laysCandidates_16 : decode cX9_laysCandidates 16 = .ok (.bipush 9, 2) := by decide +kernel
theorem dX9_laysCandidates_18 : decode cX9_laysCandidates 18 = .ok (.iload_n 1, 1) := by decide +kernel
theorem dX9_laysCandidates_19 : decode cX9_laysCandidates 19 = .ok (.imul, 1) := by decide +kernel
theorem dX9_laysCandidates_20 : decode cX9_laysCandidates 20 = .ok (.iconst 0, 1) := by decide +kernel
theorem dX9_laysCandidates_21 : decode cX9_laysCandidates 21 = .ok (.iastore, 1) := by decide +kernel
theorem dX9_laysCandidates_22 : decode cX9_laysCandidates 22 = .ok (.aload_n 0, 1) := by decide +kernel
theorem dX9_laysCandidates_23 : decode cX9_laysCandidates 23 = .ok (.getfield 44, 3) := by decide +kernel
theorem dX9_laysCandidates_26 : decode cX9_laysCandidates 26 = .ok (.bipush 9, 2) := by decide +kernel
theorem dX9_laysCandidates_28 : decode cX9_laysCandidates 28 = .ok (.iload_n 1, 1) := by decide +kernel
theorem dX9_laysCandidates_29 : decode cX9_laysCandidates 29 = .ok (.imul, 1) := by decide +kernel
theorem dX9_laysCandidates_30 : decode cX9_laysCandidates 30 = .ok (.aload_n 0, 1) := by decide +kernel
theorem dX9_laysCandidates_31 : decode cX9_laysCandidates 31 = .ok (.getfield 17, 3) := by decide +kernel
theorem dX9_laysCandidates_34 : decode cX9_laysCandidates 34 = .ok (.iastore, 1) := by decide +kernel
theorem dX9_laysCandidates_35 : decode cX9_laysCandidates 35 = .ok (.iconst 2, 1) := by decide +kernel
theorem dX9_laysCandidates_36 : decode cX9_laysCandidates 36 = .ok (.istore_n 2, 1) := by decide +kernel
theorem dX9_laysCandidates_37 : decode cX9_laysCandidates 37 = .ok (.iload_n 2, 1) := by decide +kernel
theorem dX9_laysCandidates_38 : decode cX9_laysCandidates 38 = .ok (.bipush 64, 2) := by decide +kernel
theorem dX9_laysCandidates_40 : decode cX9_laysCandidates 40 = .ok (.if_icmp .ge 76, 3) := by decide +kernel
theorem dX9_laysCandidates_43 : decode cX9_laysCandidates 43 = .ok (.aload_n 0, 1) := by decide +kernel
theorem dX9_laysCandidates_44 : decode cX9_laysCandidates 44 = .ok (.getfield 38, 3) := by decide +kernel
theorem dX9_laysCandidates_47 : decode cX9_laysCandidates 47 = .ok (.iload_n 1, 1) := by decide +kernel
theorem dX9_laysCandidates_48 : decode cX9_laysCandidates 48 = .ok (.iaload, 1) := by decide +kernel
theorem dX9_laysCandidates_49 : decode cX9_laysCandidates 49 = .ok (.bipush 9, 2) := by decide +kernel
theorem dX9_laysCandidates_51 : decode cX9_laysCandidates 51 = .ok (.if_icmp .ge 65, 3) := by decide +kernel
theorem dX9_laysCandidates_54 : decode cX9_laysCandidates 54 = .ok (.aload_n 0, 1) := by decide +kernel
theorem dX9_laysCandidates_55 : decode cX9_laysCandidates 55 = .ok (.iload_n 2, 1) := by decide +kernel
theorem dX9_laysCandidates_56 : decode cX9_laysCandidates 56 = .ok (.invokevirtual 107, 3) := by decide +kernel
theorem dX9_laysCandidates_59 : decode cX9_laysCandidates 59 = .ok (.ifCond .eq 51, 3) := by decide +kernel
theorem dX9_laysCandidates_62 : decode cX9_laysCandidates 62 = .ok (.aload_n 0, 1) := by decide +kernel
theorem dX9_laysCandidates_63 : decode cX9_laysCandidates 63 = .ok (.getfield 41, 3) := by decide +kernel
theorem dX9_laysCandidates_66 : decode cX9_laysCandidates 66 = .ok (.bipush 9, 2) := by decide +kernel
theorem dX9_laysCandidates_68 : decode cX9_laysCandidates 68 = .ok (.iload_n 1, 1) := by decide +kernel
theorem dX9_laysCandidates_69 : decode cX9_laysCandidates 69 = .ok (.imul, 1) := by decide +kernel
theorem dX9_laysCandidates_70 : decode cX9_laysCandidates 70 = .ok (.aload_n 0, 1) := by decide +kernel
theorem dX9_laysCandidates_71 : decode cX9_laysCandidates 71 = .ok (.getfield 38, 3) := by decide +kernel
theorem dX9_laysCandidates_74 : decode cX9_laysCandidates 74 = .ok (.iload_n 1, 1) := by decide +kernel
theorem dX9_laysCandidates_75 : decode cX9_laysCandidates 75 = .ok (.iaload, 1) := by decide +kernel
theorem dX9_laysCandidates_76 : decode cX9_laysCandidates 76 = .ok (.iadd, 1) := by decide +kernel
theorem dX9_laysCandidates_77 : decode cX9_laysCandidates 77 = .ok (.iload_n 2, 1) := by decide +kernel
theorem dX9_laysCandidates_78 : decode cX9_laysCandidates 78 = .ok (.iastore, 1) := by decide +kernel
theorem dX9_laysCandidates_79 : decode cX9_laysCandidates 79 = .ok (.aload_n 0, 1) := by decide +kernel
theorem dX9_laysCandidates_80 : decode cX9_laysCandidates 80 = .ok (.getfield 44, 3) := by decide +kernel
theorem dX9_laysCandidates_83 : decode cX9_laysCandidates 83 = .ok (.bipush 9, 2) := by decide +kernel
theorem dX9_laysCandidates_85 : decode cX9_laysCandidates 85 = .ok (.iload_n 1, 1) := by decide +kernel
theorem dX9_laysCandidates_86 : decode cX9_laysCandidates 86 = .ok (.imul, 1) := by decide +kernel
theorem dX9_laysCandidates_87 : decode cX9_laysCandidates 87 = .ok (.aload_n 0, 1) := by decide +kernel
theorem dX9_laysCandidates_88 : decode cX9_laysCandidates 88 = .ok (.getfield 38, 3) := by decide +kernel
theorem dX9_laysCandidates_91 : decode cX9_laysCandidates 91 = .ok (.iload_n 1, 1) := by decide +kernel
theorem dX9_laysCandidates_92 : decode cX9_laysCandidates 92 = .ok (.iaload, 1) := by decide +kernel
theorem dX9_laysCandidates_93 : decode cX9_laysCandidates 93 = .ok (.iadd, 1) := by decide +kernel
theorem dX9_laysCandidates_94 : decode cX9_laysCandidates 94 = .ok (.aload_n 0, 1) := by decide +kernel
theorem dX9_laysCandidates_95 : decode cX9_laysCandidates 95 = .ok (.iload_n 2, 1) := by decide +kernel
theorem dX9_laysCandidates_96 : decode cX9_laysCandidates 96 = .ok (.invokevirtual 111, 3) := by decide +kernel
theorem dX9_laysCandidates_99 : decode cX9_laysCandidates 99 = .ok (.iastore, 1) := by decide +kernel
theorem dX9_laysCandidates_100 : decode cX9_laysCandidates 100 = .ok (.aload_n 0, 1) := by decide +kernel
theorem dX9_laysCandidates_101 : decode cX9_laysCandidates 101 = .ok (.getfield 38, 3) := by decide +kernel
theorem dX9_laysCandidates_104 : decode cX9_laysCandidates 104 = .ok (.iload_n 1, 1) := by decide +kernel
theorem dX9_laysCandidates_105 : decode cX9_laysCandidates 105 = .ok (.dup2, 1) := by decide +kernel
theorem dX9_laysCandidates_106 : decode cX9_laysCandidates 106 = .ok (.iaload, 1) := by decide +kernel
theorem dX9_laysCandidates_107 : decode cX9_laysCandidates 107 = .ok (.iconst 1, 1) := by decide +kernel
theorem dX9_laysCandidates_108 : decode cX9_laysCandidates 108 = .ok (.iadd, 1) := by decide +kernel
theorem dX9_laysCandidates_109 : decode cX9_laysCandidates 109 = .ok (.iastore, 1) := by decide +kernel
theorem dX9_laysCandidates_110 : decode cX9_laysCandidates 110 = .ok (.iinc 2 1, 3) := by decide +kernel
theorem dX9_laysCandidates_113 : decode cX9_laysCandidates 113 = .ok (.goto (-76), 3) := by decide +kernel
theorem dX9_laysCandidates_116 : decode cX9_laysCandidates 116 = .ok (.return_, 1) := by decide +kernel
theorem dX9_step_0 : decode cX9_step 0 = .ok (.iload_n 1, 1) := by decide +kernel
theorem dX9_step_1 : decode cX9_step 1 = .ok (.ifCond .le 29, 3) := by decide +kernel
theorem dX9_step_4 : decode cX9_step 4 = .ok (.iload_n 2, 1) := by decide +kernel
theorem dX9_step_5 : decode cX9_step 5 = .ok (.ifCond .le 25, 3) := by decide +kernel
theorem dX9_step_8 : decode cX9_step 8 = .ok (.aload_n 0, 1) := by decide +kernel
theorem dX9_step_9 : decode cX9_step 9 = .ok (.getfield 20, 3) := by decide +kernel
theorem dX9_step_12 : decode cX9_step 12 = .ok (.iload_n 1, 1) := by decide +kernel
theorem dX9_step_13 : decode cX9_step 13 = .ok (.iload_n 2, 1) := by decide +kernel
theorem dX9_step_14 : decode cX9_step 14 = .ok (.if_icmp .le 9, 3) := by decide +kernel
theorem dX9_step_17 : decode cX9_step 17 = .ok (.iload_n 1, 1) := by decide +kernel
theorem dX9_step_18 : decode cX9_step 18 = .ok (.iload_n 2, 1) := by decide +kernel
theorem dX9_step_19 : decode cX9_step 19 = .ok (.isub, 1) := by decide +kernel
theorem dX9_step_20 : decode cX9_step 20 = .ok (.goto 6, 3) := by decide +kernel
theorem dX9_step_23 : decode cX9_step 23 = .ok (.iload_n 2, 1) := by decide +kernel
theorem dX9_step_24 : decode cX9_step 24 = .ok (.iload_n 1, 1) := by decide +kernel
theorem dX9_step_25 : decode cX9_step 25 = .ok (.isub, 1) := by decide +kernel
theorem dX9_step_26 : decode cX9_step 26 = .ok (.imul, 1) := by decide +kernel
theorem dX9_step_27 : decode cX9_step 27 = .ok (.goto 19, 3) := by decide +kernel
theorem dX9_step_30 : decode cX9_step 30 = .ok (.iload_n 1, 1) := by decide +kernel
theorem dX9_step_31 : decode cX9_step 31 = .ok (.ifCond .gt 7, 3) := by decide +kernel
theorem dX9_step_34 : decode cX9_step 34 = .ok (.iload_n 2, 1) := by decide +kernel
theorem dX9_step_35 : decode cX9_step 35 = .ok (.ifCond .le 10, 3) := by decide +kernel
theorem dX9_step_38 : decode cX9_step 38 = .ok (.aload_n 0, 1) := by decide +kernel
theorem dX9_step_39 : decode cX9_step 39 = .ok (.getfield 23, 3) := by decide +kernel
theorem dX9_step_42 : decode cX9_step 42 = .ok (.goto 4, 3) := by decide +kernel
theorem dX9_step_45 : decode cX9_step 45 = .ok (.iconst 0, 1) := by decide +kernel
theorem dX9_step_46 : decode cX9_step 46 = .ok (.ireturn, 1) := by decide +kernel
set_option maxRecDepth 20000 in
theorem ggX9_laysTrack_X9_manyFrames : GoodIn wsX9_laysTrack wsX9_manyFrames := goodIn_r _ [13, 14, 60, 61, 62, 63, 64, 65, 66, 67, 68, 69, 70, 71, 72, 73, 74, 75, 76, 77, 78, 79, 80, 81] (by decide +kernel) (by decide +kernel)
set_option maxRecDepth 20000 in
theorem gX9_laysTrack_X9_manyFrames : GoodIn wsX9_laysTrack (wsV RX9 81 RX9 yX9_manyFrames wsX9_manyFrames) := goodIn_app (goodIn_of _ (by decide +kernel)) ggX9_laysTrack_X9_manyFrames
set_option maxRecDepth 20000 in
theorem ggX9_laysTrack_X9_laysCandidates : GoodIn wsX9_laysTrack wsX9_laysCandidates := goodIn_r _ [18, 2, 5, 7, 19, 20, 21, 22, 12, 23, 24, 25, 26, 27, 28, 29, 30, 31, 32, 33, 34, 35, 36, 37, 38, 39, 40, 41, 42, 43, 44, 45, 46, 47, 48, 49, 50, 51, 52, 53, 60, 61, 62, 63, 64, 65, 66, 67, 68, 69, 70, 71, 72, 73, 74, 75, 76, 77, 78, 79, 80, 81] (by decide +kernel) (by decide +kernel)
set_option maxRecDepth 20000 in
theorem gX9_laysTrack_X9_laysCandidates : GoodIn wsX9_laysTrack (wsV RX9 118 RX9 yX9_laysCandidates wsX9_laysCandidates) := goodIn_app (goodIn_of _ (by decide +kernel)) ggX9_laysTrack_X9_laysCandidates
set_option maxRecDepth 20000 in
theorem ggX9_laysTrack_X9_step : GoodIn wsX9_laysTrack wsX9_step := goodIn_r _ [57, 58, 59, 60, 61, 62, 63, 64, 65, 66, 67, 68, 69, 70, 71, 72, 73, 74, 75, 76, 77, 78, 79, 80, 81] (by decide +kernel) (by decide +kernel)
set_option maxRecDepth 20000 in
theorem gX9_laysTrack_X9_step : GoodIn wsX9_laysTrack (wsV RX9 122 RX9 yX9_step wsX9_step) := goodIn_app (goodIn_of _ (by decide +kernel)) ggX9_laysTrack_X9_step
theorem dX9_laysTrack_0 : decode cX9_laysTrack 0 = .ok (.aload_n 0, 1) := by decide +kernel
theorem dX9_laysTrack_1 : decode cX9_laysTrack 1 = .ok (.invokevirtual 81, 3) := by decide +kernel
theorem dX9_laysTrack_4 : decode cX9_laysTrack 4 = .ok (.istore_n 1, 1) := by decide +kernel
theorem dX9_laysTrack_5 : decode cX9_laysTrack 5 = .ok (.aload_n 0, 1) := by decide +kernel
theorem dX9_laysTrack_6 : decode cX9_laysTrack 6 = .ok (.iconst 0, 1) := by decide +kernel
theorem dX9_laysTrack_7 : decode cX9_laysTrack 7 = .ok (.putfield 115, 3) := by decide +kernel
theorem dX9_laysTrack_10 : decode cX9_laysTrack 10 = .ok (.iconst 0, 1) := by decide +kernel
theorem dX9_laysTrack_11 : decode cX9_laysTrack 11 = .ok (.istore_n 2, 1) := by decide +kernel
theorem dX9_laysTrack_12 : decode cX9_laysTrack 12 = .ok (.iload_n 2, 1) := by decide +kernel
theorem dX9_laysTrack_13 : decode cX9_laysTrack 13 = .ok (.iload_n 1, 1) := by decide +kernel
theorem dX9_laysTrack_14 : decode cX9_laysTrack 14 = .ok (.if_icmp .ge 169, 3) := by decide +kernel
theorem dX9_laysTrack_17 : decode cX9_laysTrack 17 = .ok (.aload_n 0, 1) := by decide +kernel
theorem dX9_laysTrack_18 : decode cX9_laysTrack 18 = .ok (.iload_n 2, 1) := by decide +kernel
theorem dX9_laysTrack_19 : decode cX9_laysTrack 19 = .ok (.invokevirtual 118, 3) := by decide +kernel
theorem dX9_laysTrack_22 : decode cX9_laysTrack 22 = .ok (.iconst 0, 1) := by decide +kernel
theorem dX9_laysTrack_23 : decode cX9_laysTrack 23 = .ok (.istore_n 3, 1) := by decide +kernel
theorem dX9_laysTrack_24 : decode cX9_laysTrack 24 = .ok (.iload_n 3, 1) := by decide +kernel
theorem dX9_laysTrack_25 : decode cX9_laysTrack 25 = .ok (.aload_n 0, 1) := by decide +kernel
theorem dX9_laysTrack_26 : decode cX9_laysTrack 26 = .ok (.getfield 38, 3) := by decide +kernel
theorem dX9_laysTrack_29 : decode cX9_laysTrack 29 = .ok (.iload_n 2, 1) := by decide +kernel
theorem dX9_laysTrack_30 : decode cX9_laysTrack 30 = .ok (.iaload, 1) := by decide +kernel
theorem dX9_laysTrack_31 : decode cX9_laysTrack 31 = .ok (.if_icmp .ge 146, 3) := by decide +kernel
theorem dX9_laysTrack_34 : decode cX9_laysTrack 34 = .ok (.bipush 9, 2) := by decide +kernel
theorem dX9_laysTrack_36 : decode cX9_laysTrack 36 = .ok (.iload_n 2, 1) := by decide +kernel
theorem dX9_laysTrack_37 : decode cX9_laysTrack 37 = .ok (.imul, 1) := by decide +kernel
theorem dX9_laysTrack_38 : decode cX9_laysTrack 38 = .ok (.iload_n 3, 1) := by decide +kernel
theorem dX9_laysTrack_39 : decode cX9_laysTrack 39 = .ok (.iadd, 1) := by decide +kernel
theorem dX9_laysTrack_40 : decode cX9_laysTrack 40 = .ok (.istore 4, 2) := by decide +kernel
theorem dX9_laysTrack_42 : decode cX9_laysTrack 42 = .ok (.aload_n 0, 1) := by decide +kernel
theorem dX9_laysTrack_43 : decode cX9_laysTrack 43 = .ok (.getfield 47, 3) := by decide +kernel
theorem dX9_laysTrack_46 : decode cX9_laysTrack 46 = .ok (.iload 4, 2) := by decide +kernel
theorem dX9_laysTrack_48 : decode cX9_laysTrack 48 = .ok (.iload_n 2, 1) := by decide +kernel
theorem dX9_laysTrack_49 : decode cX9_laysTrack 49 = .ok (.ifCond .ne 7, 3) := by decide +kernel
theorem dX9_laysTrack_52 : decode cX9_laysTrack 52 = .ok (.iconst 0, 1) := by decide +kernel
theorem dX9_laysTrack_53 : decode cX9_laysTrack 53 = .ok (.goto 5, 3) := by decide +kernel
theorem dX9_laysTrack_56 : decode cX9_laysTrack 56 = .ok (.ldc 121, 2) := by decide +kernel
theorem dX9_laysTrack_58 : decode cX9_laysTrack 58 = .ok (.iastore, 1) := by decide +kernel
theorem dX9_laysTrack_59 : decode cX9_laysTrack 59 = .ok (.iconst 0, 1) := by decide +kernel
theorem dX9_laysTrack_60 : decode cX9_laysTrack 60 = .ok (.istore 5, 2) := by decide +kernel
theorem dX9_laysTrack_62 : decode cX9_laysTrack 62 = .ok (.iload_n 2, 1) := by decide +kernel
theorem dX9_laysTrack_63 : decode cX9_laysTrack 63 = .ok (.ifCond .le 91, 3) := by decide +kernel
theorem dX9_laysTrack_66 : decode cX9_laysTrack 66 = .ok (.iload 5, 2) := by decide +kernel
theorem dX9_laysTrack_68 : decode cX9_laysTrack 68 = .ok (.aload_n 0, 1) := by decide +kernel
theorem dX9_laysTrack_69 : decode cX9_laysTrack 69 = .ok (.getfield 38, 3) := by decide +kernel
theorem dX9_laysTrack_72 : decode cX9_laysTrack 72 = .ok (.iload_n 2, 1) := by decide +kernel
theorem dX9_laysTrack_73 : decode cX9_laysTrack 73 = .ok (.iconst 1, 1) := by decide +kernel
theorem dX9_laysTrack_74 : decode cX9_laysTrack 74 = .ok (.isub, 1) := by decide +kernel
theorem dX9_laysTrack_75 : decode cX9_laysTrack 75 = .ok (.iaload, 1) := by decide +kernel
theorem dX9_laysTrack_76 : decode cX9_laysTrack 76 = .ok (.if_icmp .ge 78, 3) := by decide +kernel
theorem dX9_laysTrack_79 : decode cX9_laysTrack 79 = .ok (.bipush 9, 2) := by decide +kernel
theorem dX9_laysTrack_81 : decode cX9_laysTrack 81 = .ok (.iload_n 2, 1) := by decide +kernel
theorem dX9_laysTrack_82 : decode cX9_laysTrack 82 = .ok (.iconst 1, 1) := by decide +kernel
theorem dX9_laysTrack_83 : decode cX9_laysTrack 83 = .ok (.isub, 1) := by decide +kernel
theorem dX9_laysTrack_84 : decode cX9_laysTrack 84 = .ok (.imul, 1) := by decide +kernel
theorem dX9_laysTrack_85 : decode cX9_laysTrack 85 = .ok (.iload 5, 2) := by decide +kernel
theorem dX9_laysTrack_87 : decode cX9_laysTrack 87 = .ok (.iadd, 1) := by decide +kernel
theorem dX9_laysTrack_88 : decode cX9_laysTrack 88 = .ok (.istore 6, 2) := by decide +kernel
theorem dX9_laysTrack_90 : decode cX9_laysTrack 90 = .ok (.aload_n 0, 1) := by decide +kernel
theorem dX9_laysTrack_91 : decode cX9_laysTrack 91 = .ok (.getfield 47, 3) := by decide +kernel
theorem dX9_laysTrack_94 : decode cX9_laysTrack 94 = .ok (.iload 6, 2) := by decide +kernel
theorem dX9_laysTrack_96 : decode cX9_laysTrack 96 = .ok (.iaload, 1) := by decide +kernel
theorem dX9_laysTrack_97 : decode cX9_laysTrack 97 = .ok (.aload_n 0, 1) := by decide +kernel
theorem dX9_laysTrack_98 : decode cX9_laysTrack 98 = .ok (.aload_n 0, 1) := by decide +kernel
theorem dX9_laysTrack_99 : decode cX9_laysTrack 99 = .ok (.getfield 41, 3) := by decide +kernel
theorem dX9_laysTrack_102 : decode cX9_laysTrack 102 = .ok (.iload 6, 2) := by decide +kernel
theorem dX9_laysTrack_104 : decode cX9_laysTrack 104 = .ok (.iaload, 1) := by decide +kernel
theorem dX9_laysTrack_105 : decode cX9_laysTrack 105 = .ok (.aload_n 0, 1) := by decide +kernel
theorem dX9_laysTrack_106 : decode cX9_laysTrack 106 = .ok (.getfield 41, 3) := by decide +kernel
theorem dX9_laysTrack_109 : decode cX9_laysTrack 109 = .ok (.iload 4, 2) := by decide +kernel
theorem dX9_laysTrack_111 : decode cX9_laysTrack 111 = .ok (.iaload, 1) := by decide +kernel
theorem dX9_laysTrack_112 : decode cX9_laysTrack 112 = .ok (.invokevirtual 122, 3) := by decide +kernel
theorem dX9_laysTrack_115 : decode cX9_laysTrack 115 = .ok (.iadd, 1) := by decide +kernel
theorem dX9_laysTrack_116 : decode cX9_laysTrack 116 = .ok (.istore 7, 2) := by decide +kernel
theorem dX9_laysTrack_118 : decode cX9_laysTrack 118 = .ok (.iload 7, 2) := by decide +kernel
theorem dX9_laysTrack_120 : decode cX9_laysTrack 120 = .ok (.aload_n 0, 1) := by decide +kernel
theorem dX9_laysTrack_121 : decode cX9_laysTrack 121 = .ok (.getfield 47, 3) := by decide +kernel
theorem dX9_laysTrack_124 : decode cX9_laysTrack 124 = .ok (.iload 4, 2) := by decide +kernel
theorem dX9_laysTrack_126 : decode cX9_laysTrack 126 = .ok (.iaload, 1) := by decide +kernel
theorem dX9_laysTrack_127 : decode cX9_laysTrack 127 = .ok (.if_icmp .ge 21, 3) := by decide +kernel
theorem dX9_laysTrack_130 : decode cX9_laysTrack 130 = .ok (.aload_n 0, 1) := by decide +kernel
theorem dX9_laysTrack_131 : decode cX9_laysTrack 131 = .ok (.getfield 47, 3) := by decide +kernel
theorem dX9_laysTrack_134 : decode cX9_laysTrack 134 = .ok (.iload 4, 2) := by decide +kernel
theorem dX9_laysTrack_136 : decode cX9_laysTrack 136 = .ok (.iload 7, 2) := by decide +kernel
theorem dX9_laysTrack_138 : decode cX9_laysTrack 138 = .ok (.iastore, 1) := by decide +kernel
theorem dX9_laysTrack_139 : decode cX9_laysTrack 139 = .ok (.aload_n 0, 1) := by decide +kernel
theorem dX9_laysTrack_140 : decode cX9_laysTrack 140 = .ok (.getfield 50, 3) := by decide +kernel
theorem dX9_laysTrack_143 : decode cX9_laysTrack 143 = .ok (.iload 4, 2) := by decide +kernel
theorem dX9_laysTrack_145 : decode cX9_laysTrack 145 = .ok (.iload 6, 2) := by decide +kernel
theorem dX9_laysTrack_147 : decode cX9_laysTrack 147 = .ok (.iastore, 1) := by decide +kernel
theorem dX9_laysTrack_148 : decode cX9_laysTrack 148 = .ok (.iinc 5 1, 3) := by decide +kernel
theorem dX9_laysTrack_151 : decode cX9_laysTrack 151 = .ok (.goto (-89), 3) := by decide +kernel
theorem dX9_laysTrack_154 : decode cX9_laysTrack 154 = .ok (.aload_n 0, 1) := by decide +kernel
theorem dX9_laysTrack_155 : decode cX9_laysTrack 155 = .ok (.getfield 47, 3) := by decide +kernel
theorem dX9_laysTrack_158 : decode cX9_laysTrack 158 = .ok (.iload 4, 2) := by decide +kernel
theorem dX9_laysTrack_160 : decode cX9_laysTrack 160 = .ok (.dup2, 1) := by decide +kernel
theorem dX9_laysTrack_161 : decode cX9_laysTrack 161 = .ok (.iaload, 1) := by decide +kernel
theorem dX9_laysTrack_162 : decode cX9_laysTrack 162 = .ok (.aload_n 0, 1) := by decide +kernel
theorem dX9_laysTrack_163 : decode cX9_laysTrack 163 = .ok (.getfield 44, 3) := by decide +kernel
theorem dX9_laysTrack_166 : decode cX9_laysTrack 166 = .ok (.iload 4, 2) := by decide +kernel
theorem dX9_laysTrack_168 : decode cX9_laysTrack 168 = .ok (.iaload, 1) := by decide +kernel
theorem dX9_laysTrack_169 : decode cX9_laysTrack 169 = .ok (.iadd, 1) := by decide +kernel
theorem dX9_laysTrack_170 : decode cX9_laysTrack 170 = .ok (.iastore, 1) := by decide +kernel
theorem dX9_laysTrack_171 : decode cX9_laysTrack 171 = .ok (.iinc 3 1, 3) := by decide +kernel
theorem dX9_laysTrack_174 : decode cX9_laysTrack 174 = .ok (.goto (-150), 3) := by decide +kernel
theorem dX9_laysTrack_177 : decode cX9_laysTrack 177 = .ok (.iinc 2 1, 3) := by decide +kernel
theorem dX9_laysTrack_180 : decode cX9_laysTrack 180 = .ok (.goto (-168), 3) := by decide +kernel
theorem dX9_laysTrack_183 : decode cX9_laysTrack 183 = .ok (.iload_n 1, 1) := by decide +kernel
theorem dX9_laysTrack_184 : decode cX9_laysTrack 184 = .ok (.ifCond .ne 4, 3) := by decide +kernel
theorem dX9_laysTrack_187 : decode cX9_laysTrack 187 = .ok (.return_, 1) := by decide +kernel
theorem dX9_laysTrack_188 : decode cX9_laysTrack 188 = .ok (.bipush 9, 2) := by decide +kernel
theorem dX9_laysTrack_190 : decode cX9_laysTrack 190 = .ok (.iload_n 1, 1) := by decide +kernel
theorem dX9_laysTrack_191 : decode cX9_laysTrack 191 = .ok (.iconst 1, 1) := by decide +kernel
theorem dX9_laysTrack_192 : decode cX9_laysTrack 192 = .ok (.isub, 1) := by decide +kernel
theorem dX9_laysTrack_193 : decode cX9_laysTrack 193 = .ok (.imul, 1) := by decide +kernel
theorem dX9_laysTrack_194 : decode cX9_laysTrack 194 = .ok (.istore_n 2, 1) := by decide +kernel
theorem dX9_laysTrack_195 : decode cX9_laysTrack 195 = .ok (.iconst 1, 1) := by decide +kernel
theorem dX9_laysTrack_196 : decode cX9_laysTrack 196 = .ok (.istore_n 3, 1) := by decide +kernel
theorem dX9_laysTrack_197 : decode cX9_laysTrack 197 = .ok (.iload_n 3, 1) := by decide +kernel
theorem dX9_laysTrack_198 : decode cX9_laysTrack 198 = .ok (.aload_n 0, 1) := by decide +kernel
theorem dX9_laysTrack_199 : decode cX9_laysTrack 199 = .ok (.getfield 38, 3) := by decide +kernel
theorem dX9_laysTrack_202 : decode cX9_laysTrack 202 = .ok (.iload_n 1, 1) := by decide +kernel
theorem dX9_laysTrack_203 : decode cX9_laysTrack 203 = .ok (.iconst 1, 1) := by decide +kernel
theorem dX9_laysTrack_204 : decode cX9_laysTrack 204 = .ok (.isub, 1) := by decide +kernel
theorem dX9_laysTrack_205 : decode cX9_laysTrack 205 = .ok (.iaload, 1) := by decide +kernel
theorem dX9_laysTrack_206 : decode cX9_laysTrack 206 = .ok (.if_icmp .ge 42, 3) := by decide +kernel
theorem dX9_laysTrack_209 : decode cX9_laysTrack 209 = .ok (.bipush 9, 2) := by decide +kernel
theorem dX9_laysTrack_211 : decode cX9_laysTrack 211 = .ok (.iload_n 1, 1) := by decide +kernel
theorem dX9_laysTrack_212 : decode cX9_laysTrack 212 = .ok (.iconst 1, 1) := by decide +kernel
theorem dX9_laysTrack_213 : decode cX9_laysTrack 213 = .ok (.isub, 1) := by decide +kernel
theorem dX9_laysTrack_214 : decode cX9_laysTrack 214 = .ok (.imul, 1) := by decide +kernel
theorem dX9_laysTrack_215 : decode cX9_laysTrack 215 = .ok (.iload_n 3, 1) := by decide +kernel
theorem dX9_laysTrack_216 : decode cX9_laysTrack 216 = .ok (.iadd, 1) := by decide +kernel
theorem dX9_laysTrack_217 : decode cX9_laysTrack 217 = .ok (.istore 4, 2) := by decide +kernel
theorem dX9_laysTrack_219 : decode cX9_laysTrack 219 = .ok (.aload_n 0, 1) := by decide +kernel
theorem dX9_laysTrack_220 : decode cX9_laysTrack 220 = .ok (.getfield 47, 3) := by decide +kernel
theorem dX9_laysTrack_223 : decode cX9_laysTrack 223 = .ok (.iload 4, 2) := by decide +kernel
theorem dX9_laysTrack_225 : decode cX9_laysTrack 225 = .ok (.iaload, 1) := by decide +kernel
theorem dX9_laysTrack_226 : decode cX9_laysTrack 226 = .ok (.aload_n 0, 1) := by decide +kernel
theorem dX9_laysTrack_227 : decode cX9_laysTrack 227 = .ok (.getfield 47, 3) := by decide +kernel
theorem dX9_laysTrack_230 : decode cX9_laysTrack 230 = .ok (.iload_n 2, 1) := by decide +kernel
theorem dX9_laysTrack_231 : decode cX9_laysTrack 231 = .ok (.iaload, 1) := by decide +kernel
theorem dX9_laysTrack_232 : decode cX9_laysTrack 232 = .ok (.if_icmp .ge 8, 3) := by decide +kernel
theorem dX9_laysTrack_235 : decode cX9_laysTrack 235 = .ok (.iload 4, 2) := by decide +kernel
theorem dX9_laysTrack_237 : decode cX9_laysTrack 237 = .ok (.goto 4, 3) := by decide +kernel
theorem dX9_laysTrack_240 : decode cX9_laysTrack 240 = .ok (.iload_n 2, 1) := by decide +kernel
theorem dX9_laysTrack_241 : decode cX9_laysTrack 241 = .ok (.istore_n 2, 1) := by decide +kernel
theorem dX9_laysTrack_242 : decode cX9_laysTrack 242 = .ok (.iinc 3 1, 3) := by decide +kernel
theorem dX9_laysTrack_245 : decode cX9_laysTrack 245 = .ok (.goto (-48), 3) := by decide +kernel
theorem dX9_laysTrack_248 : decode cX9_laysTrack 248 = .ok (.aload_n 0, 1) := by decide +kernel
theorem dX9_laysTrack_249 : decode cX9_laysTrack 249 = .ok (.aload_n 0, 1) := by decide +kernel
theorem dX9_laysTrack_250 : decode cX9_laysTrack 250 = .ok (.getfield 47, 3) := by decide +kernel
theorem dX9_laysTrack_253 : decode cX9_laysTrack 253 = .ok (.iload_n 2, 1) := by decide +kernel
theorem dX9_laysTrack_254 : decode cX9_laysTrack 254 = .ok (.iaload, 1) := by decide +kernel
theorem dX9_laysTrack_255 : decode cX9_laysTrack 255 = .ok (.putfield 115, 3) := by decide +kernel
theorem dX9_laysTrack_258 : decode cX9_laysTrack 258 = .ok (.iload_n 1, 1) := by decide +kernel
theorem dX9_laysTrack_259 : decode cX9_laysTrack 259 = .ok (.iconst 1, 1) := by decide +kernel
theorem dX9_laysTrack_260 : decode cX9_laysTrack 260 = .ok (.isub, 1) := by decide +kernel
theorem dX9_laysTrack_261 : decode cX9_laysTrack 261 = .ok (.istore_n 3, 1) := by decide +kernel
theorem dX9_laysTrack_262 : decode cX9_laysTrack 262 = .ok (.iload_n 3, 1) := by decide +kernel
theorem dX9_laysTrack_263 : decode cX9_laysTrack 263 = .ok (.ifCond .lt 28, 3) := by decide +kernel
theorem dX9_laysTrack_266 : decode cX9_laysTrack 266 = .ok (.aload_n 0, 1) := by decide +kernel
theorem dX9_laysTrack_267 : decode cX9_laysTrack 267 = .ok (.getfield 53, 3) := by decide +kernel
theorem dX9_laysTrack_270 : decode cX9_laysTrack 270 = .ok (.iload_n 3, 1) := by decide +kernel
theorem dX9_laysTrack_271 : decode cX9_laysTrack 271 = .ok (.aload_n 0, 1) := by decide +kernel
theorem dX9_laysTrack_272 : decode cX9_laysTrack 272 = .ok (.getfield 41, 3) := by decide +kernel
theorem dX9_laysTrack_275 : decode cX9_laysTrack 275 = .ok (.iload_n 2, 1) := by decide +kernel
theorem dX9_laysTrack_276 : decode cX9_laysTrack 276 = .ok (.iaload, 1) := by decide +kernel
theorem dX9_laysTrack_277 : decode cX9_laysTrack 277 = .ok (.iastore, 1) := by decide +kernel
theorem dX9_laysTrack_278 : decode cX9_laysTrack 278 = .ok (.aload_n 0, 1) := by decide +kernel
theorem dX9_laysTrack_279 : decode cX9_laysTrack 279 = .ok (.getfield 50, 3) := by decide +kernel
theorem dX9_laysTrack_282 : decode cX9_laysTrack 282 = .ok (.iload_n 2, 1) := by decide +kernel
theorem dX9_laysTrack_283 : decode cX9_laysTrack 283 = .ok (.iaload, 1) := by decide +kernel
theorem dX9_laysTrack_284 : decode cX9_laysTrack 284 = .ok (.istore_n 2, 1) := by decide +kernel
theorem dX9_laysTrack_285 : decode cX9_laysTrack 285 = .ok (.iinc 3 (-1), 3) := by decide +kernel
theorem dX9_laysTrack_288 : decode cX9_laysTrack 288 = .ok (.goto (-26), 3) := by decide +kernel
theorem dX9_laysTrack_291 : decode cX9_laysTrack 291 = .ok (.return_, 1) := by decide +kernel
theorem dX9_samples_0 : decode cX9_samples 0 = .ok (.aload_n 0, 1) := by decide +kernel
theorem dX9_samples_1 : decode cX9_samples 1 = .ok (.iconst 0, 1) := by decide +kernel
theorem dX9_samples_2 : decode cX9_samples 2 = .ok (.putfield 59, 3) := by decide +kernel
theorem dX9_samples_5 : decode cX9_samples 5 = .ok (.aload_n 0, 1) := by decide +kernel
theorem dX9_samples_6 : decode cX9_samples 6 = .ok (.getfield 62, 3) := by decide +kernel
theorem dX9_samples_9 : decode cX9_samples 9 = .ok (.ireturn, 1) := by decide +kernel
set_option maxRecDepth 20000 in
theorem ggX9_sample_X9_in : GoodIn wsX9_sample wsX9_in := goodIn_r _ [7] (by decide +kernel) (by decide +kernel)
set_option maxRecDepth 20000 in
theorem gX9_sample_X9_in : GoodIn wsX9_sample (va_wsS RX9 65 yX9_in wsX9_in) := goodIn_app (goodIn_of _ (by decide +kernel)) ggX9_sample_X9_in
theorem dX9_sample_0 : decode cX9_sample 0 = .ok (.aload_n 0, 1) := by decide +kernel
theorem dX9_sample_1 : decode cX9_sample 1 = .ok (.iload_n 1, 1) := by decide +kernel
theorem dX9_sample_2 : decode cX9_sample 2 = .ok (.iconst 0, 1) := by decide +kernel
theorem dX9_sample_3 : decode cX9_sample 3 = .ok (.aload_n 0, 1) := by decide +kernel
theorem dX9_sample_4 : decode cX9_sample 4 = .ok (.getfield 62, 3) := by decide +kernel
theorem dX9_sample_7 : decode cX9_sample 7 = .ok (.iconst 1, 1) := by decide +kernel
theorem dX9_sample_8 : decode cX9_sample 8 = .ok (.isub, 1) := by decide +kernel
theorem dX9_sample_9 : decode cX9_sample 9 = .ok (.invokestatic 65, 3) := by decide +kernel
theorem dX9_sample_12 : decode cX9_sample 12 = .ok (.ifCond .eq 7, 3) := by decide +kernel
theorem dX9_sample_15 : decode cX9_sample 15 = .ok (.iconst 0, 1) := by decide +kernel
theorem dX9_sample_16 : decode cX9_sample 16 = .ok (.goto 4, 3) := by decide +kernel
theorem dX9_sample_19 : decode cX9_sample 19 = .ok (.iconst 1, 1) := by decide +kernel
theorem dX9_sample_20 : decode cX9_sample 20 = .ok (.putfield 59, 3) := by decide +kernel
theorem dX9_sample_23 : decode cX9_sample 23 = .ok (.aload_n 0, 1) := by decide +kernel
theorem dX9_sample_24 : decode cX9_sample 24 = .ok (.getfield 59, 3) := by decide +kernel
theorem dX9_sample_27 : decode cX9_sample 27 = .ok (.ifCond .le 7, 3) := by decide +kernel
theorem dX9_sample_30 : decode cX9_sample 30 = .ok (.iconst 0, 1) := by decide +kernel
theorem dX9_sample_31 : decode cX9_sample 31 = .ok (.goto 9, 3) := by decide +kernel
theorem dX9_sample_34 : decode cX9_sample 34 = .ok (.aload_n 0, 1) := by decide +kernel
theorem dX9_sample_35 : decode cX9_sample 35 = .ok (.getfield 7, 3) := by decide +kernel
theorem dX9_sample_38 : decode cX9_sample 38 = .ok (.iload_n 1, 1) := by decide +kernel
theorem dX9_sample_39 : decode cX9_sample 39 = .ok (.iaload, 1) := by decide +kernel
theorem dX9_sample_40 : decode cX9_sample 40 = .ok (.ireturn, 1) := by decide +kernel
set_option maxRecDepth 20000 in
theorem ggX9_frames_X9_manyFrames : GoodIn wsX9_frames wsX9_manyFrames := goodIn_r _ [6, 7, 8, 9, 10, 11, 12, 13, 14, 15, 16, 17, 18, 19, 20, 21, 22, 23, 24, 25, 26, 27, 28, 29] (by decide +kernel) (by decide +kernel)
set_option maxRecDepth 20000 in
theorem gX9_frames_X9_manyFrames : GoodIn wsX9_frames (wsV RX9 81 RX9 yX9_manyFrames wsX9_manyFrames) := goodIn_app (goodIn_of _ (by decide +kernel)) ggX9_frames_X9_manyFrames
theorem dX9_frames_0 : decode cX9_frames 0 = .ok (.aload_n 0, 1) := by decide +kernel
theorem dX9_frames_1 : decode cX9_frames 1 = .ok (.iconst 0, 1) := by decide +kernel
theorem dX9_frames_2 : decode cX9_frames 2 = .ok (.putfield 59, 3) := by decide +kernel
theorem dX9_frames_5 : decode cX9_frames 5 = .ok (.aload_n 0, 1) := by decide +kernel
theorem dX9_frames_6 : decode cX9_frames 6 = .ok (.invokevirtual 81, 3) := by decide +kernel
theorem dX9_frames_9 : decode cX9_frames 9 = .ok (.ireturn, 1) := by decide +kernel
set_option maxRecDepth 20000 in
theorem ggX9_energy_X9_isFrame : GoodIn wsX9_energy wsX9_isFrame := goodIn_r _ [6, 7, 8, 9, 5, 10, 11, 12, 13, 14, 20, 21, 22, 23, 24, 25, 26, 27, 28, 29, 30, 31, 32, 33, 34, 35, 36, 37, 38, 39, 40, 41] (by decide +kernel) (by decide +kernel)
set_option maxRecDepth 20000 in
theorem gX9_energy_X9_isFrame : GoodIn wsX9_energy (wsV RX9 125 RX9 yX9_isFrame wsX9_isFrame) := goodIn_app (goodIn_of _ (by decide +kernel)) ggX9_energy_X9_isFrame
set_option maxRecDepth 20000 in
theorem ggX9_energy_X9_in : GoodIn wsX9_energy wsX9_in := goodIn_r _ [14] (by decide +kernel) (by decide +kernel)
set_option maxRecDepth 20000 in
theorem gX9_energy_X9_in : GoodIn wsX9_energy (va_wsS RX9 65 yX9_in wsX9_in) := goodIn_app (goodIn_of _ (by decide +kernel)) ggX9_energy_X9_in
set_option maxRecDepth 20000 in
theorem ggX9_energy_X9_energyOf : GoodIn wsX9_energy wsX9_energyOf := goodIn_r _ [18, 19, 20, 21, 22, 23, 24, 25, 26, 27, 28, 29, 30, 31, 32, 33, 34, 35, 36, 37, 38, 39, 40, 41] (by decide +kernel) (by decide +kernel)
set_option maxRecDepth 20000 in
theorem gX9_energy_X9_energyOf : GoodIn wsX9_energy (wsV RX9 128 RX9 yX9_energyOf wsX9_energyOf) := goodIn_app (goodIn_of _ (by decide +kernel)) ggX9_energy_X9_energyOf
theorem dX9_energy_0 : decode cX9_energy 0 = .ok (.aload_n 0, 1) := by decide +kernel
theorem dX9_energy_1 : decode cX9_energy 1 = .ok (.aload_n 0, 1) := by decide +kernel
theorem dX9_energy_2 : decode cX9_energy 2 = .ok (.iload_n 1, 1) := by decide +kernel
theorem dX9_energy_3 : decode cX9_energy 3 = .ok (.invokevirtual 125, 3) := by decide +kernel
theorem dX9_energy_6 : decode cX9_energy 6 = .ok (.ifCond .ne 7, 3) := by decide +kernel
theorem dX9_energy_9 : decode cX9_energy 9 = .ok (.iconst 1, 1) := by decide +kernel
theorem dX9_energy_10 : decode cX9_energy 10 = .ok (.goto 18, 3) := by decide +kernel
theorem dX9_energy_13 : decode cX9_energy 13 = .ok (.iload_n 2, 1) := by decide +kernel
theorem dX9_energy_14 : decode cX9_energy 14 = .ok (.iconst 0, 1) := by decide +kernel
theorem dX9_energy_15 : decode cX9_energy 15 = .ok (.bipush 64, 2) := by decide +kernel
theorem dX9_energy_17 : decode cX9_energy 17 = .ok (.invokestatic 65, 3) := by decide +kernel
theorem dX9_energy_20 : decode cX9_energy 20 = .ok (.ifCond .eq 7, 3) := by decide +kernel
theorem dX9_energy_23 : decode cX9_energy 23 = .ok (.iconst 0, 1) := by decide +kernel
theorem dX9_energy_24 : decode cX9_energy 24 = .ok (.goto 4, 3) := by decide +kernel
theorem dX9_energy_27 : decode cX9_energy 27 = .ok (.iconst 2, 1) := by decide +kernel
theorem dX9_energy_28 : decode cX9_energy 28 = .ok (.putfield 59, 3) := by decide +kernel
theorem dX9_energy_31 : decode cX9_energy 31 = .ok (.aload_n 0, 1) := by decide +kernel
theorem dX9_energy_32 : decode cX9_energy 32 = .ok (.getfield 59, 3) := by decide +kernel
theorem dX9_energy_35 : decode cX9_energy 35 = .ok (.ifCond .le 7, 3) := by decide +kernel
theorem dX9_energy_38 : decode cX9_energy 38 = .ok (.iconst 0, 1) := by decide +kernel
theorem dX9_energy_39 : decode cX9_energy 39 = .ok (.goto 9, 3) := by decide +kernel
theorem dX9_energy_42 : decode cX9_energy 42 = .ok (.aload_n 0, 1) := by decide +kernel
theorem dX9_energy_43 : decode cX9_energy 43 = .ok (.iload_n 1, 1) := by decide +kernel
theorem dX9_energy_44 : decode cX9_energy 44 = .ok (.iload_n 2, 1) := by decide +kernel
theorem dX9_energy_45 : decode cX9_energy 45 = .ok (.invokevirtual 128, 3) := by decide +kernel
theorem dX9_energy_48 : decode cX9_energy 48 = .ok (.ireturn, 1) := by decide +kernel
set_option maxRecDepth 20000 in
theorem ggX9_asksLag_X9_isFrame : GoodIn wsX9_asksLag wsX9_isFrame := goodIn_r _ [6, 7, 8, 9, 5, 10, 11, 12, 13, 14, 15, 16, 17, 18, 19, 20, 21, 22, 23, 24, 25, 26, 27, 28, 29, 30, 31, 32, 33, 34, 35, 36] (by decide +kernel) (by decide +kernel)
set_option maxRecDepth 20000 in
theorem gX9_asksLag_X9_isFrame : GoodIn wsX9_asksLag (wsV RX9 125 RX9 yX9_isFrame wsX9_isFrame) := goodIn_app (goodIn_of _ (by decide +kernel)) ggX9_asksLag_X9_isFrame
set_option maxRecDepth 20000 in
theorem ggX9_asksLag_X9_in : GoodIn wsX9_asksLag wsX9_in := goodIn_r _ [14] (by decide +kernel) (by decide +kernel)
set_option maxRecDepth 20000 in
theorem gX9_asksLag_X9_in : GoodIn wsX9_asksLag (va_wsS RX9 65 yX9_in wsX9_in) := goodIn_app (goodIn_of _ (by decide +kernel)) ggX9_asksLag_X9_in
theorem dX9_asksLag_0 : decode cX9_asksLag 0 = .ok (.aload_n 0, 1) := by decide +kernel
theorem dX9_asksLag_1 : decode cX9_asksLag 1 = .ok (.aload_n 0, 1) := by decide +kernel
theorem dX9_asksLag_2 : decode cX9_asksLag 2 = .ok (.iload_n 1, 1) := by decide +kernel
theorem dX9_asksLag_3 : decode cX9_asksLag 3 = .ok (.invokevirtual 125, 3) := by decide +kernel
theorem dX9_asksLag_6 : decode cX9_asksLag 6 = .ok (.ifCond .ne 7, 3) := by decide +kernel
theorem dX9_asksLag_9 : decode cX9_asksLag 9 = .ok (.iconst 1, 1) := by decide +kernel
theorem dX9_asksLag_10 : decode cX9_asksLag 10 = .ok (.goto 18, 3) := by decide +kernel
theorem dX9_asksLag_13 : decode cX9_asksLag 13 = .ok (.iload_n 2, 1) := by decide +kernel
theorem dX9_asksLag_14 : decode cX9_asksLag 14 = .ok (.iconst 1, 1) := by decide +kernel
theorem dX9_asksLag_15 : decode cX9_asksLag 15 = .ok (.bipush 64, 2) := by decide +kernel
theorem dX9_asksLag_17 : decode cX9_asksLag 17 = .ok (.invokestatic 65, 3) := by decide +kernel
theorem dX9_asksLag_20 : decode cX9_asksLag 20 = .ok (.ifCond .eq 7, 3) := by decide +kernel
theorem dX9_asksLag_23 : decode cX9_asksLag 23 = .ok (.iconst 0, 1) := by decide +kernel
theorem dX9_asksLag_24 : decode cX9_asksLag 24 = .ok (.goto 4, 3) := by decide +kernel
theorem dX9_asksLag_27 : decode cX9_asksLag 27 = .ok (.iconst 2, 1) := by decide +kernel
theorem dX9_asksLag_28 : decode cX9_asksLag 28 = .ok (.putfield 59, 3) := by decide +kernel
theorem dX9_asksLag_31 : decode cX9_asksLag 31 = .ok (.aload_n 0, 1) := by decide +kernel
theorem dX9_asksLag_32 : decode cX9_asksLag 32 = .ok (.getfield 59, 3) := by decide +kernel
theorem dX9_asksLag_35 : decode cX9_asksLag 35 = .ok (.ifCond .ne 7, 3) := by decide +kernel
theorem dX9_asksLag_38 : decode cX9_asksLag 38 = .ok (.iconst 1, 1) := by decide +kernel
theorem dX9_asksLag_39 : decode cX9_asksLag 39 = .ok (.goto 4, 3) := by decide +kernel
theorem dX9_asksLag_42 : decode cX9_asksLag 42 = .ok (.iconst 0, 1) := by decide +kernel
theorem dX9_asksLag_43 : decode cX9_asksLag 43 = .ok (.ireturn, 1) := by decide +kernel
set_option maxRecDepth 20000 in
theorem ggX9_autocorrelation_X9_asksLag : GoodIn wsX9_autocorrelation wsX9_asksLag := goodIn_r _ [5, 6, 7, 8, 9, 4, 10, 11, 12, 13, 14, 15, 16, 17, 18, 24, 25, 26, 27, 28, 29, 30, 31, 32, 33, 34, 35, 36, 37, 38, 39, 40, 41, 42, 43, 44, 45] (by decide +kernel) (by decide +kernel)
set_option maxRecDepth 20000 in
theorem gX9_autocorrelation_X9_asksLag : GoodIn wsX9_autocorrelation (wsV RX9 131 RX9 yX9_asksLag wsX9_asksLag) := goodIn_app (goodIn_of _ (by decide +kernel)) ggX9_autocorrelation_X9_asksLag
set_option maxRecDepth 20000 in
theorem ggX9_autocorrelation_X9_correlation : GoodIn wsX9_autocorrelation wsX9_correlation := goodIn_r _ [22, 23, 24, 25, 26, 27, 28, 29, 30, 31, 32, 33, 34, 35, 36, 37, 38, 39, 40, 41, 42, 43, 44, 45] (by decide +kernel) (by decide +kernel)
set_option maxRecDepth 20000 in
theorem gX9_autocorrelation_X9_correlation : GoodIn wsX9_autocorrelation (wsV RX9 134 RX9 yX9_correlation wsX9_correlation) := goodIn_app (goodIn_of _ (by decide +kernel)) ggX9_autocorrelation_X9_correlation
theorem dX9_autocorrelation_0 : decode cX9_autocorrelation 0 = .ok (.aload_n 0, 1) := by decide +kernel
theorem dX9_autocorrelation_1 : decode cX9_autocorrelation 1 = .ok (.iload_n 1, 1) := by decide +kernel
theorem dX9_autocorrelation_2 : decode cX9_autocorrelation 2 = .ok (.iload_n 2, 1) := by decide +kernel
theorem dX9_autocorrelation_3 : decode cX9_autocorrelation 3 = .ok (.invokevirtual 131, 3) := by decide +kernel
theorem dX9_autocorrelation_6 : decode cX9_autocorrelation 6 = .ok (.ifCond .eq 12, 3) := by decide +kernel
theorem dX9_autocorrelation_9 : decode cX9_autocorrelation 9 = .ok (.aload_n 0, 1) := by decide +kernel
theorem dX9_autocorrelation_10 : decode cX9_autocorrelation 10 = .ok (.iload_n 1, 1) := by decide +kernel
theorem dX9_autocorrelation_11 : decode cX9_autocorrelation 11 = .ok (.iload_n 2, 1) := by decide +kernel
theorem dX9_autocorrelation_12 : decode cX9_autocorrelation 12 = .ok (.invokevirtual 134, 3) := by decide +kernel
theorem dX9_autocorrelation_15 : decode cX9_autocorrelation 15 = .ok (.goto 4, 3) := by decide +kernel
theorem dX9_autocorrelation_18 : decode cX9_autocorrelation 18 = .ok (.iconst 0, 1) := by decide +kernel
theorem dX9_autocorrelation_19 : decode cX9_autocorrelation 19 = .ok (.ireturn, 1) := by decide +kernel
set_option maxRecDepth 20000 in
theorem ggX9_difference_X9_asksLag : GoodIn wsX9_difference wsX9_asksLag := goodIn_r _ [5, 6, 7, 8, 9, 4, 10, 11, 12, 13, 14, 15, 16, 17, 18, 24, 25, 26, 27, 28, 29, 30, 31, 32, 33, 34, 35, 36, 37, 38, 39, 40, 41, 42, 43, 44, 45] (by decide +kernel) (by decide +kernel)
set_option maxRecDepth 20000 in
theorem gX9_difference_X9_asksLag : GoodIn wsX9_difference (wsV RX9 131 RX9 yX9_asksLag wsX9_asksLag) := goodIn_app (goodIn_of _ (by decide +kernel)) ggX9_difference_X9_asksLag
set_option maxRecDepth 20000 in
theorem ggX9_difference_X9_differenceOf : GoodIn wsX9_difference wsX9_differenceOf := goodIn_r _ [22, 23, 24, 25, 26, 27, 28, 29, 30, 31, 32, 33, 34, 35, 36, 37, 38, 39, 40, 41, 42, 43, 44, 45] (by decide +kernel) (by decide +kernel)
set_option maxRecDepth 20000 in
theorem gX9_difference_X9_differenceOf : GoodIn wsX9_difference (wsV RX9 85 RX9 yX9_differenceOf wsX9_differenceOf) := goodIn_app (goodIn_of _ (by decide +kernel)) ggX9_difference_X9_differenceOf
theorem dX9_difference_0 : decode cX9_difference 0 = .ok (.aload_n 0, 1) := by decide +kernel
theorem dX9_difference_1 : decode cX9_difference 1 = .ok (.iload_n 1, 1) := by decide +kernel
theorem dX9_difference_2 : decode cX9_difference 2 = .ok (.iload_n 2, 1) := by decide +kernel
theorem dX9_difference_3 : decode cX9_difference 3 = .ok (.invokevirtual 131, 3) := by decide +kernel
theorem dX9_difference_6 : decode cX9_difference 6 = .ok (.ifCond .eq 12, 3) := by decide +kernel
theorem dX9_difference_9 : decode cX9_difference 9 = .ok (.aload_n 0, 1) := by decide +kernel
theorem dX9_difference_10 : decode cX9_difference 10 = .ok (.iload_n 1, 1) := by decide +kernel
theorem dX9_difference_11 : decode cX9_difference 11 = .ok (.iload_n 2, 1) := by decide +kernel
theorem dX9_difference_12 : decode cX9_difference 12 = .ok (.invokevirtual 85, 3) := by decide +kernel
theorem dX9_difference_15 : decode cX9_difference 15 = .ok (.goto 4, 3) := by decide +kernel
theorem dX9_difference_18 : decode cX9_difference 18 = .ok (.iconst 0, 1) := by decide +kernel
theorem dX9_difference_19 : decode cX9_difference 19 = .ok (.ireturn, 1) := by decide +kernel
set_option maxRecDepth 20000 in
theorem ggX9_meanDifference_X9_asksLag : GoodIn wsX9_meanDifference wsX9_asksLag := goodIn_r _ [5, 6, 7, 8, 9, 4, 10, 11, 12, 13, 14, 15, 16, 17, 18, 43, 44, 45, 46, 47, 48, 49, 50, 51, 52, 53, 54, 55, 56, 57, 58, 59, 60, 61, 62, 63, 64] (by decide +kernel) (by decide +kernel)
set_option maxRecDepth 20000 in
theorem gX9_meanDifference_X9_asksLag : GoodIn wsX9_meanDifference (wsV RX9 131 RX9 yX9_asksLag wsX9_asksLag) := goodIn_app (goodIn_of _ (by decide +kernel)) ggX9_meanDifference_X9_asksLag
set_option maxRecDepth 20000 in
theorem ggX9_meanDifference_X9_lays : GoodIn wsX9_meanDifference wsX9_lays := goodIn_r _ [22, 23, 24, 25, 26, 27, 4, 28, 29, 43, 44, 45, 46, 47, 48, 49, 50, 51, 52, 53, 54, 55, 56, 57, 58, 59, 60, 61, 62, 63, 64] (by decide +kernel) (by decide +kernel)
set_option maxRecDepth 20000 in
theorem gX9_meanDifference_X9_lays : GoodIn wsX9_meanDifference (wsV RX9 104 RX9 yX9_lays wsX9_lays) := goodIn_app (goodIn_of _ (by decide +kernel)) ggX9_meanDifference_X9_lays
set_option maxRecDepth 20000 in
theorem ggX9_meanDifference_X9_mean : GoodIn wsX9_meanDifference wsX9_mean := goodIn_r _ [33, 34, 35, 36, 37, 4, 38, 23, 24, 39, 40, 41, 42, 43, 44, 45, 46, 47, 48, 49, 50, 51, 52, 53, 54, 55, 56, 57, 58, 59, 60, 61, 62, 63, 64] (by decide +kernel) (by decide +kernel)
set_option maxRecDepth 20000 in
theorem gX9_meanDifference_X9_mean : GoodIn wsX9_meanDifference (wsV RX9 111 RX9 yX9_mean wsX9_mean) := goodIn_app (goodIn_of _ (by decide +kernel)) ggX9_meanDifference_X9_mean
theorem dX9_meanDifference_0 : decode cX9_meanDifference 0 = .ok (.aload_n 0, 1) := by decide +kernel
theorem dX9_meanDifference_1 : decode cX9_meanDifference 1 = .ok (.iload_n 1, 1) := by decide +kernel
theorem dX9_meanDifference_2 : decode cX9_meanDifference 2 = .ok (.iload_n 2, 1) := by decide +kernel
theorem dX9_meanDifference_3 : decode cX9_meanDifference 3 = .ok (.invokevirtual 131, 3) := by decide +kernel
theorem dX9_meanDifference_6 : decode cX9_meanDifference 6 = .ok (.ifCond .ne 5, 3) := by decide +kernel
theorem dX9_meanDifference_9 : decode cX9_meanDifference 9 = .ok (.iconst 0, 1) := by decide +kernel
theorem dX9_meanDifference_10 : decode cX9_meanDifference 10 = .ok (.ireturn, 1) := by decide +kernel
theorem dX9_meanDifference_11 : decode cX9_meanDifference 11 = .ok (.aload_n 0, 1) := by decide +kernel
theorem dX9_meanDifference_12 : decode cX9_meanDifference 12 = .ok (.iload_n 1, 1) := by decide +kernel
theorem dX9_meanDifference_13 : decode cX9_meanDifference 13 = .ok (.invokevirtual 104, 3) := by decide +kernel
theorem dX9_meanDifference_16 : decode cX9_meanDifference 16 = .ok (.aload_n 0, 1) := by decide +kernel
theorem dX9_meanDifference_17 : decode cX9_meanDifference 17 = .ok (.iload_n 2, 1) := by decide +kernel
theorem dX9_meanDifference_18 : decode cX9_meanDifference 18 = .ok (.invokevirtual 111, 3) := by decide +kernel
theorem dX9_meanDifference_21 : decode cX9_meanDifference 21 = .ok (.ireturn, 1) := by decide +kernel
set_option maxRecDepth 20000 in
theorem ggX9_asks_X9_isFrame : GoodIn wsX9_asks wsX9_isFrame := goodIn_r _ [6, 7, 8, 9, 5, 10, 11, 12, 13, 14, 15, 16, 17, 18, 19, 20, 21, 22, 23, 24, 25, 26, 27, 28, 29, 30, 31, 32, 33, 34, 35, 36] (by decide +kernel) (by decide +kernel)
set_option maxRecDepth 20000 in
theorem gX9_asks_X9_isFrame : GoodIn wsX9_asks (wsV RX9 125 RX9 yX9_isFrame wsX9_isFrame) := goodIn_app (goodIn_of _ (by decide +kernel)) ggX9_asks_X9_isFrame
theorem dX9_asks_0 : decode cX9_asks 0 = .ok (.aload_n 0, 1) := by decide +kernel
theorem dX9_asks_1 : decode cX9_asks 1 = .ok (.aload_n 0, 1) := by decide +kernel
theorem dX9_asks_2 : decode cX9_asks 2 = .ok (.iload_n 1, 1) := by decide +kernel
theorem dX9_asks_3 : decode cX9_asks 3 = .ok (.invokevirtual 125, 3) := by decide +kernel
theorem dX9_asks_6 : decode cX9_asks 6 = .ok (.ifCond .eq 7, 3) := by decide +kernel
theorem dX9_asks_9 : decode cX9_asks 9 = .ok (.iconst 0, 1) := by decide +kernel
theorem dX9_asks_10 : decode cX9_asks 10 = .ok (.goto 4, 3) := by decide +kernel
theorem dX9_asks_13 : decode cX9_asks 13 = .ok (.iconst 1, 1) := by decide +kernel
theorem dX9_asks_14 : decode cX9_asks 14 = .ok (.putfield 59, 3) := by decide +kernel
theorem dX9_asks_17 : decode cX9_asks 17 = .ok (.aload_n 0, 1) := by decide +kernel
theorem dX9_asks_18 : decode cX9_asks 18 = .ok (.getfield 59, 3) := by decide +kernel
theorem dX9_asks_21 : decode cX9_asks 21 = .ok (.ifCond .ne 7, 3) := by decide +kernel
theorem dX9_asks_24 : decode cX9_asks 24 = .ok (.iconst 1, 1) := by decide +kernel
theorem dX9_asks_25 : decode cX9_asks 25 = .ok (.goto 4, 3) := by decide +kernel
theorem dX9_asks_28 : decode cX9_asks 28 = .ok (.iconst 0, 1) := by decide +kernel
theorem dX9_asks_29 : decode cX9_asks 29 = .ok (.ireturn, 1) := by decide +kernel
set_option maxRecDepth 20000 in
theorem ggX9_candidates_X9_asks : GoodIn wsX9_candidates wsX9_asks := goodIn_r _ [6, 7, 8, 9, 10, 5, 11, 12, 13, 14, 15, 16, 17, 18, 19, 61, 62, 63, 64, 65, 66, 67, 68, 69, 70, 71, 72, 73, 74, 75, 76, 77, 78, 79, 80, 81, 82] (by decide +kernel) (by decide +kernel)
set_option maxRecDepth 20000 in
theorem gX9_candidates_X9_asks : GoodIn wsX9_candidates (wsV RX9 137 RX9 yX9_asks wsX9_asks) := goodIn_app (goodIn_of _ (by decide +kernel)) ggX9_candidates_X9_asks
set_option maxRecDepth 20000 in
theorem ggX9_candidates_X9_laysCandidates : GoodIn wsX9_candidates wsX9_laysCandidates := goodIn_r _ [23, 1, 24, 25, 26, 27, 28, 29, 5, 30, 31, 32, 33, 34, 35, 36, 37, 38, 39, 40, 41, 42, 43, 44, 45, 46, 47, 48, 49, 50, 51, 52, 53, 54, 55, 56, 57, 58, 59, 60, 61, 62, 63, 64, 65, 66, 67, 68, 69, 70, 71, 72, 73, 74, 75, 76, 77, 78, 79, 80, 81, 82] (by decide +kernel) (by decide +kernel)
set_option maxRecDepth 20000 in
theorem gX9_candidates_X9_laysCandidates : GoodIn wsX9_candidates (wsV RX9 118 RX9 yX9_laysCandidates wsX9_laysCandidates) := goodIn_app (goodIn_of _ (by decide +kernel)) ggX9_candidates_X9_laysCandidates
theorem dX9_candidates_0 : decode cX9_candidates 0 = .ok (.aload_n 0, 1) := by decide +kernel
theorem dX9_candidates_1 : decode cX9_candidates 1 = .ok (.iload_n 1, 1) := by decide +kernel
theorem dX9_candidates_2 : decode cX9_candidates 2 = .ok (.invokevirtual 137, 3) := by decide +kernel
theorem dX9_candidates_5 : decode cX9_candidates 5 = .ok (.ifCond .ne 5, 3) := by decide +kernel
theorem dX9_candidates_8 : decode cX9_candidates 8 = .ok (.iconst 0, 1) := by decide +kernel
theorem dX9_candidates_9 : decode cX9_candidates 9 = .ok (.ireturn, 1) := by decide +kernel
theorem dX9_candidates_10 : decode cX9_candidates 10 = .ok (.aload_n 0, 1) := by decide +kernel
theorem dX9_candidates_11 : decode cX9_candidates 11 = .ok (.iload_n 1, 1) := by decide +kernel
theorem dX9_candidates_12 : decode cX9_candidates 12 = .ok (.invokevirtual 118, 3) := by decide +kernel
theorem dX9_candidates_15 : decode cX9_candidates 15 = .ok (.aload_n 0, 1) := by decide +kernel
theorem dX9_candidates_16 : decode cX9_candidates 16 = .ok (.getfield 38, 3) := by decide +kernel
theorem dX9_candidates_19 : decode cX9_candidates 19 = .ok (.iload_n 1, 1) := by decide +kernel
theorem dX9_candidates_20 : decode cX9_candidates 20 = .ok (.iaload, 1) := by decide +kernel
theorem dX9_candidates_21 : decode cX9_candidates 21 = .ok (.iconst 1, 1) := by decide +kernel
theorem dX9_candidates_22 : decode cX9_candidates 22 = .ok (.isub, 1) := by decide +kernel
theorem dX9_candidates_23 : decode cX9_candidates 23 = .ok (.ireturn, 1) := by decide +kernel
set_option maxRecDepth 20000 in
theorem ggX9_candidateLag_X9_asks : GoodIn wsX9_candidateLag wsX9_asks := goodIn_r _ [8, 2, 9, 10, 11, 7, 12, 13, 14, 15, 16, 17, 18, 19, 20, 61, 62, 63, 64, 65, 66, 67, 68, 69, 70, 71, 72, 73, 74, 75, 76, 77, 78, 79, 80, 81, 82] (by decide +kernel) (by decide +kernel)
set_option maxRecDepth 20000 in
theorem gX9_candidateLag_X9_asks : GoodIn wsX9_candidateLag (wsV RX9 137 RX9 yX9_asks wsX9_asks) := goodIn_app (goodIn_of _ (by decide +kernel)) ggX9_candidateLag_X9_asks
set_option maxRecDepth 20000 in
theorem ggX9_candidateLag_X9_laysCandidates : GoodIn wsX9_candidateLag wsX9_laysCandidates := goodIn_r _ [24, 1, 3, 25, 26, 27, 28, 29, 7, 30, 31, 32, 33, 34, 35, 36, 37, 38, 39, 40, 41, 42, 43, 44, 45, 46, 47, 48, 49, 50, 51, 52, 53, 54, 55, 56, 57, 58, 59, 60, 61, 62, 63, 64, 65, 66, 67, 68, 69, 70, 71, 72, 73, 74, 75, 76, 77, 78, 79, 80, 81, 82] (by decide +kernel) (by decide +kernel)
set_option maxRecDepth 20000 in
theorem gX9_candidateLag_X9_laysCandidates : GoodIn wsX9_candidateLag (wsV RX9 118 RX9 yX9_laysCandidates wsX9_laysCandidates) := goodIn_app (goodIn_of _ (by decide +kernel)) ggX9_candidateLag_X9_laysCandidates
set_option maxRecDepth 20000 in
theorem ggX9_candidateLag_X9_in : GoodIn wsX9_candidateLag wsX9_in := goodIn_r _ [20] (by decide +kernel) (by decide +kernel)
set_option maxRecDepth 20000 in
theorem gX9_candidateLag_X9_in : GoodIn wsX9_candidateLag (va_wsS RX9 65 yX9_in wsX9_in) := goodIn_app (goodIn_of _ (by decide +kernel)) ggX9_candidateLag_X9_in
theorem dX9_candidateLag_0 : decode cX9_candidateLag 0 = .ok (.aload_n 0, 1) := by decide +kernel
theorem dX9_candidateLag_1 : decode cX9_candidateLag 1 = .ok (.iload_n 1, 1) := by decide +kernel
theorem dX9_candidateLag_2 : decode cX9_candidateLag 2 = .ok (.invokevirtual 137, 3) := by decide +kernel
theorem dX9_candidateLag_5 : decode cX9_candidateLag 5 = .ok (.ifCond .ne 5, 3) := by decide +kernel
theorem dX9_candidateLag_8 : decode cX9_candidateLag 8 = .ok (.iconst 0, 1) := by decide +kernel
theorem dX9_candidateLag_9 : decode cX9_candidateLag 9 = .ok (.ireturn, 1) := by decide +kernel
theorem dX9_candidateLag_10 : decode cX9_candidateLag 10 = .ok (.aload_n 0, 1) := by decide +kernel
theorem dX9_candidateLag_11 : decode cX9_candidateLag 11 = .ok (.iload_n 1, 1) := by decide +kernel
theorem dX9_candidateLag_12 : decode cX9_candidateLag 12 = .ok (.invokevirtual 118, 3) := by decide +kernel
theorem dX9_candidateLag_15 : decode cX9_candidateLag 15 = .ok (.aload_n 0, 1) := by decide +kernel
theorem dX9_candidateLag_16 : decode cX9_candidateLag 16 = .ok (.iload_n 2, 1) := by decide +kernel
theorem dX9_candidateLag_17 : decode cX9_candidateLag 17 = .ok (.iconst 0, 1) := by decide +kernel
theorem dX9_candidateLag_18 : decode cX9_candidateLag 18 = .ok (.aload_n 0, 1) := by decide +kernel
theorem dX9_candidateLag_19 : decode cX9_candidateLag 19 = .ok (.getfield 38, 3) := by decide +kernel
theorem dX9_candidateLag_22 : decode cX9_candidateLag 22 = .ok (.iload_n 1, 1) := by decide +kernel
theorem dX9_candidateLag_23 : decode cX9_candidateLag 23 = .ok (.iaload, 1) := by decide +kernel
theorem dX9_candidateLag_24 : decode cX9_candidateLag 24 = .ok (.iconst 2, 1) := by decide +kernel
theorem dX9_candidateLag_25 : decode cX9_candidateLag 25 = .ok (.isub, 1) := by decide +kernel
theorem dX9_candidateLag_26 : decode cX9_candidateLag 26 = .ok (.invokestatic 65, 3) := by decide +kernel
theorem dX9_candidateLag_29 : decode cX9_candidateLag 29 = .ok (.ifCond .eq 7, 3) := by decide +kernel
theorem dX9_candidateLag_32 : decode cX9_candidateLag 32 = .ok (.iconst 0, 1) := by decide +kernel
theorem dX9_candidateLag_33 : decode cX9_candidateLag 33 = .ok (.goto 4, 3) := by decide +kernel
theorem dX9_candidateLag_36 : decode cX9_candidateLag 36 = .ok (.iconst 1, 1) := by decide +kernel
theorem dX9_candidateLag_37 : decode cX9_candidateLag 37 = .ok (.putfield 59, 3) := by decide +kernel
theorem dX9_candidateLag_40 : decode cX9_candidateLag 40 = .ok (.aload_n 0, 1) := by decide +kernel
theorem dX9_candidateLag_41 : decode cX9_candidateLag 41 = .ok (.getfield 59, 3) := by decide +kernel
theorem dX9_candidateLag_44 : decode cX9_candidateLag 44 = .ok (.ifCond .le 7, 3) := by decide +kernel
theorem dX9_candidateLag_47 : decode cX9_candidateLag 47 = .ok (.iconst 0, 1) := by decide +kernel
theorem dX9_candidateLag_48 : decode cX9_candidateLag 48 = .ok (.goto 16, 3) := by decide +kernel
theorem dX9_candidateLag_51 : decode cX9_candidateLag 51 = .ok (.aload_n 0, 1) := by decide +kernel
theorem dX9_candidateLag_52 : decode cX9_candidateLag 52 = .ok (.getfield 41, 3) := by decide +kernel
theorem dX9_candidateLag_55 : decode cX9_candidateLag 55 = .ok (.bipush 9, 2) := by decide +kernel
theorem dX9_candidateLag_57 : decode cX9_candidateLag 57 = .ok (.iload_n 1, 1) := by decide +kernel
theorem dX9_candidateLag_58 : decode cX9_candidateLag 58 = .ok (.imul, 1) := by decide +kernel
theorem dX9_candidateLag_59 : decode cX9_candidateLag 59 = .ok (.iconst 1, 1) := by decide +kernel
theorem dX9_candidateLag_60 : decode cX9_candidateLag 60 = .ok (.iadd, 1) := by decide +kernel
theorem dX9_candidateLag_61 : decode cX9_candidateLag 61 = .ok (.iload_n 2, 1) := by decide +kernel
theorem dX9_candidateLag_62 : decode cX9_candidateLag 62 = .ok (.iadd, 1) := by decide +kernel
theorem dX9_candidateLag_63 : decode cX9_candidateLag 63 = .ok (.iaload, 1) := by decide +kernel
theorem dX9_candidateLag_64 : decode cX9_candidateLag 64 = .ok (.ireturn, 1) := by decide +kernel
set_option maxRecDepth 20000 in
theorem ggX9_trackCost_X9_laysTrack : GoodIn wsX9_trackCost wsX9_laysTrack := goodIn_r _ [7, 2, 8, 9, 10, 11, 12, 13, 14, 15, 16, 17, 6, 18, 19, 20, 21, 22, 23, 24, 25, 26, 27, 28, 29, 30, 31, 32, 33, 34, 35, 36, 37, 38, 39, 40, 41, 42, 43, 44, 45, 46, 47, 48, 49, 50, 51, 52, 53, 54, 55, 56, 57, 58, 59, 60, 61, 62, 63, 64, 65, 66, 67, 68, 69, 70, 71, 72, 73, 74, 75, 76, 77, 78, 79, 80, 81, 82, 83, 84, 85, 86] (by decide +kernel) (by decide +kernel)
set_option maxRecDepth 20000 in
theorem gX9_trackCost_X9_laysTrack : GoodIn wsX9_trackCost (wsV RX9 140 RX9 yX9_laysTrack wsX9_laysTrack) := goodIn_app (goodIn_of _ (by decide +kernel)) ggX9_trackCost_X9_laysTrack
theorem dX9_trackCost_0 : decode cX9_trackCost 0 = .ok (.aload_n 0, 1) := by decide +kernel
theorem dX9_trackCost_1 : decode cX9_trackCost 1 = .ok (.iconst 0, 1) := by decide +kernel
theorem dX9_trackCost_2 : decode cX9_trackCost 2 = .ok (.putfield 59, 3) := by decide +kernel
theorem dX9_trackCost_5 : decode cX9_trackCost 5 = .ok (.aload_n 0, 1) := by decide +kernel
theorem dX9_trackCost_6 : decode cX9_trackCost 6 = .ok (.invokevirtual 140, 3) := by decide +kernel
theorem dX9_trackCost_9 : decode cX9_trackCost 9 = .ok (.aload_n 0, 1) := by decide +kernel
theorem dX9_trackCost_10 : decode cX9_trackCost 10 = .ok (.getfield 115, 3) := by decide +kernel
theorem dX9_trackCost_13 : decode cX9_trackCost 13 = .ok (.ireturn, 1) := by decide +kernel
set_option maxRecDepth 20000 in
theorem ggX9_lag_X9_asks : GoodIn wsX9_lag wsX9_asks := goodIn_r _ [6, 7, 8, 9, 10, 5, 11, 12, 13, 14, 15, 16, 17, 18, 19, 76, 77, 78, 79, 80, 81, 82, 83, 84, 85, 86, 87, 88, 89, 90, 91, 92, 93, 94, 95, 96, 97] (by decide +kernel) (by decide +kernel)
set_option maxRecDepth 20000 in
theorem gX9_lag_X9_asks : GoodIn wsX9_lag (wsV RX9 137 RX9 yX9_asks wsX9_asks) := goodIn_app (goodIn_of _ (by decide +kernel)) ggX9_lag_X9_asks
set_option maxRecDepth 20000 in
theorem ggX9_lag_X9_laysTrack : GoodIn wsX9_lag wsX9_laysTrack := goodIn_r _ [23, 24, 25, 26, 27, 28, 29, 30, 1, 12, 13, 14, 5, 15, 16, 31, 32, 33, 34, 35, 36, 37, 38, 39, 40, 41, 42, 43, 44, 45, 46, 47, 48, 49, 50, 51, 52, 53, 54, 55, 56, 57, 58, 59, 60, 61, 62, 63, 64, 65, 66, 67, 68, 69, 70, 71, 72, 73, 74, 75, 76, 77, 78, 79, 80, 81, 82, 83, 84, 85, 86, 87, 88, 89, 90, 91, 92, 93, 94, 95, 96, 97] (by decide +kernel) (by decide +kernel)
set_option maxRecDepth 20000 in
theorem gX9_lag_X9_laysTrack : GoodIn wsX9_lag (wsV RX9 140 RX9 yX9_laysTrack wsX9_laysTrack) := goodIn_app (goodIn_of _ (by decide +kernel)) ggX9_lag_X9_laysTrack
theorem dX9_lag_0 : decode cX9_lag 0 = .ok (.aload_n 0, 1) := by decide +kernel
theorem dX9_lag_1 : decode cX9_lag 1 = .ok (.iload_n 1, 1) := by decide +kernel
theorem dX9_lag_2 : decode cX9_lag 2 = .ok (.invokevirtual 137, 3) := by decide +kernel
theorem dX9_lag_5 : decode cX9_lag 5 = .ok (.ifCond .ne 5, 3) := by decide +kernel
theorem dX9_lag_8 : decode cX9_lag 8 = .ok (.iconst 0, 1) := by decide +kernel
theorem dX9_lag_9 : decode cX9_lag 9 = .ok (.ireturn, 1) := by decide +kernel
theorem dX9_lag_10 : decode cX9_lag 10 = .ok (.aload_n 0, 1) := by decide +kernel
theorem dX9_lag_11 : decode cX9_lag 11 = .ok (.invokevirtual 140, 3) := by decide +kernel
theorem dX9_lag_14 : decode cX9_lag 14 = .ok (.aload_n 0, 1) := by decide +kernel
theorem dX9_lag_15 : decode cX9_lag 15 = .ok (.getfield 53, 3) := by decide +kernel
theorem dX9_lag_18 : decode cX9_lag 18 = .ok (.iload_n 1, 1) := by decide +kernel
theorem dX9_lag_19 : decode cX9_lag 19 = .ok (.iaload, 1) := by decide +kernel
theorem dX9_lag_20 : decode cX9_lag 20 = .ok (.ireturn, 1) := by decide +kernel
set_option maxRecDepth 20000 in
theorem ggX9_periodOf_X9_differenceOf : GoodIn wsX9_periodOf wsX9_differenceOf := goodIn_r _ [6, 7, 8, 9, 10, 11, 12, 13, 14, 15, 16, 17, 18, 19, 20, 21, 22, 23, 24, 25, 26, 27, 28, 29] (by decide +kernel) (by decide +kernel)
set_option maxRecDepth 20000 in
theorem gX9_periodOf_X9_differenceOf : GoodIn wsX9_periodOf (wsV RX9 85 RX9 yX9_differenceOf wsX9_differenceOf) := goodIn_app (goodIn_of _ (by decide +kernel)) ggX9_periodOf_X9_differenceOf
theorem dX9_periodOf_0 : decode cX9_periodOf 0 = .ok (.aload_n 0, 1) := by decide +kernel
theorem dX9_periodOf_1 : decode cX9_periodOf 1 = .ok (.getfield 53, 3) := by decide +kernel
theorem dX9_periodOf_4 : decode cX9_periodOf 4 = .ok (.iload_n 1, 1) := by decide +kernel
theorem dX9_periodOf_5 : decode cX9_periodOf 5 = .ok (.iaload, 1) := by decide +kernel
theorem dX9_periodOf_6 : decode cX9_periodOf 6 = .ok (.istore_n 2, 1) := by decide +kernel
theorem dX9_periodOf_7 : decode cX9_periodOf 7 = .ok (.iload_n 2, 1) := by decide +kernel
theorem dX9_periodOf_8 : decode cX9_periodOf 8 = .ok (.ifCond .ne 5, 3) := by decide +kernel
theorem dX9_periodOf_11 : decode cX9_periodOf 11 = .ok (.iconst 0, 1) := by decide +kernel
theorem dX9_periodOf_12 : decode cX9_periodOf 12 = .ok (.ireturn, 1) := by decide +kernel
theorem dX9_periodOf_13 : decode cX9_periodOf 13 = .ok (.aload_n 0, 1) := by decide +kernel
theorem dX9_periodOf_14 : decode cX9_periodOf 14 = .ok (.iload_n 1, 1) := by decide +kernel
theorem dX9_periodOf_15 : decode cX9_periodOf 15 = .ok (.iload_n 2, 1) := by decide +kernel
theorem dX9_periodOf_16 : decode cX9_periodOf 16 = .ok (.iconst 1, 1) := by decide +kernel
theorem dX9_periodOf_17 : decode cX9_periodOf 17 = .ok (.isub, 1) := by decide +kernel
theorem dX9_periodOf_18 : decode cX9_periodOf 18 = .ok (.invokevirtual 85, 3) := by decide +kernel
theorem dX9_periodOf_21 : decode cX9_periodOf 21 = .ok (.istore_n 3, 1) := by decide +kernel
theorem dX9_periodOf_22 : decode cX9_periodOf 22 = .ok (.aload_n 0, 1) := by decide +kernel
theorem dX9_periodOf_23 : decode cX9_periodOf 23 = .ok (.iload_n 1, 1) := by decide +kernel
theorem dX9_periodOf_24 : decode cX9_periodOf 24 = .ok (.iload_n 2, 1) := by decide +kernel
theorem dX9_periodOf_25 : decode cX9_periodOf 25 = .ok (.invokevirtual 85, 3) := by decide +kernel
theorem dX9_periodOf_28 : decode cX9_periodOf 28 = .ok (.istore 4, 2) := by decide +kernel
theorem dX9_periodOf_30 : decode cX9_periodOf 30 = .ok (.aload_n 0, 1) := by decide +kernel
theorem dX9_periodOf_31 : decode cX9_periodOf 31 = .ok (.iload_n 1, 1) := by decide +kernel
theorem dX9_periodOf_32 : decode cX9_periodOf 32 = .ok (.iload_n 2, 1) := by decide +kernel
theorem dX9_periodOf_33 : decode cX9_periodOf 33 = .ok (.iconst 1, 1) := by decide +kernel
theorem dX9_periodOf_34 : decode cX9_periodOf 34 = .ok (.iadd, 1) := by decide +kernel
theorem dX9_periodOf_35 : decode cX9_periodOf 35 = .ok (.invokevirtual 85, 3) := by decide +kernel
theorem dX9_periodOf_38 : decode cX9_periodOf 38 = .ok (.istore 5, 2) := by decide +kernel
theorem dX9_periodOf_40 : decode cX9_periodOf 40 = .ok (.iload_n 3, 1) := by decide +kernel
theorem dX9_periodOf_41 : decode cX9_periodOf 41 = .ok (.iconst 2, 1) := by decide +kernel
theorem dX9_periodOf_42 : decode cX9_periodOf 42 = .ok (.iload 4, 2) := by decide +kernel
theorem dX9_periodOf_44 : decode cX9_periodOf 44 = .ok (.imul, 1) := by decide +kernel
theorem dX9_periodOf_45 : decode cX9_periodOf 45 = .ok (.isub, 1) := by decide +kernel
theorem dX9_periodOf_46 : decode cX9_periodOf 46 = .ok (.iload 5, 2) := by decide +kernel
theorem dX9_periodOf_48 : decode cX9_periodOf 48 = .ok (.iadd, 1) := by decide +kernel
theorem dX9_periodOf_49 : decode cX9_periodOf 49 = .ok (.istore 6, 2) := by decide +kernel
theorem dX9_periodOf_51 : decode cX9_periodOf 51 = .ok (.iload 6, 2) := by decide +kernel
theorem dX9_periodOf_53 : decode cX9_periodOf 53 = .ok (.ifCond .le 16, 3) := by decide +kernel
theorem dX9_periodOf_56 : decode cX9_periodOf 56 = .ok (.bipush 32, 2) := by decide +kernel
theorem dX9_periodOf_58 : decode cX9_periodOf 58 = .ok (.iload_n 3, 1) := by decide +kernel
theorem dX9_periodOf_59 : decode cX9_periodOf 59 = .ok (.iload 5, 2) := by decide +kernel
theorem dX9_periodOf_61 : decode cX9_periodOf 61 = .ok (.isub, 1) := by decide +kernel
theorem dX9_periodOf_62 : decode cX9_periodOf 62 = .ok (.imul, 1) := by decide +kernel
theorem dX9_periodOf_63 : decode cX9_periodOf 63 = .ok (.iload 6, 2) := by decide +kernel
theorem dX9_periodOf_65 : decode cX9_periodOf 65 = .ok (.idiv, 1) := by decide +kernel
theorem dX9_periodOf_66 : decode cX9_periodOf 66 = .ok (.goto 4, 3) := by decide +kernel
theorem dX9_periodOf_69 : decode cX9_periodOf 69 = .ok (.iconst 0, 1) := by decide +kernel
theorem dX9_periodOf_70 : decode cX9_periodOf 70 = .ok (.istore 7, 2) := by decide +kernel
theorem dX9_periodOf_72 : decode cX9_periodOf 72 = .ok (.iload 7, 2) := by decide +kernel
theorem dX9_periodOf_74 : decode cX9_periodOf 74 = .ok (.bipush (-32), 2) := by decide +kernel
theorem dX9_periodOf_76 : decode cX9_periodOf 76 = .ok (.if_icmp .ge 8, 3) := by decide +kernel
theorem dX9_periodOf_79 : decode cX9_periodOf 79 = .ok (.bipush (-32), 2) := by decide +kernel
theorem dX9_periodOf_81 : decode cX9_periodOf 81 = .ok (.goto 17, 3) := by decide +kernel
theorem dX9_periodOf_84 : decode cX9_periodOf 84 = .ok (.iload 7, 2) := by decide +kernel
theorem dX9_periodOf_86 : decode cX9_periodOf 86 = .ok (.bipush 32, 2) := by decide +kernel
theorem dX9_periodOf_88 : decode cX9_periodOf 88 = .ok (.if_icmp .le 8, 3) := by decide +kernel
theorem dX9_periodOf_91 : decode cX9_periodOf 91 = .ok (.bipush 32, 2) := by decide +kernel
theorem dX9_periodOf_93 : decode cX9_periodOf 93 = .ok (.goto 5, 3) := by decide +kernel
theorem dX9_periodOf_96 : decode cX9_periodOf 96 = .ok (.iload 7, 2) := by decide +kernel
theorem dX9_periodOf_98 : decode cX9_periodOf 98 = .ok (.istore 7, 2) := by decide +kernel
theorem dX9_periodOf_100 : decode cX9_periodOf 100 = .ok (.bipush 64, 2) := by decide +kernel
theorem dX9_periodOf_102 : decode cX9_periodOf 102 = .ok (.iload_n 2, 1) := by decide +kernel
theorem dX9_periodOf_103 : decode cX9_periodOf 103 = .ok (.imul, 1) := by decide +kernel
theorem dX9_periodOf_104 : decode cX9_periodOf 104 = .ok (.iload 7, 2) := by decide +kernel
theorem dX9_periodOf_106 : decode cX9_periodOf 106 = .ok (.iadd, 1) := by decide +kernel
theorem dX9_periodOf_107 : decode cX9_periodOf 107 = .ok (.ireturn, 1) := by decide +kernel
set_option maxRecDepth 20000 in
theorem ggX9_period_X9_asks : GoodIn wsX9_period wsX9_asks := goodIn_r _ [5, 6, 7, 8, 9, 4, 10, 11, 12, 13, 14, 15, 16, 17, 18, 80, 81, 82, 83, 84, 85, 86, 87, 88, 89, 90, 91, 92, 93, 94, 95, 96, 97, 98, 99, 100, 101] (by decide +kernel) (by decide +kernel)
set_option maxRecDepth 20000 in
theorem gX9_period_X9_asks : GoodIn wsX9_period (wsV RX9 137 RX9 yX9_asks wsX9_asks) := goodIn_app (goodIn_of _ (by decide +kernel)) ggX9_period_X9_asks
set_option maxRecDepth 20000 in
theorem ggX9_period_X9_laysTrack : GoodIn wsX9_period wsX9_laysTrack := goodIn_r _ [22, 23, 24, 25, 26, 27, 28, 29, 30, 11, 12, 13, 4, 14, 15, 31, 32, 33, 34, 35, 36, 37, 38, 39, 40, 41, 42, 43, 44, 45, 46, 47, 48, 49, 50, 51, 52, 53, 54, 55, 56, 57, 58, 59, 60, 61, 62, 63, 64, 65, 66, 67, 68, 69, 70, 71, 72, 73, 74, 75, 80, 81, 82, 83, 84, 85, 86, 87, 88, 89, 90, 91, 92, 93, 94, 95, 96, 97, 98, 99, 100, 101] (by decide +kernel) (by decide +kernel)
set_option maxRecDepth 20000 in
theorem gX9_period_X9_laysTrack : GoodIn wsX9_period (wsV RX9 140 RX9 yX9_laysTrack wsX9_laysTrack) := goodIn_app (goodIn_of _ (by decide +kernel)) ggX9_period_X9_laysTrack
set_option maxRecDepth 20000 in
theorem ggX9_period_X9_periodOf : GoodIn wsX9_period wsX9_periodOf := goodIn_r _ [79, 30, 42, 43, 44, 4, 45, 46, 80, 81, 82, 83, 84, 85, 86, 87, 88, 89, 90, 91, 92, 93, 94, 95, 96, 97, 98, 99, 100, 101] (by decide +kernel) (by decide +kernel)
set_option maxRecDepth 20000 in
theorem gX9_period_X9_periodOf : GoodIn wsX9_period (wsV RX9 143 RX9 yX9_periodOf wsX9_periodOf) := goodIn_app (goodIn_of _ (by decide +kernel)) ggX9_period_X9_periodOf
theorem dX9_period_0 : decode cX9_period 0 = .ok (.aload_n 0, 1) := by decide +kernel
theorem dX9_period_1 : decode cX9_period 1 = .ok (.iload_n 1, 1) := by decide +kernel
theorem dX9_period_2 : decode cX9_period 2 = .ok (.invokevirtual 137, 3) := by decide +kernel
theorem dX9_period_5 : decode cX9_period 5 = .ok (.ifCond .ne 5, 3) := by decide +kernel
theorem dX9_period_8 : decode cX9_period 8 = .ok (.iconst 0, 1) := by decide +kernel
theorem dX9_period_9 : decode cX9_period 9 = .ok (.ireturn, 1) := by decide +kernel
theorem dX9_period_10 : decode cX9_period 10 = .ok (.aload_n 0, 1) := by decide +kernel
theorem dX9_period_11 : decode cX9_period 11 = .ok (.invokevirtual 140, 3) := by decide +kernel
theorem dX9_period_14 : decode cX9_period 14 = .ok (.aload_n 0, 1) := by decide +kernel
theorem dX9_period_15 : decode cX9_period 15 = .ok (.iload_n 1, 1) := by decide +kernel
theorem dX9_period_16 : decode cX9_period 16 = .ok (.invokevirtual 143, 3) := by decide +kernel
theorem dX9_period_19 : decode cX9_period 19 = .ok (.ireturn, 1) := by decide +kernel
set_option maxRecDepth 20000 in
theorem ggX9_names_X9_periodOf : GoodIn wsX9_names wsX9_periodOf := goodIn_r _ [12, 3, 13, 14, 15, 11, 16, 17, 18, 19, 20, 21, 22, 23, 24, 25, 26, 27, 28, 29, 30, 31, 32, 33, 34, 35, 36, 37, 38, 39] (by decide +kernel) (by decide +kernel)
set_option maxRecDepth 20000 in
theorem gX9_names_X9_periodOf : GoodIn wsX9_names (wsV RX9 143 RX9 yX9_periodOf wsX9_periodOf) := goodIn_app (goodIn_of _ (by decide +kernel)) ggX9_names_X9_periodOf
theorem dX9_names_0 : decode cX9_names 0 = .ok (.aload_n 0, 1) := by decide +kernel
theorem dX9_names_1 : decode cX9_names 1 = .ok (.iconst (-1), 1) := by decide +kernel
theorem dX9_names_2 : decode cX9_names 2 = .ok (.putfield 146, 3) := by decide +kernel
theorem dX9_names_5 : decode cX9_names 5 = .ok (.aload_n 0, 1) := by decide +kernel
theorem dX9_names_6 : decode cX9_names 6 = .ok (.iconst (-1), 1) := by decide +kernel
theorem dX9_names_7 : decode cX9_names 7 = .ok (.putfield 149, 3) := by decide +kernel
theorem dX9_names_10 : decode cX9_names 10 = .ok (.aload_n 0, 1) := by decide +kernel
theorem dX9_names_11 : decode cX9_names 11 = .ok (.getfield 53, 3) := by decide +kernel
theorem dX9_names_14 : decode cX9_names 14 = .ok (.iload_n 1, 1) := by decide +kernel
theorem dX9_names_15 : decode cX9_names 15 = .ok (.iaload, 1) := by decide +kernel
theorem dX9_names_16 : decode cX9_names 16 = .ok (.ifCond .ne 4, 3) := by decide +kernel
theorem dX9_names_19 : decode cX9_names 19 = .ok (.return_, 1) := by decide +kernel
theorem dX9_names_20 : decode cX9_names 20 = .ok (.ldc2_w 152, 3) := by decide +kernel
theorem dX9_names_23 : decode cX9_names 23 = .ok (.aload_n 0, 1) := by decide +kernel
theorem dX9_names_24 : decode cX9_names 24 = .ok (.iload_n 1, 1) := by decide +kernel
theorem dX9_names_25 : decode cX9_names 25 = .ok (.invokevirtual 143, 3) := by decide +kernel
theorem dX9_names_28 : decode cX9_names 28 = .ok (.i2l, 1) := by decide +kernel
theorem dX9_names_29 : decode cX9_names 29 = .ok (.lmul, 1) := by decide +kernel
theorem dX9_names_30 : decode cX9_names 30 = .ok (.lstore_n 2, 1) := by decide +kernel
theorem dX9_names_31 : decode cX9_names 31 = .ok (.lconst 0, 1) := by decide +kernel
theorem dX9_names_32 : decode cX9_names 32 = .ok (.lstore 4, 2) := by decide +kernel
theorem dX9_names_34 : decode cX9_names 34 = .ok (.iconst 0, 1) := by decide +kernel
theorem dX9_names_35 : decode cX9_names 35 = .ok (.istore 6, 2) := by decide +kernel
theorem dX9_names_37 : decode cX9_names 37 = .ok (.iload 6, 2) := by decide +kernel
theorem dX9_names_39 : decode cX9_names 39 = .ok (.bipush 7, 2) := by decide +kernel
theorem dX9_names_41 : decode cX9_names 41 = .ok (.if_icmp .ge 107, 3) := by decide +kernel
theorem dX9_names_44 : decode cX9_names 44 = .ok (.iconst 0, 1) := by decide +kernel
theorem dX9_names_45 : decode cX9_names 45 = .ok (.istore 7, 2) := by decide +kernel
theorem dX9_names_47 : decode cX9_names 47 = .ok (.iload 7, 2) := by decide +kernel
theorem dX9_names_49 : decode cX9_names 49 = .ok (.bipush 12, 2) := by decide +kernel
theorem dX9_names_51 : decode cX9_names 51 = .ok (.if_icmp .ge 91, 3) := by decide +kernel
theorem dX9_names_54 : decode cX9_names 54 = .ok (.aload_n 0, 1) := by decide +kernel
theorem dX9_names_55 : decode cX9_names 55 = .ok (.getfield 26, 3) := by decide +kernel
theorem dX9_names_58 : decode cX9_names 58 = .ok (.i2l, 1) := by decide +kernel
theorem dX9_names_59 : decode cX9_names 59 = .ok (.aload_n 0, 1) := by decide +kernel
theorem dX9_names_60 : decode cX9_names 60 = .ok (.getfield 29, 3) := by decide +kernel
theorem dX9_names_63 : decode cX9_names 63 = .ok (.bipush 12, 2) := by decide +kernel
theorem dX9_names_65 : decode cX9_names 65 = .ok (.aload_n 0, 1) := by decide +kernel
theorem dX9_names_66 : decode cX9_names 66 = .ok (.getfield 78, 3) := by decide +kernel
theorem dX9_names_69 : decode cX9_names 69 = .ok (.imul, 1) := by decide +kernel
theorem dX9_names_70 : decode cX9_names 70 = .ok (.iload 7, 2) := by decide +kernel
theorem dX9_names_72 : decode cX9_names 72 = .ok (.iadd, 1) := by decide +kernel
theorem dX9_names_73 : decode cX9_names 73 = .ok (.iaload, 1) := by decide +kernel
theorem dX9_names_74 : decode cX9_names 74 = .ok (.i2l, 1) := by decide +kernel
theorem dX9_names_75 : decode cX9_names 75 = .ok (.lmul, 1) := by decide +kernel
theorem dX9_names_76 : decode cX9_names 76 = .ok (.bipush 64, 2) := by decide +kernel
theorem dX9_names_78 : decode cX9_names 78 = .ok (.iload 6, 2) := by decide +kernel
theorem dX9_names_80 : decode cX9_names 80 = .ok (.ishr, 1) := by decide +kernel
theorem dX9_names_81 : decode cX9_names 81 = .ok (.i2l, 1) := by decide +kernel
theorem dX9_names_82 : decode cX9_names 82 = .ok (.lmul, 1) := by decide +kernel
theorem dX9_names_83 : decode cX9_names 83 = .ok (.lstore 8, 2) := by decide +kernel
theorem dX9_names_85 : decode cX9_names 85 = .ok (.lload_n 2, 1) := by decide +kernel
theorem dX9_names_86 : decode cX9_names 86 = .ok (.lload 8, 2) := by decide +kernel
theorem dX9_names_88 : decode cX9_names 88 = .ok (.lcmp, 1) := by decide +kernel
theorem dX9_names_89 : decode cX9_names 89 = .ok (.ifCond .le 10, 3) := by decide +kernel
theorem dX9_names_92 : decode cX9_names 92 = .ok (.lload_n 2, 1) := by decide +kernel
theorem dX9_names_93 : decode cX9_names 93 = .ok (.lload 8, 2) := by decide +kernel
theorem dX9_names_95 : decode cX9_names 95 = .ok (.lsub, 1) := by decide +kernel
theorem dX9_names_96 : decode cX9_names 96 = .ok (.goto 7, 3) := by decide +kernel
theorem dX9_names_99 : decode cX9_names 99 = .ok (.lload 8, 2) := by decide +kernel
theorem dX9_names_101 : decode cX9_names 101 = .ok (.lload_n 2, 1) := by decide +kernel
theorem dX9_names_102 : decode cX9_names 102 = .ok (.lsub, 1) := by decide +kernel
theorem dX9_names_103 : decode cX9_names 103 = .ok (.lstore 10, 2) := by decide +kernel
theorem dX9_names_105 : decode cX9_names 105 = .ok (.aload_n 0, 1) := by decide +kernel
theorem dX9_names_106 : decode cX9_names 106 = .ok (.getfield 146, 3) := by decide +kernel
theorem dX9_names_109 : decode cX9_names 109 = .ok (.ifCond .lt 11, 3) := by decide +kernel
theorem dX9_names_112 : decode cX9_names 112 = .ok (.lload 10, 2) := by decide +kernel
theorem dX9_names_114 : decode cX9_names 114 = .ok (.lload 4, 2) := by decide +kernel
theorem dX9_names_116 : decode cX9_names 116 = .ok (.lcmp, 1) := by decide +kernel
theorem dX9_names_117 : decode cX9_names 117 = .ok (.ifCond .ge 19, 3) := by decide +kernel
theorem dX9_names_120 : decode cX9_names 120 = .ok (.aload_n 0, 1) := by decide +kernel
theorem dX9_names_121 : decode cX9_names 121 = .ok (.iload 7, 2) := by decide +kernel
theorem dX9_names_123 : decode cX9_names 123 = .ok (.putfield 146, 3) := by decide +kernel
theorem dX9_names_126 : decode cX9_names 126 = .ok (.aload_n 0, 1) := by decide +kernel
theorem dX9_names_127 : decode cX9_names 127 = .ok (.iload 6, 2) := by decide +kernel
theorem dX9_names_129 : decode cX9_names 129 = .ok (.putfield 149, 3) := by decide +kernel
theorem dX9_names_132 : decode cX9_names 132 = .ok (.lload 10, 2) := by decide +kernel
theorem dX9_names_134 : decode cX9_names 134 = .ok (.lstore 4, 2) := by decide +kernel
theorem dX9_names_136 : decode cX9_names 136 = .ok (.iinc 7 1, 3) := by decide +kernel
theorem dX9_names_139 : decode cX9_names 139 = .ok (.goto (-92), 3) := by decide +kernel
theorem dX9_names_142 : decode cX9_names 142 = .ok (.iinc 6 1, 3) := by decide +kernel
theorem dX9_names_145 : decode cX9_names 145 = .ok (.goto (-108), 3) := by decide +kernel
theorem dX9_names_148 : decode cX9_names 148 = .ok (.return_, 1) := by decide +kernel
set_option maxRecDepth 20000 in
theorem ggX9_name_X9_asks : GoodIn wsX9_name wsX9_asks := goodIn_r _ [6, 7, 8, 9, 10, 5, 11, 12, 13, 14, 15, 16, 17, 18, 19, 90, 91, 92, 93, 94, 95, 96, 97, 98, 99, 100, 101, 102, 103, 104, 105, 106, 107, 108, 109, 110, 111] (by decide +kernel) (by decide +kernel)
set_option maxRecDepth 20000 in
theorem gX9_name_X9_asks : GoodIn wsX9_name (wsV RX9 137 RX9 yX9_asks wsX9_asks) := goodIn_app (goodIn_of _ (by decide +kernel)) ggX9_name_X9_asks
set_option maxRecDepth 20000 in
theorem ggX9_name_X9_laysTrack : GoodIn wsX9_name wsX9_laysTrack := goodIn_r _ [23, 24, 25, 26, 27, 28, 29, 30, 31, 12, 13, 14, 5, 15, 16, 32, 33, 34, 35, 36, 37, 38, 39, 40, 41, 42, 43, 44, 45, 46, 47, 48, 49, 50, 51, 52, 53, 54, 55, 56, 57, 58, 59, 60, 61, 62, 63, 64, 65, 66, 67, 68, 69, 70, 71, 72, 73, 74, 75, 76, 90, 91, 92, 93, 94, 95, 96, 97, 98, 99, 100, 101, 102, 103, 104, 105, 106, 107, 108, 109, 110, 111] (by decide +kernel) (by decide +kernel)
set_option maxRecDepth 20000 in
theorem gX9_name_X9_laysTrack : GoodIn wsX9_name (wsV RX9 140 RX9 yX9_laysTrack wsX9_laysTrack) := goodIn_app (goodIn_of _ (by decide +kernel)) ggX9_name_X9_laysTrack
set_option maxRecDepth 20000 in
theorem ggX9_name_X9_names : GoodIn wsX9_name wsX9_names := goodIn_r _ [80, 1, 81, 31, 82, 83, 84, 85, 86, 87, 88, 5, 89, 43, 44, 45, 46, 47, 90, 91, 92, 93, 94, 95, 96, 97, 98, 99, 100, 101, 102, 103, 104, 105, 106, 107, 108, 109, 110, 111] (by decide +kernel) (by decide +kernel)
set_option maxRecDepth 20000 in
theorem gX9_name_X9_names : GoodIn wsX9_name (wsV RX9 154 RX9 yX9_names wsX9_names) := goodIn_app (goodIn_of _ (by decide +kernel)) ggX9_name_X9_names
theorem dX9_name_0 : decode cX9_name 0 = .ok (.aload_n 0, 1) := by decide +kernel
theorem dX9_name_1 : decode cX9_name 1 = .ok (.iload_n 1, 1) := by decide +kernel
theorem dX9_name_2 : decode cX9_name 2 = .ok (.invokevirtual 137, 3) := by decide +kernel
theorem dX9_name_5 : decode cX9_name 5 = .ok (.ifCond .ne 5, 3) := by decide +kernel
theorem dX9_name_8 : decode cX9_name 8 = .ok (.iconst 0, 1) := by decide +kernel
theorem dX9_name_9 : decode cX9_name 9 = .ok (.ireturn, 1) := by decide +kernel
theorem dX9_name_10 : decode cX9_name 10 = .ok (.aload_n 0, 1) := by decide +kernel
theorem dX9_name_11 : decode cX9_name 11 = .ok (.invokevirtual 140, 3) := by decide +kernel
theorem dX9_name_14 : decode cX9_name 14 = .ok (.aload_n 0, 1) := by decide +kernel
theorem dX9_name_15 : decode cX9_name 15 = .ok (.iload_n 1, 1) := by decide +kernel
theorem dX9_name_16 : decode cX9_name 16 = .ok (.invokevirtual 154, 3) := by decide +kernel
theorem dX9_name_19 : decode cX9_name 19 = .ok (.aload_n 0, 1) := by decide +kernel
theorem dX9_name_20 : decode cX9_name 20 = .ok (.getfield 146, 3) := by decide +kernel
theorem dX9_name_23 : decode cX9_name 23 = .ok (.ireturn, 1) := by decide +kernel
set_option maxRecDepth 20000 in
theorem ggX9_octave_X9_asks : GoodIn wsX9_octave wsX9_asks := goodIn_r _ [6, 7, 8, 9, 10, 5, 11, 12, 13, 14, 15, 16, 17, 18, 19, 90, 91, 92, 93, 94, 95, 96, 97, 98, 99, 100, 101, 102, 103, 104, 105, 106, 107, 108, 109, 110, 111] (by decide +kernel) (by decide +kernel)
set_option maxRecDepth 20000 in
theorem gX9_octave_X9_asks : GoodIn wsX9_octave (wsV RX9 137 RX9 yX9_asks wsX9_asks) := goodIn_app (goodIn_of _ (by decide +kernel)) ggX9_octave_X9_asks
set_option maxRecDepth 20000 in
theorem ggX9_octave_X9_laysTrack : GoodIn wsX9_octave wsX9_laysTrack := goodIn_r _ [23, 24, 25, 26, 27, 28, 29, 30, 31, 12, 13, 14, 5, 15, 16, 32, 33, 34, 35, 36, 37, 38, 39, 40, 41, 42, 43, 44, 45, 46, 47, 48, 49, 50, 51, 52, 53, 54, 55, 56, 57, 58, 59, 60, 61, 62, 63, 64, 65, 66, 67, 68, 69, 70, 71, 72, 73, 74, 75, 76, 90, 91, 92, 93, 94, 95, 96, 97, 98, 99, 100, 101, 102, 103, 104, 105, 106, 107, 108, 109, 110, 111] (by decide +kernel) (by decide +kernel)
set_option maxRecDepth 20000 in
theorem gX9_octave_X9_laysTrack : GoodIn wsX9_octave (wsV RX9 140 RX9 yX9_laysTrack wsX9_laysTrack) := goodIn_app (goodIn_of _ (by decide +kernel)) ggX9_octave_X9_laysTrack
set_option maxRecDepth 20000 in
theorem ggX9_octave_X9_names : GoodIn wsX9_octave wsX9_names := goodIn_r _ [80, 81, 1, 31, 82, 83, 84, 85, 86, 87, 88, 5, 89, 43, 44, 45, 46, 47, 90, 91, 92, 93, 94, 95, 96, 97, 98, 99, 100, 101, 102, 103, 104, 105, 106, 107, 108, 109, 110, 111] (by decide +kernel) (by decide +kernel)
set_option maxRecDepth 20000 in
theorem gX9_octave_X9_names : GoodIn wsX9_octave (wsV RX9 154 RX9 yX9_names wsX9_names) := goodIn_app (goodIn_of _ (by decide +kernel)) ggX9_octave_X9_names
theorem dX9_octave_0 : decode cX9_octave 0 = .ok (.aload_n 0, 1) := by decide +kernel
theorem dX9_octave_1 : decode cX9_octave 1 = .ok (.iload_n 1, 1) := by decide +kernel
theorem dX9_octave_2 : decode cX9_octave 2 = .ok (.invokevirtual 137, 3) := by decide +kernel
theorem dX9_octave_5 : decode cX9_octave 5 = .ok (.ifCond .ne 5, 3) := by decide +kernel
theorem dX9_octave_8 : decode cX9_octave 8 = .ok (.iconst 0, 1) := by decide +kernel
theorem dX9_octave_9 : decode cX9_octave 9 = .ok (.ireturn, 1) := by decide +kernel
theorem dX9_octave_10 : decode cX9_octave 10 = .ok (.aload_n 0, 1) := by decide +kernel
theorem dX9_octave_11 : decode cX9_octave 11 = .ok (.invokevirtual 140, 3) := by decide +kernel
theorem dX9_octave_14 : decode cX9_octave 14 = .ok (.aload_n 0, 1) := by decide +kernel
theorem dX9_octave_15 : decode cX9_octave 15 = .ok (.iload_n 1, 1) := by decide +kernel
theorem dX9_octave_16 : decode cX9_octave 16 = .ok (.invokevirtual 154, 3) := by decide +kernel
theorem dX9_octave_19 : decode cX9_octave 19 = .ok (.aload_n 0, 1) := by decide +kernel
theorem dX9_octave_20 : decode cX9_octave 20 = .ok (.getfield 149, 3) := by decide +kernel
theorem dX9_octave_23 : decode cX9_octave 23 = .ok (.ireturn, 1) := by decide +kernel
set_option maxRecDepth 20000 in
theorem ggX9_begins_X9_energyOf : GoodIn wsX9_begins wsX9_energyOf := goodIn_r _ [5, 6, 7, 8, 9, 10, 11, 12, 13, 14, 15, 16, 17, 18, 19, 20, 21, 22, 23, 24, 25, 26, 27, 28] (by decide +kernel) (by decide +kernel)
set_option maxRecDepth 20000 in
theorem gX9_begins_X9_energyOf : GoodIn wsX9_begins (wsV RX9 128 RX9 yX9_energyOf wsX9_energyOf) := goodIn_app (goodIn_of _ (by decide +kernel)) ggX9_begins_X9_energyOf
theorem dX9_begins_0 : decode cX9_begins 0 = .ok (.aload_n 0, 1) := by decide +kernel
theorem dX9_begins_1 : decode cX9_begins 1 = .ok (.iload_n 1, 1) := by decide +kernel
theorem dX9_begins_2 : decode cX9_begins 2 = .ok (.iconst 0, 1) := by decide +kernel
theorem dX9_begins_3 : decode cX9_begins 3 = .ok (.invokevirtual 128, 3) := by decide +kernel
theorem dX9_begins_6 : decode cX9_begins 6 = .ok (.istore_n 2, 1) := by decide +kernel
theorem dX9_begins_7 : decode cX9_begins 7 = .ok (.iload_n 2, 1) := by decide +kernel
theorem dX9_begins_8 : decode cX9_begins 8 = .ok (.sipush 640, 3) := by decide +kernel
theorem dX9_begins_11 : decode cX9_begins 11 = .ok (.if_icmp .lt 25, 3) := by decide +kernel
theorem dX9_begins_14 : decode cX9_begins 14 = .ok (.iload_n 1, 1) := by decide +kernel
theorem dX9_begins_15 : decode cX9_begins 15 = .ok (.ifCond .eq 17, 3) := by decide +kernel
theorem dX9_begins_18 : decode cX9_begins 18 = .ok (.iload_n 2, 1) := by decide +kernel
theorem dX9_begins_19 : decode cX9_begins 19 = .ok (.iconst 2, 1) := by decide +kernel
theorem dX9_begins_20 : decode cX9_begins 20 = .ok (.aload_n 0, 1) := by decide +kernel
theorem dX9_begins_21 : decode cX9_begins 21 = .ok (.iload_n 1, 1) := by decide +kernel
theorem dX9_begins_22 : decode cX9_begins 22 = .ok (.iconst 1, 1) := by decide +kernel
theorem dX9_begins_23 : decode cX9_begins 23 = .ok (.isub, 1) := by decide +kernel
theorem dX9_begins_24 : decode cX9_begins 24 = .ok (.iconst 0, 1) := by decide +kernel
theorem dX9_begins_25 : decode cX9_begins 25 = .ok (.invokevirtual 128, 3) := by decide +kernel
theorem dX9_begins_28 : decode cX9_begins 28 = .ok (.imul, 1) := by decide +kernel
theorem dX9_begins_29 : decode cX9_begins 29 = .ok (.if_icmp .le 7, 3) := by decide +kernel
theorem dX9_begins_32 : decode cX9_begins 32 = .ok (.iconst 1, 1) := by decide +kernel
theorem dX9_begins_33 : decode cX9_begins 33 = .ok (.goto 4, 3) := by decide +kernel
theorem dX9_begins_36 : decode cX9_begins 36 = .ok (.iconst 0, 1) := by decide +kernel
theorem dX9_begins_37 : decode cX9_begins 37 = .ok (.ireturn, 1) := by decide +kernel
set_option maxRecDepth 20000 in
theorem ggX9_isOnset_X9_asks : GoodIn wsX9_isOnset wsX9_asks := goodIn_r _ [5, 6, 7, 8, 9, 4, 10, 11, 12, 13, 14, 15, 16, 17, 18, 28, 29, 30, 31, 32, 33, 34, 35, 36, 37, 38, 39, 40, 41, 42, 43, 44, 45, 46, 47, 48, 49] (by decide +kernel) (by decide +kernel)
set_option maxRecDepth 20000 in
theorem gX9_isOnset_X9_asks : GoodIn wsX9_isOnset (wsV RX9 137 RX9 yX9_asks wsX9_asks) := goodIn_app (goodIn_of _ (by decide +kernel)) ggX9_isOnset_X9_asks
set_option maxRecDepth 20000 in
theorem ggX9_isOnset_X9_begins : GoodIn wsX9_isOnset wsX9_begins := goodIn_r _ [22, 23, 24, 25, 4, 26, 27, 28, 29, 30, 31, 32, 33, 34, 35, 36, 37, 38, 39, 40, 41, 42, 43, 44, 45, 46, 47, 48, 49] (by decide +kernel) (by decide +kernel)
set_option maxRecDepth 20000 in
theorem gX9_isOnset_X9_begins : GoodIn wsX9_isOnset (wsV RX9 157 RX9 yX9_begins wsX9_begins) := goodIn_app (goodIn_of _ (by decide +kernel)) ggX9_isOnset_X9_begins
theorem dX9_isOnset_0 : decode cX9_isOnset 0 = .ok (.aload_n 0, 1) := by decide +kernel
theorem dX9_isOnset_1 : decode cX9_isOnset 1 = .ok (.iload_n 1, 1) := by decide +kernel
theorem dX9_isOnset_2 : decode cX9_isOnset 2 = .ok (.invokevirtual 137, 3) := by decide +kernel
theorem dX9_isOnset_5 : decode cX9_isOnset 5 = .ok (.ifCond .eq 15, 3) := by decide +kernel
theorem dX9_isOnset_8 : decode cX9_isOnset 8 = .ok (.aload_n 0, 1) := by decide +kernel
theorem dX9_isOnset_9 : decode cX9_isOnset 9 = .ok (.iload_n 1, 1) := by decide +kernel
theorem dX9_isOnset_10 : decode cX9_isOnset 10 = .ok (.invokevirtual 157, 3) := by decide +kernel
theorem dX9_isOnset_13 : decode cX9_isOnset 13 = .ok (.ifCond .eq 7, 3) := by decide +kernel
theorem dX9_isOnset_16 : decode cX9_isOnset 16 = .ok (.iconst 1, 1) := by decide +kernel
theorem dX9_isOnset_17 : decode cX9_isOnset 17 = .ok (.goto 4, 3) := by decide +kernel
theorem dX9_isOnset_20 : decode cX9_isOnset 20 = .ok (.iconst 0, 1) := by decide +kernel
theorem dX9_isOnset_21 : decode cX9_isOnset 21 = .ok (.ireturn, 1) := by decide +kernel
set_option maxRecDepth 20000 in
theorem ggX9_laysNotes_X9_laysTrack : GoodIn wsX9_laysNotes wsX9_laysTrack := goodIn_r _ [8, 9, 10, 11, 12, 13, 14, 15, 16, 17, 18, 19, 7, 20, 21, 22, 23, 24, 25, 26, 27, 28, 29, 30, 31, 32, 33, 34, 35, 36, 37, 38, 39, 40, 41, 42, 43, 44, 45, 46, 47, 48, 49, 50, 51, 52, 53, 54, 55, 56, 57, 58, 59, 60, 61, 62, 63, 64, 65, 66, 87, 88, 89, 90, 91, 92, 93, 94, 95, 96, 97, 98, 99, 100, 101, 102, 103, 104, 105, 106, 107, 108] (by decide +kernel) (by decide +kernel)
set_option maxRecDepth 20000 in
theorem gX9_laysNotes_X9_laysTrack : GoodIn wsX9_laysNotes (wsV RX9 140 RX9 yX9_laysTrack wsX9_laysTrack) := goodIn_app (goodIn_of _ (by decide +kernel)) ggX9_laysNotes_X9_laysTrack
set_option maxRecDepth 20000 in
theorem ggX9_laysNotes_X9_manyFrames : GoodIn wsX9_laysNotes wsX9_manyFrames := goodIn_r _ [20, 21, 87, 88, 89, 90, 91, 92, 93, 94, 95, 96, 97, 98, 99, 100, 101, 102, 103, 104, 105, 106, 107, 108] (by decide +kernel) (by decide +kernel)
set_option maxRecDepth 20000 in
theorem gX9_laysNotes_X9_manyFrames : GoodIn wsX9_laysNotes (wsV RX9 81 RX9 yX9_manyFrames wsX9_manyFrames) := goodIn_app (goodIn_of _ (by decide +kernel)) ggX9_laysNotes_X9_manyFrames
set_option maxRecDepth 20000 in
theorem ggX9_laysNotes_X9_names : GoodIn wsX9_laysNotes wsX9_names := goodIn_r _ [70, 1, 2, 16, 71, 72, 73, 74, 75, 76, 77, 7, 78, 33, 34, 35, 36, 37, 87, 88, 89, 90, 91, 92, 93, 94, 95, 96, 97, 98, 99, 100, 101, 102, 103, 104, 105, 106, 107, 108] (by decide +kernel) (by decide +kernel)
set_option maxRecDepth 20000 in
theorem gX9_laysNotes_X9_names : GoodIn wsX9_laysNotes (wsV RX9 154 RX9 yX9_names wsX9_names) := goodIn_app (goodIn_of _ (by decide +kernel)) ggX9_laysNotes_X9_names
set_option maxRecDepth 20000 in
theorem ggX9_laysNotes_X9_begins : GoodIn wsX9_laysNotes wsX9_begins := goodIn_r _ [82, 83, 84, 85, 7, 86, 37, 87, 88, 89, 90, 91, 92, 93, 94, 95, 96, 97, 98, 99, 100, 101, 102, 103, 104, 105, 106, 107, 108] (by decide +kernel) (by decide +kernel)
set_option maxRecDepth 20000 in
theorem gX9_laysNotes_X9_begins : GoodIn wsX9_laysNotes (wsV RX9 157 RX9 yX9_begins wsX9_begins) := goodIn_app (goodIn_of _ (by decide +kernel)) ggX9_laysNotes_X9_begins
theorem dX9_laysNotes_0 : decode cX9_laysNotes 0 = .ok (.aload_n 0, 1) := by decide +kernel
theorem dX9_laysNotes_1 : decode cX9_laysNotes 1 = .ok (.invokevirtual 140, 3) := by decide +kernel
theorem dX9_laysNotes_4 : decode cX9_laysNotes 4 = .ok (.iconst 0, 1) := by decide +kernel
theorem dX9_laysNotes_5 : decode cX9_laysNotes 5 = .ok (.istore_n 1, 1) := by decide +kernel
theorem dX9_laysNotes_6 : decode cX9_laysNotes 6 = .ok (.iconst (-1), 1) := by decide +kernel
theorem dX9_laysNotes_7 : decode cX9_laysNotes 7 = .ok (.istore_n 2, 1) := by decide +kernel
theorem dX9_laysNotes_8 : decode cX9_laysNotes 8 = .ok (.iconst 0, 1) := by decide +kernel
theorem dX9_laysNotes_9 : decode cX9_laysNotes 9 = .ok (.istore_n 3, 1) := by decide +kernel
theorem dX9_laysNotes_10 : decode cX9_laysNotes 10 = .ok (.iload_n 3, 1) := by decide +kernel
theorem dX9_laysNotes_11 : decode cX9_laysNotes 11 = .ok (.aload_n 0, 1) := by decide +kernel
theorem dX9_laysNotes_12 : decode cX9_laysNotes 12 = .ok (.invokevirtual 81, 3) := by decide +kernel
theorem dX9_laysNotes_15 : decode cX9_laysNotes 15 = .ok (.if_icmp .ge 113, 3) := by decide +kernel
theorem dX9_laysNotes_18 : decode cX9_laysNotes 18 = .ok (.aload_n 0, 1) := by decide +kernel
theorem dX9_laysNotes_19 : decode cX9_laysNotes 19 = .ok (.iload_n 3, 1) := by decide +kernel
theorem dX9_laysNotes_20 : decode cX9_laysNotes 20 = .ok (.invokevirtual 154, 3) := by decide +kernel
theorem dX9_laysNotes_23 : decode cX9_laysNotes 23 = .ok (.aload_n 0, 1) := by decide +kernel
theorem dX9_laysNotes_24 : decode cX9_laysNotes 24 = .ok (.getfield 146, 3) := by decide +kernel
theorem dX9_laysNotes_27 : decode cX9_laysNotes 27 = .ok (.ifCond .ge 7, 3) := by decide +kernel
theorem dX9_laysNotes_30 : decode cX9_laysNotes 30 = .ok (.iconst (-1), 1) := by decide +kernel
theorem dX9_laysNotes_31 : decode cX9_laysNotes 31 = .ok (.goto 15, 3) := by decide +kernel
theorem dX9_laysNotes_34 : decode cX9_laysNotes 34 = .ok (.bipush 12, 2) := by decide +kernel
theorem dX9_laysNotes_36 : decode cX9_laysNotes 36 = .ok (.aload_n 0, 1) := by decide +kernel
theorem dX9_laysNotes_37 : decode cX9_laysNotes 37 = .ok (.getfield 149, 3) := by decide +kernel
theorem dX9_laysNotes_40 : decode cX9_laysNotes 40 = .ok (.imul, 1) := by decide +kernel
theorem dX9_laysNotes_41 : decode cX9_laysNotes 41 = .ok (.aload_n 0, 1) := by decide +kernel
theorem dX9_laysNotes_42 : decode cX9_laysNotes 42 = .ok (.getfield 146, 3) := by decide +kernel
theorem dX9_laysNotes_45 : decode cX9_laysNotes 45 = .ok (.iadd, 1) := by decide +kernel
theorem dX9_laysNotes_46 : decode cX9_laysNotes 46 = .ok (.istore 4, 2) := by decide +kernel
theorem dX9_laysNotes_48 : decode cX9_laysNotes 48 = .ok (.iload 4, 2) := by decide +kernel
theorem dX9_laysNotes_50 : decode cX9_laysNotes 50 = .ok (.iload_n 2, 1) := by decide +kernel
theorem dX9_laysNotes_51 : decode cX9_laysNotes 51 = .ok (.if_icmp .ne 25, 3) := by decide +kernel
theorem dX9_laysNotes_54 : decode cX9_laysNotes 54 = .ok (.aload_n 0, 1) := by decide +kernel
theorem dX9_laysNotes_55 : decode cX9_laysNotes 55 = .ok (.iload_n 3, 1) := by decide +kernel
theorem dX9_laysNotes_56 : decode cX9_laysNotes 56 = .ok (.invokevirtual 157, 3) := by decide +kernel
theorem dX9_laysNotes_59 : decode cX9_laysNotes 59 = .ok (.ifCond .eq 21, 3) := by decide +kernel
theorem dX9_laysNotes_62 : decode cX9_laysNotes 62 = .ok (.iload_n 3, 1) := by decide +kernel
theorem dX9_laysNotes_63 : decode cX9_laysNotes 63 = .ok (.ifCond .le 13, 3) := by decide +kernel
theorem dX9_laysNotes_66 : decode cX9_laysNotes 66 = .ok (.aload_n 0, 1) := by decide +kernel
theorem dX9_laysNotes_67 : decode cX9_laysNotes 67 = .ok (.iload_n 3, 1) := by decide +kernel
theorem dX9_laysNotes_68 : decode cX9_laysNotes 68 = .ok (.iconst 1, 1) := by decide +kernel
theorem dX9_laysNotes_69 : decode cX9_laysNotes 69 = .ok (.isub, 1) := by decide +kernel
theorem dX9_laysNotes_70 : decode cX9_laysNotes 70 = .ok (.invokevirtual 157, 3) := by decide +kernel
theorem dX9_laysNotes_73 : decode cX9_laysNotes 73 = .ok (.ifCond .ne 7, 3) := by decide +kernel
theorem dX9_laysNotes_76 : decode cX9_laysNotes 76 = .ok (.iconst 1, 1) := by decide +kernel
theorem dX9_laysNotes_77 : decode cX9_laysNotes 77 = .ok (.goto 4, 3) := by decide +kernel
theorem dX9_laysNotes_80 : decode cX9_laysNotes 80 = .ok (.iconst 0, 1) := by decide +kernel
theorem dX9_laysNotes_81 : decode cX9_laysNotes 81 = .ok (.istore 5, 2) := by decide +kernel
theorem dX9_laysNotes_83 : decode cX9_laysNotes 83 = .ok (.iload_n 1, 1) := by decide +kernel
theorem dX9_laysNotes_84 : decode cX9_laysNotes 84 = .ok (.iload 4, 2) := by decide +kernel
theorem dX9_laysNotes_86 : decode cX9_laysNotes 86 = .ok (.ifCond .lt 12, 3) := by decide +kernel
theorem dX9_laysNotes_89 : decode cX9_laysNotes 89 = .ok (.iload 5, 2) := by decide +kernel
theorem dX9_laysNotes_91 : decode cX9_laysNotes 91 = .ok (.ifCond .eq 7, 3) := by decide +kernel
theorem dX9_laysNotes_94 : decode cX9_laysNotes 94 = .ok (.iconst 1, 1) := by decide +kernel
theorem dX9_laysNotes_95 : decode cX9_laysNotes 95 = .ok (.goto 4, 3) := by decide +kernel
theorem dX9_laysNotes_98 : decode cX9_laysNotes 98 = .ok (.iconst 0, 1) := by decide +kernel
theorem dX9_laysNotes_99 : decode cX9_laysNotes 99 = .ok (.iadd, 1) := by decide +kernel
theorem dX9_laysNotes_100 : decode cX9_laysNotes 100 = .ok (.istore_n 1, 1) := by decide +kernel
theorem dX9_laysNotes_101 : decode cX9_laysNotes 101 = .ok (.aload_n 0, 1) := by decide +kernel
theorem dX9_laysNotes_102 : decode cX9_laysNotes 102 = .ok (.getfield 56, 3) := by decide +kernel
theorem dX9_laysNotes_105 : decode cX9_laysNotes 105 = .ok (.iload_n 3, 1) := by decide +kernel
theorem dX9_laysNotes_106 : decode cX9_laysNotes 106 = .ok (.iload 4, 2) := by decide +kernel
theorem dX9_laysNotes_108 : decode cX9_laysNotes 108 = .ok (.ifCond .ge 7, 3) := by decide +kernel
theorem dX9_laysNotes_111 : decode cX9_laysNotes 111 = .ok (.iconst (-1), 1) := by decide +kernel
theorem dX9_laysNotes_112 : decode cX9_laysNotes 112 = .ok (.goto 6, 3) := by decide +kernel
theorem dX9_laysNotes_115 : decode cX9_laysNotes 115 = .ok (.iload_n 1, 1) := by decide +kernel
theorem dX9_laysNotes_116 : decode cX9_laysNotes 116 = .ok (.iconst 1, 1) := by decide +kernel
theorem dX9_laysNotes_117 : decode cX9_laysNotes 117 = .ok (.isub, 1) := by decide +kernel
theorem dX9_laysNotes_118 : decode cX9_laysNotes 118 = .ok (.iastore, 1) := by decide +kernel
theorem dX9_laysNotes_119 : decode cX9_laysNotes 119 = .ok (.iload 4, 2) := by decide +kernel
theorem dX9_laysNotes_121 : decode cX9_laysNotes 121 = .ok (.istore_n 2, 1) := by decide +kernel
theorem dX9_laysNotes_122 : decode cX9_laysNotes 122 = .ok (.iinc 3 1, 3) := by decide +kernel
theorem dX9_laysNotes_125 : decode cX9_laysNotes 125 = .ok (.goto (-115), 3) := by decide +kernel
theorem dX9_laysNotes_128 : decode cX9_laysNotes 128 = .ok (.iload_n 1, 1) := by decide +kernel
theorem dX9_laysNotes_129 : decode cX9_laysNotes 129 = .ok (.ireturn, 1) := by decide +kernel
set_option maxRecDepth 20000 in
theorem ggX9_notes_X9_laysNotes : GoodIn wsX9_notes wsX9_laysNotes := goodIn_r _ [6, 7, 8, 9, 10, 11, 12, 5, 13, 14, 15, 16, 17, 18, 19, 20, 21, 22, 23, 24, 25, 26, 27, 28, 29, 30, 31, 32, 33, 34, 35, 36, 37, 38, 39, 40, 41, 42, 43, 44, 45, 46, 47, 48, 49, 50, 51, 52, 53, 54, 55, 56, 57, 58, 59, 60, 61, 62, 63, 64, 65, 66, 67, 68, 69, 70, 71, 72, 73, 74, 75, 76, 77, 78, 79, 80, 81, 82, 83, 84, 85, 86, 87, 88, 89, 90, 91, 92, 93, 94, 95, 96, 97, 98, 99, 100, 101, 102, 103, 104, 105, 106, 107, 108, 109, 110, 111, 112, 113] (by decide +kernel) (by decide +kernel)
set_option maxRecDepth 20000 in
theorem gX9_notes_X9_laysNotes : GoodIn wsX9_notes (wsV RX9 160 RX9 yX9_laysNotes wsX9_laysNotes) := goodIn_app (goodIn_of _ (by decide +kernel)) ggX9_notes_X9_laysNotes
theorem dX9_notes_0 : decode cX9_notes 0 = .ok (.aload_n 0, 1) := by decide +kernel
theorem dX9_notes_1 : decode cX9_notes 1 = .ok (.iconst 0, 1) := by decide +kernel
theorem dX9_notes_2 : decode cX9_notes 2 = .ok (.putfield 59, 3) := by decide +kernel
theorem dX9_notes_5 : decode cX9_notes 5 = .ok (.aload_n 0, 1) := by decide +kernel
theorem dX9_notes_6 : decode cX9_notes 6 = .ok (.invokevirtual 160, 3) := by decide +kernel
theorem dX9_notes_9 : decode cX9_notes 9 = .ok (.ireturn, 1) := by decide +kernel
set_option maxRecDepth 20000 in
theorem ggX9_manyOf_X9_manyFrames : GoodIn wsX9_manyOf wsX9_manyFrames := goodIn_r _ [6, 7, 8, 9, 10, 11, 12, 13, 14, 15, 16, 17, 18, 19, 20, 21, 22, 23, 24, 25, 26, 27, 28, 29] (by decide +kernel) (by decide +kernel)
set_option maxRecDepth 20000 in
theorem gX9_manyOf_X9_manyFrames : GoodIn wsX9_manyOf (wsV RX9 81 RX9 yX9_manyFrames wsX9_manyFrames) := goodIn_app (goodIn_of _ (by decide +kernel)) ggX9_manyOf_X9_manyFrames
theorem dX9_manyOf_0 : decode cX9_manyOf 0 = .ok (.iconst 0, 1) := by decide +kernel
theorem dX9_manyOf_1 : decode cX9_manyOf 1 = .ok (.istore_n 2, 1) := by decide +kernel
theorem dX9_manyOf_2 : decode cX9_manyOf 2 = .ok (.iconst 0, 1) := by decide +kernel
theorem dX9_manyOf_3 : decode cX9_manyOf 3 = .ok (.istore_n 3, 1) := by decide +kernel
theorem dX9_manyOf_4 : decode cX9_manyOf 4 = .ok (.iload_n 3, 1) := by decide +kernel
theorem dX9_manyOf_5 : decode cX9_manyOf 5 = .ok (.aload_n 0, 1) := by decide +kernel
theorem dX9_manyOf_6 : decode cX9_manyOf 6 = .ok (.invokevirtual 81, 3) := by decide +kernel
theorem dX9_manyOf_9 : decode cX9_manyOf 9 = .ok (.if_icmp .ge 27, 3) := by decide +kernel
theorem dX9_manyOf_12 : decode cX9_manyOf 12 = .ok (.iload_n 2, 1) := by decide +kernel
theorem dX9_manyOf_13 : decode cX9_manyOf 13 = .ok (.aload_n 0, 1) := by decide +kernel
theorem dX9_manyOf_14 : decode cX9_manyOf 14 = .ok (.getfield 56, 3) := by decide +kernel
theorem dX9_manyOf_17 : decode cX9_manyOf 17 = .ok (.iload_n 3, 1) := by decide +kernel
theorem dX9_manyOf_18 : decode cX9_manyOf 18 = .ok (.iaload, 1) := by decide +kernel
theorem dX9_manyOf_19 : decode cX9_manyOf 19 = .ok (.iload_n 1, 1) := by decide +kernel
theorem dX9_manyOf_20 : decode cX9_manyOf 20 = .ok (.if_icmp .ne 7, 3) := by decide +kernel
theorem dX9_manyOf_23 : decode cX9_manyOf 23 = .ok (.iconst 1, 1) := by decide +kernel
theorem dX9_manyOf_24 : decode cX9_manyOf 24 = .ok (.goto 4, 3) := by decide +kernel
theorem dX9_manyOf_27 : decode cX9_manyOf 27 = .ok (.iconst 0, 1) := by decide +kernel
theorem dX9_manyOf_28 : decode cX9_manyOf 28 = .ok (.iadd, 1) := by decide +kernel
theorem dX9_manyOf_29 : decode cX9_manyOf 29 = .ok (.istore_n 2, 1) := by decide +kernel
theorem dX9_manyOf_30 : decode cX9_manyOf 30 = .ok (.iinc 3 1, 3) := by decide +kernel
theorem dX9_manyOf_33 : decode cX9_manyOf 33 = .ok (.goto (-29), 3) := by decide +kernel
theorem dX9_manyOf_36 : decode cX9_manyOf 36 = .ok (.iload_n 2, 1) := by decide +kernel
theorem dX9_manyOf_37 : decode cX9_manyOf 37 = .ok (.ireturn, 1) := by decide +kernel
set_option maxRecDepth 20000 in
theorem ggX9_asksNote_X9_laysNotes : GoodIn wsX9_asksNote wsX9_laysNotes := goodIn_r _ [6, 7, 8, 9, 10, 11, 12, 5, 13, 14, 15, 16, 17, 18, 19, 20, 21, 22, 23, 24, 25, 26, 27, 28, 29, 30, 31, 32, 33, 34, 35, 36, 37, 38, 39, 40, 41, 42, 43, 44, 45, 46, 47, 48, 49, 50, 51, 52, 53, 54, 55, 56, 57, 58, 59, 60, 61, 62, 63, 64, 65, 66, 67, 68, 69, 70, 71, 72, 73, 74, 75, 76, 77, 78, 79, 80, 81, 82, 83, 84, 85, 86, 87, 88, 89, 90, 91, 95, 96, 97, 98, 99, 100, 101, 102, 103, 104, 105, 106, 107, 108, 109, 110, 111, 112, 113, 114, 115, 116] (by decide +kernel) (by decide +kernel)
set_option maxRecDepth 20000 in
theorem gX9_asksNote_X9_laysNotes : GoodIn wsX9_asksNote (wsV RX9 160 RX9 yX9_laysNotes wsX9_laysNotes) := goodIn_app (goodIn_of _ (by decide +kernel)) ggX9_asksNote_X9_laysNotes
set_option maxRecDepth 20000 in
theorem ggX9_asksNote_X9_in : GoodIn wsX9_asksNote wsX9_in := goodIn_r _ [94] (by decide +kernel) (by decide +kernel)
set_option maxRecDepth 20000 in
theorem gX9_asksNote_X9_in : GoodIn wsX9_asksNote (va_wsS RX9 65 yX9_in wsX9_in) := goodIn_app (goodIn_of _ (by decide +kernel)) ggX9_asksNote_X9_in
theorem dX9_asksNote_0 : decode cX9_asksNote 0 = .ok (.aload_n 0, 1) := by decide +kernel
theorem dX9_asksNote_1 : decode cX9_asksNote 1 = .ok (.iload_n 1, 1) := by decide +kernel
theorem dX9_asksNote_2 : decode cX9_asksNote 2 = .ok (.iconst 0, 1) := by decide +kernel
theorem dX9_asksNote_3 : decode cX9_asksNote 3 = .ok (.aload_n 0, 1) := by decide +kernel
theorem dX9_asksNote_4 : decode cX9_asksNote 4 = .ok (.invokevirtual 160, 3) := by decide +kernel
theorem dX9_asksNote_7 : decode cX9_asksNote 7 = .ok (.iconst 1, 1) := by decide +kernel
theorem dX9_asksNote_8 : decode cX9_asksNote 8 = .ok (.isub, 1) := by decide +kernel
theorem dX9_asksNote_9 : decode cX9_asksNote 9 = .ok (.invokestatic 65, 3) := by decide +kernel
theorem dX9_asksNote_12 : decode cX9_asksNote 12 = .ok (.ifCond .eq 7, 3) := by decide +kernel
theorem dX9_asksNote_15 : decode cX9_asksNote 15 = .ok (.iconst 0, 1) := by decide +kernel
theorem dX9_asksNote_16 : decode cX9_asksNote 16 = .ok (.goto 4, 3) := by decide +kernel
theorem dX9_asksNote_19 : decode cX9_asksNote 19 = .ok (.iconst 1, 1) := by decide +kernel
theorem dX9_asksNote_20 : decode cX9_asksNote 20 = .ok (.putfield 59, 3) := by decide +kernel
theorem dX9_asksNote_23 : decode cX9_asksNote 23 = .ok (.aload_n 0, 1) := by decide +kernel
theorem dX9_asksNote_24 : decode cX9_asksNote 24 = .ok (.getfield 59, 3) := by decide +kernel
theorem dX9_asksNote_27 : decode cX9_asksNote 27 = .ok (.ifCond .ne 7, 3) := by decide +kernel
theorem dX9_asksNote_30 : decode cX9_asksNote 30 = .ok (.iconst 1, 1) := by decide +kernel
theorem dX9_asksNote_31 : decode cX9_asksNote 31 = .ok (.goto 4, 3) := by decide +kernel
theorem dX9_asksNote_34 : decode cX9_asksNote 34 = .ok (.iconst 0, 1) := by decide +kernel
theorem dX9_asksNote_35 : decode cX9_asksNote 35 = .ok (.ireturn, 1) := by decide +kernel
set_option maxRecDepth 20000 in
theorem ggX9_noteStart_X9_asksNote : GoodIn wsX9_noteStart wsX9_asksNote := goodIn_r _ [6, 7, 8, 9, 10, 5, 11, 12, 13, 1, 14, 15, 16, 17, 18, 19, 20, 21, 22, 23, 24, 25, 26, 27, 28, 29, 30, 31, 32, 33, 34, 35, 36, 37, 38, 39, 40, 41, 42, 43, 44, 45, 46, 47, 48, 49, 50, 51, 52, 53, 54, 55, 56, 57, 58, 59, 60, 61, 62, 63, 64, 65, 66, 67, 68, 69, 70, 71, 72, 73, 74, 75, 76, 77, 78, 79, 80, 81, 82, 83, 84, 85, 86, 87, 88, 89, 90, 91, 92, 93, 94, 95, 96, 97, 98, 99, 100, 101, 102, 103, 104, 105, 106, 107, 108, 109, 110, 111, 112, 113, 114, 115, 116, 117, 118, 119, 120] (by decide +kernel) (by decide +kernel)
set_option maxRecDepth 20000 in
theorem gX9_noteStart_X9_asksNote : GoodIn wsX9_noteStart (wsV RX9 163 RX9 yX9_asksNote wsX9_asksNote) := goodIn_app (goodIn_of _ (by decide +kernel)) ggX9_noteStart_X9_asksNote
theorem dX9_noteStart_0 : decode cX9_noteStart 0 = .ok (.aload_n 0, 1) := by decide +kernel
theorem dX9_noteStart_1 : decode cX9_noteStart 1 = .ok (.iload_n 1, 1) := by decide +kernel
theorem dX9_noteStart_2 : decode cX9_noteStart 2 = .ok (.invokevirtual 163, 3) := by decide +kernel
theorem dX9_noteStart_5 : decode cX9_noteStart 5 = .ok (.ifCond .ne 5, 3) := by decide +kernel
theorem dX9_noteStart_8 : decode cX9_noteStart 8 = .ok (.iconst 0, 1) := by decide +kernel
theorem dX9_noteStart_9 : decode cX9_noteStart 9 = .ok (.ireturn, 1) := by decide +kernel
theorem dX9_noteStart_10 : decode cX9_noteStart 10 = .ok (.iconst 0, 1) := by decide +kernel
theorem dX9_noteStart_11 : decode cX9_noteStart 11 = .ok (.istore_n 2, 1) := by decide +kernel
theorem dX9_noteStart_12 : decode cX9_noteStart 12 = .ok (.aload_n 0, 1) := by decide +kernel
theorem dX9_noteStart_13 : decode cX9_noteStart 13 = .ok (.getfield 56, 3) := by decide +kernel
theorem dX9_noteStart_16 : decode cX9_noteStart 16 = .ok (.iload_n 2, 1) := by decide +kernel
theorem dX9_noteStart_17 : decode cX9_noteStart 17 = .ok (.iaload, 1) := by decide +kernel
theorem dX9_noteStart_18 : decode cX9_noteStart 18 = .ok (.iload_n 1, 1) := by decide +kernel
theorem dX9_noteStart_19 : decode cX9_noteStart 19 = .ok (.if_icmp .eq 9, 3) := by decide +kernel
theorem dX9_noteStart_22 : decode cX9_noteStart 22 = .ok (.iinc 2 1, 3) := by decide +kernel
theorem dX9_noteStart_25 : decode cX9_noteStart 25 = .ok (.goto (-13), 3) := by decide +kernel
theorem dX9_noteStart_28 : decode cX9_noteStart 28 = .ok (.iload_n 2, 1) := by decide +kernel
theorem dX9_noteStart_29 : decode cX9_noteStart 29 = .ok (.ireturn, 1) := by decide +kernel
set_option maxRecDepth 20000 in
theorem ggX9_noteLength_X9_asksNote : GoodIn wsX9_noteLength wsX9_asksNote := goodIn_r _ [5, 6, 7, 8, 9, 4, 10, 11, 12, 13, 14, 15, 16, 17, 18, 19, 20, 21, 22, 23, 24, 25, 26, 27, 28, 29, 30, 31, 32, 33, 34, 35, 36, 37, 38, 39, 40, 41, 42, 43, 44, 45, 46, 47, 48, 49, 50, 51, 52, 53, 54, 55, 56, 57, 58, 59, 60, 61, 62, 63, 64, 65, 66, 67, 68, 69, 70, 71, 72, 73, 74, 75, 76, 77, 78, 79, 80, 81, 82, 83, 84, 85, 86, 87, 88, 89, 90, 91, 92, 93, 94, 95, 96, 97, 98, 103, 104, 105, 106, 107, 108, 109, 110, 111, 112, 113, 114, 115, 116, 117, 118, 119, 120, 121, 122, 123, 124] (by decide +kernel) (by decide +kernel)
set_option maxRecDepth 20000 in
theorem gX9_noteLength_X9_asksNote : GoodIn wsX9_noteLength (wsV RX9 163 RX9 yX9_asksNote wsX9_asksNote) := goodIn_app (goodIn_of _ (by decide +kernel)) ggX9_noteLength_X9_asksNote
set_option maxRecDepth 20000 in
theorem ggX9_noteLength_X9_manyOf : GoodIn wsX9_noteLength wsX9_manyOf := goodIn_r _ [102, 13, 26, 27, 28, 4, 29, 30, 103, 104, 105, 106, 107, 108, 109, 110, 111, 112, 113, 114, 115, 116, 117, 118, 119, 120, 121, 122, 123, 124] (by decide +kernel) (by decide +kernel)
set_option maxRecDepth 20000 in
theorem gX9_noteLength_X9_manyOf : GoodIn wsX9_noteLength (wsV RX9 166 RX9 yX9_manyOf wsX9_manyOf) := goodIn_app (goodIn_of _ (by decide +kernel)) ggX9_noteLength_X9_manyOf
theorem dX9_noteLength_0 : decode cX9_noteLength 0 = .ok (.aload_n 0, 1) := by decide +kernel
theorem dX9_noteLength_1 : decode cX9_noteLength 1 = .ok (.iload_n 1, 1) := by decide +kernel
theorem dX9_noteLength_2 : decode cX9_noteLength 2 = .ok (.invokevirtual 163, 3) := by decide +kernel
theorem dX9_noteLength_5 : decode cX9_noteLength 5 = .ok (.ifCond .eq 11, 3) := by decide +kernel
theorem dX9_noteLength_8 : decode cX9_noteLength 8 = .ok (.aload_n 0, 1) := by decide +kernel
theorem dX9_noteLength_9 : decode cX9_noteLength 9 = .ok (.iload_n 1, 1) := by decide +kernel
theorem dX9_noteLength_10 : decode cX9_noteLength 10 = .ok (.invokevirtual 166, 3) := by decide +kernel
theorem dX9_noteLength_13 : decode cX9_noteLength 13 = .ok (.goto 4, 3) := by decide +kernel
theorem dX9_noteLength_16 : decode cX9_noteLength 16 = .ok (.iconst 0, 1) := by decide +kernel
theorem dX9_noteLength_17 : decode cX9_noteLength 17 = .ok (.ireturn, 1) := by decide +kernel
set_option maxRecDepth 20000 in
theorem ggX9_noteOf_X9_asks : GoodIn wsX9_noteOf wsX9_asks := goodIn_r _ [6, 7, 8, 9, 10, 5, 11, 12, 13, 14, 15, 16, 17, 18, 19, 103, 104, 105, 106, 107, 108, 109, 110, 111, 112, 113, 114, 115, 116, 117, 118, 119, 120, 121, 122, 123, 124] (by decide +kernel) (by decide +kernel)
set_option maxRecDepth 20000 in
theorem gX9_noteOf_X9_asks : GoodIn wsX9_noteOf (wsV RX9 137 RX9 yX9_asks wsX9_asks) := goodIn_app (goodIn_of _ (by decide +kernel)) ggX9_noteOf_X9_asks
set_option maxRecDepth 20000 in
theorem ggX9_noteOf_X9_laysNotes : GoodIn wsX9_noteOf wsX9_laysNotes := goodIn_r _ [23, 24, 25, 1, 26, 27, 28, 5, 29, 30, 31, 32, 33, 34, 35, 36, 37, 12, 13, 14, 15, 16, 38, 39, 40, 41, 42, 43, 44, 45, 46, 47, 48, 49, 50, 51, 52, 53, 54, 55, 56, 57, 58, 59, 60, 61, 62, 63, 64, 65, 66, 67, 68, 69, 70, 71, 72, 73, 74, 75, 76, 77, 78, 79, 80, 81, 82, 83, 84, 85, 86, 87, 88, 89, 90, 91, 92, 93, 94, 95, 96, 97, 98, 99, 100, 101, 102, 103, 104, 105, 106, 107, 108, 109, 110, 111, 112, 113, 114, 115, 116, 117, 118, 119, 120, 121, 122, 123, 124] (by decide +kernel) (by decide +kernel)
set_option maxRecDepth 20000 in
theorem gX9_noteOf_X9_laysNotes : GoodIn wsX9_noteOf (wsV RX9 160 RX9 yX9_laysNotes wsX9_laysNotes) := goodIn_app (goodIn_of _ (by decide +kernel)) ggX9_noteOf_X9_laysNotes
theorem dX9_noteOf_0 : decode cX9_noteOf 0 = .ok (.aload_n 0, 1) := by decide +kernel
theorem dX9_noteOf_1 : decode cX9_noteOf 1 = .ok (.iload_n 1, 1) := by decide +kernel
theorem dX9_noteOf_2 : decode cX9_noteOf 2 = .ok (.invokevirtual 137, 3) := by decide +kernel
theorem dX9_noteOf_5 : decode cX9_noteOf 5 = .ok (.ifCond .ne 5, 3) := by decide +kernel
theorem dX9_noteOf_8 : decode cX9_noteOf 8 = .ok (.iconst 0, 1) := by decide +kernel
theorem dX9_noteOf_9 : decode cX9_noteOf 9 = .ok (.ireturn, 1) := by decide +kernel
theorem dX9_noteOf_10 : decode cX9_noteOf 10 = .ok (.aload_n 0, 1) := by decide +kernel
theorem dX9_noteOf_11 : decode cX9_noteOf 11 = .ok (.invokevirtual 160, 3) := by decide +kernel
theorem dX9_noteOf_14 : decode cX9_noteOf 14 = .ok (.pop, 1) := by decide +kernel
theorem dX9_noteOf_15 : decode cX9_noteOf 15 = .ok (.aload_n 0, 1) := by decide +kernel
theorem dX9_noteOf_16 : decode cX9_noteOf 16 = .ok (.getfield 56, 3) := by decide +kernel
theorem dX9_noteOf_19 : decode cX9_noteOf 19 = .ok (.iload_n 1, 1) := by decide +kernel
theorem dX9_noteOf_20 : decode cX9_noteOf 20 = .ok (.iaload, 1) := by decide +kernel
theorem dX9_noteOf_21 : decode cX9_noteOf 21 = .ok (.ireturn, 1) := by decide +kernel
theorem dJ9_abs_0f7a4_0 : decode cJ9_abs_0f7a4 0 = .ok (.iload_n 0, 1) := by decide +kernel
theorem dJ9_abs_0f7a4_1 : decode cJ9_abs_0f7a4 1 = .ok (.ifCond .ge 8, 3) := by decide +kernel
theorem dJ9_abs_0f7a4_4 : decode cJ9_abs_0f7a4 4 = .ok (.iload_n 0, 1) := by decide +kernel
theorem dJ9_abs_0f7a4_5 : decode cJ9_abs_0f7a4 5 = .ok (.ineg, 1) := by decide +kernel
theorem dJ9_abs_0f7a4_6 : decode cJ9_abs_0f7a4 6 = .ok (.goto 4, 3) := by decide +kernel
theorem dJ9_abs_0f7a4_9 : decode cJ9_abs_0f7a4 9 = .ok (.iload_n 0, 1) := by decide +kernel
theorem dJ9_abs_0f7a4_10 : decode cJ9_abs_0f7a4 10 = .ok (.ireturn, 1) := by decide +kernel
theorem dJ9_abs_067f4_0 : decode cJ9_abs_067f4 0 = .ok (.lload_n 0, 1) := by decide +kernel
theorem dJ9_abs_067f4_1 : decode cJ9_abs_067f4 1 = .ok (.lconst 0, 1) := by decide +kernel
theorem dJ9_abs_067f4_2 : decode cJ9_abs_067f4 2 = .ok (.lcmp, 1) := by decide +kernel
theorem dJ9_abs_067f4_3 : decode cJ9_abs_067f4 3 = .ok (.ifCond .ge 8, 3) := by decide +kernel
theorem dJ9_abs_067f4_6 : decode cJ9_abs_067f4 6 = .ok (.lload_n 0, 1) := by decide +kernel
theorem dJ9_abs_067f4_7 : decode cJ9_abs_067f4 7 = .ok (.lneg, 1) := by decide +kernel
theorem dJ9_abs_067f4_8 : decode cJ9_abs_067f4 8 = .ok (.goto 4, 3) := by decide +kernel
theorem dJ9_abs_067f4_11 : decode cJ9_abs_067f4 11 = .ok (.lload_n 0, 1) := by decide +kernel
theorem dJ9_abs_067f4_12 : decode cJ9_abs_067f4 12 = .ok (.lreturn, 1) := by decide +kernel
theorem dJ9_max_7cf53_0 : decode cJ9_max_7cf53 0 = .ok (.iload_n 0, 1) := by decide +kernel
theorem dJ9_max_7cf53_1 : decode cJ9_max_7cf53 1 = .ok (.iload_n 1, 1) := by decide +kernel
theorem dJ9_max_7cf53_2 : decode cJ9_max_7cf53 2 = .ok (.if_icmp .lt 7, 3) := by decide +kernel
theorem dJ9_max_7cf53_5 : decode cJ9_max_7cf53 5 = .ok (.iload_n 0, 1) := by decide +kernel
theorem dJ9_max_7cf53_6 : decode cJ9_max_7cf53 6 = .ok (.goto 4, 3) := by decide +kernel
theorem dJ9_max_7cf53_9 : decode cJ9_max_7cf53 9 = .ok (.iload_n 1, 1) := by decide +kernel
theorem dJ9_max_7cf53_10 : decode cJ9_max_7cf53 10 = .ok (.ireturn, 1) := by decide +kernel
theorem dJ9_min_7cf53_0 : decode cJ9_min_7cf53 0 = .ok (.iload_n 0, 1) := by decide +kernel
theorem dJ9_min_7cf53_1 : decode cJ9_min_7cf53 1 = .ok (.iload_n 1, 1) := by decide +kernel
theorem dJ9_min_7cf53_2 : decode cJ9_min_7cf53 2 = .ok (.if_icmp .gt 7, 3) := by decide +kernel
theorem dJ9_min_7cf53_5 : decode cJ9_min_7cf53 5 = .ok (.iload_n 0, 1) := by decide +kernel
theorem dJ9_min_7cf53_6 : decode cJ9_min_7cf53 6 = .ok (.goto 4, 3) := by decide +kernel
theorem dJ9_min_7cf53_9 : decode cJ9_min_7cf53 9 = .ok (.iload_n 1, 1) := by decide +kernel
theorem dJ9_min_7cf53_10 : decode cJ9_min_7cf53 10 = .ok (.ireturn, 1) := by decide +kernel
