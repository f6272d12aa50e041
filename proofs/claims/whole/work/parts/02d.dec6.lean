theorem dX6_init_0 : decode cX6_init 0 = .ok (.aload_n 0, 1) := by decide +kernel
theorem dX6_init_1 : decode cX6_init 1 = .ok (.invokespecial 1, 3) := by decide +kernel
theorem dX6_init_4 : decode cX6_init 4 = .ok (.aload_n 0, 1) := by decide +kernel
theorem dX6_init_5 : decode cX6_init 5 = .ok (.iconst (-1), 1) := by decide +kernel
theorem dX6_init_6 : decode cX6_init 6 = .ok (.putfield 9, 3) := by decide +kernel
theorem dX6_init_9 : decode cX6_init 9 = .ok (.aload_n 0, 1) := by decide +kernel
theorem dX6_init_10 : decode cX6_init 10 = .ok (.sipush 300, 3) := by decide +kernel
theorem dX6_init_13 : decode cX6_init 13 = .ok (.newarray .int, 2) := by decide +kernel
theorem dX6_init_15 : decode cX6_init 15 = .ok (.putfield 13, 3) := by decide +kernel
theorem dX6_init_18 : decode cX6_init 18 = .ok (.aload_n 0, 1) := by decide +kernel
theorem dX6_init_19 : decode cX6_init 19 = .ok (.sipush 400, 3) := by decide +kernel
theorem dX6_init_22 : decode cX6_init 22 = .ok (.newarray .int, 2) := by decide +kernel
theorem dX6_init_24 : decode cX6_init 24 = .ok (.putfield 17, 3) := by decide +kernel
theorem dX6_init_27 : decode cX6_init 27 = .ok (.aload_n 0, 1) := by decide +kernel
theorem dX6_init_28 : decode cX6_init 28 = .ok (.bipush 15, 2) := by decide +kernel
theorem dX6_init_30 : decode cX6_init 30 = .ok (.iconst 4, 1) := by decide +kernel
theorem dX6_init_31 : decode cX6_init 31 = .ok (.multianewarray 20 2, 4) := by decide +kernel
theorem dX6_init_35 : decode cX6_init 35 = .ok (.putfield 22, 3) := by decide +kernel
theorem dX6_init_38 : decode cX6_init 38 = .ok (.aload_n 0, 1) := by decide +kernel
theorem dX6_init_39 : decode cX6_init 39 = .ok (.bipush 6, 2) := by decide +kernel
theorem dX6_init_41 : decode cX6_init 41 = .ok (.sipush 400, 3) := by decide +kernel
theorem dX6_init_44 : decode cX6_init 44 = .ok (.multianewarray 20 2, 4) := by decide +kernel
theorem dX6_init_48 : decode cX6_init 48 = .ok (.putfield 25, 3) := by decide +kernel
theorem dX6_init_51 : decode cX6_init 51 = .ok (.aload_n 0, 1) := by decide +kernel
theorem dX6_init_52 : decode cX6_init 52 = .ok (.bipush 84, 2) := by decide +kernel
theorem dX6_init_54 : decode cX6_init 54 = .ok (.iconst 4, 1) := by decide +kernel
theorem dX6_init_55 : decode cX6_init 55 = .ok (.multianewarray 20 2, 4) := by decide +kernel
theorem dX6_init_59 : decode cX6_init 59 = .ok (.putfield 28, 3) := by decide +kernel
theorem dX6_init_62 : decode cX6_init 62 = .ok (.aload_n 0, 1) := by decide +kernel
theorem dX6_init_63 : decode cX6_init 63 = .ok (.bipush 6, 2) := by decide +kernel
theorem dX6_init_65 : decode cX6_init 65 = .ok (.newarray .int, 2) := by decide +kernel
theorem dX6_init_67 : decode cX6_init 67 = .ok (.putfield 31, 3) := by decide +kernel
theorem dX6_init_70 : decode cX6_init 70 = .ok (.aload_n 0, 1) := by decide +kernel
theorem dX6_init_71 : decode cX6_init 71 = .ok (.bipush 6, 2) := by decide +kernel
theorem dX6_init_73 : decode cX6_init 73 = .ok (.newarray .int, 2) := by decide +kernel
theorem dX6_init_75 : decode cX6_init 75 = .ok (.putfield 34, 3) := by decide +kernel
theorem dX6_init_78 : decode cX6_init 78 = .ok (.aload_n 0, 1) := by decide +kernel
theorem dX6_init_79 : decode cX6_init 79 = .ok (.bipush 120, 2) := by decide +kernel
theorem dX6_init_81 : decode cX6_init 81 = .ok (.newarray .int, 2) := by decide +kernel
theorem dX6_init_83 : decode cX6_init 83 = .ok (.putfield 37, 3) := by decide +kernel
theorem dX6_init_86 : decode cX6_init 86 = .ok (.aload_n 0, 1) := by decide +kernel
theorem dX6_init_87 : decode cX6_init 87 = .ok (.bipush 7, 2) := by decide +kernel
theorem dX6_init_89 : decode cX6_init 89 = .ok (.newarray .int, 2) := by decide +kernel
theorem dX6_init_91 : decode cX6_init 91 = .ok (.putfield 40, 3) := by decide +kernel
theorem dX6_init_94 : decode cX6_init 94 = .ok (.aload_n 0, 1) := by decide +kernel
theorem dX6_init_95 : decode cX6_init 95 = .ok (.bipush 10, 2) := by decide +kernel
theorem dX6_init_97 : decode cX6_init 97 = .ok (.newarray .int, 2) := by decide +kernel
theorem dX6_init_99 : decode cX6_init 99 = .ok (.dup, 1) := by decide +kernel
theorem dX6_init_100 : decode cX6_init 100 = .ok (.iconst 0, 1) := by decide +kernel
theorem dX6_init_101 : decode cX6_init 101 = .ok (.iconst 2, 1) := by decide +kernel
theorem dX6_init_102 : decode cX6_init 102 = .ok (.iastore, 1) := by decide +kernel
theorem dX6_init_103 : decode cX6_init 103 = .ok (.dup, 1) := by decide +kernel
theorem dX6_init_104 : decode cX6_init 104 = .ok (.iconst 1, 1) := by decide +kernel
theorem dX6_init_105 : decode cX6_init 105 = .ok (.bipush 20, 2) := by decide +kernel
theorem dX6_init_107 : decode cX6_init 107 = .ok (.iastore, 1) := by decide +kernel
theorem dX6_init_108 : decode cX6_init 108 = .ok (.dup, 1) := by decide +kernel
theorem dX6_init_109 : decode cX6_init 109 = .ok (.iconst 2, 1) := by decide +kernel
theorem dX6_init_110 : decode cX6_init 110 = .ok (.sipush 200, 3) := by decide +kernel
theorem dX6_init_113 : decode cX6_init 113 = .ok (.iastore, 1) := by decide +kernel
theorem dX6_init_114 : decode cX6_init 114 = .ok (.dup, 1) := by decide +kernel
theorem dX6_init_115 : decode cX6_init 115 = .ok (.iconst 3, 1) := by decide +kernel
theorem dX6_init_116 : decode cX6_init 116 = .ok (.bipush 15, 2) := by decide +kernel
theorem dX6_init_118 : decode cX6_init 118 = .ok (.iastore, 1) := by decide +kernel
theorem dX6_init_119 : decode cX6_init 119 = .ok (.dup, 1) := by decide +kernel
theorem dX6_init_120 : decode cX6_init 120 = .ok (.iconst 4, 1) := by decide +kernel
theorem dX6_init_121 : decode cX6_init 121 = .ok (.iconst 3, 1) := by decide +kernel
theorem dX6_init_122 : decode cX6_init 122 = .ok (.iastore, 1) := by decide +kernel
theorem dX6_init_123 : decode cX6_init 123 = .ok (.dup, 1) := by decide +kernel
theorem dX6_init_124 : decode cX6_init 124 = .ok (.iconst 5, 1) := by decide +kernel
theorem dX6_init_125 : decode cX6_init 125 = .ok (.iconst 2, 1) := by decide +kernel
theorem dX6_init_126 : decode cX6_init 126 = .ok (.iastore, 1) := by decide +kernel
theorem dX6_init_127 : decode cX6_init 127 = .ok (.dup, 1) := by decide +kernel
theorem dX6_init_128 : decode cX6_init 128 = .ok (.bipush 6, 2) := by decide +kernel
theorem dX6_init_130 : decode cX6_init 130 = .ok (.bipush 20, 2) := by decide +kernel
theorem dX6_init_132 : decode cX6_init 132 = .ok (.iastore, 1) := by decide +kernel
theorem dX6_init_133 : decode cX6_init 133 = .ok (.dup, 1) := by decide +kernel
theorem dX6_init_134 : decode cX6_init 134 = .ok (.bipush 7, 2) := by decide +kernel
theorem dX6_init_136 : decode cX6_init 136 = .ok (.sipush 600, 3) := by decide +kernel
theorem dX6_init_139 : decode cX6_init 139 = .ok (.iastore, 1) := by decide +kernel
theorem dX6_init_140 : decode cX6_init 140 = .ok (.dup, 1) := by decide +kernel
theorem dX6_init_141 : decode cX6_init 141 = .ok (.bipush 8, 2) := by decide +kernel
theorem dX6_init_143 : decode cX6_init 143 = .ok (.bipush 6, 2) := by decide +kernel
theorem dX6_init_145 : decode cX6_init 145 = .ok (.iastore, 1) := by decide +kernel
theorem dX6_init_146 : decode cX6_init 146 = .ok (.dup, 1) := by decide +kernel
theorem dX6_init_147 : decode cX6_init 147 = .ok (.bipush 9, 2) := by decide +kernel
theorem dX6_init_149 : decode cX6_init 149 = .ok (.bipush 90, 2) := by decide +kernel
theorem dX6_init_151 : decode cX6_init 151 = .ok (.iastore, 1) := by decide +kernel
theorem dX6_init_152 : decode cX6_init 152 = .ok (.putfield 43, 3) := by decide +kernel
theorem dX6_init_155 : decode cX6_init 155 = .ok (.aload_n 0, 1) := by decide +kernel
theorem dX6_init_156 : decode cX6_init 156 = .ok (.bipush 8, 2) := by decide +kernel
theorem dX6_init_158 : decode cX6_init 158 = .ok (.newarray .int, 2) := by decide +kernel
theorem dX6_init_160 : decode cX6_init 160 = .ok (.dup, 1) := by decide +kernel
theorem dX6_init_161 : decode cX6_init 161 = .ok (.iconst 0, 1) := by decide +kernel
theorem dX6_init_162 : decode cX6_init 162 = .ok (.bipush 100, 2) := by decide +kernel
theorem dX6_init_164 : decode cX6_init 164 = .ok (.iastore, 1) := by decide +kernel
theorem dX6_init_165 : decode cX6_init 165 = .ok (.dup, 1) := by decide +kernel
theorem dX6_init_166 : decode cX6_init 166 = .ok (.iconst 1, 1) := by decide +kernel
theorem dX6_init_167 : decode cX6_init 167 = .ok (.bipush 100, 2) := by decide +kernel
theorem dX6_init_169 : decode cX6_init 169 = .ok (.iastore, 1) := by decide +kernel
theorem dX6_init_170 : decode cX6_init 170 = .ok (.dup, 1) := by decide +kernel
theorem dX6_init_171 : decode cX6_init 171 = .ok (.iconst 2, 1) := by decide +kernel
theorem dX6_init_172 : decode cX6_init 172 = .ok (.bipush 100, 2) := by decide +kernel
theorem dX6_init_174 : decode cX6_init 174 = .ok (.iastore, 1) := by decide +kernel
theorem dX6_init_175 : decode cX6_init 175 = .ok (.dup, 1) := by decide +kernel
theorem dX6_init_176 : decode cX6_init 176 = .ok (.iconst 3, 1) := by decide +kernel
theorem dX6_init_177 : decode cX6_init 177 = .ok (.bipush 100, 2) := by decide +kernel
theorem dX6_init_179 : decode cX6_init 179 = .ok (.iastore, 1) := by decide +kernel
theorem dX6_init_180 : decode cX6_init 180 = .ok (.dup, 1) := by decide +kernel
theorem dX6_init_181 : decode cX6_init 181 = .ok (.iconst 4, 1) := by decide +kernel
theorem dX6_init_182 : decode cX6_init 182 = .ok (.bipush 100, 2) := by decide +kernel
theorem dX6_init_184 : decode cX6_init 184 = .ok (.iastore, 1) := by decide +kernel
theorem dX6_init_185 : decode cX6_init 185 = .ok (.dup, 1) := by decide +kernel
theorem dX6_init_186 : decode cX6_init 186 = .ok (.iconst 5, 1) := by decide +kernel
theorem dX6_init_187 : decode cX6_init 187 = .ok (.bipush 100, 2) := by decide +kernel
theorem dX6_init_189 : decode cX6_init 189 = .ok (.iastore, 1) := by decide +kernel
theorem dX6_init_190 : decode cX6_init 190 = .ok (.dup, 1) := by decide +kernel
theorem dX6_init_191 : decode cX6_init 191 = .ok (.bipush 6, 2) := by decide +kernel
theorem dX6_init_193 : decode cX6_init 193 = .ok (.bipush 100, 2) := by decide +kernel
theorem dX6_init_195 : decode cX6_init 195 = .ok (.iastore, 1) := by decide +kernel
theorem dX6_init_196 : decode cX6_init 196 = .ok (.dup, 1) := by decide +kernel
theorem dX6_init_197 : decode cX6_init 197 = .ok (.bipush 7, 2) := by decide +kernel
theorem dX6_init_199 : decode cX6_init 199 = .ok (.bipush 100, 2) := by decide +kernel
theorem dX6_init_201 : decode cX6_init 201 = .ok (.iastore, 1) := by decide +kernel
theorem dX6_init_202 : decode cX6_init 202 = .ok (.putfield 46, 3) := by decide +kernel
theorem dX6_init_205 : decode cX6_init 205 = .ok (.aload_n 0, 1) := by decide +kernel
theorem dX6_init_206 : decode cX6_init 206 = .ok (.bipush 10, 2) := by decide +kernel
theorem dX6_init_208 : decode cX6_init 208 = .ok (.newarray .int, 2) := by decide +kernel
theorem dX6_init_210 : decode cX6_init 210 = .ok (.putfield 49, 3) := by decide +kernel
theorem dX6_init_213 : decode cX6_init 213 = .ok (.aload_n 0, 1) := by decide +kernel
theorem dX6_init_214 : decode cX6_init 214 = .ok (.bipush 8, 2) := by decide +kernel
theorem dX6_init_216 : decode cX6_init 216 = .ok (.newarray .int, 2) := by decide +kernel
theorem dX6_init_218 : decode cX6_init 218 = .ok (.putfield 52, 3) := by decide +kernel
theorem dX6_init_221 : decode cX6_init 221 = .ok (.aload_n 0, 1) := by decide +kernel
theorem dX6_init_222 : decode cX6_init 222 = .ok (.bipush 8, 2) := by decide +kernel
theorem dX6_init_224 : decode cX6_init 224 = .ok (.newarray .int, 2) := by decide +kernel
theorem dX6_init_226 : decode cX6_init 226 = .ok (.putfield 55, 3) := by decide +kernel
theorem dX6_init_229 : decode cX6_init 229 = .ok (.aload_n 0, 1) := by decide +kernel
theorem dX6_init_230 : decode cX6_init 230 = .ok (.bipush 8, 2) := by decide +kernel
theorem dX6_init_232 : decode cX6_init 232 = .ok (.newarray .int, 2) := by decide +kernel
theorem dX6_init_234 : decode cX6_init 234 = .ok (.putfield 58, 3) := by decide +kernel
theorem dX6_init_237 : decode cX6_init 237 = .ok (.aload_n 0, 1) := by decide +kernel
theorem dX6_init_238 : decode cX6_init 238 = .ok (.bipush 100, 2) := by decide +kernel
theorem dX6_init_240 : decode cX6_init 240 = .ok (.bipush 8, 2) := by decide +kernel
theorem dX6_init_242 : decode cX6_init 242 = .ok (.multianewarray 20 2, 4) := by decide +kernel
theorem dX6_init_246 : decode cX6_init 246 = .ok (.putfield 61, 3) := by decide +kernel
theorem dX6_init_249 : decode cX6_init 249 = .ok (.aload_n 0, 1) := by decide +kernel
theorem dX6_init_250 : decode cX6_init 250 = .ok (.bipush 100, 2) := by decide +kernel
theorem dX6_init_252 : decode cX6_init 252 = .ok (.bipush 8, 2) := by decide +kernel
theorem dX6_init_254 : decode cX6_init 254 = .ok (.multianewarray 20 2, 4) := by decide +kernel
theorem dX6_init_258 : decode cX6_init 258 = .ok (.putfield 64, 3) := by decide +kernel
theorem dX6_init_261 : decode cX6_init 261 = .ok (.aload_n 0, 1) := by decide +kernel
theorem dX6_init_262 : decode cX6_init 262 = .ok (.bipush 100, 2) := by decide +kernel
theorem dX6_init_264 : decode cX6_init 264 = .ok (.bipush 8, 2) := by decide +kernel
theorem dX6_init_266 : decode cX6_init 266 = .ok (.multianewarray 20 2, 4) := by decide +kernel
theorem dX6_init_270 : decode cX6_init 270 = .ok (.putfield 67, 3) := by decide +kernel
theorem dX6_init_273 : decode cX6_init 273 = .ok (.aload_n 0, 1) := by decide +kernel
theorem dX6_init_274 : decode cX6_init 274 = .ok (.bipush 100, 2) := by decide +kernel
theorem dX6_init_276 : decode cX6_init 276 = .ok (.bipush 8, 2) := by decide +kernel
theorem dX6_init_278 : decode cX6_init 278 = .ok (.multianewarray 20 2, 4) := by decide +kernel
theorem dX6_init_282 : decode cX6_init 282 = .ok (.putfield 70, 3) := by decide +kernel
theorem dX6_init_285 : decode cX6_init 285 = .ok (.aload_n 0, 1) := by decide +kernel
theorem dX6_init_286 : decode cX6_init 286 = .ok (.bipush 100, 2) := by decide +kernel
theorem dX6_init_288 : decode cX6_init 288 = .ok (.newarray .int, 2) := by decide +kernel
theorem dX6_init_290 : decode cX6_init 290 = .ok (.putfield 73, 3) := by decide +kernel
theorem dX6_init_293 : decode cX6_init 293 = .ok (.aload_n 0, 1) := by decide +kernel
theorem dX6_init_294 : decode cX6_init 294 = .ok (.bipush 100, 2) := by decide +kernel
theorem dX6_init_296 : decode cX6_init 296 = .ok (.newarray .int, 2) := by decide +kernel
theorem dX6_init_298 : decode cX6_init 298 = .ok (.putfield 76, 3) := by decide +kernel
theorem dX6_init_301 : decode cX6_init 301 = .ok (.aload_n 0, 1) := by decide +kernel
theorem dX6_init_302 : decode cX6_init 302 = .ok (.bipush 100, 2) := by decide +kernel
theorem dX6_init_304 : decode cX6_init 304 = .ok (.newarray .int, 2) := by decide +kernel
theorem dX6_init_306 : decode cX6_init 306 = .ok (.putfield 79, 3) := by decide +kernel
theorem dX6_init_309 : decode cX6_init 309 = .ok (.aload_n 0, 1) := by decide +kernel
theorem dX6_init_310 : decode cX6_init 310 = .ok (.bipush 100, 2) := by decide +kernel
theorem dX6_init_312 : decode cX6_init 312 = .ok (.newarray .int, 2) := by decide +kernel
theorem dX6_init_314 : decode cX6_init 314 = .ok (.putfield 82, 3) := by decide +kernel
theorem dX6_init_317 : decode cX6_init 317 = .ok (.aload_n 0, 1) := by decide +kernel
theorem dX6_init_318 : decode cX6_init 318 = .ok (.bipush 100, 2) := by decide +kernel
theorem dX6_init_320 : decode cX6_init 320 = .ok (.newarray .int, 2) := by decide +kernel
theorem dX6_init_322 : decode cX6_init 322 = .ok (.putfield 85, 3) := by decide +kernel
theorem dX6_init_325 : decode cX6_init 325 = .ok (.aload_n 0, 1) := by decide +kernel
theorem dX6_init_326 : decode cX6_init 326 = .ok (.bipush 8, 2) := by decide +kernel
theorem dX6_init_328 : decode cX6_init 328 = .ok (.newarray .int, 2) := by decide +kernel
theorem dX6_init_330 : decode cX6_init 330 = .ok (.putfield 88, 3) := by decide +kernel
theorem dX6_init_333 : decode cX6_init 333 = .ok (.aload_n 0, 1) := by decide +kernel
theorem dX6_init_334 : decode cX6_init 334 = .ok (.iconst (-1), 1) := by decide +kernel
theorem dX6_init_335 : decode cX6_init 335 = .ok (.putfield 91, 3) := by decide +kernel
theorem dX6_init_338 : decode cX6_init 338 = .ok (.aload_n 0, 1) := by decide +kernel
theorem dX6_init_339 : decode cX6_init 339 = .ok (.iconst (-1), 1) := by decide +kernel
theorem dX6_init_340 : decode cX6_init 340 = .ok (.putfield 94, 3) := by decide +kernel
theorem dX6_init_343 : decode cX6_init 343 = .ok (.aload_n 0, 1) := by decide +kernel
theorem dX6_init_344 : decode cX6_init 344 = .ok (.bipush 10, 2) := by decide +kernel
theorem dX6_init_346 : decode cX6_init 346 = .ok (.bipush 6, 2) := by decide +kernel
theorem dX6_init_348 : decode cX6_init 348 = .ok (.multianewarray 20 2, 4) := by decide +kernel
theorem dX6_init_352 : decode cX6_init 352 = .ok (.putfield 97, 3) := by decide +kernel
theorem dX6_init_355 : decode cX6_init 355 = .ok (.aload_n 0, 1) := by decide +kernel
theorem dX6_init_356 : decode cX6_init 356 = .ok (.bipush 10, 2) := by decide +kernel
theorem dX6_init_358 : decode cX6_init 358 = .ok (.iconst 2, 1) := by decide +kernel
theorem dX6_init_359 : decode cX6_init 359 = .ok (.multianewarray 20 2, 4) := by decide +kernel
theorem dX6_init_363 : decode cX6_init 363 = .ok (.putfield 100, 3) := by decide +kernel
theorem dX6_init_366 : decode cX6_init 366 = .ok (.aload_n 0, 1) := by decide +kernel
theorem dX6_init_367 : decode cX6_init 367 = .ok (.iconst 5, 1) := by decide +kernel
theorem dX6_init_368 : decode cX6_init 368 = .ok (.iconst 3, 1) := by decide +kernel
theorem dX6_init_369 : decode cX6_init 369 = .ok (.multianewarray 20 2, 4) := by decide +kernel
theorem dX6_init_373 : decode cX6_init 373 = .ok (.putfield 103, 3) := by decide +kernel
theorem dX6_init_376 : decode cX6_init 376 = .ok (.aload_n 0, 1) := by decide +kernel
theorem dX6_init_377 : decode cX6_init 377 = .ok (.iconst 3, 1) := by decide +kernel
theorem dX6_init_378 : decode cX6_init 378 = .ok (.sipush 160, 3) := by decide +kernel
theorem dX6_init_381 : decode cX6_init 381 = .ok (.multianewarray 20 2, 4) := by decide +kernel
theorem dX6_init_385 : decode cX6_init 385 = .ok (.putfield 106, 3) := by decide +kernel
theorem dX6_init_388 : decode cX6_init 388 = .ok (.aload_n 0, 1) := by decide +kernel
theorem dX6_init_389 : decode cX6_init 389 = .ok (.bipush 6, 2) := by decide +kernel
theorem dX6_init_391 : decode cX6_init 391 = .ok (.newarray .long, 2) := by decide +kernel
theorem dX6_init_393 : decode cX6_init 393 = .ok (.putfield 109, 3) := by decide +kernel
theorem dX6_init_396 : decode cX6_init 396 = .ok (.return_, 1) := by decide +kernel
theorem dX6_thrown_0 : decode cX6_thrown 0 = .ok (.aload_n 0, 1) := by decide +kernel
theorem dX6_thrown_1 : decode cX6_thrown 1 = .ok (.getfield 113, 3) := by decide +kernel
theorem dX6_thrown_4 : decode cX6_thrown 4 = .ok (.ireturn, 1) := by decide +kernel
theorem dX6_bad_0 : decode cX6_bad 0 = .ok (.iload_n 1, 1) := by decide +kernel
theorem dX6_bad_1 : decode cX6_bad 1 = .ok (.ifCond .eq 15, 3) := by decide +kernel
theorem dX6_bad_4 : decode cX6_bad 4 = .ok (.aload_n 0, 1) := by decide +kernel
theorem dX6_bad_5 : decode cX6_bad 5 = .ok (.getfield 113, 3) := by decide +kernel
theorem dX6_bad_8 : decode cX6_bad 8 = .ok (.ifCond .ne 8, 3) := by decide +kernel
theorem dX6_bad_11 : decode cX6_bad 11 = .ok (.aload_n 0, 1) := by decide +kernel
theorem dX6_bad_12 : decode cX6_bad 12 = .ok (.iload_n 2, 1) := by decide +kernel
theorem dX6_bad_13 : decode cX6_bad 13 = .ok (.putfield 113, 3) := by decide +kernel
theorem dX6_bad_16 : decode cX6_bad 16 = .ok (.aload_n 0, 1) := by decide +kernel
theorem dX6_bad_17 : decode cX6_bad 17 = .ok (.getfield 113, 3) := by decide +kernel
theorem dX6_bad_20 : decode cX6_bad 20 = .ok (.ifCond .eq 7, 3) := by decide +kernel
theorem dX6_bad_23 : decode cX6_bad 23 = .ok (.iconst 1, 1) := by decide +kernel
theorem dX6_bad_24 : decode cX6_bad 24 = .ok (.goto 4, 3) := by decide +kernel
theorem dX6_bad_27 : decode cX6_bad 27 = .ok (.iconst 0, 1) := by decide +kernel
theorem dX6_bad_28 : decode cX6_bad 28 = .ok (.ireturn, 1) := by decide +kernel
theorem dX6_in_0 : decode cX6_in 0 = .ok (.iload_n 0, 1) := by decide +kernel
theorem dX6_in_1 : decode cX6_in 1 = .ok (.iload_n 1, 1) := by decide +kernel
theorem dX6_in_2 : decode cX6_in 2 = .ok (.if_icmp .lt 12, 3) := by decide +kernel
theorem dX6_in_5 : decode cX6_in 5 = .ok (.iload_n 0, 1) := by decide +kernel
theorem dX6_in_6 : decode cX6_in 6 = .ok (.iload_n 2, 1) := by decide +kernel
theorem dX6_in_7 : decode cX6_in 7 = .ok (.if_icmp .gt 7, 3) := by decide +kernel
theorem dX6_in_10 : decode cX6_in 10 = .ok (.iconst 1, 1) := by decide +kernel
theorem dX6_in_11 : decode cX6_in 11 = .ok (.goto 4, 3) := by decide +kernel
theorem dX6_in_14 : decode cX6_in 14 = .ok (.iconst 0, 1) := by decide +kernel
theorem dX6_in_15 : decode cX6_in 15 = .ok (.ireturn, 1) := by decide +kernel
theorem dX6_less_0 : decode cX6_less 0 = .ok (.iload_n 0, 1) := by decide +kernel
theorem dX6_less_1 : decode cX6_less 1 = .ok (.iload_n 1, 1) := by decide +kernel
theorem dX6_less_2 : decode cX6_less 2 = .ok (.if_icmp .ge 7, 3) := by decide +kernel
theorem dX6_less_5 : decode cX6_less 5 = .ok (.iload_n 0, 1) := by decide +kernel
theorem dX6_less_6 : decode cX6_less 6 = .ok (.goto 4, 3) := by decide +kernel
theorem dX6_less_9 : decode cX6_less 9 = .ok (.iload_n 1, 1) := by decide +kernel
theorem dX6_less_10 : decode cX6_less 10 = .ok (.ireturn, 1) := by decide +kernel
theorem dX6_more_0 : decode cX6_more 0 = .ok (.iload_n 0, 1) := by decide +kernel
theorem dX6_more_1 : decode cX6_more 1 = .ok (.iload_n 1, 1) := by decide +kernel
theorem dX6_more_2 : decode cX6_more 2 = .ok (.if_icmp .le 7, 3) := by decide +kernel
theorem dX6_more_5 : decode cX6_more 5 = .ok (.iload_n 0, 1) := by decide +kernel
theorem dX6_more_6 : decode cX6_more 6 = .ok (.goto 4, 3) := by decide +kernel
theorem dX6_more_9 : decode cX6_more 9 = .ok (.iload_n 1, 1) := by decide +kernel
theorem dX6_more_10 : decode cX6_more 10 = .ok (.ireturn, 1) := by decide +kernel
theorem dX6_lowest_0 : decode cX6_lowest 0 = .ok (.iload_n 0, 1) := by decide +kernel
theorem dX6_lowest_1 : decode cX6_lowest 1 = .ok (.iconst 5, 1) := by decide +kernel
theorem dX6_lowest_2 : decode cX6_lowest 2 = .ok (.if_icmp .ne 7, 3) := by decide +kernel
theorem dX6_lowest_5 : decode cX6_lowest 5 = .ok (.iconst 1, 1) := by decide +kernel
theorem dX6_lowest_6 : decode cX6_lowest 6 = .ok (.goto 4, 3) := by decide +kernel
theorem dX6_lowest_9 : decode cX6_lowest 9 = .ok (.iconst 0, 1) := by decide +kernel
theorem dX6_lowest_10 : decode cX6_lowest 10 = .ok (.ireturn, 1) := by decide +kernel
theorem dX6_highest_0 : decode cX6_highest 0 = .ok (.iload_n 0, 1) := by decide +kernel
theorem dX6_highest_1 : decode cX6_highest 1 = .ok (.iconst 5, 1) := by decide +kernel
theorem dX6_highest_2 : decode cX6_highest 2 = .ok (.if_icmp .ne 8, 3) := by decide +kernel
theorem dX6_highest_5 : decode cX6_highest 5 = .ok (.bipush 20, 2) := by decide +kernel
theorem dX6_highest_7 : decode cX6_highest 7 = .ok (.goto 39, 3) := by decide +kernel
theorem dX6_highest_10 : decode cX6_highest 10 = .ok (.iload_n 0, 1) := by decide +kernel
theorem dX6_highest_11 : decode cX6_highest 11 = .ok (.bipush 7, 2) := by decide +kernel
theorem dX6_highest_13 : decode cX6_highest 13 = .ok (.if_icmp .ne 9, 3) := by decide +kernel
theorem dX6_highest_16 : decode cX6_highest 16 = .ok (.sipush 9999, 3) := by decide +kernel
theorem dX6_highest_19 : decode cX6_highest 19 = .ok (.goto 27, 3) := by decide +kernel
theorem dX6_highest_22 : decode cX6_highest 22 = .ok (.iload_n 0, 1) := by decide +kernel
theorem dX6_highest_23 : decode cX6_highest 23 = .ok (.iconst 1, 1) := by decide +kernel
theorem dX6_highest_24 : decode cX6_highest 24 = .ok (.if_icmp .eq 14, 3) := by decide +kernel
theorem dX6_highest_27 : decode cX6_highest 27 = .ok (.iload_n 0, 1) := by decide +kernel
theorem dX6_highest_28 : decode cX6_highest 28 = .ok (.iconst 2, 1) := by decide +kernel
theorem dX6_highest_29 : decode cX6_highest 29 = .ok (.if_icmp .eq 9, 3) := by decide +kernel
theorem dX6_highest_32 : decode cX6_highest 32 = .ok (.iload_n 0, 1) := by decide +kernel
theorem dX6_highest_33 : decode cX6_highest 33 = .ok (.bipush 9, 2) := by decide +kernel
theorem dX6_highest_35 : decode cX6_highest 35 = .ok (.if_icmp .ne 9, 3) := by decide +kernel
theorem dX6_highest_38 : decode cX6_highest 38 = .ok (.sipush 999, 3) := by decide +kernel
theorem dX6_highest_41 : decode cX6_highest 41 = .ok (.goto 5, 3) := by decide +kernel
theorem dX6_highest_44 : decode cX6_highest 44 = .ok (.bipush 99, 2) := by decide +kernel
theorem dX6_highest_46 : decode cX6_highest 46 = .ok (.ireturn, 1) := by decide +kernel
theorem dX6_feed_0 : decode cX6_feed 0 = .ok (.aload_n 0, 1) := by decide +kernel
theorem dX6_feed_1 : decode cX6_feed 1 = .ok (.iconst 0, 1) := by decide +kernel
theorem dX6_feed_2 : decode cX6_feed 2 = .ok (.putfield 113, 3) := by decide +kernel
theorem dX6_feed_5 : decode cX6_feed 5 = .ok (.aload_n 0, 1) := by decide +kernel
theorem dX6_feed_6 : decode cX6_feed 6 = .ok (.getfield 116, 3) := by decide +kernel
theorem dX6_feed_9 : decode cX6_feed 9 = .ok (.bipush 20, 2) := by decide +kernel
theorem dX6_feed_11 : decode cX6_feed 11 = .ok (.iadd, 1) := by decide +kernel
theorem dX6_feed_12 : decode cX6_feed 12 = .ok (.sipush 300, 3) := by decide +kernel
theorem dX6_feed_15 : decode cX6_feed 15 = .ok (.if_icmp .le 5, 3) := by decide +kernel
theorem dX6_feed_18 : decode cX6_feed 18 = .ok (.iconst (-1), 1) := by decide +kernel
theorem dX6_feed_19 : decode cX6_feed 19 = .ok (.ireturn, 1) := by decide +kernel
theorem dX6_feed_20 : decode cX6_feed 20 = .ok (.iconst 0, 1) := by decide +kernel
theorem dX6_feed_21 : decode cX6_feed 21 = .ok (.istore 6, 2) := by decide +kernel
theorem dX6_feed_23 : decode cX6_feed 23 = .ok (.iload 6, 2) := by decide +kernel
theorem dX6_feed_25 : decode cX6_feed 25 = .ok (.bipush 20, 2) := by decide +kernel
theorem dX6_feed_27 : decode cX6_feed 27 = .ok (.if_icmp .ge 93, 3) := by decide +kernel
theorem dX6_feed_30 : decode cX6_feed 30 = .ok (.iload 6, 2) := by decide +kernel
theorem dX6_feed_32 : decode cX6_feed 32 = .ok (.iconst 4, 1) := by decide +kernel
theorem dX6_feed_33 : decode cX6_feed 33 = .ok (.if_icmp .ge 7, 3) := by decide +kernel
theorem dX6_feed_36 : decode cX6_feed 36 = .ok (.iload_n 1, 1) := by decide +kernel
theorem dX6_feed_37 : decode cX6_feed 37 = .ok (.goto 39, 3) := by decide +kernel
theorem dX6_feed_40 : decode cX6_feed 40 = .ok (.iload 6, 2) := by decide +kernel
theorem dX6_feed_42 : decode cX6_feed 42 = .ok (.bipush 8, 2) := by decide +kernel
theorem dX6_feed_44 : decode cX6_feed 44 = .ok (.if_icmp .ge 7, 3) := by decide +kernel
theorem dX6_feed_47 : decode cX6_feed 47 = .ok (.iload_n 2, 1) := by decide +kernel
theorem dX6_feed_48 : decode cX6_feed 48 = .ok (.goto 28, 3) := by decide +kernel
theorem dX6_feed_51 : decode cX6_feed 51 = .ok (.iload 6, 2) := by decide +kernel
theorem dX6_feed_53 : decode cX6_feed 53 = .ok (.bipush 12, 2) := by decide +kernel
theorem dX6_feed_55 : decode cX6_feed 55 = .ok (.if_icmp .ge 7, 3) := by decide +kernel
theorem dX6_feed_58 : decode cX6_feed 58 = .ok (.iload_n 3, 1) := by decide +kernel
theorem dX6_feed_59 : decode cX6_feed 59 = .ok (.goto 17, 3) := by decide +kernel
theorem dX6_feed_62 : decode cX6_feed 62 = .ok (.iload 6, 2) := by decide +kernel
theorem dX6_feed_64 : decode cX6_feed 64 = .ok (.bipush 16, 2) := by decide +kernel
theorem dX6_feed_66 : decode cX6_feed 66 = .ok (.if_icmp .ge 8, 3) := by decide +kernel
theorem dX6_feed_69 : decode cX6_feed 69 = .ok (.iload 4, 2) := by decide +kernel
theorem dX6_feed_71 : decode cX6_feed 71 = .ok (.goto 5, 3) := by decide +kernel
theorem dX6_feed_74 : decode cX6_feed 74 = .ok (.iload 5, 2) := by decide +kernel
theorem dX6_feed_76 : decode cX6_feed 76 = .ok (.istore 7, 2) := by decide +kernel
theorem dX6_feed_78 : decode cX6_feed 78 = .ok (.aload_n 0, 1) := by decide +kernel
theorem dX6_feed_79 : decode cX6_feed 79 = .ok (.getfield 13, 3) := by decide +kernel
theorem dX6_feed_82 : decode cX6_feed 82 = .ok (.aload_n 0, 1) := by decide +kernel
theorem dX6_feed_83 : decode cX6_feed 83 = .ok (.getfield 116, 3) := by decide +kernel
theorem dX6_feed_86 : decode cX6_feed 86 = .ok (.iload 7, 2) := by decide +kernel
theorem dX6_feed_88 : decode cX6_feed 88 = .ok (.bipush 24, 2) := by decide +kernel
theorem dX6_feed_90 : decode cX6_feed 90 = .ok (.bipush 8, 2) := by decide +kernel
theorem dX6_feed_92 : decode cX6_feed 92 = .ok (.iload 6, 2) := by decide +kernel
theorem dX6_feed_94 : decode cX6_feed 94 = .ok (.iconst 4, 1) := by decide +kernel
theorem dX6_feed_95 : decode cX6_feed 95 = .ok (.irem, 1) := by decide +kernel
theorem dX6_feed_96 : decode cX6_feed 96 = .ok (.imul, 1) := by decide +kernel
theorem dX6_feed_97 : decode cX6_feed 97 = .ok (.isub, 1) := by decide +kernel
theorem dX6_feed_98 : decode cX6_feed 98 = .ok (.ishr, 1) := by decide +kernel
theorem dX6_feed_99 : decode cX6_feed 99 = .ok (.sipush 255, 3) := by decide +kernel
theorem dX6_feed_102 : decode cX6_feed 102 = .ok (.iand, 1) := by decide +kernel
theorem dX6_feed_103 : decode cX6_feed 103 = .ok (.iastore, 1) := by decide +kernel
theorem dX6_feed_104 : decode cX6_feed 104 = .ok (.aload_n 0, 1) := by decide +kernel
theorem dX6_feed_105 : decode cX6_feed 105 = .ok (.dup, 1) := by decide +kernel
theorem dX6_feed_106 : decode cX6_feed 106 = .ok (.getfield 116, 3) := by decide +kernel
theorem dX6_feed_109 : decode cX6_feed 109 = .ok (.iconst 1, 1) := by decide +kernel
theorem dX6_feed_110 : decode cX6_feed 110 = .ok (.iadd, 1) := by decide +kernel
theorem dX6_feed_111 : decode cX6_feed 111 = .ok (.putfield 116, 3) := by decide +kernel
theorem dX6_feed_114 : decode cX6_feed 114 = .ok (.iinc 6 1, 3) := by decide +kernel
theorem dX6_feed_117 : decode cX6_feed 117 = .ok (.goto (-94), 3) := by decide +kernel
theorem dX6_feed_120 : decode cX6_feed 120 = .ok (.aload_n 0, 1) := by decide +kernel
theorem dX6_feed_121 : decode cX6_feed 121 = .ok (.getfield 116, 3) := by decide +kernel
theorem dX6_feed_124 : decode cX6_feed 124 = .ok (.ireturn, 1) := by decide +kernel
theorem dX6_byteAt_0 : decode cX6_byteAt 0 = .ok (.iload_n 1, 1) := by decide +kernel
theorem dX6_byteAt_1 : decode cX6_byteAt 1 = .ok (.aload_n 0, 1) := by decide +kernel
theorem dX6_byteAt_2 : decode cX6_byteAt 2 = .ok (.getfield 119, 3) := by decide +kernel
theorem dX6_byteAt_5 : decode cX6_byteAt 5 = .ok (.if_icmp .lt 7, 3) := by decide +kernel
theorem dX6_byteAt_8 : decode cX6_byteAt 8 = .ok (.iconst (-1), 1) := by decide +kernel
theorem dX6_byteAt_9 : decode cX6_byteAt 9 = .ok (.goto 9, 3) := by decide +kernel
theorem dX6_byteAt_12 : decode cX6_byteAt 12 = .ok (.aload_n 0, 1) := by decide +kernel
theorem dX6_byteAt_13 : decode cX6_byteAt 13 = .ok (.getfield 13, 3) := by decide +kernel
theorem dX6_byteAt_16 : decode cX6_byteAt 16 = .ok (.iload_n 1, 1) := by decide +kernel
theorem dX6_byteAt_17 : decode cX6_byteAt 17 = .ok (.iaload, 1) := by decide +kernel
theorem dX6_byteAt_18 : decode cX6_byteAt 18 = .ok (.ireturn, 1) := by decide +kernel
theorem dX6_blanks_0 : decode cX6_blanks 0 = .ok (.aload_n 0, 1) := by decide +kernel
theorem dX6_blanks_1 : decode cX6_blanks 1 = .ok (.aload_n 0, 1) := by decide +kernel
theorem dX6_blanks_2 : decode cX6_blanks 2 = .ok (.getfield 122, 3) := by decide +kernel
theorem dX6_blanks_5 : decode cX6_blanks 5 = .ok (.invokevirtual 125, 3) := by decide +kernel
theorem dX6_blanks_8 : decode cX6_blanks 8 = .ok (.bipush 32, 2) := by decide +kernel
theorem dX6_blanks_10 : decode cX6_blanks 10 = .ok (.if_icmp .ne 16, 3) := by decide +kernel
theorem dX6_blanks_13 : decode cX6_blanks 13 = .ok (.aload_n 0, 1) := by decide +kernel
theorem dX6_blanks_14 : decode cX6_blanks 14 = .ok (.dup, 1) := by decide +kernel
theorem dX6_blanks_15 : decode cX6_blanks 15 = .ok (.getfield 122, 3) := by decide +kernel
theorem dX6_blanks_18 : decode cX6_blanks 18 = .ok (.iconst 1, 1) := by decide +kernel
theorem dX6_blanks_19 : decode cX6_blanks 19 = .ok (.iadd, 1) := by decide +kernel
theorem dX6_blanks_20 : decode cX6_blanks 20 = .ok (.putfield 122, 3) := by decide +kernel
theorem dX6_blanks_23 : decode cX6_blanks 23 = .ok (.goto (-23), 3) := by decide +kernel
theorem dX6_blanks_26 : decode cX6_blanks 26 = .ok (.return_, 1) := by decide +kernel
theorem dX6_wrong_0 : decode cX6_wrong 0 = .ok (.aload_n 0, 1) := by decide +kernel
theorem dX6_wrong_1 : decode cX6_wrong 1 = .ok (.getfield 129, 3) := by decide +kernel
theorem dX6_wrong_4 : decode cX6_wrong 4 = .ok (.ifCond .ne 13, 3) := by decide +kernel
theorem dX6_wrong_7 : decode cX6_wrong 7 = .ok (.aload_n 0, 1) := by decide +kernel
theorem dX6_wrong_8 : decode cX6_wrong 8 = .ok (.iload_n 1, 1) := by decide +kernel
theorem dX6_wrong_9 : decode cX6_wrong 9 = .ok (.putfield 129, 3) := by decide +kernel
theorem dX6_wrong_12 : decode cX6_wrong 12 = .ok (.aload_n 0, 1) := by decide +kernel
theorem dX6_wrong_13 : decode cX6_wrong 13 = .ok (.iload_n 2, 1) := by decide +kernel
theorem dX6_wrong_14 : decode cX6_wrong 14 = .ok (.putfield 132, 3) := by decide +kernel
theorem dX6_wrong_17 : decode cX6_wrong 17 = .ok (.return_, 1) := by decide +kernel
theorem dX6_tells_0 : decode cX6_tells 0 = .ok (.aload_n 0, 1) := by decide +kernel
theorem dX6_tells_1 : decode cX6_tells 1 = .ok (.getfield 129, 3) := by decide +kernel
theorem dX6_tells_4 : decode cX6_tells 4 = .ok (.ifCond .eq 4, 3) := by decide +kernel
theorem dX6_tells_7 : decode cX6_tells 7 = .ok (.return_, 1) := by decide +kernel
theorem dX6_tells_8 : decode cX6_tells 8 = .ok (.aload_n 0, 1) := by decide +kernel
theorem dX6_tells_9 : decode cX6_tells 9 = .ok (.getfield 17, 3) := by decide +kernel
theorem dX6_tells_12 : decode cX6_tells 12 = .ok (.aload_n 0, 1) := by decide +kernel
theorem dX6_tells_13 : decode cX6_tells 13 = .ok (.getfield 135, 3) := by decide +kernel
theorem dX6_tells_16 : decode cX6_tells 16 = .ok (.iload_n 1, 1) := by decide +kernel
theorem dX6_tells_17 : decode cX6_tells 17 = .ok (.iastore, 1) := by decide +kernel
theorem dX6_tells_18 : decode cX6_tells 18 = .ok (.aload_n 0, 1) := by decide +kernel
theorem dX6_tells_19 : decode cX6_tells 19 = .ok (.dup, 1) := by decide +kernel
theorem dX6_tells_20 : decode cX6_tells 20 = .ok (.getfield 135, 3) := by decide +kernel
theorem dX6_tells_23 : decode cX6_tells 23 = .ok (.iconst 1, 1) := by decide +kernel
theorem dX6_tells_24 : decode cX6_tells 24 = .ok (.iadd, 1) := by decide +kernel
theorem dX6_tells_25 : decode cX6_tells 25 = .ok (.putfield 135, 3) := by decide +kernel
theorem dX6_tells_28 : decode cX6_tells 28 = .ok (.return_, 1) := by decide +kernel
theorem dX6_isDigit_0 : decode cX6_isDigit 0 = .ok (.iload_n 0, 1) := by decide +kernel
theorem dX6_isDigit_1 : decode cX6_isDigit 1 = .ok (.bipush 48, 2) := by decide +kernel
theorem dX6_isDigit_3 : decode cX6_isDigit 3 = .ok (.if_icmp .lt 13, 3) := by decide +kernel
theorem dX6_isDigit_6 : decode cX6_isDigit 6 = .ok (.iload_n 0, 1) := by decide +kernel
theorem dX6_isDigit_7 : decode cX6_isDigit 7 = .ok (.bipush 57, 2) := by decide +kernel
theorem dX6_isDigit_9 : decode cX6_isDigit 9 = .ok (.if_icmp .gt 7, 3) := by decide +kernel
theorem dX6_isDigit_12 : decode cX6_isDigit 12 = .ok (.iconst 1, 1) := by decide +kernel
theorem dX6_isDigit_13 : decode cX6_isDigit 13 = .ok (.goto 4, 3) := by decide +kernel
theorem dX6_isDigit_16 : decode cX6_isDigit 16 = .ok (.iconst 0, 1) := by decide +kernel
theorem dX6_isDigit_17 : decode cX6_isDigit 17 = .ok (.ireturn, 1) := by decide +kernel
theorem dX6_numberHere_0 : decode cX6_numberHere 0 = .ok (.aload_n 0, 1) := by decide +kernel
theorem dX6_numberHere_1 : decode cX6_numberHere 1 = .ok (.getfield 129, 3) := by decide +kernel
theorem dX6_numberHere_4 : decode cX6_numberHere 4 = .ok (.ifCond .eq 5, 3) := by decide +kernel
theorem dX6_numberHere_7 : decode cX6_numberHere 7 = .ok (.iconst 0, 1) := by decide +kernel
theorem dX6_numberHere_8 : decode cX6_numberHere 8 = .ok (.ireturn, 1) := by decide +kernel
theorem dX6_numberHere_9 : decode cX6_numberHere 9 = .ok (.aload_n 0, 1) := by decide +kernel
theorem dX6_numberHere_10 : decode cX6_numberHere 10 = .ok (.invokevirtual 138, 3) := by decide +kernel
theorem dX6_numberHere_13 : decode cX6_numberHere 13 = .ok (.aload_n 0, 1) := by decide +kernel
theorem dX6_numberHere_14 : decode cX6_numberHere 14 = .ok (.getfield 122, 3) := by decide +kernel
theorem dX6_numberHere_17 : decode cX6_numberHere 17 = .ok (.istore_n 3, 1) := by decide +kernel
theorem dX6_numberHere_18 : decode cX6_numberHere 18 = .ok (.iconst 0, 1) := by decide +kernel
theorem dX6_numberHere_19 : decode cX6_numberHere 19 = .ok (.istore 4, 2) := by decide +kernel
theorem dX6_numberHere_21 : decode cX6_numberHere 21 = .ok (.aload_n 0, 1) := by decide +kernel
theorem dX6_numberHere_22 : decode cX6_numberHere 22 = .ok (.aload_n 0, 1) := by decide +kernel
theorem dX6_numberHere_23 : decode cX6_numberHere 23 = .ok (.getfield 122, 3) := by decide +kernel
theorem dX6_numberHere_26 : decode cX6_numberHere 26 = .ok (.invokevirtual 125, 3) := by decide +kernel
theorem dX6_numberHere_29 : decode cX6_numberHere 29 = .ok (.invokestatic 141, 3) := by decide +kernel
theorem dX6_numberHere_32 : decode cX6_numberHere 32 = .ok (.ifCond .ne 12, 3) := by decide +kernel
theorem dX6_numberHere_35 : decode cX6_numberHere 35 = .ok (.aload_n 0, 1) := by decide +kernel
theorem dX6_numberHere_36 : decode cX6_numberHere 36 = .ok (.iconst 1, 1) := by decide +kernel
theorem dX6_numberHere_37 : decode cX6_numberHere 37 = .ok (.aload_n 0, 1) := by decide +kernel
theorem dX6_numberHere_38 : decode cX6_numberHere 38 = .ok (.getfield 122, 3) := by decide +kernel
theorem dX6_numberHere_41 : decode cX6_numberHere 41 = .ok (.invokevirtual 145, 3) := by decide +kernel
theorem dX6_numberHere_44 : decode cX6_numberHere 44 = .ok (.aload_n 0, 1) := by decide +kernel
theorem dX6_numberHere_45 : decode cX6_numberHere 45 = .ok (.aload_n 0, 1) := by decide +kernel
theorem dX6_numberHere_46 : decode cX6_numberHere 46 = .ok (.getfield 122, 3) := by decide +kernel
theorem dX6_numberHere_49 : decode cX6_numberHere 49 = .ok (.invokevirtual 125, 3) := by decide +kernel
theorem dX6_numberHere_52 : decode cX6_numberHere 52 = .ok (.invokestatic 141, 3) := by decide +kernel
theorem dX6_numberHere_55 : decode cX6_numberHere 55 = .ok (.ifCond .eq 51, 3) := by decide +kernel
theorem dX6_numberHere_58 : decode cX6_numberHere 58 = .ok (.bipush 10, 2) := by decide +kernel
theorem dX6_numberHere_60 : decode cX6_numberHere 60 = .ok (.iload 4, 2) := by decide +kernel
theorem dX6_numberHere_62 : decode cX6_numberHere 62 = .ok (.imul, 1) := by decide +kernel
theorem dX6_numberHere_63 : decode cX6_numberHere 63 = .ok (.aload_n 0, 1) := by decide +kernel
theorem dX6_numberHere_64 : decode cX6_numberHere 64 = .ok (.aload_n 0, 1) := by decide +kernel
theorem dX6_numberHere_65 : decode cX6_numberHere 65 = .ok (.getfield 122, 3) := by decide +kernel
theorem dX6_numberHere_68 : decode cX6_numberHere 68 = .ok (.invokevirtual 125, 3) := by decide +kernel
theorem dX6_numberHere_71 : decode cX6_numberHere 71 = .ok (.iadd, 1) := by decide +kernel
theorem dX6_numberHere_72 : decode cX6_numberHere 72 = .ok (.bipush 48, 2) := by decide +kernel
theorem dX6_numberHere_74 : decode cX6_numberHere 74 = .ok (.isub, 1) := by decide +kernel
theorem dX6_numberHere_75 : decode cX6_numberHere 75 = .ok (.istore 4, 2) := by decide +kernel
theorem dX6_numberHere_77 : decode cX6_numberHere 77 = .ok (.iload 4, 2) := by decide +kernel
theorem dX6_numberHere_79 : decode cX6_numberHere 79 = .ok (.ldc 149, 2) := by decide +kernel
theorem dX6_numberHere_81 : decode cX6_numberHere 81 = .ok (.if_icmp .le 8, 3) := by decide +kernel
theorem dX6_numberHere_84 : decode cX6_numberHere 84 = .ok (.ldc 149, 2) := by decide +kernel
theorem dX6_numberHere_86 : decode cX6_numberHere 86 = .ok (.goto 5, 3) := by decide +kernel
theorem dX6_numberHere_89 : decode cX6_numberHere 89 = .ok (.iload 4, 2) := by decide +kernel
theorem dX6_numberHere_91 : decode cX6_numberHere 91 = .ok (.istore 4, 2) := by decide +kernel
theorem dX6_numberHere_93 : decode cX6_numberHere 93 = .ok (.aload_n 0, 1) := by decide +kernel
theorem dX6_numberHere_94 : decode cX6_numberHere 94 = .ok (.dup, 1) := by decide +kernel
theorem dX6_numberHere_95 : decode cX6_numberHere 95 = .ok (.getfield 122, 3) := by decide +kernel
theorem dX6_numberHere_98 : decode cX6_numberHere 98 = .ok (.iconst 1, 1) := by decide +kernel
theorem dX6_numberHere_99 : decode cX6_numberHere 99 = .ok (.iadd, 1) := by decide +kernel
theorem dX6_numberHere_100 : decode cX6_numberHere 100 = .ok (.putfield 122, 3) := by decide +kernel
theorem dX6_numberHere_103 : decode cX6_numberHere 103 = .ok (.goto (-59), 3) := by decide +kernel
theorem dX6_numberHere_106 : decode cX6_numberHere 106 = .ok (.iload 4, 2) := by decide +kernel
theorem dX6_numberHere_108 : decode cX6_numberHere 108 = .ok (.iload_n 1, 1) := by decide +kernel
theorem dX6_numberHere_109 : decode cX6_numberHere 109 = .ok (.iload_n 2, 1) := by decide +kernel
theorem dX6_numberHere_110 : decode cX6_numberHere 110 = .ok (.invokestatic 150, 3) := by decide +kernel
theorem dX6_numberHere_113 : decode cX6_numberHere 113 = .ok (.ifCond .ne 9, 3) := by decide +kernel
theorem dX6_numberHere_116 : decode cX6_numberHere 116 = .ok (.aload_n 0, 1) := by decide +kernel
theorem dX6_numberHere_117 : decode cX6_numberHere 117 = .ok (.iconst 2, 1) := by decide +kernel
theorem dX6_numberHere_118 : decode cX6_numberHere 118 = .ok (.iload_n 3, 1) := by decide +kernel
theorem dX6_numberHere_119 : decode cX6_numberHere 119 = .ok (.invokevirtual 145, 3) := by decide +kernel
theorem dX6_numberHere_122 : decode cX6_numberHere 122 = .ok (.iload 4, 2) := by decide +kernel
theorem dX6_numberHere_124 : decode cX6_numberHere 124 = .ok (.ireturn, 1) := by decide +kernel
theorem dX6_wordHere_0 : decode cX6_wordHere 0 = .ok (.aload_n 0, 1) := by decide +kernel
theorem dX6_wordHere_1 : decode cX6_wordHere 1 = .ok (.invokevirtual 138, 3) := by decide +kernel
theorem dX6_wordHere_4 : decode cX6_wordHere 4 = .ok (.iconst 0, 1) := by decide +kernel
theorem dX6_wordHere_5 : decode cX6_wordHere 5 = .ok (.istore_n 1, 1) := by decide +kernel
theorem dX6_wordHere_6 : decode cX6_wordHere 6 = .ok (.iconst 0, 1) := by decide +kernel
theorem dX6_wordHere_7 : decode cX6_wordHere 7 = .ok (.istore_n 2, 1) := by decide +kernel
theorem dX6_wordHere_8 : decode cX6_wordHere 8 = .ok (.aload_n 0, 1) := by decide +kernel
theorem dX6_wordHere_9 : decode cX6_wordHere 9 = .ok (.aload_n 0, 1) := by decide +kernel
theorem dX6_wordHere_10 : decode cX6_wordHere 10 = .ok (.getfield 122, 3) := by decide +kernel
theorem dX6_wordHere_13 : decode cX6_wordHere 13 = .ok (.iload_n 2, 1) := by decide +kernel
theorem dX6_wordHere_14 : decode cX6_wordHere 14 = .ok (.iadd, 1) := by decide +kernel
theorem dX6_wordHere_15 : decode cX6_wordHere 15 = .ok (.invokevirtual 125, 3) := by decide +kernel
theorem dX6_wordHere_18 : decode cX6_wordHere 18 = .ok (.bipush 97, 2) := by decide +kernel
theorem dX6_wordHere_20 : decode cX6_wordHere 20 = .ok (.if_icmp .lt 55, 3) := by decide +kernel
theorem dX6_wordHere_23 : decode cX6_wordHere 23 = .ok (.aload_n 0, 1) := by decide +kernel
theorem dX6_wordHere_24 : decode cX6_wordHere 24 = .ok (.aload_n 0, 1) := by decide +kernel
theorem dX6_wordHere_25 : decode cX6_wordHere 25 = .ok (.getfield 122, 3) := by decide +kernel
theorem dX6_wordHere_28 : decode cX6_wordHere 28 = .ok (.iload_n 2, 1) := by decide +kernel
theorem dX6_wordHere_29 : decode cX6_wordHere 29 = .ok (.iadd, 1) := by decide +kernel
theorem dX6_wordHere_30 : decode cX6_wordHere 30 = .ok (.invokevirtual 125, 3) := by decide +kernel
theorem dX6_wordHere_33 : decode cX6_wordHere 33 = .ok (.bipush 122, 2) := by decide +kernel
theorem dX6_wordHere_35 : decode cX6_wordHere 35 = .ok (.if_icmp .gt 40, 3) := by decide +kernel
theorem dX6_wordHere_38 : decode cX6_wordHere 38 = .ok (.iload_n 2, 1) := by decide +kernel
theorem dX6_wordHere_39 : decode cX6_wordHere 39 = .ok (.bipush 6, 2) := by decide +kernel
theorem dX6_wordHere_41 : decode cX6_wordHere 41 = .ok (.if_icmp .ge 26, 3) := by decide +kernel
theorem dX6_wordHere_44 : decode cX6_wordHere 44 = .ok (.bipush 27, 2) := by decide +kernel
theorem dX6_wordHere_46 : decode cX6_wordHere 46 = .ok (.iload_n 1, 1) := by decide +kernel
theorem dX6_wordHere_47 : decode cX6_wordHere 47 = .ok (.imul, 1) := by decide +kernel
theorem dX6_wordHere_48 : decode cX6_wordHere 48 = .ok (.aload_n 0, 1) := by decide +kernel
theorem dX6_wordHere_49 : decode cX6_wordHere 49 = .ok (.aload_n 0, 1) := by decide +kernel
theorem dX6_wordHere_50 : decode cX6_wordHere 50 = .ok (.getfield 122, 3) := by decide +kernel
theorem dX6_wordHere_53 : decode cX6_wordHere 53 = .ok (.iload_n 2, 1) := by decide +kernel
theorem dX6_wordHere_54 : decode cX6_wordHere 54 = .ok (.iadd, 1) := by decide +kernel
theorem dX6_wordHere_55 : decode cX6_wordHere 55 = .ok (.invokevirtual 125, 3) := by decide +kernel
theorem dX6_wordHere_58 : decode cX6_wordHere 58 = .ok (.iadd, 1) := by decide +kernel
theorem dX6_wordHere_59 : decode cX6_wordHere 59 = .ok (.bipush 97, 2) := by decide +kernel
theorem dX6_wordHere_61 : decode cX6_wordHere 61 = .ok (.isub, 1) := by decide +kernel
theorem dX6_wordHere_62 : decode cX6_wordHere 62 = .ok (.iconst 1, 1) := by decide +kernel
theorem dX6_wordHere_63 : decode cX6_wordHere 63 = .ok (.iadd, 1) := by decide +kernel
theorem dX6_wordHere_64 : decode cX6_wordHere 64 = .ok (.goto 4, 3) := by decide +kernel
theorem dX6_wordHere_67 : decode cX6_wordHere 67 = .ok (.iload_n 1, 1) := by decide +kernel
theorem dX6_wordHere_68 : decode cX6_wordHere 68 = .ok (.istore_n 1, 1) := by decide +kernel
theorem dX6_wordHere_69 : decode cX6_wordHere 69 = .ok (.iinc 2 1, 3) := by decide +kernel
theorem dX6_wordHere_72 : decode cX6_wordHere 72 = .ok (.goto (-64), 3) := by decide +kernel
theorem dX6_wordHere_75 : decode cX6_wordHere 75 = .ok (.iload_n 2, 1) := by decide +kernel
theorem dX6_wordHere_76 : decode cX6_wordHere 76 = .ok (.bipush 6, 2) := by decide +kernel
theorem dX6_wordHere_78 : decode cX6_wordHere 78 = .ok (.if_icmp .le 7, 3) := by decide +kernel
theorem dX6_wordHere_81 : decode cX6_wordHere 81 = .ok (.iconst (-1), 1) := by decide +kernel
theorem dX6_wordHere_82 : decode cX6_wordHere 82 = .ok (.goto 4, 3) := by decide +kernel
theorem dX6_wordHere_85 : decode cX6_wordHere 85 = .ok (.iload_n 1, 1) := by decide +kernel
theorem dX6_wordHere_86 : decode cX6_wordHere 86 = .ok (.ireturn, 1) := by decide +kernel
theorem dX6_word_0 : decode cX6_word 0 = .ok (.bipush 27, 2) := by decide +kernel
theorem dX6_word_2 : decode cX6_word 2 = .ok (.iload_n 0, 1) := by decide +kernel
theorem dX6_word_3 : decode cX6_word 3 = .ok (.imul, 1) := by decide +kernel
theorem dX6_word_4 : decode cX6_word 4 = .ok (.iload_n 1, 1) := by decide +kernel
theorem dX6_word_5 : decode cX6_word 5 = .ok (.iadd, 1) := by decide +kernel
theorem dX6_word_6 : decode cX6_word 6 = .ok (.istore 6, 2) := by decide +kernel
theorem dX6_word_8 : decode cX6_word 8 = .ok (.iload_n 2, 1) := by decide +kernel
theorem dX6_word_9 : decode cX6_word 9 = .ok (.ifCond .ne 8, 3) := by decide +kernel
theorem dX6_word_12 : decode cX6_word 12 = .ok (.iload 6, 2) := by decide +kernel
theorem dX6_word_14 : decode cX6_word 14 = .ok (.goto 10, 3) := by decide +kernel
theorem dX6_word_17 : decode cX6_word 17 = .ok (.bipush 27, 2) := by decide +kernel
theorem dX6_word_19 : decode cX6_word 19 = .ok (.iload 6, 2) := by decide +kernel
theorem dX6_word_21 : decode cX6_word 21 = .ok (.imul, 1) := by decide +kernel
theorem dX6_word_22 : decode cX6_word 22 = .ok (.iload_n 2, 1) := by decide +kernel
theorem dX6_word_23 : decode cX6_word 23 = .ok (.iadd, 1) := by decide +kernel
theorem dX6_word_24 : decode cX6_word 24 = .ok (.istore 6, 2) := by decide +kernel
theorem dX6_word_26 : decode cX6_word 26 = .ok (.iload_n 3, 1) := by decide +kernel
theorem dX6_word_27 : decode cX6_word 27 = .ok (.ifCond .ne 8, 3) := by decide +kernel
theorem dX6_word_30 : decode cX6_word 30 = .ok (.iload 6, 2) := by decide +kernel
theorem dX6_word_32 : decode cX6_word 32 = .ok (.goto 10, 3) := by decide +kernel
theorem dX6_word_35 : decode cX6_word 35 = .ok (.bipush 27, 2) := by decide +kernel
theorem dX6_word_37 : decode cX6_word 37 = .ok (.iload 6, 2) := by decide +kernel
theorem dX6_word_39 : decode cX6_word 39 = .ok (.imul, 1) := by decide +kernel
theorem dX6_word_40 : decode cX6_word 40 = .ok (.iload_n 3, 1) := by decide +kernel
theorem dX6_word_41 : decode cX6_word 41 = .ok (.iadd, 1) := by decide +kernel
theorem dX6_word_42 : decode cX6_word 42 = .ok (.istore 6, 2) := by decide +kernel
theorem dX6_word_44 : decode cX6_word 44 = .ok (.iload 4, 2) := by decide +kernel
theorem dX6_word_46 : decode cX6_word 46 = .ok (.ifCond .ne 8, 3) := by decide +kernel
theorem dX6_word_49 : decode cX6_word 49 = .ok (.iload 6, 2) := by decide +kernel
theorem dX6_word_51 : decode cX6_word 51 = .ok (.goto 11, 3) := by decide +kernel
theorem dX6_word_54 : decode cX6_word 54 = .ok (.bipush 27, 2) := by decide +kernel
theorem dX6_word_56 : decode cX6_word 56 = .ok (.iload 6, 2) := by decide +kernel
theorem dX6_word_58 : decode cX6_word 58 = .ok (.imul, 1) := by decide +kernel
theorem dX6_word_59 : decode cX6_word 59 = .ok (.iload 4, 2) := by decide +kernel
theorem dX6_word_61 : decode cX6_word 61 = .ok (.iadd, 1) := by decide +kernel
theorem dX6_word_62 : decode cX6_word 62 = .ok (.istore 6, 2) := by decide +kernel
theorem dX6_word_64 : decode cX6_word 64 = .ok (.iload 5, 2) := by decide +kernel
theorem dX6_word_66 : decode cX6_word 66 = .ok (.ifCond .ne 8, 3) := by decide +kernel
theorem dX6_word_69 : decode cX6_word 69 = .ok (.iload 6, 2) := by decide +kernel
theorem dX6_word_71 : decode cX6_word 71 = .ok (.goto 11, 3) := by decide +kernel
theorem dX6_word_74 : decode cX6_word 74 = .ok (.bipush 27, 2) := by decide +kernel
theorem dX6_word_76 : decode cX6_word 76 = .ok (.iload 6, 2) := by decide +kernel
theorem dX6_word_78 : decode cX6_word 78 = .ok (.imul, 1) := by decide +kernel
theorem dX6_word_79 : decode cX6_word 79 = .ok (.iload 5, 2) := by decide +kernel
theorem dX6_word_81 : decode cX6_word 81 = .ok (.iadd, 1) := by decide +kernel
theorem dX6_word_82 : decode cX6_word 82 = .ok (.ireturn, 1) := by decide +kernel
theorem dX6_isWord_0 : decode cX6_isWord 0 = .ok (.aload_n 0, 1) := by decide +kernel
theorem dX6_isWord_1 : decode cX6_isWord 1 = .ok (.invokevirtual 154, 3) := by decide +kernel
theorem dX6_isWord_4 : decode cX6_isWord 4 = .ok (.iload_n 1, 1) := by decide +kernel
theorem dX6_isWord_5 : decode cX6_isWord 5 = .ok (.iload_n 2, 1) := by decide +kernel
theorem dX6_isWord_6 : decode cX6_isWord 6 = .ok (.iload_n 3, 1) := by decide +kernel
theorem dX6_isWord_7 : decode cX6_isWord 7 = .ok (.iload 4, 2) := by decide +kernel
theorem dX6_isWord_9 : decode cX6_isWord 9 = .ok (.iload 5, 2) := by decide +kernel
theorem dX6_isWord_11 : decode cX6_isWord 11 = .ok (.iload 6, 2) := by decide +kernel
theorem dX6_isWord_13 : decode cX6_isWord 13 = .ok (.invokestatic 158, 3) := by decide +kernel
theorem dX6_isWord_16 : decode cX6_isWord 16 = .ok (.if_icmp .ne 7, 3) := by decide +kernel
theorem dX6_isWord_19 : decode cX6_isWord 19 = .ok (.iconst 1, 1) := by decide +kernel
theorem dX6_isWord_20 : decode cX6_isWord 20 = .ok (.goto 4, 3) := by decide +kernel
theorem dX6_isWord_23 : decode cX6_isWord 23 = .ok (.iconst 0, 1) := by decide +kernel
theorem dX6_isWord_24 : decode cX6_isWord 24 = .ok (.ireturn, 1) := by decide +kernel
theorem dX6_skipWord_0 : decode cX6_skipWord 0 = .ok (.aload_n 0, 1) := by decide +kernel
theorem dX6_skipWord_1 : decode cX6_skipWord 1 = .ok (.aload_n 0, 1) := by decide +kernel
theorem dX6_skipWord_2 : decode cX6_skipWord 2 = .ok (.getfield 122, 3) := by decide +kernel
theorem dX6_skipWord_5 : decode cX6_skipWord 5 = .ok (.invokevirtual 125, 3) := by decide +kernel
theorem dX6_skipWord_8 : decode cX6_skipWord 8 = .ok (.bipush 97, 2) := by decide +kernel
theorem dX6_skipWord_10 : decode cX6_skipWord 10 = .ok (.if_icmp .lt 29, 3) := by decide +kernel
theorem dX6_skipWord_13 : decode cX6_skipWord 13 = .ok (.aload_n 0, 1) := by decide +kernel
theorem dX6_skipWord_14 : decode cX6_skipWord 14 = .ok (.aload_n 0, 1) := by decide +kernel
theorem dX6_skipWord_15 : decode cX6_skipWord 15 = .ok (.getfield 122, 3) := by decide +kernel
theorem dX6_skipWord_18 : decode cX6_skipWord 18 = .ok (.invokevirtual 125, 3) := by decide +kernel
theorem dX6_skipWord_21 : decode cX6_skipWord 21 = .ok (.bipush 122, 2) := by decide +kernel
theorem dX6_skipWord_23 : decode cX6_skipWord 23 = .ok (.if_icmp .gt 16, 3) := by decide +kernel
theorem dX6_skipWord_26 : decode cX6_skipWord 26 = .ok (.aload_n 0, 1) := by decide +kernel
theorem dX6_skipWord_27 : decode cX6_skipWord 27 = .ok (.dup, 1) := by decide +kernel
theorem dX6_skipWord_28 : decode cX6_skipWord 28 = .ok (.getfield 122, 3) := by decide +kernel
theorem dX6_skipWord_31 : decode cX6_skipWord 31 = .ok (.iconst 1, 1) := by decide +kernel
theorem dX6_skipWord_32 : decode cX6_skipWord 32 = .ok (.iadd, 1) := by decide +kernel
theorem dX6_skipWord_33 : decode cX6_skipWord 33 = .ok (.putfield 122, 3) := by decide +kernel
theorem dX6_skipWord_36 : decode cX6_skipWord 36 = .ok (.goto (-36), 3) := by decide +kernel
theorem dX6_skipWord_39 : decode cX6_skipWord 39 = .ok (.return_, 1) := by decide +kernel
theorem dX6_must_0 : decode cX6_must 0 = .ok (.aload_n 0, 1) := by decide +kernel
theorem dX6_must_1 : decode cX6_must 1 = .ok (.getfield 129, 3) := by decide +kernel
theorem dX6_must_4 : decode cX6_must 4 = .ok (.ifCond .eq 4, 3) := by decide +kernel
theorem dX6_must_7 : decode cX6_must 7 = .ok (.return_, 1) := by decide +kernel
theorem dX6_must_8 : decode cX6_must 8 = .ok (.iload_n 1, 1) := by decide +kernel
theorem dX6_must_9 : decode cX6_must 9 = .ok (.ifCond .eq 10, 3) := by decide +kernel
theorem dX6_must_12 : decode cX6_must 12 = .ok (.aload_n 0, 1) := by decide +kernel
theorem dX6_must_13 : decode cX6_must 13 = .ok (.invokevirtual 162, 3) := by decide +kernel
theorem dX6_must_16 : decode cX6_must 16 = .ok (.goto 12, 3) := by decide +kernel
theorem dX6_must_19 : decode cX6_must 19 = .ok (.aload_n 0, 1) := by decide +kernel
theorem dX6_must_20 : decode cX6_must 20 = .ok (.iconst 1, 1) := by decide +kernel
theorem dX6_must_21 : decode cX6_must 21 = .ok (.aload_n 0, 1) := by decide +kernel
theorem dX6_must_22 : decode cX6_must 22 = .ok (.getfield 122, 3) := by decide +kernel
theorem dX6_must_25 : decode cX6_must 25 = .ok (.invokevirtual 145, 3) := by decide +kernel
theorem dX6_must_28 : decode cX6_must 28 = .ok (.return_, 1) := by decide +kernel
theorem dX6_sign_0 : decode cX6_sign 0 = .ok (.aload_n 0, 1) := by decide +kernel
theorem dX6_sign_1 : decode cX6_sign 1 = .ok (.getfield 129, 3) := by decide +kernel
theorem dX6_sign_4 : decode cX6_sign 4 = .ok (.ifCond .eq 4, 3) := by decide +kernel
theorem dX6_sign_7 : decode cX6_sign 7 = .ok (.return_, 1) := by decide +kernel
theorem dX6_sign_8 : decode cX6_sign 8 = .ok (.aload_n 0, 1) := by decide +kernel
theorem dX6_sign_9 : decode cX6_sign 9 = .ok (.invokevirtual 138, 3) := by decide +kernel
theorem dX6_sign_12 : decode cX6_sign 12 = .ok (.aload_n 0, 1) := by decide +kernel
theorem dX6_sign_13 : decode cX6_sign 13 = .ok (.aload_n 0, 1) := by decide +kernel
theorem dX6_sign_14 : decode cX6_sign 14 = .ok (.getfield 122, 3) := by decide +kernel
theorem dX6_sign_17 : decode cX6_sign 17 = .ok (.invokevirtual 125, 3) := by decide +kernel
theorem dX6_sign_20 : decode cX6_sign 20 = .ok (.iload_n 1, 1) := by decide +kernel
theorem dX6_sign_21 : decode cX6_sign 21 = .ok (.if_icmp .ne 16, 3) := by decide +kernel
theorem dX6_sign_24 : decode cX6_sign 24 = .ok (.aload_n 0, 1) := by decide +kernel
theorem dX6_sign_25 : decode cX6_sign 25 = .ok (.dup, 1) := by decide +kernel
theorem dX6_sign_26 : decode cX6_sign 26 = .ok (.getfield 122, 3) := by decide +kernel
theorem dX6_sign_29 : decode cX6_sign 29 = .ok (.iconst 1, 1) := by decide +kernel
theorem dX6_sign_30 : decode cX6_sign 30 = .ok (.iadd, 1) := by decide +kernel
theorem dX6_sign_31 : decode cX6_sign 31 = .ok (.putfield 122, 3) := by decide +kernel
theorem dX6_sign_34 : decode cX6_sign 34 = .ok (.goto 12, 3) := by decide +kernel
theorem dX6_sign_37 : decode cX6_sign 37 = .ok (.aload_n 0, 1) := by decide +kernel
theorem dX6_sign_38 : decode cX6_sign 38 = .ok (.iconst 1, 1) := by decide +kernel
theorem dX6_sign_39 : decode cX6_sign 39 = .ok (.aload_n 0, 1) := by decide +kernel
theorem dX6_sign_40 : decode cX6_sign 40 = .ok (.getfield 122, 3) := by decide +kernel
theorem dX6_sign_43 : decode cX6_sign 43 = .ok (.invokevirtual 145, 3) := by decide +kernel
theorem dX6_sign_46 : decode cX6_sign 46 = .ok (.return_, 1) := by decide +kernel
theorem dX6_opens_0 : decode cX6_opens 0 = .ok (.aload_n 0, 1) := by decide +kernel
theorem dX6_opens_1 : decode cX6_opens 1 = .ok (.getfield 165, 3) := by decide +kernel
theorem dX6_opens_4 : decode cX6_opens 4 = .ok (.bipush 6, 2) := by decide +kernel
theorem dX6_opens_6 : decode cX6_opens 6 = .ok (.if_icmp .ne 12, 3) := by decide +kernel
theorem dX6_opens_9 : decode cX6_opens 9 = .ok (.aload_n 0, 1) := by decide +kernel
theorem dX6_opens_10 : decode cX6_opens 10 = .ok (.iconst 3, 1) := by decide +kernel
theorem dX6_opens_11 : decode cX6_opens 11 = .ok (.aload_n 0, 1) := by decide +kernel
theorem dX6_opens_12 : decode cX6_opens 12 = .ok (.getfield 122, 3) := by decide +kernel
theorem dX6_opens_15 : decode cX6_opens 15 = .ok (.invokevirtual 145, 3) := by decide +kernel
theorem dX6_opens_18 : decode cX6_opens 18 = .ok (.aload_n 0, 1) := by decide +kernel
theorem dX6_opens_19 : decode cX6_opens 19 = .ok (.dup, 1) := by decide +kernel
theorem dX6_opens_20 : decode cX6_opens 20 = .ok (.getfield 165, 3) := by decide +kernel
theorem dX6_opens_23 : decode cX6_opens 23 = .ok (.iconst 1, 1) := by decide +kernel
theorem dX6_opens_24 : decode cX6_opens 24 = .ok (.iadd, 1) := by decide +kernel
theorem dX6_opens_25 : decode cX6_opens 25 = .ok (.putfield 165, 3) := by decide +kernel
theorem dX6_opens_28 : decode cX6_opens 28 = .ok (.aload_n 0, 1) := by decide +kernel
theorem dX6_opens_29 : decode cX6_opens 29 = .ok (.dup, 1) := by decide +kernel
theorem dX6_opens_30 : decode cX6_opens 30 = .ok (.getfield 122, 3) := by decide +kernel
theorem dX6_opens_33 : decode cX6_opens 33 = .ok (.iload_n 1, 1) := by decide +kernel
theorem dX6_opens_34 : decode cX6_opens 34 = .ok (.iadd, 1) := by decide +kernel
theorem dX6_opens_35 : decode cX6_opens 35 = .ok (.putfield 122, 3) := by decide +kernel
theorem dX6_opens_38 : decode cX6_opens 38 = .ok (.return_, 1) := by decide +kernel
theorem dX6_nameHere_0 : decode cX6_nameHere 0 = .ok (.aload_n 0, 1) := by decide +kernel
theorem dX6_nameHere_1 : decode cX6_nameHere 1 = .ok (.bipush 19, 2) := by decide +kernel
theorem dX6_nameHere_3 : decode cX6_nameHere 3 = .ok (.iconst 5, 1) := by decide +kernel
theorem dX6_nameHere_4 : decode cX6_nameHere 4 = .ok (.iconst 3, 1) := by decide +kernel
theorem dX6_nameHere_5 : decode cX6_nameHere 5 = .ok (.bipush 15, 2) := by decide +kernel
theorem dX6_nameHere_7 : decode cX6_nameHere 7 = .ok (.bipush 14, 2) := by decide +kernel
theorem dX6_nameHere_9 : decode cX6_nameHere 9 = .ok (.iconst 4, 1) := by decide +kernel
theorem dX6_nameHere_10 : decode cX6_nameHere 10 = .ok (.invokevirtual 168, 3) := by decide +kernel
theorem dX6_nameHere_13 : decode cX6_nameHere 13 = .ok (.ifCond .eq 5, 3) := by decide +kernel
theorem dX6_nameHere_16 : decode cX6_nameHere 16 = .ok (.iconst 0, 1) := by decide +kernel
theorem dX6_nameHere_17 : decode cX6_nameHere 17 = .ok (.ireturn, 1) := by decide +kernel
theorem dX6_nameHere_18 : decode cX6_nameHere 18 = .ok (.aload_n 0, 1) := by decide +kernel
theorem dX6_nameHere_19 : decode cX6_nameHere 19 = .ok (.bipush 7, 2) := by decide +kernel
theorem dX6_nameHere_21 : decode cX6_nameHere 21 = .ok (.iconst 1, 1) := by decide +kernel
theorem dX6_nameHere_22 : decode cX6_nameHere 22 = .ok (.bipush 16, 2) := by decide +kernel
theorem dX6_nameHere_24 : decode cX6_nameHere 24 = .ok (.iconst 0, 1) := by decide +kernel
theorem dX6_nameHere_25 : decode cX6_nameHere 25 = .ok (.iconst 0, 1) := by decide +kernel
theorem dX6_nameHere_26 : decode cX6_nameHere 26 = .ok (.iconst 0, 1) := by decide +kernel
theorem dX6_nameHere_27 : decode cX6_nameHere 27 = .ok (.invokevirtual 168, 3) := by decide +kernel
theorem dX6_nameHere_30 : decode cX6_nameHere 30 = .ok (.ifCond .eq 5, 3) := by decide +kernel
theorem dX6_nameHere_33 : decode cX6_nameHere 33 = .ok (.iconst 1, 1) := by decide +kernel
theorem dX6_nameHere_34 : decode cX6_nameHere 34 = .ok (.ireturn, 1) := by decide +kernel
theorem dX6_nameHere_35 : decode cX6_nameHere 35 = .ok (.aload_n 0, 1) := by decide +kernel
theorem dX6_nameHere_36 : decode cX6_nameHere 36 = .ok (.bipush 23, 2) := by decide +kernel
theorem dX6_nameHere_38 : decode cX6_nameHere 38 = .ok (.iconst 5, 1) := by decide +kernel
theorem dX6_nameHere_39 : decode cX6_nameHere 39 = .ok (.bipush 20, 2) := by decide +kernel
theorem dX6_nameHere_41 : decode cX6_nameHere 41 = .ok (.iconst 0, 1) := by decide +kernel
theorem dX6_nameHere_42 : decode cX6_nameHere 42 = .ok (.iconst 0, 1) := by decide +kernel
theorem dX6_nameHere_43 : decode cX6_nameHere 43 = .ok (.iconst 0, 1) := by decide +kernel
theorem dX6_nameHere_44 : decode cX6_nameHere 44 = .ok (.invokevirtual 168, 3) := by decide +kernel
theorem dX6_nameHere_47 : decode cX6_nameHere 47 = .ok (.ifCond .eq 5, 3) := by decide +kernel
theorem dX6_nameHere_50 : decode cX6_nameHere 50 = .ok (.iconst 2, 1) := by decide +kernel
theorem dX6_nameHere_51 : decode cX6_nameHere 51 = .ok (.ireturn, 1) := by decide +kernel
theorem dX6_nameHere_52 : decode cX6_nameHere 52 = .ok (.aload_n 0, 1) := by decide +kernel
theorem dX6_nameHere_53 : decode cX6_nameHere 53 = .ok (.bipush 8, 2) := by decide +kernel
theorem dX6_nameHere_55 : decode cX6_nameHere 55 = .ok (.iconst 5, 1) := by decide +kernel
theorem dX6_nameHere_56 : decode cX6_nameHere 56 = .ok (.bipush 9, 2) := by decide +kernel
theorem dX6_nameHere_58 : decode cX6_nameHere 58 = .ok (.bipush 7, 2) := by decide +kernel
theorem dX6_nameHere_60 : decode cX6_nameHere 60 = .ok (.bipush 8, 2) := by decide +kernel
theorem dX6_nameHere_62 : decode cX6_nameHere 62 = .ok (.bipush 20, 2) := by decide +kernel
theorem dX6_nameHere_64 : decode cX6_nameHere 64 = .ok (.invokevirtual 168, 3) := by decide +kernel
theorem dX6_nameHere_67 : decode cX6_nameHere 67 = .ok (.ifCond .eq 5, 3) := by decide +kernel
theorem dX6_nameHere_70 : decode cX6_nameHere 70 = .ok (.iconst 3, 1) := by decide +kernel
theorem dX6_nameHere_71 : decode cX6_nameHere 71 = .ok (.ireturn, 1) := by decide +kernel
theorem dX6_nameHere_72 : decode cX6_nameHere 72 = .ok (.aload_n 0, 1) := by decide +kernel
theorem dX6_nameHere_73 : decode cX6_nameHere 73 = .ok (.bipush 13, 2) := by decide +kernel
theorem dX6_nameHere_75 : decode cX6_nameHere 75 = .ok (.bipush 9, 2) := by decide +kernel
theorem dX6_nameHere_77 : decode cX6_nameHere 77 = .ok (.bipush 24, 2) := by decide +kernel
theorem dX6_nameHere_79 : decode cX6_nameHere 79 = .ok (.iconst 5, 1) := by decide +kernel
theorem dX6_nameHere_80 : decode cX6_nameHere 80 = .ok (.iconst 4, 1) := by decide +kernel
theorem dX6_nameHere_81 : decode cX6_nameHere 81 = .ok (.iconst 0, 1) := by decide +kernel
theorem dX6_nameHere_82 : decode cX6_nameHere 82 = .ok (.invokevirtual 168, 3) := by decide +kernel
theorem dX6_nameHere_85 : decode cX6_nameHere 85 = .ok (.ifCond .eq 5, 3) := by decide +kernel
theorem dX6_nameHere_88 : decode cX6_nameHere 88 = .ok (.iconst 4, 1) := by decide +kernel
theorem dX6_nameHere_89 : decode cX6_nameHere 89 = .ok (.ireturn, 1) := by decide +kernel
theorem dX6_nameHere_90 : decode cX6_nameHere 90 = .ok (.aload_n 0, 1) := by decide +kernel
theorem dX6_nameHere_91 : decode cX6_nameHere 91 = .ok (.bipush 7, 2) := by decide +kernel
theorem dX6_nameHere_93 : decode cX6_nameHere 93 = .ok (.iconst 1, 1) := by decide +kernel
theorem dX6_nameHere_94 : decode cX6_nameHere 94 = .ok (.bipush 19, 2) := by decide +kernel
theorem dX6_nameHere_96 : decode cX6_nameHere 96 = .ok (.iconst 0, 1) := by decide +kernel
theorem dX6_nameHere_97 : decode cX6_nameHere 97 = .ok (.iconst 0, 1) := by decide +kernel
theorem dX6_nameHere_98 : decode cX6_nameHere 98 = .ok (.iconst 0, 1) := by decide +kernel
theorem dX6_nameHere_99 : decode cX6_nameHere 99 = .ok (.invokevirtual 168, 3) := by decide +kernel
theorem dX6_nameHere_102 : decode cX6_nameHere 102 = .ok (.ifCond .eq 5, 3) := by decide +kernel
theorem dX6_nameHere_105 : decode cX6_nameHere 105 = .ok (.iconst 5, 1) := by decide +kernel
theorem dX6_nameHere_106 : decode cX6_nameHere 106 = .ok (.ireturn, 1) := by decide +kernel
theorem dX6_nameHere_107 : decode cX6_nameHere 107 = .ok (.aload_n 0, 1) := by decide +kernel
theorem dX6_nameHere_108 : decode cX6_nameHere 108 = .ok (.bipush 6, 2) := by decide +kernel
theorem dX6_nameHere_110 : decode cX6_nameHere 110 = .ok (.bipush 9, 2) := by decide +kernel
theorem dX6_nameHere_112 : decode cX6_nameHere 112 = .ok (.bipush 18, 2) := by decide +kernel
theorem dX6_nameHere_114 : decode cX6_nameHere 114 = .ok (.iconst 5, 1) := by decide +kernel
theorem dX6_nameHere_115 : decode cX6_nameHere 115 = .ok (.iconst 0, 1) := by decide +kernel
theorem dX6_nameHere_116 : decode cX6_nameHere 116 = .ok (.iconst 0, 1) := by decide +kernel
theorem dX6_nameHere_117 : decode cX6_nameHere 117 = .ok (.invokevirtual 168, 3) := by decide +kernel
theorem dX6_nameHere_120 : decode cX6_nameHere 120 = .ok (.ifCond .eq 8, 3) := by decide +kernel
theorem dX6_nameHere_123 : decode cX6_nameHere 123 = .ok (.bipush 6, 2) := by decide +kernel
theorem dX6_nameHere_125 : decode cX6_nameHere 125 = .ok (.goto 4, 3) := by decide +kernel
theorem dX6_nameHere_128 : decode cX6_nameHere 128 = .ok (.iconst (-1), 1) := by decide +kernel
theorem dX6_nameHere_129 : decode cX6_nameHere 129 = .ok (.ireturn, 1) := by decide +kernel
theorem dX6_unit_0 : decode cX6_unit 0 = .ok (.aload_n 0, 1) := by decide +kernel
theorem dX6_unit_1 : decode cX6_unit 1 = .ok (.getfield 129, 3) := by decide +kernel
theorem dX6_unit_4 : decode cX6_unit 4 = .ok (.ifCond .eq 4, 3) := by decide +kernel
theorem dX6_unit_7 : decode cX6_unit 7 = .ok (.return_, 1) := by decide +kernel
theorem dX6_unit_8 : decode cX6_unit 8 = .ok (.aload_n 0, 1) := by decide +kernel
theorem dX6_unit_9 : decode cX6_unit 9 = .ok (.invokevirtual 138, 3) := by decide +kernel
theorem dX6_unit_12 : decode cX6_unit 12 = .ok (.aload_n 0, 1) := by decide +kernel
theorem dX6_unit_13 : decode cX6_unit 13 = .ok (.aload_n 0, 1) := by decide +kernel
theorem dX6_unit_14 : decode cX6_unit 14 = .ok (.getfield 122, 3) := by decide +kernel
theorem dX6_unit_17 : decode cX6_unit 17 = .ok (.invokevirtual 125, 3) := by decide +kernel
theorem dX6_unit_20 : decode cX6_unit 20 = .ok (.invokestatic 141, 3) := by decide +kernel
theorem dX6_unit_23 : decode cX6_unit 23 = .ok (.ifCond .eq 16, 3) := by decide +kernel
theorem dX6_unit_26 : decode cX6_unit 26 = .ok (.aload_n 0, 1) := by decide +kernel
theorem dX6_unit_27 : decode cX6_unit 27 = .ok (.aload_n 0, 1) := by decide +kernel
theorem dX6_unit_28 : decode cX6_unit 28 = .ok (.iconst 0, 1) := by decide +kernel
theorem dX6_unit_29 : decode cX6_unit 29 = .ok (.sipush 9999, 3) := by decide +kernel
theorem dX6_unit_32 : decode cX6_unit 32 = .ok (.invokevirtual 172, 3) := by decide +kernel
theorem dX6_unit_35 : decode cX6_unit 35 = .ok (.invokevirtual 176, 3) := by decide +kernel
theorem dX6_unit_38 : decode cX6_unit 38 = .ok (.return_, 1) := by decide +kernel
theorem dX6_unit_39 : decode cX6_unit 39 = .ok (.aload_n 0, 1) := by decide +kernel
theorem dX6_unit_40 : decode cX6_unit 40 = .ok (.invokevirtual 180, 3) := by decide +kernel
theorem dX6_unit_43 : decode cX6_unit 43 = .ok (.istore_n 1, 1) := by decide +kernel
theorem dX6_unit_44 : decode cX6_unit 44 = .ok (.iload_n 1, 1) := by decide +kernel
theorem dX6_unit_45 : decode cX6_unit 45 = .ok (.iconst (-1), 1) := by decide +kernel
theorem dX6_unit_46 : decode cX6_unit 46 = .ok (.if_icmp .eq 17, 3) := by decide +kernel
theorem dX6_unit_49 : decode cX6_unit 49 = .ok (.aload_n 0, 1) := by decide +kernel
theorem dX6_unit_50 : decode cX6_unit 50 = .ok (.invokevirtual 162, 3) := by decide +kernel
theorem dX6_unit_53 : decode cX6_unit 53 = .ok (.aload_n 0, 1) := by decide +kernel
theorem dX6_unit_54 : decode cX6_unit 54 = .ok (.sipush 10000, 3) := by decide +kernel
theorem dX6_unit_57 : decode cX6_unit 57 = .ok (.iload_n 1, 1) := by decide +kernel
theorem dX6_unit_58 : decode cX6_unit 58 = .ok (.iadd, 1) := by decide +kernel
theorem dX6_unit_59 : decode cX6_unit 59 = .ok (.invokevirtual 176, 3) := by decide +kernel
theorem dX6_unit_62 : decode cX6_unit 62 = .ok (.return_, 1) := by decide +kernel
theorem dX6_unit_63 : decode cX6_unit 63 = .ok (.aload_n 0, 1) := by decide +kernel
theorem dX6_unit_64 : decode cX6_unit 64 = .ok (.aload_n 0, 1) := by decide +kernel
theorem dX6_unit_65 : decode cX6_unit 65 = .ok (.getfield 122, 3) := by decide +kernel
theorem dX6_unit_68 : decode cX6_unit 68 = .ok (.invokevirtual 125, 3) := by decide +kernel
theorem dX6_unit_71 : decode cX6_unit 71 = .ok (.bipush 40, 2) := by decide +kernel
theorem dX6_unit_73 : decode cX6_unit 73 = .ok (.if_icmp .eq 13, 3) := by decide +kernel
theorem dX6_unit_76 : decode cX6_unit 76 = .ok (.aload_n 0, 1) := by decide +kernel
theorem dX6_unit_77 : decode cX6_unit 77 = .ok (.iconst 1, 1) := by decide +kernel
theorem dX6_unit_78 : decode cX6_unit 78 = .ok (.aload_n 0, 1) := by decide +kernel
theorem dX6_unit_79 : decode cX6_unit 79 = .ok (.getfield 122, 3) := by decide +kernel
theorem dX6_unit_82 : decode cX6_unit 82 = .ok (.invokevirtual 145, 3) := by decide +kernel
theorem dX6_unit_85 : decode cX6_unit 85 = .ok (.return_, 1) := by decide +kernel
theorem dX6_unit_86 : decode cX6_unit 86 = .ok (.aload_n 0, 1) := by decide +kernel
theorem dX6_unit_87 : decode cX6_unit 87 = .ok (.iconst 1, 1) := by decide +kernel
theorem dX6_unit_88 : decode cX6_unit 88 = .ok (.invokevirtual 183, 3) := by decide +kernel
theorem dX6_unit_91 : decode cX6_unit 91 = .ok (.aload_n 0, 1) := by decide +kernel
theorem dX6_unit_92 : decode cX6_unit 92 = .ok (.invokevirtual 186, 3) := by decide +kernel
theorem dX6_unit_95 : decode cX6_unit 95 = .ok (.aload_n 0, 1) := by decide +kernel
theorem dX6_unit_96 : decode cX6_unit 96 = .ok (.bipush 41, 2) := by decide +kernel
theorem dX6_unit_98 : decode cX6_unit 98 = .ok (.invokevirtual 189, 3) := by decide +kernel
theorem dX6_unit_101 : decode cX6_unit 101 = .ok (.aload_n 0, 1) := by decide +kernel
theorem dX6_unit_102 : decode cX6_unit 102 = .ok (.dup, 1) := by decide +kernel
theorem dX6_unit_103 : decode cX6_unit 103 = .ok (.getfield 165, 3) := by decide +kernel
theorem dX6_unit_106 : decode cX6_unit 106 = .ok (.iconst 1, 1) := by decide +kernel
theorem dX6_unit_107 : decode cX6_unit 107 = .ok (.isub, 1) := by decide +kernel
theorem dX6_unit_108 : decode cX6_unit 108 = .ok (.putfield 165, 3) := by decide +kernel
theorem dX6_unit_111 : decode cX6_unit 111 = .ok (.return_, 1) := by decide +kernel
theorem dX6_product_0 : decode cX6_product 0 = .ok (.aload_n 0, 1) := by decide +kernel
theorem dX6_product_1 : decode cX6_product 1 = .ok (.invokevirtual 192, 3) := by decide +kernel
theorem dX6_product_4 : decode cX6_product 4 = .ok (.aload_n 0, 1) := by decide +kernel
theorem dX6_product_5 : decode cX6_product 5 = .ok (.invokevirtual 138, 3) := by decide +kernel
theorem dX6_product_8 : decode cX6_product 8 = .ok (.aload_n 0, 1) := by decide +kernel
theorem dX6_product_9 : decode cX6_product 9 = .ok (.getfield 129, 3) := by decide +kernel
theorem dX6_product_12 : decode cX6_product 12 = .ok (.ifCond .ne 44, 3) := by decide +kernel
theorem dX6_product_15 : decode cX6_product 15 = .ok (.aload_n 0, 1) := by decide +kernel
theorem dX6_product_16 : decode cX6_product 16 = .ok (.aload_n 0, 1) := by decide +kernel
theorem dX6_product_17 : decode cX6_product 17 = .ok (.getfield 122, 3) := by decide +kernel
theorem dX6_product_20 : decode cX6_product 20 = .ok (.invokevirtual 125, 3) := by decide +kernel
theorem dX6_product_23 : decode cX6_product 23 = .ok (.bipush 42, 2) := by decide +kernel
theorem dX6_product_25 : decode cX6_product 25 = .ok (.if_icmp .ne 31, 3) := by decide +kernel
theorem dX6_product_28 : decode cX6_product 28 = .ok (.aload_n 0, 1) := by decide +kernel
theorem dX6_product_29 : decode cX6_product 29 = .ok (.dup, 1) := by decide +kernel
theorem dX6_product_30 : decode cX6_product 30 = .ok (.getfield 122, 3) := by decide +kernel
theorem dX6_product_33 : decode cX6_product 33 = .ok (.iconst 1, 1) := by decide +kernel
theorem dX6_product_34 : decode cX6_product 34 = .ok (.iadd, 1) := by decide +kernel
theorem dX6_product_35 : decode cX6_product 35 = .ok (.putfield 122, 3) := by decide +kernel
theorem dX6_product_38 : decode cX6_product 38 = .ok (.aload_n 0, 1) := by decide +kernel
theorem dX6_product_39 : decode cX6_product 39 = .ok (.invokevirtual 192, 3) := by decide +kernel
theorem dX6_product_42 : decode cX6_product 42 = .ok (.aload_n 0, 1) := by decide +kernel
theorem dX6_product_43 : decode cX6_product 43 = .ok (.sipush 10022, 3) := by decide +kernel
theorem dX6_product_46 : decode cX6_product 46 = .ok (.invokevirtual 176, 3) := by decide +kernel
theorem dX6_product_49 : decode cX6_product 49 = .ok (.aload_n 0, 1) := by decide +kernel
theorem dX6_product_50 : decode cX6_product 50 = .ok (.invokevirtual 138, 3) := by decide +kernel
theorem dX6_product_53 : decode cX6_product 53 = .ok (.goto (-45), 3) := by decide +kernel
theorem dX6_product_56 : decode cX6_product 56 = .ok (.return_, 1) := by decide +kernel
theorem dX6_sum_0 : decode cX6_sum 0 = .ok (.aload_n 0, 1) := by decide +kernel
theorem dX6_sum_1 : decode cX6_sum 1 = .ok (.invokevirtual 195, 3) := by decide +kernel
theorem dX6_sum_4 : decode cX6_sum 4 = .ok (.aload_n 0, 1) := by decide +kernel
theorem dX6_sum_5 : decode cX6_sum 5 = .ok (.invokevirtual 138, 3) := by decide +kernel
theorem dX6_sum_8 : decode cX6_sum 8 = .ok (.aload_n 0, 1) := by decide +kernel
theorem dX6_sum_9 : decode cX6_sum 9 = .ok (.getfield 129, 3) := by decide +kernel
theorem dX6_sum_12 : decode cX6_sum 12 = .ok (.ifCond .ne 78, 3) := by decide +kernel
theorem dX6_sum_15 : decode cX6_sum 15 = .ok (.aload_n 0, 1) := by decide +kernel
theorem dX6_sum_16 : decode cX6_sum 16 = .ok (.aload_n 0, 1) := by decide +kernel
theorem dX6_sum_17 : decode cX6_sum 17 = .ok (.getfield 122, 3) := by decide +kernel
theorem dX6_sum_20 : decode cX6_sum 20 = .ok (.invokevirtual 125, 3) := by decide +kernel
theorem dX6_sum_23 : decode cX6_sum 23 = .ok (.bipush 43, 2) := by decide +kernel
theorem dX6_sum_25 : decode cX6_sum 25 = .ok (.if_icmp .eq 16, 3) := by decide +kernel
theorem dX6_sum_28 : decode cX6_sum 28 = .ok (.aload_n 0, 1) := by decide +kernel
theorem dX6_sum_29 : decode cX6_sum 29 = .ok (.aload_n 0, 1) := by decide +kernel
theorem dX6_sum_30 : decode cX6_sum 30 = .ok (.getfield 122, 3) := by decide +kernel
theorem dX6_sum_33 : decode cX6_sum 33 = .ok (.invokevirtual 125, 3) := by decide +kernel
theorem dX6_sum_36 : decode cX6_sum 36 = .ok (.bipush 45, 2) := by decide +kernel
theorem dX6_sum_38 : decode cX6_sum 38 = .ok (.if_icmp .ne 52, 3) := by decide +kernel
theorem dX6_sum_41 : decode cX6_sum 41 = .ok (.aload_n 0, 1) := by decide +kernel
theorem dX6_sum_42 : decode cX6_sum 42 = .ok (.aload_n 0, 1) := by decide +kernel
theorem dX6_sum_43 : decode cX6_sum 43 = .ok (.getfield 122, 3) := by decide +kernel
theorem dX6_sum_46 : decode cX6_sum 46 = .ok (.invokevirtual 125, 3) := by decide +kernel
theorem dX6_sum_49 : decode cX6_sum 49 = .ok (.istore_n 1, 1) := by decide +kernel
theorem dX6_sum_50 : decode cX6_sum 50 = .ok (.aload_n 0, 1) := by decide +kernel
theorem dX6_sum_51 : decode cX6_sum 51 = .ok (.dup, 1) := by decide +kernel
theorem dX6_sum_52 : decode cX6_sum 52 = .ok (.getfield 122, 3) := by decide +kernel
theorem dX6_sum_55 : decode cX6_sum 55 = .ok (.iconst 1, 1) := by decide +kernel
theorem dX6_sum_56 : decode cX6_sum 56 = .ok (.iadd, 1) := by decide +kernel
theorem dX6_sum_57 : decode cX6_sum 57 = .ok (.putfield 122, 3) := by decide +kernel
theorem dX6_sum_60 : decode cX6_sum 60 = .ok (.aload_n 0, 1) := by decide +kernel
theorem dX6_sum_61 : decode cX6_sum 61 = .ok (.invokevirtual 195, 3) := by decide +kernel
theorem dX6_sum_64 : decode cX6_sum 64 = .ok (.aload_n 0, 1) := by decide +kernel
theorem dX6_sum_65 : decode cX6_sum 65 = .ok (.iload_n 1, 1) := by decide +kernel
theorem dX6_sum_66 : decode cX6_sum 66 = .ok (.bipush 43, 2) := by decide +kernel
theorem dX6_sum_68 : decode cX6_sum 68 = .ok (.if_icmp .ne 9, 3) := by decide +kernel
theorem dX6_sum_71 : decode cX6_sum 71 = .ok (.sipush 10020, 3) := by decide +kernel
theorem dX6_sum_74 : decode cX6_sum 74 = .ok (.goto 6, 3) := by decide +kernel
theorem dX6_sum_77 : decode cX6_sum 77 = .ok (.sipush 10021, 3) := by decide +kernel
theorem dX6_sum_80 : decode cX6_sum 80 = .ok (.invokevirtual 176, 3) := by decide +kernel
theorem dX6_sum_83 : decode cX6_sum 83 = .ok (.aload_n 0, 1) := by decide +kernel
theorem dX6_sum_84 : decode cX6_sum 84 = .ok (.invokevirtual 138, 3) := by decide +kernel
theorem dX6_sum_87 : decode cX6_sum 87 = .ok (.goto (-79), 3) := by decide +kernel
theorem dX6_sum_90 : decode cX6_sum 90 = .ok (.return_, 1) := by decide +kernel
theorem dX6_test_0 : decode cX6_test 0 = .ok (.aload_n 0, 1) := by decide +kernel
theorem dX6_test_1 : decode cX6_test 1 = .ok (.getfield 129, 3) := by decide +kernel
theorem dX6_test_4 : decode cX6_test 4 = .ok (.ifCond .eq 4, 3) := by decide +kernel
theorem dX6_test_7 : decode cX6_test 7 = .ok (.return_, 1) := by decide +kernel
theorem dX6_test_8 : decode cX6_test 8 = .ok (.aload_n 0, 1) := by decide +kernel
theorem dX6_test_9 : decode cX6_test 9 = .ok (.bipush 14, 2) := by decide +kernel
theorem dX6_test_11 : decode cX6_test 11 = .ok (.bipush 15, 2) := by decide +kernel
theorem dX6_test_13 : decode cX6_test 13 = .ok (.bipush 20, 2) := by decide +kernel
theorem dX6_test_15 : decode cX6_test 15 = .ok (.iconst 0, 1) := by decide +kernel
theorem dX6_test_16 : decode cX6_test 16 = .ok (.iconst 0, 1) := by decide +kernel
theorem dX6_test_17 : decode cX6_test 17 = .ok (.iconst 0, 1) := by decide +kernel
theorem dX6_test_18 : decode cX6_test 18 = .ok (.invokevirtual 168, 3) := by decide +kernel
theorem dX6_test_21 : decode cX6_test 21 = .ok (.ifCond .eq 30, 3) := by decide +kernel
theorem dX6_test_24 : decode cX6_test 24 = .ok (.aload_n 0, 1) := by decide +kernel
theorem dX6_test_25 : decode cX6_test 25 = .ok (.iconst 3, 1) := by decide +kernel
theorem dX6_test_26 : decode cX6_test 26 = .ok (.invokevirtual 183, 3) := by decide +kernel
theorem dX6_test_29 : decode cX6_test 29 = .ok (.aload_n 0, 1) := by decide +kernel
theorem dX6_test_30 : decode cX6_test 30 = .ok (.invokevirtual 198, 3) := by decide +kernel
theorem dX6_test_33 : decode cX6_test 33 = .ok (.aload_n 0, 1) := by decide +kernel
theorem dX6_test_34 : decode cX6_test 34 = .ok (.dup, 1) := by decide +kernel
theorem dX6_test_35 : decode cX6_test 35 = .ok (.getfield 165, 3) := by decide +kernel
theorem dX6_test_38 : decode cX6_test 38 = .ok (.iconst 1, 1) := by decide +kernel
theorem dX6_test_39 : decode cX6_test 39 = .ok (.isub, 1) := by decide +kernel
theorem dX6_test_40 : decode cX6_test 40 = .ok (.putfield 165, 3) := by decide +kernel
theorem dX6_test_43 : decode cX6_test 43 = .ok (.aload_n 0, 1) := by decide +kernel
theorem dX6_test_44 : decode cX6_test 44 = .ok (.sipush 10033, 3) := by decide +kernel
theorem dX6_test_47 : decode cX6_test 47 = .ok (.invokevirtual 176, 3) := by decide +kernel
theorem dX6_test_50 : decode cX6_test 50 = .ok (.return_, 1) := by decide +kernel
theorem dX6_test_51 : decode cX6_test 51 = .ok (.aload_n 0, 1) := by decide +kernel
theorem dX6_test_52 : decode cX6_test 52 = .ok (.aload_n 0, 1) := by decide +kernel
theorem dX6_test_53 : decode cX6_test 53 = .ok (.getfield 122, 3) := by decide +kernel
theorem dX6_test_56 : decode cX6_test 56 = .ok (.invokevirtual 125, 3) := by decide +kernel
theorem dX6_test_59 : decode cX6_test 59 = .ok (.bipush 91, 2) := by decide +kernel
theorem dX6_test_61 : decode cX6_test 61 = .ok (.if_icmp .ne 29, 3) := by decide +kernel
theorem dX6_test_64 : decode cX6_test 64 = .ok (.aload_n 0, 1) := by decide +kernel
theorem dX6_test_65 : decode cX6_test 65 = .ok (.iconst 1, 1) := by decide +kernel
theorem dX6_test_66 : decode cX6_test 66 = .ok (.invokevirtual 183, 3) := by decide +kernel
theorem dX6_test_69 : decode cX6_test 69 = .ok (.aload_n 0, 1) := by decide +kernel
theorem dX6_test_70 : decode cX6_test 70 = .ok (.invokevirtual 201, 3) := by decide +kernel
theorem dX6_test_73 : decode cX6_test 73 = .ok (.aload_n 0, 1) := by decide +kernel
theorem dX6_test_74 : decode cX6_test 74 = .ok (.bipush 93, 2) := by decide +kernel
theorem dX6_test_76 : decode cX6_test 76 = .ok (.invokevirtual 189, 3) := by decide +kernel
theorem dX6_test_79 : decode cX6_test 79 = .ok (.aload_n 0, 1) := by decide +kernel
theorem dX6_test_80 : decode cX6_test 80 = .ok (.dup, 1) := by decide +kernel
theorem dX6_test_81 : decode cX6_test 81 = .ok (.getfield 165, 3) := by decide +kernel
theorem dX6_test_84 : decode cX6_test 84 = .ok (.iconst 1, 1) := by decide +kernel
theorem dX6_test_85 : decode cX6_test 85 = .ok (.isub, 1) := by decide +kernel
theorem dX6_test_86 : decode cX6_test 86 = .ok (.putfield 165, 3) := by decide +kernel
theorem dX6_test_89 : decode cX6_test 89 = .ok (.return_, 1) := by decide +kernel
theorem dX6_test_90 : decode cX6_test 90 = .ok (.aload_n 0, 1) := by decide +kernel
theorem dX6_test_91 : decode cX6_test 91 = .ok (.invokevirtual 186, 3) := by decide +kernel
theorem dX6_test_94 : decode cX6_test 94 = .ok (.aload_n 0, 1) := by decide +kernel
theorem dX6_test_95 : decode cX6_test 95 = .ok (.getfield 129, 3) := by decide +kernel
theorem dX6_test_98 : decode cX6_test 98 = .ok (.ifCond .eq 4, 3) := by decide +kernel
theorem dX6_test_101 : decode cX6_test 101 = .ok (.return_, 1) := by decide +kernel
theorem dX6_test_102 : decode cX6_test 102 = .ok (.aload_n 0, 1) := by decide +kernel
theorem dX6_test_103 : decode cX6_test 103 = .ok (.invokevirtual 138, 3) := by decide +kernel
theorem dX6_test_106 : decode cX6_test 106 = .ok (.aload_n 0, 1) := by decide +kernel
theorem dX6_test_107 : decode cX6_test 107 = .ok (.aload_n 0, 1) := by decide +kernel
theorem dX6_test_108 : decode cX6_test 108 = .ok (.getfield 122, 3) := by decide +kernel
theorem dX6_test_111 : decode cX6_test 111 = .ok (.invokevirtual 125, 3) := by decide +kernel
theorem dX6_test_114 : decode cX6_test 114 = .ok (.istore_n 1, 1) := by decide +kernel
theorem dX6_test_115 : decode cX6_test 115 = .ok (.iload_n 1, 1) := by decide +kernel
theorem dX6_test_116 : decode cX6_test 116 = .ok (.bipush 60, 2) := by decide +kernel
theorem dX6_test_118 : decode cX6_test 118 = .ok (.if_icmp .eq 24, 3) := by decide +kernel
theorem dX6_test_121 : decode cX6_test 121 = .ok (.iload_n 1, 1) := by decide +kernel
theorem dX6_test_122 : decode cX6_test 122 = .ok (.bipush 62, 2) := by decide +kernel
theorem dX6_test_124 : decode cX6_test 124 = .ok (.if_icmp .eq 18, 3) := by decide +kernel
theorem dX6_test_127 : decode cX6_test 127 = .ok (.iload_n 1, 1) := by decide +kernel
theorem dX6_test_128 : decode cX6_test 128 = .ok (.bipush 61, 2) := by decide +kernel
theorem dX6_test_130 : decode cX6_test 130 = .ok (.if_icmp .eq 12, 3) := by decide +kernel
theorem dX6_test_133 : decode cX6_test 133 = .ok (.aload_n 0, 1) := by decide +kernel
theorem dX6_test_134 : decode cX6_test 134 = .ok (.iconst 1, 1) := by decide +kernel
theorem dX6_test_135 : decode cX6_test 135 = .ok (.aload_n 0, 1) := by decide +kernel
theorem dX6_test_136 : decode cX6_test 136 = .ok (.getfield 122, 3) := by decide +kernel
theorem dX6_test_139 : decode cX6_test 139 = .ok (.invokevirtual 145, 3) := by decide +kernel
theorem dX6_test_142 : decode cX6_test 142 = .ok (.aload_n 0, 1) := by decide +kernel
theorem dX6_test_143 : decode cX6_test 143 = .ok (.dup, 1) := by decide +kernel
theorem dX6_test_144 : decode cX6_test 144 = .ok (.getfield 122, 3) := by decide +kernel
theorem dX6_test_147 : decode cX6_test 147 = .ok (.iconst 1, 1) := by decide +kernel
theorem dX6_test_148 : decode cX6_test 148 = .ok (.iadd, 1) := by decide +kernel
theorem dX6_test_149 : decode cX6_test 149 = .ok (.putfield 122, 3) := by decide +kernel
theorem dX6_test_152 : decode cX6_test 152 = .ok (.aload_n 0, 1) := by decide +kernel
theorem dX6_test_153 : decode cX6_test 153 = .ok (.invokevirtual 186, 3) := by decide +kernel
theorem dX6_test_156 : decode cX6_test 156 = .ok (.aload_n 0, 1) := by decide +kernel
theorem dX6_test_157 : decode cX6_test 157 = .ok (.iload_n 1, 1) := by decide +kernel
theorem dX6_test_158 : decode cX6_test 158 = .ok (.bipush 60, 2) := by decide +kernel
theorem dX6_test_160 : decode cX6_test 160 = .ok (.if_icmp .ne 9, 3) := by decide +kernel
theorem dX6_test_163 : decode cX6_test 163 = .ok (.sipush 10030, 3) := by decide +kernel
theorem dX6_test_166 : decode cX6_test 166 = .ok (.goto 18, 3) := by decide +kernel
theorem dX6_test_169 : decode cX6_test 169 = .ok (.iload_n 1, 1) := by decide +kernel
theorem dX6_test_170 : decode cX6_test 170 = .ok (.bipush 62, 2) := by decide +kernel
theorem dX6_test_172 : decode cX6_test 172 = .ok (.if_icmp .ne 9, 3) := by decide +kernel
theorem dX6_test_175 : decode cX6_test 175 = .ok (.sipush 10031, 3) := by decide +kernel
theorem dX6_test_178 : decode cX6_test 178 = .ok (.goto 6, 3) := by decide +kernel
theorem dX6_test_181 : decode cX6_test 181 = .ok (.sipush 10032, 3) := by decide +kernel
theorem dX6_test_184 : decode cX6_test 184 = .ok (.invokevirtual 176, 3) := by decide +kernel
theorem dX6_test_187 : decode cX6_test 187 = .ok (.return_, 1) := by decide +kernel
theorem dX6_ands_0 : decode cX6_ands 0 = .ok (.aload_n 0, 1) := by decide +kernel
theorem dX6_ands_1 : decode cX6_ands 1 = .ok (.invokevirtual 198, 3) := by decide +kernel
theorem dX6_ands_4 : decode cX6_ands 4 = .ok (.aload_n 0, 1) := by decide +kernel
theorem dX6_ands_5 : decode cX6_ands 5 = .ok (.getfield 129, 3) := by decide +kernel
theorem dX6_ands_8 : decode cX6_ands 8 = .ok (.ifCond .ne 35, 3) := by decide +kernel
theorem dX6_ands_11 : decode cX6_ands 11 = .ok (.aload_n 0, 1) := by decide +kernel
theorem dX6_ands_12 : decode cX6_ands 12 = .ok (.iconst 1, 1) := by decide +kernel
theorem dX6_ands_13 : decode cX6_ands 13 = .ok (.bipush 14, 2) := by decide +kernel
theorem dX6_ands_15 : decode cX6_ands 15 = .ok (.iconst 4, 1) := by decide +kernel
theorem dX6_ands_16 : decode cX6_ands 16 = .ok (.iconst 0, 1) := by decide +kernel
theorem dX6_ands_17 : decode cX6_ands 17 = .ok (.iconst 0, 1) := by decide +kernel
theorem dX6_ands_18 : decode cX6_ands 18 = .ok (.iconst 0, 1) := by decide +kernel
theorem dX6_ands_19 : decode cX6_ands 19 = .ok (.invokevirtual 168, 3) := by decide +kernel
theorem dX6_ands_22 : decode cX6_ands 22 = .ok (.ifCond .eq 21, 3) := by decide +kernel
theorem dX6_ands_25 : decode cX6_ands 25 = .ok (.aload_n 0, 1) := by decide +kernel
theorem dX6_ands_26 : decode cX6_ands 26 = .ok (.invokevirtual 162, 3) := by decide +kernel
theorem dX6_ands_29 : decode cX6_ands 29 = .ok (.aload_n 0, 1) := by decide +kernel
theorem dX6_ands_30 : decode cX6_ands 30 = .ok (.invokevirtual 198, 3) := by decide +kernel
theorem dX6_ands_33 : decode cX6_ands 33 = .ok (.aload_n 0, 1) := by decide +kernel
theorem dX6_ands_34 : decode cX6_ands 34 = .ok (.sipush 10034, 3) := by decide +kernel
theorem dX6_ands_37 : decode cX6_ands 37 = .ok (.invokevirtual 176, 3) := by decide +kernel
theorem dX6_ands_40 : decode cX6_ands 40 = .ok (.goto (-36), 3) := by decide +kernel
theorem dX6_ands_43 : decode cX6_ands 43 = .ok (.return_, 1) := by decide +kernel
theorem dX6_ors_0 : decode cX6_ors 0 = .ok (.aload_n 0, 1) := by decide +kernel
theorem dX6_ors_1 : decode cX6_ors 1 = .ok (.invokevirtual 204, 3) := by decide +kernel
theorem dX6_ors_4 : decode cX6_ors 4 = .ok (.aload_n 0, 1) := by decide +kernel
theorem dX6_ors_5 : decode cX6_ors 5 = .ok (.getfield 129, 3) := by decide +kernel
theorem dX6_ors_8 : decode cX6_ors 8 = .ok (.ifCond .ne 36, 3) := by decide +kernel
theorem dX6_ors_11 : decode cX6_ors 11 = .ok (.aload_n 0, 1) := by decide +kernel
theorem dX6_ors_12 : decode cX6_ors 12 = .ok (.bipush 15, 2) := by decide +kernel
theorem dX6_ors_14 : decode cX6_ors 14 = .ok (.bipush 18, 2) := by decide +kernel
theorem dX6_ors_16 : decode cX6_ors 16 = .ok (.iconst 0, 1) := by decide +kernel
theorem dX6_ors_17 : decode cX6_ors 17 = .ok (.iconst 0, 1) := by decide +kernel
theorem dX6_ors_18 : decode cX6_ors 18 = .ok (.iconst 0, 1) := by decide +kernel
theorem dX6_ors_19 : decode cX6_ors 19 = .ok (.iconst 0, 1) := by decide +kernel
theorem dX6_ors_20 : decode cX6_ors 20 = .ok (.invokevirtual 168, 3) := by decide +kernel
theorem dX6_ors_23 : decode cX6_ors 23 = .ok (.ifCond .eq 21, 3) := by decide +kernel
theorem dX6_ors_26 : decode cX6_ors 26 = .ok (.aload_n 0, 1) := by decide +kernel
theorem dX6_ors_27 : decode cX6_ors 27 = .ok (.invokevirtual 162, 3) := by decide +kernel
theorem dX6_ors_30 : decode cX6_ors 30 = .ok (.aload_n 0, 1) := by decide +kernel
theorem dX6_ors_31 : decode cX6_ors 31 = .ok (.invokevirtual 204, 3) := by decide +kernel
theorem dX6_ors_34 : decode cX6_ors 34 = .ok (.aload_n 0, 1) := by decide +kernel
theorem dX6_ors_35 : decode cX6_ors 35 = .ok (.sipush 10035, 3) := by decide +kernel
theorem dX6_ors_38 : decode cX6_ors 38 = .ok (.invokevirtual 176, 3) := by decide +kernel
theorem dX6_ors_41 : decode cX6_ors 41 = .ok (.goto (-37), 3) := by decide +kernel
theorem dX6_ors_44 : decode cX6_ors 44 = .ok (.return_, 1) := by decide +kernel
theorem dX6_clauseHere_0 : decode cX6_clauseHere 0 = .ok (.aload_n 0, 1) := by decide +kernel
theorem dX6_clauseHere_1 : decode cX6_clauseHere 1 = .ok (.bipush 12, 2) := by decide +kernel
theorem dX6_clauseHere_3 : decode cX6_clauseHere 3 = .ok (.iconst 5, 1) := by decide +kernel
theorem dX6_clauseHere_4 : decode cX6_clauseHere 4 = .ok (.iconst 1, 1) := by decide +kernel
theorem dX6_clauseHere_5 : decode cX6_clauseHere 5 = .ok (.bipush 11, 2) := by decide +kernel
theorem dX6_clauseHere_7 : decode cX6_clauseHere 7 = .ok (.iconst 0, 1) := by decide +kernel
theorem dX6_clauseHere_8 : decode cX6_clauseHere 8 = .ok (.iconst 0, 1) := by decide +kernel
theorem dX6_clauseHere_9 : decode cX6_clauseHere 9 = .ok (.invokevirtual 168, 3) := by decide +kernel
theorem dX6_clauseHere_12 : decode cX6_clauseHere 12 = .ok (.istore_n 1, 1) := by decide +kernel
theorem dX6_clauseHere_13 : decode cX6_clauseHere 13 = .ok (.aload_n 0, 1) := by decide +kernel
theorem dX6_clauseHere_14 : decode cX6_clauseHere 14 = .ok (.bipush 19, 2) := by decide +kernel
theorem dX6_clauseHere_16 : decode cX6_clauseHere 16 = .ok (.bipush 16, 2) := by decide +kernel
theorem dX6_clauseHere_18 : decode cX6_clauseHere 18 = .ok (.iconst 1, 1) := by decide +kernel
theorem dX6_clauseHere_19 : decode cX6_clauseHere 19 = .ok (.bipush 18, 2) := by decide +kernel
theorem dX6_clauseHere_21 : decode cX6_clauseHere 21 = .ok (.bipush 11, 2) := by decide +kernel
theorem dX6_clauseHere_23 : decode cX6_clauseHere 23 = .ok (.iconst 0, 1) := by decide +kernel
theorem dX6_clauseHere_24 : decode cX6_clauseHere 24 = .ok (.invokevirtual 168, 3) := by decide +kernel
theorem dX6_clauseHere_27 : decode cX6_clauseHere 27 = .ok (.istore_n 2, 1) := by decide +kernel
theorem dX6_clauseHere_28 : decode cX6_clauseHere 28 = .ok (.aload_n 0, 1) := by decide +kernel
theorem dX6_clauseHere_29 : decode cX6_clauseHere 29 = .ok (.bipush 19, 2) := by decide +kernel
theorem dX6_clauseHere_31 : decode cX6_clauseHere 31 = .ok (.iconst 5, 1) := by decide +kernel
theorem dX6_clauseHere_32 : decode cX6_clauseHere 32 = .ok (.bipush 20, 2) := by decide +kernel
theorem dX6_clauseHere_34 : decode cX6_clauseHere 34 = .ok (.iconst 0, 1) := by decide +kernel
theorem dX6_clauseHere_35 : decode cX6_clauseHere 35 = .ok (.iconst 0, 1) := by decide +kernel
theorem dX6_clauseHere_36 : decode cX6_clauseHere 36 = .ok (.iconst 0, 1) := by decide +kernel
theorem dX6_clauseHere_37 : decode cX6_clauseHere 37 = .ok (.invokevirtual 168, 3) := by decide +kernel
theorem dX6_clauseHere_40 : decode cX6_clauseHere 40 = .ok (.istore_n 3, 1) := by decide +kernel
theorem dX6_clauseHere_41 : decode cX6_clauseHere 41 = .ok (.iload_n 1, 1) := by decide +kernel
theorem dX6_clauseHere_42 : decode cX6_clauseHere 42 = .ok (.ifCond .ne 23, 3) := by decide +kernel
theorem dX6_clauseHere_45 : decode cX6_clauseHere 45 = .ok (.iload_n 2, 1) := by decide +kernel
theorem dX6_clauseHere_46 : decode cX6_clauseHere 46 = .ok (.ifCond .ne 19, 3) := by decide +kernel
theorem dX6_clauseHere_49 : decode cX6_clauseHere 49 = .ok (.iload_n 3, 1) := by decide +kernel
theorem dX6_clauseHere_50 : decode cX6_clauseHere 50 = .ok (.ifCond .ne 15, 3) := by decide +kernel
theorem dX6_clauseHere_53 : decode cX6_clauseHere 53 = .ok (.aload_n 0, 1) := by decide +kernel
theorem dX6_clauseHere_54 : decode cX6_clauseHere 54 = .ok (.iconst 1, 1) := by decide +kernel
theorem dX6_clauseHere_55 : decode cX6_clauseHere 55 = .ok (.aload_n 0, 1) := by decide +kernel
theorem dX6_clauseHere_56 : decode cX6_clauseHere 56 = .ok (.getfield 122, 3) := by decide +kernel
theorem dX6_clauseHere_59 : decode cX6_clauseHere 59 = .ok (.invokevirtual 145, 3) := by decide +kernel
theorem dX6_clauseHere_62 : decode cX6_clauseHere 62 = .ok (.goto 21, 3) := by decide +kernel
theorem dX6_clauseHere_65 : decode cX6_clauseHere 65 = .ok (.aload_n 0, 1) := by decide +kernel
theorem dX6_clauseHere_66 : decode cX6_clauseHere 66 = .ok (.getfield 207, 3) := by decide +kernel
theorem dX6_clauseHere_69 : decode cX6_clauseHere 69 = .ok (.bipush 14, 2) := by decide +kernel
theorem dX6_clauseHere_71 : decode cX6_clauseHere 71 = .ok (.if_icmp .ne 12, 3) := by decide +kernel
theorem dX6_clauseHere_74 : decode cX6_clauseHere 74 = .ok (.aload_n 0, 1) := by decide +kernel
theorem dX6_clauseHere_75 : decode cX6_clauseHere 75 = .ok (.iconst 3, 1) := by decide +kernel
theorem dX6_clauseHere_76 : decode cX6_clauseHere 76 = .ok (.aload_n 0, 1) := by decide +kernel
theorem dX6_clauseHere_77 : decode cX6_clauseHere 77 = .ok (.getfield 122, 3) := by decide +kernel
theorem dX6_clauseHere_80 : decode cX6_clauseHere 80 = .ok (.invokevirtual 145, 3) := by decide +kernel
theorem dX6_clauseHere_83 : decode cX6_clauseHere 83 = .ok (.aload_n 0, 1) := by decide +kernel
theorem dX6_clauseHere_84 : decode cX6_clauseHere 84 = .ok (.getfield 129, 3) := by decide +kernel
theorem dX6_clauseHere_87 : decode cX6_clauseHere 87 = .ok (.ifCond .eq 4, 3) := by decide +kernel
theorem dX6_clauseHere_90 : decode cX6_clauseHere 90 = .ok (.return_, 1) := by decide +kernel
theorem dX6_clauseHere_91 : decode cX6_clauseHere 91 = .ok (.aload_n 0, 1) := by decide +kernel
theorem dX6_clauseHere_92 : decode cX6_clauseHere 92 = .ok (.invokevirtual 162, 3) := by decide +kernel
theorem dX6_clauseHere_95 : decode cX6_clauseHere 95 = .ok (.aload_n 0, 1) := by decide +kernel
theorem dX6_clauseHere_96 : decode cX6_clauseHere 96 = .ok (.getfield 22, 3) := by decide +kernel
theorem dX6_clauseHere_99 : decode cX6_clauseHere 99 = .ok (.aload_n 0, 1) := by decide +kernel
theorem dX6_clauseHere_100 : decode cX6_clauseHere 100 = .ok (.getfield 207, 3) := by decide +kernel
theorem dX6_clauseHere_103 : decode cX6_clauseHere 103 = .ok (.aaload, 1) := by decide +kernel
theorem dX6_clauseHere_104 : decode cX6_clauseHere 104 = .ok (.astore 4, 2) := by decide +kernel
theorem dX6_clauseHere_106 : decode cX6_clauseHere 106 = .ok (.aload 4, 2) := by decide +kernel
theorem dX6_clauseHere_108 : decode cX6_clauseHere 108 = .ok (.iconst 0, 1) := by decide +kernel
theorem dX6_clauseHere_109 : decode cX6_clauseHere 109 = .ok (.iload_n 1, 1) := by decide +kernel
theorem dX6_clauseHere_110 : decode cX6_clauseHere 110 = .ok (.ifCond .eq 7, 3) := by decide +kernel
theorem dX6_clauseHere_113 : decode cX6_clauseHere 113 = .ok (.iconst 0, 1) := by decide +kernel
theorem dX6_clauseHere_114 : decode cX6_clauseHere 114 = .ok (.goto 12, 3) := by decide +kernel
theorem dX6_clauseHere_117 : decode cX6_clauseHere 117 = .ok (.iload_n 2, 1) := by decide +kernel
theorem dX6_clauseHere_118 : decode cX6_clauseHere 118 = .ok (.ifCond .eq 7, 3) := by decide +kernel
theorem dX6_clauseHere_121 : decode cX6_clauseHere 121 = .ok (.iconst 1, 1) := by decide +kernel
theorem dX6_clauseHere_122 : decode cX6_clauseHere 122 = .ok (.goto 4, 3) := by decide +kernel
theorem dX6_clauseHere_125 : decode cX6_clauseHere 125 = .ok (.iconst 2, 1) := by decide +kernel
theorem dX6_clauseHere_126 : decode cX6_clauseHere 126 = .ok (.iastore, 1) := by decide +kernel
theorem dX6_clauseHere_127 : decode cX6_clauseHere 127 = .ok (.aload 4, 2) := by decide +kernel
theorem dX6_clauseHere_129 : decode cX6_clauseHere 129 = .ok (.iconst 1, 1) := by decide +kernel
theorem dX6_clauseHere_130 : decode cX6_clauseHere 130 = .ok (.aload_n 0, 1) := by decide +kernel
theorem dX6_clauseHere_131 : decode cX6_clauseHere 131 = .ok (.iconst 0, 1) := by decide +kernel
theorem dX6_clauseHere_132 : decode cX6_clauseHere 132 = .ok (.iload_n 3, 1) := by decide +kernel
theorem dX6_clauseHere_133 : decode cX6_clauseHere 133 = .ok (.ifCond .eq 8, 3) := by decide +kernel
theorem dX6_clauseHere_136 : decode cX6_clauseHere 136 = .ok (.bipush 9, 2) := by decide +kernel
theorem dX6_clauseHere_138 : decode cX6_clauseHere 138 = .ok (.goto 5, 3) := by decide +kernel
theorem dX6_clauseHere_141 : decode cX6_clauseHere 141 = .ok (.bipush 7, 2) := by decide +kernel
theorem dX6_clauseHere_143 : decode cX6_clauseHere 143 = .ok (.invokevirtual 172, 3) := by decide +kernel
theorem dX6_clauseHere_146 : decode cX6_clauseHere 146 = .ok (.iastore, 1) := by decide +kernel
theorem dX6_clauseHere_147 : decode cX6_clauseHere 147 = .ok (.iload_n 1, 1) := by decide +kernel
theorem dX6_clauseHere_148 : decode cX6_clauseHere 148 = .ok (.ifCond .eq 53, 3) := by decide +kernel
theorem dX6_clauseHere_151 : decode cX6_clauseHere 151 = .ok (.aload 4, 2) := by decide +kernel
theorem dX6_clauseHere_153 : decode cX6_clauseHere 153 = .ok (.iconst 2, 1) := by decide +kernel
theorem dX6_clauseHere_154 : decode cX6_clauseHere 154 = .ok (.aload_n 0, 1) := by decide +kernel
theorem dX6_clauseHere_155 : decode cX6_clauseHere 155 = .ok (.iconst 0, 1) := by decide +kernel
theorem dX6_clauseHere_156 : decode cX6_clauseHere 156 = .ok (.bipush 99, 2) := by decide +kernel
theorem dX6_clauseHere_158 : decode cX6_clauseHere 158 = .ok (.invokevirtual 172, 3) := by decide +kernel
theorem dX6_clauseHere_161 : decode cX6_clauseHere 161 = .ok (.iastore, 1) := by decide +kernel
theorem dX6_clauseHere_162 : decode cX6_clauseHere 162 = .ok (.aload_n 0, 1) := by decide +kernel
theorem dX6_clauseHere_163 : decode cX6_clauseHere 163 = .ok (.getfield 129, 3) := by decide +kernel
theorem dX6_clauseHere_166 : decode cX6_clauseHere 166 = .ok (.ifCond .ne 21, 3) := by decide +kernel
theorem dX6_clauseHere_169 : decode cX6_clauseHere 169 = .ok (.aload_n 0, 1) := by decide +kernel
theorem dX6_clauseHere_170 : decode cX6_clauseHere 170 = .ok (.aload_n 0, 1) := by decide +kernel
theorem dX6_clauseHere_171 : decode cX6_clauseHere 171 = .ok (.bipush 6, 2) := by decide +kernel
theorem dX6_clauseHere_173 : decode cX6_clauseHere 173 = .ok (.bipush 18, 2) := by decide +kernel
theorem dX6_clauseHere_175 : decode cX6_clauseHere 175 = .ok (.bipush 15, 2) := by decide +kernel
theorem dX6_clauseHere_177 : decode cX6_clauseHere 177 = .ok (.bipush 13, 2) := by decide +kernel
theorem dX6_clauseHere_179 : decode cX6_clauseHere 179 = .ok (.iconst 0, 1) := by decide +kernel
theorem dX6_clauseHere_180 : decode cX6_clauseHere 180 = .ok (.iconst 0, 1) := by decide +kernel
theorem dX6_clauseHere_181 : decode cX6_clauseHere 181 = .ok (.invokevirtual 168, 3) := by decide +kernel
theorem dX6_clauseHere_184 : decode cX6_clauseHere 184 = .ok (.invokevirtual 210, 3) := by decide +kernel
theorem dX6_clauseHere_187 : decode cX6_clauseHere 187 = .ok (.aload 4, 2) := by decide +kernel
theorem dX6_clauseHere_189 : decode cX6_clauseHere 189 = .ok (.iconst 3, 1) := by decide +kernel
theorem dX6_clauseHere_190 : decode cX6_clauseHere 190 = .ok (.aload_n 0, 1) := by decide +kernel
theorem dX6_clauseHere_191 : decode cX6_clauseHere 191 = .ok (.iconst 0, 1) := by decide +kernel
theorem dX6_clauseHere_192 : decode cX6_clauseHere 192 = .ok (.bipush 99, 2) := by decide +kernel
theorem dX6_clauseHere_194 : decode cX6_clauseHere 194 = .ok (.invokevirtual 172, 3) := by decide +kernel
theorem dX6_clauseHere_197 : decode cX6_clauseHere 197 = .ok (.iastore, 1) := by decide +kernel
theorem dX6_clauseHere_198 : decode cX6_clauseHere 198 = .ok (.goto 86, 3) := by decide +kernel
theorem dX6_clauseHere_201 : decode cX6_clauseHere 201 = .ok (.iload_n 2, 1) := by decide +kernel
theorem dX6_clauseHere_202 : decode cX6_clauseHere 202 = .ok (.ifCond .eq 49, 3) := by decide +kernel
theorem dX6_clauseHere_205 : decode cX6_clauseHere 205 = .ok (.aload_n 0, 1) := by decide +kernel
theorem dX6_clauseHere_206 : decode cX6_clauseHere 206 = .ok (.getfield 129, 3) := by decide +kernel
theorem dX6_clauseHere_209 : decode cX6_clauseHere 209 = .ok (.ifCond .ne 19, 3) := by decide +kernel
theorem dX6_clauseHere_212 : decode cX6_clauseHere 212 = .ok (.aload_n 0, 1) := by decide +kernel
theorem dX6_clauseHere_213 : decode cX6_clauseHere 213 = .ok (.aload_n 0, 1) := by decide +kernel
theorem dX6_clauseHere_214 : decode cX6_clauseHere 214 = .ok (.bipush 9, 2) := by decide +kernel
theorem dX6_clauseHere_216 : decode cX6_clauseHere 216 = .ok (.bipush 6, 2) := by decide +kernel
theorem dX6_clauseHere_218 : decode cX6_clauseHere 218 = .ok (.iconst 0, 1) := by decide +kernel
theorem dX6_clauseHere_219 : decode cX6_clauseHere 219 = .ok (.iconst 0, 1) := by decide +kernel
theorem dX6_clauseHere_220 : decode cX6_clauseHere 220 = .ok (.iconst 0, 1) := by decide +kernel
theorem dX6_clauseHere_221 : decode cX6_clauseHere 221 = .ok (.iconst 0, 1) := by decide +kernel
theorem dX6_clauseHere_222 : decode cX6_clauseHere 222 = .ok (.invokevirtual 168, 3) := by decide +kernel
theorem dX6_clauseHere_225 : decode cX6_clauseHere 225 = .ok (.invokevirtual 210, 3) := by decide +kernel
theorem dX6_clauseHere_228 : decode cX6_clauseHere 228 = .ok (.aload 4, 2) := by decide +kernel
theorem dX6_clauseHere_230 : decode cX6_clauseHere 230 = .ok (.iconst 2, 1) := by decide +kernel
theorem dX6_clauseHere_231 : decode cX6_clauseHere 231 = .ok (.aload_n 0, 1) := by decide +kernel
theorem dX6_clauseHere_232 : decode cX6_clauseHere 232 = .ok (.getfield 135, 3) := by decide +kernel
theorem dX6_clauseHere_235 : decode cX6_clauseHere 235 = .ok (.iastore, 1) := by decide +kernel
theorem dX6_clauseHere_236 : decode cX6_clauseHere 236 = .ok (.aload_n 0, 1) := by decide +kernel
theorem dX6_clauseHere_237 : decode cX6_clauseHere 237 = .ok (.invokevirtual 201, 3) := by decide +kernel
theorem dX6_clauseHere_240 : decode cX6_clauseHere 240 = .ok (.aload 4, 2) := by decide +kernel
theorem dX6_clauseHere_242 : decode cX6_clauseHere 242 = .ok (.iconst 3, 1) := by decide +kernel
theorem dX6_clauseHere_243 : decode cX6_clauseHere 243 = .ok (.aload_n 0, 1) := by decide +kernel
theorem dX6_clauseHere_244 : decode cX6_clauseHere 244 = .ok (.getfield 135, 3) := by decide +kernel
theorem dX6_clauseHere_247 : decode cX6_clauseHere 247 = .ok (.iastore, 1) := by decide +kernel
theorem dX6_clauseHere_248 : decode cX6_clauseHere 248 = .ok (.goto 36, 3) := by decide +kernel
theorem dX6_clauseHere_251 : decode cX6_clauseHere 251 = .ok (.aload 4, 2) := by decide +kernel
theorem dX6_clauseHere_253 : decode cX6_clauseHere 253 = .ok (.iconst 2, 1) := by decide +kernel
theorem dX6_clauseHere_254 : decode cX6_clauseHere 254 = .ok (.aload_n 0, 1) := by decide +kernel
theorem dX6_clauseHere_255 : decode cX6_clauseHere 255 = .ok (.getfield 129, 3) := by decide +kernel
theorem dX6_clauseHere_258 : decode cX6_clauseHere 258 = .ok (.ifCond .ne 24, 3) := by decide +kernel
theorem dX6_clauseHere_261 : decode cX6_clauseHere 261 = .ok (.aload_n 0, 1) := by decide +kernel
theorem dX6_clauseHere_262 : decode cX6_clauseHere 262 = .ok (.aload 4, 2) := by decide +kernel
theorem dX6_clauseHere_264 : decode cX6_clauseHere 264 = .ok (.iconst 1, 1) := by decide +kernel
theorem dX6_clauseHere_265 : decode cX6_clauseHere 265 = .ok (.iaload, 1) := by decide +kernel
theorem dX6_clauseHere_266 : decode cX6_clauseHere 266 = .ok (.invokestatic 214, 3) := by decide +kernel
theorem dX6_clauseHere_269 : decode cX6_clauseHere 269 = .ok (.aload 4, 2) := by decide +kernel
theorem dX6_clauseHere_271 : decode cX6_clauseHere 271 = .ok (.iconst 1, 1) := by decide +kernel
theorem dX6_clauseHere_272 : decode cX6_clauseHere 272 = .ok (.iaload, 1) := by decide +kernel
theorem dX6_clauseHere_273 : decode cX6_clauseHere 273 = .ok (.invokestatic 217, 3) := by decide +kernel
theorem dX6_clauseHere_276 : decode cX6_clauseHere 276 = .ok (.invokevirtual 172, 3) := by decide +kernel
theorem dX6_clauseHere_279 : decode cX6_clauseHere 279 = .ok (.goto 4, 3) := by decide +kernel
theorem dX6_clauseHere_282 : decode cX6_clauseHere 282 = .ok (.iconst 0, 1) := by decide +kernel
theorem dX6_clauseHere_283 : decode cX6_clauseHere 283 = .ok (.iastore, 1) := by decide +kernel
theorem dX6_clauseHere_284 : decode cX6_clauseHere 284 = .ok (.aload_n 0, 1) := by decide +kernel
theorem dX6_clauseHere_285 : decode cX6_clauseHere 285 = .ok (.bipush 59, 2) := by decide +kernel
theorem dX6_clauseHere_287 : decode cX6_clauseHere 287 = .ok (.invokevirtual 189, 3) := by decide +kernel
theorem dX6_clauseHere_290 : decode cX6_clauseHere 290 = .ok (.aload_n 0, 1) := by decide +kernel
theorem dX6_clauseHere_291 : decode cX6_clauseHere 291 = .ok (.dup, 1) := by decide +kernel
theorem dX6_clauseHere_292 : decode cX6_clauseHere 292 = .ok (.getfield 207, 3) := by decide +kernel
theorem dX6_clauseHere_295 : decode cX6_clauseHere 295 = .ok (.iconst 1, 1) := by decide +kernel
theorem dX6_clauseHere_296 : decode cX6_clauseHere 296 = .ok (.iadd, 1) := by decide +kernel
theorem dX6_clauseHere_297 : decode cX6_clauseHere 297 = .ok (.putfield 207, 3) := by decide +kernel
theorem dX6_clauseHere_300 : decode cX6_clauseHere 300 = .ok (.return_, 1) := by decide +kernel
theorem dX6_why_0 : decode cX6_why 0 = .ok (.aload_n 0, 1) := by decide +kernel
theorem dX6_why_1 : decode cX6_why 1 = .ok (.iconst 0, 1) := by decide +kernel
theorem dX6_why_2 : decode cX6_why 2 = .ok (.putfield 113, 3) := by decide +kernel
theorem dX6_why_5 : decode cX6_why 5 = .ok (.aload_n 0, 1) := by decide +kernel
theorem dX6_why_6 : decode cX6_why 6 = .ok (.iload_n 1, 1) := by decide +kernel
theorem dX6_why_7 : decode cX6_why 7 = .ok (.iconst 0, 1) := by decide +kernel
theorem dX6_why_8 : decode cX6_why 8 = .ok (.aload_n 0, 1) := by decide +kernel
theorem dX6_why_9 : decode cX6_why 9 = .ok (.getfield 116, 3) := by decide +kernel
theorem dX6_why_12 : decode cX6_why 12 = .ok (.invokestatic 150, 3) := by decide +kernel
theorem dX6_why_15 : decode cX6_why 15 = .ok (.ifCond .ne 7, 3) := by decide +kernel
theorem dX6_why_18 : decode cX6_why 18 = .ok (.iconst 1, 1) := by decide +kernel
theorem dX6_why_19 : decode cX6_why 19 = .ok (.goto 4, 3) := by decide +kernel
theorem dX6_why_22 : decode cX6_why 22 = .ok (.iconst 0, 1) := by decide +kernel
theorem dX6_why_23 : decode cX6_why 23 = .ok (.iconst 1, 1) := by decide +kernel
theorem dX6_why_24 : decode cX6_why 24 = .ok (.invokevirtual 220, 3) := by decide +kernel
theorem dX6_why_27 : decode cX6_why 27 = .ok (.ifCond .eq 5, 3) := by decide +kernel
theorem dX6_why_30 : decode cX6_why 30 = .ok (.iconst 0, 1) := by decide +kernel
theorem dX6_why_31 : decode cX6_why 31 = .ok (.ireturn, 1) := by decide +kernel
theorem dX6_why_32 : decode cX6_why 32 = .ok (.aload_n 0, 1) := by decide +kernel
theorem dX6_why_33 : decode cX6_why 33 = .ok (.iconst 0, 1) := by decide +kernel
theorem dX6_why_34 : decode cX6_why 34 = .ok (.putfield 116, 3) := by decide +kernel
theorem dX6_why_37 : decode cX6_why 37 = .ok (.aload_n 0, 1) := by decide +kernel
theorem dX6_why_38 : decode cX6_why 38 = .ok (.iconst (-1), 1) := by decide +kernel
theorem dX6_why_39 : decode cX6_why 39 = .ok (.putfield 9, 3) := by decide +kernel
theorem dX6_why_42 : decode cX6_why 42 = .ok (.aload_n 0, 1) := by decide +kernel
theorem dX6_why_43 : decode cX6_why 43 = .ok (.getfield 224, 3) := by decide +kernel
theorem dX6_why_46 : decode cX6_why 46 = .ok (.bipush 6, 2) := by decide +kernel
theorem dX6_why_48 : decode cX6_why 48 = .ok (.if_icmp .ne 5, 3) := by decide +kernel
theorem dX6_why_51 : decode cX6_why 51 = .ok (.iconst (-1), 1) := by decide +kernel
theorem dX6_why_52 : decode cX6_why 52 = .ok (.ireturn, 1) := by decide +kernel
theorem dX6_why_53 : decode cX6_why 53 = .ok (.aload_n 0, 1) := by decide +kernel
theorem dX6_why_54 : decode cX6_why 54 = .ok (.iload_n 1, 1) := by decide +kernel
theorem dX6_why_55 : decode cX6_why 55 = .ok (.putfield 119, 3) := by decide +kernel
theorem dX6_why_58 : decode cX6_why 58 = .ok (.aload_n 0, 1) := by decide +kernel
theorem dX6_why_59 : decode cX6_why 59 = .ok (.iconst 0, 1) := by decide +kernel
theorem dX6_why_60 : decode cX6_why 60 = .ok (.putfield 122, 3) := by decide +kernel
theorem dX6_why_63 : decode cX6_why 63 = .ok (.aload_n 0, 1) := by decide +kernel
theorem dX6_why_64 : decode cX6_why 64 = .ok (.iconst 0, 1) := by decide +kernel
theorem dX6_why_65 : decode cX6_why 65 = .ok (.putfield 165, 3) := by decide +kernel
theorem dX6_why_68 : decode cX6_why 68 = .ok (.aload_n 0, 1) := by decide +kernel
theorem dX6_why_69 : decode cX6_why 69 = .ok (.iconst 0, 1) := by decide +kernel
theorem dX6_why_70 : decode cX6_why 70 = .ok (.putfield 129, 3) := by decide +kernel
theorem dX6_why_73 : decode cX6_why 73 = .ok (.aload_n 0, 1) := by decide +kernel
theorem dX6_why_74 : decode cX6_why 74 = .ok (.iconst (-1), 1) := by decide +kernel
theorem dX6_why_75 : decode cX6_why 75 = .ok (.putfield 132, 3) := by decide +kernel
theorem dX6_why_78 : decode cX6_why 78 = .ok (.aload_n 0, 1) := by decide +kernel
theorem dX6_why_79 : decode cX6_why 79 = .ok (.iconst 0, 1) := by decide +kernel
theorem dX6_why_80 : decode cX6_why 80 = .ok (.putfield 135, 3) := by decide +kernel
theorem dX6_why_83 : decode cX6_why 83 = .ok (.aload_n 0, 1) := by decide +kernel
theorem dX6_why_84 : decode cX6_why 84 = .ok (.iconst 0, 1) := by decide +kernel
theorem dX6_why_85 : decode cX6_why 85 = .ok (.putfield 207, 3) := by decide +kernel
theorem dX6_why_88 : decode cX6_why 88 = .ok (.aload_n 0, 1) := by decide +kernel
theorem dX6_why_89 : decode cX6_why 89 = .ok (.invokevirtual 138, 3) := by decide +kernel
theorem dX6_why_92 : decode cX6_why 92 = .ok (.aload_n 0, 1) := by decide +kernel
theorem dX6_why_93 : decode cX6_why 93 = .ok (.getfield 129, 3) := by decide +kernel
theorem dX6_why_96 : decode cX6_why 96 = .ok (.ifCond .ne 25, 3) := by decide +kernel
theorem dX6_why_99 : decode cX6_why 99 = .ok (.aload_n 0, 1) := by decide +kernel
theorem dX6_why_100 : decode cX6_why 100 = .ok (.getfield 122, 3) := by decide +kernel
theorem dX6_why_103 : decode cX6_why 103 = .ok (.aload_n 0, 1) := by decide +kernel
theorem dX6_why_104 : decode cX6_why 104 = .ok (.getfield 119, 3) := by decide +kernel
theorem dX6_why_107 : decode cX6_why 107 = .ok (.if_icmp .ge 14, 3) := by decide +kernel
theorem dX6_why_110 : decode cX6_why 110 = .ok (.aload_n 0, 1) := by decide +kernel
theorem dX6_why_111 : decode cX6_why 111 = .ok (.invokevirtual 227, 3) := by decide +kernel
theorem dX6_why_114 : decode cX6_why 114 = .ok (.aload_n 0, 1) := by decide +kernel
theorem dX6_why_115 : decode cX6_why 115 = .ok (.invokevirtual 138, 3) := by decide +kernel
theorem dX6_why_118 : decode cX6_why 118 = .ok (.goto (-26), 3) := by decide +kernel
theorem dX6_why_121 : decode cX6_why 121 = .ok (.aload_n 0, 1) := by decide +kernel
theorem dX6_why_122 : decode cX6_why 122 = .ok (.aload_n 0, 1) := by decide +kernel
theorem dX6_why_123 : decode cX6_why 123 = .ok (.getfield 132, 3) := by decide +kernel
theorem dX6_why_126 : decode cX6_why 126 = .ok (.putfield 9, 3) := by decide +kernel
theorem dX6_why_129 : decode cX6_why 129 = .ok (.aload_n 0, 1) := by decide +kernel
theorem dX6_why_130 : decode cX6_why 130 = .ok (.getfield 129, 3) := by decide +kernel
theorem dX6_why_133 : decode cX6_why 133 = .ok (.ifCond .eq 11, 3) := by decide +kernel
theorem dX6_why_136 : decode cX6_why 136 = .ok (.aload_n 0, 1) := by decide +kernel
theorem dX6_why_137 : decode cX6_why 137 = .ok (.getfield 129, 3) := by decide +kernel
theorem dX6_why_140 : decode cX6_why 140 = .ok (.bipush 10, 2) := by decide +kernel
theorem dX6_why_142 : decode cX6_why 142 = .ok (.isub, 1) := by decide +kernel
theorem dX6_why_143 : decode cX6_why 143 = .ok (.ireturn, 1) := by decide +kernel
theorem dX6_why_144 : decode cX6_why 144 = .ok (.iconst 0, 1) := by decide +kernel
theorem dX6_why_145 : decode cX6_why 145 = .ok (.istore_n 2, 1) := by decide +kernel
theorem dX6_why_146 : decode cX6_why 146 = .ok (.iload_n 2, 1) := by decide +kernel
theorem dX6_why_147 : decode cX6_why 147 = .ok (.aload_n 0, 1) := by decide +kernel
theorem dX6_why_148 : decode cX6_why 148 = .ok (.getfield 135, 3) := by decide +kernel
theorem dX6_why_151 : decode cX6_why 151 = .ok (.if_icmp .ge 26, 3) := by decide +kernel
theorem dX6_why_154 : decode cX6_why 154 = .ok (.aload_n 0, 1) := by decide +kernel
theorem dX6_why_155 : decode cX6_why 155 = .ok (.getfield 25, 3) := by decide +kernel
theorem dX6_why_158 : decode cX6_why 158 = .ok (.aload_n 0, 1) := by decide +kernel
theorem dX6_why_159 : decode cX6_why 159 = .ok (.getfield 224, 3) := by decide +kernel
theorem dX6_why_162 : decode cX6_why 162 = .ok (.aaload, 1) := by decide +kernel
theorem dX6_why_163 : decode cX6_why 163 = .ok (.iload_n 2, 1) := by decide +kernel
theorem dX6_why_164 : decode cX6_why 164 = .ok (.aload_n 0, 1) := by decide +kernel
theorem dX6_why_165 : decode cX6_why 165 = .ok (.getfield 17, 3) := by decide +kernel
theorem dX6_why_168 : decode cX6_why 168 = .ok (.iload_n 2, 1) := by decide +kernel
theorem dX6_why_169 : decode cX6_why 169 = .ok (.iaload, 1) := by decide +kernel
theorem dX6_why_170 : decode cX6_why 170 = .ok (.iastore, 1) := by decide +kernel
theorem dX6_why_171 : decode cX6_why 171 = .ok (.iinc 2 1, 3) := by decide +kernel
theorem dX6_why_174 : decode cX6_why 174 = .ok (.goto (-28), 3) := by decide +kernel
theorem dX6_why_177 : decode cX6_why 177 = .ok (.iconst 0, 1) := by decide +kernel
theorem dX6_why_178 : decode cX6_why 178 = .ok (.istore_n 2, 1) := by decide +kernel
theorem dX6_why_179 : decode cX6_why 179 = .ok (.iload_n 2, 1) := by decide +kernel
theorem dX6_why_180 : decode cX6_why 180 = .ok (.aload_n 0, 1) := by decide +kernel
theorem dX6_why_181 : decode cX6_why 181 = .ok (.getfield 207, 3) := by decide +kernel
theorem dX6_why_184 : decode cX6_why 184 = .ok (.if_icmp .ge 46, 3) := by decide +kernel
theorem dX6_why_187 : decode cX6_why 187 = .ok (.iconst 0, 1) := by decide +kernel
theorem dX6_why_188 : decode cX6_why 188 = .ok (.istore_n 3, 1) := by decide +kernel
theorem dX6_why_189 : decode cX6_why 189 = .ok (.iload_n 3, 1) := by decide +kernel
theorem dX6_why_190 : decode cX6_why 190 = .ok (.iconst 4, 1) := by decide +kernel
theorem dX6_why_191 : decode cX6_why 191 = .ok (.if_icmp .ge 33, 3) := by decide +kernel
theorem dX6_why_194 : decode cX6_why 194 = .ok (.aload_n 0, 1) := by decide +kernel
theorem dX6_why_195 : decode cX6_why 195 = .ok (.getfield 28, 3) := by decide +kernel
theorem dX6_why_198 : decode cX6_why 198 = .ok (.bipush 14, 2) := by decide +kernel
theorem dX6_why_200 : decode cX6_why 200 = .ok (.aload_n 0, 1) := by decide +kernel
theorem dX6_why_201 : decode cX6_why 201 = .ok (.getfield 224, 3) := by decide +kernel
theorem dX6_why_204 : decode cX6_why 204 = .ok (.imul, 1) := by decide +kernel
theorem dX6_why_205 : decode cX6_why 205 = .ok (.iload_n 2, 1) := by decide +kernel
theorem dX6_why_206 : decode cX6_why 206 = .ok (.iadd, 1) := by decide +kernel
theorem dX6_why_207 : decode cX6_why 207 = .ok (.aaload, 1) := by decide +kernel
theorem dX6_why_208 : decode cX6_why 208 = .ok (.iload_n 3, 1) := by decide +kernel
theorem dX6_why_209 : decode cX6_why 209 = .ok (.aload_n 0, 1) := by decide +kernel
theorem dX6_why_210 : decode cX6_why 210 = .ok (.getfield 22, 3) := by decide +kernel
theorem dX6_why_213 : decode cX6_why 213 = .ok (.iload_n 2, 1) := by decide +kernel
theorem dX6_why_214 : decode cX6_why 214 = .ok (.aaload, 1) := by decide +kernel
theorem dX6_why_215 : decode cX6_why 215 = .ok (.iload_n 3, 1) := by decide +kernel
theorem dX6_why_216 : decode cX6_why 216 = .ok (.iaload, 1) := by decide +kernel
theorem dX6_why_217 : decode cX6_why 217 = .ok (.iastore, 1) := by decide +kernel
theorem dX6_why_218 : decode cX6_why 218 = .ok (.iinc 3 1, 3) := by decide +kernel
theorem dX6_why_221 : decode cX6_why 221 = .ok (.goto (-32), 3) := by decide +kernel
theorem dX6_why_224 : decode cX6_why 224 = .ok (.iinc 2 1, 3) := by decide +kernel
theorem dX6_why_227 : decode cX6_why 227 = .ok (.goto (-48), 3) := by decide +kernel
theorem dX6_why_230 : decode cX6_why 230 = .ok (.aload_n 0, 1) := by decide +kernel
theorem dX6_why_231 : decode cX6_why 231 = .ok (.getfield 31, 3) := by decide +kernel
theorem dX6_why_234 : decode cX6_why 234 = .ok (.aload_n 0, 1) := by decide +kernel
theorem dX6_why_235 : decode cX6_why 235 = .ok (.getfield 224, 3) := by decide +kernel
theorem dX6_why_238 : decode cX6_why 238 = .ok (.aload_n 0, 1) := by decide +kernel
theorem dX6_why_239 : decode cX6_why 239 = .ok (.getfield 207, 3) := by decide +kernel
theorem dX6_why_242 : decode cX6_why 242 = .ok (.iastore, 1) := by decide +kernel
theorem dX6_why_243 : decode cX6_why 243 = .ok (.aload_n 0, 1) := by decide +kernel
theorem dX6_why_244 : decode cX6_why 244 = .ok (.getfield 34, 3) := by decide +kernel
theorem dX6_why_247 : decode cX6_why 247 = .ok (.aload_n 0, 1) := by decide +kernel
theorem dX6_why_248 : decode cX6_why 248 = .ok (.getfield 224, 3) := by decide +kernel
theorem dX6_why_251 : decode cX6_why 251 = .ok (.bipush 10, 2) := by decide +kernel
theorem dX6_why_253 : decode cX6_why 253 = .ok (.iastore, 1) := by decide +kernel
theorem dX6_why_254 : decode cX6_why 254 = .ok (.aload_n 0, 1) := by decide +kernel
theorem dX6_why_255 : decode cX6_why 255 = .ok (.dup, 1) := by decide +kernel
theorem dX6_why_256 : decode cX6_why 256 = .ok (.getfield 224, 3) := by decide +kernel
theorem dX6_why_259 : decode cX6_why 259 = .ok (.iconst 1, 1) := by decide +kernel
theorem dX6_why_260 : decode cX6_why 260 = .ok (.iadd, 1) := by decide +kernel
theorem dX6_why_261 : decode cX6_why 261 = .ok (.putfield 224, 3) := by decide +kernel
theorem dX6_why_264 : decode cX6_why 264 = .ok (.aload_n 0, 1) := by decide +kernel
theorem dX6_why_265 : decode cX6_why 265 = .ok (.getfield 224, 3) := by decide +kernel
theorem dX6_why_268 : decode cX6_why 268 = .ok (.iconst 1, 1) := by decide +kernel
theorem dX6_why_269 : decode cX6_why 269 = .ok (.isub, 1) := by decide +kernel
theorem dX6_why_270 : decode cX6_why 270 = .ok (.ireturn, 1) := by decide +kernel
theorem dX6_fault_0 : decode cX6_fault 0 = .ok (.aload_n 0, 1) := by decide +kernel
theorem dX6_fault_1 : decode cX6_fault 1 = .ok (.iconst 0, 1) := by decide +kernel
theorem dX6_fault_2 : decode cX6_fault 2 = .ok (.putfield 113, 3) := by decide +kernel
theorem dX6_fault_5 : decode cX6_fault 5 = .ok (.aload_n 0, 1) := by decide +kernel
theorem dX6_fault_6 : decode cX6_fault 6 = .ok (.getfield 9, 3) := by decide +kernel
theorem dX6_fault_9 : decode cX6_fault 9 = .ok (.ireturn, 1) := by decide +kernel
theorem dX6_worked_0 : decode cX6_worked 0 = .ok (.iload_n 0, 1) := by decide +kernel
theorem dX6_worked_1 : decode cX6_worked 1 = .ok (.tableswitch 124 10020 10034 #[75, 79, 83, 124, 124, 124, 124, 124, 124, 124, 87, 98, 109, 124, 120], 75) := by decide +kernel
theorem dX6_worked_76 : decode cX6_worked 76 = .ok (.iload_n 1, 1) := by decide +kernel
theorem dX6_worked_77 : decode cX6_worked 77 = .ok (.iload_n 2, 1) := by decide +kernel
theorem dX6_worked_78 : decode cX6_worked 78 = .ok (.iadd, 1) := by decide +kernel
theorem dX6_worked_79 : decode cX6_worked 79 = .ok (.ireturn, 1) := by decide +kernel
theorem dX6_worked_80 : decode cX6_worked 80 = .ok (.iload_n 1, 1) := by decide +kernel
theorem dX6_worked_81 : decode cX6_worked 81 = .ok (.iload_n 2, 1) := by decide +kernel
theorem dX6_worked_82 : decode cX6_worked 82 = .ok (.isub, 1) := by decide +kernel
theorem dX6_worked_83 : decode cX6_worked 83 = .ok (.ireturn, 1) := by decide +kernel
theorem dX6_worked_84 : decode cX6_worked 84 = .ok (.iload_n 1, 1) := by decide +kernel
theorem dX6_worked_85 : decode cX6_worked 85 = .ok (.iload_n 2, 1) := by decide +kernel
theorem dX6_worked_86 : decode cX6_worked 86 = .ok (.imul, 1) := by decide +kernel
theorem dX6_worked_87 : decode cX6_worked 87 = .ok (.ireturn, 1) := by decide +kernel
theorem dX6_worked_88 : decode cX6_worked 88 = .ok (.iload_n 1, 1) := by decide +kernel
theorem dX6_worked_89 : decode cX6_worked 89 = .ok (.iload_n 2, 1) := by decide +kernel
theorem dX6_worked_90 : decode cX6_worked 90 = .ok (.if_icmp .ge 7, 3) := by decide +kernel
theorem dX6_worked_93 : decode cX6_worked 93 = .ok (.iconst 1, 1) := by decide +kernel
theorem dX6_worked_94 : decode cX6_worked 94 = .ok (.goto 4, 3) := by decide +kernel
theorem dX6_worked_97 : decode cX6_worked 97 = .ok (.iconst 0, 1) := by decide +kernel
theorem dX6_worked_98 : decode cX6_worked 98 = .ok (.ireturn, 1) := by decide +kernel
theorem dX6_worked_99 : decode cX6_worked 99 = .ok (.iload_n 1, 1) := by decide +kernel
theorem dX6_worked_100 : decode cX6_worked 100 = .ok (.iload_n 2, 1) := by decide +kernel
theorem dX6_worked_101 : decode cX6_worked 101 = .ok (.if_icmp .le 7, 3) := by decide +kernel
theorem dX6_worked_104 : decode cX6_worked 104 = .ok (.iconst 1, 1) := by decide +kernel
theorem dX6_worked_105 : decode cX6_worked 105 = .ok (.goto 4, 3) := by decide +kernel
theorem dX6_worked_108 : decode cX6_worked 108 = .ok (.iconst 0, 1) := by decide +kernel
theorem dX6_worked_109 : decode cX6_worked 109 = .ok (.ireturn, 1) := by decide +kernel
theorem dX6_worked_110 : decode cX6_worked 110 = .ok (.iload_n 1, 1) := by decide +kernel
theorem dX6_worked_111 : decode cX6_worked 111 = .ok (.iload_n 2, 1) := by decide +kernel
theorem dX6_worked_112 : decode cX6_worked 112 = .ok (.if_icmp .ne 7, 3) := by decide +kernel
theorem dX6_worked_115 : decode cX6_worked 115 = .ok (.iconst 1, 1) := by decide +kernel
theorem dX6_worked_116 : decode cX6_worked 116 = .ok (.goto 4, 3) := by decide +kernel
theorem dX6_worked_119 : decode cX6_worked 119 = .ok (.iconst 0, 1) := by decide +kernel
theorem dX6_worked_120 : decode cX6_worked 120 = .ok (.ireturn, 1) := by decide +kernel
theorem dX6_worked_121 : decode cX6_worked 121 = .ok (.iload_n 1, 1) := by decide +kernel
theorem dX6_worked_122 : decode cX6_worked 122 = .ok (.iload_n 2, 1) := by decide +kernel
theorem dX6_worked_123 : decode cX6_worked 123 = .ok (.iand, 1) := by decide +kernel
theorem dX6_worked_124 : decode cX6_worked 124 = .ok (.ireturn, 1) := by decide +kernel
theorem dX6_worked_125 : decode cX6_worked 125 = .ok (.iload_n 1, 1) := by decide +kernel
theorem dX6_worked_126 : decode cX6_worked 126 = .ok (.iload_n 2, 1) := by decide +kernel
theorem dX6_worked_127 : decode cX6_worked 127 = .ok (.ior, 1) := by decide +kernel
theorem dX6_worked_128 : decode cX6_worked 128 = .ok (.ireturn, 1) := by decide +kernel
theorem dX6_holds_0 : decode cX6_holds 0 = .ok (.iconst 0, 1) := by decide +kernel
theorem dX6_holds_1 : decode cX6_holds 1 = .ok (.istore 4, 2) := by decide +kernel
theorem dX6_holds_3 : decode cX6_holds 3 = .ok (.iload_n 2, 1) := by decide +kernel
theorem dX6_holds_4 : decode cX6_holds 4 = .ok (.istore 5, 2) := by decide +kernel
theorem dX6_holds_6 : decode cX6_holds 6 = .ok (.iload 5, 2) := by decide +kernel
theorem dX6_holds_8 : decode cX6_holds 8 = .ok (.iload_n 3, 1) := by decide +kernel
theorem dX6_holds_9 : decode cX6_holds 9 = .ok (.if_icmp .ge 129, 3) := by decide +kernel
theorem dX6_holds_12 : decode cX6_holds 12 = .ok (.aload_n 0, 1) := by decide +kernel
theorem dX6_holds_13 : decode cX6_holds 13 = .ok (.getfield 25, 3) := by decide +kernel
theorem dX6_holds_16 : decode cX6_holds 16 = .ok (.iload_n 1, 1) := by decide +kernel
theorem dX6_holds_17 : decode cX6_holds 17 = .ok (.aaload, 1) := by decide +kernel
theorem dX6_holds_18 : decode cX6_holds 18 = .ok (.iload 5, 2) := by decide +kernel
theorem dX6_holds_20 : decode cX6_holds 20 = .ok (.iaload, 1) := by decide +kernel
theorem dX6_holds_21 : decode cX6_holds 21 = .ok (.istore 6, 2) := by decide +kernel
theorem dX6_holds_23 : decode cX6_holds 23 = .ok (.iload 6, 2) := by decide +kernel
theorem dX6_holds_25 : decode cX6_holds 25 = .ok (.sipush 10020, 3) := by decide +kernel
theorem dX6_holds_28 : decode cX6_holds 28 = .ok (.if_icmp .ge 40, 3) := by decide +kernel
theorem dX6_holds_31 : decode cX6_holds 31 = .ok (.aload_n 0, 1) := by decide +kernel
theorem dX6_holds_32 : decode cX6_holds 32 = .ok (.getfield 37, 3) := by decide +kernel
theorem dX6_holds_35 : decode cX6_holds 35 = .ok (.iload 4, 2) := by decide +kernel
theorem dX6_holds_37 : decode cX6_holds 37 = .ok (.iload 6, 2) := by decide +kernel
theorem dX6_holds_39 : decode cX6_holds 39 = .ok (.sipush 10000, 3) := by decide +kernel
theorem dX6_holds_42 : decode cX6_holds 42 = .ok (.if_icmp .ge 8, 3) := by decide +kernel
theorem dX6_holds_45 : decode cX6_holds 45 = .ok (.iload 6, 2) := by decide +kernel
theorem dX6_holds_47 : decode cX6_holds 47 = .ok (.goto 14, 3) := by decide +kernel
theorem dX6_holds_50 : decode cX6_holds 50 = .ok (.aload_n 0, 1) := by decide +kernel
theorem dX6_holds_51 : decode cX6_holds 51 = .ok (.getfield 40, 3) := by decide +kernel
theorem dX6_holds_54 : decode cX6_holds 54 = .ok (.iload 6, 2) := by decide +kernel
theorem dX6_holds_56 : decode cX6_holds 56 = .ok (.sipush 10000, 3) := by decide +kernel
theorem dX6_holds_59 : decode cX6_holds 59 = .ok (.isub, 1) := by decide +kernel
theorem dX6_holds_60 : decode cX6_holds 60 = .ok (.iaload, 1) := by decide +kernel
theorem dX6_holds_61 : decode cX6_holds 61 = .ok (.iastore, 1) := by decide +kernel
theorem dX6_holds_62 : decode cX6_holds 62 = .ok (.iinc 4 1, 3) := by decide +kernel
theorem dX6_holds_65 : decode cX6_holds 65 = .ok (.goto 67, 3) := by decide +kernel
theorem dX6_holds_68 : decode cX6_holds 68 = .ok (.iload 6, 2) := by decide +kernel
theorem dX6_holds_70 : decode cX6_holds 70 = .ok (.sipush 10033, 3) := by decide +kernel
theorem dX6_holds_73 : decode cX6_holds 73 = .ok (.if_icmp .ne 26, 3) := by decide +kernel
theorem dX6_holds_76 : decode cX6_holds 76 = .ok (.aload_n 0, 1) := by decide +kernel
theorem dX6_holds_77 : decode cX6_holds 77 = .ok (.getfield 37, 3) := by decide +kernel
theorem dX6_holds_80 : decode cX6_holds 80 = .ok (.iload 4, 2) := by decide +kernel
theorem dX6_holds_82 : decode cX6_holds 82 = .ok (.iconst 1, 1) := by decide +kernel
theorem dX6_holds_83 : decode cX6_holds 83 = .ok (.isub, 1) := by decide +kernel
theorem dX6_holds_84 : decode cX6_holds 84 = .ok (.iconst 1, 1) := by decide +kernel
theorem dX6_holds_85 : decode cX6_holds 85 = .ok (.aload_n 0, 1) := by decide +kernel
theorem dX6_holds_86 : decode cX6_holds 86 = .ok (.getfield 37, 3) := by decide +kernel
theorem dX6_holds_89 : decode cX6_holds 89 = .ok (.iload 4, 2) := by decide +kernel
theorem dX6_holds_91 : decode cX6_holds 91 = .ok (.iconst 1, 1) := by decide +kernel
theorem dX6_holds_92 : decode cX6_holds 92 = .ok (.isub, 1) := by decide +kernel
theorem dX6_holds_93 : decode cX6_holds 93 = .ok (.iaload, 1) := by decide +kernel
theorem dX6_holds_94 : decode cX6_holds 94 = .ok (.isub, 1) := by decide +kernel
theorem dX6_holds_95 : decode cX6_holds 95 = .ok (.iastore, 1) := by decide +kernel
theorem dX6_holds_96 : decode cX6_holds 96 = .ok (.goto 36, 3) := by decide +kernel
theorem dX6_holds_99 : decode cX6_holds 99 = .ok (.iinc 4 (-1), 3) := by decide +kernel
theorem dX6_holds_102 : decode cX6_holds 102 = .ok (.aload_n 0, 1) := by decide +kernel
theorem dX6_holds_103 : decode cX6_holds 103 = .ok (.getfield 37, 3) := by decide +kernel
theorem dX6_holds_106 : decode cX6_holds 106 = .ok (.iload 4, 2) := by decide +kernel
theorem dX6_holds_108 : decode cX6_holds 108 = .ok (.iconst 1, 1) := by decide +kernel
theorem dX6_holds_109 : decode cX6_holds 109 = .ok (.isub, 1) := by decide +kernel
theorem dX6_holds_110 : decode cX6_holds 110 = .ok (.iload 6, 2) := by decide +kernel
theorem dX6_holds_112 : decode cX6_holds 112 = .ok (.aload_n 0, 1) := by decide +kernel
theorem dX6_holds_113 : decode cX6_holds 113 = .ok (.getfield 37, 3) := by decide +kernel
theorem dX6_holds_116 : decode cX6_holds 116 = .ok (.iload 4, 2) := by decide +kernel
theorem dX6_holds_118 : decode cX6_holds 118 = .ok (.iconst 1, 1) := by decide +kernel
theorem dX6_holds_119 : decode cX6_holds 119 = .ok (.isub, 1) := by decide +kernel
theorem dX6_holds_120 : decode cX6_holds 120 = .ok (.iaload, 1) := by decide +kernel
theorem dX6_holds_121 : decode cX6_holds 121 = .ok (.aload_n 0, 1) := by decide +kernel
theorem dX6_holds_122 : decode cX6_holds 122 = .ok (.getfield 37, 3) := by decide +kernel
theorem dX6_holds_125 : decode cX6_holds 125 = .ok (.iload 4, 2) := by decide +kernel
theorem dX6_holds_127 : decode cX6_holds 127 = .ok (.iaload, 1) := by decide +kernel
theorem dX6_holds_128 : decode cX6_holds 128 = .ok (.invokestatic 230, 3) := by decide +kernel
theorem dX6_holds_131 : decode cX6_holds 131 = .ok (.iastore, 1) := by decide +kernel
theorem dX6_holds_132 : decode cX6_holds 132 = .ok (.iinc 5 1, 3) := by decide +kernel
theorem dX6_holds_135 : decode cX6_holds 135 = .ok (.goto (-129), 3) := by decide +kernel
theorem dX6_holds_138 : decode cX6_holds 138 = .ok (.aload_n 0, 1) := by decide +kernel
theorem dX6_holds_139 : decode cX6_holds 139 = .ok (.getfield 37, 3) := by decide +kernel
theorem dX6_holds_142 : decode cX6_holds 142 = .ok (.iconst 0, 1) := by decide +kernel
theorem dX6_holds_143 : decode cX6_holds 143 = .ok (.iaload, 1) := by decide +kernel
theorem dX6_holds_144 : decode cX6_holds 144 = .ok (.iconst 1, 1) := by decide +kernel
theorem dX6_holds_145 : decode cX6_holds 145 = .ok (.if_icmp .ne 7, 3) := by decide +kernel
theorem dX6_holds_148 : decode cX6_holds 148 = .ok (.iconst 1, 1) := by decide +kernel
theorem dX6_holds_149 : decode cX6_holds 149 = .ok (.goto 4, 3) := by decide +kernel
theorem dX6_holds_152 : decode cX6_holds 152 = .ok (.iconst 0, 1) := by decide +kernel
theorem dX6_holds_153 : decode cX6_holds 153 = .ok (.ireturn, 1) := by decide +kernel
theorem dX6_isWhy_0 : decode cX6_isWhy 0 = .ok (.iload_n 1, 1) := by decide +kernel
theorem dX6_isWhy_1 : decode cX6_isWhy 1 = .ok (.iconst 0, 1) := by decide +kernel
theorem dX6_isWhy_2 : decode cX6_isWhy 2 = .ok (.aload_n 0, 1) := by decide +kernel
theorem dX6_isWhy_3 : decode cX6_isWhy 3 = .ok (.getfield 224, 3) := by decide +kernel
theorem dX6_isWhy_6 : decode cX6_isWhy 6 = .ok (.iconst 1, 1) := by decide +kernel
theorem dX6_isWhy_7 : decode cX6_isWhy 7 = .ok (.isub, 1) := by decide +kernel
theorem dX6_isWhy_8 : decode cX6_isWhy 8 = .ok (.invokestatic 150, 3) := by decide +kernel
theorem dX6_isWhy_11 : decode cX6_isWhy 11 = .ok (.ireturn, 1) := by decide +kernel
theorem dX6_weigh_0 : decode cX6_weigh 0 = .ok (.aload_n 0, 1) := by decide +kernel
theorem dX6_weigh_1 : decode cX6_weigh 1 = .ok (.iconst 0, 1) := by decide +kernel
theorem dX6_weigh_2 : decode cX6_weigh 2 = .ok (.putfield 113, 3) := by decide +kernel
theorem dX6_weigh_5 : decode cX6_weigh 5 = .ok (.aload_n 0, 1) := by decide +kernel
theorem dX6_weigh_6 : decode cX6_weigh 6 = .ok (.aload_n 0, 1) := by decide +kernel
theorem dX6_weigh_7 : decode cX6_weigh 7 = .ok (.iload_n 1, 1) := by decide +kernel
theorem dX6_weigh_8 : decode cX6_weigh 8 = .ok (.invokevirtual 234, 3) := by decide +kernel
theorem dX6_weigh_11 : decode cX6_weigh 11 = .ok (.ifCond .ne 7, 3) := by decide +kernel
theorem dX6_weigh_14 : decode cX6_weigh 14 = .ok (.iconst 1, 1) := by decide +kernel
theorem dX6_weigh_15 : decode cX6_weigh 15 = .ok (.goto 4, 3) := by decide +kernel
theorem dX6_weigh_18 : decode cX6_weigh 18 = .ok (.iconst 0, 1) := by decide +kernel
theorem dX6_weigh_19 : decode cX6_weigh 19 = .ok (.iconst 1, 1) := by decide +kernel
theorem dX6_weigh_20 : decode cX6_weigh 20 = .ok (.invokevirtual 220, 3) := by decide +kernel
theorem dX6_weigh_23 : decode cX6_weigh 23 = .ok (.ifCond .ne 26, 3) := by decide +kernel
theorem dX6_weigh_26 : decode cX6_weigh 26 = .ok (.aload_n 0, 1) := by decide +kernel
theorem dX6_weigh_27 : decode cX6_weigh 27 = .ok (.iload_n 2, 1) := by decide +kernel
theorem dX6_weigh_28 : decode cX6_weigh 28 = .ok (.iconst 1, 1) := by decide +kernel
theorem dX6_weigh_29 : decode cX6_weigh 29 = .ok (.bipush 99, 2) := by decide +kernel
theorem dX6_weigh_31 : decode cX6_weigh 31 = .ok (.invokestatic 150, 3) := by decide +kernel
theorem dX6_weigh_34 : decode cX6_weigh 34 = .ok (.ifCond .ne 7, 3) := by decide +kernel
theorem dX6_weigh_37 : decode cX6_weigh 37 = .ok (.iconst 1, 1) := by decide +kernel
theorem dX6_weigh_38 : decode cX6_weigh 38 = .ok (.goto 4, 3) := by decide +kernel
theorem dX6_weigh_41 : decode cX6_weigh 41 = .ok (.iconst 0, 1) := by decide +kernel
theorem dX6_weigh_42 : decode cX6_weigh 42 = .ok (.iconst 2, 1) := by decide +kernel
theorem dX6_weigh_43 : decode cX6_weigh 43 = .ok (.invokevirtual 220, 3) := by decide +kernel
theorem dX6_weigh_46 : decode cX6_weigh 46 = .ok (.ifCond .eq 5, 3) := by decide +kernel
theorem dX6_weigh_49 : decode cX6_weigh 49 = .ok (.iconst 0, 1) := by decide +kernel
theorem dX6_weigh_50 : decode cX6_weigh 50 = .ok (.ireturn, 1) := by decide +kernel
theorem dX6_weigh_51 : decode cX6_weigh 51 = .ok (.aload_n 0, 1) := by decide +kernel
theorem dX6_weigh_52 : decode cX6_weigh 52 = .ok (.getfield 34, 3) := by decide +kernel
theorem dX6_weigh_55 : decode cX6_weigh 55 = .ok (.iload_n 1, 1) := by decide +kernel
theorem dX6_weigh_56 : decode cX6_weigh 56 = .ok (.iaload, 1) := by decide +kernel
theorem dX6_weigh_57 : decode cX6_weigh 57 = .ok (.istore_n 3, 1) := by decide +kernel
theorem dX6_weigh_58 : decode cX6_weigh 58 = .ok (.aload_n 0, 1) := by decide +kernel
theorem dX6_weigh_59 : decode cX6_weigh 59 = .ok (.getfield 34, 3) := by decide +kernel
theorem dX6_weigh_62 : decode cX6_weigh 62 = .ok (.iload_n 1, 1) := by decide +kernel
theorem dX6_weigh_63 : decode cX6_weigh 63 = .ok (.iload_n 2, 1) := by decide +kernel
theorem dX6_weigh_64 : decode cX6_weigh 64 = .ok (.iastore, 1) := by decide +kernel
theorem dX6_weigh_65 : decode cX6_weigh 65 = .ok (.iload_n 3, 1) := by decide +kernel
theorem dX6_weigh_66 : decode cX6_weigh 66 = .ok (.ireturn, 1) := by decide +kernel
theorem dX6_set_0 : decode cX6_set 0 = .ok (.aload_n 0, 1) := by decide +kernel
theorem dX6_set_1 : decode cX6_set 1 = .ok (.iconst 0, 1) := by decide +kernel
theorem dX6_set_2 : decode cX6_set 2 = .ok (.putfield 113, 3) := by decide +kernel
theorem dX6_set_5 : decode cX6_set 5 = .ok (.aload_n 0, 1) := by decide +kernel
theorem dX6_set_6 : decode cX6_set 6 = .ok (.iload_n 1, 1) := by decide +kernel
theorem dX6_set_7 : decode cX6_set 7 = .ok (.iconst 0, 1) := by decide +kernel
theorem dX6_set_8 : decode cX6_set 8 = .ok (.bipush 9, 2) := by decide +kernel
theorem dX6_set_10 : decode cX6_set 10 = .ok (.invokestatic 150, 3) := by decide +kernel
theorem dX6_set_13 : decode cX6_set 13 = .ok (.ifCond .ne 7, 3) := by decide +kernel
theorem dX6_set_16 : decode cX6_set 16 = .ok (.iconst 1, 1) := by decide +kernel
theorem dX6_set_17 : decode cX6_set 17 = .ok (.goto 4, 3) := by decide +kernel
theorem dX6_set_20 : decode cX6_set 20 = .ok (.iconst 0, 1) := by decide +kernel
theorem dX6_set_21 : decode cX6_set 21 = .ok (.iconst 1, 1) := by decide +kernel
theorem dX6_set_22 : decode cX6_set 22 = .ok (.invokevirtual 220, 3) := by decide +kernel
theorem dX6_set_25 : decode cX6_set 25 = .ok (.ifCond .ne 31, 3) := by decide +kernel
theorem dX6_set_28 : decode cX6_set 28 = .ok (.aload_n 0, 1) := by decide +kernel
theorem dX6_set_29 : decode cX6_set 29 = .ok (.iload_n 2, 1) := by decide +kernel
theorem dX6_set_30 : decode cX6_set 30 = .ok (.iload_n 1, 1) := by decide +kernel
theorem dX6_set_31 : decode cX6_set 31 = .ok (.invokestatic 214, 3) := by decide +kernel
theorem dX6_set_34 : decode cX6_set 34 = .ok (.iload_n 1, 1) := by decide +kernel
theorem dX6_set_35 : decode cX6_set 35 = .ok (.invokestatic 217, 3) := by decide +kernel
theorem dX6_set_38 : decode cX6_set 38 = .ok (.invokestatic 150, 3) := by decide +kernel
theorem dX6_set_41 : decode cX6_set 41 = .ok (.ifCond .ne 7, 3) := by decide +kernel
theorem dX6_set_44 : decode cX6_set 44 = .ok (.iconst 1, 1) := by decide +kernel
theorem dX6_set_45 : decode cX6_set 45 = .ok (.goto 4, 3) := by decide +kernel
theorem dX6_set_48 : decode cX6_set 48 = .ok (.iconst 0, 1) := by decide +kernel
theorem dX6_set_49 : decode cX6_set 49 = .ok (.iconst 1, 1) := by decide +kernel
theorem dX6_set_50 : decode cX6_set 50 = .ok (.invokevirtual 220, 3) := by decide +kernel
theorem dX6_set_53 : decode cX6_set 53 = .ok (.ifCond .eq 5, 3) := by decide +kernel
theorem dX6_set_56 : decode cX6_set 56 = .ok (.iconst 0, 1) := by decide +kernel
theorem dX6_set_57 : decode cX6_set 57 = .ok (.ireturn, 1) := by decide +kernel
theorem dX6_set_58 : decode cX6_set 58 = .ok (.aload_n 0, 1) := by decide +kernel
theorem dX6_set_59 : decode cX6_set 59 = .ok (.getfield 43, 3) := by decide +kernel
theorem dX6_set_62 : decode cX6_set 62 = .ok (.iload_n 1, 1) := by decide +kernel
theorem dX6_set_63 : decode cX6_set 63 = .ok (.iaload, 1) := by decide +kernel
theorem dX6_set_64 : decode cX6_set 64 = .ok (.istore_n 3, 1) := by decide +kernel
theorem dX6_set_65 : decode cX6_set 65 = .ok (.aload_n 0, 1) := by decide +kernel
theorem dX6_set_66 : decode cX6_set 66 = .ok (.getfield 43, 3) := by decide +kernel
theorem dX6_set_69 : decode cX6_set 69 = .ok (.iload_n 1, 1) := by decide +kernel
theorem dX6_set_70 : decode cX6_set 70 = .ok (.iload_n 2, 1) := by decide +kernel
theorem dX6_set_71 : decode cX6_set 71 = .ok (.iastore, 1) := by decide +kernel
theorem dX6_set_72 : decode cX6_set 72 = .ok (.iload_n 3, 1) := by decide +kernel
theorem dX6_set_73 : decode cX6_set 73 = .ok (.ireturn, 1) := by decide +kernel
theorem dX6_fill_0 : decode cX6_fill 0 = .ok (.aload_n 0, 1) := by decide +kernel
theorem dX6_fill_1 : decode cX6_fill 1 = .ok (.iconst 0, 1) := by decide +kernel
theorem dX6_fill_2 : decode cX6_fill 2 = .ok (.putfield 113, 3) := by decide +kernel
theorem dX6_fill_5 : decode cX6_fill 5 = .ok (.aload_n 0, 1) := by decide +kernel
theorem dX6_fill_6 : decode cX6_fill 6 = .ok (.iload_n 1, 1) := by decide +kernel
theorem dX6_fill_7 : decode cX6_fill 7 = .ok (.iconst 0, 1) := by decide +kernel
theorem dX6_fill_8 : decode cX6_fill 8 = .ok (.bipush 7, 2) := by decide +kernel
theorem dX6_fill_10 : decode cX6_fill 10 = .ok (.invokestatic 150, 3) := by decide +kernel
theorem dX6_fill_13 : decode cX6_fill 13 = .ok (.ifCond .ne 7, 3) := by decide +kernel
theorem dX6_fill_16 : decode cX6_fill 16 = .ok (.iconst 1, 1) := by decide +kernel
theorem dX6_fill_17 : decode cX6_fill 17 = .ok (.goto 4, 3) := by decide +kernel
theorem dX6_fill_20 : decode cX6_fill 20 = .ok (.iconst 0, 1) := by decide +kernel
theorem dX6_fill_21 : decode cX6_fill 21 = .ok (.iconst 1, 1) := by decide +kernel
theorem dX6_fill_22 : decode cX6_fill 22 = .ok (.invokevirtual 220, 3) := by decide +kernel
theorem dX6_fill_25 : decode cX6_fill 25 = .ok (.ifCond .ne 27, 3) := by decide +kernel
theorem dX6_fill_28 : decode cX6_fill 28 = .ok (.aload_n 0, 1) := by decide +kernel
theorem dX6_fill_29 : decode cX6_fill 29 = .ok (.iload_n 2, 1) := by decide +kernel
theorem dX6_fill_30 : decode cX6_fill 30 = .ok (.iconst 0, 1) := by decide +kernel
theorem dX6_fill_31 : decode cX6_fill 31 = .ok (.sipush 999, 3) := by decide +kernel
theorem dX6_fill_34 : decode cX6_fill 34 = .ok (.invokestatic 150, 3) := by decide +kernel
theorem dX6_fill_37 : decode cX6_fill 37 = .ok (.ifCond .ne 7, 3) := by decide +kernel
theorem dX6_fill_40 : decode cX6_fill 40 = .ok (.iconst 1, 1) := by decide +kernel
theorem dX6_fill_41 : decode cX6_fill 41 = .ok (.goto 4, 3) := by decide +kernel
theorem dX6_fill_44 : decode cX6_fill 44 = .ok (.iconst 0, 1) := by decide +kernel
theorem dX6_fill_45 : decode cX6_fill 45 = .ok (.iconst 2, 1) := by decide +kernel
theorem dX6_fill_46 : decode cX6_fill 46 = .ok (.invokevirtual 220, 3) := by decide +kernel
theorem dX6_fill_49 : decode cX6_fill 49 = .ok (.ifCond .eq 5, 3) := by decide +kernel
theorem dX6_fill_52 : decode cX6_fill 52 = .ok (.iconst 0, 1) := by decide +kernel
theorem dX6_fill_53 : decode cX6_fill 53 = .ok (.ireturn, 1) := by decide +kernel
theorem dX6_fill_54 : decode cX6_fill 54 = .ok (.aload_n 0, 1) := by decide +kernel
theorem dX6_fill_55 : decode cX6_fill 55 = .ok (.getfield 46, 3) := by decide +kernel
theorem dX6_fill_58 : decode cX6_fill 58 = .ok (.iload_n 1, 1) := by decide +kernel
theorem dX6_fill_59 : decode cX6_fill 59 = .ok (.iaload, 1) := by decide +kernel
theorem dX6_fill_60 : decode cX6_fill 60 = .ok (.istore_n 3, 1) := by decide +kernel
theorem dX6_fill_61 : decode cX6_fill 61 = .ok (.aload_n 0, 1) := by decide +kernel
theorem dX6_fill_62 : decode cX6_fill 62 = .ok (.getfield 46, 3) := by decide +kernel
theorem dX6_fill_65 : decode cX6_fill 65 = .ok (.iload_n 1, 1) := by decide +kernel
theorem dX6_fill_66 : decode cX6_fill 66 = .ok (.iload_n 2, 1) := by decide +kernel
theorem dX6_fill_67 : decode cX6_fill 67 = .ok (.iastore, 1) := by decide +kernel
theorem dX6_fill_68 : decode cX6_fill 68 = .ok (.iload_n 3, 1) := by decide +kernel
theorem dX6_fill_69 : decode cX6_fill 69 = .ok (.ireturn, 1) := by decide +kernel
theorem dX6_begins_0 : decode cX6_begins 0 = .ok (.iconst 0, 1) := by decide +kernel
theorem dX6_begins_1 : decode cX6_begins 1 = .ok (.istore_n 2, 1) := by decide +kernel
theorem dX6_begins_2 : decode cX6_begins 2 = .ok (.iload_n 2, 1) := by decide +kernel
theorem dX6_begins_3 : decode cX6_begins 3 = .ok (.bipush 10, 2) := by decide +kernel
theorem dX6_begins_5 : decode cX6_begins 5 = .ok (.if_icmp .ge 21, 3) := by decide +kernel
theorem dX6_begins_8 : decode cX6_begins 8 = .ok (.aload_n 0, 1) := by decide +kernel
theorem dX6_begins_9 : decode cX6_begins 9 = .ok (.getfield 49, 3) := by decide +kernel
theorem dX6_begins_12 : decode cX6_begins 12 = .ok (.iload_n 2, 1) := by decide +kernel
theorem dX6_begins_13 : decode cX6_begins 13 = .ok (.aload_n 0, 1) := by decide +kernel
theorem dX6_begins_14 : decode cX6_begins 14 = .ok (.getfield 43, 3) := by decide +kernel
theorem dX6_begins_17 : decode cX6_begins 17 = .ok (.iload_n 2, 1) := by decide +kernel
theorem dX6_begins_18 : decode cX6_begins 18 = .ok (.iaload, 1) := by decide +kernel
theorem dX6_begins_19 : decode cX6_begins 19 = .ok (.iastore, 1) := by decide +kernel
theorem dX6_begins_20 : decode cX6_begins 20 = .ok (.iinc 2 1, 3) := by decide +kernel
theorem dX6_begins_23 : decode cX6_begins 23 = .ok (.goto (-21), 3) := by decide +kernel
theorem dX6_begins_26 : decode cX6_begins 26 = .ok (.iconst 0, 1) := by decide +kernel
theorem dX6_begins_27 : decode cX6_begins 27 = .ok (.istore_n 2, 1) := by decide +kernel
theorem dX6_begins_28 : decode cX6_begins 28 = .ok (.iload_n 2, 1) := by decide +kernel
theorem dX6_begins_29 : decode cX6_begins 29 = .ok (.aload_n 0, 1) := by decide +kernel
theorem dX6_begins_30 : decode cX6_begins 30 = .ok (.getfield 237, 3) := by decide +kernel
theorem dX6_begins_33 : decode cX6_begins 33 = .ok (.if_icmp .ge 42, 3) := by decide +kernel
theorem dX6_begins_36 : decode cX6_begins 36 = .ok (.aload_n 0, 1) := by decide +kernel
theorem dX6_begins_37 : decode cX6_begins 37 = .ok (.getfield 240, 3) := by decide +kernel
theorem dX6_begins_40 : decode cX6_begins 40 = .ok (.iload_n 2, 1) := by decide +kernel
theorem dX6_begins_41 : decode cX6_begins 41 = .ok (.ishr, 1) := by decide +kernel
theorem dX6_begins_42 : decode cX6_begins 42 = .ok (.iconst 1, 1) := by decide +kernel
theorem dX6_begins_43 : decode cX6_begins 43 = .ok (.iand, 1) := by decide +kernel
theorem dX6_begins_44 : decode cX6_begins 44 = .ok (.iconst 1, 1) := by decide +kernel
theorem dX6_begins_45 : decode cX6_begins 45 = .ok (.if_icmp .ne 24, 3) := by decide +kernel
theorem dX6_begins_48 : decode cX6_begins 48 = .ok (.aload_n 0, 1) := by decide +kernel
theorem dX6_begins_49 : decode cX6_begins 49 = .ok (.getfield 49, 3) := by decide +kernel
theorem dX6_begins_52 : decode cX6_begins 52 = .ok (.aload_n 0, 1) := by decide +kernel
theorem dX6_begins_53 : decode cX6_begins 53 = .ok (.getfield 103, 3) := by decide +kernel
theorem dX6_begins_56 : decode cX6_begins 56 = .ok (.iload_n 2, 1) := by decide +kernel
theorem dX6_begins_57 : decode cX6_begins 57 = .ok (.aaload, 1) := by decide +kernel
theorem dX6_begins_58 : decode cX6_begins 58 = .ok (.iconst 0, 1) := by decide +kernel
theorem dX6_begins_59 : decode cX6_begins 59 = .ok (.iaload, 1) := by decide +kernel
theorem dX6_begins_60 : decode cX6_begins 60 = .ok (.aload_n 0, 1) := by decide +kernel
theorem dX6_begins_61 : decode cX6_begins 61 = .ok (.getfield 103, 3) := by decide +kernel
theorem dX6_begins_64 : decode cX6_begins 64 = .ok (.iload_n 2, 1) := by decide +kernel
theorem dX6_begins_65 : decode cX6_begins 65 = .ok (.aaload, 1) := by decide +kernel
theorem dX6_begins_66 : decode cX6_begins 66 = .ok (.iconst 1, 1) := by decide +kernel
theorem dX6_begins_67 : decode cX6_begins 67 = .ok (.iaload, 1) := by decide +kernel
theorem dX6_begins_68 : decode cX6_begins 68 = .ok (.iastore, 1) := by decide +kernel
theorem dX6_begins_69 : decode cX6_begins 69 = .ok (.iinc 2 1, 3) := by decide +kernel
theorem dX6_begins_72 : decode cX6_begins 72 = .ok (.goto (-44), 3) := by decide +kernel
theorem dX6_begins_75 : decode cX6_begins 75 = .ok (.aload_n 0, 1) := by decide +kernel
theorem dX6_begins_76 : decode cX6_begins 76 = .ok (.getfield 91, 3) := by decide +kernel
theorem dX6_begins_79 : decode cX6_begins 79 = .ok (.iconst (-1), 1) := by decide +kernel
theorem dX6_begins_80 : decode cX6_begins 80 = .ok (.if_icmp .eq 23, 3) := by decide +kernel
theorem dX6_begins_83 : decode cX6_begins 83 = .ok (.aload_n 0, 1) := by decide +kernel
theorem dX6_begins_84 : decode cX6_begins 84 = .ok (.getfield 49, 3) := by decide +kernel
theorem dX6_begins_87 : decode cX6_begins 87 = .ok (.iconst 0, 1) := by decide +kernel
theorem dX6_begins_88 : decode cX6_begins 88 = .ok (.aload_n 0, 1) := by decide +kernel
theorem dX6_begins_89 : decode cX6_begins 89 = .ok (.getfield 91, 3) := by decide +kernel
theorem dX6_begins_92 : decode cX6_begins 92 = .ok (.iastore, 1) := by decide +kernel
theorem dX6_begins_93 : decode cX6_begins 93 = .ok (.aload_n 0, 1) := by decide +kernel
theorem dX6_begins_94 : decode cX6_begins 94 = .ok (.getfield 49, 3) := by decide +kernel
theorem dX6_begins_97 : decode cX6_begins 97 = .ok (.iconst 2, 1) := by decide +kernel
theorem dX6_begins_98 : decode cX6_begins 98 = .ok (.aload_n 0, 1) := by decide +kernel
theorem dX6_begins_99 : decode cX6_begins 99 = .ok (.getfield 243, 3) := by decide +kernel
theorem dX6_begins_102 : decode cX6_begins 102 = .ok (.iastore, 1) := by decide +kernel
theorem dX6_begins_103 : decode cX6_begins 103 = .ok (.aload_n 0, 1) := by decide +kernel
theorem dX6_begins_104 : decode cX6_begins 104 = .ok (.getfield 94, 3) := by decide +kernel
theorem dX6_begins_107 : decode cX6_begins 107 = .ok (.iconst (-1), 1) := by decide +kernel
theorem dX6_begins_108 : decode cX6_begins 108 = .ok (.if_icmp .eq 13, 3) := by decide +kernel
theorem dX6_begins_111 : decode cX6_begins 111 = .ok (.aload_n 0, 1) := by decide +kernel
theorem dX6_begins_112 : decode cX6_begins 112 = .ok (.getfield 49, 3) := by decide +kernel
theorem dX6_begins_115 : decode cX6_begins 115 = .ok (.iconst 1, 1) := by decide +kernel
theorem dX6_begins_116 : decode cX6_begins 116 = .ok (.aload_n 0, 1) := by decide +kernel
theorem dX6_begins_117 : decode cX6_begins 117 = .ok (.getfield 94, 3) := by decide +kernel
theorem dX6_begins_120 : decode cX6_begins 120 = .ok (.iastore, 1) := by decide +kernel
theorem dX6_begins_121 : decode cX6_begins 121 = .ok (.iconst 0, 1) := by decide +kernel
theorem dX6_begins_122 : decode cX6_begins 122 = .ok (.istore_n 2, 1) := by decide +kernel
theorem dX6_begins_123 : decode cX6_begins 123 = .ok (.iload_n 2, 1) := by decide +kernel
theorem dX6_begins_124 : decode cX6_begins 124 = .ok (.aload_n 0, 1) := by decide +kernel
theorem dX6_begins_125 : decode cX6_begins 125 = .ok (.getfield 31, 3) := by decide +kernel
theorem dX6_begins_128 : decode cX6_begins 128 = .ok (.iload_n 1, 1) := by decide +kernel
theorem dX6_begins_129 : decode cX6_begins 129 = .ok (.iaload, 1) := by decide +kernel
theorem dX6_begins_130 : decode cX6_begins 130 = .ok (.if_icmp .ge 39, 3) := by decide +kernel
theorem dX6_begins_133 : decode cX6_begins 133 = .ok (.aload_n 0, 1) := by decide +kernel
theorem dX6_begins_134 : decode cX6_begins 134 = .ok (.getfield 28, 3) := by decide +kernel
theorem dX6_begins_137 : decode cX6_begins 137 = .ok (.bipush 14, 2) := by decide +kernel
theorem dX6_begins_139 : decode cX6_begins 139 = .ok (.iload_n 1, 1) := by decide +kernel
theorem dX6_begins_140 : decode cX6_begins 140 = .ok (.imul, 1) := by decide +kernel
theorem dX6_begins_141 : decode cX6_begins 141 = .ok (.iload_n 2, 1) := by decide +kernel
theorem dX6_begins_142 : decode cX6_begins 142 = .ok (.iadd, 1) := by decide +kernel
theorem dX6_begins_143 : decode cX6_begins 143 = .ok (.aaload, 1) := by decide +kernel
theorem dX6_begins_144 : decode cX6_begins 144 = .ok (.astore_n 3, 1) := by decide +kernel
theorem dX6_begins_145 : decode cX6_begins 145 = .ok (.aload_n 3, 1) := by decide +kernel
theorem dX6_begins_146 : decode cX6_begins 146 = .ok (.iconst 0, 1) := by decide +kernel
theorem dX6_begins_147 : decode cX6_begins 147 = .ok (.iaload, 1) := by decide +kernel
theorem dX6_begins_148 : decode cX6_begins 148 = .ok (.iconst 2, 1) := by decide +kernel
theorem dX6_begins_149 : decode cX6_begins 149 = .ok (.if_icmp .ne 14, 3) := by decide +kernel
theorem dX6_begins_152 : decode cX6_begins 152 = .ok (.aload_n 0, 1) := by decide +kernel
theorem dX6_begins_153 : decode cX6_begins 153 = .ok (.getfield 49, 3) := by decide +kernel
theorem dX6_begins_156 : decode cX6_begins 156 = .ok (.aload_n 3, 1) := by decide +kernel
theorem dX6_begins_157 : decode cX6_begins 157 = .ok (.iconst 1, 1) := by decide +kernel
theorem dX6_begins_158 : decode cX6_begins 158 = .ok (.iaload, 1) := by decide +kernel
theorem dX6_begins_159 : decode cX6_begins 159 = .ok (.aload_n 3, 1) := by decide +kernel
theorem dX6_begins_160 : decode cX6_begins 160 = .ok (.iconst 2, 1) := by decide +kernel
theorem dX6_begins_161 : decode cX6_begins 161 = .ok (.iaload, 1) := by decide +kernel
theorem dX6_begins_162 : decode cX6_begins 162 = .ok (.iastore, 1) := by decide +kernel
theorem dX6_begins_163 : decode cX6_begins 163 = .ok (.iinc 2 1, 3) := by decide +kernel
theorem dX6_begins_166 : decode cX6_begins 166 = .ok (.goto (-43), 3) := by decide +kernel
theorem dX6_begins_169 : decode cX6_begins 169 = .ok (.iconst 0, 1) := by decide +kernel
theorem dX6_begins_170 : decode cX6_begins 170 = .ok (.istore_n 2, 1) := by decide +kernel
theorem dX6_begins_171 : decode cX6_begins 171 = .ok (.iload_n 2, 1) := by decide +kernel
theorem dX6_begins_172 : decode cX6_begins 172 = .ok (.bipush 8, 2) := by decide +kernel
theorem dX6_begins_174 : decode cX6_begins 174 = .ok (.if_icmp .ge 35, 3) := by decide +kernel
theorem dX6_begins_177 : decode cX6_begins 177 = .ok (.aload_n 0, 1) := by decide +kernel
theorem dX6_begins_178 : decode cX6_begins 178 = .ok (.getfield 52, 3) := by decide +kernel
theorem dX6_begins_181 : decode cX6_begins 181 = .ok (.iload_n 2, 1) := by decide +kernel
theorem dX6_begins_182 : decode cX6_begins 182 = .ok (.aload_n 0, 1) := by decide +kernel
theorem dX6_begins_183 : decode cX6_begins 183 = .ok (.getfield 46, 3) := by decide +kernel
theorem dX6_begins_186 : decode cX6_begins 186 = .ok (.iload_n 2, 1) := by decide +kernel
theorem dX6_begins_187 : decode cX6_begins 187 = .ok (.iaload, 1) := by decide +kernel
theorem dX6_begins_188 : decode cX6_begins 188 = .ok (.iastore, 1) := by decide +kernel
theorem dX6_begins_189 : decode cX6_begins 189 = .ok (.aload_n 0, 1) := by decide +kernel
theorem dX6_begins_190 : decode cX6_begins 190 = .ok (.getfield 55, 3) := by decide +kernel
theorem dX6_begins_193 : decode cX6_begins 193 = .ok (.iload_n 2, 1) := by decide +kernel
theorem dX6_begins_194 : decode cX6_begins 194 = .ok (.iconst 0, 1) := by decide +kernel
theorem dX6_begins_195 : decode cX6_begins 195 = .ok (.iastore, 1) := by decide +kernel
theorem dX6_begins_196 : decode cX6_begins 196 = .ok (.aload_n 0, 1) := by decide +kernel
theorem dX6_begins_197 : decode cX6_begins 197 = .ok (.getfield 58, 3) := by decide +kernel
theorem dX6_begins_200 : decode cX6_begins 200 = .ok (.iload_n 2, 1) := by decide +kernel
theorem dX6_begins_201 : decode cX6_begins 201 = .ok (.iconst (-1), 1) := by decide +kernel
theorem dX6_begins_202 : decode cX6_begins 202 = .ok (.iastore, 1) := by decide +kernel
theorem dX6_begins_203 : decode cX6_begins 203 = .ok (.iinc 2 1, 3) := by decide +kernel
theorem dX6_begins_206 : decode cX6_begins 206 = .ok (.goto (-35), 3) := by decide +kernel
theorem dX6_begins_209 : decode cX6_begins 209 = .ok (.aload_n 0, 1) := by decide +kernel
theorem dX6_begins_210 : decode cX6_begins 210 = .ok (.iconst (-1), 1) := by decide +kernel
theorem dX6_begins_211 : decode cX6_begins 211 = .ok (.putfield 246, 3) := by decide +kernel
theorem dX6_begins_214 : decode cX6_begins 214 = .ok (.aload_n 0, 1) := by decide +kernel
theorem dX6_begins_215 : decode cX6_begins 215 = .ok (.iconst (-1), 1) := by decide +kernel
theorem dX6_begins_216 : decode cX6_begins 216 = .ok (.putfield 249, 3) := by decide +kernel
theorem dX6_begins_219 : decode cX6_begins 219 = .ok (.aload_n 0, 1) := by decide +kernel
theorem dX6_begins_220 : decode cX6_begins 220 = .ok (.iconst (-1), 1) := by decide +kernel
theorem dX6_begins_221 : decode cX6_begins 221 = .ok (.putfield 252, 3) := by decide +kernel
theorem dX6_begins_224 : decode cX6_begins 224 = .ok (.return_, 1) := by decide +kernel
theorem dX6_allGas_0 : decode cX6_allGas 0 = .ok (.iconst 0, 1) := by decide +kernel
theorem dX6_allGas_1 : decode cX6_allGas 1 = .ok (.istore_n 2, 1) := by decide +kernel
theorem dX6_allGas_2 : decode cX6_allGas 2 = .ok (.iconst 0, 1) := by decide +kernel
theorem dX6_allGas_3 : decode cX6_allGas 3 = .ok (.istore_n 3, 1) := by decide +kernel
theorem dX6_allGas_4 : decode cX6_allGas 4 = .ok (.iload_n 3, 1) := by decide +kernel
theorem dX6_allGas_5 : decode cX6_allGas 5 = .ok (.bipush 8, 2) := by decide +kernel
theorem dX6_allGas_7 : decode cX6_allGas 7 = .ok (.if_icmp .ge 20, 3) := by decide +kernel
theorem dX6_allGas_10 : decode cX6_allGas 10 = .ok (.iload_n 2, 1) := by decide +kernel
theorem dX6_allGas_11 : decode cX6_allGas 11 = .ok (.aload_n 0, 1) := by decide +kernel
theorem dX6_allGas_12 : decode cX6_allGas 12 = .ok (.getfield 61, 3) := by decide +kernel
theorem dX6_allGas_15 : decode cX6_allGas 15 = .ok (.iload_n 1, 1) := by decide +kernel
theorem dX6_allGas_16 : decode cX6_allGas 16 = .ok (.aaload, 1) := by decide +kernel
theorem dX6_allGas_17 : decode cX6_allGas 17 = .ok (.iload_n 3, 1) := by decide +kernel
theorem dX6_allGas_18 : decode cX6_allGas 18 = .ok (.iaload, 1) := by decide +kernel
theorem dX6_allGas_19 : decode cX6_allGas 19 = .ok (.iadd, 1) := by decide +kernel
theorem dX6_allGas_20 : decode cX6_allGas 20 = .ok (.istore_n 2, 1) := by decide +kernel
theorem dX6_allGas_21 : decode cX6_allGas 21 = .ok (.iinc 3 1, 3) := by decide +kernel
theorem dX6_allGas_24 : decode cX6_allGas 24 = .ok (.goto (-20), 3) := by decide +kernel
theorem dX6_allGas_27 : decode cX6_allGas 27 = .ok (.iload_n 2, 1) := by decide +kernel
theorem dX6_allGas_28 : decode cX6_allGas 28 = .ok (.ireturn, 1) := by decide +kernel
theorem dX6_isLit_0 : decode cX6_isLit 0 = .ok (.aload_n 0, 1) := by decide +kernel
theorem dX6_isLit_1 : decode cX6_isLit 1 = .ok (.getfield 58, 3) := by decide +kernel
theorem dX6_isLit_4 : decode cX6_isLit 4 = .ok (.iload_n 1, 1) := by decide +kernel
theorem dX6_isLit_5 : decode cX6_isLit 5 = .ok (.iaload, 1) := by decide +kernel
theorem dX6_isLit_6 : decode cX6_isLit 6 = .ok (.iconst (-1), 1) := by decide +kernel
theorem dX6_isLit_7 : decode cX6_isLit 7 = .ok (.if_icmp .eq 17, 3) := by decide +kernel
theorem dX6_isLit_10 : decode cX6_isLit 10 = .ok (.aload_n 0, 1) := by decide +kernel
theorem dX6_isLit_11 : decode cX6_isLit 11 = .ok (.getfield 58, 3) := by decide +kernel
theorem dX6_isLit_14 : decode cX6_isLit 14 = .ok (.iload_n 1, 1) := by decide +kernel
theorem dX6_isLit_15 : decode cX6_isLit 15 = .ok (.iaload, 1) := by decide +kernel
theorem dX6_isLit_16 : decode cX6_isLit 16 = .ok (.iload_n 2, 1) := by decide +kernel
theorem dX6_isLit_17 : decode cX6_isLit 17 = .ok (.if_icmp .gt 7, 3) := by decide +kernel
theorem dX6_isLit_20 : decode cX6_isLit 20 = .ok (.iconst 1, 1) := by decide +kernel
theorem dX6_isLit_21 : decode cX6_isLit 21 = .ok (.goto 4, 3) := by decide +kernel
theorem dX6_isLit_24 : decode cX6_isLit 24 = .ok (.iconst 0, 1) := by decide +kernel
theorem dX6_isLit_25 : decode cX6_isLit 25 = .ok (.ireturn, 1) := by decide +kernel
theorem dX6_isBeside_0 : decode cX6_isBeside 0 = .ok (.iload_n 1, 1) := by decide +kernel
theorem dX6_isBeside_1 : decode cX6_isBeside 1 = .ok (.ifCond .le 38, 3) := by decide +kernel
theorem dX6_isBeside_4 : decode cX6_isBeside 4 = .ok (.aload_n 0, 1) := by decide +kernel
theorem dX6_isBeside_5 : decode cX6_isBeside 5 = .ok (.getfield 58, 3) := by decide +kernel
theorem dX6_isBeside_8 : decode cX6_isBeside 8 = .ok (.iload_n 1, 1) := by decide +kernel
theorem dX6_isBeside_9 : decode cX6_isBeside 9 = .ok (.iconst 1, 1) := by decide +kernel
theorem dX6_isBeside_10 : decode cX6_isBeside 10 = .ok (.isub, 1) := by decide +kernel
theorem dX6_isBeside_11 : decode cX6_isBeside 11 = .ok (.iaload, 1) := by decide +kernel
theorem dX6_isBeside_12 : decode cX6_isBeside 12 = .ok (.iconst (-1), 1) := by decide +kernel
theorem dX6_isBeside_13 : decode cX6_isBeside 13 = .ok (.if_icmp .eq 26, 3) := by decide +kernel
theorem dX6_isBeside_16 : decode cX6_isBeside 16 = .ok (.iload_n 2, 1) := by decide +kernel
theorem dX6_isBeside_17 : decode cX6_isBeside 17 = .ok (.aload_n 0, 1) := by decide +kernel
theorem dX6_isBeside_18 : decode cX6_isBeside 18 = .ok (.getfield 58, 3) := by decide +kernel
theorem dX6_isBeside_21 : decode cX6_isBeside 21 = .ok (.iload_n 1, 1) := by decide +kernel
theorem dX6_isBeside_22 : decode cX6_isBeside 22 = .ok (.iconst 1, 1) := by decide +kernel
theorem dX6_isBeside_23 : decode cX6_isBeside 23 = .ok (.isub, 1) := by decide +kernel
theorem dX6_isBeside_24 : decode cX6_isBeside 24 = .ok (.iaload, 1) := by decide +kernel
theorem dX6_isBeside_25 : decode cX6_isBeside 25 = .ok (.isub, 1) := by decide +kernel
theorem dX6_isBeside_26 : decode cX6_isBeside 26 = .ok (.aload_n 0, 1) := by decide +kernel
theorem dX6_isBeside_27 : decode cX6_isBeside 27 = .ok (.getfield 49, 3) := by decide +kernel
theorem dX6_isBeside_30 : decode cX6_isBeside 30 = .ok (.iconst 5, 1) := by decide +kernel
theorem dX6_isBeside_31 : decode cX6_isBeside 31 = .ok (.iaload, 1) := by decide +kernel
theorem dX6_isBeside_32 : decode cX6_isBeside 32 = .ok (.if_icmp .lt 7, 3) := by decide +kernel
theorem dX6_isBeside_35 : decode cX6_isBeside 35 = .ok (.iconst 1, 1) := by decide +kernel
theorem dX6_isBeside_36 : decode cX6_isBeside 36 = .ok (.goto 4, 3) := by decide +kernel
theorem dX6_isBeside_39 : decode cX6_isBeside 39 = .ok (.iconst 0, 1) := by decide +kernel
theorem dX6_isBeside_40 : decode cX6_isBeside 40 = .ok (.istore_n 3, 1) := by decide +kernel
theorem dX6_isBeside_41 : decode cX6_isBeside 41 = .ok (.iload_n 3, 1) := by decide +kernel
theorem dX6_isBeside_42 : decode cX6_isBeside 42 = .ok (.ifCond .ne 40, 3) := by decide +kernel
theorem dX6_isBeside_45 : decode cX6_isBeside 45 = .ok (.iload_n 1, 1) := by decide +kernel
theorem dX6_isBeside_46 : decode cX6_isBeside 46 = .ok (.bipush 7, 2) := by decide +kernel
theorem dX6_isBeside_48 : decode cX6_isBeside 48 = .ok (.if_icmp .ge 38, 3) := by decide +kernel
theorem dX6_isBeside_51 : decode cX6_isBeside 51 = .ok (.aload_n 0, 1) := by decide +kernel
theorem dX6_isBeside_52 : decode cX6_isBeside 52 = .ok (.getfield 58, 3) := by decide +kernel
theorem dX6_isBeside_55 : decode cX6_isBeside 55 = .ok (.iload_n 1, 1) := by decide +kernel
theorem dX6_isBeside_56 : decode cX6_isBeside 56 = .ok (.iconst 1, 1) := by decide +kernel
theorem dX6_isBeside_57 : decode cX6_isBeside 57 = .ok (.iadd, 1) := by decide +kernel
theorem dX6_isBeside_58 : decode cX6_isBeside 58 = .ok (.iaload, 1) := by decide +kernel
theorem dX6_isBeside_59 : decode cX6_isBeside 59 = .ok (.iconst (-1), 1) := by decide +kernel
theorem dX6_isBeside_60 : decode cX6_isBeside 60 = .ok (.if_icmp .eq 26, 3) := by decide +kernel
theorem dX6_isBeside_63 : decode cX6_isBeside 63 = .ok (.iload_n 2, 1) := by decide +kernel
theorem dX6_isBeside_64 : decode cX6_isBeside 64 = .ok (.aload_n 0, 1) := by decide +kernel
theorem dX6_isBeside_65 : decode cX6_isBeside 65 = .ok (.getfield 58, 3) := by decide +kernel
theorem dX6_isBeside_68 : decode cX6_isBeside 68 = .ok (.iload_n 1, 1) := by decide +kernel
theorem dX6_isBeside_69 : decode cX6_isBeside 69 = .ok (.iconst 1, 1) := by decide +kernel
theorem dX6_isBeside_70 : decode cX6_isBeside 70 = .ok (.iadd, 1) := by decide +kernel
theorem dX6_isBeside_71 : decode cX6_isBeside 71 = .ok (.iaload, 1) := by decide +kernel
theorem dX6_isBeside_72 : decode cX6_isBeside 72 = .ok (.isub, 1) := by decide +kernel
theorem dX6_isBeside_73 : decode cX6_isBeside 73 = .ok (.aload_n 0, 1) := by decide +kernel
theorem dX6_isBeside_74 : decode cX6_isBeside 74 = .ok (.getfield 49, 3) := by decide +kernel
theorem dX6_isBeside_77 : decode cX6_isBeside 77 = .ok (.iconst 5, 1) := by decide +kernel
theorem dX6_isBeside_78 : decode cX6_isBeside 78 = .ok (.iaload, 1) := by decide +kernel
theorem dX6_isBeside_79 : decode cX6_isBeside 79 = .ok (.if_icmp .lt 7, 3) := by decide +kernel
theorem dX6_isBeside_82 : decode cX6_isBeside 82 = .ok (.iconst 1, 1) := by decide +kernel
theorem dX6_isBeside_83 : decode cX6_isBeside 83 = .ok (.goto 4, 3) := by decide +kernel
theorem dX6_isBeside_86 : decode cX6_isBeside 86 = .ok (.iconst 0, 1) := by decide +kernel
theorem dX6_isBeside_87 : decode cX6_isBeside 87 = .ok (.ireturn, 1) := by decide +kernel
theorem dX6_sparks_0 : decode cX6_sparks 0 = .ok (.aload_n 2, 1) := by decide +kernel
theorem dX6_sparks_1 : decode cX6_sparks 1 = .ok (.iconst 0, 1) := by decide +kernel
theorem dX6_sparks_2 : decode cX6_sparks 2 = .ok (.iaload, 1) := by decide +kernel
theorem dX6_sparks_3 : decode cX6_sparks 3 = .ok (.iconst 1, 1) := by decide +kernel
theorem dX6_sparks_4 : decode cX6_sparks 4 = .ok (.if_icmp .eq 4, 3) := by decide +kernel
theorem dX6_sparks_7 : decode cX6_sparks 7 = .ok (.return_, 1) := by decide +kernel
theorem dX6_sparks_8 : decode cX6_sparks 8 = .ok (.aload_n 0, 1) := by decide +kernel
theorem dX6_sparks_9 : decode cX6_sparks 9 = .ok (.getfield 40, 3) := by decide +kernel
theorem dX6_sparks_12 : decode cX6_sparks 12 = .ok (.iconst 4, 1) := by decide +kernel
theorem dX6_sparks_13 : decode cX6_sparks 13 = .ok (.aload_n 0, 1) := by decide +kernel
theorem dX6_sparks_14 : decode cX6_sparks 14 = .ok (.getfield 55, 3) := by decide +kernel
theorem dX6_sparks_17 : decode cX6_sparks 17 = .ok (.aload_n 2, 1) := by decide +kernel
theorem dX6_sparks_18 : decode cX6_sparks 18 = .ok (.iconst 1, 1) := by decide +kernel
theorem dX6_sparks_19 : decode cX6_sparks 19 = .ok (.iaload, 1) := by decide +kernel
theorem dX6_sparks_20 : decode cX6_sparks 20 = .ok (.iaload, 1) := by decide +kernel
theorem dX6_sparks_21 : decode cX6_sparks 21 = .ok (.iastore, 1) := by decide +kernel
theorem dX6_sparks_22 : decode cX6_sparks 22 = .ok (.aload_n 0, 1) := by decide +kernel
theorem dX6_sparks_23 : decode cX6_sparks 23 = .ok (.getfield 40, 3) := by decide +kernel
theorem dX6_sparks_26 : decode cX6_sparks 26 = .ok (.iconst 5, 1) := by decide +kernel
theorem dX6_sparks_27 : decode cX6_sparks 27 = .ok (.aload_n 0, 1) := by decide +kernel
theorem dX6_sparks_28 : decode cX6_sparks 28 = .ok (.getfield 52, 3) := by decide +kernel
theorem dX6_sparks_31 : decode cX6_sparks 31 = .ok (.aload_n 2, 1) := by decide +kernel
theorem dX6_sparks_32 : decode cX6_sparks 32 = .ok (.iconst 1, 1) := by decide +kernel
theorem dX6_sparks_33 : decode cX6_sparks 33 = .ok (.iaload, 1) := by decide +kernel
theorem dX6_sparks_34 : decode cX6_sparks 34 = .ok (.iaload, 1) := by decide +kernel
theorem dX6_sparks_35 : decode cX6_sparks 35 = .ok (.iastore, 1) := by decide +kernel
theorem dX6_sparks_36 : decode cX6_sparks 36 = .ok (.aload_n 0, 1) := by decide +kernel
theorem dX6_sparks_37 : decode cX6_sparks 37 = .ok (.getfield 40, 3) := by decide +kernel
theorem dX6_sparks_40 : decode cX6_sparks 40 = .ok (.bipush 6, 2) := by decide +kernel
theorem dX6_sparks_42 : decode cX6_sparks 42 = .ok (.aload_n 0, 1) := by decide +kernel
theorem dX6_sparks_43 : decode cX6_sparks 43 = .ok (.getfield 58, 3) := by decide +kernel
theorem dX6_sparks_46 : decode cX6_sparks 46 = .ok (.aload_n 2, 1) := by decide +kernel
theorem dX6_sparks_47 : decode cX6_sparks 47 = .ok (.iconst 1, 1) := by decide +kernel
theorem dX6_sparks_48 : decode cX6_sparks 48 = .ok (.iaload, 1) := by decide +kernel
theorem dX6_sparks_49 : decode cX6_sparks 49 = .ok (.iaload, 1) := by decide +kernel
theorem dX6_sparks_50 : decode cX6_sparks 50 = .ok (.iconst (-1), 1) := by decide +kernel
theorem dX6_sparks_51 : decode cX6_sparks 51 = .ok (.if_icmp .ne 7, 3) := by decide +kernel
theorem dX6_sparks_54 : decode cX6_sparks 54 = .ok (.iconst 0, 1) := by decide +kernel
theorem dX6_sparks_55 : decode cX6_sparks 55 = .ok (.goto 4, 3) := by decide +kernel
theorem dX6_sparks_58 : decode cX6_sparks 58 = .ok (.iconst 1, 1) := by decide +kernel
theorem dX6_sparks_59 : decode cX6_sparks 59 = .ok (.iastore, 1) := by decide +kernel
theorem dX6_sparks_60 : decode cX6_sparks 60 = .ok (.aload_n 0, 1) := by decide +kernel
theorem dX6_sparks_61 : decode cX6_sparks 61 = .ok (.iload_n 1, 1) := by decide +kernel
theorem dX6_sparks_62 : decode cX6_sparks 62 = .ok (.aload_n 2, 1) := by decide +kernel
theorem dX6_sparks_63 : decode cX6_sparks 63 = .ok (.iconst 2, 1) := by decide +kernel
theorem dX6_sparks_64 : decode cX6_sparks 64 = .ok (.iaload, 1) := by decide +kernel
theorem dX6_sparks_65 : decode cX6_sparks 65 = .ok (.aload_n 2, 1) := by decide +kernel
theorem dX6_sparks_66 : decode cX6_sparks 66 = .ok (.iconst 3, 1) := by decide +kernel
theorem dX6_sparks_67 : decode cX6_sparks 67 = .ok (.iaload, 1) := by decide +kernel
theorem dX6_sparks_68 : decode cX6_sparks 68 = .ok (.invokevirtual 255, 3) := by decide +kernel
theorem dX6_sparks_71 : decode cX6_sparks 71 = .ok (.ifCond .eq 35, 3) := by decide +kernel
theorem dX6_sparks_74 : decode cX6_sparks 74 = .ok (.aload_n 0, 1) := by decide +kernel
theorem dX6_sparks_75 : decode cX6_sparks 75 = .ok (.getfield 55, 3) := by decide +kernel
theorem dX6_sparks_78 : decode cX6_sparks 78 = .ok (.aload_n 2, 1) := by decide +kernel
theorem dX6_sparks_79 : decode cX6_sparks 79 = .ok (.iconst 1, 1) := by decide +kernel
theorem dX6_sparks_80 : decode cX6_sparks 80 = .ok (.iaload, 1) := by decide +kernel
theorem dX6_sparks_81 : decode cX6_sparks 81 = .ok (.iaload, 1) := by decide +kernel
theorem dX6_sparks_82 : decode cX6_sparks 82 = .ok (.ifCond .le 24, 3) := by decide +kernel
theorem dX6_sparks_85 : decode cX6_sparks 85 = .ok (.aload_n 0, 1) := by decide +kernel
theorem dX6_sparks_86 : decode cX6_sparks 86 = .ok (.getfield 58, 3) := by decide +kernel
theorem dX6_sparks_89 : decode cX6_sparks 89 = .ok (.aload_n 2, 1) := by decide +kernel
theorem dX6_sparks_90 : decode cX6_sparks 90 = .ok (.iconst 1, 1) := by decide +kernel
theorem dX6_sparks_91 : decode cX6_sparks 91 = .ok (.iaload, 1) := by decide +kernel
theorem dX6_sparks_92 : decode cX6_sparks 92 = .ok (.iaload, 1) := by decide +kernel
theorem dX6_sparks_93 : decode cX6_sparks 93 = .ok (.iconst (-1), 1) := by decide +kernel
theorem dX6_sparks_94 : decode cX6_sparks 94 = .ok (.if_icmp .ne 12, 3) := by decide +kernel
theorem dX6_sparks_97 : decode cX6_sparks 97 = .ok (.aload_n 0, 1) := by decide +kernel
theorem dX6_sparks_98 : decode cX6_sparks 98 = .ok (.getfield 58, 3) := by decide +kernel
theorem dX6_sparks_101 : decode cX6_sparks 101 = .ok (.aload_n 2, 1) := by decide +kernel
theorem dX6_sparks_102 : decode cX6_sparks 102 = .ok (.iconst 1, 1) := by decide +kernel
theorem dX6_sparks_103 : decode cX6_sparks 103 = .ok (.iaload, 1) := by decide +kernel
theorem dX6_sparks_104 : decode cX6_sparks 104 = .ok (.iload_n 3, 1) := by decide +kernel
theorem dX6_sparks_105 : decode cX6_sparks 105 = .ok (.iastore, 1) := by decide +kernel
theorem dX6_sparks_106 : decode cX6_sparks 106 = .ok (.return_, 1) := by decide +kernel
theorem dX6_leaks_0 : decode cX6_leaks 0 = .ok (.aload_n 1, 1) := by decide +kernel
theorem dX6_leaks_1 : decode cX6_leaks 1 = .ok (.iconst 0, 1) := by decide +kernel
theorem dX6_leaks_2 : decode cX6_leaks 2 = .ok (.iaload, 1) := by decide +kernel
theorem dX6_leaks_3 : decode cX6_leaks 3 = .ok (.ifCond .ne 10, 3) := by decide +kernel
theorem dX6_leaks_6 : decode cX6_leaks 6 = .ok (.iload_n 2, 1) := by decide +kernel
theorem dX6_leaks_7 : decode cX6_leaks 7 = .ok (.aload_n 1, 1) := by decide +kernel
theorem dX6_leaks_8 : decode cX6_leaks 8 = .ok (.iconst 3, 1) := by decide +kernel
theorem dX6_leaks_9 : decode cX6_leaks 9 = .ok (.iaload, 1) := by decide +kernel
theorem dX6_leaks_10 : decode cX6_leaks 10 = .ok (.if_icmp .ge 4, 3) := by decide +kernel
theorem dX6_leaks_13 : decode cX6_leaks 13 = .ok (.return_, 1) := by decide +kernel
theorem dX6_leaks_14 : decode cX6_leaks 14 = .ok (.aload_n 1, 1) := by decide +kernel
theorem dX6_leaks_15 : decode cX6_leaks 15 = .ok (.iconst 2, 1) := by decide +kernel
theorem dX6_leaks_16 : decode cX6_leaks 16 = .ok (.iaload, 1) := by decide +kernel
theorem dX6_leaks_17 : decode cX6_leaks 17 = .ok (.aload_n 0, 1) := by decide +kernel
theorem dX6_leaks_18 : decode cX6_leaks 18 = .ok (.getfield 52, 3) := by decide +kernel
theorem dX6_leaks_21 : decode cX6_leaks 21 = .ok (.aload_n 1, 1) := by decide +kernel
theorem dX6_leaks_22 : decode cX6_leaks 22 = .ok (.iconst 1, 1) := by decide +kernel
theorem dX6_leaks_23 : decode cX6_leaks 23 = .ok (.iaload, 1) := by decide +kernel
theorem dX6_leaks_24 : decode cX6_leaks 24 = .ok (.iaload, 1) := by decide +kernel
theorem dX6_leaks_25 : decode cX6_leaks 25 = .ok (.invokestatic 258, 3) := by decide +kernel
theorem dX6_leaks_28 : decode cX6_leaks 28 = .ok (.istore_n 3, 1) := by decide +kernel
theorem dX6_leaks_29 : decode cX6_leaks 29 = .ok (.aload_n 0, 1) := by decide +kernel
theorem dX6_leaks_30 : decode cX6_leaks 30 = .ok (.getfield 52, 3) := by decide +kernel
theorem dX6_leaks_33 : decode cX6_leaks 33 = .ok (.aload_n 1, 1) := by decide +kernel
theorem dX6_leaks_34 : decode cX6_leaks 34 = .ok (.iconst 1, 1) := by decide +kernel
theorem dX6_leaks_35 : decode cX6_leaks 35 = .ok (.iaload, 1) := by decide +kernel
theorem dX6_leaks_36 : decode cX6_leaks 36 = .ok (.dup2, 1) := by decide +kernel
theorem dX6_leaks_37 : decode cX6_leaks 37 = .ok (.iaload, 1) := by decide +kernel
theorem dX6_leaks_38 : decode cX6_leaks 38 = .ok (.iload_n 3, 1) := by decide +kernel
theorem dX6_leaks_39 : decode cX6_leaks 39 = .ok (.isub, 1) := by decide +kernel
theorem dX6_leaks_40 : decode cX6_leaks 40 = .ok (.iastore, 1) := by decide +kernel
theorem dX6_leaks_41 : decode cX6_leaks 41 = .ok (.aload_n 0, 1) := by decide +kernel
theorem dX6_leaks_42 : decode cX6_leaks 42 = .ok (.getfield 55, 3) := by decide +kernel
theorem dX6_leaks_45 : decode cX6_leaks 45 = .ok (.aload_n 1, 1) := by decide +kernel
theorem dX6_leaks_46 : decode cX6_leaks 46 = .ok (.iconst 1, 1) := by decide +kernel
theorem dX6_leaks_47 : decode cX6_leaks 47 = .ok (.iaload, 1) := by decide +kernel
theorem dX6_leaks_48 : decode cX6_leaks 48 = .ok (.dup2, 1) := by decide +kernel
theorem dX6_leaks_49 : decode cX6_leaks 49 = .ok (.iaload, 1) := by decide +kernel
theorem dX6_leaks_50 : decode cX6_leaks 50 = .ok (.iload_n 3, 1) := by decide +kernel
theorem dX6_leaks_51 : decode cX6_leaks 51 = .ok (.iadd, 1) := by decide +kernel
theorem dX6_leaks_52 : decode cX6_leaks 52 = .ok (.iastore, 1) := by decide +kernel
theorem dX6_leaks_53 : decode cX6_leaks 53 = .ok (.return_, 1) := by decide +kernel
theorem dX6_runs_0 : decode cX6_runs 0 = .ok (.aload_n 0, 1) := by decide +kernel
theorem dX6_runs_1 : decode cX6_runs 1 = .ok (.iload_n 1, 1) := by decide +kernel
theorem dX6_runs_2 : decode cX6_runs 2 = .ok (.invokevirtual 261, 3) := by decide +kernel
theorem dX6_runs_5 : decode cX6_runs 5 = .ok (.iconst 0, 1) := by decide +kernel
theorem dX6_runs_6 : decode cX6_runs 6 = .ok (.istore_n 2, 1) := by decide +kernel
theorem dX6_runs_7 : decode cX6_runs 7 = .ok (.aload_n 0, 1) := by decide +kernel
theorem dX6_runs_8 : decode cX6_runs 8 = .ok (.getfield 49, 3) := by decide +kernel
theorem dX6_runs_11 : decode cX6_runs 11 = .ok (.iconst 2, 1) := by decide +kernel
theorem dX6_runs_12 : decode cX6_runs 12 = .ok (.iaload, 1) := by decide +kernel
theorem dX6_runs_13 : decode cX6_runs 13 = .ok (.istore_n 3, 1) := by decide +kernel
theorem dX6_runs_14 : decode cX6_runs 14 = .ok (.aload_n 0, 1) := by decide +kernel
theorem dX6_runs_15 : decode cX6_runs 15 = .ok (.getfield 49, 3) := by decide +kernel
theorem dX6_runs_18 : decode cX6_runs 18 = .ok (.iconst 2, 1) := by decide +kernel
theorem dX6_runs_19 : decode cX6_runs 19 = .ok (.iaload, 1) := by decide +kernel
theorem dX6_runs_20 : decode cX6_runs 20 = .ok (.istore 4, 2) := by decide +kernel
theorem dX6_runs_22 : decode cX6_runs 22 = .ok (.aload_n 0, 1) := by decide +kernel
theorem dX6_runs_23 : decode cX6_runs 23 = .ok (.getfield 49, 3) := by decide +kernel
theorem dX6_runs_26 : decode cX6_runs 26 = .ok (.bipush 9, 2) := by decide +kernel
theorem dX6_runs_28 : decode cX6_runs 28 = .ok (.iaload, 1) := by decide +kernel
theorem dX6_runs_29 : decode cX6_runs 29 = .ok (.istore 5, 2) := by decide +kernel
theorem dX6_runs_31 : decode cX6_runs 31 = .ok (.iconst 0, 1) := by decide +kernel
theorem dX6_runs_32 : decode cX6_runs 32 = .ok (.istore 6, 2) := by decide +kernel
theorem dX6_runs_34 : decode cX6_runs 34 = .ok (.iload 6, 2) := by decide +kernel
theorem dX6_runs_36 : decode cX6_runs 36 = .ok (.bipush 100, 2) := by decide +kernel
theorem dX6_runs_38 : decode cX6_runs 38 = .ok (.if_icmp .ge 424, 3) := by decide +kernel
theorem dX6_runs_41 : decode cX6_runs 41 = .ok (.iload_n 2, 1) := by decide +kernel
theorem dX6_runs_42 : decode cX6_runs 42 = .ok (.aload_n 0, 1) := by decide +kernel
theorem dX6_runs_43 : decode cX6_runs 43 = .ok (.getfield 49, 3) := by decide +kernel
theorem dX6_runs_46 : decode cX6_runs 46 = .ok (.iconst 0, 1) := by decide +kernel
theorem dX6_runs_47 : decode cX6_runs 47 = .ok (.iaload, 1) := by decide +kernel
theorem dX6_runs_48 : decode cX6_runs 48 = .ok (.iadd, 1) := by decide +kernel
theorem dX6_runs_49 : decode cX6_runs 49 = .ok (.istore_n 2, 1) := by decide +kernel
theorem dX6_runs_50 : decode cX6_runs 50 = .ok (.iload_n 2, 1) := by decide +kernel
theorem dX6_runs_51 : decode cX6_runs 51 = .ok (.aload_n 0, 1) := by decide +kernel
theorem dX6_runs_52 : decode cX6_runs 52 = .ok (.getfield 49, 3) := by decide +kernel
theorem dX6_runs_55 : decode cX6_runs 55 = .ok (.iconst 1, 1) := by decide +kernel
theorem dX6_runs_56 : decode cX6_runs 56 = .ok (.iaload, 1) := by decide +kernel
theorem dX6_runs_57 : decode cX6_runs 57 = .ok (.if_icmp .lt 31, 3) := by decide +kernel
theorem dX6_runs_60 : decode cX6_runs 60 = .ok (.iconst 0, 1) := by decide +kernel
theorem dX6_runs_61 : decode cX6_runs 61 = .ok (.iload 4, 2) := by decide +kernel
theorem dX6_runs_63 : decode cX6_runs 63 = .ok (.aload_n 0, 1) := by decide +kernel
theorem dX6_runs_64 : decode cX6_runs 64 = .ok (.getfield 49, 3) := by decide +kernel
theorem dX6_runs_67 : decode cX6_runs 67 = .ok (.iconst 3, 1) := by decide +kernel
theorem dX6_runs_68 : decode cX6_runs 68 = .ok (.iaload, 1) := by decide +kernel
theorem dX6_runs_69 : decode cX6_runs 69 = .ok (.isub, 1) := by decide +kernel
theorem dX6_runs_70 : decode cX6_runs 70 = .ok (.invokestatic 264, 3) := by decide +kernel
theorem dX6_runs_73 : decode cX6_runs 73 = .ok (.istore 4, 2) := by decide +kernel
theorem dX6_runs_75 : decode cX6_runs 75 = .ok (.iconst 0, 1) := by decide +kernel
theorem dX6_runs_76 : decode cX6_runs 76 = .ok (.iload_n 3, 1) := by decide +kernel
theorem dX6_runs_77 : decode cX6_runs 77 = .ok (.aload_n 0, 1) := by decide +kernel
theorem dX6_runs_78 : decode cX6_runs 78 = .ok (.getfield 49, 3) := by decide +kernel
theorem dX6_runs_81 : decode cX6_runs 81 = .ok (.iconst 4, 1) := by decide +kernel
theorem dX6_runs_82 : decode cX6_runs 82 = .ok (.iaload, 1) := by decide +kernel
theorem dX6_runs_83 : decode cX6_runs 83 = .ok (.isub, 1) := by decide +kernel
theorem dX6_runs_84 : decode cX6_runs 84 = .ok (.invokestatic 264, 3) := by decide +kernel
theorem dX6_runs_87 : decode cX6_runs 87 = .ok (.istore_n 3, 1) := by decide +kernel
theorem dX6_runs_88 : decode cX6_runs 88 = .ok (.iconst 0, 1) := by decide +kernel
theorem dX6_runs_89 : decode cX6_runs 89 = .ok (.istore 7, 2) := by decide +kernel
theorem dX6_runs_91 : decode cX6_runs 91 = .ok (.iload 7, 2) := by decide +kernel
theorem dX6_runs_93 : decode cX6_runs 93 = .ok (.aload_n 0, 1) := by decide +kernel
theorem dX6_runs_94 : decode cX6_runs 94 = .ok (.getfield 31, 3) := by decide +kernel
theorem dX6_runs_97 : decode cX6_runs 97 = .ok (.iload_n 1, 1) := by decide +kernel
theorem dX6_runs_98 : decode cX6_runs 98 = .ok (.iaload, 1) := by decide +kernel
theorem dX6_runs_99 : decode cX6_runs 99 = .ok (.if_icmp .ge 27, 3) := by decide +kernel
theorem dX6_runs_102 : decode cX6_runs 102 = .ok (.aload_n 0, 1) := by decide +kernel
theorem dX6_runs_103 : decode cX6_runs 103 = .ok (.aload_n 0, 1) := by decide +kernel
theorem dX6_runs_104 : decode cX6_runs 104 = .ok (.getfield 28, 3) := by decide +kernel
theorem dX6_runs_107 : decode cX6_runs 107 = .ok (.bipush 14, 2) := by decide +kernel
theorem dX6_runs_109 : decode cX6_runs 109 = .ok (.iload_n 1, 1) := by decide +kernel
theorem dX6_runs_110 : decode cX6_runs 110 = .ok (.imul, 1) := by decide +kernel
theorem dX6_runs_111 : decode cX6_runs 111 = .ok (.iload 7, 2) := by decide +kernel
theorem dX6_runs_113 : decode cX6_runs 113 = .ok (.iadd, 1) := by decide +kernel
theorem dX6_runs_114 : decode cX6_runs 114 = .ok (.aaload, 1) := by decide +kernel
theorem dX6_runs_115 : decode cX6_runs 115 = .ok (.iload 6, 2) := by decide +kernel
theorem dX6_runs_117 : decode cX6_runs 117 = .ok (.invokevirtual 267, 3) := by decide +kernel
theorem dX6_runs_120 : decode cX6_runs 120 = .ok (.iinc 7 1, 3) := by decide +kernel
theorem dX6_runs_123 : decode cX6_runs 123 = .ok (.goto (-32), 3) := by decide +kernel
theorem dX6_runs_126 : decode cX6_runs 126 = .ok (.aload_n 0, 1) := by decide +kernel
theorem dX6_runs_127 : decode cX6_runs 127 = .ok (.getfield 40, 3) := by decide +kernel
theorem dX6_runs_130 : decode cX6_runs 130 = .ok (.iconst 0, 1) := by decide +kernel
theorem dX6_runs_131 : decode cX6_runs 131 = .ok (.iload 6, 2) := by decide +kernel
theorem dX6_runs_133 : decode cX6_runs 133 = .ok (.iastore, 1) := by decide +kernel
theorem dX6_runs_134 : decode cX6_runs 134 = .ok (.aload_n 0, 1) := by decide +kernel
theorem dX6_runs_135 : decode cX6_runs 135 = .ok (.getfield 40, 3) := by decide +kernel
theorem dX6_runs_138 : decode cX6_runs 138 = .ok (.iconst 1, 1) := by decide +kernel
theorem dX6_runs_139 : decode cX6_runs 139 = .ok (.iload_n 3, 1) := by decide +kernel
theorem dX6_runs_140 : decode cX6_runs 140 = .ok (.iload 4, 2) := by decide +kernel
theorem dX6_runs_142 : decode cX6_runs 142 = .ok (.isub, 1) := by decide +kernel
theorem dX6_runs_143 : decode cX6_runs 143 = .ok (.iastore, 1) := by decide +kernel
theorem dX6_runs_144 : decode cX6_runs 144 = .ok (.aload_n 0, 1) := by decide +kernel
theorem dX6_runs_145 : decode cX6_runs 145 = .ok (.getfield 40, 3) := by decide +kernel
theorem dX6_runs_148 : decode cX6_runs 148 = .ok (.iconst 2, 1) := by decide +kernel
theorem dX6_runs_149 : decode cX6_runs 149 = .ok (.iload_n 2, 1) := by decide +kernel
theorem dX6_runs_150 : decode cX6_runs 150 = .ok (.iastore, 1) := by decide +kernel
theorem dX6_runs_151 : decode cX6_runs 151 = .ok (.aload_n 0, 1) := by decide +kernel
theorem dX6_runs_152 : decode cX6_runs 152 = .ok (.getfield 40, 3) := by decide +kernel
theorem dX6_runs_155 : decode cX6_runs 155 = .ok (.iconst 3, 1) := by decide +kernel
theorem dX6_runs_156 : decode cX6_runs 156 = .ok (.iload 5, 2) := by decide +kernel
theorem dX6_runs_158 : decode cX6_runs 158 = .ok (.iastore, 1) := by decide +kernel
theorem dX6_runs_159 : decode cX6_runs 159 = .ok (.iconst 0, 1) := by decide +kernel
theorem dX6_runs_160 : decode cX6_runs 160 = .ok (.istore 7, 2) := by decide +kernel
theorem dX6_runs_162 : decode cX6_runs 162 = .ok (.iload 7, 2) := by decide +kernel
theorem dX6_runs_164 : decode cX6_runs 164 = .ok (.aload_n 0, 1) := by decide +kernel
theorem dX6_runs_165 : decode cX6_runs 165 = .ok (.getfield 31, 3) := by decide +kernel
theorem dX6_runs_168 : decode cX6_runs 168 = .ok (.iload_n 1, 1) := by decide +kernel
theorem dX6_runs_169 : decode cX6_runs 169 = .ok (.iaload, 1) := by decide +kernel
theorem dX6_runs_170 : decode cX6_runs 170 = .ok (.if_icmp .ge 28, 3) := by decide +kernel
theorem dX6_runs_173 : decode cX6_runs 173 = .ok (.aload_n 0, 1) := by decide +kernel
theorem dX6_runs_174 : decode cX6_runs 174 = .ok (.iload_n 1, 1) := by decide +kernel
theorem dX6_runs_175 : decode cX6_runs 175 = .ok (.aload_n 0, 1) := by decide +kernel
theorem dX6_runs_176 : decode cX6_runs 176 = .ok (.getfield 28, 3) := by decide +kernel
theorem dX6_runs_179 : decode cX6_runs 179 = .ok (.bipush 14, 2) := by decide +kernel
theorem dX6_runs_181 : decode cX6_runs 181 = .ok (.iload_n 1, 1) := by decide +kernel
theorem dX6_runs_182 : decode cX6_runs 182 = .ok (.imul, 1) := by decide +kernel
theorem dX6_runs_183 : decode cX6_runs 183 = .ok (.iload 7, 2) := by decide +kernel
theorem dX6_runs_185 : decode cX6_runs 185 = .ok (.iadd, 1) := by decide +kernel
theorem dX6_runs_186 : decode cX6_runs 186 = .ok (.aaload, 1) := by decide +kernel
theorem dX6_runs_187 : decode cX6_runs 187 = .ok (.iload 6, 2) := by decide +kernel
theorem dX6_runs_189 : decode cX6_runs 189 = .ok (.invokevirtual 271, 3) := by decide +kernel
theorem dX6_runs_192 : decode cX6_runs 192 = .ok (.iinc 7 1, 3) := by decide +kernel
theorem dX6_runs_195 : decode cX6_runs 195 = .ok (.goto (-33), 3) := by decide +kernel
theorem dX6_runs_198 : decode cX6_runs 198 = .ok (.iconst 0, 1) := by decide +kernel
theorem dX6_runs_199 : decode cX6_runs 199 = .ok (.istore 7, 2) := by decide +kernel
theorem dX6_runs_201 : decode cX6_runs 201 = .ok (.iload 7, 2) := by decide +kernel
theorem dX6_runs_203 : decode cX6_runs 203 = .ok (.bipush 8, 2) := by decide +kernel
theorem dX6_runs_205 : decode cX6_runs 205 = .ok (.if_icmp .ge 40, 3) := by decide +kernel
theorem dX6_runs_208 : decode cX6_runs 208 = .ok (.aload_n 0, 1) := by decide +kernel
theorem dX6_runs_209 : decode cX6_runs 209 = .ok (.getfield 58, 3) := by decide +kernel
theorem dX6_runs_212 : decode cX6_runs 212 = .ok (.iload 7, 2) := by decide +kernel
theorem dX6_runs_214 : decode cX6_runs 214 = .ok (.iaload, 1) := by decide +kernel
theorem dX6_runs_215 : decode cX6_runs 215 = .ok (.iconst (-1), 1) := by decide +kernel
theorem dX6_runs_216 : decode cX6_runs 216 = .ok (.if_icmp .ne 23, 3) := by decide +kernel
theorem dX6_runs_219 : decode cX6_runs 219 = .ok (.aload_n 0, 1) := by decide +kernel
theorem dX6_runs_220 : decode cX6_runs 220 = .ok (.iload 7, 2) := by decide +kernel
theorem dX6_runs_222 : decode cX6_runs 222 = .ok (.iload 6, 2) := by decide +kernel
theorem dX6_runs_224 : decode cX6_runs 224 = .ok (.invokevirtual 275, 3) := by decide +kernel
theorem dX6_runs_227 : decode cX6_runs 227 = .ok (.ifCond .eq 12, 3) := by decide +kernel
theorem dX6_runs_230 : decode cX6_runs 230 = .ok (.aload_n 0, 1) := by decide +kernel
theorem dX6_runs_231 : decode cX6_runs 231 = .ok (.getfield 58, 3) := by decide +kernel
theorem dX6_runs_234 : decode cX6_runs 234 = .ok (.iload 7, 2) := by decide +kernel
theorem dX6_runs_236 : decode cX6_runs 236 = .ok (.iload 6, 2) := by decide +kernel
theorem dX6_runs_238 : decode cX6_runs 238 = .ok (.iastore, 1) := by decide +kernel
theorem dX6_runs_239 : decode cX6_runs 239 = .ok (.iinc 7 1, 3) := by decide +kernel
theorem dX6_runs_242 : decode cX6_runs 242 = .ok (.goto (-41), 3) := by decide +kernel
theorem dX6_runs_245 : decode cX6_runs 245 = .ok (.iconst 0, 1) := by decide +kernel
theorem dX6_runs_246 : decode cX6_runs 246 = .ok (.istore 7, 2) := by decide +kernel
theorem dX6_runs_248 : decode cX6_runs 248 = .ok (.iconst 0, 1) := by decide +kernel
theorem dX6_runs_249 : decode cX6_runs 249 = .ok (.istore 8, 2) := by decide +kernel
theorem dX6_runs_251 : decode cX6_runs 251 = .ok (.iload 8, 2) := by decide +kernel
theorem dX6_runs_253 : decode cX6_runs 253 = .ok (.bipush 8, 2) := by decide +kernel
theorem dX6_runs_255 : decode cX6_runs 255 = .ok (.if_icmp .ge 120, 3) := by decide +kernel
theorem dX6_runs_258 : decode cX6_runs 258 = .ok (.aload_n 0, 1) := by decide +kernel
theorem dX6_runs_259 : decode cX6_runs 259 = .ok (.getfield 58, 3) := by decide +kernel
theorem dX6_runs_262 : decode cX6_runs 262 = .ok (.iload 8, 2) := by decide +kernel
theorem dX6_runs_264 : decode cX6_runs 264 = .ok (.iaload, 1) := by decide +kernel
theorem dX6_runs_265 : decode cX6_runs 265 = .ok (.iconst (-1), 1) := by decide +kernel
theorem dX6_runs_266 : decode cX6_runs 266 = .ok (.if_icmp .eq 57, 3) := by decide +kernel
theorem dX6_runs_269 : decode cX6_runs 269 = .ok (.aload_n 0, 1) := by decide +kernel
theorem dX6_runs_270 : decode cX6_runs 270 = .ok (.getfield 52, 3) := by decide +kernel
theorem dX6_runs_273 : decode cX6_runs 273 = .ok (.iload 8, 2) := by decide +kernel
theorem dX6_runs_275 : decode cX6_runs 275 = .ok (.iconst 0, 1) := by decide +kernel
theorem dX6_runs_276 : decode cX6_runs 276 = .ok (.aload_n 0, 1) := by decide +kernel
theorem dX6_runs_277 : decode cX6_runs 277 = .ok (.getfield 52, 3) := by decide +kernel
theorem dX6_runs_280 : decode cX6_runs 280 = .ok (.iload 8, 2) := by decide +kernel
theorem dX6_runs_282 : decode cX6_runs 282 = .ok (.iaload, 1) := by decide +kernel
theorem dX6_runs_283 : decode cX6_runs 283 = .ok (.aload_n 0, 1) := by decide +kernel
theorem dX6_runs_284 : decode cX6_runs 284 = .ok (.getfield 49, 3) := by decide +kernel
theorem dX6_runs_287 : decode cX6_runs 287 = .ok (.bipush 6, 2) := by decide +kernel
theorem dX6_runs_289 : decode cX6_runs 289 = .ok (.iaload, 1) := by decide +kernel
theorem dX6_runs_290 : decode cX6_runs 290 = .ok (.isub, 1) := by decide +kernel
theorem dX6_runs_291 : decode cX6_runs 291 = .ok (.invokestatic 264, 3) := by decide +kernel
theorem dX6_runs_294 : decode cX6_runs 294 = .ok (.iastore, 1) := by decide +kernel
theorem dX6_runs_295 : decode cX6_runs 295 = .ok (.aload_n 0, 1) := by decide +kernel
theorem dX6_runs_296 : decode cX6_runs 296 = .ok (.getfield 55, 3) := by decide +kernel
theorem dX6_runs_299 : decode cX6_runs 299 = .ok (.iload 8, 2) := by decide +kernel
theorem dX6_runs_301 : decode cX6_runs 301 = .ok (.iconst 0, 1) := by decide +kernel
theorem dX6_runs_302 : decode cX6_runs 302 = .ok (.iastore, 1) := by decide +kernel
theorem dX6_runs_303 : decode cX6_runs 303 = .ok (.aload_n 0, 1) := by decide +kernel
theorem dX6_runs_304 : decode cX6_runs 304 = .ok (.getfield 249, 3) := by decide +kernel
theorem dX6_runs_307 : decode cX6_runs 307 = .ok (.iconst (-1), 1) := by decide +kernel
theorem dX6_runs_308 : decode cX6_runs 308 = .ok (.if_icmp .ne 15, 3) := by decide +kernel
theorem dX6_runs_311 : decode cX6_runs 311 = .ok (.aload_n 0, 1) := by decide +kernel
theorem dX6_runs_312 : decode cX6_runs 312 = .ok (.iload 6, 2) := by decide +kernel
theorem dX6_runs_314 : decode cX6_runs 314 = .ok (.putfield 249, 3) := by decide +kernel
theorem dX6_runs_317 : decode cX6_runs 317 = .ok (.aload_n 0, 1) := by decide +kernel
theorem dX6_runs_318 : decode cX6_runs 318 = .ok (.iload 8, 2) := by decide +kernel
theorem dX6_runs_320 : decode cX6_runs 320 = .ok (.putfield 252, 3) := by decide +kernel
theorem dX6_runs_323 : decode cX6_runs 323 = .ok (.iload 7, 2) := by decide +kernel
theorem dX6_runs_325 : decode cX6_runs 325 = .ok (.aload_n 0, 1) := by decide +kernel
theorem dX6_runs_326 : decode cX6_runs 326 = .ok (.getfield 52, 3) := by decide +kernel
theorem dX6_runs_329 : decode cX6_runs 329 = .ok (.iload 8, 2) := by decide +kernel
theorem dX6_runs_331 : decode cX6_runs 331 = .ok (.iaload, 1) := by decide +kernel
theorem dX6_runs_332 : decode cX6_runs 332 = .ok (.iadd, 1) := by decide +kernel
theorem dX6_runs_333 : decode cX6_runs 333 = .ok (.istore 7, 2) := by decide +kernel
theorem dX6_runs_335 : decode cX6_runs 335 = .ok (.aload_n 0, 1) := by decide +kernel
theorem dX6_runs_336 : decode cX6_runs 336 = .ok (.getfield 61, 3) := by decide +kernel
theorem dX6_runs_339 : decode cX6_runs 339 = .ok (.iload 6, 2) := by decide +kernel
theorem dX6_runs_341 : decode cX6_runs 341 = .ok (.aaload, 1) := by decide +kernel
theorem dX6_runs_342 : decode cX6_runs 342 = .ok (.iload 8, 2) := by decide +kernel
theorem dX6_runs_344 : decode cX6_runs 344 = .ok (.aload_n 0, 1) := by decide +kernel
theorem dX6_runs_345 : decode cX6_runs 345 = .ok (.getfield 52, 3) := by decide +kernel
theorem dX6_runs_348 : decode cX6_runs 348 = .ok (.iload 8, 2) := by decide +kernel
theorem dX6_runs_350 : decode cX6_runs 350 = .ok (.iaload, 1) := by decide +kernel
theorem dX6_runs_351 : decode cX6_runs 351 = .ok (.iastore, 1) := by decide +kernel
theorem dX6_runs_352 : decode cX6_runs 352 = .ok (.aload_n 0, 1) := by decide +kernel
theorem dX6_runs_353 : decode cX6_runs 353 = .ok (.getfield 64, 3) := by decide +kernel
theorem dX6_runs_356 : decode cX6_runs 356 = .ok (.iload 6, 2) := by decide +kernel
theorem dX6_runs_358 : decode cX6_runs 358 = .ok (.aaload, 1) := by decide +kernel
theorem dX6_runs_359 : decode cX6_runs 359 = .ok (.iload 8, 2) := by decide +kernel
theorem dX6_runs_361 : decode cX6_runs 361 = .ok (.aload_n 0, 1) := by decide +kernel
theorem dX6_runs_362 : decode cX6_runs 362 = .ok (.getfield 55, 3) := by decide +kernel
theorem dX6_runs_365 : decode cX6_runs 365 = .ok (.iload 8, 2) := by decide +kernel
theorem dX6_runs_367 : decode cX6_runs 367 = .ok (.iaload, 1) := by decide +kernel
theorem dX6_runs_368 : decode cX6_runs 368 = .ok (.iastore, 1) := by decide +kernel
theorem dX6_runs_369 : decode cX6_runs 369 = .ok (.iinc 8 1, 3) := by decide +kernel
theorem dX6_runs_372 : decode cX6_runs 372 = .ok (.goto (-121), 3) := by decide +kernel
theorem dX6_runs_375 : decode cX6_runs 375 = .ok (.iload 7, 2) := by decide +kernel
theorem dX6_runs_377 : decode cX6_runs 377 = .ok (.aload_n 0, 1) := by decide +kernel
theorem dX6_runs_378 : decode cX6_runs 378 = .ok (.getfield 49, 3) := by decide +kernel
theorem dX6_runs_381 : decode cX6_runs 381 = .ok (.bipush 7, 2) := by decide +kernel
theorem dX6_runs_383 : decode cX6_runs 383 = .ok (.iaload, 1) := by decide +kernel
theorem dX6_runs_384 : decode cX6_runs 384 = .ok (.if_icmp .ge 38, 3) := by decide +kernel
theorem dX6_runs_387 : decode cX6_runs 387 = .ok (.iconst 0, 1) := by decide +kernel
theorem dX6_runs_388 : decode cX6_runs 388 = .ok (.iload 5, 2) := by decide +kernel
theorem dX6_runs_390 : decode cX6_runs 390 = .ok (.aload_n 0, 1) := by decide +kernel
theorem dX6_runs_391 : decode cX6_runs 391 = .ok (.getfield 49, 3) := by decide +kernel
theorem dX6_runs_394 : decode cX6_runs 394 = .ok (.bipush 8, 2) := by decide +kernel
theorem dX6_runs_396 : decode cX6_runs 396 = .ok (.iaload, 1) := by decide +kernel
theorem dX6_runs_397 : decode cX6_runs 397 = .ok (.isub, 1) := by decide +kernel
theorem dX6_runs_398 : decode cX6_runs 398 = .ok (.invokestatic 264, 3) := by decide +kernel
theorem dX6_runs_401 : decode cX6_runs 401 = .ok (.istore 5, 2) := by decide +kernel
theorem dX6_runs_403 : decode cX6_runs 403 = .ok (.iload 5, 2) := by decide +kernel
theorem dX6_runs_405 : decode cX6_runs 405 = .ok (.ifCond .ne 17, 3) := by decide +kernel
theorem dX6_runs_408 : decode cX6_runs 408 = .ok (.aload_n 0, 1) := by decide +kernel
theorem dX6_runs_409 : decode cX6_runs 409 = .ok (.getfield 246, 3) := by decide +kernel
theorem dX6_runs_412 : decode cX6_runs 412 = .ok (.iconst (-1), 1) := by decide +kernel
theorem dX6_runs_413 : decode cX6_runs 413 = .ok (.if_icmp .ne 9, 3) := by decide +kernel
theorem dX6_runs_416 : decode cX6_runs 416 = .ok (.aload_n 0, 1) := by decide +kernel
theorem dX6_runs_417 : decode cX6_runs 417 = .ok (.iload 6, 2) := by decide +kernel
theorem dX6_runs_419 : decode cX6_runs 419 = .ok (.putfield 246, 3) := by decide +kernel
theorem dX6_runs_422 : decode cX6_runs 422 = .ok (.aload_n 0, 1) := by decide +kernel
theorem dX6_runs_423 : decode cX6_runs 423 = .ok (.getfield 73, 3) := by decide +kernel
theorem dX6_runs_426 : decode cX6_runs 426 = .ok (.iload 6, 2) := by decide +kernel
theorem dX6_runs_428 : decode cX6_runs 428 = .ok (.iload_n 2, 1) := by decide +kernel
theorem dX6_runs_429 : decode cX6_runs 429 = .ok (.iastore, 1) := by decide +kernel
theorem dX6_runs_430 : decode cX6_runs 430 = .ok (.aload_n 0, 1) := by decide +kernel
theorem dX6_runs_431 : decode cX6_runs 431 = .ok (.getfield 76, 3) := by decide +kernel
theorem dX6_runs_434 : decode cX6_runs 434 = .ok (.iload 6, 2) := by decide +kernel
theorem dX6_runs_436 : decode cX6_runs 436 = .ok (.iload_n 3, 1) := by decide +kernel
theorem dX6_runs_437 : decode cX6_runs 437 = .ok (.iastore, 1) := by decide +kernel
theorem dX6_runs_438 : decode cX6_runs 438 = .ok (.aload_n 0, 1) := by decide +kernel
theorem dX6_runs_439 : decode cX6_runs 439 = .ok (.getfield 79, 3) := by decide +kernel
theorem dX6_runs_442 : decode cX6_runs 442 = .ok (.iload 6, 2) := by decide +kernel
theorem dX6_runs_444 : decode cX6_runs 444 = .ok (.iload 4, 2) := by decide +kernel
theorem dX6_runs_446 : decode cX6_runs 446 = .ok (.iastore, 1) := by decide +kernel
theorem dX6_runs_447 : decode cX6_runs 447 = .ok (.aload_n 0, 1) := by decide +kernel
theorem dX6_runs_448 : decode cX6_runs 448 = .ok (.getfield 82, 3) := by decide +kernel
theorem dX6_runs_451 : decode cX6_runs 451 = .ok (.iload 6, 2) := by decide +kernel
theorem dX6_runs_453 : decode cX6_runs 453 = .ok (.iload 5, 2) := by decide +kernel
theorem dX6_runs_455 : decode cX6_runs 455 = .ok (.iastore, 1) := by decide +kernel
theorem dX6_runs_456 : decode cX6_runs 456 = .ok (.iinc 6 1, 3) := by decide +kernel
theorem dX6_runs_459 : decode cX6_runs 459 = .ok (.goto (-425), 3) := by decide +kernel
theorem dX6_runs_462 : decode cX6_runs 462 = .ok (.return_, 1) := by decide +kernel
theorem dX6_lasted_0 : decode cX6_lasted 0 = .ok (.aload_n 0, 1) := by decide +kernel
theorem dX6_lasted_1 : decode cX6_lasted 1 = .ok (.getfield 249, 3) := by decide +kernel
theorem dX6_lasted_4 : decode cX6_lasted 4 = .ok (.iconst (-1), 1) := by decide +kernel
theorem dX6_lasted_5 : decode cX6_lasted 5 = .ok (.if_icmp .eq 22, 3) := by decide +kernel
theorem dX6_lasted_8 : decode cX6_lasted 8 = .ok (.aload_n 0, 1) := by decide +kernel
theorem dX6_lasted_9 : decode cX6_lasted 9 = .ok (.getfield 246, 3) := by decide +kernel
theorem dX6_lasted_12 : decode cX6_lasted 12 = .ok (.iconst (-1), 1) := by decide +kernel
theorem dX6_lasted_13 : decode cX6_lasted 13 = .ok (.if_icmp .eq 14, 3) := by decide +kernel
theorem dX6_lasted_16 : decode cX6_lasted 16 = .ok (.aload_n 0, 1) := by decide +kernel
theorem dX6_lasted_17 : decode cX6_lasted 17 = .ok (.getfield 246, 3) := by decide +kernel
theorem dX6_lasted_20 : decode cX6_lasted 20 = .ok (.aload_n 0, 1) := by decide +kernel
theorem dX6_lasted_21 : decode cX6_lasted 21 = .ok (.getfield 249, 3) := by decide +kernel
theorem dX6_lasted_24 : decode cX6_lasted 24 = .ok (.if_icmp .ge 7, 3) := by decide +kernel
theorem dX6_lasted_27 : decode cX6_lasted 27 = .ok (.iconst (-1), 1) := by decide +kernel
theorem dX6_lasted_28 : decode cX6_lasted 28 = .ok (.goto 12, 3) := by decide +kernel
theorem dX6_lasted_31 : decode cX6_lasted 31 = .ok (.aload_n 0, 1) := by decide +kernel
theorem dX6_lasted_32 : decode cX6_lasted 32 = .ok (.getfield 246, 3) := by decide +kernel
theorem dX6_lasted_35 : decode cX6_lasted 35 = .ok (.aload_n 0, 1) := by decide +kernel
theorem dX6_lasted_36 : decode cX6_lasted 36 = .ok (.getfield 249, 3) := by decide +kernel
theorem dX6_lasted_39 : decode cX6_lasted 39 = .ok (.isub, 1) := by decide +kernel
theorem dX6_lasted_40 : decode cX6_lasted 40 = .ok (.ireturn, 1) := by decide +kernel
theorem dX6_heavy_0 : decode cX6_heavy 0 = .ok (.iconst 0, 1) := by decide +kernel
theorem dX6_heavy_1 : decode cX6_heavy 1 = .ok (.istore_n 2, 1) := by decide +kernel
theorem dX6_heavy_2 : decode cX6_heavy 2 = .ok (.iconst 0, 1) := by decide +kernel
theorem dX6_heavy_3 : decode cX6_heavy 3 = .ok (.istore_n 3, 1) := by decide +kernel
theorem dX6_heavy_4 : decode cX6_heavy 4 = .ok (.iload_n 3, 1) := by decide +kernel
theorem dX6_heavy_5 : decode cX6_heavy 5 = .ok (.bipush 8, 2) := by decide +kernel
theorem dX6_heavy_7 : decode cX6_heavy 7 = .ok (.if_icmp .ge 37, 3) := by decide +kernel
theorem dX6_heavy_10 : decode cX6_heavy 10 = .ok (.iload_n 2, 1) := by decide +kernel
theorem dX6_heavy_11 : decode cX6_heavy 11 = .ok (.iload_n 3, 1) := by decide +kernel
theorem dX6_heavy_12 : decode cX6_heavy 12 = .ok (.iconst 4, 1) := by decide +kernel
theorem dX6_heavy_13 : decode cX6_heavy 13 = .ok (.if_icmp .ge 14, 3) := by decide +kernel
theorem dX6_heavy_16 : decode cX6_heavy 16 = .ok (.aload_n 0, 1) := by decide +kernel
theorem dX6_heavy_17 : decode cX6_heavy 17 = .ok (.getfield 61, 3) := by decide +kernel
theorem dX6_heavy_20 : decode cX6_heavy 20 = .ok (.iload_n 1, 1) := by decide +kernel
theorem dX6_heavy_21 : decode cX6_heavy 21 = .ok (.aaload, 1) := by decide +kernel
theorem dX6_heavy_22 : decode cX6_heavy 22 = .ok (.iload_n 3, 1) := by decide +kernel
theorem dX6_heavy_23 : decode cX6_heavy 23 = .ok (.iaload, 1) := by decide +kernel
theorem dX6_heavy_24 : decode cX6_heavy 24 = .ok (.goto 12, 3) := by decide +kernel
theorem dX6_heavy_27 : decode cX6_heavy 27 = .ok (.aload_n 0, 1) := by decide +kernel
theorem dX6_heavy_28 : decode cX6_heavy 28 = .ok (.getfield 61, 3) := by decide +kernel
theorem dX6_heavy_31 : decode cX6_heavy 31 = .ok (.iload_n 1, 1) := by decide +kernel
theorem dX6_heavy_32 : decode cX6_heavy 32 = .ok (.aaload, 1) := by decide +kernel
theorem dX6_heavy_33 : decode cX6_heavy 33 = .ok (.iload_n 3, 1) := by decide +kernel
theorem dX6_heavy_34 : decode cX6_heavy 34 = .ok (.iaload, 1) := by decide +kernel
theorem dX6_heavy_35 : decode cX6_heavy 35 = .ok (.ineg, 1) := by decide +kernel
theorem dX6_heavy_36 : decode cX6_heavy 36 = .ok (.iadd, 1) := by decide +kernel
theorem dX6_heavy_37 : decode cX6_heavy 37 = .ok (.istore_n 2, 1) := by decide +kernel
theorem dX6_heavy_38 : decode cX6_heavy 38 = .ok (.iinc 3 1, 3) := by decide +kernel
theorem dX6_heavy_41 : decode cX6_heavy 41 = .ok (.goto (-37), 3) := by decide +kernel
theorem dX6_heavy_44 : decode cX6_heavy 44 = .ok (.iload_n 2, 1) := by decide +kernel
theorem dX6_heavy_45 : decode cX6_heavy 45 = .ok (.ireturn, 1) := by decide +kernel
theorem dX6_state_0 : decode cX6_state 0 = .ok (.aload_n 0, 1) := by decide +kernel
theorem dX6_state_1 : decode cX6_state 1 = .ok (.iconst 0, 1) := by decide +kernel
theorem dX6_state_2 : decode cX6_state 2 = .ok (.putfield 113, 3) := by decide +kernel
theorem dX6_state_5 : decode cX6_state 5 = .ok (.aload_n 0, 1) := by decide +kernel
theorem dX6_state_6 : decode cX6_state 6 = .ok (.aload_n 0, 1) := by decide +kernel
theorem dX6_state_7 : decode cX6_state 7 = .ok (.iload_n 1, 1) := by decide +kernel
theorem dX6_state_8 : decode cX6_state 8 = .ok (.invokevirtual 234, 3) := by decide +kernel
theorem dX6_state_11 : decode cX6_state 11 = .ok (.ifCond .ne 7, 3) := by decide +kernel
theorem dX6_state_14 : decode cX6_state 14 = .ok (.iconst 1, 1) := by decide +kernel
theorem dX6_state_15 : decode cX6_state 15 = .ok (.goto 4, 3) := by decide +kernel
theorem dX6_state_18 : decode cX6_state 18 = .ok (.iconst 0, 1) := by decide +kernel
theorem dX6_state_19 : decode cX6_state 19 = .ok (.iconst 1, 1) := by decide +kernel
theorem dX6_state_20 : decode cX6_state 20 = .ok (.invokevirtual 220, 3) := by decide +kernel
theorem dX6_state_23 : decode cX6_state 23 = .ok (.ifCond .ne 36, 3) := by decide +kernel
theorem dX6_state_26 : decode cX6_state 26 = .ok (.aload_n 0, 1) := by decide +kernel
theorem dX6_state_27 : decode cX6_state 27 = .ok (.iload_n 2, 1) := by decide +kernel
theorem dX6_state_28 : decode cX6_state 28 = .ok (.iconst 0, 1) := by decide +kernel
theorem dX6_state_29 : decode cX6_state 29 = .ok (.bipush 99, 2) := by decide +kernel
theorem dX6_state_31 : decode cX6_state 31 = .ok (.invokestatic 150, 3) := by decide +kernel
theorem dX6_state_34 : decode cX6_state 34 = .ok (.ifCond .eq 13, 3) := by decide +kernel
theorem dX6_state_37 : decode cX6_state 37 = .ok (.iload_n 3, 1) := by decide +kernel
theorem dX6_state_38 : decode cX6_state 38 = .ok (.iconst 0, 1) := by decide +kernel
theorem dX6_state_39 : decode cX6_state 39 = .ok (.bipush 7, 2) := by decide +kernel
theorem dX6_state_41 : decode cX6_state 41 = .ok (.invokestatic 150, 3) := by decide +kernel
theorem dX6_state_44 : decode cX6_state 44 = .ok (.ifCond .ne 7, 3) := by decide +kernel
theorem dX6_state_47 : decode cX6_state 47 = .ok (.iconst 1, 1) := by decide +kernel
theorem dX6_state_48 : decode cX6_state 48 = .ok (.goto 4, 3) := by decide +kernel
theorem dX6_state_51 : decode cX6_state 51 = .ok (.iconst 0, 1) := by decide +kernel
theorem dX6_state_52 : decode cX6_state 52 = .ok (.iconst 2, 1) := by decide +kernel
theorem dX6_state_53 : decode cX6_state 53 = .ok (.invokevirtual 220, 3) := by decide +kernel
theorem dX6_state_56 : decode cX6_state 56 = .ok (.ifCond .eq 5, 3) := by decide +kernel
theorem dX6_state_59 : decode cX6_state 59 = .ok (.iconst 0, 1) := by decide +kernel
theorem dX6_state_60 : decode cX6_state 60 = .ok (.ireturn, 1) := by decide +kernel
theorem dX6_state_61 : decode cX6_state 61 = .ok (.aload_n 0, 1) := by decide +kernel
theorem dX6_state_62 : decode cX6_state 62 = .ok (.iload_n 1, 1) := by decide +kernel
theorem dX6_state_63 : decode cX6_state 63 = .ok (.invokevirtual 279, 3) := by decide +kernel
theorem dX6_state_66 : decode cX6_state 66 = .ok (.iconst 0, 1) := by decide +kernel
theorem dX6_state_67 : decode cX6_state 67 = .ok (.istore 4, 2) := by decide +kernel
theorem dX6_state_69 : decode cX6_state 69 = .ok (.iconst 0, 1) := by decide +kernel
theorem dX6_state_70 : decode cX6_state 70 = .ok (.istore 5, 2) := by decide +kernel
theorem dX6_state_72 : decode cX6_state 72 = .ok (.iload 5, 2) := by decide +kernel
theorem dX6_state_74 : decode cX6_state 74 = .ok (.bipush 8, 2) := by decide +kernel
theorem dX6_state_76 : decode cX6_state 76 = .ok (.if_icmp .ge 29, 3) := by decide +kernel
theorem dX6_state_79 : decode cX6_state 79 = .ok (.iload 4, 2) := by decide +kernel
theorem dX6_state_81 : decode cX6_state 81 = .ok (.aload_n 0, 1) := by decide +kernel
theorem dX6_state_82 : decode cX6_state 82 = .ok (.iload 5, 2) := by decide +kernel
theorem dX6_state_84 : decode cX6_state 84 = .ok (.iload_n 2, 1) := by decide +kernel
theorem dX6_state_85 : decode cX6_state 85 = .ok (.invokevirtual 282, 3) := by decide +kernel
theorem dX6_state_88 : decode cX6_state 88 = .ok (.ifCond .eq 7, 3) := by decide +kernel
theorem dX6_state_91 : decode cX6_state 91 = .ok (.iconst 1, 1) := by decide +kernel
theorem dX6_state_92 : decode cX6_state 92 = .ok (.goto 4, 3) := by decide +kernel
theorem dX6_state_95 : decode cX6_state 95 = .ok (.iconst 0, 1) := by decide +kernel
theorem dX6_state_96 : decode cX6_state 96 = .ok (.iadd, 1) := by decide +kernel
theorem dX6_state_97 : decode cX6_state 97 = .ok (.istore 4, 2) := by decide +kernel
theorem dX6_state_99 : decode cX6_state 99 = .ok (.iinc 5 1, 3) := by decide +kernel
theorem dX6_state_102 : decode cX6_state 102 = .ok (.goto (-30), 3) := by decide +kernel
theorem dX6_state_105 : decode cX6_state 105 = .ok (.iload_n 3, 1) := by decide +kernel
theorem dX6_state_106 : decode cX6_state 106 = .ok (.tableswitch 96 0 6 #[42, 49, 56, 63, 77, 84, 90], 42) := by decide +kernel
theorem dX6_state_148 : decode cX6_state 148 = .ok (.aload_n 0, 1) := by decide +kernel
theorem dX6_state_149 : decode cX6_state 149 = .ok (.getfield 73, 3) := by decide +kernel
theorem dX6_state_152 : decode cX6_state 152 = .ok (.iload_n 2, 1) := by decide +kernel
theorem dX6_state_153 : decode cX6_state 153 = .ok (.iaload, 1) := by decide +kernel
theorem dX6_state_154 : decode cX6_state 154 = .ok (.ireturn, 1) := by decide +kernel
theorem dX6_state_155 : decode cX6_state 155 = .ok (.aload_n 0, 1) := by decide +kernel
theorem dX6_state_156 : decode cX6_state 156 = .ok (.getfield 76, 3) := by decide +kernel
theorem dX6_state_159 : decode cX6_state 159 = .ok (.iload_n 2, 1) := by decide +kernel
theorem dX6_state_160 : decode cX6_state 160 = .ok (.iaload, 1) := by decide +kernel
theorem dX6_state_161 : decode cX6_state 161 = .ok (.ireturn, 1) := by decide +kernel
theorem dX6_state_162 : decode cX6_state 162 = .ok (.aload_n 0, 1) := by decide +kernel
theorem dX6_state_163 : decode cX6_state 163 = .ok (.getfield 79, 3) := by decide +kernel
theorem dX6_state_166 : decode cX6_state 166 = .ok (.iload_n 2, 1) := by decide +kernel
theorem dX6_state_167 : decode cX6_state 167 = .ok (.iaload, 1) := by decide +kernel
theorem dX6_state_168 : decode cX6_state 168 = .ok (.ireturn, 1) := by decide +kernel
theorem dX6_state_169 : decode cX6_state 169 = .ok (.aload_n 0, 1) := by decide +kernel
theorem dX6_state_170 : decode cX6_state 170 = .ok (.getfield 76, 3) := by decide +kernel
theorem dX6_state_173 : decode cX6_state 173 = .ok (.iload_n 2, 1) := by decide +kernel
theorem dX6_state_174 : decode cX6_state 174 = .ok (.iaload, 1) := by decide +kernel
theorem dX6_state_175 : decode cX6_state 175 = .ok (.aload_n 0, 1) := by decide +kernel
theorem dX6_state_176 : decode cX6_state 176 = .ok (.getfield 79, 3) := by decide +kernel
theorem dX6_state_179 : decode cX6_state 179 = .ok (.iload_n 2, 1) := by decide +kernel
theorem dX6_state_180 : decode cX6_state 180 = .ok (.iaload, 1) := by decide +kernel
theorem dX6_state_181 : decode cX6_state 181 = .ok (.isub, 1) := by decide +kernel
theorem dX6_state_182 : decode cX6_state 182 = .ok (.ireturn, 1) := by decide +kernel
theorem dX6_state_183 : decode cX6_state 183 = .ok (.aload_n 0, 1) := by decide +kernel
theorem dX6_state_184 : decode cX6_state 184 = .ok (.getfield 82, 3) := by decide +kernel
theorem dX6_state_187 : decode cX6_state 187 = .ok (.iload_n 2, 1) := by decide +kernel
theorem dX6_state_188 : decode cX6_state 188 = .ok (.iaload, 1) := by decide +kernel
theorem dX6_state_189 : decode cX6_state 189 = .ok (.ireturn, 1) := by decide +kernel
theorem dX6_state_190 : decode cX6_state 190 = .ok (.aload_n 0, 1) := by decide +kernel
theorem dX6_state_191 : decode cX6_state 191 = .ok (.iload_n 2, 1) := by decide +kernel
theorem dX6_state_192 : decode cX6_state 192 = .ok (.invokevirtual 285, 3) := by decide +kernel
theorem dX6_state_195 : decode cX6_state 195 = .ok (.ireturn, 1) := by decide +kernel
theorem dX6_state_196 : decode cX6_state 196 = .ok (.aload_n 0, 1) := by decide +kernel
theorem dX6_state_197 : decode cX6_state 197 = .ok (.iload_n 2, 1) := by decide +kernel
theorem dX6_state_198 : decode cX6_state 198 = .ok (.invokevirtual 288, 3) := by decide +kernel
theorem dX6_state_201 : decode cX6_state 201 = .ok (.ireturn, 1) := by decide +kernel
theorem dX6_state_202 : decode cX6_state 202 = .ok (.iload 4, 2) := by decide +kernel
theorem dX6_state_204 : decode cX6_state 204 = .ok (.ireturn, 1) := by decide +kernel
theorem dX6_cell_0 : decode cX6_cell 0 = .ok (.aload_n 0, 1) := by decide +kernel
theorem dX6_cell_1 : decode cX6_cell 1 = .ok (.iconst 0, 1) := by decide +kernel
theorem dX6_cell_2 : decode cX6_cell 2 = .ok (.putfield 113, 3) := by decide +kernel
theorem dX6_cell_5 : decode cX6_cell 5 = .ok (.aload_n 0, 1) := by decide +kernel
theorem dX6_cell_6 : decode cX6_cell 6 = .ok (.aload_n 0, 1) := by decide +kernel
theorem dX6_cell_7 : decode cX6_cell 7 = .ok (.iload_n 1, 1) := by decide +kernel
theorem dX6_cell_8 : decode cX6_cell 8 = .ok (.invokevirtual 234, 3) := by decide +kernel
theorem dX6_cell_11 : decode cX6_cell 11 = .ok (.ifCond .ne 7, 3) := by decide +kernel
theorem dX6_cell_14 : decode cX6_cell 14 = .ok (.iconst 1, 1) := by decide +kernel
theorem dX6_cell_15 : decode cX6_cell 15 = .ok (.goto 4, 3) := by decide +kernel
theorem dX6_cell_18 : decode cX6_cell 18 = .ok (.iconst 0, 1) := by decide +kernel
theorem dX6_cell_19 : decode cX6_cell 19 = .ok (.iconst 1, 1) := by decide +kernel
theorem dX6_cell_20 : decode cX6_cell 20 = .ok (.invokevirtual 220, 3) := by decide +kernel
theorem dX6_cell_23 : decode cX6_cell 23 = .ok (.ifCond .ne 59, 3) := by decide +kernel
theorem dX6_cell_26 : decode cX6_cell 26 = .ok (.aload_n 0, 1) := by decide +kernel
theorem dX6_cell_27 : decode cX6_cell 27 = .ok (.iload_n 3, 1) := by decide +kernel
theorem dX6_cell_28 : decode cX6_cell 28 = .ok (.iconst 0, 1) := by decide +kernel
theorem dX6_cell_29 : decode cX6_cell 29 = .ok (.bipush 7, 2) := by decide +kernel
theorem dX6_cell_31 : decode cX6_cell 31 = .ok (.invokestatic 150, 3) := by decide +kernel
theorem dX6_cell_34 : decode cX6_cell 34 = .ok (.ifCond .ne 7, 3) := by decide +kernel
theorem dX6_cell_37 : decode cX6_cell 37 = .ok (.iconst 1, 1) := by decide +kernel
theorem dX6_cell_38 : decode cX6_cell 38 = .ok (.goto 4, 3) := by decide +kernel
theorem dX6_cell_41 : decode cX6_cell 41 = .ok (.iconst 0, 1) := by decide +kernel
theorem dX6_cell_42 : decode cX6_cell 42 = .ok (.iconst 2, 1) := by decide +kernel
theorem dX6_cell_43 : decode cX6_cell 43 = .ok (.invokevirtual 220, 3) := by decide +kernel
theorem dX6_cell_46 : decode cX6_cell 46 = .ok (.ifCond .ne 36, 3) := by decide +kernel
theorem dX6_cell_49 : decode cX6_cell 49 = .ok (.aload_n 0, 1) := by decide +kernel
theorem dX6_cell_50 : decode cX6_cell 50 = .ok (.iload_n 2, 1) := by decide +kernel
theorem dX6_cell_51 : decode cX6_cell 51 = .ok (.iconst 0, 1) := by decide +kernel
theorem dX6_cell_52 : decode cX6_cell 52 = .ok (.bipush 99, 2) := by decide +kernel
theorem dX6_cell_54 : decode cX6_cell 54 = .ok (.invokestatic 150, 3) := by decide +kernel
theorem dX6_cell_57 : decode cX6_cell 57 = .ok (.ifCond .eq 13, 3) := by decide +kernel
theorem dX6_cell_60 : decode cX6_cell 60 = .ok (.iload 4, 2) := by decide +kernel
theorem dX6_cell_62 : decode cX6_cell 62 = .ok (.iconst 0, 1) := by decide +kernel
theorem dX6_cell_63 : decode cX6_cell 63 = .ok (.iconst 2, 1) := by decide +kernel
theorem dX6_cell_64 : decode cX6_cell 64 = .ok (.invokestatic 150, 3) := by decide +kernel
theorem dX6_cell_67 : decode cX6_cell 67 = .ok (.ifCond .ne 7, 3) := by decide +kernel
theorem dX6_cell_70 : decode cX6_cell 70 = .ok (.iconst 1, 1) := by decide +kernel
theorem dX6_cell_71 : decode cX6_cell 71 = .ok (.goto 4, 3) := by decide +kernel
theorem dX6_cell_74 : decode cX6_cell 74 = .ok (.iconst 0, 1) := by decide +kernel
theorem dX6_cell_75 : decode cX6_cell 75 = .ok (.iconst 3, 1) := by decide +kernel
theorem dX6_cell_76 : decode cX6_cell 76 = .ok (.invokevirtual 220, 3) := by decide +kernel
theorem dX6_cell_79 : decode cX6_cell 79 = .ok (.ifCond .eq 5, 3) := by decide +kernel
theorem dX6_cell_82 : decode cX6_cell 82 = .ok (.iconst 0, 1) := by decide +kernel
theorem dX6_cell_83 : decode cX6_cell 83 = .ok (.ireturn, 1) := by decide +kernel
theorem dX6_cell_84 : decode cX6_cell 84 = .ok (.aload_n 0, 1) := by decide +kernel
theorem dX6_cell_85 : decode cX6_cell 85 = .ok (.iload_n 1, 1) := by decide +kernel
theorem dX6_cell_86 : decode cX6_cell 86 = .ok (.invokevirtual 279, 3) := by decide +kernel
theorem dX6_cell_89 : decode cX6_cell 89 = .ok (.iload 4, 2) := by decide +kernel
theorem dX6_cell_91 : decode cX6_cell 91 = .ok (.ifCond .ne 14, 3) := by decide +kernel
theorem dX6_cell_94 : decode cX6_cell 94 = .ok (.aload_n 0, 1) := by decide +kernel
theorem dX6_cell_95 : decode cX6_cell 95 = .ok (.getfield 61, 3) := by decide +kernel
theorem dX6_cell_98 : decode cX6_cell 98 = .ok (.iload_n 2, 1) := by decide +kernel
theorem dX6_cell_99 : decode cX6_cell 99 = .ok (.aaload, 1) := by decide +kernel
theorem dX6_cell_100 : decode cX6_cell 100 = .ok (.iload_n 3, 1) := by decide +kernel
theorem dX6_cell_101 : decode cX6_cell 101 = .ok (.iaload, 1) := by decide +kernel
theorem dX6_cell_102 : decode cX6_cell 102 = .ok (.goto 39, 3) := by decide +kernel
theorem dX6_cell_105 : decode cX6_cell 105 = .ok (.iload 4, 2) := by decide +kernel
theorem dX6_cell_107 : decode cX6_cell 107 = .ok (.iconst 1, 1) := by decide +kernel
theorem dX6_cell_108 : decode cX6_cell 108 = .ok (.if_icmp .ne 14, 3) := by decide +kernel
theorem dX6_cell_111 : decode cX6_cell 111 = .ok (.aload_n 0, 1) := by decide +kernel
theorem dX6_cell_112 : decode cX6_cell 112 = .ok (.getfield 64, 3) := by decide +kernel
theorem dX6_cell_115 : decode cX6_cell 115 = .ok (.iload_n 2, 1) := by decide +kernel
theorem dX6_cell_116 : decode cX6_cell 116 = .ok (.aaload, 1) := by decide +kernel
theorem dX6_cell_117 : decode cX6_cell 117 = .ok (.iload_n 3, 1) := by decide +kernel
theorem dX6_cell_118 : decode cX6_cell 118 = .ok (.iaload, 1) := by decide +kernel
theorem dX6_cell_119 : decode cX6_cell 119 = .ok (.goto 22, 3) := by decide +kernel
theorem dX6_cell_122 : decode cX6_cell 122 = .ok (.aload_n 0, 1) := by decide +kernel
theorem dX6_cell_123 : decode cX6_cell 123 = .ok (.iload_n 3, 1) := by decide +kernel
theorem dX6_cell_124 : decode cX6_cell 124 = .ok (.iload_n 2, 1) := by decide +kernel
theorem dX6_cell_125 : decode cX6_cell 125 = .ok (.invokevirtual 282, 3) := by decide +kernel
theorem dX6_cell_128 : decode cX6_cell 128 = .ok (.ifCond .eq 12, 3) := by decide +kernel
theorem dX6_cell_131 : decode cX6_cell 131 = .ok (.aload_n 0, 1) := by decide +kernel
theorem dX6_cell_132 : decode cX6_cell 132 = .ok (.getfield 58, 3) := by decide +kernel
theorem dX6_cell_135 : decode cX6_cell 135 = .ok (.iload_n 3, 1) := by decide +kernel
theorem dX6_cell_136 : decode cX6_cell 136 = .ok (.iaload, 1) := by decide +kernel
theorem dX6_cell_137 : decode cX6_cell 137 = .ok (.goto 4, 3) := by decide +kernel
theorem dX6_cell_140 : decode cX6_cell 140 = .ok (.iconst (-1), 1) := by decide +kernel
theorem dX6_cell_141 : decode cX6_cell 141 = .ok (.ireturn, 1) := by decide +kernel
theorem dX6_run_0 : decode cX6_run 0 = .ok (.aload_n 0, 1) := by decide +kernel
theorem dX6_run_1 : decode cX6_run 1 = .ok (.iconst 0, 1) := by decide +kernel
theorem dX6_run_2 : decode cX6_run 2 = .ok (.putfield 113, 3) := by decide +kernel
theorem dX6_run_5 : decode cX6_run 5 = .ok (.aload_n 0, 1) := by decide +kernel
theorem dX6_run_6 : decode cX6_run 6 = .ok (.aload_n 0, 1) := by decide +kernel
theorem dX6_run_7 : decode cX6_run 7 = .ok (.iload_n 1, 1) := by decide +kernel
theorem dX6_run_8 : decode cX6_run 8 = .ok (.invokevirtual 234, 3) := by decide +kernel
theorem dX6_run_11 : decode cX6_run 11 = .ok (.ifCond .ne 7, 3) := by decide +kernel
theorem dX6_run_14 : decode cX6_run 14 = .ok (.iconst 1, 1) := by decide +kernel
theorem dX6_run_15 : decode cX6_run 15 = .ok (.goto 4, 3) := by decide +kernel
theorem dX6_run_18 : decode cX6_run 18 = .ok (.iconst 0, 1) := by decide +kernel
theorem dX6_run_19 : decode cX6_run 19 = .ok (.iconst 1, 1) := by decide +kernel
theorem dX6_run_20 : decode cX6_run 20 = .ok (.invokevirtual 220, 3) := by decide +kernel
theorem dX6_run_23 : decode cX6_run 23 = .ok (.ifCond .ne 25, 3) := by decide +kernel
theorem dX6_run_26 : decode cX6_run 26 = .ok (.aload_n 0, 1) := by decide +kernel
theorem dX6_run_27 : decode cX6_run 27 = .ok (.iload_n 2, 1) := by decide +kernel
theorem dX6_run_28 : decode cX6_run 28 = .ok (.iconst 0, 1) := by decide +kernel
theorem dX6_run_29 : decode cX6_run 29 = .ok (.iconst 3, 1) := by decide +kernel
theorem dX6_run_30 : decode cX6_run 30 = .ok (.invokestatic 150, 3) := by decide +kernel
theorem dX6_run_33 : decode cX6_run 33 = .ok (.ifCond .ne 7, 3) := by decide +kernel
theorem dX6_run_36 : decode cX6_run 36 = .ok (.iconst 1, 1) := by decide +kernel
theorem dX6_run_37 : decode cX6_run 37 = .ok (.goto 4, 3) := by decide +kernel
theorem dX6_run_40 : decode cX6_run 40 = .ok (.iconst 0, 1) := by decide +kernel
theorem dX6_run_41 : decode cX6_run 41 = .ok (.iconst 2, 1) := by decide +kernel
theorem dX6_run_42 : decode cX6_run 42 = .ok (.invokevirtual 220, 3) := by decide +kernel
theorem dX6_run_45 : decode cX6_run 45 = .ok (.ifCond .eq 5, 3) := by decide +kernel
theorem dX6_run_48 : decode cX6_run 48 = .ok (.iconst 0, 1) := by decide +kernel
theorem dX6_run_49 : decode cX6_run 49 = .ok (.ireturn, 1) := by decide +kernel
theorem dX6_run_50 : decode cX6_run 50 = .ok (.aload_n 0, 1) := by decide +kernel
theorem dX6_run_51 : decode cX6_run 51 = .ok (.iload_n 1, 1) := by decide +kernel
theorem dX6_run_52 : decode cX6_run 52 = .ok (.invokevirtual 279, 3) := by decide +kernel
theorem dX6_run_55 : decode cX6_run 55 = .ok (.iload_n 2, 1) := by decide +kernel
theorem dX6_run_56 : decode cX6_run 56 = .ok (.ifCond .ne 10, 3) := by decide +kernel
theorem dX6_run_59 : decode cX6_run 59 = .ok (.aload_n 0, 1) := by decide +kernel
theorem dX6_run_60 : decode cX6_run 60 = .ok (.getfield 249, 3) := by decide +kernel
theorem dX6_run_63 : decode cX6_run 63 = .ok (.goto 31, 3) := by decide +kernel
theorem dX6_run_66 : decode cX6_run 66 = .ok (.iload_n 2, 1) := by decide +kernel
theorem dX6_run_67 : decode cX6_run 67 = .ok (.iconst 1, 1) := by decide +kernel
theorem dX6_run_68 : decode cX6_run 68 = .ok (.if_icmp .ne 10, 3) := by decide +kernel
theorem dX6_run_71 : decode cX6_run 71 = .ok (.aload_n 0, 1) := by decide +kernel
theorem dX6_run_72 : decode cX6_run 72 = .ok (.getfield 252, 3) := by decide +kernel
theorem dX6_run_75 : decode cX6_run 75 = .ok (.goto 19, 3) := by decide +kernel
theorem dX6_run_78 : decode cX6_run 78 = .ok (.iload_n 2, 1) := by decide +kernel
theorem dX6_run_79 : decode cX6_run 79 = .ok (.iconst 2, 1) := by decide +kernel
theorem dX6_run_80 : decode cX6_run 80 = .ok (.if_icmp .ne 10, 3) := by decide +kernel
theorem dX6_run_83 : decode cX6_run 83 = .ok (.aload_n 0, 1) := by decide +kernel
theorem dX6_run_84 : decode cX6_run 84 = .ok (.getfield 246, 3) := by decide +kernel
theorem dX6_run_87 : decode cX6_run 87 = .ok (.goto 7, 3) := by decide +kernel
theorem dX6_run_90 : decode cX6_run 90 = .ok (.aload_n 0, 1) := by decide +kernel
theorem dX6_run_91 : decode cX6_run 91 = .ok (.invokevirtual 291, 3) := by decide +kernel
theorem dX6_run_94 : decode cX6_run 94 = .ok (.ireturn, 1) := by decide +kernel
theorem dX6_row_0 : decode cX6_row 0 = .ok (.aload_n 0, 1) := by decide +kernel
theorem dX6_row_1 : decode cX6_row 1 = .ok (.iconst 0, 1) := by decide +kernel
theorem dX6_row_2 : decode cX6_row 2 = .ok (.putfield 113, 3) := by decide +kernel
theorem dX6_row_5 : decode cX6_row 5 = .ok (.iload_n 1, 1) := by decide +kernel
theorem dX6_row_6 : decode cX6_row 6 = .ok (.iconst 3, 1) := by decide +kernel
theorem dX6_row_7 : decode cX6_row 7 = .ok (.if_icmp .eq 8, 3) := by decide +kernel
theorem dX6_row_10 : decode cX6_row 10 = .ok (.iload_n 1, 1) := by decide +kernel
theorem dX6_row_11 : decode cX6_row 11 = .ok (.iconst 5, 1) := by decide +kernel
theorem dX6_row_12 : decode cX6_row 12 = .ok (.if_icmp .ne 9, 3) := by decide +kernel
theorem dX6_row_15 : decode cX6_row 15 = .ok (.sipush (-9999), 3) := by decide +kernel
theorem dX6_row_18 : decode cX6_row 18 = .ok (.goto 4, 3) := by decide +kernel
theorem dX6_row_21 : decode cX6_row 21 = .ok (.iconst 0, 1) := by decide +kernel
theorem dX6_row_22 : decode cX6_row 22 = .ok (.istore 6, 2) := by decide +kernel
theorem dX6_row_24 : decode cX6_row 24 = .ok (.iload_n 1, 1) := by decide +kernel
theorem dX6_row_25 : decode cX6_row 25 = .ok (.ifCond .ne 7, 3) := by decide +kernel
theorem dX6_row_28 : decode cX6_row 28 = .ok (.iconst 1, 1) := by decide +kernel
theorem dX6_row_29 : decode cX6_row 29 = .ok (.goto 31, 3) := by decide +kernel
theorem dX6_row_32 : decode cX6_row 32 = .ok (.iload_n 1, 1) := by decide +kernel
theorem dX6_row_33 : decode cX6_row 33 = .ok (.iconst 1, 1) := by decide +kernel
theorem dX6_row_34 : decode cX6_row 34 = .ok (.if_icmp .ne 8, 3) := by decide +kernel
theorem dX6_row_37 : decode cX6_row 37 = .ok (.bipush 7, 2) := by decide +kernel
theorem dX6_row_39 : decode cX6_row 39 = .ok (.goto 21, 3) := by decide +kernel
theorem dX6_row_42 : decode cX6_row 42 = .ok (.iload_n 1, 1) := by decide +kernel
theorem dX6_row_43 : decode cX6_row 43 = .ok (.iconst 2, 1) := by decide +kernel
theorem dX6_row_44 : decode cX6_row 44 = .ok (.if_icmp .eq 8, 3) := by decide +kernel
theorem dX6_row_47 : decode cX6_row 47 = .ok (.iload_n 1, 1) := by decide +kernel
theorem dX6_row_48 : decode cX6_row 48 = .ok (.iconst 4, 1) := by decide +kernel
theorem dX6_row_49 : decode cX6_row 49 = .ok (.if_icmp .ne 8, 3) := by decide +kernel
theorem dX6_row_52 : decode cX6_row 52 = .ok (.bipush 99, 2) := by decide +kernel
theorem dX6_row_54 : decode cX6_row 54 = .ok (.goto 6, 3) := by decide +kernel
theorem dX6_row_57 : decode cX6_row 57 = .ok (.sipush 9999, 3) := by decide +kernel
theorem dX6_row_60 : decode cX6_row 60 = .ok (.istore 7, 2) := by decide +kernel
theorem dX6_row_62 : decode cX6_row 62 = .ok (.aload_n 0, 1) := by decide +kernel
theorem dX6_row_63 : decode cX6_row 63 = .ok (.iload_n 1, 1) := by decide +kernel
theorem dX6_row_64 : decode cX6_row 64 = .ok (.iconst 0, 1) := by decide +kernel
theorem dX6_row_65 : decode cX6_row 65 = .ok (.iconst 5, 1) := by decide +kernel
theorem dX6_row_66 : decode cX6_row 66 = .ok (.invokestatic 150, 3) := by decide +kernel
theorem dX6_row_69 : decode cX6_row 69 = .ok (.ifCond .eq 46, 3) := by decide +kernel
theorem dX6_row_72 : decode cX6_row 72 = .ok (.iload_n 2, 1) := by decide +kernel
theorem dX6_row_73 : decode cX6_row 73 = .ok (.iconst 0, 1) := by decide +kernel
theorem dX6_row_74 : decode cX6_row 74 = .ok (.bipush 99, 2) := by decide +kernel
theorem dX6_row_76 : decode cX6_row 76 = .ok (.invokestatic 150, 3) := by decide +kernel
theorem dX6_row_79 : decode cX6_row 79 = .ok (.ifCond .eq 36, 3) := by decide +kernel
theorem dX6_row_82 : decode cX6_row 82 = .ok (.iload_n 3, 1) := by decide +kernel
theorem dX6_row_83 : decode cX6_row 83 = .ok (.iconst 0, 1) := by decide +kernel
theorem dX6_row_84 : decode cX6_row 84 = .ok (.bipush 7, 2) := by decide +kernel
theorem dX6_row_86 : decode cX6_row 86 = .ok (.invokestatic 150, 3) := by decide +kernel
theorem dX6_row_89 : decode cX6_row 89 = .ok (.ifCond .eq 26, 3) := by decide +kernel
theorem dX6_row_92 : decode cX6_row 92 = .ok (.iload 4, 2) := by decide +kernel
theorem dX6_row_94 : decode cX6_row 94 = .ok (.iload 6, 2) := by decide +kernel
theorem dX6_row_96 : decode cX6_row 96 = .ok (.iload 7, 2) := by decide +kernel
theorem dX6_row_98 : decode cX6_row 98 = .ok (.invokestatic 150, 3) := by decide +kernel
theorem dX6_row_101 : decode cX6_row 101 = .ok (.ifCond .eq 14, 3) := by decide +kernel
theorem dX6_row_104 : decode cX6_row 104 = .ok (.iload 5, 2) := by decide +kernel
theorem dX6_row_106 : decode cX6_row 106 = .ok (.iconst 0, 1) := by decide +kernel
theorem dX6_row_107 : decode cX6_row 107 = .ok (.bipush 8, 2) := by decide +kernel
theorem dX6_row_109 : decode cX6_row 109 = .ok (.invokestatic 150, 3) := by decide +kernel
theorem dX6_row_112 : decode cX6_row 112 = .ok (.ifCond .ne 7, 3) := by decide +kernel
theorem dX6_row_115 : decode cX6_row 115 = .ok (.iconst 1, 1) := by decide +kernel
theorem dX6_row_116 : decode cX6_row 116 = .ok (.goto 4, 3) := by decide +kernel
theorem dX6_row_119 : decode cX6_row 119 = .ok (.iconst 0, 1) := by decide +kernel
theorem dX6_row_120 : decode cX6_row 120 = .ok (.iconst 1, 1) := by decide +kernel
theorem dX6_row_121 : decode cX6_row 121 = .ok (.invokevirtual 220, 3) := by decide +kernel
theorem dX6_row_124 : decode cX6_row 124 = .ok (.ifCond .eq 5, 3) := by decide +kernel
theorem dX6_row_127 : decode cX6_row 127 = .ok (.iconst 0, 1) := by decide +kernel
theorem dX6_row_128 : decode cX6_row 128 = .ok (.ireturn, 1) := by decide +kernel
theorem dX6_row_129 : decode cX6_row 129 = .ok (.aload_n 0, 1) := by decide +kernel
theorem dX6_row_130 : decode cX6_row 130 = .ok (.getfield 294, 3) := by decide +kernel
theorem dX6_row_133 : decode cX6_row 133 = .ok (.bipush 10, 2) := by decide +kernel
theorem dX6_row_135 : decode cX6_row 135 = .ok (.if_icmp .ne 5, 3) := by decide +kernel
theorem dX6_row_138 : decode cX6_row 138 = .ok (.iconst (-1), 1) := by decide +kernel
theorem dX6_row_139 : decode cX6_row 139 = .ok (.ireturn, 1) := by decide +kernel
theorem dX6_row_140 : decode cX6_row 140 = .ok (.aload_n 0, 1) := by decide +kernel
theorem dX6_row_141 : decode cX6_row 141 = .ok (.getfield 97, 3) := by decide +kernel
theorem dX6_row_144 : decode cX6_row 144 = .ok (.aload_n 0, 1) := by decide +kernel
theorem dX6_row_145 : decode cX6_row 145 = .ok (.getfield 294, 3) := by decide +kernel
theorem dX6_row_148 : decode cX6_row 148 = .ok (.aaload, 1) := by decide +kernel
theorem dX6_row_149 : decode cX6_row 149 = .ok (.iconst 0, 1) := by decide +kernel
theorem dX6_row_150 : decode cX6_row 150 = .ok (.iload_n 1, 1) := by decide +kernel
theorem dX6_row_151 : decode cX6_row 151 = .ok (.iastore, 1) := by decide +kernel
theorem dX6_row_152 : decode cX6_row 152 = .ok (.aload_n 0, 1) := by decide +kernel
theorem dX6_row_153 : decode cX6_row 153 = .ok (.getfield 97, 3) := by decide +kernel
theorem dX6_row_156 : decode cX6_row 156 = .ok (.aload_n 0, 1) := by decide +kernel
theorem dX6_row_157 : decode cX6_row 157 = .ok (.getfield 294, 3) := by decide +kernel
theorem dX6_row_160 : decode cX6_row 160 = .ok (.aaload, 1) := by decide +kernel
theorem dX6_row_161 : decode cX6_row 161 = .ok (.iconst 1, 1) := by decide +kernel
theorem dX6_row_162 : decode cX6_row 162 = .ok (.iload_n 2, 1) := by decide +kernel
theorem dX6_row_163 : decode cX6_row 163 = .ok (.iastore, 1) := by decide +kernel
theorem dX6_row_164 : decode cX6_row 164 = .ok (.aload_n 0, 1) := by decide +kernel
theorem dX6_row_165 : decode cX6_row 165 = .ok (.getfield 97, 3) := by decide +kernel
theorem dX6_row_168 : decode cX6_row 168 = .ok (.aload_n 0, 1) := by decide +kernel
theorem dX6_row_169 : decode cX6_row 169 = .ok (.getfield 294, 3) := by decide +kernel
theorem dX6_row_172 : decode cX6_row 172 = .ok (.aaload, 1) := by decide +kernel
theorem dX6_row_173 : decode cX6_row 173 = .ok (.iconst 2, 1) := by decide +kernel
theorem dX6_row_174 : decode cX6_row 174 = .ok (.iload_n 3, 1) := by decide +kernel
theorem dX6_row_175 : decode cX6_row 175 = .ok (.iastore, 1) := by decide +kernel
theorem dX6_row_176 : decode cX6_row 176 = .ok (.aload_n 0, 1) := by decide +kernel
theorem dX6_row_177 : decode cX6_row 177 = .ok (.getfield 97, 3) := by decide +kernel
theorem dX6_row_180 : decode cX6_row 180 = .ok (.aload_n 0, 1) := by decide +kernel
theorem dX6_row_181 : decode cX6_row 181 = .ok (.getfield 294, 3) := by decide +kernel
theorem dX6_row_184 : decode cX6_row 184 = .ok (.aaload, 1) := by decide +kernel
theorem dX6_row_185 : decode cX6_row 185 = .ok (.iconst 3, 1) := by decide +kernel
theorem dX6_row_186 : decode cX6_row 186 = .ok (.iload 4, 2) := by decide +kernel
theorem dX6_row_188 : decode cX6_row 188 = .ok (.iastore, 1) := by decide +kernel
theorem dX6_row_189 : decode cX6_row 189 = .ok (.aload_n 0, 1) := by decide +kernel
theorem dX6_row_190 : decode cX6_row 190 = .ok (.getfield 97, 3) := by decide +kernel
theorem dX6_row_193 : decode cX6_row 193 = .ok (.aload_n 0, 1) := by decide +kernel
theorem dX6_row_194 : decode cX6_row 194 = .ok (.getfield 294, 3) := by decide +kernel
theorem dX6_row_197 : decode cX6_row 197 = .ok (.aaload, 1) := by decide +kernel
theorem dX6_row_198 : decode cX6_row 198 = .ok (.iconst 4, 1) := by decide +kernel
theorem dX6_row_199 : decode cX6_row 199 = .ok (.iload 5, 2) := by decide +kernel
theorem dX6_row_201 : decode cX6_row 201 = .ok (.iastore, 1) := by decide +kernel
theorem dX6_row_202 : decode cX6_row 202 = .ok (.aload_n 0, 1) := by decide +kernel
theorem dX6_row_203 : decode cX6_row 203 = .ok (.getfield 97, 3) := by decide +kernel
theorem dX6_row_206 : decode cX6_row 206 = .ok (.aload_n 0, 1) := by decide +kernel
theorem dX6_row_207 : decode cX6_row 207 = .ok (.getfield 294, 3) := by decide +kernel
theorem dX6_row_210 : decode cX6_row 210 = .ok (.aaload, 1) := by decide +kernel
theorem dX6_row_211 : decode cX6_row 211 = .ok (.iconst 5, 1) := by decide +kernel
theorem dX6_row_212 : decode cX6_row 212 = .ok (.iconst 0, 1) := by decide +kernel
theorem dX6_row_213 : decode cX6_row 213 = .ok (.iastore, 1) := by decide +kernel
theorem dX6_row_214 : decode cX6_row 214 = .ok (.aload_n 0, 1) := by decide +kernel
theorem dX6_row_215 : decode cX6_row 215 = .ok (.dup, 1) := by decide +kernel
theorem dX6_row_216 : decode cX6_row 216 = .ok (.getfield 294, 3) := by decide +kernel
theorem dX6_row_219 : decode cX6_row 219 = .ok (.iconst 1, 1) := by decide +kernel
theorem dX6_row_220 : decode cX6_row 220 = .ok (.iadd, 1) := by decide +kernel
theorem dX6_row_221 : decode cX6_row 221 = .ok (.putfield 294, 3) := by decide +kernel
theorem dX6_row_224 : decode cX6_row 224 = .ok (.aload_n 0, 1) := by decide +kernel
theorem dX6_row_225 : decode cX6_row 225 = .ok (.getfield 294, 3) := by decide +kernel
theorem dX6_row_228 : decode cX6_row 228 = .ok (.iconst 1, 1) := by decide +kernel
theorem dX6_row_229 : decode cX6_row 229 = .ok (.isub, 1) := by decide +kernel
theorem dX6_row_230 : decode cX6_row 230 = .ok (.ireturn, 1) := by decide +kernel
theorem dX6_wrongOf_0 : decode cX6_wrongOf 0 = .ok (.bipush 8, 2) := by decide +kernel
theorem dX6_wrongOf_2 : decode cX6_wrongOf 2 = .ok (.aload_n 0, 1) := by decide +kernel
theorem dX6_wrongOf_3 : decode cX6_wrongOf 3 = .ok (.getfield 97, 3) := by decide +kernel
theorem dX6_wrongOf_6 : decode cX6_wrongOf 6 = .ok (.iload_n 1, 1) := by decide +kernel
theorem dX6_wrongOf_7 : decode cX6_wrongOf 7 = .ok (.aaload, 1) := by decide +kernel
theorem dX6_wrongOf_8 : decode cX6_wrongOf 8 = .ok (.iconst 4, 1) := by decide +kernel
theorem dX6_wrongOf_9 : decode cX6_wrongOf 9 = .ok (.iaload, 1) := by decide +kernel
theorem dX6_wrongOf_10 : decode cX6_wrongOf 10 = .ok (.aload_n 0, 1) := by decide +kernel
theorem dX6_wrongOf_11 : decode cX6_wrongOf 11 = .ok (.getfield 97, 3) := by decide +kernel
theorem dX6_wrongOf_14 : decode cX6_wrongOf 14 = .ok (.iload_n 1, 1) := by decide +kernel
theorem dX6_wrongOf_15 : decode cX6_wrongOf 15 = .ok (.aaload, 1) := by decide +kernel
theorem dX6_wrongOf_16 : decode cX6_wrongOf 16 = .ok (.iconst 5, 1) := by decide +kernel
theorem dX6_wrongOf_17 : decode cX6_wrongOf 17 = .ok (.iaload, 1) := by decide +kernel
theorem dX6_wrongOf_18 : decode cX6_wrongOf 18 = .ok (.bipush 10, 2) := by decide +kernel
theorem dX6_wrongOf_20 : decode cX6_wrongOf 20 = .ok (.idiv, 1) := by decide +kernel
theorem dX6_wrongOf_21 : decode cX6_wrongOf 21 = .ok (.iadd, 1) := by decide +kernel
theorem dX6_wrongOf_22 : decode cX6_wrongOf 22 = .ok (.invokestatic 258, 3) := by decide +kernel
theorem dX6_wrongOf_25 : decode cX6_wrongOf 25 = .ok (.ireturn, 1) := by decide +kernel
theorem dX6_asked_0 : decode cX6_asked 0 = .ok (.aload_n 0, 1) := by decide +kernel
theorem dX6_asked_1 : decode cX6_asked 1 = .ok (.iconst 0, 1) := by decide +kernel
theorem dX6_asked_2 : decode cX6_asked 2 = .ok (.putfield 113, 3) := by decide +kernel
theorem dX6_asked_5 : decode cX6_asked 5 = .ok (.aload_n 0, 1) := by decide +kernel
theorem dX6_asked_6 : decode cX6_asked 6 = .ok (.iload_n 1, 1) := by decide +kernel
theorem dX6_asked_7 : decode cX6_asked 7 = .ok (.iconst 0, 1) := by decide +kernel
theorem dX6_asked_8 : decode cX6_asked 8 = .ok (.aload_n 0, 1) := by decide +kernel
theorem dX6_asked_9 : decode cX6_asked 9 = .ok (.getfield 294, 3) := by decide +kernel
theorem dX6_asked_12 : decode cX6_asked 12 = .ok (.iconst 1, 1) := by decide +kernel
theorem dX6_asked_13 : decode cX6_asked 13 = .ok (.isub, 1) := by decide +kernel
theorem dX6_asked_14 : decode cX6_asked 14 = .ok (.invokestatic 150, 3) := by decide +kernel
theorem dX6_asked_17 : decode cX6_asked 17 = .ok (.ifCond .ne 7, 3) := by decide +kernel
theorem dX6_asked_20 : decode cX6_asked 20 = .ok (.iconst 1, 1) := by decide +kernel
theorem dX6_asked_21 : decode cX6_asked 21 = .ok (.goto 4, 3) := by decide +kernel
theorem dX6_asked_24 : decode cX6_asked 24 = .ok (.iconst 0, 1) := by decide +kernel
theorem dX6_asked_25 : decode cX6_asked 25 = .ok (.iconst 1, 1) := by decide +kernel
theorem dX6_asked_26 : decode cX6_asked 26 = .ok (.invokevirtual 220, 3) := by decide +kernel
theorem dX6_asked_29 : decode cX6_asked 29 = .ok (.ifCond .ne 26, 3) := by decide +kernel
theorem dX6_asked_32 : decode cX6_asked 32 = .ok (.aload_n 0, 1) := by decide +kernel
theorem dX6_asked_33 : decode cX6_asked 33 = .ok (.iload_n 2, 1) := by decide +kernel
theorem dX6_asked_34 : decode cX6_asked 34 = .ok (.iconst 0, 1) := by decide +kernel
theorem dX6_asked_35 : decode cX6_asked 35 = .ok (.bipush 99, 2) := by decide +kernel
theorem dX6_asked_37 : decode cX6_asked 37 = .ok (.invokestatic 150, 3) := by decide +kernel
theorem dX6_asked_40 : decode cX6_asked 40 = .ok (.ifCond .ne 7, 3) := by decide +kernel
theorem dX6_asked_43 : decode cX6_asked 43 = .ok (.iconst 1, 1) := by decide +kernel
theorem dX6_asked_44 : decode cX6_asked 44 = .ok (.goto 4, 3) := by decide +kernel
theorem dX6_asked_47 : decode cX6_asked 47 = .ok (.iconst 0, 1) := by decide +kernel
theorem dX6_asked_48 : decode cX6_asked 48 = .ok (.iconst 2, 1) := by decide +kernel
theorem dX6_asked_49 : decode cX6_asked 49 = .ok (.invokevirtual 220, 3) := by decide +kernel
theorem dX6_asked_52 : decode cX6_asked 52 = .ok (.ifCond .eq 5, 3) := by decide +kernel
theorem dX6_asked_55 : decode cX6_asked 55 = .ok (.iconst 0, 1) := by decide +kernel
theorem dX6_asked_56 : decode cX6_asked 56 = .ok (.ireturn, 1) := by decide +kernel
theorem dX6_asked_57 : decode cX6_asked 57 = .ok (.aload_n 0, 1) := by decide +kernel
theorem dX6_asked_58 : decode cX6_asked 58 = .ok (.getfield 97, 3) := by decide +kernel
theorem dX6_asked_61 : decode cX6_asked 61 = .ok (.iload_n 1, 1) := by decide +kernel
theorem dX6_asked_62 : decode cX6_asked 62 = .ok (.aaload, 1) := by decide +kernel
theorem dX6_asked_63 : decode cX6_asked 63 = .ok (.iconst 5, 1) := by decide +kernel
theorem dX6_asked_64 : decode cX6_asked 64 = .ok (.iload_n 2, 1) := by decide +kernel
theorem dX6_asked_65 : decode cX6_asked 65 = .ok (.iastore, 1) := by decide +kernel
theorem dX6_asked_66 : decode cX6_asked 66 = .ok (.aload_n 0, 1) := by decide +kernel
theorem dX6_asked_67 : decode cX6_asked 67 = .ok (.iload_n 1, 1) := by decide +kernel
theorem dX6_asked_68 : decode cX6_asked 68 = .ok (.invokevirtual 297, 3) := by decide +kernel
theorem dX6_asked_71 : decode cX6_asked 71 = .ok (.ireturn, 1) := by decide +kernel
theorem dX6_isNear_0 : decode cX6_isNear 0 = .ok (.iload_n 0, 1) := by decide +kernel
theorem dX6_isNear_1 : decode cX6_isNear 1 = .ok (.iconst (-1), 1) := by decide +kernel
theorem dX6_isNear_2 : decode cX6_isNear 2 = .ok (.if_icmp .eq 20, 3) := by decide +kernel
theorem dX6_isNear_5 : decode cX6_isNear 5 = .ok (.iload_n 0, 1) := by decide +kernel
theorem dX6_isNear_6 : decode cX6_isNear 6 = .ok (.iload_n 1, 1) := by decide +kernel
theorem dX6_isNear_7 : decode cX6_isNear 7 = .ok (.iconst 1, 1) := by decide +kernel
theorem dX6_isNear_8 : decode cX6_isNear 8 = .ok (.isub, 1) := by decide +kernel
theorem dX6_isNear_9 : decode cX6_isNear 9 = .ok (.iload_n 1, 1) := by decide +kernel
theorem dX6_isNear_10 : decode cX6_isNear 10 = .ok (.iconst 1, 1) := by decide +kernel
theorem dX6_isNear_11 : decode cX6_isNear 11 = .ok (.iadd, 1) := by decide +kernel
theorem dX6_isNear_12 : decode cX6_isNear 12 = .ok (.invokestatic 150, 3) := by decide +kernel
theorem dX6_isNear_15 : decode cX6_isNear 15 = .ok (.ifCond .eq 7, 3) := by decide +kernel
theorem dX6_isNear_18 : decode cX6_isNear 18 = .ok (.iconst 1, 1) := by decide +kernel
theorem dX6_isNear_19 : decode cX6_isNear 19 = .ok (.goto 4, 3) := by decide +kernel
theorem dX6_isNear_22 : decode cX6_isNear 22 = .ok (.iconst 0, 1) := by decide +kernel
theorem dX6_isNear_23 : decode cX6_isNear 23 = .ok (.ireturn, 1) := by decide +kernel
theorem dX6_isSo_0 : decode cX6_isSo 0 = .ok (.aload_n 0, 1) := by decide +kernel
theorem dX6_isSo_1 : decode cX6_isSo 1 = .ok (.getfield 97, 3) := by decide +kernel
theorem dX6_isSo_4 : decode cX6_isSo 4 = .ok (.iload_n 1, 1) := by decide +kernel
theorem dX6_isSo_5 : decode cX6_isSo 5 = .ok (.aaload, 1) := by decide +kernel
theorem dX6_isSo_6 : decode cX6_isSo 6 = .ok (.iconst 1, 1) := by decide +kernel
theorem dX6_isSo_7 : decode cX6_isSo 7 = .ok (.iaload, 1) := by decide +kernel
theorem dX6_isSo_8 : decode cX6_isSo 8 = .ok (.istore_n 2, 1) := by decide +kernel
theorem dX6_isSo_9 : decode cX6_isSo 9 = .ok (.aload_n 0, 1) := by decide +kernel
theorem dX6_isSo_10 : decode cX6_isSo 10 = .ok (.getfield 97, 3) := by decide +kernel
theorem dX6_isSo_13 : decode cX6_isSo 13 = .ok (.iload_n 1, 1) := by decide +kernel
theorem dX6_isSo_14 : decode cX6_isSo 14 = .ok (.aaload, 1) := by decide +kernel
theorem dX6_isSo_15 : decode cX6_isSo 15 = .ok (.iconst 3, 1) := by decide +kernel
theorem dX6_isSo_16 : decode cX6_isSo 16 = .ok (.iaload, 1) := by decide +kernel
theorem dX6_isSo_17 : decode cX6_isSo 17 = .ok (.istore_n 3, 1) := by decide +kernel
theorem dX6_isSo_18 : decode cX6_isSo 18 = .ok (.aload_n 0, 1) := by decide +kernel
theorem dX6_isSo_19 : decode cX6_isSo 19 = .ok (.getfield 97, 3) := by decide +kernel
theorem dX6_isSo_22 : decode cX6_isSo 22 = .ok (.iload_n 1, 1) := by decide +kernel
theorem dX6_isSo_23 : decode cX6_isSo 23 = .ok (.aaload, 1) := by decide +kernel
theorem dX6_isSo_24 : decode cX6_isSo 24 = .ok (.iconst 0, 1) := by decide +kernel
theorem dX6_isSo_25 : decode cX6_isSo 25 = .ok (.iaload, 1) := by decide +kernel
theorem dX6_isSo_26 : decode cX6_isSo 26 = .ok (.tableswitch 113 0 4 #[34, 66, 80, 89, 104], 34) := by decide +kernel
theorem dX6_isSo_60 : decode cX6_isSo 60 = .ok (.aload_n 0, 1) := by decide +kernel
theorem dX6_isSo_61 : decode cX6_isSo 61 = .ok (.aload_n 0, 1) := by decide +kernel
theorem dX6_isSo_62 : decode cX6_isSo 62 = .ok (.getfield 97, 3) := by decide +kernel
theorem dX6_isSo_65 : decode cX6_isSo 65 = .ok (.iload_n 1, 1) := by decide +kernel
theorem dX6_isSo_66 : decode cX6_isSo 66 = .ok (.aaload, 1) := by decide +kernel
theorem dX6_isSo_67 : decode cX6_isSo 67 = .ok (.iconst 2, 1) := by decide +kernel
theorem dX6_isSo_68 : decode cX6_isSo 68 = .ok (.iaload, 1) := by decide +kernel
theorem dX6_isSo_69 : decode cX6_isSo 69 = .ok (.iload_n 2, 1) := by decide +kernel
theorem dX6_isSo_70 : decode cX6_isSo 70 = .ok (.invokevirtual 282, 3) := by decide +kernel
theorem dX6_isSo_73 : decode cX6_isSo 73 = .ok (.iload_n 3, 1) := by decide +kernel
theorem dX6_isSo_74 : decode cX6_isSo 74 = .ok (.iconst 1, 1) := by decide +kernel
theorem dX6_isSo_75 : decode cX6_isSo 75 = .ok (.if_icmp .ne 7, 3) := by decide +kernel
theorem dX6_isSo_78 : decode cX6_isSo 78 = .ok (.iconst 1, 1) := by decide +kernel
theorem dX6_isSo_79 : decode cX6_isSo 79 = .ok (.goto 4, 3) := by decide +kernel
theorem dX6_isSo_82 : decode cX6_isSo 82 = .ok (.iconst 0, 1) := by decide +kernel
theorem dX6_isSo_83 : decode cX6_isSo 83 = .ok (.if_icmp .ne 7, 3) := by decide +kernel
theorem dX6_isSo_86 : decode cX6_isSo 86 = .ok (.iconst 1, 1) := by decide +kernel
theorem dX6_isSo_87 : decode cX6_isSo 87 = .ok (.goto 4, 3) := by decide +kernel
theorem dX6_isSo_90 : decode cX6_isSo 90 = .ok (.iconst 0, 1) := by decide +kernel
theorem dX6_isSo_91 : decode cX6_isSo 91 = .ok (.ireturn, 1) := by decide +kernel
theorem dX6_isSo_92 : decode cX6_isSo 92 = .ok (.aload_n 0, 1) := by decide +kernel
theorem dX6_isSo_93 : decode cX6_isSo 93 = .ok (.getfield 252, 3) := by decide +kernel
theorem dX6_isSo_96 : decode cX6_isSo 96 = .ok (.iload_n 3, 1) := by decide +kernel
theorem dX6_isSo_97 : decode cX6_isSo 97 = .ok (.if_icmp .ne 7, 3) := by decide +kernel
theorem dX6_isSo_100 : decode cX6_isSo 100 = .ok (.iconst 1, 1) := by decide +kernel
theorem dX6_isSo_101 : decode cX6_isSo 101 = .ok (.goto 4, 3) := by decide +kernel
theorem dX6_isSo_104 : decode cX6_isSo 104 = .ok (.iconst 0, 1) := by decide +kernel
theorem dX6_isSo_105 : decode cX6_isSo 105 = .ok (.ireturn, 1) := by decide +kernel
theorem dX6_isSo_106 : decode cX6_isSo 106 = .ok (.aload_n 0, 1) := by decide +kernel
theorem dX6_isSo_107 : decode cX6_isSo 107 = .ok (.getfield 246, 3) := by decide +kernel
theorem dX6_isSo_110 : decode cX6_isSo 110 = .ok (.iload_n 3, 1) := by decide +kernel
theorem dX6_isSo_111 : decode cX6_isSo 111 = .ok (.invokestatic 300, 3) := by decide +kernel
theorem dX6_isSo_114 : decode cX6_isSo 114 = .ok (.ireturn, 1) := by decide +kernel
theorem dX6_isSo_115 : decode cX6_isSo 115 = .ok (.aload_n 0, 1) := by decide +kernel
theorem dX6_isSo_116 : decode cX6_isSo 116 = .ok (.iload_n 2, 1) := by decide +kernel
theorem dX6_isSo_117 : decode cX6_isSo 117 = .ok (.invokevirtual 288, 3) := by decide +kernel
theorem dX6_isSo_120 : decode cX6_isSo 120 = .ok (.iload_n 3, 1) := by decide +kernel
theorem dX6_isSo_121 : decode cX6_isSo 121 = .ok (.if_icmp .lt 7, 3) := by decide +kernel
theorem dX6_isSo_124 : decode cX6_isSo 124 = .ok (.iconst 1, 1) := by decide +kernel
theorem dX6_isSo_125 : decode cX6_isSo 125 = .ok (.goto 4, 3) := by decide +kernel
theorem dX6_isSo_128 : decode cX6_isSo 128 = .ok (.iconst 0, 1) := by decide +kernel
theorem dX6_isSo_129 : decode cX6_isSo 129 = .ok (.ireturn, 1) := by decide +kernel
theorem dX6_isSo_130 : decode cX6_isSo 130 = .ok (.aload_n 0, 1) := by decide +kernel
theorem dX6_isSo_131 : decode cX6_isSo 131 = .ok (.invokevirtual 291, 3) := by decide +kernel
theorem dX6_isSo_134 : decode cX6_isSo 134 = .ok (.iload_n 3, 1) := by decide +kernel
theorem dX6_isSo_135 : decode cX6_isSo 135 = .ok (.invokestatic 300, 3) := by decide +kernel
theorem dX6_isSo_138 : decode cX6_isSo 138 = .ok (.ireturn, 1) := by decide +kernel
theorem dX6_isSo_139 : decode cX6_isSo 139 = .ok (.aload_n 0, 1) := by decide +kernel
theorem dX6_isSo_140 : decode cX6_isSo 140 = .ok (.getfield 76, 3) := by decide +kernel
theorem dX6_isSo_143 : decode cX6_isSo 143 = .ok (.iload_n 2, 1) := by decide +kernel
theorem dX6_isSo_144 : decode cX6_isSo 144 = .ok (.iaload, 1) := by decide +kernel
theorem dX6_isSo_145 : decode cX6_isSo 145 = .ok (.aload_n 0, 1) := by decide +kernel
theorem dX6_isSo_146 : decode cX6_isSo 146 = .ok (.getfield 79, 3) := by decide +kernel
theorem dX6_isSo_149 : decode cX6_isSo 149 = .ok (.iload_n 2, 1) := by decide +kernel
theorem dX6_isSo_150 : decode cX6_isSo 150 = .ok (.iaload, 1) := by decide +kernel
theorem dX6_isSo_151 : decode cX6_isSo 151 = .ok (.isub, 1) := by decide +kernel
theorem dX6_isSo_152 : decode cX6_isSo 152 = .ok (.iload_n 3, 1) := by decide +kernel
theorem dX6_isSo_153 : decode cX6_isSo 153 = .ok (.if_icmp .lt 7, 3) := by decide +kernel
theorem dX6_isSo_156 : decode cX6_isSo 156 = .ok (.iconst 1, 1) := by decide +kernel
theorem dX6_isSo_157 : decode cX6_isSo 157 = .ok (.goto 4, 3) := by decide +kernel
theorem dX6_isSo_160 : decode cX6_isSo 160 = .ok (.iconst 0, 1) := by decide +kernel
theorem dX6_isSo_161 : decode cX6_isSo 161 = .ok (.ireturn, 1) := by decide +kernel
theorem dX6_says_0 : decode cX6_says 0 = .ok (.aload_n 0, 1) := by decide +kernel
theorem dX6_says_1 : decode cX6_says 1 = .ok (.iconst 0, 1) := by decide +kernel
theorem dX6_says_2 : decode cX6_says 2 = .ok (.putfield 113, 3) := by decide +kernel
theorem dX6_says_5 : decode cX6_says 5 = .ok (.aload_n 0, 1) := by decide +kernel
theorem dX6_says_6 : decode cX6_says 6 = .ok (.aload_n 0, 1) := by decide +kernel
theorem dX6_says_7 : decode cX6_says 7 = .ok (.iload_n 1, 1) := by decide +kernel
theorem dX6_says_8 : decode cX6_says 8 = .ok (.invokevirtual 234, 3) := by decide +kernel
theorem dX6_says_11 : decode cX6_says 11 = .ok (.ifCond .ne 7, 3) := by decide +kernel
theorem dX6_says_14 : decode cX6_says 14 = .ok (.iconst 1, 1) := by decide +kernel
theorem dX6_says_15 : decode cX6_says 15 = .ok (.goto 4, 3) := by decide +kernel
theorem dX6_says_18 : decode cX6_says 18 = .ok (.iconst 0, 1) := by decide +kernel
theorem dX6_says_19 : decode cX6_says 19 = .ok (.iconst 1, 1) := by decide +kernel
theorem dX6_says_20 : decode cX6_says 20 = .ok (.invokevirtual 220, 3) := by decide +kernel
theorem dX6_says_23 : decode cX6_says 23 = .ok (.ifCond .ne 30, 3) := by decide +kernel
theorem dX6_says_26 : decode cX6_says 26 = .ok (.aload_n 0, 1) := by decide +kernel
theorem dX6_says_27 : decode cX6_says 27 = .ok (.iload_n 2, 1) := by decide +kernel
theorem dX6_says_28 : decode cX6_says 28 = .ok (.iconst 0, 1) := by decide +kernel
theorem dX6_says_29 : decode cX6_says 29 = .ok (.aload_n 0, 1) := by decide +kernel
theorem dX6_says_30 : decode cX6_says 30 = .ok (.getfield 294, 3) := by decide +kernel
theorem dX6_says_33 : decode cX6_says 33 = .ok (.iconst 1, 1) := by decide +kernel
theorem dX6_says_34 : decode cX6_says 34 = .ok (.isub, 1) := by decide +kernel
theorem dX6_says_35 : decode cX6_says 35 = .ok (.invokestatic 150, 3) := by decide +kernel
theorem dX6_says_38 : decode cX6_says 38 = .ok (.ifCond .ne 7, 3) := by decide +kernel
theorem dX6_says_41 : decode cX6_says 41 = .ok (.iconst 1, 1) := by decide +kernel
theorem dX6_says_42 : decode cX6_says 42 = .ok (.goto 4, 3) := by decide +kernel
theorem dX6_says_45 : decode cX6_says 45 = .ok (.iconst 0, 1) := by decide +kernel
theorem dX6_says_46 : decode cX6_says 46 = .ok (.iconst 2, 1) := by decide +kernel
theorem dX6_says_47 : decode cX6_says 47 = .ok (.invokevirtual 220, 3) := by decide +kernel
theorem dX6_says_50 : decode cX6_says 50 = .ok (.ifCond .eq 5, 3) := by decide +kernel
theorem dX6_says_53 : decode cX6_says 53 = .ok (.iconst 0, 1) := by decide +kernel
theorem dX6_says_54 : decode cX6_says 54 = .ok (.ireturn, 1) := by decide +kernel
theorem dX6_says_55 : decode cX6_says 55 = .ok (.aload_n 0, 1) := by decide +kernel
theorem dX6_says_56 : decode cX6_says 56 = .ok (.iload_n 1, 1) := by decide +kernel
theorem dX6_says_57 : decode cX6_says 57 = .ok (.invokevirtual 279, 3) := by decide +kernel
theorem dX6_says_60 : decode cX6_says 60 = .ok (.aload_n 0, 1) := by decide +kernel
theorem dX6_says_61 : decode cX6_says 61 = .ok (.iload_n 2, 1) := by decide +kernel
theorem dX6_says_62 : decode cX6_says 62 = .ok (.invokevirtual 303, 3) := by decide +kernel
theorem dX6_says_65 : decode cX6_says 65 = .ok (.ireturn, 1) := by decide +kernel
theorem dX6_burntOf_0 : decode cX6_burntOf 0 = .ok (.iconst 0, 1) := by decide +kernel
theorem dX6_burntOf_1 : decode cX6_burntOf 1 = .ok (.istore_n 2, 1) := by decide +kernel
theorem dX6_burntOf_2 : decode cX6_burntOf 2 = .ok (.iconst 0, 1) := by decide +kernel
theorem dX6_burntOf_3 : decode cX6_burntOf 3 = .ok (.istore_n 3, 1) := by decide +kernel
theorem dX6_burntOf_4 : decode cX6_burntOf 4 = .ok (.iload_n 3, 1) := by decide +kernel
theorem dX6_burntOf_5 : decode cX6_burntOf 5 = .ok (.aload_n 0, 1) := by decide +kernel
theorem dX6_burntOf_6 : decode cX6_burntOf 6 = .ok (.getfield 306, 3) := by decide +kernel
theorem dX6_burntOf_9 : decode cX6_burntOf 9 = .ok (.if_icmp .ge 54, 3) := by decide +kernel
theorem dX6_burntOf_12 : decode cX6_burntOf 12 = .ok (.aload_n 0, 1) := by decide +kernel
theorem dX6_burntOf_13 : decode cX6_burntOf 13 = .ok (.aload_n 0, 1) := by decide +kernel
theorem dX6_burntOf_14 : decode cX6_burntOf 14 = .ok (.getfield 100, 3) := by decide +kernel
theorem dX6_burntOf_17 : decode cX6_burntOf 17 = .ok (.iload_n 3, 1) := by decide +kernel
theorem dX6_burntOf_18 : decode cX6_burntOf 18 = .ok (.aaload, 1) := by decide +kernel
theorem dX6_burntOf_19 : decode cX6_burntOf 19 = .ok (.iconst 0, 1) := by decide +kernel
theorem dX6_burntOf_20 : decode cX6_burntOf 20 = .ok (.iaload, 1) := by decide +kernel
theorem dX6_burntOf_21 : decode cX6_burntOf 21 = .ok (.putfield 91, 3) := by decide +kernel
theorem dX6_burntOf_24 : decode cX6_burntOf 24 = .ok (.aload_n 0, 1) := by decide +kernel
theorem dX6_burntOf_25 : decode cX6_burntOf 25 = .ok (.aload_n 0, 1) := by decide +kernel
theorem dX6_burntOf_26 : decode cX6_burntOf 26 = .ok (.getfield 100, 3) := by decide +kernel
theorem dX6_burntOf_29 : decode cX6_burntOf 29 = .ok (.iload_n 3, 1) := by decide +kernel
theorem dX6_burntOf_30 : decode cX6_burntOf 30 = .ok (.aaload, 1) := by decide +kernel
theorem dX6_burntOf_31 : decode cX6_burntOf 31 = .ok (.iconst 1, 1) := by decide +kernel
theorem dX6_burntOf_32 : decode cX6_burntOf 32 = .ok (.iaload, 1) := by decide +kernel
theorem dX6_burntOf_33 : decode cX6_burntOf 33 = .ok (.putfield 243, 3) := by decide +kernel
theorem dX6_burntOf_36 : decode cX6_burntOf 36 = .ok (.aload_n 0, 1) := by decide +kernel
theorem dX6_burntOf_37 : decode cX6_burntOf 37 = .ok (.iload_n 1, 1) := by decide +kernel
theorem dX6_burntOf_38 : decode cX6_burntOf 38 = .ok (.invokevirtual 279, 3) := by decide +kernel
theorem dX6_burntOf_41 : decode cX6_burntOf 41 = .ok (.iload_n 2, 1) := by decide +kernel
theorem dX6_burntOf_42 : decode cX6_burntOf 42 = .ok (.aload_n 0, 1) := by decide +kernel
theorem dX6_burntOf_43 : decode cX6_burntOf 43 = .ok (.getfield 249, 3) := by decide +kernel
theorem dX6_burntOf_46 : decode cX6_burntOf 46 = .ok (.iconst (-1), 1) := by decide +kernel
theorem dX6_burntOf_47 : decode cX6_burntOf 47 = .ok (.if_icmp .ne 7, 3) := by decide +kernel
theorem dX6_burntOf_50 : decode cX6_burntOf 50 = .ok (.iconst 0, 1) := by decide +kernel
theorem dX6_burntOf_51 : decode cX6_burntOf 51 = .ok (.goto 4, 3) := by decide +kernel
theorem dX6_burntOf_54 : decode cX6_burntOf 54 = .ok (.iconst 1, 1) := by decide +kernel
theorem dX6_burntOf_55 : decode cX6_burntOf 55 = .ok (.iadd, 1) := by decide +kernel
theorem dX6_burntOf_56 : decode cX6_burntOf 56 = .ok (.istore_n 2, 1) := by decide +kernel
theorem dX6_burntOf_57 : decode cX6_burntOf 57 = .ok (.iinc 3 1, 3) := by decide +kernel
theorem dX6_burntOf_60 : decode cX6_burntOf 60 = .ok (.goto (-56), 3) := by decide +kernel
theorem dX6_burntOf_63 : decode cX6_burntOf 63 = .ok (.aload_n 0, 1) := by decide +kernel
theorem dX6_burntOf_64 : decode cX6_burntOf 64 = .ok (.iconst (-1), 1) := by decide +kernel
theorem dX6_burntOf_65 : decode cX6_burntOf 65 = .ok (.putfield 91, 3) := by decide +kernel
theorem dX6_burntOf_68 : decode cX6_burntOf 68 = .ok (.iload_n 2, 1) := by decide +kernel
theorem dX6_burntOf_69 : decode cX6_burntOf 69 = .ok (.ireturn, 1) := by decide +kernel
theorem dX6_oddsOf_0 : decode cX6_oddsOf 0 = .ok (.iload_n 3, 1) := by decide +kernel
theorem dX6_oddsOf_1 : decode cX6_oddsOf 1 = .ok (.ifCond .eq 11, 3) := by decide +kernel
theorem dX6_oddsOf_4 : decode cX6_oddsOf 4 = .ok (.aload_n 0, 1) := by decide +kernel
theorem dX6_oddsOf_5 : decode cX6_oddsOf 5 = .ok (.iload_n 1, 1) := by decide +kernel
theorem dX6_oddsOf_6 : decode cX6_oddsOf 6 = .ok (.invokevirtual 309, 3) := by decide +kernel
theorem dX6_oddsOf_9 : decode cX6_oddsOf 9 = .ok (.goto 4, 3) := by decide +kernel
theorem dX6_oddsOf_12 : decode cX6_oddsOf 12 = .ok (.iconst 0, 1) := by decide +kernel
theorem dX6_oddsOf_13 : decode cX6_oddsOf 13 = .ok (.istore 4, 2) := by decide +kernel
theorem dX6_oddsOf_15 : decode cX6_oddsOf 15 = .ok (.aload_n 0, 1) := by decide +kernel
theorem dX6_oddsOf_16 : decode cX6_oddsOf 16 = .ok (.iload_n 1, 1) := by decide +kernel
theorem dX6_oddsOf_17 : decode cX6_oddsOf 17 = .ok (.invokevirtual 279, 3) := by decide +kernel
theorem dX6_oddsOf_20 : decode cX6_oddsOf 20 = .ok (.aload_n 0, 1) := by decide +kernel
theorem dX6_oddsOf_21 : decode cX6_oddsOf 21 = .ok (.getfield 34, 3) := by decide +kernel
theorem dX6_oddsOf_24 : decode cX6_oddsOf 24 = .ok (.iload_n 1, 1) := by decide +kernel
theorem dX6_oddsOf_25 : decode cX6_oddsOf 25 = .ok (.iaload, 1) := by decide +kernel
theorem dX6_oddsOf_26 : decode cX6_oddsOf 26 = .ok (.i2l, 1) := by decide +kernel
theorem dX6_oddsOf_27 : decode cX6_oddsOf 27 = .ok (.lstore 5, 2) := by decide +kernel
theorem dX6_oddsOf_29 : decode cX6_oddsOf 29 = .ok (.iconst 0, 1) := by decide +kernel
theorem dX6_oddsOf_30 : decode cX6_oddsOf 30 = .ok (.istore 7, 2) := by decide +kernel
theorem dX6_oddsOf_32 : decode cX6_oddsOf 32 = .ok (.iload 7, 2) := by decide +kernel
theorem dX6_oddsOf_34 : decode cX6_oddsOf 34 = .ok (.aload_n 0, 1) := by decide +kernel
theorem dX6_oddsOf_35 : decode cX6_oddsOf 35 = .ok (.getfield 294, 3) := by decide +kernel
theorem dX6_oddsOf_38 : decode cX6_oddsOf 38 = .ok (.if_icmp .ge 53, 3) := by decide +kernel
theorem dX6_oddsOf_41 : decode cX6_oddsOf 41 = .ok (.iload_n 2, 1) := by decide +kernel
theorem dX6_oddsOf_42 : decode cX6_oddsOf 42 = .ok (.iload 7, 2) := by decide +kernel
theorem dX6_oddsOf_44 : decode cX6_oddsOf 44 = .ok (.ishr, 1) := by decide +kernel
theorem dX6_oddsOf_45 : decode cX6_oddsOf 45 = .ok (.iconst 1, 1) := by decide +kernel
theorem dX6_oddsOf_46 : decode cX6_oddsOf 46 = .ok (.iand, 1) := by decide +kernel
theorem dX6_oddsOf_47 : decode cX6_oddsOf 47 = .ok (.iconst 1, 1) := by decide +kernel
theorem dX6_oddsOf_48 : decode cX6_oddsOf 48 = .ok (.if_icmp .ne 37, 3) := by decide +kernel
theorem dX6_oddsOf_51 : decode cX6_oddsOf 51 = .ok (.lload 5, 2) := by decide +kernel
theorem dX6_oddsOf_53 : decode cX6_oddsOf 53 = .ok (.aload_n 0, 1) := by decide +kernel
theorem dX6_oddsOf_54 : decode cX6_oddsOf 54 = .ok (.iload 7, 2) := by decide +kernel
theorem dX6_oddsOf_56 : decode cX6_oddsOf 56 = .ok (.invokevirtual 303, 3) := by decide +kernel
theorem dX6_oddsOf_59 : decode cX6_oddsOf 59 = .ok (.ifCond .eq 16, 3) := by decide +kernel
theorem dX6_oddsOf_62 : decode cX6_oddsOf 62 = .ok (.bipush 16, 2) := by decide +kernel
theorem dX6_oddsOf_64 : decode cX6_oddsOf 64 = .ok (.aload_n 0, 1) := by decide +kernel
theorem dX6_oddsOf_65 : decode cX6_oddsOf 65 = .ok (.iload 7, 2) := by decide +kernel
theorem dX6_oddsOf_67 : decode cX6_oddsOf 67 = .ok (.invokevirtual 297, 3) := by decide +kernel
theorem dX6_oddsOf_70 : decode cX6_oddsOf 70 = .ok (.isub, 1) := by decide +kernel
theorem dX6_oddsOf_71 : decode cX6_oddsOf 71 = .ok (.i2l, 1) := by decide +kernel
theorem dX6_oddsOf_72 : decode cX6_oddsOf 72 = .ok (.goto 10, 3) := by decide +kernel
theorem dX6_oddsOf_75 : decode cX6_oddsOf 75 = .ok (.aload_n 0, 1) := by decide +kernel
theorem dX6_oddsOf_76 : decode cX6_oddsOf 76 = .ok (.iload 7, 2) := by decide +kernel
theorem dX6_oddsOf_78 : decode cX6_oddsOf 78 = .ok (.invokevirtual 297, 3) := by decide +kernel
theorem dX6_oddsOf_81 : decode cX6_oddsOf 81 = .ok (.i2l, 1) := by decide +kernel
theorem dX6_oddsOf_82 : decode cX6_oddsOf 82 = .ok (.lmul, 1) := by decide +kernel
theorem dX6_oddsOf_83 : decode cX6_oddsOf 83 = .ok (.lstore 5, 2) := by decide +kernel
theorem dX6_oddsOf_85 : decode cX6_oddsOf 85 = .ok (.iinc 7 1, 3) := by decide +kernel
theorem dX6_oddsOf_88 : decode cX6_oddsOf 88 = .ok (.goto (-56), 3) := by decide +kernel
theorem dX6_oddsOf_91 : decode cX6_oddsOf 91 = .ok (.iconst 0, 1) := by decide +kernel
theorem dX6_oddsOf_92 : decode cX6_oddsOf 92 = .ok (.istore 7, 2) := by decide +kernel
theorem dX6_oddsOf_94 : decode cX6_oddsOf 94 = .ok (.iload 7, 2) := by decide +kernel
theorem dX6_oddsOf_96 : decode cX6_oddsOf 96 = .ok (.iload 4, 2) := by decide +kernel
theorem dX6_oddsOf_98 : decode cX6_oddsOf 98 = .ok (.if_icmp .ge 17, 3) := by decide +kernel
theorem dX6_oddsOf_101 : decode cX6_oddsOf 101 = .ok (.lload 5, 2) := by decide +kernel
theorem dX6_oddsOf_103 : decode cX6_oddsOf 103 = .ok (.ldc2_w 312, 3) := by decide +kernel
theorem dX6_oddsOf_106 : decode cX6_oddsOf 106 = .ok (.ldiv, 1) := by decide +kernel
theorem dX6_oddsOf_107 : decode cX6_oddsOf 107 = .ok (.lstore 5, 2) := by decide +kernel
theorem dX6_oddsOf_109 : decode cX6_oddsOf 109 = .ok (.iinc 7 1, 3) := by decide +kernel
theorem dX6_oddsOf_112 : decode cX6_oddsOf 112 = .ok (.goto (-18), 3) := by decide +kernel
theorem dX6_oddsOf_115 : decode cX6_oddsOf 115 = .ok (.lload 5, 2) := by decide +kernel
theorem dX6_oddsOf_117 : decode cX6_oddsOf 117 = .ok (.lreturn, 1) := by decide +kernel
theorem dX6_findOdds_0 : decode cX6_findOdds 0 = .ok (.iconst 0, 1) := by decide +kernel
theorem dX6_findOdds_1 : decode cX6_findOdds 1 = .ok (.istore_n 3, 1) := by decide +kernel
theorem dX6_findOdds_2 : decode cX6_findOdds 2 = .ok (.iload_n 3, 1) := by decide +kernel
theorem dX6_findOdds_3 : decode cX6_findOdds 3 = .ok (.aload_n 0, 1) := by decide +kernel
theorem dX6_findOdds_4 : decode cX6_findOdds 4 = .ok (.getfield 224, 3) := by decide +kernel
theorem dX6_findOdds_7 : decode cX6_findOdds 7 = .ok (.if_icmp .ge 22, 3) := by decide +kernel
theorem dX6_findOdds_10 : decode cX6_findOdds 10 = .ok (.aload_n 0, 1) := by decide +kernel
theorem dX6_findOdds_11 : decode cX6_findOdds 11 = .ok (.getfield 109, 3) := by decide +kernel
theorem dX6_findOdds_14 : decode cX6_findOdds 14 = .ok (.iload_n 3, 1) := by decide +kernel
theorem dX6_findOdds_15 : decode cX6_findOdds 15 = .ok (.aload_n 0, 1) := by decide +kernel
theorem dX6_findOdds_16 : decode cX6_findOdds 16 = .ok (.iload_n 3, 1) := by decide +kernel
theorem dX6_findOdds_17 : decode cX6_findOdds 17 = .ok (.iload_n 1, 1) := by decide +kernel
theorem dX6_findOdds_18 : decode cX6_findOdds 18 = .ok (.iload_n 2, 1) := by decide +kernel
theorem dX6_findOdds_19 : decode cX6_findOdds 19 = .ok (.invokevirtual 314, 3) := by decide +kernel
theorem dX6_findOdds_22 : decode cX6_findOdds 22 = .ok (.lastore, 1) := by decide +kernel
theorem dX6_findOdds_23 : decode cX6_findOdds 23 = .ok (.iinc 3 1, 3) := by decide +kernel
theorem dX6_findOdds_26 : decode cX6_findOdds 26 = .ok (.goto (-24), 3) := by decide +kernel
theorem dX6_findOdds_29 : decode cX6_findOdds 29 = .ok (.return_, 1) := by decide +kernel
theorem dX6_shareNow_0 : decode cX6_shareNow 0 = .ok (.lconst 0, 1) := by decide +kernel
theorem dX6_shareNow_1 : decode cX6_shareNow 1 = .ok (.lstore_n 2, 1) := by decide +kernel
theorem dX6_shareNow_2 : decode cX6_shareNow 2 = .ok (.iconst 0, 1) := by decide +kernel
theorem dX6_shareNow_3 : decode cX6_shareNow 3 = .ok (.istore 4, 2) := by decide +kernel
theorem dX6_shareNow_5 : decode cX6_shareNow 5 = .ok (.iload 4, 2) := by decide +kernel
theorem dX6_shareNow_7 : decode cX6_shareNow 7 = .ok (.aload_n 0, 1) := by decide +kernel
theorem dX6_shareNow_8 : decode cX6_shareNow 8 = .ok (.getfield 224, 3) := by decide +kernel
theorem dX6_shareNow_11 : decode cX6_shareNow 11 = .ok (.if_icmp .ge 19, 3) := by decide +kernel
theorem dX6_shareNow_14 : decode cX6_shareNow 14 = .ok (.lload_n 2, 1) := by decide +kernel
theorem dX6_shareNow_15 : decode cX6_shareNow 15 = .ok (.aload_n 0, 1) := by decide +kernel
theorem dX6_shareNow_16 : decode cX6_shareNow 16 = .ok (.getfield 109, 3) := by decide +kernel
theorem dX6_shareNow_19 : decode cX6_shareNow 19 = .ok (.iload 4, 2) := by decide +kernel
theorem dX6_shareNow_21 : decode cX6_shareNow 21 = .ok (.laload, 1) := by decide +kernel
theorem dX6_shareNow_22 : decode cX6_shareNow 22 = .ok (.ladd, 1) := by decide +kernel
theorem dX6_shareNow_23 : decode cX6_shareNow 23 = .ok (.lstore_n 2, 1) := by decide +kernel
theorem dX6_shareNow_24 : decode cX6_shareNow 24 = .ok (.iinc 4 1, 3) := by decide +kernel
theorem dX6_shareNow_27 : decode cX6_shareNow 27 = .ok (.goto (-22), 3) := by decide +kernel
theorem dX6_shareNow_30 : decode cX6_shareNow 30 = .ok (.lload_n 2, 1) := by decide +kernel
theorem dX6_shareNow_31 : decode cX6_shareNow 31 = .ok (.lconst 0, 1) := by decide +kernel
theorem dX6_shareNow_32 : decode cX6_shareNow 32 = .ok (.lcmp, 1) := by decide +kernel
theorem dX6_shareNow_33 : decode cX6_shareNow 33 = .ok (.ifCond .ne 7, 3) := by decide +kernel
theorem dX6_shareNow_36 : decode cX6_shareNow 36 = .ok (.iconst 0, 1) := by decide +kernel
theorem dX6_shareNow_37 : decode cX6_shareNow 37 = .ok (.goto 16, 3) := by decide +kernel
theorem dX6_shareNow_40 : decode cX6_shareNow 40 = .ok (.ldc2_w 318, 3) := by decide +kernel
theorem dX6_shareNow_43 : decode cX6_shareNow 43 = .ok (.aload_n 0, 1) := by decide +kernel
theorem dX6_shareNow_44 : decode cX6_shareNow 44 = .ok (.getfield 109, 3) := by decide +kernel
theorem dX6_shareNow_47 : decode cX6_shareNow 47 = .ok (.iload_n 1, 1) := by decide +kernel
theorem dX6_shareNow_48 : decode cX6_shareNow 48 = .ok (.laload, 1) := by decide +kernel
theorem dX6_shareNow_49 : decode cX6_shareNow 49 = .ok (.lmul, 1) := by decide +kernel
theorem dX6_shareNow_50 : decode cX6_shareNow 50 = .ok (.lload_n 2, 1) := by decide +kernel
theorem dX6_shareNow_51 : decode cX6_shareNow 51 = .ok (.ldiv, 1) := by decide +kernel
theorem dX6_shareNow_52 : decode cX6_shareNow 52 = .ok (.l2i, 1) := by decide +kernel
theorem dX6_shareNow_53 : decode cX6_shareNow 53 = .ok (.ireturn, 1) := by decide +kernel
theorem dX6_bestNow_0 : decode cX6_bestNow 0 = .ok (.iconst (-1), 1) := by decide +kernel
theorem dX6_bestNow_1 : decode cX6_bestNow 1 = .ok (.istore_n 1, 1) := by decide +kernel
theorem dX6_bestNow_2 : decode cX6_bestNow 2 = .ok (.iconst 0, 1) := by decide +kernel
theorem dX6_bestNow_3 : decode cX6_bestNow 3 = .ok (.istore_n 2, 1) := by decide +kernel
theorem dX6_bestNow_4 : decode cX6_bestNow 4 = .ok (.iload_n 2, 1) := by decide +kernel
theorem dX6_bestNow_5 : decode cX6_bestNow 5 = .ok (.aload_n 0, 1) := by decide +kernel
theorem dX6_bestNow_6 : decode cX6_bestNow 6 = .ok (.getfield 224, 3) := by decide +kernel
theorem dX6_bestNow_9 : decode cX6_bestNow 9 = .ok (.if_icmp .ge 36, 3) := by decide +kernel
theorem dX6_bestNow_12 : decode cX6_bestNow 12 = .ok (.iload_n 1, 1) := by decide +kernel
theorem dX6_bestNow_13 : decode cX6_bestNow 13 = .ok (.iconst (-1), 1) := by decide +kernel
theorem dX6_bestNow_14 : decode cX6_bestNow 14 = .ok (.if_icmp .eq 19, 3) := by decide +kernel
theorem dX6_bestNow_17 : decode cX6_bestNow 17 = .ok (.aload_n 0, 1) := by decide +kernel
theorem dX6_bestNow_18 : decode cX6_bestNow 18 = .ok (.getfield 109, 3) := by decide +kernel
theorem dX6_bestNow_21 : decode cX6_bestNow 21 = .ok (.iload_n 2, 1) := by decide +kernel
theorem dX6_bestNow_22 : decode cX6_bestNow 22 = .ok (.laload, 1) := by decide +kernel
theorem dX6_bestNow_23 : decode cX6_bestNow 23 = .ok (.aload_n 0, 1) := by decide +kernel
theorem dX6_bestNow_24 : decode cX6_bestNow 24 = .ok (.getfield 109, 3) := by decide +kernel
theorem dX6_bestNow_27 : decode cX6_bestNow 27 = .ok (.iload_n 1, 1) := by decide +kernel
theorem dX6_bestNow_28 : decode cX6_bestNow 28 = .ok (.laload, 1) := by decide +kernel
theorem dX6_bestNow_29 : decode cX6_bestNow 29 = .ok (.lcmp, 1) := by decide +kernel
theorem dX6_bestNow_30 : decode cX6_bestNow 30 = .ok (.ifCond .le 7, 3) := by decide +kernel
theorem dX6_bestNow_33 : decode cX6_bestNow 33 = .ok (.iload_n 2, 1) := by decide +kernel
theorem dX6_bestNow_34 : decode cX6_bestNow 34 = .ok (.goto 4, 3) := by decide +kernel
theorem dX6_bestNow_37 : decode cX6_bestNow 37 = .ok (.iload_n 1, 1) := by decide +kernel
theorem dX6_bestNow_38 : decode cX6_bestNow 38 = .ok (.istore_n 1, 1) := by decide +kernel
theorem dX6_bestNow_39 : decode cX6_bestNow 39 = .ok (.iinc 2 1, 3) := by decide +kernel
theorem dX6_bestNow_42 : decode cX6_bestNow 42 = .ok (.goto (-38), 3) := by decide +kernel
theorem dX6_bestNow_45 : decode cX6_bestNow 45 = .ok (.iload_n 1, 1) := by decide +kernel
theorem dX6_bestNow_46 : decode cX6_bestNow 46 = .ok (.ireturn, 1) := by decide +kernel
theorem dX6_allRows_0 : decode cX6_allRows 0 = .ok (.iconst 1, 1) := by decide +kernel
theorem dX6_allRows_1 : decode cX6_allRows 1 = .ok (.aload_n 0, 1) := by decide +kernel
theorem dX6_allRows_2 : decode cX6_allRows 2 = .ok (.getfield 294, 3) := by decide +kernel
theorem dX6_allRows_5 : decode cX6_allRows 5 = .ok (.ishl, 1) := by decide +kernel
theorem dX6_allRows_6 : decode cX6_allRows 6 = .ok (.iconst 1, 1) := by decide +kernel
theorem dX6_allRows_7 : decode cX6_allRows 7 = .ok (.isub, 1) := by decide +kernel
theorem dX6_allRows_8 : decode cX6_allRows 8 = .ok (.ireturn, 1) := by decide +kernel
theorem dX6_odds_0 : decode cX6_odds 0 = .ok (.aload_n 0, 1) := by decide +kernel
theorem dX6_odds_1 : decode cX6_odds 1 = .ok (.iconst 0, 1) := by decide +kernel
theorem dX6_odds_2 : decode cX6_odds 2 = .ok (.putfield 113, 3) := by decide +kernel
theorem dX6_odds_5 : decode cX6_odds 5 = .ok (.aload_n 0, 1) := by decide +kernel
theorem dX6_odds_6 : decode cX6_odds 6 = .ok (.aload_n 0, 1) := by decide +kernel
theorem dX6_odds_7 : decode cX6_odds 7 = .ok (.iload_n 1, 1) := by decide +kernel
theorem dX6_odds_8 : decode cX6_odds 8 = .ok (.invokevirtual 234, 3) := by decide +kernel
theorem dX6_odds_11 : decode cX6_odds 11 = .ok (.ifCond .ne 7, 3) := by decide +kernel
theorem dX6_odds_14 : decode cX6_odds 14 = .ok (.iconst 1, 1) := by decide +kernel
theorem dX6_odds_15 : decode cX6_odds 15 = .ok (.goto 4, 3) := by decide +kernel
theorem dX6_odds_18 : decode cX6_odds 18 = .ok (.iconst 0, 1) := by decide +kernel
theorem dX6_odds_19 : decode cX6_odds 19 = .ok (.iconst 1, 1) := by decide +kernel
theorem dX6_odds_20 : decode cX6_odds 20 = .ok (.invokevirtual 220, 3) := by decide +kernel
theorem dX6_odds_23 : decode cX6_odds 23 = .ok (.ifCond .eq 5, 3) := by decide +kernel
theorem dX6_odds_26 : decode cX6_odds 26 = .ok (.lconst 0, 1) := by decide +kernel
theorem dX6_odds_27 : decode cX6_odds 27 = .ok (.lreturn, 1) := by decide +kernel
theorem dX6_odds_28 : decode cX6_odds 28 = .ok (.aload_n 0, 1) := by decide +kernel
theorem dX6_odds_29 : decode cX6_odds 29 = .ok (.iload_n 1, 1) := by decide +kernel
theorem dX6_odds_30 : decode cX6_odds 30 = .ok (.aload_n 0, 1) := by decide +kernel
theorem dX6_odds_31 : decode cX6_odds 31 = .ok (.invokevirtual 320, 3) := by decide +kernel
theorem dX6_odds_34 : decode cX6_odds 34 = .ok (.iconst 1, 1) := by decide +kernel
theorem dX6_odds_35 : decode cX6_odds 35 = .ok (.invokevirtual 314, 3) := by decide +kernel
theorem dX6_odds_38 : decode cX6_odds 38 = .ok (.lreturn, 1) := by decide +kernel
theorem dX6_share_0 : decode cX6_share 0 = .ok (.aload_n 0, 1) := by decide +kernel
theorem dX6_share_1 : decode cX6_share 1 = .ok (.iconst 0, 1) := by decide +kernel
theorem dX6_share_2 : decode cX6_share 2 = .ok (.putfield 113, 3) := by decide +kernel
theorem dX6_share_5 : decode cX6_share 5 = .ok (.aload_n 0, 1) := by decide +kernel
theorem dX6_share_6 : decode cX6_share 6 = .ok (.aload_n 0, 1) := by decide +kernel
theorem dX6_share_7 : decode cX6_share 7 = .ok (.iload_n 1, 1) := by decide +kernel
theorem dX6_share_8 : decode cX6_share 8 = .ok (.invokevirtual 234, 3) := by decide +kernel
theorem dX6_share_11 : decode cX6_share 11 = .ok (.ifCond .ne 7, 3) := by decide +kernel
theorem dX6_share_14 : decode cX6_share 14 = .ok (.iconst 1, 1) := by decide +kernel
theorem dX6_share_15 : decode cX6_share 15 = .ok (.goto 4, 3) := by decide +kernel
theorem dX6_share_18 : decode cX6_share 18 = .ok (.iconst 0, 1) := by decide +kernel
theorem dX6_share_19 : decode cX6_share 19 = .ok (.iconst 1, 1) := by decide +kernel
theorem dX6_share_20 : decode cX6_share 20 = .ok (.invokevirtual 220, 3) := by decide +kernel
theorem dX6_share_23 : decode cX6_share 23 = .ok (.ifCond .eq 5, 3) := by decide +kernel
theorem dX6_share_26 : decode cX6_share 26 = .ok (.iconst 0, 1) := by decide +kernel
theorem dX6_share_27 : decode cX6_share 27 = .ok (.ireturn, 1) := by decide +kernel
theorem dX6_share_28 : decode cX6_share 28 = .ok (.aload_n 0, 1) := by decide +kernel
theorem dX6_share_29 : decode cX6_share 29 = .ok (.aload_n 0, 1) := by decide +kernel
theorem dX6_share_30 : decode cX6_share 30 = .ok (.invokevirtual 320, 3) := by decide +kernel
theorem dX6_share_33 : decode cX6_share 33 = .ok (.iconst 1, 1) := by decide +kernel
theorem dX6_share_34 : decode cX6_share 34 = .ok (.invokevirtual 323, 3) := by decide +kernel
theorem dX6_share_37 : decode cX6_share 37 = .ok (.aload_n 0, 1) := by decide +kernel
theorem dX6_share_38 : decode cX6_share 38 = .ok (.iload_n 1, 1) := by decide +kernel
theorem dX6_share_39 : decode cX6_share 39 = .ok (.invokevirtual 327, 3) := by decide +kernel
theorem dX6_share_42 : decode cX6_share 42 = .ok (.ireturn, 1) := by decide +kernel
theorem dX6_best_0 : decode cX6_best 0 = .ok (.aload_n 0, 1) := by decide +kernel
theorem dX6_best_1 : decode cX6_best 1 = .ok (.iconst 0, 1) := by decide +kernel
theorem dX6_best_2 : decode cX6_best 2 = .ok (.putfield 113, 3) := by decide +kernel
theorem dX6_best_5 : decode cX6_best 5 = .ok (.aload_n 0, 1) := by decide +kernel
theorem dX6_best_6 : decode cX6_best 6 = .ok (.aload_n 0, 1) := by decide +kernel
theorem dX6_best_7 : decode cX6_best 7 = .ok (.invokevirtual 320, 3) := by decide +kernel
theorem dX6_best_10 : decode cX6_best 10 = .ok (.iconst 1, 1) := by decide +kernel
theorem dX6_best_11 : decode cX6_best 11 = .ok (.invokevirtual 323, 3) := by decide +kernel
theorem dX6_best_14 : decode cX6_best 14 = .ok (.aload_n 0, 1) := by decide +kernel
theorem dX6_best_15 : decode cX6_best 15 = .ok (.invokevirtual 330, 3) := by decide +kernel
theorem dX6_best_18 : decode cX6_best 18 = .ok (.ireturn, 1) := by decide +kernel
theorem dX6_moved_0 : decode cX6_moved 0 = .ok (.aload_n 0, 1) := by decide +kernel
theorem dX6_moved_1 : decode cX6_moved 1 = .ok (.iconst 0, 1) := by decide +kernel
theorem dX6_moved_2 : decode cX6_moved 2 = .ok (.putfield 113, 3) := by decide +kernel
theorem dX6_moved_5 : decode cX6_moved 5 = .ok (.aload_n 0, 1) := by decide +kernel
theorem dX6_moved_6 : decode cX6_moved 6 = .ok (.aload_n 0, 1) := by decide +kernel
theorem dX6_moved_7 : decode cX6_moved 7 = .ok (.iload_n 1, 1) := by decide +kernel
theorem dX6_moved_8 : decode cX6_moved 8 = .ok (.invokevirtual 234, 3) := by decide +kernel
theorem dX6_moved_11 : decode cX6_moved 11 = .ok (.ifCond .ne 7, 3) := by decide +kernel
theorem dX6_moved_14 : decode cX6_moved 14 = .ok (.iconst 1, 1) := by decide +kernel
theorem dX6_moved_15 : decode cX6_moved 15 = .ok (.goto 4, 3) := by decide +kernel
theorem dX6_moved_18 : decode cX6_moved 18 = .ok (.iconst 0, 1) := by decide +kernel
theorem dX6_moved_19 : decode cX6_moved 19 = .ok (.iconst 1, 1) := by decide +kernel
theorem dX6_moved_20 : decode cX6_moved 20 = .ok (.invokevirtual 220, 3) := by decide +kernel
theorem dX6_moved_23 : decode cX6_moved 23 = .ok (.ifCond .ne 30, 3) := by decide +kernel
theorem dX6_moved_26 : decode cX6_moved 26 = .ok (.aload_n 0, 1) := by decide +kernel
theorem dX6_moved_27 : decode cX6_moved 27 = .ok (.iload_n 2, 1) := by decide +kernel
theorem dX6_moved_28 : decode cX6_moved 28 = .ok (.iconst 0, 1) := by decide +kernel
theorem dX6_moved_29 : decode cX6_moved 29 = .ok (.aload_n 0, 1) := by decide +kernel
theorem dX6_moved_30 : decode cX6_moved 30 = .ok (.getfield 294, 3) := by decide +kernel
theorem dX6_moved_33 : decode cX6_moved 33 = .ok (.iconst 1, 1) := by decide +kernel
theorem dX6_moved_34 : decode cX6_moved 34 = .ok (.isub, 1) := by decide +kernel
theorem dX6_moved_35 : decode cX6_moved 35 = .ok (.invokestatic 150, 3) := by decide +kernel
theorem dX6_moved_38 : decode cX6_moved 38 = .ok (.ifCond .ne 7, 3) := by decide +kernel
theorem dX6_moved_41 : decode cX6_moved 41 = .ok (.iconst 1, 1) := by decide +kernel
theorem dX6_moved_42 : decode cX6_moved 42 = .ok (.goto 4, 3) := by decide +kernel
theorem dX6_moved_45 : decode cX6_moved 45 = .ok (.iconst 0, 1) := by decide +kernel
theorem dX6_moved_46 : decode cX6_moved 46 = .ok (.iconst 2, 1) := by decide +kernel
theorem dX6_moved_47 : decode cX6_moved 47 = .ok (.invokevirtual 220, 3) := by decide +kernel
theorem dX6_moved_50 : decode cX6_moved 50 = .ok (.ifCond .eq 5, 3) := by decide +kernel
theorem dX6_moved_53 : decode cX6_moved 53 = .ok (.iconst 0, 1) := by decide +kernel
theorem dX6_moved_54 : decode cX6_moved 54 = .ok (.ireturn, 1) := by decide +kernel
theorem dX6_moved_55 : decode cX6_moved 55 = .ok (.aload_n 0, 1) := by decide +kernel
theorem dX6_moved_56 : decode cX6_moved 56 = .ok (.aload_n 0, 1) := by decide +kernel
theorem dX6_moved_57 : decode cX6_moved 57 = .ok (.invokevirtual 320, 3) := by decide +kernel
theorem dX6_moved_60 : decode cX6_moved 60 = .ok (.iconst 1, 1) := by decide +kernel
theorem dX6_moved_61 : decode cX6_moved 61 = .ok (.invokevirtual 323, 3) := by decide +kernel
theorem dX6_moved_64 : decode cX6_moved 64 = .ok (.aload_n 0, 1) := by decide +kernel
theorem dX6_moved_65 : decode cX6_moved 65 = .ok (.iload_n 1, 1) := by decide +kernel
theorem dX6_moved_66 : decode cX6_moved 66 = .ok (.invokevirtual 327, 3) := by decide +kernel
theorem dX6_moved_69 : decode cX6_moved 69 = .ok (.istore_n 3, 1) := by decide +kernel
theorem dX6_moved_70 : decode cX6_moved 70 = .ok (.aload_n 0, 1) := by decide +kernel
theorem dX6_moved_71 : decode cX6_moved 71 = .ok (.aload_n 0, 1) := by decide +kernel
theorem dX6_moved_72 : decode cX6_moved 72 = .ok (.invokevirtual 320, 3) := by decide +kernel
theorem dX6_moved_75 : decode cX6_moved 75 = .ok (.iconst 1, 1) := by decide +kernel
theorem dX6_moved_76 : decode cX6_moved 76 = .ok (.iload_n 2, 1) := by decide +kernel
theorem dX6_moved_77 : decode cX6_moved 77 = .ok (.ishl, 1) := by decide +kernel
theorem dX6_moved_78 : decode cX6_moved 78 = .ok (.iconst (-1), 1) := by decide +kernel
theorem dX6_moved_79 : decode cX6_moved 79 = .ok (.ixor, 1) := by decide +kernel
theorem dX6_moved_80 : decode cX6_moved 80 = .ok (.iand, 1) := by decide +kernel
theorem dX6_moved_81 : decode cX6_moved 81 = .ok (.iconst 1, 1) := by decide +kernel
theorem dX6_moved_82 : decode cX6_moved 82 = .ok (.invokevirtual 323, 3) := by decide +kernel
theorem dX6_moved_85 : decode cX6_moved 85 = .ok (.iload_n 3, 1) := by decide +kernel
theorem dX6_moved_86 : decode cX6_moved 86 = .ok (.aload_n 0, 1) := by decide +kernel
theorem dX6_moved_87 : decode cX6_moved 87 = .ok (.iload_n 1, 1) := by decide +kernel
theorem dX6_moved_88 : decode cX6_moved 88 = .ok (.invokevirtual 327, 3) := by decide +kernel
theorem dX6_moved_91 : decode cX6_moved 91 = .ok (.isub, 1) := by decide +kernel
theorem dX6_moved_92 : decode cX6_moved 92 = .ok (.ireturn, 1) := by decide +kernel
theorem dX6_inquiry_0 : decode cX6_inquiry 0 = .ok (.aload_n 0, 1) := by decide +kernel
theorem dX6_inquiry_1 : decode cX6_inquiry 1 = .ok (.iconst 0, 1) := by decide +kernel
theorem dX6_inquiry_2 : decode cX6_inquiry 2 = .ok (.putfield 113, 3) := by decide +kernel
theorem dX6_inquiry_5 : decode cX6_inquiry 5 = .ok (.aload_n 0, 1) := by decide +kernel
theorem dX6_inquiry_6 : decode cX6_inquiry 6 = .ok (.iload_n 2, 1) := by decide +kernel
theorem dX6_inquiry_7 : decode cX6_inquiry 7 = .ok (.iconst (-1), 1) := by decide +kernel
theorem dX6_inquiry_8 : decode cX6_inquiry 8 = .ok (.if_icmp .eq 15, 3) := by decide +kernel
theorem dX6_inquiry_11 : decode cX6_inquiry 11 = .ok (.aload_n 0, 1) := by decide +kernel
theorem dX6_inquiry_12 : decode cX6_inquiry 12 = .ok (.iload_n 2, 1) := by decide +kernel
theorem dX6_inquiry_13 : decode cX6_inquiry 13 = .ok (.invokevirtual 234, 3) := by decide +kernel
theorem dX6_inquiry_16 : decode cX6_inquiry 16 = .ok (.ifCond .ne 7, 3) := by decide +kernel
theorem dX6_inquiry_19 : decode cX6_inquiry 19 = .ok (.iconst 1, 1) := by decide +kernel
theorem dX6_inquiry_20 : decode cX6_inquiry 20 = .ok (.goto 4, 3) := by decide +kernel
theorem dX6_inquiry_23 : decode cX6_inquiry 23 = .ok (.iconst 0, 1) := by decide +kernel
theorem dX6_inquiry_24 : decode cX6_inquiry 24 = .ok (.iconst 1, 1) := by decide +kernel
theorem dX6_inquiry_25 : decode cX6_inquiry 25 = .ok (.invokevirtual 220, 3) := by decide +kernel
theorem dX6_inquiry_28 : decode cX6_inquiry 28 = .ok (.ifCond .ne 28, 3) := by decide +kernel
theorem dX6_inquiry_31 : decode cX6_inquiry 31 = .ok (.aload_n 0, 1) := by decide +kernel
theorem dX6_inquiry_32 : decode cX6_inquiry 32 = .ok (.iload_n 1, 1) := by decide +kernel
theorem dX6_inquiry_33 : decode cX6_inquiry 33 = .ok (.iconst 0, 1) := by decide +kernel
theorem dX6_inquiry_34 : decode cX6_inquiry 34 = .ok (.aload_n 0, 1) := by decide +kernel
theorem dX6_inquiry_35 : decode cX6_inquiry 35 = .ok (.invokevirtual 320, 3) := by decide +kernel
theorem dX6_inquiry_38 : decode cX6_inquiry 38 = .ok (.invokestatic 150, 3) := by decide +kernel
theorem dX6_inquiry_41 : decode cX6_inquiry 41 = .ok (.ifCond .ne 7, 3) := by decide +kernel
theorem dX6_inquiry_44 : decode cX6_inquiry 44 = .ok (.iconst 1, 1) := by decide +kernel
theorem dX6_inquiry_45 : decode cX6_inquiry 45 = .ok (.goto 4, 3) := by decide +kernel
theorem dX6_inquiry_48 : decode cX6_inquiry 48 = .ok (.iconst 0, 1) := by decide +kernel
theorem dX6_inquiry_49 : decode cX6_inquiry 49 = .ok (.iconst 2, 1) := by decide +kernel
theorem dX6_inquiry_50 : decode cX6_inquiry 50 = .ok (.invokevirtual 220, 3) := by decide +kernel
theorem dX6_inquiry_53 : decode cX6_inquiry 53 = .ok (.ifCond .eq 5, 3) := by decide +kernel
theorem dX6_inquiry_56 : decode cX6_inquiry 56 = .ok (.iconst 0, 1) := by decide +kernel
theorem dX6_inquiry_57 : decode cX6_inquiry 57 = .ok (.ireturn, 1) := by decide +kernel
theorem dX6_inquiry_58 : decode cX6_inquiry 58 = .ok (.aload_n 0, 1) := by decide +kernel
theorem dX6_inquiry_59 : decode cX6_inquiry 59 = .ok (.iload_n 1, 1) := by decide +kernel
theorem dX6_inquiry_60 : decode cX6_inquiry 60 = .ok (.iconst 0, 1) := by decide +kernel
theorem dX6_inquiry_61 : decode cX6_inquiry 61 = .ok (.invokevirtual 323, 3) := by decide +kernel
theorem dX6_inquiry_64 : decode cX6_inquiry 64 = .ok (.iload_n 2, 1) := by decide +kernel
theorem dX6_inquiry_65 : decode cX6_inquiry 65 = .ok (.iconst (-1), 1) := by decide +kernel
theorem dX6_inquiry_66 : decode cX6_inquiry 66 = .ok (.if_icmp .ne 10, 3) := by decide +kernel
theorem dX6_inquiry_69 : decode cX6_inquiry 69 = .ok (.aload_n 0, 1) := by decide +kernel
theorem dX6_inquiry_70 : decode cX6_inquiry 70 = .ok (.invokevirtual 330, 3) := by decide +kernel
theorem dX6_inquiry_73 : decode cX6_inquiry 73 = .ok (.goto 8, 3) := by decide +kernel
theorem dX6_inquiry_76 : decode cX6_inquiry 76 = .ok (.aload_n 0, 1) := by decide +kernel
theorem dX6_inquiry_77 : decode cX6_inquiry 77 = .ok (.iload_n 2, 1) := by decide +kernel
theorem dX6_inquiry_78 : decode cX6_inquiry 78 = .ok (.invokevirtual 327, 3) := by decide +kernel
theorem dX6_inquiry_81 : decode cX6_inquiry 81 = .ok (.ireturn, 1) := by decide +kernel
theorem dX6_before_0 : decode cX6_before 0 = .ok (.aload_n 0, 1) := by decide +kernel
theorem dX6_before_1 : decode cX6_before 1 = .ok (.iconst 0, 1) := by decide +kernel
theorem dX6_before_2 : decode cX6_before 2 = .ok (.putfield 113, 3) := by decide +kernel
theorem dX6_before_5 : decode cX6_before 5 = .ok (.aload_n 0, 1) := by decide +kernel
theorem dX6_before_6 : decode cX6_before 6 = .ok (.iload_n 1, 1) := by decide +kernel
theorem dX6_before_7 : decode cX6_before 7 = .ok (.iconst 0, 1) := by decide +kernel
theorem dX6_before_8 : decode cX6_before 8 = .ok (.bipush 99, 2) := by decide +kernel
theorem dX6_before_10 : decode cX6_before 10 = .ok (.invokestatic 150, 3) := by decide +kernel
theorem dX6_before_13 : decode cX6_before 13 = .ok (.ifCond .eq 14, 3) := by decide +kernel
theorem dX6_before_16 : decode cX6_before 16 = .ok (.iload_n 2, 1) := by decide +kernel
theorem dX6_before_17 : decode cX6_before 17 = .ok (.iconst 0, 1) := by decide +kernel
theorem dX6_before_18 : decode cX6_before 18 = .ok (.sipush 999, 3) := by decide +kernel
theorem dX6_before_21 : decode cX6_before 21 = .ok (.invokestatic 150, 3) := by decide +kernel
theorem dX6_before_24 : decode cX6_before 24 = .ok (.ifCond .ne 7, 3) := by decide +kernel
theorem dX6_before_27 : decode cX6_before 27 = .ok (.iconst 1, 1) := by decide +kernel
theorem dX6_before_28 : decode cX6_before 28 = .ok (.goto 4, 3) := by decide +kernel
theorem dX6_before_31 : decode cX6_before 31 = .ok (.iconst 0, 1) := by decide +kernel
theorem dX6_before_32 : decode cX6_before 32 = .ok (.iconst 1, 1) := by decide +kernel
theorem dX6_before_33 : decode cX6_before 33 = .ok (.invokevirtual 220, 3) := by decide +kernel
theorem dX6_before_36 : decode cX6_before 36 = .ok (.ifCond .eq 5, 3) := by decide +kernel
theorem dX6_before_39 : decode cX6_before 39 = .ok (.iconst 0, 1) := by decide +kernel
theorem dX6_before_40 : decode cX6_before 40 = .ok (.ireturn, 1) := by decide +kernel
theorem dX6_before_41 : decode cX6_before 41 = .ok (.aload_n 0, 1) := by decide +kernel
theorem dX6_before_42 : decode cX6_before 42 = .ok (.getfield 306, 3) := by decide +kernel
theorem dX6_before_45 : decode cX6_before 45 = .ok (.bipush 10, 2) := by decide +kernel
theorem dX6_before_47 : decode cX6_before 47 = .ok (.if_icmp .ne 5, 3) := by decide +kernel
theorem dX6_before_50 : decode cX6_before 50 = .ok (.iconst (-1), 1) := by decide +kernel
theorem dX6_before_51 : decode cX6_before 51 = .ok (.ireturn, 1) := by decide +kernel
theorem dX6_before_52 : decode cX6_before 52 = .ok (.aload_n 0, 1) := by decide +kernel
theorem dX6_before_53 : decode cX6_before 53 = .ok (.getfield 100, 3) := by decide +kernel
theorem dX6_before_56 : decode cX6_before 56 = .ok (.aload_n 0, 1) := by decide +kernel
theorem dX6_before_57 : decode cX6_before 57 = .ok (.getfield 306, 3) := by decide +kernel
theorem dX6_before_60 : decode cX6_before 60 = .ok (.aaload, 1) := by decide +kernel
theorem dX6_before_61 : decode cX6_before 61 = .ok (.iconst 0, 1) := by decide +kernel
theorem dX6_before_62 : decode cX6_before 62 = .ok (.iload_n 1, 1) := by decide +kernel
theorem dX6_before_63 : decode cX6_before 63 = .ok (.iastore, 1) := by decide +kernel
theorem dX6_before_64 : decode cX6_before 64 = .ok (.aload_n 0, 1) := by decide +kernel
theorem dX6_before_65 : decode cX6_before 65 = .ok (.getfield 100, 3) := by decide +kernel
theorem dX6_before_68 : decode cX6_before 68 = .ok (.aload_n 0, 1) := by decide +kernel
theorem dX6_before_69 : decode cX6_before 69 = .ok (.getfield 306, 3) := by decide +kernel
theorem dX6_before_72 : decode cX6_before 72 = .ok (.aaload, 1) := by decide +kernel
theorem dX6_before_73 : decode cX6_before 73 = .ok (.iconst 1, 1) := by decide +kernel
theorem dX6_before_74 : decode cX6_before 74 = .ok (.iload_n 2, 1) := by decide +kernel
theorem dX6_before_75 : decode cX6_before 75 = .ok (.iastore, 1) := by decide +kernel
theorem dX6_before_76 : decode cX6_before 76 = .ok (.aload_n 0, 1) := by decide +kernel
theorem dX6_before_77 : decode cX6_before 77 = .ok (.dup, 1) := by decide +kernel
theorem dX6_before_78 : decode cX6_before 78 = .ok (.getfield 306, 3) := by decide +kernel
theorem dX6_before_81 : decode cX6_before 81 = .ok (.iconst 1, 1) := by decide +kernel
theorem dX6_before_82 : decode cX6_before 82 = .ok (.iadd, 1) := by decide +kernel
theorem dX6_before_83 : decode cX6_before 83 = .ok (.putfield 306, 3) := by decide +kernel
theorem dX6_before_86 : decode cX6_before 86 = .ok (.aload_n 0, 1) := by decide +kernel
theorem dX6_before_87 : decode cX6_before 87 = .ok (.getfield 306, 3) := by decide +kernel
theorem dX6_before_90 : decode cX6_before 90 = .ok (.ireturn, 1) := by decide +kernel
theorem dX6_burnt_0 : decode cX6_burnt 0 = .ok (.aload_n 0, 1) := by decide +kernel
theorem dX6_burnt_1 : decode cX6_burnt 1 = .ok (.iconst 0, 1) := by decide +kernel
theorem dX6_burnt_2 : decode cX6_burnt 2 = .ok (.putfield 113, 3) := by decide +kernel
theorem dX6_burnt_5 : decode cX6_burnt 5 = .ok (.aload_n 0, 1) := by decide +kernel
theorem dX6_burnt_6 : decode cX6_burnt 6 = .ok (.aload_n 0, 1) := by decide +kernel
theorem dX6_burnt_7 : decode cX6_burnt 7 = .ok (.iload_n 1, 1) := by decide +kernel
theorem dX6_burnt_8 : decode cX6_burnt 8 = .ok (.invokevirtual 234, 3) := by decide +kernel
theorem dX6_burnt_11 : decode cX6_burnt 11 = .ok (.ifCond .ne 7, 3) := by decide +kernel
theorem dX6_burnt_14 : decode cX6_burnt 14 = .ok (.iconst 1, 1) := by decide +kernel
theorem dX6_burnt_15 : decode cX6_burnt 15 = .ok (.goto 4, 3) := by decide +kernel
theorem dX6_burnt_18 : decode cX6_burnt 18 = .ok (.iconst 0, 1) := by decide +kernel
theorem dX6_burnt_19 : decode cX6_burnt 19 = .ok (.iconst 1, 1) := by decide +kernel
theorem dX6_burnt_20 : decode cX6_burnt 20 = .ok (.invokevirtual 220, 3) := by decide +kernel
theorem dX6_burnt_23 : decode cX6_burnt 23 = .ok (.ifCond .eq 5, 3) := by decide +kernel
theorem dX6_burnt_26 : decode cX6_burnt 26 = .ok (.iconst 0, 1) := by decide +kernel
theorem dX6_burnt_27 : decode cX6_burnt 27 = .ok (.ireturn, 1) := by decide +kernel
theorem dX6_burnt_28 : decode cX6_burnt 28 = .ok (.aload_n 0, 1) := by decide +kernel
theorem dX6_burnt_29 : decode cX6_burnt 29 = .ok (.iload_n 1, 1) := by decide +kernel
theorem dX6_burnt_30 : decode cX6_burnt 30 = .ok (.invokevirtual 309, 3) := by decide +kernel
theorem dX6_burnt_33 : decode cX6_burnt 33 = .ok (.ireturn, 1) := by decide +kernel
theorem dX6_option_0 : decode cX6_option 0 = .ok (.aload_n 0, 1) := by decide +kernel
theorem dX6_option_1 : decode cX6_option 1 = .ok (.iconst 0, 1) := by decide +kernel
theorem dX6_option_2 : decode cX6_option 2 = .ok (.putfield 113, 3) := by decide +kernel
theorem dX6_option_5 : decode cX6_option 5 = .ok (.aload_n 0, 1) := by decide +kernel
theorem dX6_option_6 : decode cX6_option 6 = .ok (.iload_n 1, 1) := by decide +kernel
theorem dX6_option_7 : decode cX6_option 7 = .ok (.iconst 0, 1) := by decide +kernel
theorem dX6_option_8 : decode cX6_option 8 = .ok (.bipush 9, 2) := by decide +kernel
theorem dX6_option_10 : decode cX6_option 10 = .ok (.invokestatic 150, 3) := by decide +kernel
theorem dX6_option_13 : decode cX6_option 13 = .ok (.ifCond .eq 14, 3) := by decide +kernel
theorem dX6_option_16 : decode cX6_option 16 = .ok (.iload_n 3, 1) := by decide +kernel
theorem dX6_option_17 : decode cX6_option 17 = .ok (.iconst 0, 1) := by decide +kernel
theorem dX6_option_18 : decode cX6_option 18 = .ok (.sipush 999, 3) := by decide +kernel
theorem dX6_option_21 : decode cX6_option 21 = .ok (.invokestatic 150, 3) := by decide +kernel
theorem dX6_option_24 : decode cX6_option 24 = .ok (.ifCond .ne 7, 3) := by decide +kernel
theorem dX6_option_27 : decode cX6_option 27 = .ok (.iconst 1, 1) := by decide +kernel
theorem dX6_option_28 : decode cX6_option 28 = .ok (.goto 4, 3) := by decide +kernel
theorem dX6_option_31 : decode cX6_option 31 = .ok (.iconst 0, 1) := by decide +kernel
theorem dX6_option_32 : decode cX6_option 32 = .ok (.iconst 1, 1) := by decide +kernel
theorem dX6_option_33 : decode cX6_option 33 = .ok (.invokevirtual 220, 3) := by decide +kernel
theorem dX6_option_36 : decode cX6_option 36 = .ok (.ifCond .ne 31, 3) := by decide +kernel
theorem dX6_option_39 : decode cX6_option 39 = .ok (.aload_n 0, 1) := by decide +kernel
theorem dX6_option_40 : decode cX6_option 40 = .ok (.iload_n 2, 1) := by decide +kernel
theorem dX6_option_41 : decode cX6_option 41 = .ok (.iload_n 1, 1) := by decide +kernel
theorem dX6_option_42 : decode cX6_option 42 = .ok (.invokestatic 214, 3) := by decide +kernel
theorem dX6_option_45 : decode cX6_option 45 = .ok (.iload_n 1, 1) := by decide +kernel
theorem dX6_option_46 : decode cX6_option 46 = .ok (.invokestatic 217, 3) := by decide +kernel
theorem dX6_option_49 : decode cX6_option 49 = .ok (.invokestatic 150, 3) := by decide +kernel
theorem dX6_option_52 : decode cX6_option 52 = .ok (.ifCond .ne 7, 3) := by decide +kernel
theorem dX6_option_55 : decode cX6_option 55 = .ok (.iconst 1, 1) := by decide +kernel
theorem dX6_option_56 : decode cX6_option 56 = .ok (.goto 4, 3) := by decide +kernel
theorem dX6_option_59 : decode cX6_option 59 = .ok (.iconst 0, 1) := by decide +kernel
theorem dX6_option_60 : decode cX6_option 60 = .ok (.iconst 1, 1) := by decide +kernel
theorem dX6_option_61 : decode cX6_option 61 = .ok (.invokevirtual 220, 3) := by decide +kernel
theorem dX6_option_64 : decode cX6_option 64 = .ok (.ifCond .eq 5, 3) := by decide +kernel
theorem dX6_option_67 : decode cX6_option 67 = .ok (.iconst 0, 1) := by decide +kernel
theorem dX6_option_68 : decode cX6_option 68 = .ok (.ireturn, 1) := by decide +kernel
theorem dX6_option_69 : decode cX6_option 69 = .ok (.aload_n 0, 1) := by decide +kernel
theorem dX6_option_70 : decode cX6_option 70 = .ok (.getfield 237, 3) := by decide +kernel
theorem dX6_option_73 : decode cX6_option 73 = .ok (.iconst 5, 1) := by decide +kernel
theorem dX6_option_74 : decode cX6_option 74 = .ok (.if_icmp .ne 5, 3) := by decide +kernel
theorem dX6_option_77 : decode cX6_option 77 = .ok (.iconst (-1), 1) := by decide +kernel
theorem dX6_option_78 : decode cX6_option 78 = .ok (.ireturn, 1) := by decide +kernel
theorem dX6_option_79 : decode cX6_option 79 = .ok (.aload_n 0, 1) := by decide +kernel
theorem dX6_option_80 : decode cX6_option 80 = .ok (.getfield 103, 3) := by decide +kernel
theorem dX6_option_83 : decode cX6_option 83 = .ok (.aload_n 0, 1) := by decide +kernel
theorem dX6_option_84 : decode cX6_option 84 = .ok (.getfield 237, 3) := by decide +kernel
theorem dX6_option_87 : decode cX6_option 87 = .ok (.aaload, 1) := by decide +kernel
theorem dX6_option_88 : decode cX6_option 88 = .ok (.iconst 0, 1) := by decide +kernel
theorem dX6_option_89 : decode cX6_option 89 = .ok (.iload_n 1, 1) := by decide +kernel
theorem dX6_option_90 : decode cX6_option 90 = .ok (.iastore, 1) := by decide +kernel
theorem dX6_option_91 : decode cX6_option 91 = .ok (.aload_n 0, 1) := by decide +kernel
theorem dX6_option_92 : decode cX6_option 92 = .ok (.getfield 103, 3) := by decide +kernel
theorem dX6_option_95 : decode cX6_option 95 = .ok (.aload_n 0, 1) := by decide +kernel
theorem dX6_option_96 : decode cX6_option 96 = .ok (.getfield 237, 3) := by decide +kernel
theorem dX6_option_99 : decode cX6_option 99 = .ok (.aaload, 1) := by decide +kernel
theorem dX6_option_100 : decode cX6_option 100 = .ok (.iconst 1, 1) := by decide +kernel
theorem dX6_option_101 : decode cX6_option 101 = .ok (.iload_n 2, 1) := by decide +kernel
theorem dX6_option_102 : decode cX6_option 102 = .ok (.iastore, 1) := by decide +kernel
theorem dX6_option_103 : decode cX6_option 103 = .ok (.aload_n 0, 1) := by decide +kernel
theorem dX6_option_104 : decode cX6_option 104 = .ok (.getfield 103, 3) := by decide +kernel
theorem dX6_option_107 : decode cX6_option 107 = .ok (.aload_n 0, 1) := by decide +kernel
theorem dX6_option_108 : decode cX6_option 108 = .ok (.getfield 237, 3) := by decide +kernel
theorem dX6_option_111 : decode cX6_option 111 = .ok (.aaload, 1) := by decide +kernel
theorem dX6_option_112 : decode cX6_option 112 = .ok (.iconst 2, 1) := by decide +kernel
theorem dX6_option_113 : decode cX6_option 113 = .ok (.iload_n 3, 1) := by decide +kernel
theorem dX6_option_114 : decode cX6_option 114 = .ok (.iastore, 1) := by decide +kernel
theorem dX6_option_115 : decode cX6_option 115 = .ok (.aload_n 0, 1) := by decide +kernel
theorem dX6_option_116 : decode cX6_option 116 = .ok (.dup, 1) := by decide +kernel
theorem dX6_option_117 : decode cX6_option 117 = .ok (.getfield 237, 3) := by decide +kernel
theorem dX6_option_120 : decode cX6_option 120 = .ok (.iconst 1, 1) := by decide +kernel
theorem dX6_option_121 : decode cX6_option 121 = .ok (.iadd, 1) := by decide +kernel
theorem dX6_option_122 : decode cX6_option 122 = .ok (.putfield 237, 3) := by decide +kernel
theorem dX6_option_125 : decode cX6_option 125 = .ok (.aload_n 0, 1) := by decide +kernel
theorem dX6_option_126 : decode cX6_option 126 = .ok (.getfield 237, 3) := by decide +kernel
theorem dX6_option_129 : decode cX6_option 129 = .ok (.iconst 1, 1) := by decide +kernel
theorem dX6_option_130 : decode cX6_option 130 = .ok (.isub, 1) := by decide +kernel
theorem dX6_option_131 : decode cX6_option 131 = .ok (.ireturn, 1) := by decide +kernel
theorem dX6_isSafe_0 : decode cX6_isSafe 0 = .ok (.aload_n 0, 1) := by decide +kernel
theorem dX6_isSafe_1 : decode cX6_isSafe 1 = .ok (.iload_n 2, 1) := by decide +kernel
theorem dX6_isSafe_2 : decode cX6_isSafe 2 = .ok (.putfield 240, 3) := by decide +kernel
theorem dX6_isSafe_5 : decode cX6_isSafe 5 = .ok (.aload_n 0, 1) := by decide +kernel
theorem dX6_isSafe_6 : decode cX6_isSafe 6 = .ok (.iload_n 1, 1) := by decide +kernel
theorem dX6_isSafe_7 : decode cX6_isSafe 7 = .ok (.invokevirtual 279, 3) := by decide +kernel
theorem dX6_isSafe_10 : decode cX6_isSafe 10 = .ok (.aload_n 0, 1) := by decide +kernel
theorem dX6_isSafe_11 : decode cX6_isSafe 11 = .ok (.iconst 0, 1) := by decide +kernel
theorem dX6_isSafe_12 : decode cX6_isSafe 12 = .ok (.putfield 240, 3) := by decide +kernel
theorem dX6_isSafe_15 : decode cX6_isSafe 15 = .ok (.aload_n 0, 1) := by decide +kernel
theorem dX6_isSafe_16 : decode cX6_isSafe 16 = .ok (.invokevirtual 291, 3) := by decide +kernel
theorem dX6_isSafe_19 : decode cX6_isSafe 19 = .ok (.iconst (-1), 1) := by decide +kernel
theorem dX6_isSafe_20 : decode cX6_isSafe 20 = .ok (.if_icmp .eq 11, 3) := by decide +kernel
theorem dX6_isSafe_23 : decode cX6_isSafe 23 = .ok (.aload_n 0, 1) := by decide +kernel
theorem dX6_isSafe_24 : decode cX6_isSafe 24 = .ok (.invokevirtual 291, 3) := by decide +kernel
theorem dX6_isSafe_27 : decode cX6_isSafe 27 = .ok (.iload_n 3, 1) := by decide +kernel
theorem dX6_isSafe_28 : decode cX6_isSafe 28 = .ok (.if_icmp .lt 7, 3) := by decide +kernel
theorem dX6_isSafe_31 : decode cX6_isSafe 31 = .ok (.iconst 1, 1) := by decide +kernel
theorem dX6_isSafe_32 : decode cX6_isSafe 32 = .ok (.goto 4, 3) := by decide +kernel
theorem dX6_isSafe_35 : decode cX6_isSafe 35 = .ok (.iconst 0, 1) := by decide +kernel
theorem dX6_isSafe_36 : decode cX6_isSafe 36 = .ok (.ireturn, 1) := by decide +kernel
theorem dX6_safe_0 : decode cX6_safe 0 = .ok (.aload_n 0, 1) := by decide +kernel
theorem dX6_safe_1 : decode cX6_safe 1 = .ok (.iconst 0, 1) := by decide +kernel
theorem dX6_safe_2 : decode cX6_safe 2 = .ok (.putfield 113, 3) := by decide +kernel
theorem dX6_safe_5 : decode cX6_safe 5 = .ok (.aload_n 0, 1) := by decide +kernel
theorem dX6_safe_6 : decode cX6_safe 6 = .ok (.aload_n 0, 1) := by decide +kernel
theorem dX6_safe_7 : decode cX6_safe 7 = .ok (.iload_n 1, 1) := by decide +kernel
theorem dX6_safe_8 : decode cX6_safe 8 = .ok (.invokevirtual 234, 3) := by decide +kernel
theorem dX6_safe_11 : decode cX6_safe 11 = .ok (.ifCond .ne 7, 3) := by decide +kernel
theorem dX6_safe_14 : decode cX6_safe 14 = .ok (.iconst 1, 1) := by decide +kernel
theorem dX6_safe_15 : decode cX6_safe 15 = .ok (.goto 4, 3) := by decide +kernel
theorem dX6_safe_18 : decode cX6_safe 18 = .ok (.iconst 0, 1) := by decide +kernel
theorem dX6_safe_19 : decode cX6_safe 19 = .ok (.iconst 1, 1) := by decide +kernel
theorem dX6_safe_20 : decode cX6_safe 20 = .ok (.invokevirtual 220, 3) := by decide +kernel
theorem dX6_safe_23 : decode cX6_safe 23 = .ok (.ifCond .ne 42, 3) := by decide +kernel
theorem dX6_safe_26 : decode cX6_safe 26 = .ok (.aload_n 0, 1) := by decide +kernel
theorem dX6_safe_27 : decode cX6_safe 27 = .ok (.iload_n 2, 1) := by decide +kernel
theorem dX6_safe_28 : decode cX6_safe 28 = .ok (.iconst 0, 1) := by decide +kernel
theorem dX6_safe_29 : decode cX6_safe 29 = .ok (.iconst 1, 1) := by decide +kernel
theorem dX6_safe_30 : decode cX6_safe 30 = .ok (.aload_n 0, 1) := by decide +kernel
theorem dX6_safe_31 : decode cX6_safe 31 = .ok (.getfield 237, 3) := by decide +kernel
theorem dX6_safe_34 : decode cX6_safe 34 = .ok (.ishl, 1) := by decide +kernel
theorem dX6_safe_35 : decode cX6_safe 35 = .ok (.iconst 1, 1) := by decide +kernel
theorem dX6_safe_36 : decode cX6_safe 36 = .ok (.isub, 1) := by decide +kernel
theorem dX6_safe_37 : decode cX6_safe 37 = .ok (.invokestatic 150, 3) := by decide +kernel
theorem dX6_safe_40 : decode cX6_safe 40 = .ok (.ifCond .eq 13, 3) := by decide +kernel
theorem dX6_safe_43 : decode cX6_safe 43 = .ok (.iload_n 3, 1) := by decide +kernel
theorem dX6_safe_44 : decode cX6_safe 44 = .ok (.iconst 0, 1) := by decide +kernel
theorem dX6_safe_45 : decode cX6_safe 45 = .ok (.bipush 99, 2) := by decide +kernel
theorem dX6_safe_47 : decode cX6_safe 47 = .ok (.invokestatic 150, 3) := by decide +kernel
theorem dX6_safe_50 : decode cX6_safe 50 = .ok (.ifCond .ne 7, 3) := by decide +kernel
theorem dX6_safe_53 : decode cX6_safe 53 = .ok (.iconst 1, 1) := by decide +kernel
theorem dX6_safe_54 : decode cX6_safe 54 = .ok (.goto 4, 3) := by decide +kernel
theorem dX6_safe_57 : decode cX6_safe 57 = .ok (.iconst 0, 1) := by decide +kernel
theorem dX6_safe_58 : decode cX6_safe 58 = .ok (.iconst 2, 1) := by decide +kernel
theorem dX6_safe_59 : decode cX6_safe 59 = .ok (.invokevirtual 220, 3) := by decide +kernel
theorem dX6_safe_62 : decode cX6_safe 62 = .ok (.ifCond .eq 5, 3) := by decide +kernel
theorem dX6_safe_65 : decode cX6_safe 65 = .ok (.iconst 0, 1) := by decide +kernel
theorem dX6_safe_66 : decode cX6_safe 66 = .ok (.ireturn, 1) := by decide +kernel
theorem dX6_safe_67 : decode cX6_safe 67 = .ok (.aload_n 0, 1) := by decide +kernel
theorem dX6_safe_68 : decode cX6_safe 68 = .ok (.iload_n 1, 1) := by decide +kernel
theorem dX6_safe_69 : decode cX6_safe 69 = .ok (.iload_n 2, 1) := by decide +kernel
theorem dX6_safe_70 : decode cX6_safe 70 = .ok (.iload_n 3, 1) := by decide +kernel
theorem dX6_safe_71 : decode cX6_safe 71 = .ok (.invokevirtual 333, 3) := by decide +kernel
theorem dX6_safe_74 : decode cX6_safe 74 = .ok (.ireturn, 1) := by decide +kernel
theorem dX6_isSafeAll_0 : decode cX6_isSafeAll 0 = .ok (.iload_n 1, 1) := by decide +kernel
theorem dX6_isSafeAll_1 : decode cX6_isSafeAll 1 = .ok (.iconst (-1), 1) := by decide +kernel
theorem dX6_isSafeAll_2 : decode cX6_isSafeAll 2 = .ok (.if_icmp .eq 11, 3) := by decide +kernel
theorem dX6_isSafeAll_5 : decode cX6_isSafeAll 5 = .ok (.aload_n 0, 1) := by decide +kernel
theorem dX6_isSafeAll_6 : decode cX6_isSafeAll 6 = .ok (.iload_n 1, 1) := by decide +kernel
theorem dX6_isSafeAll_7 : decode cX6_isSafeAll 7 = .ok (.iload_n 2, 1) := by decide +kernel
theorem dX6_isSafeAll_8 : decode cX6_isSafeAll 8 = .ok (.iload_n 3, 1) := by decide +kernel
theorem dX6_isSafeAll_9 : decode cX6_isSafeAll 9 = .ok (.invokevirtual 333, 3) := by decide +kernel
theorem dX6_isSafeAll_12 : decode cX6_isSafeAll 12 = .ok (.ireturn, 1) := by decide +kernel
theorem dX6_isSafeAll_13 : decode cX6_isSafeAll 13 = .ok (.iconst 0, 1) := by decide +kernel
theorem dX6_isSafeAll_14 : decode cX6_isSafeAll 14 = .ok (.istore 4, 2) := by decide +kernel
theorem dX6_isSafeAll_16 : decode cX6_isSafeAll 16 = .ok (.iload 4, 2) := by decide +kernel
theorem dX6_isSafeAll_18 : decode cX6_isSafeAll 18 = .ok (.aload_n 0, 1) := by decide +kernel
theorem dX6_isSafeAll_19 : decode cX6_isSafeAll 19 = .ok (.getfield 224, 3) := by decide +kernel
theorem dX6_isSafeAll_22 : decode cX6_isSafeAll 22 = .ok (.if_icmp .ge 22, 3) := by decide +kernel
theorem dX6_isSafeAll_25 : decode cX6_isSafeAll 25 = .ok (.aload_n 0, 1) := by decide +kernel
theorem dX6_isSafeAll_26 : decode cX6_isSafeAll 26 = .ok (.iload 4, 2) := by decide +kernel
theorem dX6_isSafeAll_28 : decode cX6_isSafeAll 28 = .ok (.iload_n 2, 1) := by decide +kernel
theorem dX6_isSafeAll_29 : decode cX6_isSafeAll 29 = .ok (.iload_n 3, 1) := by decide +kernel
theorem dX6_isSafeAll_30 : decode cX6_isSafeAll 30 = .ok (.invokevirtual 333, 3) := by decide +kernel
theorem dX6_isSafeAll_33 : decode cX6_isSafeAll 33 = .ok (.ifCond .ne 5, 3) := by decide +kernel
theorem dX6_isSafeAll_36 : decode cX6_isSafeAll 36 = .ok (.iconst 0, 1) := by decide +kernel
theorem dX6_isSafeAll_37 : decode cX6_isSafeAll 37 = .ok (.ireturn, 1) := by decide +kernel
theorem dX6_isSafeAll_38 : decode cX6_isSafeAll 38 = .ok (.iinc 4 1, 3) := by decide +kernel
theorem dX6_isSafeAll_41 : decode cX6_isSafeAll 41 = .ok (.goto (-25), 3) := by decide +kernel
theorem dX6_isSafeAll_44 : decode cX6_isSafeAll 44 = .ok (.iconst 1, 1) := by decide +kernel
theorem dX6_isSafeAll_45 : decode cX6_isSafeAll 45 = .ok (.ireturn, 1) := by decide +kernel
theorem dX6_leastOf_0 : decode cX6_leastOf 0 = .ok (.iconst (-1), 1) := by decide +kernel
theorem dX6_leastOf_1 : decode cX6_leastOf 1 = .ok (.istore_n 3, 1) := by decide +kernel
theorem dX6_leastOf_2 : decode cX6_leastOf 2 = .ok (.iconst 0, 1) := by decide +kernel
theorem dX6_leastOf_3 : decode cX6_leastOf 3 = .ok (.istore 4, 2) := by decide +kernel
theorem dX6_leastOf_5 : decode cX6_leastOf 5 = .ok (.iconst 0, 1) := by decide +kernel
theorem dX6_leastOf_6 : decode cX6_leastOf 6 = .ok (.istore 5, 2) := by decide +kernel
theorem dX6_leastOf_8 : decode cX6_leastOf 8 = .ok (.iload 5, 2) := by decide +kernel
theorem dX6_leastOf_10 : decode cX6_leastOf 10 = .ok (.iconst 1, 1) := by decide +kernel
theorem dX6_leastOf_11 : decode cX6_leastOf 11 = .ok (.aload_n 0, 1) := by decide +kernel
theorem dX6_leastOf_12 : decode cX6_leastOf 12 = .ok (.getfield 237, 3) := by decide +kernel
theorem dX6_leastOf_15 : decode cX6_leastOf 15 = .ok (.ishl, 1) := by decide +kernel
theorem dX6_leastOf_16 : decode cX6_leastOf 16 = .ok (.if_icmp .ge 92, 3) := by decide +kernel
theorem dX6_leastOf_19 : decode cX6_leastOf 19 = .ok (.iconst 0, 1) := by decide +kernel
theorem dX6_leastOf_20 : decode cX6_leastOf 20 = .ok (.istore 6, 2) := by decide +kernel
theorem dX6_leastOf_22 : decode cX6_leastOf 22 = .ok (.iconst 0, 1) := by decide +kernel
theorem dX6_leastOf_23 : decode cX6_leastOf 23 = .ok (.istore 7, 2) := by decide +kernel
theorem dX6_leastOf_25 : decode cX6_leastOf 25 = .ok (.iload 7, 2) := by decide +kernel
theorem dX6_leastOf_27 : decode cX6_leastOf 27 = .ok (.aload_n 0, 1) := by decide +kernel
theorem dX6_leastOf_28 : decode cX6_leastOf 28 = .ok (.getfield 237, 3) := by decide +kernel
theorem dX6_leastOf_31 : decode cX6_leastOf 31 = .ok (.if_icmp .ge 38, 3) := by decide +kernel
theorem dX6_leastOf_34 : decode cX6_leastOf 34 = .ok (.iload 6, 2) := by decide +kernel
theorem dX6_leastOf_36 : decode cX6_leastOf 36 = .ok (.iload 5, 2) := by decide +kernel
theorem dX6_leastOf_38 : decode cX6_leastOf 38 = .ok (.iload 7, 2) := by decide +kernel
theorem dX6_leastOf_40 : decode cX6_leastOf 40 = .ok (.ishr, 1) := by decide +kernel
theorem dX6_leastOf_41 : decode cX6_leastOf 41 = .ok (.iconst 1, 1) := by decide +kernel
theorem dX6_leastOf_42 : decode cX6_leastOf 42 = .ok (.iand, 1) := by decide +kernel
theorem dX6_leastOf_43 : decode cX6_leastOf 43 = .ok (.iconst 1, 1) := by decide +kernel
theorem dX6_leastOf_44 : decode cX6_leastOf 44 = .ok (.if_icmp .ne 15, 3) := by decide +kernel
theorem dX6_leastOf_47 : decode cX6_leastOf 47 = .ok (.aload_n 0, 1) := by decide +kernel
theorem dX6_leastOf_48 : decode cX6_leastOf 48 = .ok (.getfield 103, 3) := by decide +kernel
theorem dX6_leastOf_51 : decode cX6_leastOf 51 = .ok (.iload 7, 2) := by decide +kernel
theorem dX6_leastOf_53 : decode cX6_leastOf 53 = .ok (.aaload, 1) := by decide +kernel
theorem dX6_leastOf_54 : decode cX6_leastOf 54 = .ok (.iconst 2, 1) := by decide +kernel
theorem dX6_leastOf_55 : decode cX6_leastOf 55 = .ok (.iaload, 1) := by decide +kernel
theorem dX6_leastOf_56 : decode cX6_leastOf 56 = .ok (.goto 4, 3) := by decide +kernel
theorem dX6_leastOf_59 : decode cX6_leastOf 59 = .ok (.iconst 0, 1) := by decide +kernel
theorem dX6_leastOf_60 : decode cX6_leastOf 60 = .ok (.iadd, 1) := by decide +kernel
theorem dX6_leastOf_61 : decode cX6_leastOf 61 = .ok (.istore 6, 2) := by decide +kernel
theorem dX6_leastOf_63 : decode cX6_leastOf 63 = .ok (.iinc 7 1, 3) := by decide +kernel
theorem dX6_leastOf_66 : decode cX6_leastOf 66 = .ok (.goto (-41), 3) := by decide +kernel
theorem dX6_leastOf_69 : decode cX6_leastOf 69 = .ok (.iload_n 3, 1) := by decide +kernel
theorem dX6_leastOf_70 : decode cX6_leastOf 70 = .ok (.iconst (-1), 1) := by decide +kernel
theorem dX6_leastOf_71 : decode cX6_leastOf 71 = .ok (.if_icmp .eq 10, 3) := by decide +kernel
theorem dX6_leastOf_74 : decode cX6_leastOf 74 = .ok (.iload 6, 2) := by decide +kernel
theorem dX6_leastOf_76 : decode cX6_leastOf 76 = .ok (.iload 4, 2) := by decide +kernel
theorem dX6_leastOf_78 : decode cX6_leastOf 78 = .ok (.if_icmp .ge 24, 3) := by decide +kernel
theorem dX6_leastOf_81 : decode cX6_leastOf 81 = .ok (.aload_n 0, 1) := by decide +kernel
theorem dX6_leastOf_82 : decode cX6_leastOf 82 = .ok (.iload_n 1, 1) := by decide +kernel
theorem dX6_leastOf_83 : decode cX6_leastOf 83 = .ok (.iload 5, 2) := by decide +kernel
theorem dX6_leastOf_85 : decode cX6_leastOf 85 = .ok (.iload_n 2, 1) := by decide +kernel
theorem dX6_leastOf_86 : decode cX6_leastOf 86 = .ok (.invokevirtual 336, 3) := by decide +kernel
theorem dX6_leastOf_89 : decode cX6_leastOf 89 = .ok (.ifCond .ne 6, 3) := by decide +kernel
theorem dX6_leastOf_92 : decode cX6_leastOf 92 = .ok (.goto 10, 3) := by decide +kernel
theorem dX6_leastOf_95 : decode cX6_leastOf 95 = .ok (.iload 5, 2) := by decide +kernel
theorem dX6_leastOf_97 : decode cX6_leastOf 97 = .ok (.istore_n 3, 1) := by decide +kernel
theorem dX6_leastOf_98 : decode cX6_leastOf 98 = .ok (.iload 6, 2) := by decide +kernel
theorem dX6_leastOf_100 : decode cX6_leastOf 100 = .ok (.istore 4, 2) := by decide +kernel
theorem dX6_leastOf_102 : decode cX6_leastOf 102 = .ok (.iinc 5 1, 3) := by decide +kernel
theorem dX6_leastOf_105 : decode cX6_leastOf 105 = .ok (.goto (-97), 3) := by decide +kernel
theorem dX6_leastOf_108 : decode cX6_leastOf 108 = .ok (.iload_n 3, 1) := by decide +kernel
theorem dX6_leastOf_109 : decode cX6_leastOf 109 = .ok (.ireturn, 1) := by decide +kernel
theorem dX6_least_0 : decode cX6_least 0 = .ok (.aload_n 0, 1) := by decide +kernel
theorem dX6_least_1 : decode cX6_least 1 = .ok (.iconst 0, 1) := by decide +kernel
theorem dX6_least_2 : decode cX6_least 2 = .ok (.putfield 113, 3) := by decide +kernel
theorem dX6_least_5 : decode cX6_least 5 = .ok (.aload_n 0, 1) := by decide +kernel
theorem dX6_least_6 : decode cX6_least 6 = .ok (.aload_n 0, 1) := by decide +kernel
theorem dX6_least_7 : decode cX6_least 7 = .ok (.iload_n 1, 1) := by decide +kernel
theorem dX6_least_8 : decode cX6_least 8 = .ok (.invokevirtual 234, 3) := by decide +kernel
theorem dX6_least_11 : decode cX6_least 11 = .ok (.ifCond .ne 7, 3) := by decide +kernel
theorem dX6_least_14 : decode cX6_least 14 = .ok (.iconst 1, 1) := by decide +kernel
theorem dX6_least_15 : decode cX6_least 15 = .ok (.goto 4, 3) := by decide +kernel
theorem dX6_least_18 : decode cX6_least 18 = .ok (.iconst 0, 1) := by decide +kernel
theorem dX6_least_19 : decode cX6_least 19 = .ok (.iconst 1, 1) := by decide +kernel
theorem dX6_least_20 : decode cX6_least 20 = .ok (.invokevirtual 220, 3) := by decide +kernel
theorem dX6_least_23 : decode cX6_least 23 = .ok (.ifCond .ne 26, 3) := by decide +kernel
theorem dX6_least_26 : decode cX6_least 26 = .ok (.aload_n 0, 1) := by decide +kernel
theorem dX6_least_27 : decode cX6_least 27 = .ok (.iload_n 2, 1) := by decide +kernel
theorem dX6_least_28 : decode cX6_least 28 = .ok (.iconst 0, 1) := by decide +kernel
theorem dX6_least_29 : decode cX6_least 29 = .ok (.bipush 99, 2) := by decide +kernel
theorem dX6_least_31 : decode cX6_least 31 = .ok (.invokestatic 150, 3) := by decide +kernel
theorem dX6_least_34 : decode cX6_least 34 = .ok (.ifCond .ne 7, 3) := by decide +kernel
theorem dX6_least_37 : decode cX6_least 37 = .ok (.iconst 1, 1) := by decide +kernel
theorem dX6_least_38 : decode cX6_least 38 = .ok (.goto 4, 3) := by decide +kernel
theorem dX6_least_41 : decode cX6_least 41 = .ok (.iconst 0, 1) := by decide +kernel
theorem dX6_least_42 : decode cX6_least 42 = .ok (.iconst 2, 1) := by decide +kernel
theorem dX6_least_43 : decode cX6_least 43 = .ok (.invokevirtual 220, 3) := by decide +kernel
theorem dX6_least_46 : decode cX6_least 46 = .ok (.ifCond .eq 5, 3) := by decide +kernel
theorem dX6_least_49 : decode cX6_least 49 = .ok (.iconst 0, 1) := by decide +kernel
theorem dX6_least_50 : decode cX6_least 50 = .ok (.ireturn, 1) := by decide +kernel
theorem dX6_least_51 : decode cX6_least 51 = .ok (.aload_n 0, 1) := by decide +kernel
theorem dX6_least_52 : decode cX6_least 52 = .ok (.iload_n 1, 1) := by decide +kernel
theorem dX6_least_53 : decode cX6_least 53 = .ok (.iload_n 2, 1) := by decide +kernel
theorem dX6_least_54 : decode cX6_least 54 = .ok (.invokevirtual 339, 3) := by decide +kernel
theorem dX6_least_57 : decode cX6_least 57 = .ok (.ireturn, 1) := by decide +kernel
theorem dX6_all_0 : decode cX6_all 0 = .ok (.aload_n 0, 1) := by decide +kernel
theorem dX6_all_1 : decode cX6_all 1 = .ok (.iconst 0, 1) := by decide +kernel
theorem dX6_all_2 : decode cX6_all 2 = .ok (.putfield 113, 3) := by decide +kernel
theorem dX6_all_5 : decode cX6_all 5 = .ok (.aload_n 0, 1) := by decide +kernel
theorem dX6_all_6 : decode cX6_all 6 = .ok (.iload_n 1, 1) := by decide +kernel
theorem dX6_all_7 : decode cX6_all 7 = .ok (.iconst 0, 1) := by decide +kernel
theorem dX6_all_8 : decode cX6_all 8 = .ok (.bipush 99, 2) := by decide +kernel
theorem dX6_all_10 : decode cX6_all 10 = .ok (.invokestatic 150, 3) := by decide +kernel
theorem dX6_all_13 : decode cX6_all 13 = .ok (.ifCond .ne 7, 3) := by decide +kernel
theorem dX6_all_16 : decode cX6_all 16 = .ok (.iconst 1, 1) := by decide +kernel
theorem dX6_all_17 : decode cX6_all 17 = .ok (.goto 4, 3) := by decide +kernel
theorem dX6_all_20 : decode cX6_all 20 = .ok (.iconst 0, 1) := by decide +kernel
theorem dX6_all_21 : decode cX6_all 21 = .ok (.iconst 1, 1) := by decide +kernel
theorem dX6_all_22 : decode cX6_all 22 = .ok (.invokevirtual 220, 3) := by decide +kernel
theorem dX6_all_25 : decode cX6_all 25 = .ok (.ifCond .eq 5, 3) := by decide +kernel
theorem dX6_all_28 : decode cX6_all 28 = .ok (.iconst 0, 1) := by decide +kernel
theorem dX6_all_29 : decode cX6_all 29 = .ok (.ireturn, 1) := by decide +kernel
theorem dX6_all_30 : decode cX6_all 30 = .ok (.aload_n 0, 1) := by decide +kernel
theorem dX6_all_31 : decode cX6_all 31 = .ok (.iconst (-1), 1) := by decide +kernel
theorem dX6_all_32 : decode cX6_all 32 = .ok (.iload_n 1, 1) := by decide +kernel
theorem dX6_all_33 : decode cX6_all 33 = .ok (.invokevirtual 339, 3) := by decide +kernel
theorem dX6_all_36 : decode cX6_all 36 = .ok (.ireturn, 1) := by decide +kernel
theorem dX6_next_0 : decode cX6_next 0 = .ok (.aload_n 0, 1) := by decide +kernel
theorem dX6_next_1 : decode cX6_next 1 = .ok (.iconst 0, 1) := by decide +kernel
theorem dX6_next_2 : decode cX6_next 2 = .ok (.putfield 113, 3) := by decide +kernel
theorem dX6_next_5 : decode cX6_next 5 = .ok (.aload_n 0, 1) := by decide +kernel
theorem dX6_next_6 : decode cX6_next 6 = .ok (.iload_n 1, 1) := by decide +kernel
theorem dX6_next_7 : decode cX6_next 7 = .ok (.iconst 0, 1) := by decide +kernel
theorem dX6_next_8 : decode cX6_next 8 = .ok (.bipush 99, 2) := by decide +kernel
theorem dX6_next_10 : decode cX6_next 10 = .ok (.invokestatic 150, 3) := by decide +kernel
theorem dX6_next_13 : decode cX6_next 13 = .ok (.ifCond .ne 7, 3) := by decide +kernel
theorem dX6_next_16 : decode cX6_next 16 = .ok (.iconst 1, 1) := by decide +kernel
theorem dX6_next_17 : decode cX6_next 17 = .ok (.goto 4, 3) := by decide +kernel
theorem dX6_next_20 : decode cX6_next 20 = .ok (.iconst 0, 1) := by decide +kernel
theorem dX6_next_21 : decode cX6_next 21 = .ok (.iconst 1, 1) := by decide +kernel
theorem dX6_next_22 : decode cX6_next 22 = .ok (.invokevirtual 220, 3) := by decide +kernel
theorem dX6_next_25 : decode cX6_next 25 = .ok (.ifCond .eq 5, 3) := by decide +kernel
theorem dX6_next_28 : decode cX6_next 28 = .ok (.iconst 0, 1) := by decide +kernel
theorem dX6_next_29 : decode cX6_next 29 = .ok (.ireturn, 1) := by decide +kernel
theorem dX6_next_30 : decode cX6_next 30 = .ok (.aload_n 0, 1) := by decide +kernel
theorem dX6_next_31 : decode cX6_next 31 = .ok (.aload_n 0, 1) := by decide +kernel
theorem dX6_next_32 : decode cX6_next 32 = .ok (.invokevirtual 320, 3) := by decide +kernel
theorem dX6_next_35 : decode cX6_next 35 = .ok (.iconst 1, 1) := by decide +kernel
theorem dX6_next_36 : decode cX6_next 36 = .ok (.invokevirtual 323, 3) := by decide +kernel
theorem dX6_next_39 : decode cX6_next 39 = .ok (.bipush 8, 2) := by decide +kernel
theorem dX6_next_41 : decode cX6_next 41 = .ok (.newarray .long, 2) := by decide +kernel
theorem dX6_next_43 : decode cX6_next 43 = .ok (.astore_n 2, 1) := by decide +kernel
theorem dX6_next_44 : decode cX6_next 44 = .ok (.lconst 0, 1) := by decide +kernel
theorem dX6_next_45 : decode cX6_next 45 = .ok (.lstore_n 3, 1) := by decide +kernel
theorem dX6_next_46 : decode cX6_next 46 = .ok (.iconst 0, 1) := by decide +kernel
theorem dX6_next_47 : decode cX6_next 47 = .ok (.istore 5, 2) := by decide +kernel
theorem dX6_next_49 : decode cX6_next 49 = .ok (.iload 5, 2) := by decide +kernel
theorem dX6_next_51 : decode cX6_next 51 = .ok (.aload_n 0, 1) := by decide +kernel
theorem dX6_next_52 : decode cX6_next 52 = .ok (.getfield 224, 3) := by decide +kernel
theorem dX6_next_55 : decode cX6_next 55 = .ok (.if_icmp .ge 69, 3) := by decide +kernel
theorem dX6_next_58 : decode cX6_next 58 = .ok (.aload_n 0, 1) := by decide +kernel
theorem dX6_next_59 : decode cX6_next 59 = .ok (.iload 5, 2) := by decide +kernel
theorem dX6_next_61 : decode cX6_next 61 = .ok (.invokevirtual 279, 3) := by decide +kernel
theorem dX6_next_64 : decode cX6_next 64 = .ok (.lload_n 3, 1) := by decide +kernel
theorem dX6_next_65 : decode cX6_next 65 = .ok (.aload_n 0, 1) := by decide +kernel
theorem dX6_next_66 : decode cX6_next 66 = .ok (.getfield 109, 3) := by decide +kernel
theorem dX6_next_69 : decode cX6_next 69 = .ok (.iload 5, 2) := by decide +kernel
theorem dX6_next_71 : decode cX6_next 71 = .ok (.laload, 1) := by decide +kernel
theorem dX6_next_72 : decode cX6_next 72 = .ok (.ladd, 1) := by decide +kernel
theorem dX6_next_73 : decode cX6_next 73 = .ok (.lstore_n 3, 1) := by decide +kernel
theorem dX6_next_74 : decode cX6_next 74 = .ok (.iconst 0, 1) := by decide +kernel
theorem dX6_next_75 : decode cX6_next 75 = .ok (.istore 6, 2) := by decide +kernel
theorem dX6_next_77 : decode cX6_next 77 = .ok (.iload 6, 2) := by decide +kernel
theorem dX6_next_79 : decode cX6_next 79 = .ok (.bipush 8, 2) := by decide +kernel
theorem dX6_next_81 : decode cX6_next 81 = .ok (.if_icmp .ge 37, 3) := by decide +kernel
theorem dX6_next_84 : decode cX6_next 84 = .ok (.aload_n 2, 1) := by decide +kernel
theorem dX6_next_85 : decode cX6_next 85 = .ok (.iload 6, 2) := by decide +kernel
theorem dX6_next_87 : decode cX6_next 87 = .ok (.dup2, 1) := by decide +kernel
theorem dX6_next_88 : decode cX6_next 88 = .ok (.laload, 1) := by decide +kernel
theorem dX6_next_89 : decode cX6_next 89 = .ok (.aload_n 0, 1) := by decide +kernel
theorem dX6_next_90 : decode cX6_next 90 = .ok (.iload 6, 2) := by decide +kernel
theorem dX6_next_92 : decode cX6_next 92 = .ok (.iload_n 1, 1) := by decide +kernel
theorem dX6_next_93 : decode cX6_next 93 = .ok (.invokevirtual 282, 3) := by decide +kernel
theorem dX6_next_96 : decode cX6_next 96 = .ok (.ifCond .eq 13, 3) := by decide +kernel
theorem dX6_next_99 : decode cX6_next 99 = .ok (.aload_n 0, 1) := by decide +kernel
theorem dX6_next_100 : decode cX6_next 100 = .ok (.getfield 109, 3) := by decide +kernel
theorem dX6_next_103 : decode cX6_next 103 = .ok (.iload 5, 2) := by decide +kernel
theorem dX6_next_105 : decode cX6_next 105 = .ok (.laload, 1) := by decide +kernel
theorem dX6_next_106 : decode cX6_next 106 = .ok (.goto 4, 3) := by decide +kernel
theorem dX6_next_109 : decode cX6_next 109 = .ok (.lconst 0, 1) := by decide +kernel
theorem dX6_next_110 : decode cX6_next 110 = .ok (.ladd, 1) := by decide +kernel
theorem dX6_next_111 : decode cX6_next 111 = .ok (.lastore, 1) := by decide +kernel
theorem dX6_next_112 : decode cX6_next 112 = .ok (.iinc 6 1, 3) := by decide +kernel
theorem dX6_next_115 : decode cX6_next 115 = .ok (.goto (-38), 3) := by decide +kernel
theorem dX6_next_118 : decode cX6_next 118 = .ok (.iinc 5 1, 3) := by decide +kernel
theorem dX6_next_121 : decode cX6_next 121 = .ok (.goto (-72), 3) := by decide +kernel
theorem dX6_next_124 : decode cX6_next 124 = .ok (.iconst (-1), 1) := by decide +kernel
theorem dX6_next_125 : decode cX6_next 125 = .ok (.istore 5, 2) := by decide +kernel
theorem dX6_next_127 : decode cX6_next 127 = .ok (.lconst 0, 1) := by decide +kernel
theorem dX6_next_128 : decode cX6_next 128 = .ok (.lstore 6, 2) := by decide +kernel
theorem dX6_next_130 : decode cX6_next 130 = .ok (.iconst 0, 1) := by decide +kernel
theorem dX6_next_131 : decode cX6_next 131 = .ok (.istore 8, 2) := by decide +kernel
theorem dX6_next_133 : decode cX6_next 133 = .ok (.iload 8, 2) := by decide +kernel
theorem dX6_next_135 : decode cX6_next 135 = .ok (.bipush 8, 2) := by decide +kernel
theorem dX6_next_137 : decode cX6_next 137 = .ok (.if_icmp .ge 70, 3) := by decide +kernel
theorem dX6_next_140 : decode cX6_next 140 = .ok (.aload_n 0, 1) := by decide +kernel
theorem dX6_next_141 : decode cX6_next 141 = .ok (.getfield 224, 3) := by decide +kernel
theorem dX6_next_144 : decode cX6_next 144 = .ok (.ifCond .le 63, 3) := by decide +kernel
theorem dX6_next_147 : decode cX6_next 147 = .ok (.aload_n 2, 1) := by decide +kernel
theorem dX6_next_148 : decode cX6_next 148 = .ok (.iload 8, 2) := by decide +kernel
theorem dX6_next_150 : decode cX6_next 150 = .ok (.laload, 1) := by decide +kernel
theorem dX6_next_151 : decode cX6_next 151 = .ok (.lload_n 3, 1) := by decide +kernel
theorem dX6_next_152 : decode cX6_next 152 = .ok (.aload_n 2, 1) := by decide +kernel
theorem dX6_next_153 : decode cX6_next 153 = .ok (.iload 8, 2) := by decide +kernel
theorem dX6_next_155 : decode cX6_next 155 = .ok (.laload, 1) := by decide +kernel
theorem dX6_next_156 : decode cX6_next 156 = .ok (.lsub, 1) := by decide +kernel
theorem dX6_next_157 : decode cX6_next 157 = .ok (.lcmp, 1) := by decide +kernel
theorem dX6_next_158 : decode cX6_next 158 = .ok (.ifCond .le 10, 3) := by decide +kernel
theorem dX6_next_161 : decode cX6_next 161 = .ok (.aload_n 2, 1) := by decide +kernel
theorem dX6_next_162 : decode cX6_next 162 = .ok (.iload 8, 2) := by decide +kernel
theorem dX6_next_164 : decode cX6_next 164 = .ok (.laload, 1) := by decide +kernel
theorem dX6_next_165 : decode cX6_next 165 = .ok (.goto 9, 3) := by decide +kernel
theorem dX6_next_168 : decode cX6_next 168 = .ok (.lload_n 3, 1) := by decide +kernel
theorem dX6_next_169 : decode cX6_next 169 = .ok (.aload_n 2, 1) := by decide +kernel
theorem dX6_next_170 : decode cX6_next 170 = .ok (.iload 8, 2) := by decide +kernel
theorem dX6_next_172 : decode cX6_next 172 = .ok (.laload, 1) := by decide +kernel
theorem dX6_next_173 : decode cX6_next 173 = .ok (.lsub, 1) := by decide +kernel
theorem dX6_next_174 : decode cX6_next 174 = .ok (.lstore 9, 2) := by decide +kernel
theorem dX6_next_176 : decode cX6_next 176 = .ok (.iload 5, 2) := by decide +kernel
theorem dX6_next_178 : decode cX6_next 178 = .ok (.iconst (-1), 1) := by decide +kernel
theorem dX6_next_179 : decode cX6_next 179 = .ok (.if_icmp .eq 14, 3) := by decide +kernel
theorem dX6_next_182 : decode cX6_next 182 = .ok (.lload 9, 2) := by decide +kernel
theorem dX6_next_184 : decode cX6_next 184 = .ok (.lload 6, 2) := by decide +kernel
theorem dX6_next_186 : decode cX6_next 186 = .ok (.lcmp, 1) := by decide +kernel
theorem dX6_next_187 : decode cX6_next 187 = .ok (.ifCond .lt 6, 3) := by decide +kernel
theorem dX6_next_190 : decode cX6_next 190 = .ok (.goto 11, 3) := by decide +kernel
theorem dX6_next_193 : decode cX6_next 193 = .ok (.iload 8, 2) := by decide +kernel
theorem dX6_next_195 : decode cX6_next 195 = .ok (.istore 5, 2) := by decide +kernel
theorem dX6_next_197 : decode cX6_next 197 = .ok (.lload 9, 2) := by decide +kernel
theorem dX6_next_199 : decode cX6_next 199 = .ok (.lstore 6, 2) := by decide +kernel
theorem dX6_next_201 : decode cX6_next 201 = .ok (.iinc 8 1, 3) := by decide +kernel
theorem dX6_next_204 : decode cX6_next 204 = .ok (.goto (-71), 3) := by decide +kernel
theorem dX6_next_207 : decode cX6_next 207 = .ok (.iload 5, 2) := by decide +kernel
theorem dX6_next_209 : decode cX6_next 209 = .ok (.ireturn, 1) := by decide +kernel
theorem dX6_parted_0 : decode cX6_parted 0 = .ok (.aload_n 0, 1) := by decide +kernel
theorem dX6_parted_1 : decode cX6_parted 1 = .ok (.iconst 0, 1) := by decide +kernel
theorem dX6_parted_2 : decode cX6_parted 2 = .ok (.putfield 113, 3) := by decide +kernel
theorem dX6_parted_5 : decode cX6_parted 5 = .ok (.aload_n 0, 1) := by decide +kernel
theorem dX6_parted_6 : decode cX6_parted 6 = .ok (.aload_n 0, 1) := by decide +kernel
theorem dX6_parted_7 : decode cX6_parted 7 = .ok (.iload_n 1, 1) := by decide +kernel
theorem dX6_parted_8 : decode cX6_parted 8 = .ok (.invokevirtual 234, 3) := by decide +kernel
theorem dX6_parted_11 : decode cX6_parted 11 = .ok (.ifCond .eq 11, 3) := by decide +kernel
theorem dX6_parted_14 : decode cX6_parted 14 = .ok (.aload_n 0, 1) := by decide +kernel
theorem dX6_parted_15 : decode cX6_parted 15 = .ok (.iload_n 2, 1) := by decide +kernel
theorem dX6_parted_16 : decode cX6_parted 16 = .ok (.invokevirtual 234, 3) := by decide +kernel
theorem dX6_parted_19 : decode cX6_parted 19 = .ok (.ifCond .ne 7, 3) := by decide +kernel
theorem dX6_parted_22 : decode cX6_parted 22 = .ok (.iconst 1, 1) := by decide +kernel
theorem dX6_parted_23 : decode cX6_parted 23 = .ok (.goto 4, 3) := by decide +kernel
theorem dX6_parted_26 : decode cX6_parted 26 = .ok (.iconst 0, 1) := by decide +kernel
theorem dX6_parted_27 : decode cX6_parted 27 = .ok (.iconst 1, 1) := by decide +kernel
theorem dX6_parted_28 : decode cX6_parted 28 = .ok (.invokevirtual 220, 3) := by decide +kernel
theorem dX6_parted_31 : decode cX6_parted 31 = .ok (.ifCond .eq 5, 3) := by decide +kernel
theorem dX6_parted_34 : decode cX6_parted 34 = .ok (.iconst 0, 1) := by decide +kernel
theorem dX6_parted_35 : decode cX6_parted 35 = .ok (.ireturn, 1) := by decide +kernel
theorem dX6_parted_36 : decode cX6_parted 36 = .ok (.aload_n 0, 1) := by decide +kernel
theorem dX6_parted_37 : decode cX6_parted 37 = .ok (.iload_n 2, 1) := by decide +kernel
theorem dX6_parted_38 : decode cX6_parted 38 = .ok (.invokevirtual 279, 3) := by decide +kernel
theorem dX6_parted_41 : decode cX6_parted 41 = .ok (.iconst 0, 1) := by decide +kernel
theorem dX6_parted_42 : decode cX6_parted 42 = .ok (.istore_n 3, 1) := by decide +kernel
theorem dX6_parted_43 : decode cX6_parted 43 = .ok (.iload_n 3, 1) := by decide +kernel
theorem dX6_parted_44 : decode cX6_parted 44 = .ok (.bipush 100, 2) := by decide +kernel
theorem dX6_parted_46 : decode cX6_parted 46 = .ok (.if_icmp .ge 73, 3) := by decide +kernel
theorem dX6_parted_49 : decode cX6_parted 49 = .ok (.iconst 0, 1) := by decide +kernel
theorem dX6_parted_50 : decode cX6_parted 50 = .ok (.istore 4, 2) := by decide +kernel
theorem dX6_parted_52 : decode cX6_parted 52 = .ok (.iload 4, 2) := by decide +kernel
theorem dX6_parted_54 : decode cX6_parted 54 = .ok (.bipush 8, 2) := by decide +kernel
theorem dX6_parted_56 : decode cX6_parted 56 = .ok (.if_icmp .ge 45, 3) := by decide +kernel
theorem dX6_parted_59 : decode cX6_parted 59 = .ok (.aload_n 0, 1) := by decide +kernel
theorem dX6_parted_60 : decode cX6_parted 60 = .ok (.getfield 67, 3) := by decide +kernel
theorem dX6_parted_63 : decode cX6_parted 63 = .ok (.iload_n 3, 1) := by decide +kernel
theorem dX6_parted_64 : decode cX6_parted 64 = .ok (.aaload, 1) := by decide +kernel
theorem dX6_parted_65 : decode cX6_parted 65 = .ok (.iload 4, 2) := by decide +kernel
theorem dX6_parted_67 : decode cX6_parted 67 = .ok (.aload_n 0, 1) := by decide +kernel
theorem dX6_parted_68 : decode cX6_parted 68 = .ok (.getfield 61, 3) := by decide +kernel
theorem dX6_parted_71 : decode cX6_parted 71 = .ok (.iload_n 3, 1) := by decide +kernel
theorem dX6_parted_72 : decode cX6_parted 72 = .ok (.aaload, 1) := by decide +kernel
theorem dX6_parted_73 : decode cX6_parted 73 = .ok (.iload 4, 2) := by decide +kernel
theorem dX6_parted_75 : decode cX6_parted 75 = .ok (.iaload, 1) := by decide +kernel
theorem dX6_parted_76 : decode cX6_parted 76 = .ok (.iastore, 1) := by decide +kernel
theorem dX6_parted_77 : decode cX6_parted 77 = .ok (.aload_n 0, 1) := by decide +kernel
theorem dX6_parted_78 : decode cX6_parted 78 = .ok (.getfield 70, 3) := by decide +kernel
theorem dX6_parted_81 : decode cX6_parted 81 = .ok (.iload_n 3, 1) := by decide +kernel
theorem dX6_parted_82 : decode cX6_parted 82 = .ok (.aaload, 1) := by decide +kernel
theorem dX6_parted_83 : decode cX6_parted 83 = .ok (.iload 4, 2) := by decide +kernel
theorem dX6_parted_85 : decode cX6_parted 85 = .ok (.aload_n 0, 1) := by decide +kernel
theorem dX6_parted_86 : decode cX6_parted 86 = .ok (.getfield 64, 3) := by decide +kernel
theorem dX6_parted_89 : decode cX6_parted 89 = .ok (.iload_n 3, 1) := by decide +kernel
theorem dX6_parted_90 : decode cX6_parted 90 = .ok (.aaload, 1) := by decide +kernel
theorem dX6_parted_91 : decode cX6_parted 91 = .ok (.iload 4, 2) := by decide +kernel
theorem dX6_parted_93 : decode cX6_parted 93 = .ok (.iaload, 1) := by decide +kernel
theorem dX6_parted_94 : decode cX6_parted 94 = .ok (.iastore, 1) := by decide +kernel
theorem dX6_parted_95 : decode cX6_parted 95 = .ok (.iinc 4 1, 3) := by decide +kernel
theorem dX6_parted_98 : decode cX6_parted 98 = .ok (.goto (-46), 3) := by decide +kernel
theorem dX6_parted_101 : decode cX6_parted 101 = .ok (.aload_n 0, 1) := by decide +kernel
theorem dX6_parted_102 : decode cX6_parted 102 = .ok (.getfield 85, 3) := by decide +kernel
theorem dX6_parted_105 : decode cX6_parted 105 = .ok (.iload_n 3, 1) := by decide +kernel
theorem dX6_parted_106 : decode cX6_parted 106 = .ok (.aload_n 0, 1) := by decide +kernel
theorem dX6_parted_107 : decode cX6_parted 107 = .ok (.getfield 82, 3) := by decide +kernel
theorem dX6_parted_110 : decode cX6_parted 110 = .ok (.iload_n 3, 1) := by decide +kernel
theorem dX6_parted_111 : decode cX6_parted 111 = .ok (.iaload, 1) := by decide +kernel
theorem dX6_parted_112 : decode cX6_parted 112 = .ok (.iastore, 1) := by decide +kernel
theorem dX6_parted_113 : decode cX6_parted 113 = .ok (.iinc 3 1, 3) := by decide +kernel
theorem dX6_parted_116 : decode cX6_parted 116 = .ok (.goto (-73), 3) := by decide +kernel
theorem dX6_parted_119 : decode cX6_parted 119 = .ok (.iconst 0, 1) := by decide +kernel
theorem dX6_parted_120 : decode cX6_parted 120 = .ok (.istore_n 3, 1) := by decide +kernel
theorem dX6_parted_121 : decode cX6_parted 121 = .ok (.iload_n 3, 1) := by decide +kernel
theorem dX6_parted_122 : decode cX6_parted 122 = .ok (.bipush 8, 2) := by decide +kernel
theorem dX6_parted_124 : decode cX6_parted 124 = .ok (.if_icmp .ge 21, 3) := by decide +kernel
theorem dX6_parted_127 : decode cX6_parted 127 = .ok (.aload_n 0, 1) := by decide +kernel
theorem dX6_parted_128 : decode cX6_parted 128 = .ok (.getfield 88, 3) := by decide +kernel
theorem dX6_parted_131 : decode cX6_parted 131 = .ok (.iload_n 3, 1) := by decide +kernel
theorem dX6_parted_132 : decode cX6_parted 132 = .ok (.aload_n 0, 1) := by decide +kernel
theorem dX6_parted_133 : decode cX6_parted 133 = .ok (.getfield 58, 3) := by decide +kernel
theorem dX6_parted_136 : decode cX6_parted 136 = .ok (.iload_n 3, 1) := by decide +kernel
theorem dX6_parted_137 : decode cX6_parted 137 = .ok (.iaload, 1) := by decide +kernel
theorem dX6_parted_138 : decode cX6_parted 138 = .ok (.iastore, 1) := by decide +kernel
theorem dX6_parted_139 : decode cX6_parted 139 = .ok (.iinc 3 1, 3) := by decide +kernel
theorem dX6_parted_142 : decode cX6_parted 142 = .ok (.goto (-21), 3) := by decide +kernel
theorem dX6_parted_145 : decode cX6_parted 145 = .ok (.aload_n 0, 1) := by decide +kernel
theorem dX6_parted_146 : decode cX6_parted 146 = .ok (.iload_n 1, 1) := by decide +kernel
theorem dX6_parted_147 : decode cX6_parted 147 = .ok (.invokevirtual 279, 3) := by decide +kernel
theorem dX6_parted_150 : decode cX6_parted 150 = .ok (.iconst 0, 1) := by decide +kernel
theorem dX6_parted_151 : decode cX6_parted 151 = .ok (.istore_n 3, 1) := by decide +kernel
theorem dX6_parted_152 : decode cX6_parted 152 = .ok (.iload_n 3, 1) := by decide +kernel
theorem dX6_parted_153 : decode cX6_parted 153 = .ok (.bipush 100, 2) := by decide +kernel
theorem dX6_parted_155 : decode cX6_parted 155 = .ok (.if_icmp .ge 145, 3) := by decide +kernel
theorem dX6_parted_158 : decode cX6_parted 158 = .ok (.aload_n 0, 1) := by decide +kernel
theorem dX6_parted_159 : decode cX6_parted 159 = .ok (.getfield 85, 3) := by decide +kernel
theorem dX6_parted_162 : decode cX6_parted 162 = .ok (.iload_n 3, 1) := by decide +kernel
theorem dX6_parted_163 : decode cX6_parted 163 = .ok (.iaload, 1) := by decide +kernel
theorem dX6_parted_164 : decode cX6_parted 164 = .ok (.aload_n 0, 1) := by decide +kernel
theorem dX6_parted_165 : decode cX6_parted 165 = .ok (.getfield 82, 3) := by decide +kernel
theorem dX6_parted_168 : decode cX6_parted 168 = .ok (.iload_n 3, 1) := by decide +kernel
theorem dX6_parted_169 : decode cX6_parted 169 = .ok (.iaload, 1) := by decide +kernel
theorem dX6_parted_170 : decode cX6_parted 170 = .ok (.if_icmp .ne 7, 3) := by decide +kernel
theorem dX6_parted_173 : decode cX6_parted 173 = .ok (.iconst 1, 1) := by decide +kernel
theorem dX6_parted_174 : decode cX6_parted 174 = .ok (.goto 4, 3) := by decide +kernel
theorem dX6_parted_177 : decode cX6_parted 177 = .ok (.iconst 0, 1) := by decide +kernel
theorem dX6_parted_178 : decode cX6_parted 178 = .ok (.istore 4, 2) := by decide +kernel
theorem dX6_parted_180 : decode cX6_parted 180 = .ok (.iconst 0, 1) := by decide +kernel
theorem dX6_parted_181 : decode cX6_parted 181 = .ok (.istore 5, 2) := by decide +kernel
theorem dX6_parted_183 : decode cX6_parted 183 = .ok (.iload 5, 2) := by decide +kernel
theorem dX6_parted_185 : decode cX6_parted 185 = .ok (.bipush 8, 2) := by decide +kernel
theorem dX6_parted_187 : decode cX6_parted 187 = .ok (.if_icmp .ge 100, 3) := by decide +kernel
theorem dX6_parted_190 : decode cX6_parted 190 = .ok (.iload 4, 2) := by decide +kernel
theorem dX6_parted_192 : decode cX6_parted 192 = .ok (.ifCond .eq 86, 3) := by decide +kernel
theorem dX6_parted_195 : decode cX6_parted 195 = .ok (.aload_n 0, 1) := by decide +kernel
theorem dX6_parted_196 : decode cX6_parted 196 = .ok (.getfield 67, 3) := by decide +kernel
theorem dX6_parted_199 : decode cX6_parted 199 = .ok (.iload_n 3, 1) := by decide +kernel
theorem dX6_parted_200 : decode cX6_parted 200 = .ok (.aaload, 1) := by decide +kernel
theorem dX6_parted_201 : decode cX6_parted 201 = .ok (.iload 5, 2) := by decide +kernel
theorem dX6_parted_203 : decode cX6_parted 203 = .ok (.iaload, 1) := by decide +kernel
theorem dX6_parted_204 : decode cX6_parted 204 = .ok (.aload_n 0, 1) := by decide +kernel
theorem dX6_parted_205 : decode cX6_parted 205 = .ok (.getfield 61, 3) := by decide +kernel
theorem dX6_parted_208 : decode cX6_parted 208 = .ok (.iload_n 3, 1) := by decide +kernel
theorem dX6_parted_209 : decode cX6_parted 209 = .ok (.aaload, 1) := by decide +kernel
theorem dX6_parted_210 : decode cX6_parted 210 = .ok (.iload 5, 2) := by decide +kernel
theorem dX6_parted_212 : decode cX6_parted 212 = .ok (.iaload, 1) := by decide +kernel
theorem dX6_parted_213 : decode cX6_parted 213 = .ok (.if_icmp .ne 65, 3) := by decide +kernel
theorem dX6_parted_216 : decode cX6_parted 216 = .ok (.aload_n 0, 1) := by decide +kernel
theorem dX6_parted_217 : decode cX6_parted 217 = .ok (.getfield 70, 3) := by decide +kernel
theorem dX6_parted_220 : decode cX6_parted 220 = .ok (.iload_n 3, 1) := by decide +kernel
theorem dX6_parted_221 : decode cX6_parted 221 = .ok (.aaload, 1) := by decide +kernel
theorem dX6_parted_222 : decode cX6_parted 222 = .ok (.iload 5, 2) := by decide +kernel
theorem dX6_parted_224 : decode cX6_parted 224 = .ok (.iaload, 1) := by decide +kernel
theorem dX6_parted_225 : decode cX6_parted 225 = .ok (.aload_n 0, 1) := by decide +kernel
theorem dX6_parted_226 : decode cX6_parted 226 = .ok (.getfield 64, 3) := by decide +kernel
theorem dX6_parted_229 : decode cX6_parted 229 = .ok (.iload_n 3, 1) := by decide +kernel
theorem dX6_parted_230 : decode cX6_parted 230 = .ok (.aaload, 1) := by decide +kernel
theorem dX6_parted_231 : decode cX6_parted 231 = .ok (.iload 5, 2) := by decide +kernel
theorem dX6_parted_233 : decode cX6_parted 233 = .ok (.iaload, 1) := by decide +kernel
theorem dX6_parted_234 : decode cX6_parted 234 = .ok (.if_icmp .ne 44, 3) := by decide +kernel
theorem dX6_parted_237 : decode cX6_parted 237 = .ok (.aload_n 0, 1) := by decide +kernel
theorem dX6_parted_238 : decode cX6_parted 238 = .ok (.iload 5, 2) := by decide +kernel
theorem dX6_parted_240 : decode cX6_parted 240 = .ok (.iload_n 3, 1) := by decide +kernel
theorem dX6_parted_241 : decode cX6_parted 241 = .ok (.invokevirtual 282, 3) := by decide +kernel
theorem dX6_parted_244 : decode cX6_parted 244 = .ok (.aload_n 0, 1) := by decide +kernel
theorem dX6_parted_245 : decode cX6_parted 245 = .ok (.getfield 88, 3) := by decide +kernel
theorem dX6_parted_248 : decode cX6_parted 248 = .ok (.iload 5, 2) := by decide +kernel
theorem dX6_parted_250 : decode cX6_parted 250 = .ok (.iaload, 1) := by decide +kernel
theorem dX6_parted_251 : decode cX6_parted 251 = .ok (.iconst (-1), 1) := by decide +kernel
theorem dX6_parted_252 : decode cX6_parted 252 = .ok (.if_icmp .eq 18, 3) := by decide +kernel
theorem dX6_parted_255 : decode cX6_parted 255 = .ok (.aload_n 0, 1) := by decide +kernel
theorem dX6_parted_256 : decode cX6_parted 256 = .ok (.getfield 88, 3) := by decide +kernel
theorem dX6_parted_259 : decode cX6_parted 259 = .ok (.iload 5, 2) := by decide +kernel
theorem dX6_parted_261 : decode cX6_parted 261 = .ok (.iaload, 1) := by decide +kernel
theorem dX6_parted_262 : decode cX6_parted 262 = .ok (.iload_n 3, 1) := by decide +kernel
theorem dX6_parted_263 : decode cX6_parted 263 = .ok (.if_icmp .gt 7, 3) := by decide +kernel
theorem dX6_parted_266 : decode cX6_parted 266 = .ok (.iconst 1, 1) := by decide +kernel
theorem dX6_parted_267 : decode cX6_parted 267 = .ok (.goto 4, 3) := by decide +kernel
theorem dX6_parted_270 : decode cX6_parted 270 = .ok (.iconst 0, 1) := by decide +kernel
theorem dX6_parted_271 : decode cX6_parted 271 = .ok (.if_icmp .ne 7, 3) := by decide +kernel
theorem dX6_parted_274 : decode cX6_parted 274 = .ok (.iconst 1, 1) := by decide +kernel
theorem dX6_parted_275 : decode cX6_parted 275 = .ok (.goto 4, 3) := by decide +kernel
theorem dX6_parted_278 : decode cX6_parted 278 = .ok (.iconst 0, 1) := by decide +kernel
theorem dX6_parted_279 : decode cX6_parted 279 = .ok (.istore 4, 2) := by decide +kernel
theorem dX6_parted_281 : decode cX6_parted 281 = .ok (.iinc 5 1, 3) := by decide +kernel
theorem dX6_parted_284 : decode cX6_parted 284 = .ok (.goto (-101), 3) := by decide +kernel
theorem dX6_parted_287 : decode cX6_parted 287 = .ok (.iload 4, 2) := by decide +kernel
theorem dX6_parted_289 : decode cX6_parted 289 = .ok (.ifCond .ne 5, 3) := by decide +kernel
theorem dX6_parted_292 : decode cX6_parted 292 = .ok (.iload_n 3, 1) := by decide +kernel
theorem dX6_parted_293 : decode cX6_parted 293 = .ok (.ireturn, 1) := by decide +kernel
theorem dX6_parted_294 : decode cX6_parted 294 = .ok (.iinc 3 1, 3) := by decide +kernel
theorem dX6_parted_297 : decode cX6_parted 297 = .ok (.goto (-145), 3) := by decide +kernel
theorem dX6_parted_300 : decode cX6_parted 300 = .ok (.iconst (-1), 1) := by decide +kernel
theorem dX6_parted_301 : decode cX6_parted 301 = .ok (.ireturn, 1) := by decide +kernel
theorem dX6_order_0 : decode cX6_order 0 = .ok (.aload_n 0, 1) := by decide +kernel
theorem dX6_order_1 : decode cX6_order 1 = .ok (.iconst 0, 1) := by decide +kernel
theorem dX6_order_2 : decode cX6_order 2 = .ok (.putfield 113, 3) := by decide +kernel
theorem dX6_order_5 : decode cX6_order 5 = .ok (.aload_n 0, 1) := by decide +kernel
theorem dX6_order_6 : decode cX6_order 6 = .ok (.aload_n 0, 1) := by decide +kernel
theorem dX6_order_7 : decode cX6_order 7 = .ok (.iload_n 1, 1) := by decide +kernel
theorem dX6_order_8 : decode cX6_order 8 = .ok (.invokevirtual 234, 3) := by decide +kernel
theorem dX6_order_11 : decode cX6_order 11 = .ok (.ifCond .ne 7, 3) := by decide +kernel
theorem dX6_order_14 : decode cX6_order 14 = .ok (.iconst 1, 1) := by decide +kernel
theorem dX6_order_15 : decode cX6_order 15 = .ok (.goto 4, 3) := by decide +kernel
theorem dX6_order_18 : decode cX6_order 18 = .ok (.iconst 0, 1) := by decide +kernel
theorem dX6_order_19 : decode cX6_order 19 = .ok (.iconst 1, 1) := by decide +kernel
theorem dX6_order_20 : decode cX6_order 20 = .ok (.invokevirtual 220, 3) := by decide +kernel
theorem dX6_order_23 : decode cX6_order 23 = .ok (.ifCond .eq 5, 3) := by decide +kernel
theorem dX6_order_26 : decode cX6_order 26 = .ok (.iconst 0, 1) := by decide +kernel
theorem dX6_order_27 : decode cX6_order 27 = .ok (.ireturn, 1) := by decide +kernel
theorem dX6_order_28 : decode cX6_order 28 = .ok (.aload_n 0, 1) := by decide +kernel
theorem dX6_order_29 : decode cX6_order 29 = .ok (.iload_n 1, 1) := by decide +kernel
theorem dX6_order_30 : decode cX6_order 30 = .ok (.invokevirtual 279, 3) := by decide +kernel
theorem dX6_order_33 : decode cX6_order 33 = .ok (.iconst 0, 1) := by decide +kernel
theorem dX6_order_34 : decode cX6_order 34 = .ok (.istore_n 3, 1) := by decide +kernel
theorem dX6_order_35 : decode cX6_order 35 = .ok (.iload_n 3, 1) := by decide +kernel
theorem dX6_order_36 : decode cX6_order 36 = .ok (.bipush 8, 2) := by decide +kernel
theorem dX6_order_38 : decode cX6_order 38 = .ok (.if_icmp .ge 105, 3) := by decide +kernel
theorem dX6_order_41 : decode cX6_order 41 = .ok (.iconst 0, 1) := by decide +kernel
theorem dX6_order_42 : decode cX6_order 42 = .ok (.istore 4, 2) := by decide +kernel
theorem dX6_order_44 : decode cX6_order 44 = .ok (.iconst 0, 1) := by decide +kernel
theorem dX6_order_45 : decode cX6_order 45 = .ok (.istore 5, 2) := by decide +kernel
theorem dX6_order_47 : decode cX6_order 47 = .ok (.iload 5, 2) := by decide +kernel
theorem dX6_order_49 : decode cX6_order 49 = .ok (.bipush 8, 2) := by decide +kernel
theorem dX6_order_51 : decode cX6_order 51 = .ok (.if_icmp .ge 68, 3) := by decide +kernel
theorem dX6_order_54 : decode cX6_order 54 = .ok (.iload 4, 2) := by decide +kernel
theorem dX6_order_56 : decode cX6_order 56 = .ok (.aload_n 0, 1) := by decide +kernel
theorem dX6_order_57 : decode cX6_order 57 = .ok (.getfield 58, 3) := by decide +kernel
theorem dX6_order_60 : decode cX6_order 60 = .ok (.iload 5, 2) := by decide +kernel
theorem dX6_order_62 : decode cX6_order 62 = .ok (.iaload, 1) := by decide +kernel
theorem dX6_order_63 : decode cX6_order 63 = .ok (.iconst (-1), 1) := by decide +kernel
theorem dX6_order_64 : decode cX6_order 64 = .ok (.if_icmp .eq 45, 3) := by decide +kernel
theorem dX6_order_67 : decode cX6_order 67 = .ok (.aload_n 0, 1) := by decide +kernel
theorem dX6_order_68 : decode cX6_order 68 = .ok (.getfield 58, 3) := by decide +kernel
theorem dX6_order_71 : decode cX6_order 71 = .ok (.iload 5, 2) := by decide +kernel
theorem dX6_order_73 : decode cX6_order 73 = .ok (.iaload, 1) := by decide +kernel
theorem dX6_order_74 : decode cX6_order 74 = .ok (.aload_n 0, 1) := by decide +kernel
theorem dX6_order_75 : decode cX6_order 75 = .ok (.getfield 58, 3) := by decide +kernel
theorem dX6_order_78 : decode cX6_order 78 = .ok (.iload_n 3, 1) := by decide +kernel
theorem dX6_order_79 : decode cX6_order 79 = .ok (.iaload, 1) := by decide +kernel
theorem dX6_order_80 : decode cX6_order 80 = .ok (.if_icmp .lt 25, 3) := by decide +kernel
theorem dX6_order_83 : decode cX6_order 83 = .ok (.aload_n 0, 1) := by decide +kernel
theorem dX6_order_84 : decode cX6_order 84 = .ok (.getfield 58, 3) := by decide +kernel
theorem dX6_order_87 : decode cX6_order 87 = .ok (.iload 5, 2) := by decide +kernel
theorem dX6_order_89 : decode cX6_order 89 = .ok (.iaload, 1) := by decide +kernel
theorem dX6_order_90 : decode cX6_order 90 = .ok (.aload_n 0, 1) := by decide +kernel
theorem dX6_order_91 : decode cX6_order 91 = .ok (.getfield 58, 3) := by decide +kernel
theorem dX6_order_94 : decode cX6_order 94 = .ok (.iload_n 3, 1) := by decide +kernel
theorem dX6_order_95 : decode cX6_order 95 = .ok (.iaload, 1) := by decide +kernel
theorem dX6_order_96 : decode cX6_order 96 = .ok (.if_icmp .ne 13, 3) := by decide +kernel
theorem dX6_order_99 : decode cX6_order 99 = .ok (.iload 5, 2) := by decide +kernel
theorem dX6_order_101 : decode cX6_order 101 = .ok (.iload_n 3, 1) := by decide +kernel
theorem dX6_order_102 : decode cX6_order 102 = .ok (.if_icmp .ge 7, 3) := by decide +kernel
theorem dX6_order_105 : decode cX6_order 105 = .ok (.iconst 1, 1) := by decide +kernel
theorem dX6_order_106 : decode cX6_order 106 = .ok (.goto 4, 3) := by decide +kernel
theorem dX6_order_109 : decode cX6_order 109 = .ok (.iconst 0, 1) := by decide +kernel
theorem dX6_order_110 : decode cX6_order 110 = .ok (.iadd, 1) := by decide +kernel
theorem dX6_order_111 : decode cX6_order 111 = .ok (.istore 4, 2) := by decide +kernel
theorem dX6_order_113 : decode cX6_order 113 = .ok (.iinc 5 1, 3) := by decide +kernel
theorem dX6_order_116 : decode cX6_order 116 = .ok (.goto (-69), 3) := by decide +kernel
theorem dX6_order_119 : decode cX6_order 119 = .ok (.aload_n 0, 1) := by decide +kernel
theorem dX6_order_120 : decode cX6_order 120 = .ok (.getfield 58, 3) := by decide +kernel
theorem dX6_order_123 : decode cX6_order 123 = .ok (.iload_n 3, 1) := by decide +kernel
theorem dX6_order_124 : decode cX6_order 124 = .ok (.iaload, 1) := by decide +kernel
theorem dX6_order_125 : decode cX6_order 125 = .ok (.iconst (-1), 1) := by decide +kernel
theorem dX6_order_126 : decode cX6_order 126 = .ok (.if_icmp .eq 11, 3) := by decide +kernel
theorem dX6_order_129 : decode cX6_order 129 = .ok (.iload 4, 2) := by decide +kernel
theorem dX6_order_131 : decode cX6_order 131 = .ok (.iload_n 2, 1) := by decide +kernel
theorem dX6_order_132 : decode cX6_order 132 = .ok (.if_icmp .ne 5, 3) := by decide +kernel
theorem dX6_order_135 : decode cX6_order 135 = .ok (.iload_n 3, 1) := by decide +kernel
theorem dX6_order_136 : decode cX6_order 136 = .ok (.ireturn, 1) := by decide +kernel
theorem dX6_order_137 : decode cX6_order 137 = .ok (.iinc 3 1, 3) := by decide +kernel
theorem dX6_order_140 : decode cX6_order 140 = .ok (.goto (-105), 3) := by decide +kernel
theorem dX6_order_143 : decode cX6_order 143 = .ok (.iconst (-1), 1) := by decide +kernel
theorem dX6_order_144 : decode cX6_order 144 = .ok (.ireturn, 1) := by decide +kernel
theorem dX6_dry_0 : decode cX6_dry 0 = .ok (.aload_n 0, 1) := by decide +kernel
theorem dX6_dry_1 : decode cX6_dry 1 = .ok (.iconst 0, 1) := by decide +kernel
theorem dX6_dry_2 : decode cX6_dry 2 = .ok (.putfield 113, 3) := by decide +kernel
theorem dX6_dry_5 : decode cX6_dry 5 = .ok (.aload_n 0, 1) := by decide +kernel
theorem dX6_dry_6 : decode cX6_dry 6 = .ok (.aload_n 0, 1) := by decide +kernel
theorem dX6_dry_7 : decode cX6_dry 7 = .ok (.iload_n 1, 1) := by decide +kernel
theorem dX6_dry_8 : decode cX6_dry 8 = .ok (.invokevirtual 234, 3) := by decide +kernel
theorem dX6_dry_11 : decode cX6_dry 11 = .ok (.ifCond .ne 7, 3) := by decide +kernel
theorem dX6_dry_14 : decode cX6_dry 14 = .ok (.iconst 1, 1) := by decide +kernel
theorem dX6_dry_15 : decode cX6_dry 15 = .ok (.goto 4, 3) := by decide +kernel
theorem dX6_dry_18 : decode cX6_dry 18 = .ok (.iconst 0, 1) := by decide +kernel
theorem dX6_dry_19 : decode cX6_dry 19 = .ok (.iconst 1, 1) := by decide +kernel
theorem dX6_dry_20 : decode cX6_dry 20 = .ok (.invokevirtual 220, 3) := by decide +kernel
theorem dX6_dry_23 : decode cX6_dry 23 = .ok (.ifCond .eq 5, 3) := by decide +kernel
theorem dX6_dry_26 : decode cX6_dry 26 = .ok (.iconst 0, 1) := by decide +kernel
theorem dX6_dry_27 : decode cX6_dry 27 = .ok (.ireturn, 1) := by decide +kernel
theorem dX6_dry_28 : decode cX6_dry 28 = .ok (.iconst (-1), 1) := by decide +kernel
theorem dX6_dry_29 : decode cX6_dry 29 = .ok (.istore_n 2, 1) := by decide +kernel
theorem dX6_dry_30 : decode cX6_dry 30 = .ok (.iconst 0, 1) := by decide +kernel
theorem dX6_dry_31 : decode cX6_dry 31 = .ok (.istore_n 3, 1) := by decide +kernel
theorem dX6_dry_32 : decode cX6_dry 32 = .ok (.iload_n 3, 1) := by decide +kernel
theorem dX6_dry_33 : decode cX6_dry 33 = .ok (.sipush 1000, 3) := by decide +kernel
theorem dX6_dry_36 : decode cX6_dry 36 = .ok (.if_icmp .ge 38, 3) := by decide +kernel
theorem dX6_dry_39 : decode cX6_dry 39 = .ok (.iload_n 2, 1) := by decide +kernel
theorem dX6_dry_40 : decode cX6_dry 40 = .ok (.iconst (-1), 1) := by decide +kernel
theorem dX6_dry_41 : decode cX6_dry 41 = .ok (.if_icmp .ne 33, 3) := by decide +kernel
theorem dX6_dry_44 : decode cX6_dry 44 = .ok (.aload_n 0, 1) := by decide +kernel
theorem dX6_dry_45 : decode cX6_dry 45 = .ok (.iload_n 3, 1) := by decide +kernel
theorem dX6_dry_46 : decode cX6_dry 46 = .ok (.putfield 94, 3) := by decide +kernel
theorem dX6_dry_49 : decode cX6_dry 49 = .ok (.aload_n 0, 1) := by decide +kernel
theorem dX6_dry_50 : decode cX6_dry 50 = .ok (.iload_n 1, 1) := by decide +kernel
theorem dX6_dry_51 : decode cX6_dry 51 = .ok (.invokevirtual 279, 3) := by decide +kernel
theorem dX6_dry_54 : decode cX6_dry 54 = .ok (.aload_n 0, 1) := by decide +kernel
theorem dX6_dry_55 : decode cX6_dry 55 = .ok (.getfield 249, 3) := by decide +kernel
theorem dX6_dry_58 : decode cX6_dry 58 = .ok (.iconst (-1), 1) := by decide +kernel
theorem dX6_dry_59 : decode cX6_dry 59 = .ok (.if_icmp .ne 7, 3) := by decide +kernel
theorem dX6_dry_62 : decode cX6_dry 62 = .ok (.iload_n 3, 1) := by decide +kernel
theorem dX6_dry_63 : decode cX6_dry 63 = .ok (.goto 4, 3) := by decide +kernel
theorem dX6_dry_66 : decode cX6_dry 66 = .ok (.iconst (-1), 1) := by decide +kernel
theorem dX6_dry_67 : decode cX6_dry 67 = .ok (.istore_n 2, 1) := by decide +kernel
theorem dX6_dry_68 : decode cX6_dry 68 = .ok (.iinc 3 1, 3) := by decide +kernel
theorem dX6_dry_71 : decode cX6_dry 71 = .ok (.goto (-39), 3) := by decide +kernel
theorem dX6_dry_74 : decode cX6_dry 74 = .ok (.aload_n 0, 1) := by decide +kernel
theorem dX6_dry_75 : decode cX6_dry 75 = .ok (.iconst (-1), 1) := by decide +kernel
theorem dX6_dry_76 : decode cX6_dry 76 = .ok (.putfield 94, 3) := by decide +kernel
theorem dX6_dry_79 : decode cX6_dry 79 = .ok (.iload_n 2, 1) := by decide +kernel
theorem dX6_dry_80 : decode cX6_dry 80 = .ok (.ireturn, 1) := by decide +kernel
theorem dX6_moves_0 : decode cX6_moves 0 = .ok (.iload_n 3, 1) := by decide +kernel
theorem dX6_moves_1 : decode cX6_moves 1 = .ok (.ifCond .ne 15, 3) := by decide +kernel
theorem dX6_moves_4 : decode cX6_moves 4 = .ok (.aload_n 0, 1) := by decide +kernel
theorem dX6_moves_5 : decode cX6_moves 5 = .ok (.getfield 106, 3) := by decide +kernel
theorem dX6_moves_8 : decode cX6_moves 8 = .ok (.iload_n 1, 1) := by decide +kernel
theorem dX6_moves_9 : decode cX6_moves 9 = .ok (.aaload, 1) := by decide +kernel
theorem dX6_moves_10 : decode cX6_moves 10 = .ok (.aload_n 0, 1) := by decide +kernel
theorem dX6_moves_11 : decode cX6_moves 11 = .ok (.getfield 342, 3) := by decide +kernel
theorem dX6_moves_14 : decode cX6_moves 14 = .ok (.iload_n 2, 1) := by decide +kernel
theorem dX6_moves_15 : decode cX6_moves 15 = .ok (.iastore, 1) := by decide +kernel
theorem dX6_moves_16 : decode cX6_moves 16 = .ok (.aload_n 0, 1) := by decide +kernel
theorem dX6_moves_17 : decode cX6_moves 17 = .ok (.dup, 1) := by decide +kernel
theorem dX6_moves_18 : decode cX6_moves 18 = .ok (.getfield 342, 3) := by decide +kernel
theorem dX6_moves_21 : decode cX6_moves 21 = .ok (.iconst 1, 1) := by decide +kernel
theorem dX6_moves_22 : decode cX6_moves 22 = .ok (.iadd, 1) := by decide +kernel
theorem dX6_moves_23 : decode cX6_moves 23 = .ok (.putfield 342, 3) := by decide +kernel
theorem dX6_moves_26 : decode cX6_moves 26 = .ok (.aload_n 0, 1) := by decide +kernel
theorem dX6_moves_27 : decode cX6_moves 27 = .ok (.getfield 106, 3) := by decide +kernel
theorem dX6_moves_30 : decode cX6_moves 30 = .ok (.iload_n 1, 1) := by decide +kernel
theorem dX6_moves_31 : decode cX6_moves 31 = .ok (.aaload, 1) := by decide +kernel
theorem dX6_moves_32 : decode cX6_moves 32 = .ok (.aload_n 0, 1) := by decide +kernel
theorem dX6_moves_33 : decode cX6_moves 33 = .ok (.getfield 342, 3) := by decide +kernel
theorem dX6_moves_36 : decode cX6_moves 36 = .ok (.iconst 1, 1) := by decide +kernel
theorem dX6_moves_37 : decode cX6_moves 37 = .ok (.isub, 1) := by decide +kernel
theorem dX6_moves_38 : decode cX6_moves 38 = .ok (.iaload, 1) := by decide +kernel
theorem dX6_moves_39 : decode cX6_moves 39 = .ok (.ireturn, 1) := by decide +kernel
theorem dX6_movesRow_0 : decode cX6_movesRow 0 = .ok (.iconst 0, 1) := by decide +kernel
theorem dX6_movesRow_1 : decode cX6_movesRow 1 = .ok (.istore 4, 2) := by decide +kernel
theorem dX6_movesRow_3 : decode cX6_movesRow 3 = .ok (.iload 4, 2) := by decide +kernel
theorem dX6_movesRow_5 : decode cX6_movesRow 5 = .ok (.aload_n 2, 1) := by decide +kernel
theorem dX6_movesRow_6 : decode cX6_movesRow 6 = .ok (.arraylength, 1) := by decide +kernel
theorem dX6_movesRow_7 : decode cX6_movesRow 7 = .ok (.if_icmp .ge 23, 3) := by decide +kernel
theorem dX6_movesRow_10 : decode cX6_movesRow 10 = .ok (.aload_n 2, 1) := by decide +kernel
theorem dX6_movesRow_11 : decode cX6_movesRow 11 = .ok (.iload 4, 2) := by decide +kernel
theorem dX6_movesRow_13 : decode cX6_movesRow 13 = .ok (.aload_n 0, 1) := by decide +kernel
theorem dX6_movesRow_14 : decode cX6_movesRow 14 = .ok (.iload_n 1, 1) := by decide +kernel
theorem dX6_movesRow_15 : decode cX6_movesRow 15 = .ok (.aload_n 2, 1) := by decide +kernel
theorem dX6_movesRow_16 : decode cX6_movesRow 16 = .ok (.iload 4, 2) := by decide +kernel
theorem dX6_movesRow_18 : decode cX6_movesRow 18 = .ok (.iaload, 1) := by decide +kernel
theorem dX6_movesRow_19 : decode cX6_movesRow 19 = .ok (.iload_n 3, 1) := by decide +kernel
theorem dX6_movesRow_20 : decode cX6_movesRow 20 = .ok (.invokevirtual 345, 3) := by decide +kernel
theorem dX6_movesRow_23 : decode cX6_movesRow 23 = .ok (.iastore, 1) := by decide +kernel
theorem dX6_movesRow_24 : decode cX6_movesRow 24 = .ok (.iinc 4 1, 3) := by decide +kernel
theorem dX6_movesRow_27 : decode cX6_movesRow 27 = .ok (.goto (-24), 3) := by decide +kernel
theorem dX6_movesRow_30 : decode cX6_movesRow 30 = .ok (.return_, 1) := by decide +kernel
theorem dX6_movesAll_0 : decode cX6_movesAll 0 = .ok (.aload_n 0, 1) := by decide +kernel
theorem dX6_movesAll_1 : decode cX6_movesAll 1 = .ok (.iconst 0, 1) := by decide +kernel
theorem dX6_movesAll_2 : decode cX6_movesAll 2 = .ok (.putfield 342, 3) := by decide +kernel
theorem dX6_movesAll_5 : decode cX6_movesAll 5 = .ok (.aload_n 0, 1) := by decide +kernel
theorem dX6_movesAll_6 : decode cX6_movesAll 6 = .ok (.aload_n 0, 1) := by decide +kernel
theorem dX6_movesAll_7 : decode cX6_movesAll 7 = .ok (.iload_n 1, 1) := by decide +kernel
theorem dX6_movesAll_8 : decode cX6_movesAll 8 = .ok (.aload_n 0, 1) := by decide +kernel
theorem dX6_movesAll_9 : decode cX6_movesAll 9 = .ok (.getfield 294, 3) := by decide +kernel
theorem dX6_movesAll_12 : decode cX6_movesAll 12 = .ok (.iload_n 2, 1) := by decide +kernel
theorem dX6_movesAll_13 : decode cX6_movesAll 13 = .ok (.invokevirtual 345, 3) := by decide +kernel
theorem dX6_movesAll_16 : decode cX6_movesAll 16 = .ok (.putfield 294, 3) := by decide +kernel
theorem dX6_movesAll_19 : decode cX6_movesAll 19 = .ok (.aload_n 0, 1) := by decide +kernel
theorem dX6_movesAll_20 : decode cX6_movesAll 20 = .ok (.aload_n 0, 1) := by decide +kernel
theorem dX6_movesAll_21 : decode cX6_movesAll 21 = .ok (.iload_n 1, 1) := by decide +kernel
theorem dX6_movesAll_22 : decode cX6_movesAll 22 = .ok (.aload_n 0, 1) := by decide +kernel
theorem dX6_movesAll_23 : decode cX6_movesAll 23 = .ok (.getfield 306, 3) := by decide +kernel
theorem dX6_movesAll_26 : decode cX6_movesAll 26 = .ok (.iload_n 2, 1) := by decide +kernel
theorem dX6_movesAll_27 : decode cX6_movesAll 27 = .ok (.invokevirtual 345, 3) := by decide +kernel
theorem dX6_movesAll_30 : decode cX6_movesAll 30 = .ok (.putfield 306, 3) := by decide +kernel
theorem dX6_movesAll_33 : decode cX6_movesAll 33 = .ok (.aload_n 0, 1) := by decide +kernel
theorem dX6_movesAll_34 : decode cX6_movesAll 34 = .ok (.aload_n 0, 1) := by decide +kernel
theorem dX6_movesAll_35 : decode cX6_movesAll 35 = .ok (.iload_n 1, 1) := by decide +kernel
theorem dX6_movesAll_36 : decode cX6_movesAll 36 = .ok (.aload_n 0, 1) := by decide +kernel
theorem dX6_movesAll_37 : decode cX6_movesAll 37 = .ok (.getfield 237, 3) := by decide +kernel
theorem dX6_movesAll_40 : decode cX6_movesAll 40 = .ok (.iload_n 2, 1) := by decide +kernel
theorem dX6_movesAll_41 : decode cX6_movesAll 41 = .ok (.invokevirtual 345, 3) := by decide +kernel
theorem dX6_movesAll_44 : decode cX6_movesAll 44 = .ok (.putfield 237, 3) := by decide +kernel
theorem dX6_movesAll_47 : decode cX6_movesAll 47 = .ok (.aload_n 0, 1) := by decide +kernel
theorem dX6_movesAll_48 : decode cX6_movesAll 48 = .ok (.iload_n 1, 1) := by decide +kernel
theorem dX6_movesAll_49 : decode cX6_movesAll 49 = .ok (.aload_n 0, 1) := by decide +kernel
theorem dX6_movesAll_50 : decode cX6_movesAll 50 = .ok (.getfield 224, 3) := by decide +kernel
theorem dX6_movesAll_53 : decode cX6_movesAll 53 = .ok (.iload_n 2, 1) := by decide +kernel
theorem dX6_movesAll_54 : decode cX6_movesAll 54 = .ok (.invokevirtual 345, 3) := by decide +kernel
theorem dX6_movesAll_57 : decode cX6_movesAll 57 = .ok (.istore_n 3, 1) := by decide +kernel
theorem dX6_movesAll_58 : decode cX6_movesAll 58 = .ok (.aload_n 0, 1) := by decide +kernel
theorem dX6_movesAll_59 : decode cX6_movesAll 59 = .ok (.iload_n 1, 1) := by decide +kernel
theorem dX6_movesAll_60 : decode cX6_movesAll 60 = .ok (.aload_n 0, 1) := by decide +kernel
theorem dX6_movesAll_61 : decode cX6_movesAll 61 = .ok (.getfield 43, 3) := by decide +kernel
theorem dX6_movesAll_64 : decode cX6_movesAll 64 = .ok (.iload_n 2, 1) := by decide +kernel
theorem dX6_movesAll_65 : decode cX6_movesAll 65 = .ok (.invokevirtual 349, 3) := by decide +kernel
theorem dX6_movesAll_68 : decode cX6_movesAll 68 = .ok (.aload_n 0, 1) := by decide +kernel
theorem dX6_movesAll_69 : decode cX6_movesAll 69 = .ok (.iload_n 1, 1) := by decide +kernel
theorem dX6_movesAll_70 : decode cX6_movesAll 70 = .ok (.aload_n 0, 1) := by decide +kernel
theorem dX6_movesAll_71 : decode cX6_movesAll 71 = .ok (.getfield 46, 3) := by decide +kernel
theorem dX6_movesAll_74 : decode cX6_movesAll 74 = .ok (.iload_n 2, 1) := by decide +kernel
theorem dX6_movesAll_75 : decode cX6_movesAll 75 = .ok (.invokevirtual 349, 3) := by decide +kernel
theorem dX6_movesAll_78 : decode cX6_movesAll 78 = .ok (.aload_n 0, 1) := by decide +kernel
theorem dX6_movesAll_79 : decode cX6_movesAll 79 = .ok (.iload_n 1, 1) := by decide +kernel
theorem dX6_movesAll_80 : decode cX6_movesAll 80 = .ok (.aload_n 0, 1) := by decide +kernel
theorem dX6_movesAll_81 : decode cX6_movesAll 81 = .ok (.getfield 34, 3) := by decide +kernel
theorem dX6_movesAll_84 : decode cX6_movesAll 84 = .ok (.iload_n 2, 1) := by decide +kernel
theorem dX6_movesAll_85 : decode cX6_movesAll 85 = .ok (.invokevirtual 349, 3) := by decide +kernel
theorem dX6_movesAll_88 : decode cX6_movesAll 88 = .ok (.iload_n 3, 1) := by decide +kernel
theorem dX6_movesAll_89 : decode cX6_movesAll 89 = .ok (.istore 4, 2) := by decide +kernel
theorem dX6_movesAll_91 : decode cX6_movesAll 91 = .ok (.iload 4, 2) := by decide +kernel
theorem dX6_movesAll_93 : decode cX6_movesAll 93 = .ok (.bipush 6, 2) := by decide +kernel
theorem dX6_movesAll_95 : decode cX6_movesAll 95 = .ok (.if_icmp .ge 22, 3) := by decide +kernel
theorem dX6_movesAll_98 : decode cX6_movesAll 98 = .ok (.iload_n 2, 1) := by decide +kernel
theorem dX6_movesAll_99 : decode cX6_movesAll 99 = .ok (.ifCond .eq 18, 3) := by decide +kernel
theorem dX6_movesAll_102 : decode cX6_movesAll 102 = .ok (.aload_n 0, 1) := by decide +kernel
theorem dX6_movesAll_103 : decode cX6_movesAll 103 = .ok (.getfield 34, 3) := by decide +kernel
theorem dX6_movesAll_106 : decode cX6_movesAll 106 = .ok (.iload 4, 2) := by decide +kernel
theorem dX6_movesAll_108 : decode cX6_movesAll 108 = .ok (.bipush 10, 2) := by decide +kernel
theorem dX6_movesAll_110 : decode cX6_movesAll 110 = .ok (.iastore, 1) := by decide +kernel
theorem dX6_movesAll_111 : decode cX6_movesAll 111 = .ok (.iinc 4 1, 3) := by decide +kernel
theorem dX6_movesAll_114 : decode cX6_movesAll 114 = .ok (.goto (-23), 3) := by decide +kernel
theorem dX6_movesAll_117 : decode cX6_movesAll 117 = .ok (.iconst 0, 1) := by decide +kernel
theorem dX6_movesAll_118 : decode cX6_movesAll 118 = .ok (.istore 4, 2) := by decide +kernel
theorem dX6_movesAll_120 : decode cX6_movesAll 120 = .ok (.iload 4, 2) := by decide +kernel
theorem dX6_movesAll_122 : decode cX6_movesAll 122 = .ok (.bipush 10, 2) := by decide +kernel
theorem dX6_movesAll_124 : decode cX6_movesAll 124 = .ok (.if_icmp .ge 22, 3) := by decide +kernel
theorem dX6_movesAll_127 : decode cX6_movesAll 127 = .ok (.aload_n 0, 1) := by decide +kernel
theorem dX6_movesAll_128 : decode cX6_movesAll 128 = .ok (.iload_n 1, 1) := by decide +kernel
theorem dX6_movesAll_129 : decode cX6_movesAll 129 = .ok (.aload_n 0, 1) := by decide +kernel
theorem dX6_movesAll_130 : decode cX6_movesAll 130 = .ok (.getfield 97, 3) := by decide +kernel
theorem dX6_movesAll_133 : decode cX6_movesAll 133 = .ok (.iload 4, 2) := by decide +kernel
theorem dX6_movesAll_135 : decode cX6_movesAll 135 = .ok (.aaload, 1) := by decide +kernel
theorem dX6_movesAll_136 : decode cX6_movesAll 136 = .ok (.iload_n 2, 1) := by decide +kernel
theorem dX6_movesAll_137 : decode cX6_movesAll 137 = .ok (.invokevirtual 349, 3) := by decide +kernel
theorem dX6_movesAll_140 : decode cX6_movesAll 140 = .ok (.iinc 4 1, 3) := by decide +kernel
theorem dX6_movesAll_143 : decode cX6_movesAll 143 = .ok (.goto (-23), 3) := by decide +kernel
theorem dX6_movesAll_146 : decode cX6_movesAll 146 = .ok (.iconst 0, 1) := by decide +kernel
theorem dX6_movesAll_147 : decode cX6_movesAll 147 = .ok (.istore 4, 2) := by decide +kernel
theorem dX6_movesAll_149 : decode cX6_movesAll 149 = .ok (.iload 4, 2) := by decide +kernel
theorem dX6_movesAll_151 : decode cX6_movesAll 151 = .ok (.bipush 10, 2) := by decide +kernel
theorem dX6_movesAll_153 : decode cX6_movesAll 153 = .ok (.if_icmp .ge 22, 3) := by decide +kernel
theorem dX6_movesAll_156 : decode cX6_movesAll 156 = .ok (.aload_n 0, 1) := by decide +kernel
theorem dX6_movesAll_157 : decode cX6_movesAll 157 = .ok (.iload_n 1, 1) := by decide +kernel
theorem dX6_movesAll_158 : decode cX6_movesAll 158 = .ok (.aload_n 0, 1) := by decide +kernel
theorem dX6_movesAll_159 : decode cX6_movesAll 159 = .ok (.getfield 100, 3) := by decide +kernel
theorem dX6_movesAll_162 : decode cX6_movesAll 162 = .ok (.iload 4, 2) := by decide +kernel
theorem dX6_movesAll_164 : decode cX6_movesAll 164 = .ok (.aaload, 1) := by decide +kernel
theorem dX6_movesAll_165 : decode cX6_movesAll 165 = .ok (.iload_n 2, 1) := by decide +kernel
theorem dX6_movesAll_166 : decode cX6_movesAll 166 = .ok (.invokevirtual 349, 3) := by decide +kernel
theorem dX6_movesAll_169 : decode cX6_movesAll 169 = .ok (.iinc 4 1, 3) := by decide +kernel
theorem dX6_movesAll_172 : decode cX6_movesAll 172 = .ok (.goto (-23), 3) := by decide +kernel
theorem dX6_movesAll_175 : decode cX6_movesAll 175 = .ok (.iconst 0, 1) := by decide +kernel
theorem dX6_movesAll_176 : decode cX6_movesAll 176 = .ok (.istore 4, 2) := by decide +kernel
theorem dX6_movesAll_178 : decode cX6_movesAll 178 = .ok (.iload 4, 2) := by decide +kernel
theorem dX6_movesAll_180 : decode cX6_movesAll 180 = .ok (.iconst 5, 1) := by decide +kernel
theorem dX6_movesAll_181 : decode cX6_movesAll 181 = .ok (.if_icmp .ge 22, 3) := by decide +kernel
theorem dX6_movesAll_184 : decode cX6_movesAll 184 = .ok (.aload_n 0, 1) := by decide +kernel
theorem dX6_movesAll_185 : decode cX6_movesAll 185 = .ok (.iload_n 1, 1) := by decide +kernel
theorem dX6_movesAll_186 : decode cX6_movesAll 186 = .ok (.aload_n 0, 1) := by decide +kernel
theorem dX6_movesAll_187 : decode cX6_movesAll 187 = .ok (.getfield 103, 3) := by decide +kernel
theorem dX6_movesAll_190 : decode cX6_movesAll 190 = .ok (.iload 4, 2) := by decide +kernel
theorem dX6_movesAll_192 : decode cX6_movesAll 192 = .ok (.aaload, 1) := by decide +kernel
theorem dX6_movesAll_193 : decode cX6_movesAll 193 = .ok (.iload_n 2, 1) := by decide +kernel
theorem dX6_movesAll_194 : decode cX6_movesAll 194 = .ok (.invokevirtual 349, 3) := by decide +kernel
theorem dX6_movesAll_197 : decode cX6_movesAll 197 = .ok (.iinc 4 1, 3) := by decide +kernel
theorem dX6_movesAll_200 : decode cX6_movesAll 200 = .ok (.goto (-22), 3) := by decide +kernel
theorem dX6_movesAll_203 : decode cX6_movesAll 203 = .ok (.return_, 1) := by decide +kernel
theorem dX6_image_0 : decode cX6_image 0 = .ok (.aload_n 0, 1) := by decide +kernel
theorem dX6_image_1 : decode cX6_image 1 = .ok (.iconst 0, 1) := by decide +kernel
theorem dX6_image_2 : decode cX6_image 2 = .ok (.putfield 113, 3) := by decide +kernel
theorem dX6_image_5 : decode cX6_image 5 = .ok (.aload_n 0, 1) := by decide +kernel
theorem dX6_image_6 : decode cX6_image 6 = .ok (.getfield 353, 3) := by decide +kernel
theorem dX6_image_9 : decode cX6_image 9 = .ok (.iconst 3, 1) := by decide +kernel
theorem dX6_image_10 : decode cX6_image 10 = .ok (.if_icmp .ne 5, 3) := by decide +kernel
theorem dX6_image_13 : decode cX6_image 13 = .ok (.iconst (-1), 1) := by decide +kernel
theorem dX6_image_14 : decode cX6_image 14 = .ok (.ireturn, 1) := by decide +kernel
theorem dX6_image_15 : decode cX6_image 15 = .ok (.aload_n 0, 1) := by decide +kernel
theorem dX6_image_16 : decode cX6_image 16 = .ok (.aload_n 0, 1) := by decide +kernel
theorem dX6_image_17 : decode cX6_image 17 = .ok (.getfield 353, 3) := by decide +kernel
theorem dX6_image_20 : decode cX6_image 20 = .ok (.iconst 0, 1) := by decide +kernel
theorem dX6_image_21 : decode cX6_image 21 = .ok (.invokevirtual 356, 3) := by decide +kernel
theorem dX6_image_24 : decode cX6_image 24 = .ok (.aload_n 0, 1) := by decide +kernel
theorem dX6_image_25 : decode cX6_image 25 = .ok (.dup, 1) := by decide +kernel
theorem dX6_image_26 : decode cX6_image 26 = .ok (.getfield 353, 3) := by decide +kernel
theorem dX6_image_29 : decode cX6_image 29 = .ok (.iconst 1, 1) := by decide +kernel
theorem dX6_image_30 : decode cX6_image 30 = .ok (.iadd, 1) := by decide +kernel
theorem dX6_image_31 : decode cX6_image 31 = .ok (.putfield 353, 3) := by decide +kernel
theorem dX6_image_34 : decode cX6_image 34 = .ok (.aload_n 0, 1) := by decide +kernel
theorem dX6_image_35 : decode cX6_image 35 = .ok (.getfield 353, 3) := by decide +kernel
theorem dX6_image_38 : decode cX6_image 38 = .ok (.ireturn, 1) := by decide +kernel
theorem dX6_restore_0 : decode cX6_restore 0 = .ok (.aload_n 0, 1) := by decide +kernel
theorem dX6_restore_1 : decode cX6_restore 1 = .ok (.iconst 0, 1) := by decide +kernel
theorem dX6_restore_2 : decode cX6_restore 2 = .ok (.putfield 113, 3) := by decide +kernel
theorem dX6_restore_5 : decode cX6_restore 5 = .ok (.aload_n 0, 1) := by decide +kernel
theorem dX6_restore_6 : decode cX6_restore 6 = .ok (.getfield 353, 3) := by decide +kernel
theorem dX6_restore_9 : decode cX6_restore 9 = .ok (.ifCond .ne 5, 3) := by decide +kernel
theorem dX6_restore_12 : decode cX6_restore 12 = .ok (.iconst (-1), 1) := by decide +kernel
theorem dX6_restore_13 : decode cX6_restore 13 = .ok (.ireturn, 1) := by decide +kernel
theorem dX6_restore_14 : decode cX6_restore 14 = .ok (.aload_n 0, 1) := by decide +kernel
theorem dX6_restore_15 : decode cX6_restore 15 = .ok (.dup, 1) := by decide +kernel
theorem dX6_restore_16 : decode cX6_restore 16 = .ok (.getfield 353, 3) := by decide +kernel
theorem dX6_restore_19 : decode cX6_restore 19 = .ok (.iconst 1, 1) := by decide +kernel
theorem dX6_restore_20 : decode cX6_restore 20 = .ok (.isub, 1) := by decide +kernel
theorem dX6_restore_21 : decode cX6_restore 21 = .ok (.putfield 353, 3) := by decide +kernel
theorem dX6_restore_24 : decode cX6_restore 24 = .ok (.aload_n 0, 1) := by decide +kernel
theorem dX6_restore_25 : decode cX6_restore 25 = .ok (.aload_n 0, 1) := by decide +kernel
theorem dX6_restore_26 : decode cX6_restore 26 = .ok (.getfield 353, 3) := by decide +kernel
theorem dX6_restore_29 : decode cX6_restore 29 = .ok (.iconst 1, 1) := by decide +kernel
theorem dX6_restore_30 : decode cX6_restore 30 = .ok (.invokevirtual 356, 3) := by decide +kernel
theorem dX6_restore_33 : decode cX6_restore 33 = .ok (.aload_n 0, 1) := by decide +kernel
theorem dX6_restore_34 : decode cX6_restore 34 = .ok (.getfield 353, 3) := by decide +kernel
theorem dX6_restore_37 : decode cX6_restore 37 = .ok (.ireturn, 1) := by decide +kernel
theorem dX6_count_0 : decode cX6_count 0 = .ok (.aload_n 0, 1) := by decide +kernel
theorem dX6_count_1 : decode cX6_count 1 = .ok (.iconst 0, 1) := by decide +kernel
theorem dX6_count_2 : decode cX6_count 2 = .ok (.putfield 113, 3) := by decide +kernel
theorem dX6_count_5 : decode cX6_count 5 = .ok (.iload_n 1, 1) := by decide +kernel
theorem dX6_count_6 : decode cX6_count 6 = .ok (.bipush 10, 2) := by decide +kernel
theorem dX6_count_8 : decode cX6_count 8 = .ok (.bipush 19, 2) := by decide +kernel
theorem dX6_count_10 : decode cX6_count 10 = .ok (.invokestatic 150, 3) := by decide +kernel
theorem dX6_count_13 : decode cX6_count 13 = .ok (.ifCond .eq 13, 3) := by decide +kernel
theorem dX6_count_16 : decode cX6_count 16 = .ok (.aload_n 0, 1) := by decide +kernel
theorem dX6_count_17 : decode cX6_count 17 = .ok (.getfield 43, 3) := by decide +kernel
theorem dX6_count_20 : decode cX6_count 20 = .ok (.iload_n 1, 1) := by decide +kernel
theorem dX6_count_21 : decode cX6_count 21 = .ok (.bipush 10, 2) := by decide +kernel
theorem dX6_count_23 : decode cX6_count 23 = .ok (.isub, 1) := by decide +kernel
theorem dX6_count_24 : decode cX6_count 24 = .ok (.iaload, 1) := by decide +kernel
theorem dX6_count_25 : decode cX6_count 25 = .ok (.ireturn, 1) := by decide +kernel
theorem dX6_count_26 : decode cX6_count 26 = .ok (.iload_n 1, 1) := by decide +kernel
theorem dX6_count_27 : decode cX6_count 27 = .ok (.tableswitch 67 0 5 #[37, 42, 47, 52, 57, 62], 37) := by decide +kernel
theorem dX6_count_64 : decode cX6_count 64 = .ok (.aload_n 0, 1) := by decide +kernel
theorem dX6_count_65 : decode cX6_count 65 = .ok (.getfield 224, 3) := by decide +kernel
theorem dX6_count_68 : decode cX6_count 68 = .ok (.ireturn, 1) := by decide +kernel
theorem dX6_count_69 : decode cX6_count 69 = .ok (.aload_n 0, 1) := by decide +kernel
theorem dX6_count_70 : decode cX6_count 70 = .ok (.getfield 294, 3) := by decide +kernel
theorem dX6_count_73 : decode cX6_count 73 = .ok (.ireturn, 1) := by decide +kernel
theorem dX6_count_74 : decode cX6_count 74 = .ok (.aload_n 0, 1) := by decide +kernel
theorem dX6_count_75 : decode cX6_count 75 = .ok (.getfield 306, 3) := by decide +kernel
theorem dX6_count_78 : decode cX6_count 78 = .ok (.ireturn, 1) := by decide +kernel
theorem dX6_count_79 : decode cX6_count 79 = .ok (.aload_n 0, 1) := by decide +kernel
theorem dX6_count_80 : decode cX6_count 80 = .ok (.getfield 237, 3) := by decide +kernel
theorem dX6_count_83 : decode cX6_count 83 = .ok (.ireturn, 1) := by decide +kernel
theorem dX6_count_84 : decode cX6_count 84 = .ok (.aload_n 0, 1) := by decide +kernel
theorem dX6_count_85 : decode cX6_count 85 = .ok (.getfield 353, 3) := by decide +kernel
theorem dX6_count_88 : decode cX6_count 88 = .ok (.ireturn, 1) := by decide +kernel
theorem dX6_count_89 : decode cX6_count 89 = .ok (.aload_n 0, 1) := by decide +kernel
theorem dX6_count_90 : decode cX6_count 90 = .ok (.getfield 116, 3) := by decide +kernel
theorem dX6_count_93 : decode cX6_count 93 = .ok (.ireturn, 1) := by decide +kernel
theorem dX6_count_94 : decode cX6_count 94 = .ok (.iconst (-1), 1) := by decide +kernel
theorem dX6_count_95 : decode cX6_count 95 = .ok (.ireturn, 1) := by decide +kernel
