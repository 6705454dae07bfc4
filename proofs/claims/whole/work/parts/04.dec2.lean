theorem dX11_init_0 : decode cX11_init 0 = .ok (.aload_n 0, 1) := by decide +kernel
theorem dX11_init_1 : decode cX11_init 1 = .ok (.invokespecial 1, 3) := by decide +kernel
theorem dX11_init_4 : decode cX11_init 4 = .ok (.aload_n 0, 1) := by decide +kernel
theorem dX11_init_5 : decode cX11_init 5 = .ok (.sipush 3000, 3) := by decide +kernel
theorem dX11_init_8 : decode cX11_init 8 = .ok (.newarray .int, 2) := by decide +kernel
theorem dX11_init_10 : decode cX11_init 10 = .ok (.putfield 7, 3) := by decide +kernel
theorem dX11_init_13 : decode cX11_init 13 = .ok (.aload_n 0, 1) := by decide +kernel
theorem dX11_init_14 : decode cX11_init 14 = .ok (.iconst 5, 1) := by decide +kernel
theorem dX11_init_15 : decode cX11_init 15 = .ok (.newarray .int, 2) := by decide +kernel
theorem dX11_init_17 : decode cX11_init 17 = .ok (.putfield 13, 3) := by decide +kernel
theorem dX11_init_20 : decode cX11_init 20 = .ok (.aload_n 0, 1) := by decide +kernel
theorem dX11_init_21 : decode cX11_init 21 = .ok (.iconst 4, 1) := by decide +kernel
theorem dX11_init_22 : decode cX11_init 22 = .ok (.newarray .int, 2) := by decide +kernel
theorem dX11_init_24 : decode cX11_init 24 = .ok (.putfield 16, 3) := by decide +kernel
theorem dX11_init_27 : decode cX11_init 27 = .ok (.aload_n 0, 1) := by decide +kernel
theorem dX11_init_28 : decode cX11_init 28 = .ok (.sipush 600, 3) := by decide +kernel
theorem dX11_init_31 : decode cX11_init 31 = .ok (.newarray .int, 2) := by decide +kernel
theorem dX11_init_33 : decode cX11_init 33 = .ok (.putfield 19, 3) := by decide +kernel
theorem dX11_init_36 : decode cX11_init 36 = .ok (.aload_n 0, 1) := by decide +kernel
theorem dX11_init_37 : decode cX11_init 37 = .ok (.bipush 10, 2) := by decide +kernel
theorem dX11_init_39 : decode cX11_init 39 = .ok (.newarray .long, 2) := by decide +kernel
theorem dX11_init_41 : decode cX11_init 41 = .ok (.putfield 22, 3) := by decide +kernel
theorem dX11_init_44 : decode cX11_init 44 = .ok (.aload_n 0, 1) := by decide +kernel
theorem dX11_init_45 : decode cX11_init 45 = .ok (.bipush 10, 2) := by decide +kernel
theorem dX11_init_47 : decode cX11_init 47 = .ok (.newarray .int, 2) := by decide +kernel
theorem dX11_init_49 : decode cX11_init 49 = .ok (.putfield 26, 3) := by decide +kernel
theorem dX11_init_52 : decode cX11_init 52 = .ok (.aload_n 0, 1) := by decide +kernel
theorem dX11_init_53 : decode cX11_init 53 = .ok (.sipush 602, 3) := by decide +kernel
theorem dX11_init_56 : decode cX11_init 56 = .ok (.newarray .int, 2) := by decide +kernel
theorem dX11_init_58 : decode cX11_init 58 = .ok (.putfield 29, 3) := by decide +kernel
theorem dX11_init_61 : decode cX11_init 61 = .ok (.aload_n 0, 1) := by decide +kernel
theorem dX11_init_62 : decode cX11_init 62 = .ok (.sipush 602, 3) := by decide +kernel
theorem dX11_init_65 : decode cX11_init 65 = .ok (.newarray .int, 2) := by decide +kernel
theorem dX11_init_67 : decode cX11_init 67 = .ok (.putfield 32, 3) := by decide +kernel
theorem dX11_init_70 : decode cX11_init 70 = .ok (.aload_n 0, 1) := by decide +kernel
theorem dX11_init_71 : decode cX11_init 71 = .ok (.sipush 602, 3) := by decide +kernel
theorem dX11_init_74 : decode cX11_init 74 = .ok (.newarray .int, 2) := by decide +kernel
theorem dX11_init_76 : decode cX11_init 76 = .ok (.putfield 35, 3) := by decide +kernel
theorem dX11_init_79 : decode cX11_init 79 = .ok (.aload_n 0, 1) := by decide +kernel
theorem dX11_init_80 : decode cX11_init 80 = .ok (.sipush 602, 3) := by decide +kernel
theorem dX11_init_83 : decode cX11_init 83 = .ok (.newarray .int, 2) := by decide +kernel
theorem dX11_init_85 : decode cX11_init 85 = .ok (.putfield 38, 3) := by decide +kernel
theorem dX11_init_88 : decode cX11_init 88 = .ok (.aload_n 0, 1) := by decide +kernel
theorem dX11_init_89 : decode cX11_init 89 = .ok (.sipush 602, 3) := by decide +kernel
theorem dX11_init_92 : decode cX11_init 92 = .ok (.newarray .int, 2) := by decide +kernel
theorem dX11_init_94 : decode cX11_init 94 = .ok (.putfield 41, 3) := by decide +kernel
theorem dX11_init_97 : decode cX11_init 97 = .ok (.aload_n 0, 1) := by decide +kernel
theorem dX11_init_98 : decode cX11_init 98 = .ok (.sipush 602, 3) := by decide +kernel
theorem dX11_init_101 : decode cX11_init 101 = .ok (.newarray .int, 2) := by decide +kernel
theorem dX11_init_103 : decode cX11_init 103 = .ok (.putfield 44, 3) := by decide +kernel
theorem dX11_init_106 : decode cX11_init 106 = .ok (.aload_n 0, 1) := by decide +kernel
theorem dX11_init_107 : decode cX11_init 107 = .ok (.bipush 24, 2) := by decide +kernel
theorem dX11_init_109 : decode cX11_init 109 = .ok (.newarray .long, 2) := by decide +kernel
theorem dX11_init_111 : decode cX11_init 111 = .ok (.putfield 47, 3) := by decide +kernel
theorem dX11_init_114 : decode cX11_init 114 = .ok (.aload_n 0, 1) := by decide +kernel
theorem dX11_init_115 : decode cX11_init 115 = .ok (.bipush 24, 2) := by decide +kernel
theorem dX11_init_117 : decode cX11_init 117 = .ok (.newarray .int, 2) := by decide +kernel
theorem dX11_init_119 : decode cX11_init 119 = .ok (.putfield 50, 3) := by decide +kernel
theorem dX11_init_122 : decode cX11_init 122 = .ok (.aload_n 0, 1) := by decide +kernel
theorem dX11_init_123 : decode cX11_init 123 = .ok (.bipush 24, 2) := by decide +kernel
theorem dX11_init_125 : decode cX11_init 125 = .ok (.newarray .boolean, 2) := by decide +kernel
theorem dX11_init_127 : decode cX11_init 127 = .ok (.putfield 53, 3) := by decide +kernel
theorem dX11_init_130 : decode cX11_init 130 = .ok (.aload_n 0, 1) := by decide +kernel
theorem dX11_init_131 : decode cX11_init 131 = .ok (.bipush 24, 2) := by decide +kernel
theorem dX11_init_133 : decode cX11_init 133 = .ok (.newarray .boolean, 2) := by decide +kernel
theorem dX11_init_135 : decode cX11_init 135 = .ok (.putfield 57, 3) := by decide +kernel
theorem dX11_init_138 : decode cX11_init 138 = .ok (.aload_n 0, 1) := by decide +kernel
theorem dX11_init_139 : decode cX11_init 139 = .ok (.bipush 24, 2) := by decide +kernel
theorem dX11_init_141 : decode cX11_init 141 = .ok (.newarray .boolean, 2) := by decide +kernel
theorem dX11_init_143 : decode cX11_init 143 = .ok (.putfield 60, 3) := by decide +kernel
theorem dX11_init_146 : decode cX11_init 146 = .ok (.aload_n 0, 1) := by decide +kernel
theorem dX11_init_147 : decode cX11_init 147 = .ok (.bipush 24, 2) := by decide +kernel
theorem dX11_init_149 : decode cX11_init 149 = .ok (.newarray .boolean, 2) := by decide +kernel
theorem dX11_init_151 : decode cX11_init 151 = .ok (.putfield 63, 3) := by decide +kernel
theorem dX11_init_154 : decode cX11_init 154 = .ok (.aload_n 0, 1) := by decide +kernel
theorem dX11_init_155 : decode cX11_init 155 = .ok (.sipush 576, 3) := by decide +kernel
theorem dX11_init_158 : decode cX11_init 158 = .ok (.newarray .int, 2) := by decide +kernel
theorem dX11_init_160 : decode cX11_init 160 = .ok (.putfield 66, 3) := by decide +kernel
theorem dX11_init_163 : decode cX11_init 163 = .ok (.aload_n 0, 1) := by decide +kernel
theorem dX11_init_164 : decode cX11_init 164 = .ok (.sipush 576, 3) := by decide +kernel
theorem dX11_init_167 : decode cX11_init 167 = .ok (.newarray .boolean, 2) := by decide +kernel
theorem dX11_init_169 : decode cX11_init 169 = .ok (.putfield 69, 3) := by decide +kernel
theorem dX11_init_172 : decode cX11_init 172 = .ok (.aload_n 0, 1) := by decide +kernel
theorem dX11_init_173 : decode cX11_init 173 = .ok (.sipush 576, 3) := by decide +kernel
theorem dX11_init_176 : decode cX11_init 176 = .ok (.newarray .boolean, 2) := by decide +kernel
theorem dX11_init_178 : decode cX11_init 178 = .ok (.putfield 72, 3) := by decide +kernel
theorem dX11_init_181 : decode cX11_init 181 = .ok (.aload_n 0, 1) := by decide +kernel
theorem dX11_init_182 : decode cX11_init 182 = .ok (.sipush 576, 3) := by decide +kernel
theorem dX11_init_185 : decode cX11_init 185 = .ok (.newarray .boolean, 2) := by decide +kernel
theorem dX11_init_187 : decode cX11_init 187 = .ok (.putfield 75, 3) := by decide +kernel
theorem dX11_init_190 : decode cX11_init 190 = .ok (.aload_n 0, 1) := by decide +kernel
theorem dX11_init_191 : decode cX11_init 191 = .ok (.sipush 576, 3) := by decide +kernel
theorem dX11_init_194 : decode cX11_init 194 = .ok (.newarray .int, 2) := by decide +kernel
theorem dX11_init_196 : decode cX11_init 196 = .ok (.putfield 78, 3) := by decide +kernel
theorem dX11_init_199 : decode cX11_init 199 = .ok (.aload_n 0, 1) := by decide +kernel
theorem dX11_init_200 : decode cX11_init 200 = .ok (.sipush 576, 3) := by decide +kernel
theorem dX11_init_203 : decode cX11_init 203 = .ok (.newarray .boolean, 2) := by decide +kernel
theorem dX11_init_205 : decode cX11_init 205 = .ok (.putfield 81, 3) := by decide +kernel
theorem dX11_init_208 : decode cX11_init 208 = .ok (.aload_n 0, 1) := by decide +kernel
theorem dX11_init_209 : decode cX11_init 209 = .ok (.bipush 24, 2) := by decide +kernel
theorem dX11_init_211 : decode cX11_init 211 = .ok (.newarray .boolean, 2) := by decide +kernel
theorem dX11_init_213 : decode cX11_init 213 = .ok (.putfield 84, 3) := by decide +kernel
theorem dX11_init_216 : decode cX11_init 216 = .ok (.aload_n 0, 1) := by decide +kernel
theorem dX11_init_217 : decode cX11_init 217 = .ok (.bipush 96, 2) := by decide +kernel
theorem dX11_init_219 : decode cX11_init 219 = .ok (.newarray .int, 2) := by decide +kernel
theorem dX11_init_221 : decode cX11_init 221 = .ok (.putfield 87, 3) := by decide +kernel
theorem dX11_init_224 : decode cX11_init 224 = .ok (.aload_n 0, 1) := by decide +kernel
theorem dX11_init_225 : decode cX11_init 225 = .ok (.bipush 96, 2) := by decide +kernel
theorem dX11_init_227 : decode cX11_init 227 = .ok (.newarray .int, 2) := by decide +kernel
theorem dX11_init_229 : decode cX11_init 229 = .ok (.putfield 90, 3) := by decide +kernel
theorem dX11_init_232 : decode cX11_init 232 = .ok (.aload_n 0, 1) := by decide +kernel
theorem dX11_init_233 : decode cX11_init 233 = .ok (.bipush 96, 2) := by decide +kernel
theorem dX11_init_235 : decode cX11_init 235 = .ok (.newarray .int, 2) := by decide +kernel
theorem dX11_init_237 : decode cX11_init 237 = .ok (.putfield 93, 3) := by decide +kernel
theorem dX11_init_240 : decode cX11_init 240 = .ok (.aload_n 0, 1) := by decide +kernel
theorem dX11_init_241 : decode cX11_init 241 = .ok (.bipush 96, 2) := by decide +kernel
theorem dX11_init_243 : decode cX11_init 243 = .ok (.newarray .int, 2) := by decide +kernel
theorem dX11_init_245 : decode cX11_init 245 = .ok (.putfield 96, 3) := by decide +kernel
theorem dX11_init_248 : decode cX11_init 248 = .ok (.aload_n 0, 1) := by decide +kernel
theorem dX11_init_249 : decode cX11_init 249 = .ok (.bipush 97, 2) := by decide +kernel
theorem dX11_init_251 : decode cX11_init 251 = .ok (.newarray .int, 2) := by decide +kernel
theorem dX11_init_253 : decode cX11_init 253 = .ok (.putfield 99, 3) := by decide +kernel
theorem dX11_init_256 : decode cX11_init 256 = .ok (.aload_n 0, 1) := by decide +kernel
theorem dX11_init_257 : decode cX11_init 257 = .ok (.sipush 4096, 3) := by decide +kernel
theorem dX11_init_260 : decode cX11_init 260 = .ok (.newarray .int, 2) := by decide +kernel
theorem dX11_init_262 : decode cX11_init 262 = .ok (.putfield 102, 3) := by decide +kernel
theorem dX11_init_265 : decode cX11_init 265 = .ok (.aload_n 0, 1) := by decide +kernel
theorem dX11_init_266 : decode cX11_init 266 = .ok (.getfield 22, 3) := by decide +kernel
theorem dX11_init_269 : decode cX11_init 269 = .ok (.iconst 0, 1) := by decide +kernel
theorem dX11_init_270 : decode cX11_init 270 = .ok (.lconst 0, 1) := by decide +kernel
theorem dX11_init_271 : decode cX11_init 271 = .ok (.bipush 76, 2) := by decide +kernel
theorem dX11_init_273 : decode cX11_init 273 = .ok (.bipush 79, 2) := by decide +kernel
theorem dX11_init_275 : decode cX11_init 275 = .ok (.bipush 67, 2) := by decide +kernel
theorem dX11_init_277 : decode cX11_init 277 = .ok (.bipush 65, 2) := by decide +kernel
theorem dX11_init_279 : decode cX11_init 279 = .ok (.bipush 76, 2) := by decide +kernel
theorem dX11_init_281 : decode cX11_init 281 = .ok (.invokestatic 105, 3) := by decide +kernel
theorem dX11_init_284 : decode cX11_init 284 = .ok (.lastore, 1) := by decide +kernel
theorem dX11_init_285 : decode cX11_init 285 = .ok (.aload_n 0, 1) := by decide +kernel
theorem dX11_init_286 : decode cX11_init 286 = .ok (.getfield 22, 3) := by decide +kernel
theorem dX11_init_289 : decode cX11_init 289 = .ok (.iconst 1, 1) := by decide +kernel
theorem dX11_init_290 : decode cX11_init 290 = .ok (.lconst 0, 1) := by decide +kernel
theorem dX11_init_291 : decode cX11_init 291 = .ok (.bipush 68, 2) := by decide +kernel
theorem dX11_init_293 : decode cX11_init 293 = .ok (.bipush 69, 2) := by decide +kernel
theorem dX11_init_295 : decode cX11_init 295 = .ok (.bipush 68, 2) := by decide +kernel
theorem dX11_init_297 : decode cX11_init 297 = .ok (.bipush 73, 2) := by decide +kernel
theorem dX11_init_299 : decode cX11_init 299 = .ok (.bipush 67, 2) := by decide +kernel
theorem dX11_init_301 : decode cX11_init 301 = .ok (.invokestatic 105, 3) := by decide +kernel
theorem dX11_init_304 : decode cX11_init 304 = .ok (.bipush 65, 2) := by decide +kernel
theorem dX11_init_306 : decode cX11_init 306 = .ok (.bipush 84, 2) := by decide +kernel
theorem dX11_init_308 : decode cX11_init 308 = .ok (.bipush 69, 2) := by decide +kernel
theorem dX11_init_310 : decode cX11_init 310 = .ok (.bipush 68, 2) := by decide +kernel
theorem dX11_init_312 : decode cX11_init 312 = .ok (.iconst 0, 1) := by decide +kernel
theorem dX11_init_313 : decode cX11_init 313 = .ok (.invokestatic 105, 3) := by decide +kernel
theorem dX11_init_316 : decode cX11_init 316 = .ok (.lastore, 1) := by decide +kernel
theorem dX11_init_317 : decode cX11_init 317 = .ok (.aload_n 0, 1) := by decide +kernel
theorem dX11_init_318 : decode cX11_init 318 = .ok (.getfield 22, 3) := by decide +kernel
theorem dX11_init_321 : decode cX11_init 321 = .ok (.iconst 2, 1) := by decide +kernel
theorem dX11_init_322 : decode cX11_init 322 = .ok (.lconst 0, 1) := by decide +kernel
theorem dX11_init_323 : decode cX11_init 323 = .ok (.bipush 68, 2) := by decide +kernel
theorem dX11_init_325 : decode cX11_init 325 = .ok (.bipush 73, 2) := by decide +kernel
theorem dX11_init_327 : decode cX11_init 327 = .ok (.bipush 82, 2) := by decide +kernel
theorem dX11_init_329 : decode cX11_init 329 = .ok (.bipush 69, 2) := by decide +kernel
theorem dX11_init_331 : decode cX11_init 331 = .ok (.bipush 67, 2) := by decide +kernel
theorem dX11_init_333 : decode cX11_init 333 = .ok (.invokestatic 105, 3) := by decide +kernel
theorem dX11_init_336 : decode cX11_init 336 = .ok (.bipush 84, 2) := by decide +kernel
theorem dX11_init_338 : decode cX11_init 338 = .ok (.iconst 0, 1) := by decide +kernel
theorem dX11_init_339 : decode cX11_init 339 = .ok (.iconst 0, 1) := by decide +kernel
theorem dX11_init_340 : decode cX11_init 340 = .ok (.iconst 0, 1) := by decide +kernel
theorem dX11_init_341 : decode cX11_init 341 = .ok (.iconst 0, 1) := by decide +kernel
theorem dX11_init_342 : decode cX11_init 342 = .ok (.invokestatic 105, 3) := by decide +kernel
theorem dX11_init_345 : decode cX11_init 345 = .ok (.lastore, 1) := by decide +kernel
theorem dX11_init_346 : decode cX11_init 346 = .ok (.aload_n 0, 1) := by decide +kernel
theorem dX11_init_347 : decode cX11_init 347 = .ok (.getfield 22, 3) := by decide +kernel
theorem dX11_init_350 : decode cX11_init 350 = .ok (.iconst 3, 1) := by decide +kernel
theorem dX11_init_351 : decode cX11_init 351 = .ok (.lconst 0, 1) := by decide +kernel
theorem dX11_init_352 : decode cX11_init 352 = .ok (.bipush 68, 2) := by decide +kernel
theorem dX11_init_354 : decode cX11_init 354 = .ok (.bipush 69, 2) := by decide +kernel
theorem dX11_init_356 : decode cX11_init 356 = .ok (.bipush 77, 2) := by decide +kernel
theorem dX11_init_358 : decode cX11_init 358 = .ok (.bipush 65, 2) := by decide +kernel
theorem dX11_init_360 : decode cX11_init 360 = .ok (.bipush 78, 2) := by decide +kernel
theorem dX11_init_362 : decode cX11_init 362 = .ok (.invokestatic 105, 3) := by decide +kernel
theorem dX11_init_365 : decode cX11_init 365 = .ok (.bipush 68, 2) := by decide +kernel
theorem dX11_init_367 : decode cX11_init 367 = .ok (.iconst 0, 1) := by decide +kernel
theorem dX11_init_368 : decode cX11_init 368 = .ok (.iconst 0, 1) := by decide +kernel
theorem dX11_init_369 : decode cX11_init 369 = .ok (.iconst 0, 1) := by decide +kernel
theorem dX11_init_370 : decode cX11_init 370 = .ok (.iconst 0, 1) := by decide +kernel
theorem dX11_init_371 : decode cX11_init 371 = .ok (.invokestatic 105, 3) := by decide +kernel
theorem dX11_init_374 : decode cX11_init 374 = .ok (.lastore, 1) := by decide +kernel
theorem dX11_init_375 : decode cX11_init 375 = .ok (.aload_n 0, 1) := by decide +kernel
theorem dX11_init_376 : decode cX11_init 376 = .ok (.getfield 22, 3) := by decide +kernel
theorem dX11_init_379 : decode cX11_init 379 = .ok (.iconst 4, 1) := by decide +kernel
theorem dX11_init_380 : decode cX11_init 380 = .ok (.lconst 0, 1) := by decide +kernel
theorem dX11_init_381 : decode cX11_init 381 = .ok (.bipush 72, 2) := by decide +kernel
theorem dX11_init_383 : decode cX11_init 383 = .ok (.bipush 79, 2) := by decide +kernel
theorem dX11_init_385 : decode cX11_init 385 = .ok (.bipush 85, 2) := by decide +kernel
theorem dX11_init_387 : decode cX11_init 387 = .ok (.bipush 82, 2) := by decide +kernel
theorem dX11_init_389 : decode cX11_init 389 = .ok (.bipush 76, 2) := by decide +kernel
theorem dX11_init_391 : decode cX11_init 391 = .ok (.invokestatic 105, 3) := by decide +kernel
theorem dX11_init_394 : decode cX11_init 394 = .ok (.bipush 89, 2) := by decide +kernel
theorem dX11_init_396 : decode cX11_init 396 = .ok (.iconst 0, 1) := by decide +kernel
theorem dX11_init_397 : decode cX11_init 397 = .ok (.iconst 0, 1) := by decide +kernel
theorem dX11_init_398 : decode cX11_init 398 = .ok (.iconst 0, 1) := by decide +kernel
theorem dX11_init_399 : decode cX11_init 399 = .ok (.iconst 0, 1) := by decide +kernel
theorem dX11_init_400 : decode cX11_init 400 = .ok (.invokestatic 105, 3) := by decide +kernel
theorem dX11_init_403 : decode cX11_init 403 = .ok (.lastore, 1) := by decide +kernel
theorem dX11_init_404 : decode cX11_init 404 = .ok (.aload_n 0, 1) := by decide +kernel
theorem dX11_init_405 : decode cX11_init 405 = .ok (.getfield 22, 3) := by decide +kernel
theorem dX11_init_408 : decode cX11_init 408 = .ok (.iconst 5, 1) := by decide +kernel
theorem dX11_init_409 : decode cX11_init 409 = .ok (.lconst 0, 1) := by decide +kernel
theorem dX11_init_410 : decode cX11_init 410 = .ok (.bipush 69, 2) := by decide +kernel
theorem dX11_init_412 : decode cX11_init 412 = .ok (.bipush 86, 2) := by decide +kernel
theorem dX11_init_414 : decode cX11_init 414 = .ok (.bipush 69, 2) := by decide +kernel
theorem dX11_init_416 : decode cX11_init 416 = .ok (.bipush 78, 2) := by decide +kernel
theorem dX11_init_418 : decode cX11_init 418 = .ok (.bipush 73, 2) := by decide +kernel
theorem dX11_init_420 : decode cX11_init 420 = .ok (.invokestatic 105, 3) := by decide +kernel
theorem dX11_init_423 : decode cX11_init 423 = .ok (.bipush 78, 2) := by decide +kernel
theorem dX11_init_425 : decode cX11_init 425 = .ok (.bipush 71, 2) := by decide +kernel
theorem dX11_init_427 : decode cX11_init 427 = .ok (.iconst 0, 1) := by decide +kernel
theorem dX11_init_428 : decode cX11_init 428 = .ok (.iconst 0, 1) := by decide +kernel
theorem dX11_init_429 : decode cX11_init 429 = .ok (.iconst 0, 1) := by decide +kernel
theorem dX11_init_430 : decode cX11_init 430 = .ok (.invokestatic 105, 3) := by decide +kernel
theorem dX11_init_433 : decode cX11_init 433 = .ok (.lastore, 1) := by decide +kernel
theorem dX11_init_434 : decode cX11_init 434 = .ok (.aload_n 0, 1) := by decide +kernel
theorem dX11_init_435 : decode cX11_init 435 = .ok (.getfield 22, 3) := by decide +kernel
theorem dX11_init_438 : decode cX11_init 438 = .ok (.bipush 6, 2) := by decide +kernel
theorem dX11_init_440 : decode cX11_init 440 = .ok (.lconst 0, 1) := by decide +kernel
theorem dX11_init_441 : decode cX11_init 441 = .ok (.bipush 68, 2) := by decide +kernel
theorem dX11_init_443 : decode cX11_init 443 = .ok (.bipush 65, 2) := by decide +kernel
theorem dX11_init_445 : decode cX11_init 445 = .ok (.bipush 73, 2) := by decide +kernel
theorem dX11_init_447 : decode cX11_init 447 = .ok (.bipush 76, 2) := by decide +kernel
theorem dX11_init_449 : decode cX11_init 449 = .ok (.bipush 89, 2) := by decide +kernel
theorem dX11_init_451 : decode cX11_init 451 = .ok (.invokestatic 105, 3) := by decide +kernel
theorem dX11_init_454 : decode cX11_init 454 = .ok (.lastore, 1) := by decide +kernel
theorem dX11_init_455 : decode cX11_init 455 = .ok (.aload_n 0, 1) := by decide +kernel
theorem dX11_init_456 : decode cX11_init 456 = .ok (.getfield 22, 3) := by decide +kernel
theorem dX11_init_459 : decode cX11_init 459 = .ok (.bipush 7, 2) := by decide +kernel
theorem dX11_init_461 : decode cX11_init 461 = .ok (.lconst 0, 1) := by decide +kernel
theorem dX11_init_462 : decode cX11_init 462 = .ok (.bipush 87, 2) := by decide +kernel
theorem dX11_init_464 : decode cX11_init 464 = .ok (.bipush 69, 2) := by decide +kernel
theorem dX11_init_466 : decode cX11_init 466 = .ok (.bipush 69, 2) := by decide +kernel
theorem dX11_init_468 : decode cX11_init 468 = .ok (.bipush 75, 2) := by decide +kernel
theorem dX11_init_470 : decode cX11_init 470 = .ok (.bipush 76, 2) := by decide +kernel
theorem dX11_init_472 : decode cX11_init 472 = .ok (.invokestatic 105, 3) := by decide +kernel
theorem dX11_init_475 : decode cX11_init 475 = .ok (.bipush 89, 2) := by decide +kernel
theorem dX11_init_477 : decode cX11_init 477 = .ok (.iconst 0, 1) := by decide +kernel
theorem dX11_init_478 : decode cX11_init 478 = .ok (.iconst 0, 1) := by decide +kernel
theorem dX11_init_479 : decode cX11_init 479 = .ok (.iconst 0, 1) := by decide +kernel
theorem dX11_init_480 : decode cX11_init 480 = .ok (.iconst 0, 1) := by decide +kernel
theorem dX11_init_481 : decode cX11_init 481 = .ok (.invokestatic 105, 3) := by decide +kernel
theorem dX11_init_484 : decode cX11_init 484 = .ok (.lastore, 1) := by decide +kernel
theorem dX11_init_485 : decode cX11_init 485 = .ok (.aload_n 0, 1) := by decide +kernel
theorem dX11_init_486 : decode cX11_init 486 = .ok (.getfield 22, 3) := by decide +kernel
theorem dX11_init_489 : decode cX11_init 489 = .ok (.bipush 8, 2) := by decide +kernel
theorem dX11_init_491 : decode cX11_init 491 = .ok (.lconst 0, 1) := by decide +kernel
theorem dX11_init_492 : decode cX11_init 492 = .ok (.bipush 72, 2) := by decide +kernel
theorem dX11_init_494 : decode cX11_init 494 = .ok (.bipush 73, 2) := by decide +kernel
theorem dX11_init_496 : decode cX11_init 496 = .ok (.bipush 71, 2) := by decide +kernel
theorem dX11_init_498 : decode cX11_init 498 = .ok (.bipush 72, 2) := by decide +kernel
theorem dX11_init_500 : decode cX11_init 500 = .ok (.iconst 0, 1) := by decide +kernel
theorem dX11_init_501 : decode cX11_init 501 = .ok (.invokestatic 105, 3) := by decide +kernel
theorem dX11_init_504 : decode cX11_init 504 = .ok (.lastore, 1) := by decide +kernel
theorem dX11_init_505 : decode cX11_init 505 = .ok (.aload_n 0, 1) := by decide +kernel
theorem dX11_init_506 : decode cX11_init 506 = .ok (.getfield 22, 3) := by decide +kernel
theorem dX11_init_509 : decode cX11_init 509 = .ok (.bipush 9, 2) := by decide +kernel
theorem dX11_init_511 : decode cX11_init 511 = .ok (.lconst 0, 1) := by decide +kernel
theorem dX11_init_512 : decode cX11_init 512 = .ok (.bipush 76, 2) := by decide +kernel
theorem dX11_init_514 : decode cX11_init 514 = .ok (.bipush 79, 2) := by decide +kernel
theorem dX11_init_516 : decode cX11_init 516 = .ok (.bipush 87, 2) := by decide +kernel
theorem dX11_init_518 : decode cX11_init 518 = .ok (.iconst 0, 1) := by decide +kernel
theorem dX11_init_519 : decode cX11_init 519 = .ok (.iconst 0, 1) := by decide +kernel
theorem dX11_init_520 : decode cX11_init 520 = .ok (.invokestatic 105, 3) := by decide +kernel
theorem dX11_init_523 : decode cX11_init 523 = .ok (.lastore, 1) := by decide +kernel
theorem dX11_init_524 : decode cX11_init 524 = .ok (.aload_n 0, 1) := by decide +kernel
theorem dX11_init_525 : decode cX11_init 525 = .ok (.getfield 26, 3) := by decide +kernel
theorem dX11_init_528 : decode cX11_init 528 = .ok (.iconst 0, 1) := by decide +kernel
theorem dX11_init_529 : decode cX11_init 529 = .ok (.bipush 25, 2) := by decide +kernel
theorem dX11_init_531 : decode cX11_init 531 = .ok (.iastore, 1) := by decide +kernel
theorem dX11_init_532 : decode cX11_init 532 = .ok (.aload_n 0, 1) := by decide +kernel
theorem dX11_init_533 : decode cX11_init 533 = .ok (.getfield 26, 3) := by decide +kernel
theorem dX11_init_536 : decode cX11_init 536 = .ok (.iconst 1, 1) := by decide +kernel
theorem dX11_init_537 : decode cX11_init 537 = .ok (.bipush 95, 2) := by decide +kernel
theorem dX11_init_539 : decode cX11_init 539 = .ok (.iastore, 1) := by decide +kernel
theorem dX11_init_540 : decode cX11_init 540 = .ok (.aload_n 0, 1) := by decide +kernel
theorem dX11_init_541 : decode cX11_init 541 = .ok (.getfield 26, 3) := by decide +kernel
theorem dX11_init_544 : decode cX11_init 544 = .ok (.iconst 2, 1) := by decide +kernel
theorem dX11_init_545 : decode cX11_init 545 = .ok (.sipush 200, 3) := by decide +kernel
theorem dX11_init_548 : decode cX11_init 548 = .ok (.iastore, 1) := by decide +kernel
theorem dX11_init_549 : decode cX11_init 549 = .ok (.aload_n 0, 1) := by decide +kernel
theorem dX11_init_550 : decode cX11_init 550 = .ok (.getfield 26, 3) := by decide +kernel
theorem dX11_init_553 : decode cX11_init 553 = .ok (.iconst 3, 1) := by decide +kernel
theorem dX11_init_554 : decode cX11_init 554 = .ok (.sipush 300, 3) := by decide +kernel
theorem dX11_init_557 : decode cX11_init 557 = .ok (.iastore, 1) := by decide +kernel
theorem dX11_init_558 : decode cX11_init 558 = .ok (.aload_n 0, 1) := by decide +kernel
theorem dX11_init_559 : decode cX11_init 559 = .ok (.getfield 26, 3) := by decide +kernel
theorem dX11_init_562 : decode cX11_init 562 = .ok (.iconst 4, 1) := by decide +kernel
theorem dX11_init_563 : decode cX11_init 563 = .ok (.sipush 500, 3) := by decide +kernel
theorem dX11_init_566 : decode cX11_init 566 = .ok (.iastore, 1) := by decide +kernel
theorem dX11_init_567 : decode cX11_init 567 = .ok (.aload_n 0, 1) := by decide +kernel
theorem dX11_init_568 : decode cX11_init 568 = .ok (.getfield 26, 3) := by decide +kernel
theorem dX11_init_571 : decode cX11_init 571 = .ok (.iconst 5, 1) := by decide +kernel
theorem dX11_init_572 : decode cX11_init 572 = .ok (.sipush 1800, 3) := by decide +kernel
theorem dX11_init_575 : decode cX11_init 575 = .ok (.iastore, 1) := by decide +kernel
theorem dX11_init_576 : decode cX11_init 576 = .ok (.aload_n 0, 1) := by decide +kernel
theorem dX11_init_577 : decode cX11_init 577 = .ok (.getfield 26, 3) := by decide +kernel
theorem dX11_init_580 : decode cX11_init 580 = .ok (.bipush 6, 2) := by decide +kernel
theorem dX11_init_582 : decode cX11_init 582 = .ok (.sipush 5000, 3) := by decide +kernel
theorem dX11_init_585 : decode cX11_init 585 = .ok (.iastore, 1) := by decide +kernel
theorem dX11_init_586 : decode cX11_init 586 = .ok (.aload_n 0, 1) := by decide +kernel
theorem dX11_init_587 : decode cX11_init 587 = .ok (.getfield 26, 3) := by decide +kernel
theorem dX11_init_590 : decode cX11_init 590 = .ok (.bipush 7, 2) := by decide +kernel
theorem dX11_init_592 : decode cX11_init 592 = .ok (.sipush 30000, 3) := by decide +kernel
theorem dX11_init_595 : decode cX11_init 595 = .ok (.iastore, 1) := by decide +kernel
theorem dX11_init_596 : decode cX11_init 596 = .ok (.aload_n 0, 1) := by decide +kernel
theorem dX11_init_597 : decode cX11_init 597 = .ok (.getfield 26, 3) := by decide +kernel
theorem dX11_init_600 : decode cX11_init 600 = .ok (.bipush 8, 2) := by decide +kernel
theorem dX11_init_602 : decode cX11_init 602 = .ok (.bipush (-5), 2) := by decide +kernel
theorem dX11_init_604 : decode cX11_init 604 = .ok (.iastore, 1) := by decide +kernel
theorem dX11_init_605 : decode cX11_init 605 = .ok (.aload_n 0, 1) := by decide +kernel
theorem dX11_init_606 : decode cX11_init 606 = .ok (.getfield 26, 3) := by decide +kernel
theorem dX11_init_609 : decode cX11_init 609 = .ok (.bipush 9, 2) := by decide +kernel
theorem dX11_init_611 : decode cX11_init 611 = .ok (.iconst 5, 1) := by decide +kernel
theorem dX11_init_612 : decode cX11_init 612 = .ok (.iastore, 1) := by decide +kernel
theorem dX11_init_613 : decode cX11_init 613 = .ok (.aload_n 0, 1) := by decide +kernel
theorem dX11_init_614 : decode cX11_init 614 = .ok (.invokevirtual 109, 3) := by decide +kernel
theorem dX11_init_617 : decode cX11_init 617 = .ok (.return_, 1) := by decide +kernel
theorem dX11_letters_0 : decode cX11_letters 0 = .ok (.lload_n 0, 1) := by decide +kernel
theorem dX11_letters_1 : decode cX11_letters 1 = .ok (.iload_n 2, 1) := by decide +kernel
theorem dX11_letters_2 : decode cX11_letters 2 = .ok (.invokestatic 112, 3) := by decide +kernel
theorem dX11_letters_5 : decode cX11_letters 5 = .ok (.iload_n 3, 1) := by decide +kernel
theorem dX11_letters_6 : decode cX11_letters 6 = .ok (.invokestatic 112, 3) := by decide +kernel
theorem dX11_letters_9 : decode cX11_letters 9 = .ok (.iload 4, 2) := by decide +kernel
theorem dX11_letters_11 : decode cX11_letters 11 = .ok (.invokestatic 112, 3) := by decide +kernel
theorem dX11_letters_14 : decode cX11_letters 14 = .ok (.lstore 7, 2) := by decide +kernel
theorem dX11_letters_16 : decode cX11_letters 16 = .ok (.lload 7, 2) := by decide +kernel
theorem dX11_letters_18 : decode cX11_letters 18 = .ok (.iload 5, 2) := by decide +kernel
theorem dX11_letters_20 : decode cX11_letters 20 = .ok (.invokestatic 112, 3) := by decide +kernel
theorem dX11_letters_23 : decode cX11_letters 23 = .ok (.iload 6, 2) := by decide +kernel
theorem dX11_letters_25 : decode cX11_letters 25 = .ok (.invokestatic 112, 3) := by decide +kernel
theorem dX11_letters_28 : decode cX11_letters 28 = .ok (.lreturn, 1) := by decide +kernel
theorem dX11_letter_0 : decode cX11_letter 0 = .ok (.iload_n 2, 1) := by decide +kernel
theorem dX11_letter_1 : decode cX11_letter 1 = .ok (.ifCond .ne 7, 3) := by decide +kernel
theorem dX11_letter_4 : decode cX11_letter 4 = .ok (.lload_n 0, 1) := by decide +kernel
theorem dX11_letter_5 : decode cX11_letter 5 = .ok (.goto 17, 3) := by decide +kernel
theorem dX11_letter_8 : decode cX11_letter 8 = .ok (.ldc2_w 116, 3) := by decide +kernel
theorem dX11_letter_11 : decode cX11_letter 11 = .ok (.lload_n 0, 1) := by decide +kernel
theorem dX11_letter_12 : decode cX11_letter 12 = .ok (.lmul, 1) := by decide +kernel
theorem dX11_letter_13 : decode cX11_letter 13 = .ok (.iload_n 2, 1) := by decide +kernel
theorem dX11_letter_14 : decode cX11_letter 14 = .ok (.i2l, 1) := by decide +kernel
theorem dX11_letter_15 : decode cX11_letter 15 = .ok (.ladd, 1) := by decide +kernel
theorem dX11_letter_16 : decode cX11_letter 16 = .ok (.ldc2_w 118, 3) := by decide +kernel
theorem dX11_letter_19 : decode cX11_letter 19 = .ok (.lsub, 1) := by decide +kernel
theorem dX11_letter_20 : decode cX11_letter 20 = .ok (.lconst 1, 1) := by decide +kernel
theorem dX11_letter_21 : decode cX11_letter 21 = .ok (.ladd, 1) := by decide +kernel
theorem dX11_letter_22 : decode cX11_letter 22 = .ok (.lreturn, 1) := by decide +kernel
theorem dX11_thrown_0 : decode cX11_thrown 0 = .ok (.aload_n 0, 1) := by decide +kernel
theorem dX11_thrown_1 : decode cX11_thrown 1 = .ok (.getfield 120, 3) := by decide +kernel
theorem dX11_thrown_4 : decode cX11_thrown 4 = .ok (.ireturn, 1) := by decide +kernel
theorem dX11_goes_0 : decode cX11_goes 0 = .ok (.aload_n 0, 1) := by decide +kernel
theorem dX11_goes_1 : decode cX11_goes 1 = .ok (.iload_n 1, 1) := by decide +kernel
theorem dX11_goes_2 : decode cX11_goes 2 = .ok (.putfield 120, 3) := by decide +kernel
theorem dX11_goes_5 : decode cX11_goes 5 = .ok (.iload_n 1, 1) := by decide +kernel
theorem dX11_goes_6 : decode cX11_goes 6 = .ok (.ifCond .ne 7, 3) := by decide +kernel
theorem dX11_goes_9 : decode cX11_goes 9 = .ok (.iconst 1, 1) := by decide +kernel
theorem dX11_goes_10 : decode cX11_goes 10 = .ok (.goto 4, 3) := by decide +kernel
theorem dX11_goes_13 : decode cX11_goes 13 = .ok (.iconst 0, 1) := by decide +kernel
theorem dX11_goes_14 : decode cX11_goes 14 = .ok (.ireturn, 1) := by decide +kernel
theorem dX11_isIn_0 : decode cX11_isIn 0 = .ok (.iload_n 0, 1) := by decide +kernel
theorem dX11_isIn_1 : decode cX11_isIn 1 = .ok (.iload_n 1, 1) := by decide +kernel
theorem dX11_isIn_2 : decode cX11_isIn 2 = .ok (.if_icmp .lt 12, 3) := by decide +kernel
theorem dX11_isIn_5 : decode cX11_isIn 5 = .ok (.iload_n 0, 1) := by decide +kernel
theorem dX11_isIn_6 : decode cX11_isIn 6 = .ok (.iload_n 2, 1) := by decide +kernel
theorem dX11_isIn_7 : decode cX11_isIn 7 = .ok (.if_icmp .gt 7, 3) := by decide +kernel
theorem dX11_isIn_10 : decode cX11_isIn 10 = .ok (.iconst 1, 1) := by decide +kernel
theorem dX11_isIn_11 : decode cX11_isIn 11 = .ok (.goto 4, 3) := by decide +kernel
theorem dX11_isIn_14 : decode cX11_isIn 14 = .ok (.iconst 0, 1) := by decide +kernel
theorem dX11_isIn_15 : decode cX11_isIn 15 = .ok (.ireturn, 1) := by decide +kernel
theorem dX11_code_0 : decode cX11_code 0 = .ok (.iload_n 1, 1) := by decide +kernel
theorem dX11_code_1 : decode cX11_code 1 = .ok (.aload_n 0, 1) := by decide +kernel
theorem dX11_code_2 : decode cX11_code 2 = .ok (.getfield 13, 3) := by decide +kernel
theorem dX11_code_5 : decode cX11_code 5 = .ok (.aload_n 0, 1) := by decide +kernel
theorem dX11_code_6 : decode cX11_code 6 = .ok (.getfield 124, 3) := by decide +kernel
theorem dX11_code_9 : decode cX11_code 9 = .ok (.iaload, 1) := by decide +kernel
theorem dX11_code_10 : decode cX11_code 10 = .ok (.if_icmp .ge 21, 3) := by decide +kernel
theorem dX11_code_13 : decode cX11_code 13 = .ok (.aload_n 0, 1) := by decide +kernel
theorem dX11_code_14 : decode cX11_code 14 = .ok (.getfield 7, 3) := by decide +kernel
theorem dX11_code_17 : decode cX11_code 17 = .ok (.sipush 600, 3) := by decide +kernel
theorem dX11_code_20 : decode cX11_code 20 = .ok (.aload_n 0, 1) := by decide +kernel
theorem dX11_code_21 : decode cX11_code 21 = .ok (.getfield 124, 3) := by decide +kernel
theorem dX11_code_24 : decode cX11_code 24 = .ok (.imul, 1) := by decide +kernel
theorem dX11_code_25 : decode cX11_code 25 = .ok (.iload_n 1, 1) := by decide +kernel
theorem dX11_code_26 : decode cX11_code 26 = .ok (.iadd, 1) := by decide +kernel
theorem dX11_code_27 : decode cX11_code 27 = .ok (.iaload, 1) := by decide +kernel
theorem dX11_code_28 : decode cX11_code 28 = .ok (.goto 4, 3) := by decide +kernel
theorem dX11_code_31 : decode cX11_code 31 = .ok (.iconst (-1), 1) := by decide +kernel
theorem dX11_code_32 : decode cX11_code 32 = .ok (.ireturn, 1) := by decide +kernel
theorem dX11_isSmall_0 : decode cX11_isSmall 0 = .ok (.iload_n 0, 1) := by decide +kernel
theorem dX11_isSmall_1 : decode cX11_isSmall 1 = .ok (.bipush 97, 2) := by decide +kernel
theorem dX11_isSmall_3 : decode cX11_isSmall 3 = .ok (.bipush 122, 2) := by decide +kernel
theorem dX11_isSmall_5 : decode cX11_isSmall 5 = .ok (.invokestatic 127, 3) := by decide +kernel
theorem dX11_isSmall_8 : decode cX11_isSmall 8 = .ok (.ireturn, 1) := by decide +kernel
theorem dX11_isGreat_0 : decode cX11_isGreat 0 = .ok (.iload_n 0, 1) := by decide +kernel
theorem dX11_isGreat_1 : decode cX11_isGreat 1 = .ok (.bipush 65, 2) := by decide +kernel
theorem dX11_isGreat_3 : decode cX11_isGreat 3 = .ok (.bipush 90, 2) := by decide +kernel
theorem dX11_isGreat_5 : decode cX11_isGreat 5 = .ok (.invokestatic 127, 3) := by decide +kernel
theorem dX11_isGreat_8 : decode cX11_isGreat 8 = .ok (.ireturn, 1) := by decide +kernel
theorem dX11_isFigure_0 : decode cX11_isFigure 0 = .ok (.iload_n 0, 1) := by decide +kernel
theorem dX11_isFigure_1 : decode cX11_isFigure 1 = .ok (.bipush 48, 2) := by decide +kernel
theorem dX11_isFigure_3 : decode cX11_isFigure 3 = .ok (.bipush 57, 2) := by decide +kernel
theorem dX11_isFigure_5 : decode cX11_isFigure 5 = .ok (.invokestatic 127, 3) := by decide +kernel
theorem dX11_isFigure_8 : decode cX11_isFigure 8 = .ok (.ireturn, 1) := by decide +kernel
theorem dX11_goesOn_0 : decode cX11_goesOn 0 = .ok (.iload_n 0, 1) := by decide +kernel
theorem dX11_goesOn_1 : decode cX11_goesOn 1 = .ok (.invokestatic 131, 3) := by decide +kernel
theorem dX11_goesOn_4 : decode cX11_goesOn 4 = .ok (.ifCond .ne 22, 3) := by decide +kernel
theorem dX11_goesOn_7 : decode cX11_goesOn 7 = .ok (.iload_n 0, 1) := by decide +kernel
theorem dX11_goesOn_8 : decode cX11_goesOn 8 = .ok (.invokestatic 135, 3) := by decide +kernel
theorem dX11_goesOn_11 : decode cX11_goesOn 11 = .ok (.ifCond .ne 15, 3) := by decide +kernel
theorem dX11_goesOn_14 : decode cX11_goesOn 14 = .ok (.iload_n 0, 1) := by decide +kernel
theorem dX11_goesOn_15 : decode cX11_goesOn 15 = .ok (.bipush 46, 2) := by decide +kernel
theorem dX11_goesOn_17 : decode cX11_goesOn 17 = .ok (.if_icmp .eq 9, 3) := by decide +kernel
theorem dX11_goesOn_20 : decode cX11_goesOn 20 = .ok (.iload_n 0, 1) := by decide +kernel
theorem dX11_goesOn_21 : decode cX11_goesOn 21 = .ok (.bipush 45, 2) := by decide +kernel
theorem dX11_goesOn_23 : decode cX11_goesOn 23 = .ok (.if_icmp .ne 7, 3) := by decide +kernel
theorem dX11_goesOn_26 : decode cX11_goesOn 26 = .ok (.iconst 1, 1) := by decide +kernel
theorem dX11_goesOn_27 : decode cX11_goesOn 27 = .ok (.goto 4, 3) := by decide +kernel
theorem dX11_goesOn_30 : decode cX11_goesOn 30 = .ok (.iconst 0, 1) := by decide +kernel
theorem dX11_goesOn_31 : decode cX11_goesOn 31 = .ok (.ireturn, 1) := by decide +kernel
theorem dX11_isSign_0 : decode cX11_isSign 0 = .ok (.iload_n 0, 1) := by decide +kernel
theorem dX11_isSign_1 : decode cX11_isSign 1 = .ok (.bipush 61, 2) := by decide +kernel
theorem dX11_isSign_3 : decode cX11_isSign 3 = .ok (.if_icmp .eq 39, 3) := by decide +kernel
theorem dX11_isSign_6 : decode cX11_isSign 6 = .ok (.iload_n 0, 1) := by decide +kernel
theorem dX11_isSign_7 : decode cX11_isSign 7 = .ok (.bipush 64, 2) := by decide +kernel
theorem dX11_isSign_9 : decode cX11_isSign 9 = .ok (.if_icmp .eq 33, 3) := by decide +kernel
theorem dX11_isSign_12 : decode cX11_isSign 12 = .ok (.iload_n 0, 1) := by decide +kernel
theorem dX11_isSign_13 : decode cX11_isSign 13 = .ok (.bipush 123, 2) := by decide +kernel
theorem dX11_isSign_15 : decode cX11_isSign 15 = .ok (.if_icmp .eq 27, 3) := by decide +kernel
theorem dX11_isSign_18 : decode cX11_isSign 18 = .ok (.iload_n 0, 1) := by decide +kernel
theorem dX11_isSign_19 : decode cX11_isSign 19 = .ok (.bipush 125, 2) := by decide +kernel
theorem dX11_isSign_21 : decode cX11_isSign 21 = .ok (.if_icmp .eq 21, 3) := by decide +kernel
theorem dX11_isSign_24 : decode cX11_isSign 24 = .ok (.iload_n 0, 1) := by decide +kernel
theorem dX11_isSign_25 : decode cX11_isSign 25 = .ok (.bipush 40, 2) := by decide +kernel
theorem dX11_isSign_27 : decode cX11_isSign 27 = .ok (.if_icmp .eq 15, 3) := by decide +kernel
theorem dX11_isSign_30 : decode cX11_isSign 30 = .ok (.iload_n 0, 1) := by decide +kernel
theorem dX11_isSign_31 : decode cX11_isSign 31 = .ok (.bipush 41, 2) := by decide +kernel
theorem dX11_isSign_33 : decode cX11_isSign 33 = .ok (.if_icmp .eq 9, 3) := by decide +kernel
theorem dX11_isSign_36 : decode cX11_isSign 36 = .ok (.iload_n 0, 1) := by decide +kernel
theorem dX11_isSign_37 : decode cX11_isSign 37 = .ok (.bipush 44, 2) := by decide +kernel
theorem dX11_isSign_39 : decode cX11_isSign 39 = .ok (.if_icmp .ne 7, 3) := by decide +kernel
theorem dX11_isSign_42 : decode cX11_isSign 42 = .ok (.iconst 1, 1) := by decide +kernel
theorem dX11_isSign_43 : decode cX11_isSign 43 = .ok (.goto 4, 3) := by decide +kernel
theorem dX11_isSign_46 : decode cX11_isSign 46 = .ok (.iconst 0, 1) := by decide +kernel
theorem dX11_isSign_47 : decode cX11_isSign 47 = .ok (.istore_n 1, 1) := by decide +kernel
theorem dX11_isSign_48 : decode cX11_isSign 48 = .ok (.iload_n 1, 1) := by decide +kernel
theorem dX11_isSign_49 : decode cX11_isSign 49 = .ok (.ifCond .ne 39, 3) := by decide +kernel
theorem dX11_isSign_52 : decode cX11_isSign 52 = .ok (.iload_n 0, 1) := by decide +kernel
theorem dX11_isSign_53 : decode cX11_isSign 53 = .ok (.bipush 33, 2) := by decide +kernel
theorem dX11_isSign_55 : decode cX11_isSign 55 = .ok (.if_icmp .eq 33, 3) := by decide +kernel
theorem dX11_isSign_58 : decode cX11_isSign 58 = .ok (.iload_n 0, 1) := by decide +kernel
theorem dX11_isSign_59 : decode cX11_isSign 59 = .ok (.bipush 43, 2) := by decide +kernel
theorem dX11_isSign_61 : decode cX11_isSign 61 = .ok (.if_icmp .eq 27, 3) := by decide +kernel
theorem dX11_isSign_64 : decode cX11_isSign 64 = .ok (.iload_n 0, 1) := by decide +kernel
theorem dX11_isSign_65 : decode cX11_isSign 65 = .ok (.bipush 45, 2) := by decide +kernel
theorem dX11_isSign_67 : decode cX11_isSign 67 = .ok (.if_icmp .eq 21, 3) := by decide +kernel
theorem dX11_isSign_70 : decode cX11_isSign 70 = .ok (.iload_n 0, 1) := by decide +kernel
theorem dX11_isSign_71 : decode cX11_isSign 71 = .ok (.bipush 42, 2) := by decide +kernel
theorem dX11_isSign_73 : decode cX11_isSign 73 = .ok (.if_icmp .eq 15, 3) := by decide +kernel
theorem dX11_isSign_76 : decode cX11_isSign 76 = .ok (.iload_n 0, 1) := by decide +kernel
theorem dX11_isSign_77 : decode cX11_isSign 77 = .ok (.bipush 47, 2) := by decide +kernel
theorem dX11_isSign_79 : decode cX11_isSign 79 = .ok (.if_icmp .eq 9, 3) := by decide +kernel
theorem dX11_isSign_82 : decode cX11_isSign 82 = .ok (.iload_n 0, 1) := by decide +kernel
theorem dX11_isSign_83 : decode cX11_isSign 83 = .ok (.bipush 59, 2) := by decide +kernel
theorem dX11_isSign_85 : decode cX11_isSign 85 = .ok (.if_icmp .ne 7, 3) := by decide +kernel
theorem dX11_isSign_88 : decode cX11_isSign 88 = .ok (.iconst 1, 1) := by decide +kernel
theorem dX11_isSign_89 : decode cX11_isSign 89 = .ok (.goto 4, 3) := by decide +kernel
theorem dX11_isSign_92 : decode cX11_isSign 92 = .ok (.iconst 0, 1) := by decide +kernel
theorem dX11_isSign_93 : decode cX11_isSign 93 = .ok (.ireturn, 1) := by decide +kernel
theorem dX11_passesBlanks_0 : decode cX11_passesBlanks 0 = .ok (.iconst 0, 1) := by decide +kernel
theorem dX11_passesBlanks_1 : decode cX11_passesBlanks 1 = .ok (.istore_n 1, 1) := by decide +kernel
theorem dX11_passesBlanks_2 : decode cX11_passesBlanks 2 = .ok (.aload_n 0, 1) := by decide +kernel
theorem dX11_passesBlanks_3 : decode cX11_passesBlanks 3 = .ok (.aload_n 0, 1) := by decide +kernel
theorem dX11_passesBlanks_4 : decode cX11_passesBlanks 4 = .ok (.getfield 138, 3) := by decide +kernel
theorem dX11_passesBlanks_7 : decode cX11_passesBlanks 7 = .ok (.invokevirtual 141, 3) := by decide +kernel
theorem dX11_passesBlanks_10 : decode cX11_passesBlanks 10 = .ok (.bipush 9, 2) := by decide +kernel
theorem dX11_passesBlanks_12 : decode cX11_passesBlanks 12 = .ok (.if_icmp .eq 58, 3) := by decide +kernel
theorem dX11_passesBlanks_15 : decode cX11_passesBlanks 15 = .ok (.aload_n 0, 1) := by decide +kernel
theorem dX11_passesBlanks_16 : decode cX11_passesBlanks 16 = .ok (.aload_n 0, 1) := by decide +kernel
theorem dX11_passesBlanks_17 : decode cX11_passesBlanks 17 = .ok (.getfield 138, 3) := by decide +kernel
theorem dX11_passesBlanks_20 : decode cX11_passesBlanks 20 = .ok (.invokevirtual 141, 3) := by decide +kernel
theorem dX11_passesBlanks_23 : decode cX11_passesBlanks 23 = .ok (.bipush 32, 2) := by decide +kernel
theorem dX11_passesBlanks_25 : decode cX11_passesBlanks 25 = .ok (.if_icmp .eq 45, 3) := by decide +kernel
theorem dX11_passesBlanks_28 : decode cX11_passesBlanks 28 = .ok (.aload_n 0, 1) := by decide +kernel
theorem dX11_passesBlanks_29 : decode cX11_passesBlanks 29 = .ok (.aload_n 0, 1) := by decide +kernel
theorem dX11_passesBlanks_30 : decode cX11_passesBlanks 30 = .ok (.getfield 138, 3) := by decide +kernel
theorem dX11_passesBlanks_33 : decode cX11_passesBlanks 33 = .ok (.invokevirtual 141, 3) := by decide +kernel
theorem dX11_passesBlanks_36 : decode cX11_passesBlanks 36 = .ok (.bipush 35, 2) := by decide +kernel
theorem dX11_passesBlanks_38 : decode cX11_passesBlanks 38 = .ok (.if_icmp .eq 32, 3) := by decide +kernel
theorem dX11_passesBlanks_41 : decode cX11_passesBlanks 41 = .ok (.iload_n 1, 1) := by decide +kernel
theorem dX11_passesBlanks_42 : decode cX11_passesBlanks 42 = .ok (.ifCond .eq 64, 3) := by decide +kernel
theorem dX11_passesBlanks_45 : decode cX11_passesBlanks 45 = .ok (.aload_n 0, 1) := by decide +kernel
theorem dX11_passesBlanks_46 : decode cX11_passesBlanks 46 = .ok (.aload_n 0, 1) := by decide +kernel
theorem dX11_passesBlanks_47 : decode cX11_passesBlanks 47 = .ok (.getfield 138, 3) := by decide +kernel
theorem dX11_passesBlanks_50 : decode cX11_passesBlanks 50 = .ok (.invokevirtual 141, 3) := by decide +kernel
theorem dX11_passesBlanks_53 : decode cX11_passesBlanks 53 = .ok (.iconst (-1), 1) := by decide +kernel
theorem dX11_passesBlanks_54 : decode cX11_passesBlanks 54 = .ok (.if_icmp .eq 52, 3) := by decide +kernel
theorem dX11_passesBlanks_57 : decode cX11_passesBlanks 57 = .ok (.aload_n 0, 1) := by decide +kernel
theorem dX11_passesBlanks_58 : decode cX11_passesBlanks 58 = .ok (.aload_n 0, 1) := by decide +kernel
theorem dX11_passesBlanks_59 : decode cX11_passesBlanks 59 = .ok (.getfield 138, 3) := by decide +kernel
theorem dX11_passesBlanks_62 : decode cX11_passesBlanks 62 = .ok (.invokevirtual 141, 3) := by decide +kernel
theorem dX11_passesBlanks_65 : decode cX11_passesBlanks 65 = .ok (.bipush 10, 2) := by decide +kernel
theorem dX11_passesBlanks_67 : decode cX11_passesBlanks 67 = .ok (.if_icmp .eq 39, 3) := by decide +kernel
theorem dX11_passesBlanks_70 : decode cX11_passesBlanks 70 = .ok (.iload_n 1, 1) := by decide +kernel
theorem dX11_passesBlanks_71 : decode cX11_passesBlanks 71 = .ok (.ifCond .ne 16, 3) := by decide +kernel
theorem dX11_passesBlanks_74 : decode cX11_passesBlanks 74 = .ok (.aload_n 0, 1) := by decide +kernel
theorem dX11_passesBlanks_75 : decode cX11_passesBlanks 75 = .ok (.aload_n 0, 1) := by decide +kernel
theorem dX11_passesBlanks_76 : decode cX11_passesBlanks 76 = .ok (.getfield 138, 3) := by decide +kernel
theorem dX11_passesBlanks_79 : decode cX11_passesBlanks 79 = .ok (.invokevirtual 141, 3) := by decide +kernel
theorem dX11_passesBlanks_82 : decode cX11_passesBlanks 82 = .ok (.bipush 35, 2) := by decide +kernel
theorem dX11_passesBlanks_84 : decode cX11_passesBlanks 84 = .ok (.if_icmp .ne 7, 3) := by decide +kernel
theorem dX11_passesBlanks_87 : decode cX11_passesBlanks 87 = .ok (.iconst 1, 1) := by decide +kernel
theorem dX11_passesBlanks_88 : decode cX11_passesBlanks 88 = .ok (.goto 4, 3) := by decide +kernel
theorem dX11_passesBlanks_91 : decode cX11_passesBlanks 91 = .ok (.iconst 0, 1) := by decide +kernel
theorem dX11_passesBlanks_92 : decode cX11_passesBlanks 92 = .ok (.istore_n 1, 1) := by decide +kernel
theorem dX11_passesBlanks_93 : decode cX11_passesBlanks 93 = .ok (.aload_n 0, 1) := by decide +kernel
theorem dX11_passesBlanks_94 : decode cX11_passesBlanks 94 = .ok (.dup, 1) := by decide +kernel
theorem dX11_passesBlanks_95 : decode cX11_passesBlanks 95 = .ok (.getfield 138, 3) := by decide +kernel
theorem dX11_passesBlanks_98 : decode cX11_passesBlanks 98 = .ok (.iconst 1, 1) := by decide +kernel
theorem dX11_passesBlanks_99 : decode cX11_passesBlanks 99 = .ok (.iadd, 1) := by decide +kernel
theorem dX11_passesBlanks_100 : decode cX11_passesBlanks 100 = .ok (.putfield 138, 3) := by decide +kernel
theorem dX11_passesBlanks_103 : decode cX11_passesBlanks 103 = .ok (.goto (-101), 3) := by decide +kernel
theorem dX11_passesBlanks_106 : decode cX11_passesBlanks 106 = .ok (.return_, 1) := by decide +kernel
theorem dX11_next_0 : decode cX11_next 0 = .ok (.aload_n 0, 1) := by decide +kernel
theorem dX11_next_1 : decode cX11_next 1 = .ok (.invokevirtual 145, 3) := by decide +kernel
theorem dX11_next_4 : decode cX11_next 4 = .ok (.aload_n 0, 1) := by decide +kernel
theorem dX11_next_5 : decode cX11_next 5 = .ok (.aload_n 0, 1) := by decide +kernel
theorem dX11_next_6 : decode cX11_next 6 = .ok (.getfield 138, 3) := by decide +kernel
theorem dX11_next_9 : decode cX11_next 9 = .ok (.putfield 148, 3) := by decide +kernel
theorem dX11_next_12 : decode cX11_next 12 = .ok (.aload_n 0, 1) := by decide +kernel
theorem dX11_next_13 : decode cX11_next 13 = .ok (.aload_n 0, 1) := by decide +kernel
theorem dX11_next_14 : decode cX11_next 14 = .ok (.getfield 138, 3) := by decide +kernel
theorem dX11_next_17 : decode cX11_next 17 = .ok (.invokevirtual 141, 3) := by decide +kernel
theorem dX11_next_20 : decode cX11_next 20 = .ok (.istore_n 1, 1) := by decide +kernel
theorem dX11_next_21 : decode cX11_next 21 = .ok (.aload_n 0, 1) := by decide +kernel
theorem dX11_next_22 : decode cX11_next 22 = .ok (.iconst 0, 1) := by decide +kernel
theorem dX11_next_23 : decode cX11_next 23 = .ok (.putfield 151, 3) := by decide +kernel
theorem dX11_next_26 : decode cX11_next 26 = .ok (.aload_n 0, 1) := by decide +kernel
theorem dX11_next_27 : decode cX11_next 27 = .ok (.lconst 0, 1) := by decide +kernel
theorem dX11_next_28 : decode cX11_next 28 = .ok (.putfield 154, 3) := by decide +kernel
theorem dX11_next_31 : decode cX11_next 31 = .ok (.aload_n 0, 1) := by decide +kernel
theorem dX11_next_32 : decode cX11_next 32 = .ok (.iconst 0, 1) := by decide +kernel
theorem dX11_next_33 : decode cX11_next 33 = .ok (.putfield 158, 3) := by decide +kernel
theorem dX11_next_36 : decode cX11_next 36 = .ok (.iload_n 1, 1) := by decide +kernel
theorem dX11_next_37 : decode cX11_next 37 = .ok (.invokestatic 131, 3) := by decide +kernel
theorem dX11_next_40 : decode cX11_next 40 = .ok (.ifCond .ne 9, 3) := by decide +kernel
theorem dX11_next_43 : decode cX11_next 43 = .ok (.iload_n 1, 1) := by decide +kernel
theorem dX11_next_44 : decode cX11_next 44 = .ok (.bipush 46, 2) := by decide +kernel
theorem dX11_next_46 : decode cX11_next 46 = .ok (.if_icmp .ne 84, 3) := by decide +kernel
theorem dX11_next_49 : decode cX11_next 49 = .ok (.aload_n 0, 1) := by decide +kernel
theorem dX11_next_50 : decode cX11_next 50 = .ok (.iconst 1, 1) := by decide +kernel
theorem dX11_next_51 : decode cX11_next 51 = .ok (.putfield 161, 3) := by decide +kernel
theorem dX11_next_54 : decode cX11_next 54 = .ok (.aload_n 0, 1) := by decide +kernel
theorem dX11_next_55 : decode cX11_next 55 = .ok (.aload_n 0, 1) := by decide +kernel
theorem dX11_next_56 : decode cX11_next 56 = .ok (.getfield 138, 3) := by decide +kernel
theorem dX11_next_59 : decode cX11_next 59 = .ok (.invokevirtual 141, 3) := by decide +kernel
theorem dX11_next_62 : decode cX11_next 62 = .ok (.invokestatic 164, 3) := by decide +kernel
theorem dX11_next_65 : decode cX11_next 65 = .ok (.ifCond .eq 282, 3) := by decide +kernel
theorem dX11_next_68 : decode cX11_next 68 = .ok (.aload_n 0, 1) := by decide +kernel
theorem dX11_next_69 : decode cX11_next 69 = .ok (.dup, 1) := by decide +kernel
theorem dX11_next_70 : decode cX11_next 70 = .ok (.getfield 154, 3) := by decide +kernel
theorem dX11_next_73 : decode cX11_next 73 = .ok (.aload_n 0, 1) := by decide +kernel
theorem dX11_next_74 : decode cX11_next 74 = .ok (.getfield 151, 3) := by decide +kernel
theorem dX11_next_77 : decode cX11_next 77 = .ok (.bipush 8, 2) := by decide +kernel
theorem dX11_next_79 : decode cX11_next 79 = .ok (.if_icmp .ge 23, 3) := by decide +kernel
theorem dX11_next_82 : decode cX11_next 82 = .ok (.aload_n 0, 1) := by decide +kernel
theorem dX11_next_83 : decode cX11_next 83 = .ok (.aload_n 0, 1) := by decide +kernel
theorem dX11_next_84 : decode cX11_next 84 = .ok (.getfield 138, 3) := by decide +kernel
theorem dX11_next_87 : decode cX11_next 87 = .ok (.invokevirtual 141, 3) := by decide +kernel
theorem dX11_next_90 : decode cX11_next 90 = .ok (.i2l, 1) := by decide +kernel
theorem dX11_next_91 : decode cX11_next 91 = .ok (.bipush 8, 2) := by decide +kernel
theorem dX11_next_93 : decode cX11_next 93 = .ok (.aload_n 0, 1) := by decide +kernel
theorem dX11_next_94 : decode cX11_next 94 = .ok (.getfield 151, 3) := by decide +kernel
theorem dX11_next_97 : decode cX11_next 97 = .ok (.imul, 1) := by decide +kernel
theorem dX11_next_98 : decode cX11_next 98 = .ok (.lshl, 1) := by decide +kernel
theorem dX11_next_99 : decode cX11_next 99 = .ok (.goto 4, 3) := by decide +kernel
theorem dX11_next_102 : decode cX11_next 102 = .ok (.lconst 0, 1) := by decide +kernel
theorem dX11_next_103 : decode cX11_next 103 = .ok (.lor, 1) := by decide +kernel
theorem dX11_next_104 : decode cX11_next 104 = .ok (.putfield 154, 3) := by decide +kernel
theorem dX11_next_107 : decode cX11_next 107 = .ok (.aload_n 0, 1) := by decide +kernel
theorem dX11_next_108 : decode cX11_next 108 = .ok (.dup, 1) := by decide +kernel
theorem dX11_next_109 : decode cX11_next 109 = .ok (.getfield 151, 3) := by decide +kernel
theorem dX11_next_112 : decode cX11_next 112 = .ok (.iconst 1, 1) := by decide +kernel
theorem dX11_next_113 : decode cX11_next 113 = .ok (.iadd, 1) := by decide +kernel
theorem dX11_next_114 : decode cX11_next 114 = .ok (.putfield 151, 3) := by decide +kernel
theorem dX11_next_117 : decode cX11_next 117 = .ok (.aload_n 0, 1) := by decide +kernel
theorem dX11_next_118 : decode cX11_next 118 = .ok (.dup, 1) := by decide +kernel
theorem dX11_next_119 : decode cX11_next 119 = .ok (.getfield 138, 3) := by decide +kernel
theorem dX11_next_122 : decode cX11_next 122 = .ok (.iconst 1, 1) := by decide +kernel
theorem dX11_next_123 : decode cX11_next 123 = .ok (.iadd, 1) := by decide +kernel
theorem dX11_next_124 : decode cX11_next 124 = .ok (.putfield 138, 3) := by decide +kernel
theorem dX11_next_127 : decode cX11_next 127 = .ok (.goto (-73), 3) := by decide +kernel
theorem dX11_next_130 : decode cX11_next 130 = .ok (.iload_n 1, 1) := by decide +kernel
theorem dX11_next_131 : decode cX11_next 131 = .ok (.invokestatic 167, 3) := by decide +kernel
theorem dX11_next_134 : decode cX11_next 134 = .ok (.ifCond .eq 80, 3) := by decide +kernel
theorem dX11_next_137 : decode cX11_next 137 = .ok (.aload_n 0, 1) := by decide +kernel
theorem dX11_next_138 : decode cX11_next 138 = .ok (.iconst 2, 1) := by decide +kernel
theorem dX11_next_139 : decode cX11_next 139 = .ok (.putfield 161, 3) := by decide +kernel
theorem dX11_next_142 : decode cX11_next 142 = .ok (.aload_n 0, 1) := by decide +kernel
theorem dX11_next_143 : decode cX11_next 143 = .ok (.aload_n 0, 1) := by decide +kernel
theorem dX11_next_144 : decode cX11_next 144 = .ok (.getfield 138, 3) := by decide +kernel
theorem dX11_next_147 : decode cX11_next 147 = .ok (.invokevirtual 141, 3) := by decide +kernel
theorem dX11_next_150 : decode cX11_next 150 = .ok (.invokestatic 167, 3) := by decide +kernel
theorem dX11_next_153 : decode cX11_next 153 = .ok (.ifCond .eq 194, 3) := by decide +kernel
theorem dX11_next_156 : decode cX11_next 156 = .ok (.aload_n 0, 1) := by decide +kernel
theorem dX11_next_157 : decode cX11_next 157 = .ok (.aload_n 0, 1) := by decide +kernel
theorem dX11_next_158 : decode cX11_next 158 = .ok (.getfield 151, 3) := by decide +kernel
theorem dX11_next_161 : decode cX11_next 161 = .ok (.bipush 10, 2) := by decide +kernel
theorem dX11_next_163 : decode cX11_next 163 = .ok (.if_icmp .ge 21, 3) := by decide +kernel
theorem dX11_next_166 : decode cX11_next 166 = .ok (.aload_n 0, 1) := by decide +kernel
theorem dX11_next_167 : decode cX11_next 167 = .ok (.getfield 154, 3) := by decide +kernel
theorem dX11_next_170 : decode cX11_next 170 = .ok (.aload_n 0, 1) := by decide +kernel
theorem dX11_next_171 : decode cX11_next 171 = .ok (.aload_n 0, 1) := by decide +kernel
theorem dX11_next_172 : decode cX11_next 172 = .ok (.getfield 138, 3) := by decide +kernel
theorem dX11_next_175 : decode cX11_next 175 = .ok (.invokevirtual 141, 3) := by decide +kernel
theorem dX11_next_178 : decode cX11_next 178 = .ok (.invokestatic 112, 3) := by decide +kernel
theorem dX11_next_181 : decode cX11_next 181 = .ok (.goto 7, 3) := by decide +kernel
theorem dX11_next_184 : decode cX11_next 184 = .ok (.aload_n 0, 1) := by decide +kernel
theorem dX11_next_185 : decode cX11_next 185 = .ok (.getfield 154, 3) := by decide +kernel
theorem dX11_next_188 : decode cX11_next 188 = .ok (.putfield 154, 3) := by decide +kernel
theorem dX11_next_191 : decode cX11_next 191 = .ok (.aload_n 0, 1) := by decide +kernel
theorem dX11_next_192 : decode cX11_next 192 = .ok (.dup, 1) := by decide +kernel
theorem dX11_next_193 : decode cX11_next 193 = .ok (.getfield 151, 3) := by decide +kernel
theorem dX11_next_196 : decode cX11_next 196 = .ok (.iconst 1, 1) := by decide +kernel
theorem dX11_next_197 : decode cX11_next 197 = .ok (.iadd, 1) := by decide +kernel
theorem dX11_next_198 : decode cX11_next 198 = .ok (.putfield 151, 3) := by decide +kernel
theorem dX11_next_201 : decode cX11_next 201 = .ok (.aload_n 0, 1) := by decide +kernel
theorem dX11_next_202 : decode cX11_next 202 = .ok (.dup, 1) := by decide +kernel
theorem dX11_next_203 : decode cX11_next 203 = .ok (.getfield 138, 3) := by decide +kernel
theorem dX11_next_206 : decode cX11_next 206 = .ok (.iconst 1, 1) := by decide +kernel
theorem dX11_next_207 : decode cX11_next 207 = .ok (.iadd, 1) := by decide +kernel
theorem dX11_next_208 : decode cX11_next 208 = .ok (.putfield 138, 3) := by decide +kernel
theorem dX11_next_211 : decode cX11_next 211 = .ok (.goto (-69), 3) := by decide +kernel
theorem dX11_next_214 : decode cX11_next 214 = .ok (.iload_n 1, 1) := by decide +kernel
theorem dX11_next_215 : decode cX11_next 215 = .ok (.invokestatic 135, 3) := by decide +kernel
theorem dX11_next_218 : decode cX11_next 218 = .ok (.ifCond .eq 74, 3) := by decide +kernel
theorem dX11_next_221 : decode cX11_next 221 = .ok (.aload_n 0, 1) := by decide +kernel
theorem dX11_next_222 : decode cX11_next 222 = .ok (.iconst 3, 1) := by decide +kernel
theorem dX11_next_223 : decode cX11_next 223 = .ok (.putfield 161, 3) := by decide +kernel
theorem dX11_next_226 : decode cX11_next 226 = .ok (.aload_n 0, 1) := by decide +kernel
theorem dX11_next_227 : decode cX11_next 227 = .ok (.aload_n 0, 1) := by decide +kernel
theorem dX11_next_228 : decode cX11_next 228 = .ok (.getfield 138, 3) := by decide +kernel
theorem dX11_next_231 : decode cX11_next 231 = .ok (.invokevirtual 141, 3) := by decide +kernel
theorem dX11_next_234 : decode cX11_next 234 = .ok (.invokestatic 135, 3) := by decide +kernel
theorem dX11_next_237 : decode cX11_next 237 = .ok (.ifCond .eq 110, 3) := by decide +kernel
theorem dX11_next_240 : decode cX11_next 240 = .ok (.aload_n 0, 1) := by decide +kernel
theorem dX11_next_241 : decode cX11_next 241 = .ok (.aload_n 0, 1) := by decide +kernel
theorem dX11_next_242 : decode cX11_next 242 = .ok (.getfield 158, 3) := by decide +kernel
theorem dX11_next_245 : decode cX11_next 245 = .ok (.ldc 170, 2) := by decide +kernel
theorem dX11_next_247 : decode cX11_next 247 = .ok (.if_icmp .le 10, 3) := by decide +kernel
theorem dX11_next_250 : decode cX11_next 250 = .ok (.aload_n 0, 1) := by decide +kernel
theorem dX11_next_251 : decode cX11_next 251 = .ok (.getfield 158, 3) := by decide +kernel
theorem dX11_next_254 : decode cX11_next 254 = .ok (.goto 22, 3) := by decide +kernel
theorem dX11_next_257 : decode cX11_next 257 = .ok (.bipush 10, 2) := by decide +kernel
theorem dX11_next_259 : decode cX11_next 259 = .ok (.aload_n 0, 1) := by decide +kernel
theorem dX11_next_260 : decode cX11_next 260 = .ok (.getfield 158, 3) := by decide +kernel
theorem dX11_next_263 : decode cX11_next 263 = .ok (.imul, 1) := by decide +kernel
theorem dX11_next_264 : decode cX11_next 264 = .ok (.aload_n 0, 1) := by decide +kernel
theorem dX11_next_265 : decode cX11_next 265 = .ok (.aload_n 0, 1) := by decide +kernel
theorem dX11_next_266 : decode cX11_next 266 = .ok (.getfield 138, 3) := by decide +kernel
theorem dX11_next_269 : decode cX11_next 269 = .ok (.invokevirtual 141, 3) := by decide +kernel
theorem dX11_next_272 : decode cX11_next 272 = .ok (.iadd, 1) := by decide +kernel
theorem dX11_next_273 : decode cX11_next 273 = .ok (.bipush 48, 2) := by decide +kernel
theorem dX11_next_275 : decode cX11_next 275 = .ok (.isub, 1) := by decide +kernel
theorem dX11_next_276 : decode cX11_next 276 = .ok (.putfield 158, 3) := by decide +kernel
theorem dX11_next_279 : decode cX11_next 279 = .ok (.aload_n 0, 1) := by decide +kernel
theorem dX11_next_280 : decode cX11_next 280 = .ok (.dup, 1) := by decide +kernel
theorem dX11_next_281 : decode cX11_next 281 = .ok (.getfield 138, 3) := by decide +kernel
theorem dX11_next_284 : decode cX11_next 284 = .ok (.iconst 1, 1) := by decide +kernel
theorem dX11_next_285 : decode cX11_next 285 = .ok (.iadd, 1) := by decide +kernel
theorem dX11_next_286 : decode cX11_next 286 = .ok (.putfield 138, 3) := by decide +kernel
theorem dX11_next_289 : decode cX11_next 289 = .ok (.goto (-63), 3) := by decide +kernel
theorem dX11_next_292 : decode cX11_next 292 = .ok (.aload_n 0, 1) := by decide +kernel
theorem dX11_next_293 : decode cX11_next 293 = .ok (.iload_n 1, 1) := by decide +kernel
theorem dX11_next_294 : decode cX11_next 294 = .ok (.iconst (-1), 1) := by decide +kernel
theorem dX11_next_295 : decode cX11_next 295 = .ok (.if_icmp .ne 7, 3) := by decide +kernel
theorem dX11_next_298 : decode cX11_next 298 = .ok (.iconst 0, 1) := by decide +kernel
theorem dX11_next_299 : decode cX11_next 299 = .ok (.goto 26, 3) := by decide +kernel
theorem dX11_next_302 : decode cX11_next 302 = .ok (.iload_n 1, 1) := by decide +kernel
theorem dX11_next_303 : decode cX11_next 303 = .ok (.bipush 10, 2) := by decide +kernel
theorem dX11_next_305 : decode cX11_next 305 = .ok (.if_icmp .ne 8, 3) := by decide +kernel
theorem dX11_next_308 : decode cX11_next 308 = .ok (.bipush 59, 2) := by decide +kernel
theorem dX11_next_310 : decode cX11_next 310 = .ok (.goto 15, 3) := by decide +kernel
theorem dX11_next_313 : decode cX11_next 313 = .ok (.iload_n 1, 1) := by decide +kernel
theorem dX11_next_314 : decode cX11_next 314 = .ok (.invokestatic 171, 3) := by decide +kernel
theorem dX11_next_317 : decode cX11_next 317 = .ok (.ifCond .eq 7, 3) := by decide +kernel
theorem dX11_next_320 : decode cX11_next 320 = .ok (.iload_n 1, 1) := by decide +kernel
theorem dX11_next_321 : decode cX11_next 321 = .ok (.goto 4, 3) := by decide +kernel
theorem dX11_next_324 : decode cX11_next 324 = .ok (.iconst 4, 1) := by decide +kernel
theorem dX11_next_325 : decode cX11_next 325 = .ok (.putfield 161, 3) := by decide +kernel
theorem dX11_next_328 : decode cX11_next 328 = .ok (.aload_n 0, 1) := by decide +kernel
theorem dX11_next_329 : decode cX11_next 329 = .ok (.dup, 1) := by decide +kernel
theorem dX11_next_330 : decode cX11_next 330 = .ok (.getfield 138, 3) := by decide +kernel
theorem dX11_next_333 : decode cX11_next 333 = .ok (.iload_n 1, 1) := by decide +kernel
theorem dX11_next_334 : decode cX11_next 334 = .ok (.iconst (-1), 1) := by decide +kernel
theorem dX11_next_335 : decode cX11_next 335 = .ok (.if_icmp .ne 7, 3) := by decide +kernel
theorem dX11_next_338 : decode cX11_next 338 = .ok (.iconst 0, 1) := by decide +kernel
theorem dX11_next_339 : decode cX11_next 339 = .ok (.goto 4, 3) := by decide +kernel
theorem dX11_next_342 : decode cX11_next 342 = .ok (.iconst 1, 1) := by decide +kernel
theorem dX11_next_343 : decode cX11_next 343 = .ok (.iadd, 1) := by decide +kernel
theorem dX11_next_344 : decode cX11_next 344 = .ok (.putfield 138, 3) := by decide +kernel
theorem dX11_next_347 : decode cX11_next 347 = .ok (.return_, 1) := by decide +kernel
theorem dX11_fails_0 : decode cX11_fails 0 = .ok (.aload_n 0, 1) := by decide +kernel
theorem dX11_fails_1 : decode cX11_fails 1 = .ok (.iload_n 1, 1) := by decide +kernel
theorem dX11_fails_2 : decode cX11_fails 2 = .ok (.putfield 174, 3) := by decide +kernel
theorem dX11_fails_5 : decode cX11_fails 5 = .ok (.aload_n 0, 1) := by decide +kernel
theorem dX11_fails_6 : decode cX11_fails 6 = .ok (.iload_n 2, 1) := by decide +kernel
theorem dX11_fails_7 : decode cX11_fails 7 = .ok (.putfield 177, 3) := by decide +kernel
theorem dX11_fails_10 : decode cX11_fails 10 = .ok (.iconst 0, 1) := by decide +kernel
theorem dX11_fails_11 : decode cX11_fails 11 = .ok (.ireturn, 1) := by decide +kernel
theorem dX11_failsHere_0 : decode cX11_failsHere 0 = .ok (.aload_n 0, 1) := by decide +kernel
theorem dX11_failsHere_1 : decode cX11_failsHere 1 = .ok (.iload_n 1, 1) := by decide +kernel
theorem dX11_failsHere_2 : decode cX11_failsHere 2 = .ok (.aload_n 0, 1) := by decide +kernel
theorem dX11_failsHere_3 : decode cX11_failsHere 3 = .ok (.getfield 148, 3) := by decide +kernel
theorem dX11_failsHere_6 : decode cX11_failsHere 6 = .ok (.invokevirtual 180, 3) := by decide +kernel
theorem dX11_failsHere_9 : decode cX11_failsHere 9 = .ok (.ireturn, 1) := by decide +kernel
theorem dX11_isFactor_0 : decode cX11_isFactor 0 = .ok (.aload_n 0, 1) := by decide +kernel
theorem dX11_isFactor_1 : decode cX11_isFactor 1 = .ok (.getfield 161, 3) := by decide +kernel
theorem dX11_isFactor_4 : decode cX11_isFactor 4 = .ok (.iconst 3, 1) := by decide +kernel
theorem dX11_isFactor_5 : decode cX11_isFactor 5 = .ok (.if_icmp .ne 34, 3) := by decide +kernel
theorem dX11_isFactor_8 : decode cX11_isFactor 8 = .ok (.aload_n 0, 1) := by decide +kernel
theorem dX11_isFactor_9 : decode cX11_isFactor 9 = .ok (.aload_n 0, 1) := by decide +kernel
theorem dX11_isFactor_10 : decode cX11_isFactor 10 = .ok (.getfield 158, 3) := by decide +kernel
theorem dX11_isFactor_13 : decode cX11_isFactor 13 = .ok (.putfield 184, 3) := by decide +kernel
theorem dX11_isFactor_16 : decode cX11_isFactor 16 = .ok (.aload_n 0, 1) := by decide +kernel
theorem dX11_isFactor_17 : decode cX11_isFactor 17 = .ok (.getfield 158, 3) := by decide +kernel
theorem dX11_isFactor_20 : decode cX11_isFactor 20 = .ok (.ldc 170, 2) := by decide +kernel
theorem dX11_isFactor_22 : decode cX11_isFactor 22 = .ok (.if_icmp .le 11, 3) := by decide +kernel
theorem dX11_isFactor_25 : decode cX11_isFactor 25 = .ok (.aload_n 0, 1) := by decide +kernel
theorem dX11_isFactor_26 : decode cX11_isFactor 26 = .ok (.iconst 4, 1) := by decide +kernel
theorem dX11_isFactor_27 : decode cX11_isFactor 27 = .ok (.invokevirtual 187, 3) := by decide +kernel
theorem dX11_isFactor_30 : decode cX11_isFactor 30 = .ok (.ifCond .eq 7, 3) := by decide +kernel
theorem dX11_isFactor_33 : decode cX11_isFactor 33 = .ok (.iconst 1, 1) := by decide +kernel
theorem dX11_isFactor_34 : decode cX11_isFactor 34 = .ok (.goto 4, 3) := by decide +kernel
theorem dX11_isFactor_37 : decode cX11_isFactor 37 = .ok (.iconst 0, 1) := by decide +kernel
theorem dX11_isFactor_38 : decode cX11_isFactor 38 = .ok (.ireturn, 1) := by decide +kernel
theorem dX11_isFactor_39 : decode cX11_isFactor 39 = .ok (.aload_n 0, 1) := by decide +kernel
theorem dX11_isFactor_40 : decode cX11_isFactor 40 = .ok (.getfield 161, 3) := by decide +kernel
theorem dX11_isFactor_43 : decode cX11_isFactor 43 = .ok (.iconst 2, 1) := by decide +kernel
theorem dX11_isFactor_44 : decode cX11_isFactor 44 = .ok (.if_icmp .eq 9, 3) := by decide +kernel
theorem dX11_isFactor_47 : decode cX11_isFactor 47 = .ok (.aload_n 0, 1) := by decide +kernel
theorem dX11_isFactor_48 : decode cX11_isFactor 48 = .ok (.iconst 1, 1) := by decide +kernel
theorem dX11_isFactor_49 : decode cX11_isFactor 49 = .ok (.invokevirtual 187, 3) := by decide +kernel
theorem dX11_isFactor_52 : decode cX11_isFactor 52 = .ok (.ireturn, 1) := by decide +kernel
theorem dX11_isFactor_53 : decode cX11_isFactor 53 = .ok (.iconst (-1), 1) := by decide +kernel
theorem dX11_isFactor_54 : decode cX11_isFactor 54 = .ok (.istore_n 1, 1) := by decide +kernel
theorem dX11_isFactor_55 : decode cX11_isFactor 55 = .ok (.iconst 0, 1) := by decide +kernel
theorem dX11_isFactor_56 : decode cX11_isFactor 56 = .ok (.istore_n 2, 1) := by decide +kernel
theorem dX11_isFactor_57 : decode cX11_isFactor 57 = .ok (.iload_n 2, 1) := by decide +kernel
theorem dX11_isFactor_58 : decode cX11_isFactor 58 = .ok (.bipush 10, 2) := by decide +kernel
theorem dX11_isFactor_60 : decode cX11_isFactor 60 = .ok (.if_icmp .ge 38, 3) := by decide +kernel
theorem dX11_isFactor_63 : decode cX11_isFactor 63 = .ok (.aload_n 0, 1) := by decide +kernel
theorem dX11_isFactor_64 : decode cX11_isFactor 64 = .ok (.getfield 22, 3) := by decide +kernel
theorem dX11_isFactor_67 : decode cX11_isFactor 67 = .ok (.iload_n 2, 1) := by decide +kernel
theorem dX11_isFactor_68 : decode cX11_isFactor 68 = .ok (.laload, 1) := by decide +kernel
theorem dX11_isFactor_69 : decode cX11_isFactor 69 = .ok (.aload_n 0, 1) := by decide +kernel
theorem dX11_isFactor_70 : decode cX11_isFactor 70 = .ok (.getfield 154, 3) := by decide +kernel
theorem dX11_isFactor_73 : decode cX11_isFactor 73 = .ok (.lcmp, 1) := by decide +kernel
theorem dX11_isFactor_74 : decode cX11_isFactor 74 = .ok (.ifCond .ne 16, 3) := by decide +kernel
theorem dX11_isFactor_77 : decode cX11_isFactor 77 = .ok (.aload_n 0, 1) := by decide +kernel
theorem dX11_isFactor_78 : decode cX11_isFactor 78 = .ok (.getfield 151, 3) := by decide +kernel
theorem dX11_isFactor_81 : decode cX11_isFactor 81 = .ok (.bipush 10, 2) := by decide +kernel
theorem dX11_isFactor_83 : decode cX11_isFactor 83 = .ok (.if_icmp .ge 7, 3) := by decide +kernel
theorem dX11_isFactor_86 : decode cX11_isFactor 86 = .ok (.iload_n 2, 1) := by decide +kernel
theorem dX11_isFactor_87 : decode cX11_isFactor 87 = .ok (.goto 4, 3) := by decide +kernel
theorem dX11_isFactor_90 : decode cX11_isFactor 90 = .ok (.iload_n 1, 1) := by decide +kernel
theorem dX11_isFactor_91 : decode cX11_isFactor 91 = .ok (.istore_n 1, 1) := by decide +kernel
theorem dX11_isFactor_92 : decode cX11_isFactor 92 = .ok (.iinc 2 1, 3) := by decide +kernel
theorem dX11_isFactor_95 : decode cX11_isFactor 95 = .ok (.goto (-38), 3) := by decide +kernel
theorem dX11_isFactor_98 : decode cX11_isFactor 98 = .ok (.aload_n 0, 1) := by decide +kernel
theorem dX11_isFactor_99 : decode cX11_isFactor 99 = .ok (.iload_n 1, 1) := by decide +kernel
theorem dX11_isFactor_100 : decode cX11_isFactor 100 = .ok (.iconst (-1), 1) := by decide +kernel
theorem dX11_isFactor_101 : decode cX11_isFactor 101 = .ok (.if_icmp .ne 7, 3) := by decide +kernel
theorem dX11_isFactor_104 : decode cX11_isFactor 104 = .ok (.iconst 0, 1) := by decide +kernel
theorem dX11_isFactor_105 : decode cX11_isFactor 105 = .ok (.goto 9, 3) := by decide +kernel
theorem dX11_isFactor_108 : decode cX11_isFactor 108 = .ok (.aload_n 0, 1) := by decide +kernel
theorem dX11_isFactor_109 : decode cX11_isFactor 109 = .ok (.getfield 26, 3) := by decide +kernel
theorem dX11_isFactor_112 : decode cX11_isFactor 112 = .ok (.iload_n 1, 1) := by decide +kernel
theorem dX11_isFactor_113 : decode cX11_isFactor 113 = .ok (.iaload, 1) := by decide +kernel
theorem dX11_isFactor_114 : decode cX11_isFactor 114 = .ok (.putfield 184, 3) := by decide +kernel
theorem dX11_isFactor_117 : decode cX11_isFactor 117 = .ok (.iload_n 1, 1) := by decide +kernel
theorem dX11_isFactor_118 : decode cX11_isFactor 118 = .ok (.iconst (-1), 1) := by decide +kernel
theorem dX11_isFactor_119 : decode cX11_isFactor 119 = .ok (.if_icmp .ne 11, 3) := by decide +kernel
theorem dX11_isFactor_122 : decode cX11_isFactor 122 = .ok (.aload_n 0, 1) := by decide +kernel
theorem dX11_isFactor_123 : decode cX11_isFactor 123 = .ok (.iconst 3, 1) := by decide +kernel
theorem dX11_isFactor_124 : decode cX11_isFactor 124 = .ok (.invokevirtual 187, 3) := by decide +kernel
theorem dX11_isFactor_127 : decode cX11_isFactor 127 = .ok (.ifCond .eq 7, 3) := by decide +kernel
theorem dX11_isFactor_130 : decode cX11_isFactor 130 = .ok (.iconst 1, 1) := by decide +kernel
theorem dX11_isFactor_131 : decode cX11_isFactor 131 = .ok (.goto 4, 3) := by decide +kernel
theorem dX11_isFactor_134 : decode cX11_isFactor 134 = .ok (.iconst 0, 1) := by decide +kernel
theorem dX11_isFactor_135 : decode cX11_isFactor 135 = .ok (.ireturn, 1) := by decide +kernel
theorem dX11_isWorked_0 : decode cX11_isWorked 0 = .ok (.iload_n 1, 1) := by decide +kernel
theorem dX11_isWorked_1 : decode cX11_isWorked 1 = .ok (.bipush 47, 2) := by decide +kernel
theorem dX11_isWorked_3 : decode cX11_isWorked 3 = .ok (.if_icmp .ne 15, 3) := by decide +kernel
theorem dX11_isWorked_6 : decode cX11_isWorked 6 = .ok (.iload_n 3, 1) := by decide +kernel
theorem dX11_isWorked_7 : decode cX11_isWorked 7 = .ok (.ifCond .ne 11, 3) := by decide +kernel
theorem dX11_isWorked_10 : decode cX11_isWorked 10 = .ok (.aload_n 0, 1) := by decide +kernel
theorem dX11_isWorked_11 : decode cX11_isWorked 11 = .ok (.iconst 4, 1) := by decide +kernel
theorem dX11_isWorked_12 : decode cX11_isWorked 12 = .ok (.iload 4, 2) := by decide +kernel
theorem dX11_isWorked_14 : decode cX11_isWorked 14 = .ok (.invokevirtual 180, 3) := by decide +kernel
theorem dX11_isWorked_17 : decode cX11_isWorked 17 = .ok (.ireturn, 1) := by decide +kernel
theorem dX11_isWorked_18 : decode cX11_isWorked 18 = .ok (.iload_n 1, 1) := by decide +kernel
theorem dX11_isWorked_19 : decode cX11_isWorked 19 = .ok (.bipush 43, 2) := by decide +kernel
theorem dX11_isWorked_21 : decode cX11_isWorked 21 = .ok (.if_icmp .ne 11, 3) := by decide +kernel
theorem dX11_isWorked_24 : decode cX11_isWorked 24 = .ok (.iload_n 2, 1) := by decide +kernel
theorem dX11_isWorked_25 : decode cX11_isWorked 25 = .ok (.i2l, 1) := by decide +kernel
theorem dX11_isWorked_26 : decode cX11_isWorked 26 = .ok (.iload_n 3, 1) := by decide +kernel
theorem dX11_isWorked_27 : decode cX11_isWorked 27 = .ok (.i2l, 1) := by decide +kernel
theorem dX11_isWorked_28 : decode cX11_isWorked 28 = .ok (.ladd, 1) := by decide +kernel
theorem dX11_isWorked_29 : decode cX11_isWorked 29 = .ok (.goto 35, 3) := by decide +kernel
theorem dX11_isWorked_32 : decode cX11_isWorked 32 = .ok (.iload_n 1, 1) := by decide +kernel
theorem dX11_isWorked_33 : decode cX11_isWorked 33 = .ok (.bipush 45, 2) := by decide +kernel
theorem dX11_isWorked_35 : decode cX11_isWorked 35 = .ok (.if_icmp .ne 11, 3) := by decide +kernel
theorem dX11_isWorked_38 : decode cX11_isWorked 38 = .ok (.iload_n 2, 1) := by decide +kernel
theorem dX11_isWorked_39 : decode cX11_isWorked 39 = .ok (.i2l, 1) := by decide +kernel
theorem dX11_isWorked_40 : decode cX11_isWorked 40 = .ok (.iload_n 3, 1) := by decide +kernel
theorem dX11_isWorked_41 : decode cX11_isWorked 41 = .ok (.i2l, 1) := by decide +kernel
theorem dX11_isWorked_42 : decode cX11_isWorked 42 = .ok (.lsub, 1) := by decide +kernel
theorem dX11_isWorked_43 : decode cX11_isWorked 43 = .ok (.goto 21, 3) := by decide +kernel
theorem dX11_isWorked_46 : decode cX11_isWorked 46 = .ok (.iload_n 1, 1) := by decide +kernel
theorem dX11_isWorked_47 : decode cX11_isWorked 47 = .ok (.bipush 42, 2) := by decide +kernel
theorem dX11_isWorked_49 : decode cX11_isWorked 49 = .ok (.if_icmp .ne 11, 3) := by decide +kernel
theorem dX11_isWorked_52 : decode cX11_isWorked 52 = .ok (.iload_n 2, 1) := by decide +kernel
theorem dX11_isWorked_53 : decode cX11_isWorked 53 = .ok (.i2l, 1) := by decide +kernel
theorem dX11_isWorked_54 : decode cX11_isWorked 54 = .ok (.iload_n 3, 1) := by decide +kernel
theorem dX11_isWorked_55 : decode cX11_isWorked 55 = .ok (.i2l, 1) := by decide +kernel
theorem dX11_isWorked_56 : decode cX11_isWorked 56 = .ok (.lmul, 1) := by decide +kernel
theorem dX11_isWorked_57 : decode cX11_isWorked 57 = .ok (.goto 7, 3) := by decide +kernel
theorem dX11_isWorked_60 : decode cX11_isWorked 60 = .ok (.iload_n 2, 1) := by decide +kernel
theorem dX11_isWorked_61 : decode cX11_isWorked 61 = .ok (.iload_n 3, 1) := by decide +kernel
theorem dX11_isWorked_62 : decode cX11_isWorked 62 = .ok (.idiv, 1) := by decide +kernel
theorem dX11_isWorked_63 : decode cX11_isWorked 63 = .ok (.i2l, 1) := by decide +kernel
theorem dX11_isWorked_64 : decode cX11_isWorked 64 = .ok (.lstore 5, 2) := by decide +kernel
theorem dX11_isWorked_66 : decode cX11_isWorked 66 = .ok (.aload_n 0, 1) := by decide +kernel
theorem dX11_isWorked_67 : decode cX11_isWorked 67 = .ok (.lload 5, 2) := by decide +kernel
theorem dX11_isWorked_69 : decode cX11_isWorked 69 = .ok (.l2i, 1) := by decide +kernel
theorem dX11_isWorked_70 : decode cX11_isWorked 70 = .ok (.putfield 184, 3) := by decide +kernel
theorem dX11_isWorked_73 : decode cX11_isWorked 73 = .ok (.lload 5, 2) := by decide +kernel
theorem dX11_isWorked_75 : decode cX11_isWorked 75 = .ok (.ldc2_w 190, 3) := by decide +kernel
theorem dX11_isWorked_78 : decode cX11_isWorked 78 = .ok (.lcmp, 1) := by decide +kernel
theorem dX11_isWorked_79 : decode cX11_isWorked 79 = .ok (.ifCond .gt 12, 3) := by decide +kernel
theorem dX11_isWorked_82 : decode cX11_isWorked 82 = .ok (.lload 5, 2) := by decide +kernel
theorem dX11_isWorked_84 : decode cX11_isWorked 84 = .ok (.ldc2_w 192, 3) := by decide +kernel
theorem dX11_isWorked_87 : decode cX11_isWorked 87 = .ok (.lcmp, 1) := by decide +kernel
theorem dX11_isWorked_88 : decode cX11_isWorked 88 = .ok (.ifCond .ge 13, 3) := by decide +kernel
theorem dX11_isWorked_91 : decode cX11_isWorked 91 = .ok (.aload_n 0, 1) := by decide +kernel
theorem dX11_isWorked_92 : decode cX11_isWorked 92 = .ok (.iconst 4, 1) := by decide +kernel
theorem dX11_isWorked_93 : decode cX11_isWorked 93 = .ok (.iload 4, 2) := by decide +kernel
theorem dX11_isWorked_95 : decode cX11_isWorked 95 = .ok (.invokevirtual 180, 3) := by decide +kernel
theorem dX11_isWorked_98 : decode cX11_isWorked 98 = .ok (.ifCond .eq 7, 3) := by decide +kernel
theorem dX11_isWorked_101 : decode cX11_isWorked 101 = .ok (.iconst 1, 1) := by decide +kernel
theorem dX11_isWorked_102 : decode cX11_isWorked 102 = .ok (.goto 4, 3) := by decide +kernel
theorem dX11_isWorked_105 : decode cX11_isWorked 105 = .ok (.iconst 0, 1) := by decide +kernel
theorem dX11_isWorked_106 : decode cX11_isWorked 106 = .ok (.ireturn, 1) := by decide +kernel
theorem dX11_closes_0 : decode cX11_closes 0 = .ok (.aload_n 0, 1) := by decide +kernel
theorem dX11_closes_1 : decode cX11_closes 1 = .ok (.getfield 41, 3) := by decide +kernel
theorem dX11_closes_4 : decode cX11_closes 4 = .ok (.aload_n 0, 1) := by decide +kernel
theorem dX11_closes_5 : decode cX11_closes 5 = .ok (.getfield 194, 3) := by decide +kernel
theorem dX11_closes_8 : decode cX11_closes 8 = .ok (.iaload, 1) := by decide +kernel
theorem dX11_closes_9 : decode cX11_closes 9 = .ok (.ifCond .eq 43, 3) := by decide +kernel
theorem dX11_closes_12 : decode cX11_closes 12 = .ok (.aload_n 0, 1) := by decide +kernel
theorem dX11_closes_13 : decode cX11_closes 13 = .ok (.aload_n 0, 1) := by decide +kernel
theorem dX11_closes_14 : decode cX11_closes 14 = .ok (.getfield 41, 3) := by decide +kernel
theorem dX11_closes_17 : decode cX11_closes 17 = .ok (.aload_n 0, 1) := by decide +kernel
theorem dX11_closes_18 : decode cX11_closes 18 = .ok (.getfield 194, 3) := by decide +kernel
theorem dX11_closes_21 : decode cX11_closes 21 = .ok (.iaload, 1) := by decide +kernel
theorem dX11_closes_22 : decode cX11_closes 22 = .ok (.aload_n 0, 1) := by decide +kernel
theorem dX11_closes_23 : decode cX11_closes 23 = .ok (.getfield 38, 3) := by decide +kernel
theorem dX11_closes_26 : decode cX11_closes 26 = .ok (.aload_n 0, 1) := by decide +kernel
theorem dX11_closes_27 : decode cX11_closes 27 = .ok (.getfield 194, 3) := by decide +kernel
theorem dX11_closes_30 : decode cX11_closes 30 = .ok (.iaload, 1) := by decide +kernel
theorem dX11_closes_31 : decode cX11_closes 31 = .ok (.aload_n 0, 1) := by decide +kernel
theorem dX11_closes_32 : decode cX11_closes 32 = .ok (.getfield 184, 3) := by decide +kernel
theorem dX11_closes_35 : decode cX11_closes 35 = .ok (.aload_n 0, 1) := by decide +kernel
theorem dX11_closes_36 : decode cX11_closes 36 = .ok (.getfield 44, 3) := by decide +kernel
theorem dX11_closes_39 : decode cX11_closes 39 = .ok (.aload_n 0, 1) := by decide +kernel
theorem dX11_closes_40 : decode cX11_closes 40 = .ok (.getfield 194, 3) := by decide +kernel
theorem dX11_closes_43 : decode cX11_closes 43 = .ok (.iaload, 1) := by decide +kernel
theorem dX11_closes_44 : decode cX11_closes 44 = .ok (.invokevirtual 197, 3) := by decide +kernel
theorem dX11_closes_47 : decode cX11_closes 47 = .ok (.ifCond .ne 5, 3) := by decide +kernel
theorem dX11_closes_50 : decode cX11_closes 50 = .ok (.iconst 2, 1) := by decide +kernel
theorem dX11_closes_51 : decode cX11_closes 51 = .ok (.ireturn, 1) := by decide +kernel
theorem dX11_closes_52 : decode cX11_closes 52 = .ok (.aload_n 0, 1) := by decide +kernel
theorem dX11_closes_53 : decode cX11_closes 53 = .ok (.getfield 161, 3) := by decide +kernel
theorem dX11_closes_56 : decode cX11_closes 56 = .ok (.bipush 42, 2) := by decide +kernel
theorem dX11_closes_58 : decode cX11_closes 58 = .ok (.if_icmp .eq 12, 3) := by decide +kernel
theorem dX11_closes_61 : decode cX11_closes 61 = .ok (.aload_n 0, 1) := by decide +kernel
theorem dX11_closes_62 : decode cX11_closes 62 = .ok (.getfield 161, 3) := by decide +kernel
theorem dX11_closes_65 : decode cX11_closes 65 = .ok (.bipush 47, 2) := by decide +kernel
theorem dX11_closes_67 : decode cX11_closes 67 = .ok (.if_icmp .ne 48, 3) := by decide +kernel
theorem dX11_closes_70 : decode cX11_closes 70 = .ok (.aload_n 0, 1) := by decide +kernel
theorem dX11_closes_71 : decode cX11_closes 71 = .ok (.getfield 38, 3) := by decide +kernel
theorem dX11_closes_74 : decode cX11_closes 74 = .ok (.aload_n 0, 1) := by decide +kernel
theorem dX11_closes_75 : decode cX11_closes 75 = .ok (.getfield 194, 3) := by decide +kernel
theorem dX11_closes_78 : decode cX11_closes 78 = .ok (.aload_n 0, 1) := by decide +kernel
theorem dX11_closes_79 : decode cX11_closes 79 = .ok (.getfield 184, 3) := by decide +kernel
theorem dX11_closes_82 : decode cX11_closes 82 = .ok (.iastore, 1) := by decide +kernel
theorem dX11_closes_83 : decode cX11_closes 83 = .ok (.aload_n 0, 1) := by decide +kernel
theorem dX11_closes_84 : decode cX11_closes 84 = .ok (.getfield 41, 3) := by decide +kernel
theorem dX11_closes_87 : decode cX11_closes 87 = .ok (.aload_n 0, 1) := by decide +kernel
theorem dX11_closes_88 : decode cX11_closes 88 = .ok (.getfield 194, 3) := by decide +kernel
theorem dX11_closes_91 : decode cX11_closes 91 = .ok (.aload_n 0, 1) := by decide +kernel
theorem dX11_closes_92 : decode cX11_closes 92 = .ok (.getfield 161, 3) := by decide +kernel
theorem dX11_closes_95 : decode cX11_closes 95 = .ok (.iastore, 1) := by decide +kernel
theorem dX11_closes_96 : decode cX11_closes 96 = .ok (.aload_n 0, 1) := by decide +kernel
theorem dX11_closes_97 : decode cX11_closes 97 = .ok (.getfield 44, 3) := by decide +kernel
theorem dX11_closes_100 : decode cX11_closes 100 = .ok (.aload_n 0, 1) := by decide +kernel
theorem dX11_closes_101 : decode cX11_closes 101 = .ok (.getfield 194, 3) := by decide +kernel
theorem dX11_closes_104 : decode cX11_closes 104 = .ok (.aload_n 0, 1) := by decide +kernel
theorem dX11_closes_105 : decode cX11_closes 105 = .ok (.getfield 148, 3) := by decide +kernel
theorem dX11_closes_108 : decode cX11_closes 108 = .ok (.iastore, 1) := by decide +kernel
theorem dX11_closes_109 : decode cX11_closes 109 = .ok (.aload_n 0, 1) := by decide +kernel
theorem dX11_closes_110 : decode cX11_closes 110 = .ok (.invokevirtual 201, 3) := by decide +kernel
theorem dX11_closes_113 : decode cX11_closes 113 = .ok (.iconst 0, 1) := by decide +kernel
theorem dX11_closes_114 : decode cX11_closes 114 = .ok (.ireturn, 1) := by decide +kernel
theorem dX11_closes_115 : decode cX11_closes 115 = .ok (.aload_n 0, 1) := by decide +kernel
theorem dX11_closes_116 : decode cX11_closes 116 = .ok (.getfield 32, 3) := by decide +kernel
theorem dX11_closes_119 : decode cX11_closes 119 = .ok (.aload_n 0, 1) := by decide +kernel
theorem dX11_closes_120 : decode cX11_closes 120 = .ok (.getfield 194, 3) := by decide +kernel
theorem dX11_closes_123 : decode cX11_closes 123 = .ok (.iaload, 1) := by decide +kernel
theorem dX11_closes_124 : decode cX11_closes 124 = .ok (.ifCond .eq 43, 3) := by decide +kernel
theorem dX11_closes_127 : decode cX11_closes 127 = .ok (.aload_n 0, 1) := by decide +kernel
theorem dX11_closes_128 : decode cX11_closes 128 = .ok (.aload_n 0, 1) := by decide +kernel
theorem dX11_closes_129 : decode cX11_closes 129 = .ok (.getfield 32, 3) := by decide +kernel
theorem dX11_closes_132 : decode cX11_closes 132 = .ok (.aload_n 0, 1) := by decide +kernel
theorem dX11_closes_133 : decode cX11_closes 133 = .ok (.getfield 194, 3) := by decide +kernel
theorem dX11_closes_136 : decode cX11_closes 136 = .ok (.iaload, 1) := by decide +kernel
theorem dX11_closes_137 : decode cX11_closes 137 = .ok (.aload_n 0, 1) := by decide +kernel
theorem dX11_closes_138 : decode cX11_closes 138 = .ok (.getfield 29, 3) := by decide +kernel
theorem dX11_closes_141 : decode cX11_closes 141 = .ok (.aload_n 0, 1) := by decide +kernel
theorem dX11_closes_142 : decode cX11_closes 142 = .ok (.getfield 194, 3) := by decide +kernel
theorem dX11_closes_145 : decode cX11_closes 145 = .ok (.iaload, 1) := by decide +kernel
theorem dX11_closes_146 : decode cX11_closes 146 = .ok (.aload_n 0, 1) := by decide +kernel
theorem dX11_closes_147 : decode cX11_closes 147 = .ok (.getfield 184, 3) := by decide +kernel
theorem dX11_closes_150 : decode cX11_closes 150 = .ok (.aload_n 0, 1) := by decide +kernel
theorem dX11_closes_151 : decode cX11_closes 151 = .ok (.getfield 35, 3) := by decide +kernel
theorem dX11_closes_154 : decode cX11_closes 154 = .ok (.aload_n 0, 1) := by decide +kernel
theorem dX11_closes_155 : decode cX11_closes 155 = .ok (.getfield 194, 3) := by decide +kernel
theorem dX11_closes_158 : decode cX11_closes 158 = .ok (.iaload, 1) := by decide +kernel
theorem dX11_closes_159 : decode cX11_closes 159 = .ok (.invokevirtual 197, 3) := by decide +kernel
theorem dX11_closes_162 : decode cX11_closes 162 = .ok (.ifCond .ne 5, 3) := by decide +kernel
theorem dX11_closes_165 : decode cX11_closes 165 = .ok (.iconst 2, 1) := by decide +kernel
theorem dX11_closes_166 : decode cX11_closes 166 = .ok (.ireturn, 1) := by decide +kernel
theorem dX11_closes_167 : decode cX11_closes 167 = .ok (.aload_n 0, 1) := by decide +kernel
theorem dX11_closes_168 : decode cX11_closes 168 = .ok (.getfield 161, 3) := by decide +kernel
theorem dX11_closes_171 : decode cX11_closes 171 = .ok (.bipush 43, 2) := by decide +kernel
theorem dX11_closes_173 : decode cX11_closes 173 = .ok (.if_icmp .eq 12, 3) := by decide +kernel
theorem dX11_closes_176 : decode cX11_closes 176 = .ok (.aload_n 0, 1) := by decide +kernel
theorem dX11_closes_177 : decode cX11_closes 177 = .ok (.getfield 161, 3) := by decide +kernel
theorem dX11_closes_180 : decode cX11_closes 180 = .ok (.bipush 45, 2) := by decide +kernel
theorem dX11_closes_182 : decode cX11_closes 182 = .ok (.if_icmp .ne 58, 3) := by decide +kernel
theorem dX11_closes_185 : decode cX11_closes 185 = .ok (.aload_n 0, 1) := by decide +kernel
theorem dX11_closes_186 : decode cX11_closes 186 = .ok (.getfield 29, 3) := by decide +kernel
theorem dX11_closes_189 : decode cX11_closes 189 = .ok (.aload_n 0, 1) := by decide +kernel
theorem dX11_closes_190 : decode cX11_closes 190 = .ok (.getfield 194, 3) := by decide +kernel
theorem dX11_closes_193 : decode cX11_closes 193 = .ok (.aload_n 0, 1) := by decide +kernel
theorem dX11_closes_194 : decode cX11_closes 194 = .ok (.getfield 184, 3) := by decide +kernel
theorem dX11_closes_197 : decode cX11_closes 197 = .ok (.iastore, 1) := by decide +kernel
theorem dX11_closes_198 : decode cX11_closes 198 = .ok (.aload_n 0, 1) := by decide +kernel
theorem dX11_closes_199 : decode cX11_closes 199 = .ok (.getfield 32, 3) := by decide +kernel
theorem dX11_closes_202 : decode cX11_closes 202 = .ok (.aload_n 0, 1) := by decide +kernel
theorem dX11_closes_203 : decode cX11_closes 203 = .ok (.getfield 194, 3) := by decide +kernel
theorem dX11_closes_206 : decode cX11_closes 206 = .ok (.aload_n 0, 1) := by decide +kernel
theorem dX11_closes_207 : decode cX11_closes 207 = .ok (.getfield 161, 3) := by decide +kernel
theorem dX11_closes_210 : decode cX11_closes 210 = .ok (.iastore, 1) := by decide +kernel
theorem dX11_closes_211 : decode cX11_closes 211 = .ok (.aload_n 0, 1) := by decide +kernel
theorem dX11_closes_212 : decode cX11_closes 212 = .ok (.getfield 35, 3) := by decide +kernel
theorem dX11_closes_215 : decode cX11_closes 215 = .ok (.aload_n 0, 1) := by decide +kernel
theorem dX11_closes_216 : decode cX11_closes 216 = .ok (.getfield 194, 3) := by decide +kernel
theorem dX11_closes_219 : decode cX11_closes 219 = .ok (.aload_n 0, 1) := by decide +kernel
theorem dX11_closes_220 : decode cX11_closes 220 = .ok (.getfield 148, 3) := by decide +kernel
theorem dX11_closes_223 : decode cX11_closes 223 = .ok (.iastore, 1) := by decide +kernel
theorem dX11_closes_224 : decode cX11_closes 224 = .ok (.aload_n 0, 1) := by decide +kernel
theorem dX11_closes_225 : decode cX11_closes 225 = .ok (.getfield 41, 3) := by decide +kernel
theorem dX11_closes_228 : decode cX11_closes 228 = .ok (.aload_n 0, 1) := by decide +kernel
theorem dX11_closes_229 : decode cX11_closes 229 = .ok (.getfield 194, 3) := by decide +kernel
theorem dX11_closes_232 : decode cX11_closes 232 = .ok (.iconst 0, 1) := by decide +kernel
theorem dX11_closes_233 : decode cX11_closes 233 = .ok (.iastore, 1) := by decide +kernel
theorem dX11_closes_234 : decode cX11_closes 234 = .ok (.aload_n 0, 1) := by decide +kernel
theorem dX11_closes_235 : decode cX11_closes 235 = .ok (.invokevirtual 201, 3) := by decide +kernel
theorem dX11_closes_238 : decode cX11_closes 238 = .ok (.iconst 0, 1) := by decide +kernel
theorem dX11_closes_239 : decode cX11_closes 239 = .ok (.ireturn, 1) := by decide +kernel
theorem dX11_closes_240 : decode cX11_closes 240 = .ok (.aload_n 0, 1) := by decide +kernel
theorem dX11_closes_241 : decode cX11_closes 241 = .ok (.getfield 194, 3) := by decide +kernel
theorem dX11_closes_244 : decode cX11_closes 244 = .ok (.ifCond .ne 5, 3) := by decide +kernel
theorem dX11_closes_247 : decode cX11_closes 247 = .ok (.iconst 1, 1) := by decide +kernel
theorem dX11_closes_248 : decode cX11_closes 248 = .ok (.ireturn, 1) := by decide +kernel
theorem dX11_closes_249 : decode cX11_closes 249 = .ok (.aload_n 0, 1) := by decide +kernel
theorem dX11_closes_250 : decode cX11_closes 250 = .ok (.getfield 161, 3) := by decide +kernel
theorem dX11_closes_253 : decode cX11_closes 253 = .ok (.bipush 41, 2) := by decide +kernel
theorem dX11_closes_255 : decode cX11_closes 255 = .ok (.if_icmp .eq 11, 3) := by decide +kernel
theorem dX11_closes_258 : decode cX11_closes 258 = .ok (.aload_n 0, 1) := by decide +kernel
theorem dX11_closes_259 : decode cX11_closes 259 = .ok (.iconst 1, 1) := by decide +kernel
theorem dX11_closes_260 : decode cX11_closes 260 = .ok (.invokevirtual 187, 3) := by decide +kernel
theorem dX11_closes_263 : decode cX11_closes 263 = .ok (.pop, 1) := by decide +kernel
theorem dX11_closes_264 : decode cX11_closes 264 = .ok (.iconst 2, 1) := by decide +kernel
theorem dX11_closes_265 : decode cX11_closes 265 = .ok (.ireturn, 1) := by decide +kernel
theorem dX11_closes_266 : decode cX11_closes 266 = .ok (.aload_n 0, 1) := by decide +kernel
theorem dX11_closes_267 : decode cX11_closes 267 = .ok (.invokevirtual 201, 3) := by decide +kernel
theorem dX11_closes_270 : decode cX11_closes 270 = .ok (.aload_n 0, 1) := by decide +kernel
theorem dX11_closes_271 : decode cX11_closes 271 = .ok (.dup, 1) := by decide +kernel
theorem dX11_closes_272 : decode cX11_closes 272 = .ok (.getfield 194, 3) := by decide +kernel
theorem dX11_closes_275 : decode cX11_closes 275 = .ok (.iconst 1, 1) := by decide +kernel
theorem dX11_closes_276 : decode cX11_closes 276 = .ok (.isub, 1) := by decide +kernel
theorem dX11_closes_277 : decode cX11_closes 277 = .ok (.putfield 194, 3) := by decide +kernel
theorem dX11_closes_280 : decode cX11_closes 280 = .ok (.goto (-280), 3) := by decide +kernel
theorem dX11_isSum_0 : decode cX11_isSum 0 = .ok (.aload_n 0, 1) := by decide +kernel
theorem dX11_isSum_1 : decode cX11_isSum 1 = .ok (.iconst 0, 1) := by decide +kernel
theorem dX11_isSum_2 : decode cX11_isSum 2 = .ok (.putfield 194, 3) := by decide +kernel
theorem dX11_isSum_5 : decode cX11_isSum 5 = .ok (.aload_n 0, 1) := by decide +kernel
theorem dX11_isSum_6 : decode cX11_isSum 6 = .ok (.getfield 32, 3) := by decide +kernel
theorem dX11_isSum_9 : decode cX11_isSum 9 = .ok (.iconst 0, 1) := by decide +kernel
theorem dX11_isSum_10 : decode cX11_isSum 10 = .ok (.iconst 0, 1) := by decide +kernel
theorem dX11_isSum_11 : decode cX11_isSum 11 = .ok (.iastore, 1) := by decide +kernel
theorem dX11_isSum_12 : decode cX11_isSum 12 = .ok (.aload_n 0, 1) := by decide +kernel
theorem dX11_isSum_13 : decode cX11_isSum 13 = .ok (.getfield 41, 3) := by decide +kernel
theorem dX11_isSum_16 : decode cX11_isSum 16 = .ok (.iconst 0, 1) := by decide +kernel
theorem dX11_isSum_17 : decode cX11_isSum 17 = .ok (.iconst 0, 1) := by decide +kernel
theorem dX11_isSum_18 : decode cX11_isSum 18 = .ok (.iastore, 1) := by decide +kernel
theorem dX11_isSum_19 : decode cX11_isSum 19 = .ok (.iconst 0, 1) := by decide +kernel
theorem dX11_isSum_20 : decode cX11_isSum 20 = .ok (.istore_n 1, 1) := by decide +kernel
theorem dX11_isSum_21 : decode cX11_isSum 21 = .ok (.iload_n 1, 1) := by decide +kernel
theorem dX11_isSum_22 : decode cX11_isSum 22 = .ok (.ifCond .ne 73, 3) := by decide +kernel
theorem dX11_isSum_25 : decode cX11_isSum 25 = .ok (.aload_n 0, 1) := by decide +kernel
theorem dX11_isSum_26 : decode cX11_isSum 26 = .ok (.getfield 161, 3) := by decide +kernel
theorem dX11_isSum_29 : decode cX11_isSum 29 = .ok (.bipush 40, 2) := by decide +kernel
theorem dX11_isSum_31 : decode cX11_isSum 31 = .ok (.if_icmp .ne 40, 3) := by decide +kernel
theorem dX11_isSum_34 : decode cX11_isSum 34 = .ok (.aload_n 0, 1) := by decide +kernel
theorem dX11_isSum_35 : decode cX11_isSum 35 = .ok (.dup, 1) := by decide +kernel
theorem dX11_isSum_36 : decode cX11_isSum 36 = .ok (.getfield 194, 3) := by decide +kernel
theorem dX11_isSum_39 : decode cX11_isSum 39 = .ok (.iconst 1, 1) := by decide +kernel
theorem dX11_isSum_40 : decode cX11_isSum 40 = .ok (.iadd, 1) := by decide +kernel
theorem dX11_isSum_41 : decode cX11_isSum 41 = .ok (.putfield 194, 3) := by decide +kernel
theorem dX11_isSum_44 : decode cX11_isSum 44 = .ok (.aload_n 0, 1) := by decide +kernel
theorem dX11_isSum_45 : decode cX11_isSum 45 = .ok (.getfield 32, 3) := by decide +kernel
theorem dX11_isSum_48 : decode cX11_isSum 48 = .ok (.aload_n 0, 1) := by decide +kernel
theorem dX11_isSum_49 : decode cX11_isSum 49 = .ok (.getfield 194, 3) := by decide +kernel
theorem dX11_isSum_52 : decode cX11_isSum 52 = .ok (.iconst 0, 1) := by decide +kernel
theorem dX11_isSum_53 : decode cX11_isSum 53 = .ok (.iastore, 1) := by decide +kernel
theorem dX11_isSum_54 : decode cX11_isSum 54 = .ok (.aload_n 0, 1) := by decide +kernel
theorem dX11_isSum_55 : decode cX11_isSum 55 = .ok (.getfield 41, 3) := by decide +kernel
theorem dX11_isSum_58 : decode cX11_isSum 58 = .ok (.aload_n 0, 1) := by decide +kernel
theorem dX11_isSum_59 : decode cX11_isSum 59 = .ok (.getfield 194, 3) := by decide +kernel
theorem dX11_isSum_62 : decode cX11_isSum 62 = .ok (.iconst 0, 1) := by decide +kernel
theorem dX11_isSum_63 : decode cX11_isSum 63 = .ok (.iastore, 1) := by decide +kernel
theorem dX11_isSum_64 : decode cX11_isSum 64 = .ok (.aload_n 0, 1) := by decide +kernel
theorem dX11_isSum_65 : decode cX11_isSum 65 = .ok (.invokevirtual 201, 3) := by decide +kernel
theorem dX11_isSum_68 : decode cX11_isSum 68 = .ok (.goto (-47), 3) := by decide +kernel
theorem dX11_isSum_71 : decode cX11_isSum 71 = .ok (.aload_n 0, 1) := by decide +kernel
theorem dX11_isSum_72 : decode cX11_isSum 72 = .ok (.invokevirtual 204, 3) := by decide +kernel
theorem dX11_isSum_75 : decode cX11_isSum 75 = .ok (.ifCond .eq 15, 3) := by decide +kernel
theorem dX11_isSum_78 : decode cX11_isSum 78 = .ok (.aload_n 0, 1) := by decide +kernel
theorem dX11_isSum_79 : decode cX11_isSum 79 = .ok (.invokevirtual 201, 3) := by decide +kernel
theorem dX11_isSum_82 : decode cX11_isSum 82 = .ok (.aload_n 0, 1) := by decide +kernel
theorem dX11_isSum_83 : decode cX11_isSum 83 = .ok (.invokevirtual 208, 3) := by decide +kernel
theorem dX11_isSum_86 : decode cX11_isSum 86 = .ok (.istore_n 1, 1) := by decide +kernel
theorem dX11_isSum_87 : decode cX11_isSum 87 = .ok (.goto (-66), 3) := by decide +kernel
theorem dX11_isSum_90 : decode cX11_isSum 90 = .ok (.iconst 2, 1) := by decide +kernel
theorem dX11_isSum_91 : decode cX11_isSum 91 = .ok (.istore_n 1, 1) := by decide +kernel
theorem dX11_isSum_92 : decode cX11_isSum 92 = .ok (.goto (-71), 3) := by decide +kernel
theorem dX11_isSum_95 : decode cX11_isSum 95 = .ok (.iload_n 1, 1) := by decide +kernel
theorem dX11_isSum_96 : decode cX11_isSum 96 = .ok (.iconst 1, 1) := by decide +kernel
theorem dX11_isSum_97 : decode cX11_isSum 97 = .ok (.if_icmp .ne 7, 3) := by decide +kernel
theorem dX11_isSum_100 : decode cX11_isSum 100 = .ok (.iconst 1, 1) := by decide +kernel
theorem dX11_isSum_101 : decode cX11_isSum 101 = .ok (.goto 4, 3) := by decide +kernel
theorem dX11_isSum_104 : decode cX11_isSum 104 = .ok (.iconst 0, 1) := by decide +kernel
theorem dX11_isSum_105 : decode cX11_isSum 105 = .ok (.ireturn, 1) := by decide +kernel
theorem dX11_isCost_0 : decode cX11_isCost 0 = .ok (.aload_n 0, 1) := by decide +kernel
theorem dX11_isCost_1 : decode cX11_isCost 1 = .ok (.sipush 4000, 3) := by decide +kernel
theorem dX11_isCost_4 : decode cX11_isCost 4 = .ok (.putfield 184, 3) := by decide +kernel
theorem dX11_isCost_7 : decode cX11_isCost 7 = .ok (.aload_n 0, 1) := by decide +kernel
theorem dX11_isCost_8 : decode cX11_isCost 8 = .ok (.getfield 161, 3) := by decide +kernel
theorem dX11_isCost_11 : decode cX11_isCost 11 = .ok (.bipush 40, 2) := by decide +kernel
theorem dX11_isCost_13 : decode cX11_isCost 13 = .ok (.if_icmp .eq 5, 3) := by decide +kernel
theorem dX11_isCost_16 : decode cX11_isCost 16 = .ok (.iconst 1, 1) := by decide +kernel
theorem dX11_isCost_17 : decode cX11_isCost 17 = .ok (.ireturn, 1) := by decide +kernel
theorem dX11_isCost_18 : decode cX11_isCost 18 = .ok (.aload_n 0, 1) := by decide +kernel
theorem dX11_isCost_19 : decode cX11_isCost 19 = .ok (.invokevirtual 201, 3) := by decide +kernel
theorem dX11_isCost_22 : decode cX11_isCost 22 = .ok (.aload_n 0, 1) := by decide +kernel
theorem dX11_isCost_23 : decode cX11_isCost 23 = .ok (.invokevirtual 212, 3) := by decide +kernel
theorem dX11_isCost_26 : decode cX11_isCost 26 = .ok (.ifCond .ne 5, 3) := by decide +kernel
theorem dX11_isCost_29 : decode cX11_isCost 29 = .ok (.iconst 0, 1) := by decide +kernel
theorem dX11_isCost_30 : decode cX11_isCost 30 = .ok (.ireturn, 1) := by decide +kernel
theorem dX11_isCost_31 : decode cX11_isCost 31 = .ok (.aload_n 0, 1) := by decide +kernel
theorem dX11_isCost_32 : decode cX11_isCost 32 = .ok (.getfield 161, 3) := by decide +kernel
theorem dX11_isCost_35 : decode cX11_isCost 35 = .ok (.bipush 41, 2) := by decide +kernel
theorem dX11_isCost_37 : decode cX11_isCost 37 = .ok (.if_icmp .eq 9, 3) := by decide +kernel
theorem dX11_isCost_40 : decode cX11_isCost 40 = .ok (.aload_n 0, 1) := by decide +kernel
theorem dX11_isCost_41 : decode cX11_isCost 41 = .ok (.iconst 1, 1) := by decide +kernel
theorem dX11_isCost_42 : decode cX11_isCost 42 = .ok (.invokevirtual 187, 3) := by decide +kernel
theorem dX11_isCost_45 : decode cX11_isCost 45 = .ok (.ireturn, 1) := by decide +kernel
theorem dX11_isCost_46 : decode cX11_isCost 46 = .ok (.aload_n 0, 1) := by decide +kernel
theorem dX11_isCost_47 : decode cX11_isCost 47 = .ok (.invokevirtual 201, 3) := by decide +kernel
theorem dX11_isCost_50 : decode cX11_isCost 50 = .ok (.aload_n 0, 1) := by decide +kernel
theorem dX11_isCost_51 : decode cX11_isCost 51 = .ok (.aload_n 0, 1) := by decide +kernel
theorem dX11_isCost_52 : decode cX11_isCost 52 = .ok (.getfield 184, 3) := by decide +kernel
theorem dX11_isCost_55 : decode cX11_isCost 55 = .ok (.ifCond .ge 7, 3) := by decide +kernel
theorem dX11_isCost_58 : decode cX11_isCost 58 = .ok (.iconst 0, 1) := by decide +kernel
theorem dX11_isCost_59 : decode cX11_isCost 59 = .ok (.goto 7, 3) := by decide +kernel
theorem dX11_isCost_62 : decode cX11_isCost 62 = .ok (.aload_n 0, 1) := by decide +kernel
theorem dX11_isCost_63 : decode cX11_isCost 63 = .ok (.getfield 184, 3) := by decide +kernel
theorem dX11_isCost_66 : decode cX11_isCost 66 = .ok (.putfield 184, 3) := by decide +kernel
theorem dX11_isCost_69 : decode cX11_isCost 69 = .ok (.iconst 1, 1) := by decide +kernel
theorem dX11_isCost_70 : decode cX11_isCost 70 = .ok (.ireturn, 1) := by decide +kernel
theorem dX11_isName_0 : decode cX11_isName 0 = .ok (.aload_n 0, 1) := by decide +kernel
theorem dX11_isName_1 : decode cX11_isName 1 = .ok (.getfield 161, 3) := by decide +kernel
theorem dX11_isName_4 : decode cX11_isName 4 = .ok (.iconst 1, 1) := by decide +kernel
theorem dX11_isName_5 : decode cX11_isName 5 = .ok (.if_icmp .ne 28, 3) := by decide +kernel
theorem dX11_isName_8 : decode cX11_isName 8 = .ok (.aload_n 0, 1) := by decide +kernel
theorem dX11_isName_9 : decode cX11_isName 9 = .ok (.getfield 151, 3) := by decide +kernel
theorem dX11_isName_12 : decode cX11_isName 12 = .ok (.bipush 8, 2) := by decide +kernel
theorem dX11_isName_14 : decode cX11_isName 14 = .ok (.if_icmp .le 11, 3) := by decide +kernel
theorem dX11_isName_17 : decode cX11_isName 17 = .ok (.aload_n 0, 1) := by decide +kernel
theorem dX11_isName_18 : decode cX11_isName 18 = .ok (.iconst 2, 1) := by decide +kernel
theorem dX11_isName_19 : decode cX11_isName 19 = .ok (.invokevirtual 187, 3) := by decide +kernel
theorem dX11_isName_22 : decode cX11_isName 22 = .ok (.ifCond .eq 7, 3) := by decide +kernel
theorem dX11_isName_25 : decode cX11_isName 25 = .ok (.iconst 1, 1) := by decide +kernel
theorem dX11_isName_26 : decode cX11_isName 26 = .ok (.goto 12, 3) := by decide +kernel
theorem dX11_isName_29 : decode cX11_isName 29 = .ok (.iconst 0, 1) := by decide +kernel
theorem dX11_isName_30 : decode cX11_isName 30 = .ok (.goto 8, 3) := by decide +kernel
theorem dX11_isName_33 : decode cX11_isName 33 = .ok (.aload_n 0, 1) := by decide +kernel
theorem dX11_isName_34 : decode cX11_isName 34 = .ok (.iconst 1, 1) := by decide +kernel
theorem dX11_isName_35 : decode cX11_isName 35 = .ok (.invokevirtual 187, 3) := by decide +kernel
theorem dX11_isName_38 : decode cX11_isName 38 = .ok (.ireturn, 1) := by decide +kernel
theorem dX11_isMore_0 : decode cX11_isMore 0 = .ok (.aload_n 0, 1) := by decide +kernel
theorem dX11_isMore_1 : decode cX11_isMore 1 = .ok (.getfield 161, 3) := by decide +kernel
theorem dX11_isMore_4 : decode cX11_isMore 4 = .ok (.bipush 44, 2) := by decide +kernel
theorem dX11_isMore_6 : decode cX11_isMore 6 = .ok (.if_icmp .eq 5, 3) := by decide +kernel
theorem dX11_isMore_9 : decode cX11_isMore 9 = .ok (.iconst 0, 1) := by decide +kernel
theorem dX11_isMore_10 : decode cX11_isMore 10 = .ok (.ireturn, 1) := by decide +kernel
theorem dX11_isMore_11 : decode cX11_isMore 11 = .ok (.aload_n 0, 1) := by decide +kernel
theorem dX11_isMore_12 : decode cX11_isMore 12 = .ok (.invokevirtual 201, 3) := by decide +kernel
theorem dX11_isMore_15 : decode cX11_isMore 15 = .ok (.iconst 1, 1) := by decide +kernel
theorem dX11_isMore_16 : decode cX11_isMore 16 = .ok (.ireturn, 1) := by decide +kernel
theorem dX11_isClosed_0 : decode cX11_isClosed 0 = .ok (.aload_n 0, 1) := by decide +kernel
theorem dX11_isClosed_1 : decode cX11_isClosed 1 = .ok (.getfield 161, 3) := by decide +kernel
theorem dX11_isClosed_4 : decode cX11_isClosed 4 = .ok (.bipush 125, 2) := by decide +kernel
theorem dX11_isClosed_6 : decode cX11_isClosed 6 = .ok (.if_icmp .eq 9, 3) := by decide +kernel
theorem dX11_isClosed_9 : decode cX11_isClosed 9 = .ok (.aload_n 0, 1) := by decide +kernel
theorem dX11_isClosed_10 : decode cX11_isClosed 10 = .ok (.iconst 1, 1) := by decide +kernel
theorem dX11_isClosed_11 : decode cX11_isClosed 11 = .ok (.invokevirtual 187, 3) := by decide +kernel
theorem dX11_isClosed_14 : decode cX11_isClosed 14 = .ok (.ireturn, 1) := by decide +kernel
theorem dX11_isClosed_15 : decode cX11_isClosed 15 = .ok (.aload_n 0, 1) := by decide +kernel
theorem dX11_isClosed_16 : decode cX11_isClosed 16 = .ok (.invokevirtual 201, 3) := by decide +kernel
theorem dX11_isClosed_19 : decode cX11_isClosed 19 = .ok (.iconst 1, 1) := by decide +kernel
theorem dX11_isClosed_20 : decode cX11_isClosed 20 = .ok (.ireturn, 1) := by decide +kernel
theorem dX11_areTargets_0 : decode cX11_areTargets 0 = .ok (.iconst 1, 1) := by decide +kernel
theorem dX11_areTargets_1 : decode cX11_areTargets 1 = .ok (.istore_n 2, 1) := by decide +kernel
theorem dX11_areTargets_2 : decode cX11_areTargets 2 = .ok (.iload_n 2, 1) := by decide +kernel
theorem dX11_areTargets_3 : decode cX11_areTargets 3 = .ok (.ifCond .eq 78, 3) := by decide +kernel
theorem dX11_areTargets_6 : decode cX11_areTargets 6 = .ok (.aload_n 0, 1) := by decide +kernel
theorem dX11_areTargets_7 : decode cX11_areTargets 7 = .ok (.getfield 161, 3) := by decide +kernel
theorem dX11_areTargets_10 : decode cX11_areTargets 10 = .ok (.bipush 64, 2) := by decide +kernel
theorem dX11_areTargets_12 : decode cX11_areTargets 12 = .ok (.if_icmp .ne 7, 3) := by decide +kernel
theorem dX11_areTargets_15 : decode cX11_areTargets 15 = .ok (.iconst 1, 1) := by decide +kernel
theorem dX11_areTargets_16 : decode cX11_areTargets 16 = .ok (.goto 4, 3) := by decide +kernel
theorem dX11_areTargets_19 : decode cX11_areTargets 19 = .ok (.iconst 0, 1) := by decide +kernel
theorem dX11_areTargets_20 : decode cX11_areTargets 20 = .ok (.istore_n 3, 1) := by decide +kernel
theorem dX11_areTargets_21 : decode cX11_areTargets 21 = .ok (.iload_n 3, 1) := by decide +kernel
theorem dX11_areTargets_22 : decode cX11_areTargets 22 = .ok (.ifCond .eq 7, 3) := by decide +kernel
theorem dX11_areTargets_25 : decode cX11_areTargets 25 = .ok (.aload_n 0, 1) := by decide +kernel
theorem dX11_areTargets_26 : decode cX11_areTargets 26 = .ok (.invokevirtual 201, 3) := by decide +kernel
theorem dX11_areTargets_29 : decode cX11_areTargets 29 = .ok (.aload_n 0, 1) := by decide +kernel
theorem dX11_areTargets_30 : decode cX11_areTargets 30 = .ok (.invokevirtual 215, 3) := by decide +kernel
theorem dX11_areTargets_33 : decode cX11_areTargets 33 = .ok (.ifCond .ne 5, 3) := by decide +kernel
theorem dX11_areTargets_36 : decode cX11_areTargets 36 = .ok (.iconst 0, 1) := by decide +kernel
theorem dX11_areTargets_37 : decode cX11_areTargets 37 = .ok (.ireturn, 1) := by decide +kernel
theorem dX11_areTargets_38 : decode cX11_areTargets 38 = .ok (.aload_n 0, 1) := by decide +kernel
theorem dX11_areTargets_39 : decode cX11_areTargets 39 = .ok (.aload_n 0, 1) := by decide +kernel
theorem dX11_areTargets_40 : decode cX11_areTargets 40 = .ok (.getfield 154, 3) := by decide +kernel
theorem dX11_areTargets_43 : decode cX11_areTargets 43 = .ok (.invokevirtual 218, 3) := by decide +kernel
theorem dX11_areTargets_46 : decode cX11_areTargets 46 = .ok (.istore 4, 2) := by decide +kernel
theorem dX11_areTargets_48 : decode cX11_areTargets 48 = .ok (.aload_n 0, 1) := by decide +kernel
theorem dX11_areTargets_49 : decode cX11_areTargets 49 = .ok (.invokevirtual 201, 3) := by decide +kernel
theorem dX11_areTargets_52 : decode cX11_areTargets 52 = .ok (.aload_n 0, 1) := by decide +kernel
theorem dX11_areTargets_53 : decode cX11_areTargets 53 = .ok (.invokevirtual 222, 3) := by decide +kernel
theorem dX11_areTargets_56 : decode cX11_areTargets 56 = .ok (.ifCond .ne 5, 3) := by decide +kernel
theorem dX11_areTargets_59 : decode cX11_areTargets 59 = .ok (.iconst 0, 1) := by decide +kernel
theorem dX11_areTargets_60 : decode cX11_areTargets 60 = .ok (.ireturn, 1) := by decide +kernel
theorem dX11_areTargets_61 : decode cX11_areTargets 61 = .ok (.aload_n 0, 1) := by decide +kernel
theorem dX11_areTargets_62 : decode cX11_areTargets 62 = .ok (.iload_n 1, 1) := by decide +kernel
theorem dX11_areTargets_63 : decode cX11_areTargets 63 = .ok (.iload 4, 2) := by decide +kernel
theorem dX11_areTargets_65 : decode cX11_areTargets 65 = .ok (.aload_n 0, 1) := by decide +kernel
theorem dX11_areTargets_66 : decode cX11_areTargets 66 = .ok (.getfield 184, 3) := by decide +kernel
theorem dX11_areTargets_69 : decode cX11_areTargets 69 = .ok (.iload_n 3, 1) := by decide +kernel
theorem dX11_areTargets_70 : decode cX11_areTargets 70 = .ok (.invokevirtual 225, 3) := by decide +kernel
theorem dX11_areTargets_73 : decode cX11_areTargets 73 = .ok (.aload_n 0, 1) := by decide +kernel
theorem dX11_areTargets_74 : decode cX11_areTargets 74 = .ok (.invokevirtual 228, 3) := by decide +kernel
theorem dX11_areTargets_77 : decode cX11_areTargets 77 = .ok (.istore_n 2, 1) := by decide +kernel
theorem dX11_areTargets_78 : decode cX11_areTargets 78 = .ok (.goto (-76), 3) := by decide +kernel
theorem dX11_areTargets_81 : decode cX11_areTargets 81 = .ok (.iconst 1, 1) := by decide +kernel
theorem dX11_areTargets_82 : decode cX11_areTargets 82 = .ok (.ireturn, 1) := by decide +kernel
theorem dX11_areMembers_0 : decode cX11_areMembers 0 = .ok (.aload_n 0, 1) := by decide +kernel
theorem dX11_areMembers_1 : decode cX11_areMembers 1 = .ok (.getfield 161, 3) := by decide +kernel
theorem dX11_areMembers_4 : decode cX11_areMembers 4 = .ok (.bipush 64, 2) := by decide +kernel
theorem dX11_areMembers_6 : decode cX11_areMembers 6 = .ok (.if_icmp .ne 7, 3) := by decide +kernel
theorem dX11_areMembers_9 : decode cX11_areMembers 9 = .ok (.iconst 1, 1) := by decide +kernel
theorem dX11_areMembers_10 : decode cX11_areMembers 10 = .ok (.goto 4, 3) := by decide +kernel
theorem dX11_areMembers_13 : decode cX11_areMembers 13 = .ok (.iconst 0, 1) := by decide +kernel
theorem dX11_areMembers_14 : decode cX11_areMembers 14 = .ok (.istore_n 2, 1) := by decide +kernel
theorem dX11_areMembers_15 : decode cX11_areMembers 15 = .ok (.iload_n 2, 1) := by decide +kernel
theorem dX11_areMembers_16 : decode cX11_areMembers 16 = .ok (.ifCond .eq 7, 3) := by decide +kernel
theorem dX11_areMembers_19 : decode cX11_areMembers 19 = .ok (.aload_n 0, 1) := by decide +kernel
theorem dX11_areMembers_20 : decode cX11_areMembers 20 = .ok (.invokevirtual 201, 3) := by decide +kernel
theorem dX11_areMembers_23 : decode cX11_areMembers 23 = .ok (.aload_n 0, 1) := by decide +kernel
theorem dX11_areMembers_24 : decode cX11_areMembers 24 = .ok (.getfield 161, 3) := by decide +kernel
theorem dX11_areMembers_27 : decode cX11_areMembers 27 = .ok (.bipush 123, 2) := by decide +kernel
theorem dX11_areMembers_29 : decode cX11_areMembers 29 = .ok (.if_icmp .eq 9, 3) := by decide +kernel
theorem dX11_areMembers_32 : decode cX11_areMembers 32 = .ok (.aload_n 0, 1) := by decide +kernel
theorem dX11_areMembers_33 : decode cX11_areMembers 33 = .ok (.iconst 1, 1) := by decide +kernel
theorem dX11_areMembers_34 : decode cX11_areMembers 34 = .ok (.invokevirtual 187, 3) := by decide +kernel
theorem dX11_areMembers_37 : decode cX11_areMembers 37 = .ok (.ireturn, 1) := by decide +kernel
theorem dX11_areMembers_38 : decode cX11_areMembers 38 = .ok (.aload_n 0, 1) := by decide +kernel
theorem dX11_areMembers_39 : decode cX11_areMembers 39 = .ok (.invokevirtual 201, 3) := by decide +kernel
theorem dX11_areMembers_42 : decode cX11_areMembers 42 = .ok (.iconst 0, 1) := by decide +kernel
theorem dX11_areMembers_43 : decode cX11_areMembers 43 = .ok (.istore_n 3, 1) := by decide +kernel
theorem dX11_areMembers_44 : decode cX11_areMembers 44 = .ok (.iconst 1, 1) := by decide +kernel
theorem dX11_areMembers_45 : decode cX11_areMembers 45 = .ok (.istore 4, 2) := by decide +kernel
theorem dX11_areMembers_47 : decode cX11_areMembers 47 = .ok (.iload 4, 2) := by decide +kernel
theorem dX11_areMembers_49 : decode cX11_areMembers 49 = .ok (.ifCond .eq 38, 3) := by decide +kernel
theorem dX11_areMembers_52 : decode cX11_areMembers 52 = .ok (.aload_n 0, 1) := by decide +kernel
theorem dX11_areMembers_53 : decode cX11_areMembers 53 = .ok (.invokevirtual 215, 3) := by decide +kernel
theorem dX11_areMembers_56 : decode cX11_areMembers 56 = .ok (.ifCond .ne 5, 3) := by decide +kernel
theorem dX11_areMembers_59 : decode cX11_areMembers 59 = .ok (.iconst 0, 1) := by decide +kernel
theorem dX11_areMembers_60 : decode cX11_areMembers 60 = .ok (.ireturn, 1) := by decide +kernel
theorem dX11_areMembers_61 : decode cX11_areMembers 61 = .ok (.iload_n 3, 1) := by decide +kernel
theorem dX11_areMembers_62 : decode cX11_areMembers 62 = .ok (.iconst 1, 1) := by decide +kernel
theorem dX11_areMembers_63 : decode cX11_areMembers 63 = .ok (.aload_n 0, 1) := by decide +kernel
theorem dX11_areMembers_64 : decode cX11_areMembers 64 = .ok (.aload_n 0, 1) := by decide +kernel
theorem dX11_areMembers_65 : decode cX11_areMembers 65 = .ok (.getfield 154, 3) := by decide +kernel
theorem dX11_areMembers_68 : decode cX11_areMembers 68 = .ok (.invokevirtual 218, 3) := by decide +kernel
theorem dX11_areMembers_71 : decode cX11_areMembers 71 = .ok (.ishl, 1) := by decide +kernel
theorem dX11_areMembers_72 : decode cX11_areMembers 72 = .ok (.ior, 1) := by decide +kernel
theorem dX11_areMembers_73 : decode cX11_areMembers 73 = .ok (.istore_n 3, 1) := by decide +kernel
theorem dX11_areMembers_74 : decode cX11_areMembers 74 = .ok (.aload_n 0, 1) := by decide +kernel
theorem dX11_areMembers_75 : decode cX11_areMembers 75 = .ok (.invokevirtual 201, 3) := by decide +kernel
theorem dX11_areMembers_78 : decode cX11_areMembers 78 = .ok (.aload_n 0, 1) := by decide +kernel
theorem dX11_areMembers_79 : decode cX11_areMembers 79 = .ok (.invokevirtual 228, 3) := by decide +kernel
theorem dX11_areMembers_82 : decode cX11_areMembers 82 = .ok (.istore 4, 2) := by decide +kernel
theorem dX11_areMembers_84 : decode cX11_areMembers 84 = .ok (.goto (-37), 3) := by decide +kernel
theorem dX11_areMembers_87 : decode cX11_areMembers 87 = .ok (.aload_n 0, 1) := by decide +kernel
theorem dX11_areMembers_88 : decode cX11_areMembers 88 = .ok (.invokevirtual 231, 3) := by decide +kernel
theorem dX11_areMembers_91 : decode cX11_areMembers 91 = .ok (.ifCond .eq 10, 3) := by decide +kernel
theorem dX11_areMembers_94 : decode cX11_areMembers 94 = .ok (.aload_n 0, 1) := by decide +kernel
theorem dX11_areMembers_95 : decode cX11_areMembers 95 = .ok (.invokevirtual 222, 3) := by decide +kernel
theorem dX11_areMembers_98 : decode cX11_areMembers 98 = .ok (.ifCond .ne 5, 3) := by decide +kernel
theorem dX11_areMembers_101 : decode cX11_areMembers 101 = .ok (.iconst 0, 1) := by decide +kernel
theorem dX11_areMembers_102 : decode cX11_areMembers 102 = .ok (.ireturn, 1) := by decide +kernel
theorem dX11_areMembers_103 : decode cX11_areMembers 103 = .ok (.aload_n 0, 1) := by decide +kernel
theorem dX11_areMembers_104 : decode cX11_areMembers 104 = .ok (.iload_n 1, 1) := by decide +kernel
theorem dX11_areMembers_105 : decode cX11_areMembers 105 = .ok (.iload_n 3, 1) := by decide +kernel
theorem dX11_areMembers_106 : decode cX11_areMembers 106 = .ok (.aload_n 0, 1) := by decide +kernel
theorem dX11_areMembers_107 : decode cX11_areMembers 107 = .ok (.getfield 184, 3) := by decide +kernel
theorem dX11_areMembers_110 : decode cX11_areMembers 110 = .ok (.iload_n 2, 1) := by decide +kernel
theorem dX11_areMembers_111 : decode cX11_areMembers 111 = .ok (.invokevirtual 234, 3) := by decide +kernel
theorem dX11_areMembers_114 : decode cX11_areMembers 114 = .ok (.iconst 1, 1) := by decide +kernel
theorem dX11_areMembers_115 : decode cX11_areMembers 115 = .ok (.ireturn, 1) := by decide +kernel
theorem dX11_areOthers_0 : decode cX11_areOthers 0 = .ok (.iconst 1, 1) := by decide +kernel
theorem dX11_areOthers_1 : decode cX11_areOthers 1 = .ok (.istore_n 2, 1) := by decide +kernel
theorem dX11_areOthers_2 : decode cX11_areOthers 2 = .ok (.iload_n 2, 1) := by decide +kernel
theorem dX11_areOthers_3 : decode cX11_areOthers 3 = .ok (.ifCond .eq 69, 3) := by decide +kernel
theorem dX11_areOthers_6 : decode cX11_areOthers 6 = .ok (.aload_n 0, 1) := by decide +kernel
theorem dX11_areOthers_7 : decode cX11_areOthers 7 = .ok (.invokevirtual 215, 3) := by decide +kernel
theorem dX11_areOthers_10 : decode cX11_areOthers 10 = .ok (.ifCond .ne 5, 3) := by decide +kernel
theorem dX11_areOthers_13 : decode cX11_areOthers 13 = .ok (.iconst 0, 1) := by decide +kernel
theorem dX11_areOthers_14 : decode cX11_areOthers 14 = .ok (.ireturn, 1) := by decide +kernel
theorem dX11_areOthers_15 : decode cX11_areOthers 15 = .ok (.aload_n 0, 1) := by decide +kernel
theorem dX11_areOthers_16 : decode cX11_areOthers 16 = .ok (.aload_n 0, 1) := by decide +kernel
theorem dX11_areOthers_17 : decode cX11_areOthers 17 = .ok (.getfield 154, 3) := by decide +kernel
theorem dX11_areOthers_20 : decode cX11_areOthers 20 = .ok (.invokevirtual 218, 3) := by decide +kernel
theorem dX11_areOthers_23 : decode cX11_areOthers 23 = .ok (.istore_n 3, 1) := by decide +kernel
theorem dX11_areOthers_24 : decode cX11_areOthers 24 = .ok (.aload_n 0, 1) := by decide +kernel
theorem dX11_areOthers_25 : decode cX11_areOthers 25 = .ok (.invokevirtual 201, 3) := by decide +kernel
theorem dX11_areOthers_28 : decode cX11_areOthers 28 = .ok (.aload_n 0, 1) := by decide +kernel
theorem dX11_areOthers_29 : decode cX11_areOthers 29 = .ok (.getfield 237, 3) := by decide +kernel
theorem dX11_areOthers_32 : decode cX11_areOthers 32 = .ok (.ifCond .eq 32, 3) := by decide +kernel
theorem dX11_areOthers_35 : decode cX11_areOthers 35 = .ok (.iload_n 1, 1) := by decide +kernel
theorem dX11_areOthers_36 : decode cX11_areOthers 36 = .ok (.iload_n 3, 1) := by decide +kernel
theorem dX11_areOthers_37 : decode cX11_areOthers 37 = .ok (.if_icmp .eq 27, 3) := by decide +kernel
theorem dX11_areOthers_40 : decode cX11_areOthers 40 = .ok (.aload_n 0, 1) := by decide +kernel
theorem dX11_areOthers_41 : decode cX11_areOthers 41 = .ok (.getfield 75, 3) := by decide +kernel
theorem dX11_areOthers_44 : decode cX11_areOthers 44 = .ok (.bipush 24, 2) := by decide +kernel
theorem dX11_areOthers_46 : decode cX11_areOthers 46 = .ok (.iload_n 1, 1) := by decide +kernel
theorem dX11_areOthers_47 : decode cX11_areOthers 47 = .ok (.imul, 1) := by decide +kernel
theorem dX11_areOthers_48 : decode cX11_areOthers 48 = .ok (.iload_n 3, 1) := by decide +kernel
theorem dX11_areOthers_49 : decode cX11_areOthers 49 = .ok (.iadd, 1) := by decide +kernel
theorem dX11_areOthers_50 : decode cX11_areOthers 50 = .ok (.iconst 1, 1) := by decide +kernel
theorem dX11_areOthers_51 : decode cX11_areOthers 51 = .ok (.bastore, 1) := by decide +kernel
theorem dX11_areOthers_52 : decode cX11_areOthers 52 = .ok (.aload_n 0, 1) := by decide +kernel
theorem dX11_areOthers_53 : decode cX11_areOthers 53 = .ok (.getfield 75, 3) := by decide +kernel
theorem dX11_areOthers_56 : decode cX11_areOthers 56 = .ok (.bipush 24, 2) := by decide +kernel
theorem dX11_areOthers_58 : decode cX11_areOthers 58 = .ok (.iload_n 3, 1) := by decide +kernel
theorem dX11_areOthers_59 : decode cX11_areOthers 59 = .ok (.imul, 1) := by decide +kernel
theorem dX11_areOthers_60 : decode cX11_areOthers 60 = .ok (.iload_n 1, 1) := by decide +kernel
theorem dX11_areOthers_61 : decode cX11_areOthers 61 = .ok (.iadd, 1) := by decide +kernel
theorem dX11_areOthers_62 : decode cX11_areOthers 62 = .ok (.iconst 1, 1) := by decide +kernel
theorem dX11_areOthers_63 : decode cX11_areOthers 63 = .ok (.bastore, 1) := by decide +kernel
theorem dX11_areOthers_64 : decode cX11_areOthers 64 = .ok (.aload_n 0, 1) := by decide +kernel
theorem dX11_areOthers_65 : decode cX11_areOthers 65 = .ok (.invokevirtual 228, 3) := by decide +kernel
theorem dX11_areOthers_68 : decode cX11_areOthers 68 = .ok (.istore_n 2, 1) := by decide +kernel
theorem dX11_areOthers_69 : decode cX11_areOthers 69 = .ok (.goto (-67), 3) := by decide +kernel
theorem dX11_areOthers_72 : decode cX11_areOthers 72 = .ok (.iconst 1, 1) := by decide +kernel
theorem dX11_areOthers_73 : decode cX11_areOthers 73 = .ok (.ireturn, 1) := by decide +kernel
theorem dX11_isItem_0 : decode cX11_isItem 0 = .ok (.aload_n 0, 1) := by decide +kernel
theorem dX11_isItem_1 : decode cX11_isItem 1 = .ok (.invokevirtual 215, 3) := by decide +kernel
theorem dX11_isItem_4 : decode cX11_isItem 4 = .ok (.ifCond .ne 5, 3) := by decide +kernel
theorem dX11_isItem_7 : decode cX11_isItem 7 = .ok (.iconst 0, 1) := by decide +kernel
theorem dX11_isItem_8 : decode cX11_isItem 8 = .ok (.ireturn, 1) := by decide +kernel
theorem dX11_isItem_9 : decode cX11_isItem 9 = .ok (.lload_n 1, 1) := by decide +kernel
theorem dX11_isItem_10 : decode cX11_isItem 10 = .ok (.ldc2_w 241, 3) := by decide +kernel
theorem dX11_isItem_13 : decode cX11_isItem 13 = .ok (.lcmp, 1) := by decide +kernel
theorem dX11_isItem_14 : decode cX11_isItem 14 = .ok (.ifCond .ne 14, 3) := by decide +kernel
theorem dX11_isItem_17 : decode cX11_isItem 17 = .ok (.aload_n 0, 1) := by decide +kernel
theorem dX11_isItem_18 : decode cX11_isItem 18 = .ok (.aload_n 0, 1) := by decide +kernel
theorem dX11_isItem_19 : decode cX11_isItem 19 = .ok (.getfield 154, 3) := by decide +kernel
theorem dX11_isItem_22 : decode cX11_isItem 22 = .ok (.invokevirtual 243, 3) := by decide +kernel
theorem dX11_isItem_25 : decode cX11_isItem 25 = .ok (.goto 11, 3) := by decide +kernel
theorem dX11_isItem_28 : decode cX11_isItem 28 = .ok (.aload_n 0, 1) := by decide +kernel
theorem dX11_isItem_29 : decode cX11_isItem 29 = .ok (.aload_n 0, 1) := by decide +kernel
theorem dX11_isItem_30 : decode cX11_isItem 30 = .ok (.getfield 154, 3) := by decide +kernel
theorem dX11_isItem_33 : decode cX11_isItem 33 = .ok (.invokevirtual 218, 3) := by decide +kernel
theorem dX11_isItem_36 : decode cX11_isItem 36 = .ok (.istore_n 3, 1) := by decide +kernel
theorem dX11_isItem_37 : decode cX11_isItem 37 = .ok (.aload_n 0, 1) := by decide +kernel
theorem dX11_isItem_38 : decode cX11_isItem 38 = .ok (.invokevirtual 201, 3) := by decide +kernel
theorem dX11_isItem_41 : decode cX11_isItem 41 = .ok (.lload_n 1, 1) := by decide +kernel
theorem dX11_isItem_42 : decode cX11_isItem 42 = .ok (.ldc2_w 246, 3) := by decide +kernel
theorem dX11_isItem_45 : decode cX11_isItem 45 = .ok (.lcmp, 1) := by decide +kernel
theorem dX11_isItem_46 : decode cX11_isItem 46 = .ok (.ifCond .ne 12, 3) := by decide +kernel
theorem dX11_isItem_49 : decode cX11_isItem 49 = .ok (.aload_n 0, 1) := by decide +kernel
theorem dX11_isItem_50 : decode cX11_isItem 50 = .ok (.getfield 161, 3) := by decide +kernel
theorem dX11_isItem_53 : decode cX11_isItem 53 = .ok (.bipush 33, 2) := by decide +kernel
theorem dX11_isItem_55 : decode cX11_isItem 55 = .ok (.if_icmp .eq 75, 3) := by decide +kernel
theorem dX11_isItem_58 : decode cX11_isItem 58 = .ok (.aload_n 0, 1) := by decide +kernel
theorem dX11_isItem_59 : decode cX11_isItem 59 = .ok (.getfield 60, 3) := by decide +kernel
theorem dX11_isItem_62 : decode cX11_isItem 62 = .ok (.iload_n 3, 1) := by decide +kernel
theorem dX11_isItem_63 : decode cX11_isItem 63 = .ok (.aload_n 0, 1) := by decide +kernel
theorem dX11_isItem_64 : decode cX11_isItem 64 = .ok (.getfield 60, 3) := by decide +kernel
theorem dX11_isItem_67 : decode cX11_isItem 67 = .ok (.iload_n 3, 1) := by decide +kernel
theorem dX11_isItem_68 : decode cX11_isItem 68 = .ok (.baload, 1) := by decide +kernel
theorem dX11_isItem_69 : decode cX11_isItem 69 = .ok (.ifCond .ne 18, 3) := by decide +kernel
theorem dX11_isItem_72 : decode cX11_isItem 72 = .ok (.aload_n 0, 1) := by decide +kernel
theorem dX11_isItem_73 : decode cX11_isItem 73 = .ok (.getfield 237, 3) := by decide +kernel
theorem dX11_isItem_76 : decode cX11_isItem 76 = .ok (.ifCond .eq 15, 3) := by decide +kernel
theorem dX11_isItem_79 : decode cX11_isItem 79 = .ok (.lload_n 1, 1) := by decide +kernel
theorem dX11_isItem_80 : decode cX11_isItem 80 = .ok (.ldc2_w 246, 3) := by decide +kernel
theorem dX11_isItem_83 : decode cX11_isItem 83 = .ok (.lcmp, 1) := by decide +kernel
theorem dX11_isItem_84 : decode cX11_isItem 84 = .ok (.ifCond .ne 7, 3) := by decide +kernel
theorem dX11_isItem_87 : decode cX11_isItem 87 = .ok (.iconst 1, 1) := by decide +kernel
theorem dX11_isItem_88 : decode cX11_isItem 88 = .ok (.goto 4, 3) := by decide +kernel
theorem dX11_isItem_91 : decode cX11_isItem 91 = .ok (.iconst 0, 1) := by decide +kernel
theorem dX11_isItem_92 : decode cX11_isItem 92 = .ok (.bastore, 1) := by decide +kernel
theorem dX11_isItem_93 : decode cX11_isItem 93 = .ok (.aload_n 0, 1) := by decide +kernel
theorem dX11_isItem_94 : decode cX11_isItem 94 = .ok (.getfield 63, 3) := by decide +kernel
theorem dX11_isItem_97 : decode cX11_isItem 97 = .ok (.iload_n 3, 1) := by decide +kernel
theorem dX11_isItem_98 : decode cX11_isItem 98 = .ok (.aload_n 0, 1) := by decide +kernel
theorem dX11_isItem_99 : decode cX11_isItem 99 = .ok (.getfield 63, 3) := by decide +kernel
theorem dX11_isItem_102 : decode cX11_isItem 102 = .ok (.iload_n 3, 1) := by decide +kernel
theorem dX11_isItem_103 : decode cX11_isItem 103 = .ok (.baload, 1) := by decide +kernel
theorem dX11_isItem_104 : decode cX11_isItem 104 = .ok (.ifCond .ne 18, 3) := by decide +kernel
theorem dX11_isItem_107 : decode cX11_isItem 107 = .ok (.aload_n 0, 1) := by decide +kernel
theorem dX11_isItem_108 : decode cX11_isItem 108 = .ok (.getfield 237, 3) := by decide +kernel
theorem dX11_isItem_111 : decode cX11_isItem 111 = .ok (.ifCond .eq 15, 3) := by decide +kernel
theorem dX11_isItem_114 : decode cX11_isItem 114 = .ok (.lload_n 1, 1) := by decide +kernel
theorem dX11_isItem_115 : decode cX11_isItem 115 = .ok (.ldc2_w 248, 3) := by decide +kernel
theorem dX11_isItem_118 : decode cX11_isItem 118 = .ok (.lcmp, 1) := by decide +kernel
theorem dX11_isItem_119 : decode cX11_isItem 119 = .ok (.ifCond .ne 7, 3) := by decide +kernel
theorem dX11_isItem_122 : decode cX11_isItem 122 = .ok (.iconst 1, 1) := by decide +kernel
theorem dX11_isItem_123 : decode cX11_isItem 123 = .ok (.goto 4, 3) := by decide +kernel
theorem dX11_isItem_126 : decode cX11_isItem 126 = .ok (.iconst 0, 1) := by decide +kernel
theorem dX11_isItem_127 : decode cX11_isItem 127 = .ok (.bastore, 1) := by decide +kernel
theorem dX11_isItem_128 : decode cX11_isItem 128 = .ok (.iconst 1, 1) := by decide +kernel
theorem dX11_isItem_129 : decode cX11_isItem 129 = .ok (.ireturn, 1) := by decide +kernel
theorem dX11_isItem_130 : decode cX11_isItem 130 = .ok (.aload_n 0, 1) := by decide +kernel
theorem dX11_isItem_131 : decode cX11_isItem 131 = .ok (.invokevirtual 201, 3) := by decide +kernel
theorem dX11_isItem_134 : decode cX11_isItem 134 = .ok (.aload_n 0, 1) := by decide +kernel
theorem dX11_isItem_135 : decode cX11_isItem 135 = .ok (.invokevirtual 215, 3) := by decide +kernel
theorem dX11_isItem_138 : decode cX11_isItem 138 = .ok (.ifCond .ne 5, 3) := by decide +kernel
theorem dX11_isItem_141 : decode cX11_isItem 141 = .ok (.iconst 0, 1) := by decide +kernel
theorem dX11_isItem_142 : decode cX11_isItem 142 = .ok (.ireturn, 1) := by decide +kernel
theorem dX11_isItem_143 : decode cX11_isItem 143 = .ok (.aload_n 0, 1) := by decide +kernel
theorem dX11_isItem_144 : decode cX11_isItem 144 = .ok (.aload_n 0, 1) := by decide +kernel
theorem dX11_isItem_145 : decode cX11_isItem 145 = .ok (.getfield 154, 3) := by decide +kernel
theorem dX11_isItem_148 : decode cX11_isItem 148 = .ok (.invokevirtual 218, 3) := by decide +kernel
theorem dX11_isItem_151 : decode cX11_isItem 151 = .ok (.istore 4, 2) := by decide +kernel
theorem dX11_isItem_153 : decode cX11_isItem 153 = .ok (.aload_n 0, 1) := by decide +kernel
theorem dX11_isItem_154 : decode cX11_isItem 154 = .ok (.invokevirtual 201, 3) := by decide +kernel
theorem dX11_isItem_157 : decode cX11_isItem 157 = .ok (.aload_n 0, 1) := by decide +kernel
theorem dX11_isItem_158 : decode cX11_isItem 158 = .ok (.getfield 72, 3) := by decide +kernel
theorem dX11_isItem_161 : decode cX11_isItem 161 = .ok (.bipush 24, 2) := by decide +kernel
theorem dX11_isItem_163 : decode cX11_isItem 163 = .ok (.iload_n 3, 1) := by decide +kernel
theorem dX11_isItem_164 : decode cX11_isItem 164 = .ok (.imul, 1) := by decide +kernel
theorem dX11_isItem_165 : decode cX11_isItem 165 = .ok (.iload 4, 2) := by decide +kernel
theorem dX11_isItem_167 : decode cX11_isItem 167 = .ok (.iadd, 1) := by decide +kernel
theorem dX11_isItem_168 : decode cX11_isItem 168 = .ok (.aload_n 0, 1) := by decide +kernel
theorem dX11_isItem_169 : decode cX11_isItem 169 = .ok (.getfield 72, 3) := by decide +kernel
theorem dX11_isItem_172 : decode cX11_isItem 172 = .ok (.bipush 24, 2) := by decide +kernel
theorem dX11_isItem_174 : decode cX11_isItem 174 = .ok (.iload_n 3, 1) := by decide +kernel
theorem dX11_isItem_175 : decode cX11_isItem 175 = .ok (.imul, 1) := by decide +kernel
theorem dX11_isItem_176 : decode cX11_isItem 176 = .ok (.iload 4, 2) := by decide +kernel
theorem dX11_isItem_178 : decode cX11_isItem 178 = .ok (.iadd, 1) := by decide +kernel
theorem dX11_isItem_179 : decode cX11_isItem 179 = .ok (.baload, 1) := by decide +kernel
theorem dX11_isItem_180 : decode cX11_isItem 180 = .ok (.ifCond .ne 10, 3) := by decide +kernel
theorem dX11_isItem_183 : decode cX11_isItem 183 = .ok (.aload_n 0, 1) := by decide +kernel
theorem dX11_isItem_184 : decode cX11_isItem 184 = .ok (.getfield 237, 3) := by decide +kernel
theorem dX11_isItem_187 : decode cX11_isItem 187 = .ok (.ifCond .eq 7, 3) := by decide +kernel
theorem dX11_isItem_190 : decode cX11_isItem 190 = .ok (.iconst 1, 1) := by decide +kernel
theorem dX11_isItem_191 : decode cX11_isItem 191 = .ok (.goto 4, 3) := by decide +kernel
theorem dX11_isItem_194 : decode cX11_isItem 194 = .ok (.iconst 0, 1) := by decide +kernel
theorem dX11_isItem_195 : decode cX11_isItem 195 = .ok (.bastore, 1) := by decide +kernel
theorem dX11_isItem_196 : decode cX11_isItem 196 = .ok (.iconst 1, 1) := by decide +kernel
theorem dX11_isItem_197 : decode cX11_isItem 197 = .ok (.ireturn, 1) := by decide +kernel
theorem dX11_isList_0 : decode cX11_isList 0 = .ok (.aload_n 0, 1) := by decide +kernel
theorem dX11_isList_1 : decode cX11_isList 1 = .ok (.invokevirtual 201, 3) := by decide +kernel
theorem dX11_isList_4 : decode cX11_isList 4 = .ok (.iconst 1, 1) := by decide +kernel
theorem dX11_isList_5 : decode cX11_isList 5 = .ok (.istore_n 3, 1) := by decide +kernel
theorem dX11_isList_6 : decode cX11_isList 6 = .ok (.iload_n 3, 1) := by decide +kernel
theorem dX11_isList_7 : decode cX11_isList 7 = .ok (.ifCond .eq 21, 3) := by decide +kernel
theorem dX11_isList_10 : decode cX11_isList 10 = .ok (.aload_n 0, 1) := by decide +kernel
theorem dX11_isList_11 : decode cX11_isList 11 = .ok (.lload_n 1, 1) := by decide +kernel
theorem dX11_isList_12 : decode cX11_isList 12 = .ok (.invokevirtual 250, 3) := by decide +kernel
theorem dX11_isList_15 : decode cX11_isList 15 = .ok (.ifCond .ne 5, 3) := by decide +kernel
theorem dX11_isList_18 : decode cX11_isList 18 = .ok (.iconst 0, 1) := by decide +kernel
theorem dX11_isList_19 : decode cX11_isList 19 = .ok (.ireturn, 1) := by decide +kernel
theorem dX11_isList_20 : decode cX11_isList 20 = .ok (.aload_n 0, 1) := by decide +kernel
theorem dX11_isList_21 : decode cX11_isList 21 = .ok (.invokevirtual 228, 3) := by decide +kernel
theorem dX11_isList_24 : decode cX11_isList 24 = .ok (.istore_n 3, 1) := by decide +kernel
theorem dX11_isList_25 : decode cX11_isList 25 = .ok (.goto (-19), 3) := by decide +kernel
theorem dX11_isList_28 : decode cX11_isList 28 = .ok (.aload_n 0, 1) := by decide +kernel
theorem dX11_isList_29 : decode cX11_isList 29 = .ok (.invokevirtual 231, 3) := by decide +kernel
theorem dX11_isList_32 : decode cX11_isList 32 = .ok (.ireturn, 1) := by decide +kernel
theorem dX11_isStatement_0 : decode cX11_isStatement 0 = .ok (.aload_n 0, 1) := by decide +kernel
theorem dX11_isStatement_1 : decode cX11_isStatement 1 = .ok (.invokevirtual 215, 3) := by decide +kernel
theorem dX11_isStatement_4 : decode cX11_isStatement 4 = .ok (.ifCond .ne 5, 3) := by decide +kernel
theorem dX11_isStatement_7 : decode cX11_isStatement 7 = .ok (.iconst 0, 1) := by decide +kernel
theorem dX11_isStatement_8 : decode cX11_isStatement 8 = .ok (.ireturn, 1) := by decide +kernel
theorem dX11_isStatement_9 : decode cX11_isStatement 9 = .ok (.aload_n 0, 1) := by decide +kernel
theorem dX11_isStatement_10 : decode cX11_isStatement 10 = .ok (.getfield 154, 3) := by decide +kernel
theorem dX11_isStatement_13 : decode cX11_isStatement 13 = .ok (.lstore_n 1, 1) := by decide +kernel
theorem dX11_isStatement_14 : decode cX11_isStatement 14 = .ok (.aload_n 0, 1) := by decide +kernel
theorem dX11_isStatement_15 : decode cX11_isStatement 15 = .ok (.invokevirtual 201, 3) := by decide +kernel
theorem dX11_isStatement_18 : decode cX11_isStatement 18 = .ok (.aload_n 0, 1) := by decide +kernel
theorem dX11_isStatement_19 : decode cX11_isStatement 19 = .ok (.getfield 161, 3) := by decide +kernel
theorem dX11_isStatement_22 : decode cX11_isStatement 22 = .ok (.bipush 123, 2) := by decide +kernel
theorem dX11_isStatement_24 : decode cX11_isStatement 24 = .ok (.if_icmp .ne 33, 3) := by decide +kernel
theorem dX11_isStatement_27 : decode cX11_isStatement 27 = .ok (.lload_n 1, 1) := by decide +kernel
theorem dX11_isStatement_28 : decode cX11_isStatement 28 = .ok (.ldc2_w 246, 3) := by decide +kernel
theorem dX11_isStatement_31 : decode cX11_isStatement 31 = .ok (.lcmp, 1) := by decide +kernel
theorem dX11_isStatement_32 : decode cX11_isStatement 32 = .ok (.ifCond .eq 19, 3) := by decide +kernel
theorem dX11_isStatement_35 : decode cX11_isStatement 35 = .ok (.lload_n 1, 1) := by decide +kernel
theorem dX11_isStatement_36 : decode cX11_isStatement 36 = .ok (.ldc2_w 241, 3) := by decide +kernel
theorem dX11_isStatement_39 : decode cX11_isStatement 39 = .ok (.lcmp, 1) := by decide +kernel
theorem dX11_isStatement_40 : decode cX11_isStatement 40 = .ok (.ifCond .eq 11, 3) := by decide +kernel
theorem dX11_isStatement_43 : decode cX11_isStatement 43 = .ok (.lload_n 1, 1) := by decide +kernel
theorem dX11_isStatement_44 : decode cX11_isStatement 44 = .ok (.ldc2_w 248, 3) := by decide +kernel
theorem dX11_isStatement_47 : decode cX11_isStatement 47 = .ok (.lcmp, 1) := by decide +kernel
theorem dX11_isStatement_48 : decode cX11_isStatement 48 = .ok (.ifCond .ne 9, 3) := by decide +kernel
theorem dX11_isStatement_51 : decode cX11_isStatement 51 = .ok (.aload_n 0, 1) := by decide +kernel
theorem dX11_isStatement_52 : decode cX11_isStatement 52 = .ok (.lload_n 1, 1) := by decide +kernel
theorem dX11_isStatement_53 : decode cX11_isStatement 53 = .ok (.invokevirtual 254, 3) := by decide +kernel
theorem dX11_isStatement_56 : decode cX11_isStatement 56 = .ok (.ireturn, 1) := by decide +kernel
theorem dX11_isStatement_57 : decode cX11_isStatement 57 = .ok (.aload_n 0, 1) := by decide +kernel
theorem dX11_isStatement_58 : decode cX11_isStatement 58 = .ok (.lload_n 1, 1) := by decide +kernel
theorem dX11_isStatement_59 : decode cX11_isStatement 59 = .ok (.invokevirtual 218, 3) := by decide +kernel
theorem dX11_isStatement_62 : decode cX11_isStatement 62 = .ok (.istore_n 3, 1) := by decide +kernel
theorem dX11_isStatement_63 : decode cX11_isStatement 63 = .ok (.aload_n 0, 1) := by decide +kernel
theorem dX11_isStatement_64 : decode cX11_isStatement 64 = .ok (.getfield 161, 3) := by decide +kernel
theorem dX11_isStatement_67 : decode cX11_isStatement 67 = .ok (.bipush 61, 2) := by decide +kernel
theorem dX11_isStatement_69 : decode cX11_isStatement 69 = .ok (.if_icmp .eq 9, 3) := by decide +kernel
theorem dX11_isStatement_72 : decode cX11_isStatement 72 = .ok (.aload_n 0, 1) := by decide +kernel
theorem dX11_isStatement_73 : decode cX11_isStatement 73 = .ok (.iload_n 3, 1) := by decide +kernel
theorem dX11_isStatement_74 : decode cX11_isStatement 74 = .ok (.invokevirtual 257, 3) := by decide +kernel
theorem dX11_isStatement_77 : decode cX11_isStatement 77 = .ok (.ireturn, 1) := by decide +kernel
theorem dX11_isStatement_78 : decode cX11_isStatement 78 = .ok (.aload_n 0, 1) := by decide +kernel
theorem dX11_isStatement_79 : decode cX11_isStatement 79 = .ok (.invokevirtual 201, 3) := by decide +kernel
theorem dX11_isStatement_82 : decode cX11_isStatement 82 = .ok (.aload_n 0, 1) := by decide +kernel
theorem dX11_isStatement_83 : decode cX11_isStatement 83 = .ok (.getfield 161, 3) := by decide +kernel
theorem dX11_isStatement_86 : decode cX11_isStatement 86 = .ok (.bipush 64, 2) := by decide +kernel
theorem dX11_isStatement_88 : decode cX11_isStatement 88 = .ok (.if_icmp .eq 12, 3) := by decide +kernel
theorem dX11_isStatement_91 : decode cX11_isStatement 91 = .ok (.aload_n 0, 1) := by decide +kernel
theorem dX11_isStatement_92 : decode cX11_isStatement 92 = .ok (.getfield 161, 3) := by decide +kernel
theorem dX11_isStatement_95 : decode cX11_isStatement 95 = .ok (.bipush 123, 2) := by decide +kernel
theorem dX11_isStatement_97 : decode cX11_isStatement 97 = .ok (.if_icmp .ne 11, 3) := by decide +kernel
theorem dX11_isStatement_100 : decode cX11_isStatement 100 = .ok (.aload_n 0, 1) := by decide +kernel
theorem dX11_isStatement_101 : decode cX11_isStatement 101 = .ok (.iload_n 3, 1) := by decide +kernel
theorem dX11_isStatement_102 : decode cX11_isStatement 102 = .ok (.invokevirtual 260, 3) := by decide +kernel
theorem dX11_isStatement_105 : decode cX11_isStatement 105 = .ok (.goto 8, 3) := by decide +kernel
theorem dX11_isStatement_108 : decode cX11_isStatement 108 = .ok (.aload_n 0, 1) := by decide +kernel
theorem dX11_isStatement_109 : decode cX11_isStatement 109 = .ok (.iload_n 3, 1) := by decide +kernel
theorem dX11_isStatement_110 : decode cX11_isStatement 110 = .ok (.invokevirtual 263, 3) := by decide +kernel
theorem dX11_isStatement_113 : decode cX11_isStatement 113 = .ok (.ireturn, 1) := by decide +kernel
theorem dX11_isRead_0 : decode cX11_isRead 0 = .ok (.aload_n 0, 1) := by decide +kernel
theorem dX11_isRead_1 : decode cX11_isRead 1 = .ok (.iload_n 1, 1) := by decide +kernel
theorem dX11_isRead_2 : decode cX11_isRead 2 = .ok (.putfield 124, 3) := by decide +kernel
theorem dX11_isRead_5 : decode cX11_isRead 5 = .ok (.aload_n 0, 1) := by decide +kernel
theorem dX11_isRead_6 : decode cX11_isRead 6 = .ok (.iconst 0, 1) := by decide +kernel
theorem dX11_isRead_7 : decode cX11_isRead 7 = .ok (.putfield 138, 3) := by decide +kernel
theorem dX11_isRead_10 : decode cX11_isRead 10 = .ok (.aload_n 0, 1) := by decide +kernel
theorem dX11_isRead_11 : decode cX11_isRead 11 = .ok (.iconst 0, 1) := by decide +kernel
theorem dX11_isRead_12 : decode cX11_isRead 12 = .ok (.putfield 266, 3) := by decide +kernel
theorem dX11_isRead_15 : decode cX11_isRead 15 = .ok (.aload_n 0, 1) := by decide +kernel
theorem dX11_isRead_16 : decode cX11_isRead 16 = .ok (.iconst 0, 1) := by decide +kernel
theorem dX11_isRead_17 : decode cX11_isRead 17 = .ok (.putfield 174, 3) := by decide +kernel
theorem dX11_isRead_20 : decode cX11_isRead 20 = .ok (.aload_n 0, 1) := by decide +kernel
theorem dX11_isRead_21 : decode cX11_isRead 21 = .ok (.iconst 0, 1) := by decide +kernel
theorem dX11_isRead_22 : decode cX11_isRead 22 = .ok (.putfield 177, 3) := by decide +kernel
theorem dX11_isRead_25 : decode cX11_isRead 25 = .ok (.aload_n 0, 1) := by decide +kernel
theorem dX11_isRead_26 : decode cX11_isRead 26 = .ok (.invokevirtual 201, 3) := by decide +kernel
theorem dX11_isRead_29 : decode cX11_isRead 29 = .ok (.iconst 1, 1) := by decide +kernel
theorem dX11_isRead_30 : decode cX11_isRead 30 = .ok (.istore_n 2, 1) := by decide +kernel
theorem dX11_isRead_31 : decode cX11_isRead 31 = .ok (.iload_n 2, 1) := by decide +kernel
theorem dX11_isRead_32 : decode cX11_isRead 32 = .ok (.ifCond .eq 94, 3) := by decide +kernel
theorem dX11_isRead_35 : decode cX11_isRead 35 = .ok (.aload_n 0, 1) := by decide +kernel
theorem dX11_isRead_36 : decode cX11_isRead 36 = .ok (.getfield 161, 3) := by decide +kernel
theorem dX11_isRead_39 : decode cX11_isRead 39 = .ok (.ifCond .eq 87, 3) := by decide +kernel
theorem dX11_isRead_42 : decode cX11_isRead 42 = .ok (.aload_n 0, 1) := by decide +kernel
theorem dX11_isRead_43 : decode cX11_isRead 43 = .ok (.getfield 161, 3) := by decide +kernel
theorem dX11_isRead_46 : decode cX11_isRead 46 = .ok (.bipush 59, 2) := by decide +kernel
theorem dX11_isRead_48 : decode cX11_isRead 48 = .ok (.if_icmp .ne 10, 3) := by decide +kernel
theorem dX11_isRead_51 : decode cX11_isRead 51 = .ok (.aload_n 0, 1) := by decide +kernel
theorem dX11_isRead_52 : decode cX11_isRead 52 = .ok (.invokevirtual 201, 3) := by decide +kernel
theorem dX11_isRead_55 : decode cX11_isRead 55 = .ok (.goto (-24), 3) := by decide +kernel
theorem dX11_isRead_58 : decode cX11_isRead 58 = .ok (.aload_n 0, 1) := by decide +kernel
theorem dX11_isRead_59 : decode cX11_isRead 59 = .ok (.getfield 266, 3) := by decide +kernel
theorem dX11_isRead_62 : decode cX11_isRead 62 = .ok (.bipush 40, 2) := by decide +kernel
theorem dX11_isRead_64 : decode cX11_isRead 64 = .ok (.if_icmp .ne 12, 3) := by decide +kernel
theorem dX11_isRead_67 : decode cX11_isRead 67 = .ok (.aload_n 0, 1) := by decide +kernel
theorem dX11_isRead_68 : decode cX11_isRead 68 = .ok (.iconst 5, 1) := by decide +kernel
theorem dX11_isRead_69 : decode cX11_isRead 69 = .ok (.invokevirtual 187, 3) := by decide +kernel
theorem dX11_isRead_72 : decode cX11_isRead 72 = .ok (.istore_n 2, 1) := by decide +kernel
theorem dX11_isRead_73 : decode cX11_isRead 73 = .ok (.goto (-42), 3) := by decide +kernel
theorem dX11_isRead_76 : decode cX11_isRead 76 = .ok (.aload_n 0, 1) := by decide +kernel
theorem dX11_isRead_77 : decode cX11_isRead 77 = .ok (.invokevirtual 269, 3) := by decide +kernel
theorem dX11_isRead_80 : decode cX11_isRead 80 = .ok (.ifCond .eq 31, 3) := by decide +kernel
theorem dX11_isRead_83 : decode cX11_isRead 83 = .ok (.aload_n 0, 1) := by decide +kernel
theorem dX11_isRead_84 : decode cX11_isRead 84 = .ok (.getfield 161, 3) := by decide +kernel
theorem dX11_isRead_87 : decode cX11_isRead 87 = .ok (.bipush 59, 2) := by decide +kernel
theorem dX11_isRead_89 : decode cX11_isRead 89 = .ok (.if_icmp .eq 18, 3) := by decide +kernel
theorem dX11_isRead_92 : decode cX11_isRead 92 = .ok (.aload_n 0, 1) := by decide +kernel
theorem dX11_isRead_93 : decode cX11_isRead 93 = .ok (.getfield 161, 3) := by decide +kernel
theorem dX11_isRead_96 : decode cX11_isRead 96 = .ok (.ifCond .eq 11, 3) := by decide +kernel
theorem dX11_isRead_99 : decode cX11_isRead 99 = .ok (.aload_n 0, 1) := by decide +kernel
theorem dX11_isRead_100 : decode cX11_isRead 100 = .ok (.iconst 1, 1) := by decide +kernel
theorem dX11_isRead_101 : decode cX11_isRead 101 = .ok (.invokevirtual 187, 3) := by decide +kernel
theorem dX11_isRead_104 : decode cX11_isRead 104 = .ok (.ifCond .eq 7, 3) := by decide +kernel
theorem dX11_isRead_107 : decode cX11_isRead 107 = .ok (.iconst 1, 1) := by decide +kernel
theorem dX11_isRead_108 : decode cX11_isRead 108 = .ok (.goto 4, 3) := by decide +kernel
theorem dX11_isRead_111 : decode cX11_isRead 111 = .ok (.iconst 0, 1) := by decide +kernel
theorem dX11_isRead_112 : decode cX11_isRead 112 = .ok (.istore_n 2, 1) := by decide +kernel
theorem dX11_isRead_113 : decode cX11_isRead 113 = .ok (.aload_n 0, 1) := by decide +kernel
theorem dX11_isRead_114 : decode cX11_isRead 114 = .ok (.dup, 1) := by decide +kernel
theorem dX11_isRead_115 : decode cX11_isRead 115 = .ok (.getfield 266, 3) := by decide +kernel
theorem dX11_isRead_118 : decode cX11_isRead 118 = .ok (.iconst 1, 1) := by decide +kernel
theorem dX11_isRead_119 : decode cX11_isRead 119 = .ok (.iadd, 1) := by decide +kernel
theorem dX11_isRead_120 : decode cX11_isRead 120 = .ok (.putfield 266, 3) := by decide +kernel
theorem dX11_isRead_123 : decode cX11_isRead 123 = .ok (.goto (-92), 3) := by decide +kernel
theorem dX11_isRead_126 : decode cX11_isRead 126 = .ok (.iload_n 2, 1) := by decide +kernel
theorem dX11_isRead_127 : decode cX11_isRead 127 = .ok (.ireturn, 1) := by decide +kernel
theorem dX11_made_0 : decode cX11_made 0 = .ok (.aload_n 0, 1) := by decide +kernel
theorem dX11_made_1 : decode cX11_made 1 = .ok (.getfield 272, 3) := by decide +kernel
theorem dX11_made_4 : decode cX11_made 4 = .ok (.bipush 24, 2) := by decide +kernel
theorem dX11_made_6 : decode cX11_made 6 = .ok (.if_icmp .ne 10, 3) := by decide +kernel
theorem dX11_made_9 : decode cX11_made 9 = .ok (.aload_n 0, 1) := by decide +kernel
theorem dX11_made_10 : decode cX11_made 10 = .ok (.iconst 1, 1) := by decide +kernel
theorem dX11_made_11 : decode cX11_made 11 = .ok (.putfield 275, 3) := by decide +kernel
theorem dX11_made_14 : decode cX11_made 14 = .ok (.iconst 0, 1) := by decide +kernel
theorem dX11_made_15 : decode cX11_made 15 = .ok (.ireturn, 1) := by decide +kernel
theorem dX11_made_16 : decode cX11_made 16 = .ok (.aload_n 0, 1) := by decide +kernel
theorem dX11_made_17 : decode cX11_made 17 = .ok (.getfield 47, 3) := by decide +kernel
theorem dX11_made_20 : decode cX11_made 20 = .ok (.aload_n 0, 1) := by decide +kernel
theorem dX11_made_21 : decode cX11_made 21 = .ok (.getfield 272, 3) := by decide +kernel
theorem dX11_made_24 : decode cX11_made 24 = .ok (.lload_n 1, 1) := by decide +kernel
theorem dX11_made_25 : decode cX11_made 25 = .ok (.lastore, 1) := by decide +kernel
theorem dX11_made_26 : decode cX11_made 26 = .ok (.aload_n 0, 1) := by decide +kernel
theorem dX11_made_27 : decode cX11_made 27 = .ok (.getfield 50, 3) := by decide +kernel
theorem dX11_made_30 : decode cX11_made 30 = .ok (.aload_n 0, 1) := by decide +kernel
theorem dX11_made_31 : decode cX11_made 31 = .ok (.getfield 272, 3) := by decide +kernel
theorem dX11_made_34 : decode cX11_made 34 = .ok (.iload_n 3, 1) := by decide +kernel
theorem dX11_made_35 : decode cX11_made 35 = .ok (.iastore, 1) := by decide +kernel
theorem dX11_made_36 : decode cX11_made 36 = .ok (.aload_n 0, 1) := by decide +kernel
theorem dX11_made_37 : decode cX11_made 37 = .ok (.dup, 1) := by decide +kernel
theorem dX11_made_38 : decode cX11_made 38 = .ok (.getfield 272, 3) := by decide +kernel
theorem dX11_made_41 : decode cX11_made 41 = .ok (.iconst 1, 1) := by decide +kernel
theorem dX11_made_42 : decode cX11_made 42 = .ok (.iadd, 1) := by decide +kernel
theorem dX11_made_43 : decode cX11_made 43 = .ok (.putfield 272, 3) := by decide +kernel
theorem dX11_made_46 : decode cX11_made 46 = .ok (.aload_n 0, 1) := by decide +kernel
theorem dX11_made_47 : decode cX11_made 47 = .ok (.getfield 272, 3) := by decide +kernel
theorem dX11_made_50 : decode cX11_made 50 = .ok (.iconst 1, 1) := by decide +kernel
theorem dX11_made_51 : decode cX11_made 51 = .ok (.isub, 1) := by decide +kernel
theorem dX11_made_52 : decode cX11_made 52 = .ok (.ireturn, 1) := by decide +kernel
theorem dX11_found_0 : decode cX11_found 0 = .ok (.iconst (-1), 1) := by decide +kernel
theorem dX11_found_1 : decode cX11_found 1 = .ok (.istore 4, 2) := by decide +kernel
theorem dX11_found_3 : decode cX11_found 3 = .ok (.iconst 0, 1) := by decide +kernel
theorem dX11_found_4 : decode cX11_found 4 = .ok (.istore 5, 2) := by decide +kernel
theorem dX11_found_6 : decode cX11_found 6 = .ok (.iload 5, 2) := by decide +kernel
theorem dX11_found_8 : decode cX11_found 8 = .ok (.aload_n 0, 1) := by decide +kernel
theorem dX11_found_9 : decode cX11_found 9 = .ok (.getfield 272, 3) := by decide +kernel
theorem dX11_found_12 : decode cX11_found 12 = .ok (.if_icmp .ge 41, 3) := by decide +kernel
theorem dX11_found_15 : decode cX11_found 15 = .ok (.aload_n 0, 1) := by decide +kernel
theorem dX11_found_16 : decode cX11_found 16 = .ok (.getfield 47, 3) := by decide +kernel
theorem dX11_found_19 : decode cX11_found 19 = .ok (.iload 5, 2) := by decide +kernel
theorem dX11_found_21 : decode cX11_found 21 = .ok (.laload, 1) := by decide +kernel
theorem dX11_found_22 : decode cX11_found 22 = .ok (.lload_n 1, 1) := by decide +kernel
theorem dX11_found_23 : decode cX11_found 23 = .ok (.lcmp, 1) := by decide +kernel
theorem dX11_found_24 : decode cX11_found 24 = .ok (.ifCond .ne 19, 3) := by decide +kernel
theorem dX11_found_27 : decode cX11_found 27 = .ok (.aload_n 0, 1) := by decide +kernel
theorem dX11_found_28 : decode cX11_found 28 = .ok (.getfield 50, 3) := by decide +kernel
theorem dX11_found_31 : decode cX11_found 31 = .ok (.iload 5, 2) := by decide +kernel
theorem dX11_found_33 : decode cX11_found 33 = .ok (.iaload, 1) := by decide +kernel
theorem dX11_found_34 : decode cX11_found 34 = .ok (.iload_n 3, 1) := by decide +kernel
theorem dX11_found_35 : decode cX11_found 35 = .ok (.if_icmp .ne 8, 3) := by decide +kernel
theorem dX11_found_38 : decode cX11_found 38 = .ok (.iload 5, 2) := by decide +kernel
theorem dX11_found_40 : decode cX11_found 40 = .ok (.goto 5, 3) := by decide +kernel
theorem dX11_found_43 : decode cX11_found 43 = .ok (.iload 4, 2) := by decide +kernel
theorem dX11_found_45 : decode cX11_found 45 = .ok (.istore 4, 2) := by decide +kernel
theorem dX11_found_47 : decode cX11_found 47 = .ok (.iinc 5 1, 3) := by decide +kernel
theorem dX11_found_50 : decode cX11_found 50 = .ok (.goto (-44), 3) := by decide +kernel
theorem dX11_found_53 : decode cX11_found 53 = .ok (.iload 4, 2) := by decide +kernel
theorem dX11_found_55 : decode cX11_found 55 = .ok (.ireturn, 1) := by decide +kernel
theorem dX11_nodeOf_0 : decode cX11_nodeOf 0 = .ok (.aload_n 0, 1) := by decide +kernel
theorem dX11_nodeOf_1 : decode cX11_nodeOf 1 = .ok (.getfield 237, 3) := by decide +kernel
theorem dX11_nodeOf_4 : decode cX11_nodeOf 4 = .ok (.ifCond .ne 5, 3) := by decide +kernel
theorem dX11_nodeOf_7 : decode cX11_nodeOf 7 = .ok (.iconst 0, 1) := by decide +kernel
theorem dX11_nodeOf_8 : decode cX11_nodeOf 8 = .ok (.ireturn, 1) := by decide +kernel
theorem dX11_nodeOf_9 : decode cX11_nodeOf 9 = .ok (.aload_n 0, 1) := by decide +kernel
theorem dX11_nodeOf_10 : decode cX11_nodeOf 10 = .ok (.lload_n 1, 1) := by decide +kernel
theorem dX11_nodeOf_11 : decode cX11_nodeOf 11 = .ok (.aload_n 0, 1) := by decide +kernel
theorem dX11_nodeOf_12 : decode cX11_nodeOf 12 = .ok (.getfield 278, 3) := by decide +kernel
theorem dX11_nodeOf_15 : decode cX11_nodeOf 15 = .ok (.invokevirtual 281, 3) := by decide +kernel
theorem dX11_nodeOf_18 : decode cX11_nodeOf 18 = .ok (.istore_n 3, 1) := by decide +kernel
theorem dX11_nodeOf_19 : decode cX11_nodeOf 19 = .ok (.aload_n 0, 1) := by decide +kernel
theorem dX11_nodeOf_20 : decode cX11_nodeOf 20 = .ok (.lload_n 1, 1) := by decide +kernel
theorem dX11_nodeOf_21 : decode cX11_nodeOf 21 = .ok (.iconst (-1), 1) := by decide +kernel
theorem dX11_nodeOf_22 : decode cX11_nodeOf 22 = .ok (.invokevirtual 281, 3) := by decide +kernel
theorem dX11_nodeOf_25 : decode cX11_nodeOf 25 = .ok (.istore 4, 2) := by decide +kernel
theorem dX11_nodeOf_27 : decode cX11_nodeOf 27 = .ok (.iload_n 3, 1) := by decide +kernel
theorem dX11_nodeOf_28 : decode cX11_nodeOf 28 = .ok (.iconst (-1), 1) := by decide +kernel
theorem dX11_nodeOf_29 : decode cX11_nodeOf 29 = .ok (.if_icmp .eq 7, 3) := by decide +kernel
theorem dX11_nodeOf_32 : decode cX11_nodeOf 32 = .ok (.iload_n 3, 1) := by decide +kernel
theorem dX11_nodeOf_33 : decode cX11_nodeOf 33 = .ok (.goto 20, 3) := by decide +kernel
theorem dX11_nodeOf_36 : decode cX11_nodeOf 36 = .ok (.iload 4, 2) := by decide +kernel
theorem dX11_nodeOf_38 : decode cX11_nodeOf 38 = .ok (.iconst (-1), 1) := by decide +kernel
theorem dX11_nodeOf_39 : decode cX11_nodeOf 39 = .ok (.if_icmp .eq 8, 3) := by decide +kernel
theorem dX11_nodeOf_42 : decode cX11_nodeOf 42 = .ok (.iload 4, 2) := by decide +kernel
theorem dX11_nodeOf_44 : decode cX11_nodeOf 44 = .ok (.goto 9, 3) := by decide +kernel
theorem dX11_nodeOf_47 : decode cX11_nodeOf 47 = .ok (.aload_n 0, 1) := by decide +kernel
theorem dX11_nodeOf_48 : decode cX11_nodeOf 48 = .ok (.lload_n 1, 1) := by decide +kernel
theorem dX11_nodeOf_49 : decode cX11_nodeOf 49 = .ok (.iconst (-1), 1) := by decide +kernel
theorem dX11_nodeOf_50 : decode cX11_nodeOf 50 = .ok (.invokevirtual 285, 3) := by decide +kernel
theorem dX11_nodeOf_53 : decode cX11_nodeOf 53 = .ok (.ireturn, 1) := by decide +kernel
theorem dX11_privately_0 : decode cX11_privately 0 = .ok (.aload_n 0, 1) := by decide +kernel
theorem dX11_privately_1 : decode cX11_privately 1 = .ok (.getfield 237, 3) := by decide +kernel
theorem dX11_privately_4 : decode cX11_privately 4 = .ok (.ifCond .ne 5, 3) := by decide +kernel
theorem dX11_privately_7 : decode cX11_privately 7 = .ok (.iconst 0, 1) := by decide +kernel
theorem dX11_privately_8 : decode cX11_privately 8 = .ok (.ireturn, 1) := by decide +kernel
theorem dX11_privately_9 : decode cX11_privately 9 = .ok (.aload_n 0, 1) := by decide +kernel
theorem dX11_privately_10 : decode cX11_privately 10 = .ok (.lload_n 1, 1) := by decide +kernel
theorem dX11_privately_11 : decode cX11_privately 11 = .ok (.aload_n 0, 1) := by decide +kernel
theorem dX11_privately_12 : decode cX11_privately 12 = .ok (.getfield 278, 3) := by decide +kernel
theorem dX11_privately_15 : decode cX11_privately 15 = .ok (.invokevirtual 281, 3) := by decide +kernel
theorem dX11_privately_18 : decode cX11_privately 18 = .ok (.istore_n 3, 1) := by decide +kernel
theorem dX11_privately_19 : decode cX11_privately 19 = .ok (.iload_n 3, 1) := by decide +kernel
theorem dX11_privately_20 : decode cX11_privately 20 = .ok (.iconst (-1), 1) := by decide +kernel
theorem dX11_privately_21 : decode cX11_privately 21 = .ok (.if_icmp .eq 7, 3) := by decide +kernel
theorem dX11_privately_24 : decode cX11_privately 24 = .ok (.iload_n 3, 1) := by decide +kernel
theorem dX11_privately_25 : decode cX11_privately 25 = .ok (.goto 12, 3) := by decide +kernel
theorem dX11_privately_28 : decode cX11_privately 28 = .ok (.aload_n 0, 1) := by decide +kernel
theorem dX11_privately_29 : decode cX11_privately 29 = .ok (.lload_n 1, 1) := by decide +kernel
theorem dX11_privately_30 : decode cX11_privately 30 = .ok (.aload_n 0, 1) := by decide +kernel
theorem dX11_privately_31 : decode cX11_privately 31 = .ok (.getfield 278, 3) := by decide +kernel
theorem dX11_privately_34 : decode cX11_privately 34 = .ok (.invokevirtual 285, 3) := by decide +kernel
theorem dX11_privately_37 : decode cX11_privately 37 = .ok (.ireturn, 1) := by decide +kernel
theorem dX11_links_0 : decode cX11_links 0 = .ok (.bipush 24, 2) := by decide +kernel
theorem dX11_links_2 : decode cX11_links 2 = .ok (.iload_n 1, 1) := by decide +kernel
theorem dX11_links_3 : decode cX11_links 3 = .ok (.imul, 1) := by decide +kernel
theorem dX11_links_4 : decode cX11_links 4 = .ok (.iload_n 2, 1) := by decide +kernel
theorem dX11_links_5 : decode cX11_links 5 = .ok (.iadd, 1) := by decide +kernel
theorem dX11_links_6 : decode cX11_links 6 = .ok (.istore 5, 2) := by decide +kernel
theorem dX11_links_8 : decode cX11_links 8 = .ok (.aload_n 0, 1) := by decide +kernel
theorem dX11_links_9 : decode cX11_links 9 = .ok (.getfield 66, 3) := by decide +kernel
theorem dX11_links_12 : decode cX11_links 12 = .ok (.iload 5, 2) := by decide +kernel
theorem dX11_links_14 : decode cX11_links 14 = .ok (.iaload, 1) := by decide +kernel
theorem dX11_links_15 : decode cX11_links 15 = .ok (.iconst (-1), 1) := by decide +kernel
theorem dX11_links_16 : decode cX11_links 16 = .ok (.if_icmp .eq 40, 3) := by decide +kernel
theorem dX11_links_19 : decode cX11_links 19 = .ok (.iload_n 3, 1) := by decide +kernel
theorem dX11_links_20 : decode cX11_links 20 = .ok (.aload_n 0, 1) := by decide +kernel
theorem dX11_links_21 : decode cX11_links 21 = .ok (.getfield 66, 3) := by decide +kernel
theorem dX11_links_24 : decode cX11_links 24 = .ok (.iload 5, 2) := by decide +kernel
theorem dX11_links_26 : decode cX11_links 26 = .ok (.iaload, 1) := by decide +kernel
theorem dX11_links_27 : decode cX11_links 27 = .ok (.if_icmp .lt 29, 3) := by decide +kernel
theorem dX11_links_30 : decode cX11_links 30 = .ok (.iload_n 3, 1) := by decide +kernel
theorem dX11_links_31 : decode cX11_links 31 = .ok (.aload_n 0, 1) := by decide +kernel
theorem dX11_links_32 : decode cX11_links 32 = .ok (.getfield 66, 3) := by decide +kernel
theorem dX11_links_35 : decode cX11_links 35 = .ok (.iload 5, 2) := by decide +kernel
theorem dX11_links_37 : decode cX11_links 37 = .ok (.iaload, 1) := by decide +kernel
theorem dX11_links_38 : decode cX11_links 38 = .ok (.if_icmp .ne 22, 3) := by decide +kernel
theorem dX11_links_41 : decode cX11_links 41 = .ok (.aload_n 0, 1) := by decide +kernel
theorem dX11_links_42 : decode cX11_links 42 = .ok (.getfield 69, 3) := by decide +kernel
theorem dX11_links_45 : decode cX11_links 45 = .ok (.iload 5, 2) := by decide +kernel
theorem dX11_links_47 : decode cX11_links 47 = .ok (.baload, 1) := by decide +kernel
theorem dX11_links_48 : decode cX11_links 48 = .ok (.ifCond .eq 12, 3) := by decide +kernel
theorem dX11_links_51 : decode cX11_links 51 = .ok (.iload 4, 2) := by decide +kernel
theorem dX11_links_53 : decode cX11_links 53 = .ok (.ifCond .ne 7, 3) := by decide +kernel
theorem dX11_links_56 : decode cX11_links 56 = .ok (.iconst 1, 1) := by decide +kernel
theorem dX11_links_57 : decode cX11_links 57 = .ok (.goto 4, 3) := by decide +kernel
theorem dX11_links_60 : decode cX11_links 60 = .ok (.iconst 0, 1) := by decide +kernel
theorem dX11_links_61 : decode cX11_links 61 = .ok (.istore 6, 2) := by decide +kernel
theorem dX11_links_63 : decode cX11_links 63 = .ok (.aload_n 0, 1) := by decide +kernel
theorem dX11_links_64 : decode cX11_links 64 = .ok (.getfield 237, 3) := by decide +kernel
theorem dX11_links_67 : decode cX11_links 67 = .ok (.ifCond .eq 30, 3) := by decide +kernel
theorem dX11_links_70 : decode cX11_links 70 = .ok (.iload_n 1, 1) := by decide +kernel
theorem dX11_links_71 : decode cX11_links 71 = .ok (.iload_n 2, 1) := by decide +kernel
theorem dX11_links_72 : decode cX11_links 72 = .ok (.if_icmp .eq 25, 3) := by decide +kernel
theorem dX11_links_75 : decode cX11_links 75 = .ok (.iload 6, 2) := by decide +kernel
theorem dX11_links_77 : decode cX11_links 77 = .ok (.ifCond .eq 20, 3) := by decide +kernel
theorem dX11_links_80 : decode cX11_links 80 = .ok (.aload_n 0, 1) := by decide +kernel
theorem dX11_links_81 : decode cX11_links 81 = .ok (.getfield 66, 3) := by decide +kernel
theorem dX11_links_84 : decode cX11_links 84 = .ok (.iload 5, 2) := by decide +kernel
theorem dX11_links_86 : decode cX11_links 86 = .ok (.iload_n 3, 1) := by decide +kernel
theorem dX11_links_87 : decode cX11_links 87 = .ok (.iastore, 1) := by decide +kernel
theorem dX11_links_88 : decode cX11_links 88 = .ok (.aload_n 0, 1) := by decide +kernel
theorem dX11_links_89 : decode cX11_links 89 = .ok (.getfield 69, 3) := by decide +kernel
theorem dX11_links_92 : decode cX11_links 92 = .ok (.iload 5, 2) := by decide +kernel
theorem dX11_links_94 : decode cX11_links 94 = .ok (.iload 4, 2) := by decide +kernel
theorem dX11_links_96 : decode cX11_links 96 = .ok (.bastore, 1) := by decide +kernel
theorem dX11_links_97 : decode cX11_links 97 = .ok (.return_, 1) := by decide +kernel
theorem dX11_holds_0 : decode cX11_holds 0 = .ok (.aload_n 0, 1) := by decide +kernel
theorem dX11_holds_1 : decode cX11_holds 1 = .ok (.getfield 237, 3) := by decide +kernel
theorem dX11_holds_4 : decode cX11_holds 4 = .ok (.ifCond .ne 4, 3) := by decide +kernel
theorem dX11_holds_7 : decode cX11_holds 7 = .ok (.return_, 1) := by decide +kernel
theorem dX11_holds_8 : decode cX11_holds 8 = .ok (.aload_n 0, 1) := by decide +kernel
theorem dX11_holds_9 : decode cX11_holds 9 = .ok (.getfield 53, 3) := by decide +kernel
theorem dX11_holds_12 : decode cX11_holds 12 = .ok (.iload_n 1, 1) := by decide +kernel
theorem dX11_holds_13 : decode cX11_holds 13 = .ok (.iconst 1, 1) := by decide +kernel
theorem dX11_holds_14 : decode cX11_holds 14 = .ok (.bastore, 1) := by decide +kernel
theorem dX11_holds_15 : decode cX11_holds 15 = .ok (.aload_n 0, 1) := by decide +kernel
theorem dX11_holds_16 : decode cX11_holds 16 = .ok (.getfield 57, 3) := by decide +kernel
theorem dX11_holds_19 : decode cX11_holds 19 = .ok (.iload_n 1, 1) := by decide +kernel
theorem dX11_holds_20 : decode cX11_holds 20 = .ok (.aload_n 0, 1) := by decide +kernel
theorem dX11_holds_21 : decode cX11_holds 21 = .ok (.getfield 57, 3) := by decide +kernel
theorem dX11_holds_24 : decode cX11_holds 24 = .ok (.iload_n 1, 1) := by decide +kernel
theorem dX11_holds_25 : decode cX11_holds 25 = .ok (.baload, 1) := by decide +kernel
theorem dX11_holds_26 : decode cX11_holds 26 = .ok (.ifCond .ne 8, 3) := by decide +kernel
theorem dX11_holds_29 : decode cX11_holds 29 = .ok (.iload 4, 2) := by decide +kernel
theorem dX11_holds_31 : decode cX11_holds 31 = .ok (.ifCond .ne 7, 3) := by decide +kernel
theorem dX11_holds_34 : decode cX11_holds 34 = .ok (.iconst 1, 1) := by decide +kernel
theorem dX11_holds_35 : decode cX11_holds 35 = .ok (.goto 4, 3) := by decide +kernel
theorem dX11_holds_38 : decode cX11_holds 38 = .ok (.iconst 0, 1) := by decide +kernel
theorem dX11_holds_39 : decode cX11_holds 39 = .ok (.bastore, 1) := by decide +kernel
theorem dX11_holds_40 : decode cX11_holds 40 = .ok (.iconst 0, 1) := by decide +kernel
theorem dX11_holds_41 : decode cX11_holds 41 = .ok (.istore 5, 2) := by decide +kernel
theorem dX11_holds_43 : decode cX11_holds 43 = .ok (.iload 5, 2) := by decide +kernel
theorem dX11_holds_45 : decode cX11_holds 45 = .ok (.aload_n 0, 1) := by decide +kernel
theorem dX11_holds_46 : decode cX11_holds 46 = .ok (.getfield 272, 3) := by decide +kernel
theorem dX11_holds_49 : decode cX11_holds 49 = .ok (.if_icmp .ge 86, 3) := by decide +kernel
theorem dX11_holds_52 : decode cX11_holds 52 = .ok (.bipush 24, 2) := by decide +kernel
theorem dX11_holds_54 : decode cX11_holds 54 = .ok (.iload 5, 2) := by decide +kernel
theorem dX11_holds_56 : decode cX11_holds 56 = .ok (.imul, 1) := by decide +kernel
theorem dX11_holds_57 : decode cX11_holds 57 = .ok (.iload_n 1, 1) := by decide +kernel
theorem dX11_holds_58 : decode cX11_holds 58 = .ok (.iadd, 1) := by decide +kernel
theorem dX11_holds_59 : decode cX11_holds 59 = .ok (.istore 6, 2) := by decide +kernel
theorem dX11_holds_61 : decode cX11_holds 61 = .ok (.iload_n 2, 1) := by decide +kernel
theorem dX11_holds_62 : decode cX11_holds 62 = .ok (.iload 5, 2) := by decide +kernel
theorem dX11_holds_64 : decode cX11_holds 64 = .ok (.ishr, 1) := by decide +kernel
theorem dX11_holds_65 : decode cX11_holds 65 = .ok (.iconst 1, 1) := by decide +kernel
theorem dX11_holds_66 : decode cX11_holds 66 = .ok (.iand, 1) := by decide +kernel
theorem dX11_holds_67 : decode cX11_holds 67 = .ok (.iconst 1, 1) := by decide +kernel
theorem dX11_holds_68 : decode cX11_holds 68 = .ok (.if_icmp .ne 35, 3) := by decide +kernel
theorem dX11_holds_71 : decode cX11_holds 71 = .ok (.iload 5, 2) := by decide +kernel
theorem dX11_holds_73 : decode cX11_holds 73 = .ok (.iload_n 1, 1) := by decide +kernel
theorem dX11_holds_74 : decode cX11_holds 74 = .ok (.if_icmp .eq 29, 3) := by decide +kernel
theorem dX11_holds_77 : decode cX11_holds 77 = .ok (.aload_n 0, 1) := by decide +kernel
theorem dX11_holds_78 : decode cX11_holds 78 = .ok (.getfield 78, 3) := by decide +kernel
theorem dX11_holds_81 : decode cX11_holds 81 = .ok (.iload 6, 2) := by decide +kernel
theorem dX11_holds_83 : decode cX11_holds 83 = .ok (.iaload, 1) := by decide +kernel
theorem dX11_holds_84 : decode cX11_holds 84 = .ok (.iconst (-1), 1) := by decide +kernel
theorem dX11_holds_85 : decode cX11_holds 85 = .ok (.if_icmp .eq 14, 3) := by decide +kernel
theorem dX11_holds_88 : decode cX11_holds 88 = .ok (.iload_n 3, 1) := by decide +kernel
theorem dX11_holds_89 : decode cX11_holds 89 = .ok (.aload_n 0, 1) := by decide +kernel
theorem dX11_holds_90 : decode cX11_holds 90 = .ok (.getfield 78, 3) := by decide +kernel
theorem dX11_holds_93 : decode cX11_holds 93 = .ok (.iload 6, 2) := by decide +kernel
theorem dX11_holds_95 : decode cX11_holds 95 = .ok (.iaload, 1) := by decide +kernel
theorem dX11_holds_96 : decode cX11_holds 96 = .ok (.if_icmp .ge 7, 3) := by decide +kernel
theorem dX11_holds_99 : decode cX11_holds 99 = .ok (.iconst 1, 1) := by decide +kernel
theorem dX11_holds_100 : decode cX11_holds 100 = .ok (.goto 4, 3) := by decide +kernel
theorem dX11_holds_103 : decode cX11_holds 103 = .ok (.iconst 0, 1) := by decide +kernel
theorem dX11_holds_104 : decode cX11_holds 104 = .ok (.istore 7, 2) := by decide +kernel
theorem dX11_holds_106 : decode cX11_holds 106 = .ok (.aload_n 0, 1) := by decide +kernel
theorem dX11_holds_107 : decode cX11_holds 107 = .ok (.getfield 78, 3) := by decide +kernel
theorem dX11_holds_110 : decode cX11_holds 110 = .ok (.iload 6, 2) := by decide +kernel
theorem dX11_holds_112 : decode cX11_holds 112 = .ok (.iload 7, 2) := by decide +kernel
theorem dX11_holds_114 : decode cX11_holds 114 = .ok (.ifCond .eq 7, 3) := by decide +kernel
theorem dX11_holds_117 : decode cX11_holds 117 = .ok (.iload_n 3, 1) := by decide +kernel
theorem dX11_holds_118 : decode cX11_holds 118 = .ok (.goto 10, 3) := by decide +kernel
theorem dX11_holds_121 : decode cX11_holds 121 = .ok (.aload_n 0, 1) := by decide +kernel
theorem dX11_holds_122 : decode cX11_holds 122 = .ok (.getfield 78, 3) := by decide +kernel
theorem dX11_holds_125 : decode cX11_holds 125 = .ok (.iload 6, 2) := by decide +kernel
theorem dX11_holds_127 : decode cX11_holds 127 = .ok (.iaload, 1) := by decide +kernel
theorem dX11_holds_128 : decode cX11_holds 128 = .ok (.iastore, 1) := by decide +kernel
theorem dX11_holds_129 : decode cX11_holds 129 = .ok (.iinc 5 1, 3) := by decide +kernel
theorem dX11_holds_132 : decode cX11_holds 132 = .ok (.goto (-89), 3) := by decide +kernel
theorem dX11_holds_135 : decode cX11_holds 135 = .ok (.return_, 1) := by decide +kernel
theorem dX11_rebuilds_0 : decode cX11_rebuilds 0 = .ok (.aload_n 0, 1) := by decide +kernel
theorem dX11_rebuilds_1 : decode cX11_rebuilds 1 = .ok (.iconst 0, 1) := by decide +kernel
theorem dX11_rebuilds_2 : decode cX11_rebuilds 2 = .ok (.putfield 272, 3) := by decide +kernel
theorem dX11_rebuilds_5 : decode cX11_rebuilds 5 = .ok (.aload_n 0, 1) := by decide +kernel
theorem dX11_rebuilds_6 : decode cX11_rebuilds 6 = .ok (.iconst 0, 1) := by decide +kernel
theorem dX11_rebuilds_7 : decode cX11_rebuilds 7 = .ok (.putfield 275, 3) := by decide +kernel
theorem dX11_rebuilds_10 : decode cX11_rebuilds 10 = .ok (.iconst 0, 1) := by decide +kernel
theorem dX11_rebuilds_11 : decode cX11_rebuilds 11 = .ok (.istore_n 1, 1) := by decide +kernel
theorem dX11_rebuilds_12 : decode cX11_rebuilds 12 = .ok (.iload_n 1, 1) := by decide +kernel
theorem dX11_rebuilds_13 : decode cX11_rebuilds 13 = .ok (.sipush 576, 3) := by decide +kernel
theorem dX11_rebuilds_16 : decode cX11_rebuilds 16 = .ok (.if_icmp .ge 44, 3) := by decide +kernel
theorem dX11_rebuilds_19 : decode cX11_rebuilds 19 = .ok (.aload_n 0, 1) := by decide +kernel
theorem dX11_rebuilds_20 : decode cX11_rebuilds 20 = .ok (.getfield 66, 3) := by decide +kernel
theorem dX11_rebuilds_23 : decode cX11_rebuilds 23 = .ok (.iload_n 1, 1) := by decide +kernel
theorem dX11_rebuilds_24 : decode cX11_rebuilds 24 = .ok (.iconst (-1), 1) := by decide +kernel
theorem dX11_rebuilds_25 : decode cX11_rebuilds 25 = .ok (.iastore, 1) := by decide +kernel
theorem dX11_rebuilds_26 : decode cX11_rebuilds 26 = .ok (.aload_n 0, 1) := by decide +kernel
theorem dX11_rebuilds_27 : decode cX11_rebuilds 27 = .ok (.getfield 69, 3) := by decide +kernel
theorem dX11_rebuilds_30 : decode cX11_rebuilds 30 = .ok (.iload_n 1, 1) := by decide +kernel
theorem dX11_rebuilds_31 : decode cX11_rebuilds 31 = .ok (.iconst 0, 1) := by decide +kernel
theorem dX11_rebuilds_32 : decode cX11_rebuilds 32 = .ok (.bastore, 1) := by decide +kernel
theorem dX11_rebuilds_33 : decode cX11_rebuilds 33 = .ok (.aload_n 0, 1) := by decide +kernel
theorem dX11_rebuilds_34 : decode cX11_rebuilds 34 = .ok (.getfield 72, 3) := by decide +kernel
theorem dX11_rebuilds_37 : decode cX11_rebuilds 37 = .ok (.iload_n 1, 1) := by decide +kernel
theorem dX11_rebuilds_38 : decode cX11_rebuilds 38 = .ok (.iconst 0, 1) := by decide +kernel
theorem dX11_rebuilds_39 : decode cX11_rebuilds 39 = .ok (.bastore, 1) := by decide +kernel
theorem dX11_rebuilds_40 : decode cX11_rebuilds 40 = .ok (.aload_n 0, 1) := by decide +kernel
theorem dX11_rebuilds_41 : decode cX11_rebuilds 41 = .ok (.getfield 75, 3) := by decide +kernel
theorem dX11_rebuilds_44 : decode cX11_rebuilds 44 = .ok (.iload_n 1, 1) := by decide +kernel
theorem dX11_rebuilds_45 : decode cX11_rebuilds 45 = .ok (.iconst 0, 1) := by decide +kernel
theorem dX11_rebuilds_46 : decode cX11_rebuilds 46 = .ok (.bastore, 1) := by decide +kernel
theorem dX11_rebuilds_47 : decode cX11_rebuilds 47 = .ok (.aload_n 0, 1) := by decide +kernel
theorem dX11_rebuilds_48 : decode cX11_rebuilds 48 = .ok (.getfield 78, 3) := by decide +kernel
theorem dX11_rebuilds_51 : decode cX11_rebuilds 51 = .ok (.iload_n 1, 1) := by decide +kernel
theorem dX11_rebuilds_52 : decode cX11_rebuilds 52 = .ok (.iconst (-1), 1) := by decide +kernel
theorem dX11_rebuilds_53 : decode cX11_rebuilds 53 = .ok (.iastore, 1) := by decide +kernel
theorem dX11_rebuilds_54 : decode cX11_rebuilds 54 = .ok (.iinc 1 1, 3) := by decide +kernel
theorem dX11_rebuilds_57 : decode cX11_rebuilds 57 = .ok (.goto (-45), 3) := by decide +kernel
theorem dX11_rebuilds_60 : decode cX11_rebuilds 60 = .ok (.iconst 0, 1) := by decide +kernel
theorem dX11_rebuilds_61 : decode cX11_rebuilds 61 = .ok (.istore_n 1, 1) := by decide +kernel
theorem dX11_rebuilds_62 : decode cX11_rebuilds 62 = .ok (.iload_n 1, 1) := by decide +kernel
theorem dX11_rebuilds_63 : decode cX11_rebuilds 63 = .ok (.bipush 24, 2) := by decide +kernel
theorem dX11_rebuilds_65 : decode cX11_rebuilds 65 = .ok (.if_icmp .ge 37, 3) := by decide +kernel
theorem dX11_rebuilds_68 : decode cX11_rebuilds 68 = .ok (.aload_n 0, 1) := by decide +kernel
theorem dX11_rebuilds_69 : decode cX11_rebuilds 69 = .ok (.getfield 53, 3) := by decide +kernel
theorem dX11_rebuilds_72 : decode cX11_rebuilds 72 = .ok (.iload_n 1, 1) := by decide +kernel
theorem dX11_rebuilds_73 : decode cX11_rebuilds 73 = .ok (.iconst 0, 1) := by decide +kernel
theorem dX11_rebuilds_74 : decode cX11_rebuilds 74 = .ok (.bastore, 1) := by decide +kernel
theorem dX11_rebuilds_75 : decode cX11_rebuilds 75 = .ok (.aload_n 0, 1) := by decide +kernel
theorem dX11_rebuilds_76 : decode cX11_rebuilds 76 = .ok (.getfield 57, 3) := by decide +kernel
theorem dX11_rebuilds_79 : decode cX11_rebuilds 79 = .ok (.iload_n 1, 1) := by decide +kernel
theorem dX11_rebuilds_80 : decode cX11_rebuilds 80 = .ok (.iconst 0, 1) := by decide +kernel
theorem dX11_rebuilds_81 : decode cX11_rebuilds 81 = .ok (.bastore, 1) := by decide +kernel
theorem dX11_rebuilds_82 : decode cX11_rebuilds 82 = .ok (.aload_n 0, 1) := by decide +kernel
theorem dX11_rebuilds_83 : decode cX11_rebuilds 83 = .ok (.getfield 60, 3) := by decide +kernel
theorem dX11_rebuilds_86 : decode cX11_rebuilds 86 = .ok (.iload_n 1, 1) := by decide +kernel
theorem dX11_rebuilds_87 : decode cX11_rebuilds 87 = .ok (.iconst 0, 1) := by decide +kernel
theorem dX11_rebuilds_88 : decode cX11_rebuilds 88 = .ok (.bastore, 1) := by decide +kernel
theorem dX11_rebuilds_89 : decode cX11_rebuilds 89 = .ok (.aload_n 0, 1) := by decide +kernel
theorem dX11_rebuilds_90 : decode cX11_rebuilds 90 = .ok (.getfield 63, 3) := by decide +kernel
theorem dX11_rebuilds_93 : decode cX11_rebuilds 93 = .ok (.iload_n 1, 1) := by decide +kernel
theorem dX11_rebuilds_94 : decode cX11_rebuilds 94 = .ok (.iconst 0, 1) := by decide +kernel
theorem dX11_rebuilds_95 : decode cX11_rebuilds 95 = .ok (.bastore, 1) := by decide +kernel
theorem dX11_rebuilds_96 : decode cX11_rebuilds 96 = .ok (.iinc 1 1, 3) := by decide +kernel
theorem dX11_rebuilds_99 : decode cX11_rebuilds 99 = .ok (.goto (-37), 3) := by decide +kernel
theorem dX11_rebuilds_102 : decode cX11_rebuilds 102 = .ok (.aload_n 0, 1) := by decide +kernel
theorem dX11_rebuilds_103 : decode cX11_rebuilds 103 = .ok (.iconst 1, 1) := by decide +kernel
theorem dX11_rebuilds_104 : decode cX11_rebuilds 104 = .ok (.putfield 237, 3) := by decide +kernel
theorem dX11_rebuilds_107 : decode cX11_rebuilds 107 = .ok (.iconst 0, 1) := by decide +kernel
theorem dX11_rebuilds_108 : decode cX11_rebuilds 108 = .ok (.istore_n 1, 1) := by decide +kernel
theorem dX11_rebuilds_109 : decode cX11_rebuilds 109 = .ok (.iload_n 1, 1) := by decide +kernel
theorem dX11_rebuilds_110 : decode cX11_rebuilds 110 = .ok (.iconst 4, 1) := by decide +kernel
theorem dX11_rebuilds_111 : decode cX11_rebuilds 111 = .ok (.if_icmp .ge 30, 3) := by decide +kernel
theorem dX11_rebuilds_114 : decode cX11_rebuilds 114 = .ok (.aload_n 0, 1) := by decide +kernel
theorem dX11_rebuilds_115 : decode cX11_rebuilds 115 = .ok (.iload_n 1, 1) := by decide +kernel
theorem dX11_rebuilds_116 : decode cX11_rebuilds 116 = .ok (.putfield 278, 3) := by decide +kernel
theorem dX11_rebuilds_119 : decode cX11_rebuilds 119 = .ok (.aload_n 0, 1) := by decide +kernel
theorem dX11_rebuilds_120 : decode cX11_rebuilds 120 = .ok (.iload_n 1, 1) := by decide +kernel
theorem dX11_rebuilds_121 : decode cX11_rebuilds 121 = .ok (.invokevirtual 288, 3) := by decide +kernel
theorem dX11_rebuilds_124 : decode cX11_rebuilds 124 = .ok (.pop, 1) := by decide +kernel
theorem dX11_rebuilds_125 : decode cX11_rebuilds 125 = .ok (.aload_n 0, 1) := by decide +kernel
theorem dX11_rebuilds_126 : decode cX11_rebuilds 126 = .ok (.getfield 16, 3) := by decide +kernel
theorem dX11_rebuilds_129 : decode cX11_rebuilds 129 = .ok (.iload_n 1, 1) := by decide +kernel
theorem dX11_rebuilds_130 : decode cX11_rebuilds 130 = .ok (.aload_n 0, 1) := by decide +kernel
theorem dX11_rebuilds_131 : decode cX11_rebuilds 131 = .ok (.getfield 266, 3) := by decide +kernel
theorem dX11_rebuilds_134 : decode cX11_rebuilds 134 = .ok (.iastore, 1) := by decide +kernel
theorem dX11_rebuilds_135 : decode cX11_rebuilds 135 = .ok (.iinc 1 1, 3) := by decide +kernel
theorem dX11_rebuilds_138 : decode cX11_rebuilds 138 = .ok (.goto (-29), 3) := by decide +kernel
theorem dX11_rebuilds_141 : decode cX11_rebuilds 141 = .ok (.aload_n 0, 1) := by decide +kernel
theorem dX11_rebuilds_142 : decode cX11_rebuilds 142 = .ok (.iconst 0, 1) := by decide +kernel
theorem dX11_rebuilds_143 : decode cX11_rebuilds 143 = .ok (.putfield 237, 3) := by decide +kernel
theorem dX11_rebuilds_146 : decode cX11_rebuilds 146 = .ok (.aload_n 0, 1) := by decide +kernel
theorem dX11_rebuilds_147 : decode cX11_rebuilds 147 = .ok (.invokevirtual 291, 3) := by decide +kernel
theorem dX11_rebuilds_150 : decode cX11_rebuilds 150 = .ok (.return_, 1) := by decide +kernel
theorem dX11_kindOf_0 : decode cX11_kindOf 0 = .ok (.aload_n 0, 1) := by decide +kernel
theorem dX11_kindOf_1 : decode cX11_kindOf 1 = .ok (.getfield 47, 3) := by decide +kernel
theorem dX11_kindOf_4 : decode cX11_kindOf 4 = .ok (.iload_n 1, 1) := by decide +kernel
theorem dX11_kindOf_5 : decode cX11_kindOf 5 = .ok (.laload, 1) := by decide +kernel
theorem dX11_kindOf_6 : decode cX11_kindOf 6 = .ok (.ldc2_w 294, 3) := by decide +kernel
theorem dX11_kindOf_9 : decode cX11_kindOf 9 = .ok (.land, 1) := by decide +kernel
theorem dX11_kindOf_10 : decode cX11_kindOf 10 = .ok (.ldc2_w 296, 3) := by decide +kernel
theorem dX11_kindOf_13 : decode cX11_kindOf 13 = .ok (.lcmp, 1) := by decide +kernel
theorem dX11_kindOf_14 : decode cX11_kindOf 14 = .ok (.ifCond .ne 7, 3) := by decide +kernel
theorem dX11_kindOf_17 : decode cX11_kindOf 17 = .ok (.iconst 2, 1) := by decide +kernel
theorem dX11_kindOf_18 : decode cX11_kindOf 18 = .ok (.goto 17, 3) := by decide +kernel
theorem dX11_kindOf_21 : decode cX11_kindOf 21 = .ok (.aload_n 0, 1) := by decide +kernel
theorem dX11_kindOf_22 : decode cX11_kindOf 22 = .ok (.getfield 53, 3) := by decide +kernel
theorem dX11_kindOf_25 : decode cX11_kindOf 25 = .ok (.iload_n 1, 1) := by decide +kernel
theorem dX11_kindOf_26 : decode cX11_kindOf 26 = .ok (.baload, 1) := by decide +kernel
theorem dX11_kindOf_27 : decode cX11_kindOf 27 = .ok (.ifCond .eq 7, 3) := by decide +kernel
theorem dX11_kindOf_30 : decode cX11_kindOf 30 = .ok (.iconst 1, 1) := by decide +kernel
theorem dX11_kindOf_31 : decode cX11_kindOf 31 = .ok (.goto 4, 3) := by decide +kernel
theorem dX11_kindOf_34 : decode cX11_kindOf 34 = .ok (.iconst 0, 1) := by decide +kernel
theorem dX11_kindOf_35 : decode cX11_kindOf 35 = .ok (.ireturn, 1) := by decide +kernel
theorem dX11_stepCost_0 : decode cX11_stepCost 0 = .ok (.bipush 24, 2) := by decide +kernel
theorem dX11_stepCost_2 : decode cX11_stepCost 2 = .ok (.iload_n 1, 1) := by decide +kernel
theorem dX11_stepCost_3 : decode cX11_stepCost 3 = .ok (.imul, 1) := by decide +kernel
theorem dX11_stepCost_4 : decode cX11_stepCost 4 = .ok (.iload_n 2, 1) := by decide +kernel
theorem dX11_stepCost_5 : decode cX11_stepCost 5 = .ok (.iadd, 1) := by decide +kernel
theorem dX11_stepCost_6 : decode cX11_stepCost 6 = .ok (.istore 4, 2) := by decide +kernel
theorem dX11_stepCost_8 : decode cX11_stepCost 8 = .ok (.bipush 24, 2) := by decide +kernel
theorem dX11_stepCost_10 : decode cX11_stepCost 10 = .ok (.iload_n 2, 1) := by decide +kernel
theorem dX11_stepCost_11 : decode cX11_stepCost 11 = .ok (.imul, 1) := by decide +kernel
theorem dX11_stepCost_12 : decode cX11_stepCost 12 = .ok (.iload_n 1, 1) := by decide +kernel
theorem dX11_stepCost_13 : decode cX11_stepCost 13 = .ok (.iadd, 1) := by decide +kernel
theorem dX11_stepCost_14 : decode cX11_stepCost 14 = .ok (.istore 5, 2) := by decide +kernel
theorem dX11_stepCost_16 : decode cX11_stepCost 16 = .ok (.iload_n 3, 1) := by decide +kernel
theorem dX11_stepCost_17 : decode cX11_stepCost 17 = .ok (.iconst 1, 1) := by decide +kernel
theorem dX11_stepCost_18 : decode cX11_stepCost 18 = .ok (.if_icmp .ne 19, 3) := by decide +kernel
theorem dX11_stepCost_21 : decode cX11_stepCost 21 = .ok (.aload_n 0, 1) := by decide +kernel
theorem dX11_stepCost_22 : decode cX11_stepCost 22 = .ok (.getfield 75, 3) := by decide +kernel
theorem dX11_stepCost_25 : decode cX11_stepCost 25 = .ok (.iload 4, 2) := by decide +kernel
theorem dX11_stepCost_27 : decode cX11_stepCost 27 = .ok (.baload, 1) := by decide +kernel
theorem dX11_stepCost_28 : decode cX11_stepCost 28 = .ok (.ifCond .eq 7, 3) := by decide +kernel
theorem dX11_stepCost_31 : decode cX11_stepCost 31 = .ok (.iconst 0, 1) := by decide +kernel
theorem dX11_stepCost_32 : decode cX11_stepCost 32 = .ok (.goto 4, 3) := by decide +kernel
theorem dX11_stepCost_35 : decode cX11_stepCost 35 = .ok (.iconst (-1), 1) := by decide +kernel
theorem dX11_stepCost_36 : decode cX11_stepCost 36 = .ok (.ireturn, 1) := by decide +kernel
theorem dX11_stepCost_37 : decode cX11_stepCost 37 = .ok (.iload_n 3, 1) := by decide +kernel
theorem dX11_stepCost_38 : decode cX11_stepCost 38 = .ok (.iconst 2, 1) := by decide +kernel
theorem dX11_stepCost_39 : decode cX11_stepCost 39 = .ok (.if_icmp .ne 61, 3) := by decide +kernel
theorem dX11_stepCost_42 : decode cX11_stepCost 42 = .ok (.aload_n 0, 1) := by decide +kernel
theorem dX11_stepCost_43 : decode cX11_stepCost 43 = .ok (.getfield 66, 3) := by decide +kernel
theorem dX11_stepCost_46 : decode cX11_stepCost 46 = .ok (.iload 4, 2) := by decide +kernel
theorem dX11_stepCost_48 : decode cX11_stepCost 48 = .ok (.iaload, 1) := by decide +kernel
theorem dX11_stepCost_49 : decode cX11_stepCost 49 = .ok (.iconst (-1), 1) := by decide +kernel
theorem dX11_stepCost_50 : decode cX11_stepCost 50 = .ok (.if_icmp .ne 7, 3) := by decide +kernel
theorem dX11_stepCost_53 : decode cX11_stepCost 53 = .ok (.iconst (-1), 1) := by decide +kernel
theorem dX11_stepCost_54 : decode cX11_stepCost 54 = .ok (.goto 45, 3) := by decide +kernel
theorem dX11_stepCost_57 : decode cX11_stepCost 57 = .ok (.aload_n 0, 1) := by decide +kernel
theorem dX11_stepCost_58 : decode cX11_stepCost 58 = .ok (.getfield 66, 3) := by decide +kernel
theorem dX11_stepCost_61 : decode cX11_stepCost 61 = .ok (.iload 4, 2) := by decide +kernel
theorem dX11_stepCost_63 : decode cX11_stepCost 63 = .ok (.iaload, 1) := by decide +kernel
theorem dX11_stepCost_64 : decode cX11_stepCost 64 = .ok (.aload_n 0, 1) := by decide +kernel
theorem dX11_stepCost_65 : decode cX11_stepCost 65 = .ok (.getfield 72, 3) := by decide +kernel
theorem dX11_stepCost_68 : decode cX11_stepCost 68 = .ok (.iload 4, 2) := by decide +kernel
theorem dX11_stepCost_70 : decode cX11_stepCost 70 = .ok (.baload, 1) := by decide +kernel
theorem dX11_stepCost_71 : decode cX11_stepCost 71 = .ok (.ifCond .eq 9, 3) := by decide +kernel
theorem dX11_stepCost_74 : decode cX11_stepCost 74 = .ok (.ldc_w 298, 3) := by decide +kernel
theorem dX11_stepCost_77 : decode cX11_stepCost 77 = .ok (.goto 4, 3) := by decide +kernel
theorem dX11_stepCost_80 : decode cX11_stepCost 80 = .ok (.iconst 0, 1) := by decide +kernel
theorem dX11_stepCost_81 : decode cX11_stepCost 81 = .ok (.iadd, 1) := by decide +kernel
theorem dX11_stepCost_82 : decode cX11_stepCost 82 = .ok (.aload_n 0, 1) := by decide +kernel
theorem dX11_stepCost_83 : decode cX11_stepCost 83 = .ok (.getfield 60, 3) := by decide +kernel
theorem dX11_stepCost_86 : decode cX11_stepCost 86 = .ok (.iload_n 1, 1) := by decide +kernel
theorem dX11_stepCost_87 : decode cX11_stepCost 87 = .ok (.baload, 1) := by decide +kernel
theorem dX11_stepCost_88 : decode cX11_stepCost 88 = .ok (.ifCond .eq 9, 3) := by decide +kernel
theorem dX11_stepCost_91 : decode cX11_stepCost 91 = .ok (.ldc_w 298, 3) := by decide +kernel
theorem dX11_stepCost_94 : decode cX11_stepCost 94 = .ok (.goto 4, 3) := by decide +kernel
theorem dX11_stepCost_97 : decode cX11_stepCost 97 = .ok (.iconst 0, 1) := by decide +kernel
theorem dX11_stepCost_98 : decode cX11_stepCost 98 = .ok (.iadd, 1) := by decide +kernel
theorem dX11_stepCost_99 : decode cX11_stepCost 99 = .ok (.ireturn, 1) := by decide +kernel
theorem dX11_stepCost_100 : decode cX11_stepCost 100 = .ok (.iload_n 3, 1) := by decide +kernel
theorem dX11_stepCost_101 : decode cX11_stepCost 101 = .ok (.iconst 3, 1) := by decide +kernel
theorem dX11_stepCost_102 : decode cX11_stepCost 102 = .ok (.if_icmp .ne 52, 3) := by decide +kernel
theorem dX11_stepCost_105 : decode cX11_stepCost 105 = .ok (.aload_n 0, 1) := by decide +kernel
theorem dX11_stepCost_106 : decode cX11_stepCost 106 = .ok (.getfield 78, 3) := by decide +kernel
theorem dX11_stepCost_109 : decode cX11_stepCost 109 = .ok (.iload 4, 2) := by decide +kernel
theorem dX11_stepCost_111 : decode cX11_stepCost 111 = .ok (.iaload, 1) := by decide +kernel
theorem dX11_stepCost_112 : decode cX11_stepCost 112 = .ok (.iconst (-1), 1) := by decide +kernel
theorem dX11_stepCost_113 : decode cX11_stepCost 113 = .ok (.if_icmp .ne 7, 3) := by decide +kernel
theorem dX11_stepCost_116 : decode cX11_stepCost 116 = .ok (.iconst (-1), 1) := by decide +kernel
theorem dX11_stepCost_117 : decode cX11_stepCost 117 = .ok (.goto 36, 3) := by decide +kernel
theorem dX11_stepCost_120 : decode cX11_stepCost 120 = .ok (.aload_n 0, 1) := by decide +kernel
theorem dX11_stepCost_121 : decode cX11_stepCost 121 = .ok (.getfield 78, 3) := by decide +kernel
theorem dX11_stepCost_124 : decode cX11_stepCost 124 = .ok (.iload 4, 2) := by decide +kernel
theorem dX11_stepCost_126 : decode cX11_stepCost 126 = .ok (.iaload, 1) := by decide +kernel
theorem dX11_stepCost_127 : decode cX11_stepCost 127 = .ok (.aload_n 0, 1) := by decide +kernel
theorem dX11_stepCost_128 : decode cX11_stepCost 128 = .ok (.getfield 63, 3) := by decide +kernel
theorem dX11_stepCost_131 : decode cX11_stepCost 131 = .ok (.iload_n 2, 1) := by decide +kernel
theorem dX11_stepCost_132 : decode cX11_stepCost 132 = .ok (.baload, 1) := by decide +kernel
theorem dX11_stepCost_133 : decode cX11_stepCost 133 = .ok (.ifCond .ne 12, 3) := by decide +kernel
theorem dX11_stepCost_136 : decode cX11_stepCost 136 = .ok (.aload_n 0, 1) := by decide +kernel
theorem dX11_stepCost_137 : decode cX11_stepCost 137 = .ok (.iload_n 2, 1) := by decide +kernel
theorem dX11_stepCost_138 : decode cX11_stepCost 138 = .ok (.invokevirtual 299, 3) := by decide +kernel
theorem dX11_stepCost_141 : decode cX11_stepCost 141 = .ok (.iconst 2, 1) := by decide +kernel
theorem dX11_stepCost_142 : decode cX11_stepCost 142 = .ok (.if_icmp .ne 9, 3) := by decide +kernel
theorem dX11_stepCost_145 : decode cX11_stepCost 145 = .ok (.ldc_w 302, 3) := by decide +kernel
theorem dX11_stepCost_148 : decode cX11_stepCost 148 = .ok (.goto 4, 3) := by decide +kernel
theorem dX11_stepCost_151 : decode cX11_stepCost 151 = .ok (.iconst 0, 1) := by decide +kernel
theorem dX11_stepCost_152 : decode cX11_stepCost 152 = .ok (.iadd, 1) := by decide +kernel
theorem dX11_stepCost_153 : decode cX11_stepCost 153 = .ok (.ireturn, 1) := by decide +kernel
theorem dX11_stepCost_154 : decode cX11_stepCost 154 = .ok (.iload_n 3, 1) := by decide +kernel
theorem dX11_stepCost_155 : decode cX11_stepCost 155 = .ok (.iconst 4, 1) := by decide +kernel
theorem dX11_stepCost_156 : decode cX11_stepCost 156 = .ok (.if_icmp .ne 22, 3) := by decide +kernel
theorem dX11_stepCost_159 : decode cX11_stepCost 159 = .ok (.aload_n 0, 1) := by decide +kernel
theorem dX11_stepCost_160 : decode cX11_stepCost 160 = .ok (.getfield 78, 3) := by decide +kernel
theorem dX11_stepCost_163 : decode cX11_stepCost 163 = .ok (.iload 5, 2) := by decide +kernel
theorem dX11_stepCost_165 : decode cX11_stepCost 165 = .ok (.iaload, 1) := by decide +kernel
theorem dX11_stepCost_166 : decode cX11_stepCost 166 = .ok (.iconst (-1), 1) := by decide +kernel
theorem dX11_stepCost_167 : decode cX11_stepCost 167 = .ok (.if_icmp .ne 7, 3) := by decide +kernel
theorem dX11_stepCost_170 : decode cX11_stepCost 170 = .ok (.iconst (-1), 1) := by decide +kernel
theorem dX11_stepCost_171 : decode cX11_stepCost 171 = .ok (.goto 32, 3) := by decide +kernel
theorem dX11_stepCost_174 : decode cX11_stepCost 174 = .ok (.iconst 0, 1) := by decide +kernel
theorem dX11_stepCost_175 : decode cX11_stepCost 175 = .ok (.goto 28, 3) := by decide +kernel
theorem dX11_stepCost_178 : decode cX11_stepCost 178 = .ok (.aload_n 0, 1) := by decide +kernel
theorem dX11_stepCost_179 : decode cX11_stepCost 179 = .ok (.getfield 81, 3) := by decide +kernel
theorem dX11_stepCost_182 : decode cX11_stepCost 182 = .ok (.iload 4, 2) := by decide +kernel
theorem dX11_stepCost_184 : decode cX11_stepCost 184 = .ok (.baload, 1) := by decide +kernel
theorem dX11_stepCost_185 : decode cX11_stepCost 185 = .ok (.ifCond .eq 17, 3) := by decide +kernel
theorem dX11_stepCost_188 : decode cX11_stepCost 188 = .ok (.aload_n 0, 1) := by decide +kernel
theorem dX11_stepCost_189 : decode cX11_stepCost 189 = .ok (.getfield 66, 3) := by decide +kernel
theorem dX11_stepCost_192 : decode cX11_stepCost 192 = .ok (.iload 5, 2) := by decide +kernel
theorem dX11_stepCost_194 : decode cX11_stepCost 194 = .ok (.iaload, 1) := by decide +kernel
theorem dX11_stepCost_195 : decode cX11_stepCost 195 = .ok (.ldc_w 303, 3) := by decide +kernel
theorem dX11_stepCost_198 : decode cX11_stepCost 198 = .ok (.iadd, 1) := by decide +kernel
theorem dX11_stepCost_199 : decode cX11_stepCost 199 = .ok (.goto 4, 3) := by decide +kernel
theorem dX11_stepCost_202 : decode cX11_stepCost 202 = .ok (.iconst (-1), 1) := by decide +kernel
theorem dX11_stepCost_203 : decode cX11_stepCost 203 = .ok (.ireturn, 1) := by decide +kernel
theorem dX11_mark_0 : decode cX11_mark 0 = .ok (.iload_n 3, 1) := by decide +kernel
theorem dX11_mark_1 : decode cX11_mark 1 = .ok (.iconst 2, 1) := by decide +kernel
theorem dX11_mark_2 : decode cX11_mark 2 = .ok (.if_icmp .ne 17, 3) := by decide +kernel
theorem dX11_mark_5 : decode cX11_mark 5 = .ok (.aload_n 0, 1) := by decide +kernel
theorem dX11_mark_6 : decode cX11_mark 6 = .ok (.getfield 69, 3) := by decide +kernel
theorem dX11_mark_9 : decode cX11_mark 9 = .ok (.bipush 24, 2) := by decide +kernel
theorem dX11_mark_11 : decode cX11_mark 11 = .ok (.iload_n 1, 1) := by decide +kernel
theorem dX11_mark_12 : decode cX11_mark 12 = .ok (.imul, 1) := by decide +kernel
theorem dX11_mark_13 : decode cX11_mark 13 = .ok (.iload_n 2, 1) := by decide +kernel
theorem dX11_mark_14 : decode cX11_mark 14 = .ok (.iadd, 1) := by decide +kernel
theorem dX11_mark_15 : decode cX11_mark 15 = .ok (.baload, 1) := by decide +kernel
theorem dX11_mark_16 : decode cX11_mark 16 = .ok (.goto 22, 3) := by decide +kernel
theorem dX11_mark_19 : decode cX11_mark 19 = .ok (.iload_n 3, 1) := by decide +kernel
theorem dX11_mark_20 : decode cX11_mark 20 = .ok (.iconst 4, 1) := by decide +kernel
theorem dX11_mark_21 : decode cX11_mark 21 = .ok (.if_icmp .ne 16, 3) := by decide +kernel
theorem dX11_mark_24 : decode cX11_mark 24 = .ok (.aload_n 0, 1) := by decide +kernel
theorem dX11_mark_25 : decode cX11_mark 25 = .ok (.getfield 57, 3) := by decide +kernel
theorem dX11_mark_28 : decode cX11_mark 28 = .ok (.iload_n 1, 1) := by decide +kernel
theorem dX11_mark_29 : decode cX11_mark 29 = .ok (.baload, 1) := by decide +kernel
theorem dX11_mark_30 : decode cX11_mark 30 = .ok (.ifCond .ne 7, 3) := by decide +kernel
theorem dX11_mark_33 : decode cX11_mark 33 = .ok (.iconst 1, 1) := by decide +kernel
theorem dX11_mark_34 : decode cX11_mark 34 = .ok (.goto 4, 3) := by decide +kernel
theorem dX11_mark_37 : decode cX11_mark 37 = .ok (.iconst 0, 1) := by decide +kernel
theorem dX11_mark_38 : decode cX11_mark 38 = .ok (.istore 4, 2) := by decide +kernel
theorem dX11_mark_40 : decode cX11_mark 40 = .ok (.iload_n 3, 1) := by decide +kernel
theorem dX11_mark_41 : decode cX11_mark 41 = .ok (.iconst 1, 1) := by decide +kernel
theorem dX11_mark_42 : decode cX11_mark 42 = .ok (.if_icmp .eq 8, 3) := by decide +kernel
theorem dX11_mark_45 : decode cX11_mark 45 = .ok (.iload_n 3, 1) := by decide +kernel
theorem dX11_mark_46 : decode cX11_mark 46 = .ok (.iconst 3, 1) := by decide +kernel
theorem dX11_mark_47 : decode cX11_mark 47 = .ok (.if_icmp .ne 7, 3) := by decide +kernel
theorem dX11_mark_50 : decode cX11_mark 50 = .ok (.iconst 0, 1) := by decide +kernel
theorem dX11_mark_51 : decode cX11_mark 51 = .ok (.goto 13, 3) := by decide +kernel
theorem dX11_mark_54 : decode cX11_mark 54 = .ok (.iload 4, 2) := by decide +kernel
theorem dX11_mark_56 : decode cX11_mark 56 = .ok (.ifCond .eq 7, 3) := by decide +kernel
theorem dX11_mark_59 : decode cX11_mark 59 = .ok (.iconst 2, 1) := by decide +kernel
theorem dX11_mark_60 : decode cX11_mark 60 = .ok (.goto 4, 3) := by decide +kernel
theorem dX11_mark_63 : decode cX11_mark 63 = .ok (.iconst 1, 1) := by decide +kernel
theorem dX11_mark_64 : decode cX11_mark 64 = .ok (.ireturn, 1) := by decide +kernel
theorem dX11_stateBehind_0 : decode cX11_stateBehind 0 = .ok (.iload 4, 2) := by decide +kernel
theorem dX11_stateBehind_2 : decode cX11_stateBehind 2 = .ok (.iconst 2, 1) := by decide +kernel
theorem dX11_stateBehind_3 : decode cX11_stateBehind 3 = .ok (.if_icmp .eq 9, 3) := by decide +kernel
theorem dX11_stateBehind_6 : decode cX11_stateBehind 6 = .ok (.iload 4, 2) := by decide +kernel
theorem dX11_stateBehind_8 : decode cX11_stateBehind 8 = .ok (.iconst 4, 1) := by decide +kernel
theorem dX11_stateBehind_9 : decode cX11_stateBehind 9 = .ok (.if_icmp .ne 25, 3) := by decide +kernel
theorem dX11_stateBehind_12 : decode cX11_stateBehind 12 = .ok (.aload_n 0, 1) := by decide +kernel
theorem dX11_stateBehind_13 : decode cX11_stateBehind 13 = .ok (.iload_n 1, 1) := by decide +kernel
theorem dX11_stateBehind_14 : decode cX11_stateBehind 14 = .ok (.invokevirtual 299, 3) := by decide +kernel
theorem dX11_stateBehind_17 : decode cX11_stateBehind 17 = .ok (.iconst 2, 1) := by decide +kernel
theorem dX11_stateBehind_18 : decode cX11_stateBehind 18 = .ok (.if_icmp .ne 16, 3) := by decide +kernel
theorem dX11_stateBehind_21 : decode cX11_stateBehind 21 = .ok (.aload_n 0, 1) := by decide +kernel
theorem dX11_stateBehind_22 : decode cX11_stateBehind 22 = .ok (.iload_n 3, 1) := by decide +kernel
theorem dX11_stateBehind_23 : decode cX11_stateBehind 23 = .ok (.invokevirtual 299, 3) := by decide +kernel
theorem dX11_stateBehind_26 : decode cX11_stateBehind 26 = .ok (.iconst 2, 1) := by decide +kernel
theorem dX11_stateBehind_27 : decode cX11_stateBehind 27 = .ok (.if_icmp .eq 7, 3) := by decide +kernel
theorem dX11_stateBehind_30 : decode cX11_stateBehind 30 = .ok (.iconst 1, 1) := by decide +kernel
theorem dX11_stateBehind_31 : decode cX11_stateBehind 31 = .ok (.goto 4, 3) := by decide +kernel
theorem dX11_stateBehind_34 : decode cX11_stateBehind 34 = .ok (.iconst 0, 1) := by decide +kernel
theorem dX11_stateBehind_35 : decode cX11_stateBehind 35 = .ok (.istore 5, 2) := by decide +kernel
theorem dX11_stateBehind_37 : decode cX11_stateBehind 37 = .ok (.iload_n 2, 1) := by decide +kernel
theorem dX11_stateBehind_38 : decode cX11_stateBehind 38 = .ok (.aload_n 0, 1) := by decide +kernel
theorem dX11_stateBehind_39 : decode cX11_stateBehind 39 = .ok (.iload_n 1, 1) := by decide +kernel
theorem dX11_stateBehind_40 : decode cX11_stateBehind 40 = .ok (.iload_n 3, 1) := by decide +kernel
theorem dX11_stateBehind_41 : decode cX11_stateBehind 41 = .ok (.iload 4, 2) := by decide +kernel
theorem dX11_stateBehind_43 : decode cX11_stateBehind 43 = .ok (.invokevirtual 304, 3) := by decide +kernel
theorem dX11_stateBehind_46 : decode cX11_stateBehind 46 = .ok (.iconst 2, 1) := by decide +kernel
theorem dX11_stateBehind_47 : decode cX11_stateBehind 47 = .ok (.if_icmp .ne 7, 3) := by decide +kernel
theorem dX11_stateBehind_50 : decode cX11_stateBehind 50 = .ok (.iconst 1, 1) := by decide +kernel
theorem dX11_stateBehind_51 : decode cX11_stateBehind 51 = .ok (.goto 4, 3) := by decide +kernel
theorem dX11_stateBehind_54 : decode cX11_stateBehind 54 = .ok (.iconst 0, 1) := by decide +kernel
theorem dX11_stateBehind_55 : decode cX11_stateBehind 55 = .ok (.ior, 1) := by decide +kernel
theorem dX11_stateBehind_56 : decode cX11_stateBehind 56 = .ok (.iload 5, 2) := by decide +kernel
theorem dX11_stateBehind_58 : decode cX11_stateBehind 58 = .ok (.ifCond .eq 7, 3) := by decide +kernel
theorem dX11_stateBehind_61 : decode cX11_stateBehind 61 = .ok (.iconst 2, 1) := by decide +kernel
theorem dX11_stateBehind_62 : decode cX11_stateBehind 62 = .ok (.goto 4, 3) := by decide +kernel
theorem dX11_stateBehind_65 : decode cX11_stateBehind 65 = .ok (.iconst 0, 1) := by decide +kernel
theorem dX11_stateBehind_66 : decode cX11_stateBehind 66 = .ok (.ior, 1) := by decide +kernel
theorem dX11_stateBehind_67 : decode cX11_stateBehind 67 = .ok (.ireturn, 1) := by decide +kernel
theorem dX11_costIn_0 : decode cX11_costIn 0 = .ok (.iload 4, 2) := by decide +kernel
theorem dX11_costIn_2 : decode cX11_costIn 2 = .ok (.iconst 2, 1) := by decide +kernel
theorem dX11_costIn_3 : decode cX11_costIn 3 = .ok (.if_icmp .eq 15, 3) := by decide +kernel
theorem dX11_costIn_6 : decode cX11_costIn 6 = .ok (.iload 4, 2) := by decide +kernel
theorem dX11_costIn_8 : decode cX11_costIn 8 = .ok (.iconst 5, 1) := by decide +kernel
theorem dX11_costIn_9 : decode cX11_costIn 9 = .ok (.if_icmp .eq 9, 3) := by decide +kernel
theorem dX11_costIn_12 : decode cX11_costIn 12 = .ok (.iload 4, 2) := by decide +kernel
theorem dX11_costIn_14 : decode cX11_costIn 14 = .ok (.iconst 3, 1) := by decide +kernel
theorem dX11_costIn_15 : decode cX11_costIn 15 = .ok (.if_icmp .ne 7, 3) := by decide +kernel
theorem dX11_costIn_18 : decode cX11_costIn 18 = .ok (.iconst 1, 1) := by decide +kernel
theorem dX11_costIn_19 : decode cX11_costIn 19 = .ok (.goto 4, 3) := by decide +kernel
theorem dX11_costIn_22 : decode cX11_costIn 22 = .ok (.iconst 0, 1) := by decide +kernel
theorem dX11_costIn_23 : decode cX11_costIn 23 = .ok (.istore 5, 2) := by decide +kernel
theorem dX11_costIn_25 : decode cX11_costIn 25 = .ok (.iload_n 2, 1) := by decide +kernel
theorem dX11_costIn_26 : decode cX11_costIn 26 = .ok (.iconst 1, 1) := by decide +kernel
theorem dX11_costIn_27 : decode cX11_costIn 27 = .ok (.iand, 1) := by decide +kernel
theorem dX11_costIn_28 : decode cX11_costIn 28 = .ok (.iconst 1, 1) := by decide +kernel
theorem dX11_costIn_29 : decode cX11_costIn 29 = .ok (.if_icmp .ne 21, 3) := by decide +kernel
theorem dX11_costIn_32 : decode cX11_costIn 32 = .ok (.aload_n 0, 1) := by decide +kernel
theorem dX11_costIn_33 : decode cX11_costIn 33 = .ok (.iload_n 1, 1) := by decide +kernel
theorem dX11_costIn_34 : decode cX11_costIn 34 = .ok (.iload_n 3, 1) := by decide +kernel
theorem dX11_costIn_35 : decode cX11_costIn 35 = .ok (.iload 4, 2) := by decide +kernel
theorem dX11_costIn_37 : decode cX11_costIn 37 = .ok (.invokevirtual 304, 3) := by decide +kernel
theorem dX11_costIn_40 : decode cX11_costIn 40 = .ok (.iconst 1, 1) := by decide +kernel
theorem dX11_costIn_41 : decode cX11_costIn 41 = .ok (.if_icmp .ne 9, 3) := by decide +kernel
theorem dX11_costIn_44 : decode cX11_costIn 44 = .ok (.ldc_w 308, 3) := by decide +kernel
theorem dX11_costIn_47 : decode cX11_costIn 47 = .ok (.goto 4, 3) := by decide +kernel
theorem dX11_costIn_50 : decode cX11_costIn 50 = .ok (.iconst 0, 1) := by decide +kernel
theorem dX11_costIn_51 : decode cX11_costIn 51 = .ok (.istore 6, 2) := by decide +kernel
theorem dX11_costIn_53 : decode cX11_costIn 53 = .ok (.aload_n 0, 1) := by decide +kernel
theorem dX11_costIn_54 : decode cX11_costIn 54 = .ok (.iload_n 1, 1) := by decide +kernel
theorem dX11_costIn_55 : decode cX11_costIn 55 = .ok (.iload_n 3, 1) := by decide +kernel
theorem dX11_costIn_56 : decode cX11_costIn 56 = .ok (.iload 4, 2) := by decide +kernel
theorem dX11_costIn_58 : decode cX11_costIn 58 = .ok (.invokevirtual 309, 3) := by decide +kernel
theorem dX11_costIn_61 : decode cX11_costIn 61 = .ok (.iload 6, 2) := by decide +kernel
theorem dX11_costIn_63 : decode cX11_costIn 63 = .ok (.iadd, 1) := by decide +kernel
theorem dX11_costIn_64 : decode cX11_costIn 64 = .ok (.iload_n 2, 1) := by decide +kernel
theorem dX11_costIn_65 : decode cX11_costIn 65 = .ok (.iconst 1, 1) := by decide +kernel
theorem dX11_costIn_66 : decode cX11_costIn 66 = .ok (.if_icmp .le 14, 3) := by decide +kernel
theorem dX11_costIn_69 : decode cX11_costIn 69 = .ok (.iload 5, 2) := by decide +kernel
theorem dX11_costIn_71 : decode cX11_costIn 71 = .ok (.ifCond .eq 9, 3) := by decide +kernel
theorem dX11_costIn_74 : decode cX11_costIn 74 = .ok (.ldc_w 312, 3) := by decide +kernel
theorem dX11_costIn_77 : decode cX11_costIn 77 = .ok (.goto 4, 3) := by decide +kernel
theorem dX11_costIn_80 : decode cX11_costIn 80 = .ok (.iconst 0, 1) := by decide +kernel
theorem dX11_costIn_81 : decode cX11_costIn 81 = .ok (.iadd, 1) := by decide +kernel
theorem dX11_costIn_82 : decode cX11_costIn 82 = .ok (.ireturn, 1) := by decide +kernel
theorem dX11_reaches_0 : decode cX11_reaches 0 = .ok (.iconst 0, 1) := by decide +kernel
theorem dX11_reaches_1 : decode cX11_reaches 1 = .ok (.istore_n 2, 1) := by decide +kernel
theorem dX11_reaches_2 : decode cX11_reaches 2 = .ok (.iload_n 2, 1) := by decide +kernel
theorem dX11_reaches_3 : decode cX11_reaches 3 = .ok (.aload_n 0, 1) := by decide +kernel
theorem dX11_reaches_4 : decode cX11_reaches 4 = .ok (.getfield 272, 3) := by decide +kernel
theorem dX11_reaches_7 : decode cX11_reaches 7 = .ok (.if_icmp .ge 25, 3) := by decide +kernel
theorem dX11_reaches_10 : decode cX11_reaches 10 = .ok (.aload_n 0, 1) := by decide +kernel
theorem dX11_reaches_11 : decode cX11_reaches 11 = .ok (.getfield 84, 3) := by decide +kernel
theorem dX11_reaches_14 : decode cX11_reaches 14 = .ok (.iload_n 2, 1) := by decide +kernel
theorem dX11_reaches_15 : decode cX11_reaches 15 = .ok (.iload_n 2, 1) := by decide +kernel
theorem dX11_reaches_16 : decode cX11_reaches 16 = .ok (.iload_n 1, 1) := by decide +kernel
theorem dX11_reaches_17 : decode cX11_reaches 17 = .ok (.if_icmp .ne 7, 3) := by decide +kernel
theorem dX11_reaches_20 : decode cX11_reaches 20 = .ok (.iconst 1, 1) := by decide +kernel
theorem dX11_reaches_21 : decode cX11_reaches 21 = .ok (.goto 4, 3) := by decide +kernel
theorem dX11_reaches_24 : decode cX11_reaches 24 = .ok (.iconst 0, 1) := by decide +kernel
theorem dX11_reaches_25 : decode cX11_reaches 25 = .ok (.bastore, 1) := by decide +kernel
theorem dX11_reaches_26 : decode cX11_reaches 26 = .ok (.iinc 2 1, 3) := by decide +kernel
theorem dX11_reaches_29 : decode cX11_reaches 29 = .ok (.goto (-27), 3) := by decide +kernel
theorem dX11_reaches_32 : decode cX11_reaches 32 = .ok (.iconst 1, 1) := by decide +kernel
theorem dX11_reaches_33 : decode cX11_reaches 33 = .ok (.istore_n 2, 1) := by decide +kernel
theorem dX11_reaches_34 : decode cX11_reaches 34 = .ok (.iload_n 2, 1) := by decide +kernel
theorem dX11_reaches_35 : decode cX11_reaches 35 = .ok (.ifCond .eq 126, 3) := by decide +kernel
theorem dX11_reaches_38 : decode cX11_reaches 38 = .ok (.iconst 0, 1) := by decide +kernel
theorem dX11_reaches_39 : decode cX11_reaches 39 = .ok (.istore_n 2, 1) := by decide +kernel
theorem dX11_reaches_40 : decode cX11_reaches 40 = .ok (.iconst 0, 1) := by decide +kernel
theorem dX11_reaches_41 : decode cX11_reaches 41 = .ok (.istore_n 3, 1) := by decide +kernel
theorem dX11_reaches_42 : decode cX11_reaches 42 = .ok (.iload_n 3, 1) := by decide +kernel
theorem dX11_reaches_43 : decode cX11_reaches 43 = .ok (.aload_n 0, 1) := by decide +kernel
theorem dX11_reaches_44 : decode cX11_reaches 44 = .ok (.getfield 272, 3) := by decide +kernel
theorem dX11_reaches_47 : decode cX11_reaches 47 = .ok (.aload_n 0, 1) := by decide +kernel
theorem dX11_reaches_48 : decode cX11_reaches 48 = .ok (.getfield 272, 3) := by decide +kernel
theorem dX11_reaches_51 : decode cX11_reaches 51 = .ok (.imul, 1) := by decide +kernel
theorem dX11_reaches_52 : decode cX11_reaches 52 = .ok (.if_icmp .ge 106, 3) := by decide +kernel
theorem dX11_reaches_55 : decode cX11_reaches 55 = .ok (.iload_n 3, 1) := by decide +kernel
theorem dX11_reaches_56 : decode cX11_reaches 56 = .ok (.aload_n 0, 1) := by decide +kernel
theorem dX11_reaches_57 : decode cX11_reaches 57 = .ok (.getfield 272, 3) := by decide +kernel
theorem dX11_reaches_60 : decode cX11_reaches 60 = .ok (.idiv, 1) := by decide +kernel
theorem dX11_reaches_61 : decode cX11_reaches 61 = .ok (.istore 4, 2) := by decide +kernel
theorem dX11_reaches_63 : decode cX11_reaches 63 = .ok (.iload_n 3, 1) := by decide +kernel
theorem dX11_reaches_64 : decode cX11_reaches 64 = .ok (.aload_n 0, 1) := by decide +kernel
theorem dX11_reaches_65 : decode cX11_reaches 65 = .ok (.getfield 272, 3) := by decide +kernel
theorem dX11_reaches_68 : decode cX11_reaches 68 = .ok (.irem, 1) := by decide +kernel
theorem dX11_reaches_69 : decode cX11_reaches 69 = .ok (.istore 5, 2) := by decide +kernel
theorem dX11_reaches_71 : decode cX11_reaches 71 = .ok (.iconst 1, 1) := by decide +kernel
theorem dX11_reaches_72 : decode cX11_reaches 72 = .ok (.istore 6, 2) := by decide +kernel
theorem dX11_reaches_74 : decode cX11_reaches 74 = .ok (.iload 6, 2) := by decide +kernel
theorem dX11_reaches_76 : decode cX11_reaches 76 = .ok (.iconst 5, 1) := by decide +kernel
theorem dX11_reaches_77 : decode cX11_reaches 77 = .ok (.if_icmp .gt 75, 3) := by decide +kernel
theorem dX11_reaches_80 : decode cX11_reaches 80 = .ok (.aload_n 0, 1) := by decide +kernel
theorem dX11_reaches_81 : decode cX11_reaches 81 = .ok (.getfield 84, 3) := by decide +kernel
theorem dX11_reaches_84 : decode cX11_reaches 84 = .ok (.iload 4, 2) := by decide +kernel
theorem dX11_reaches_86 : decode cX11_reaches 86 = .ok (.baload, 1) := by decide +kernel
theorem dX11_reaches_87 : decode cX11_reaches 87 = .ok (.ifCond .eq 65, 3) := by decide +kernel
theorem dX11_reaches_90 : decode cX11_reaches 90 = .ok (.aload_n 0, 1) := by decide +kernel
theorem dX11_reaches_91 : decode cX11_reaches 91 = .ok (.getfield 84, 3) := by decide +kernel
theorem dX11_reaches_94 : decode cX11_reaches 94 = .ok (.iload 5, 2) := by decide +kernel
theorem dX11_reaches_96 : decode cX11_reaches 96 = .ok (.baload, 1) := by decide +kernel
theorem dX11_reaches_97 : decode cX11_reaches 97 = .ok (.ifCond .ne 55, 3) := by decide +kernel
theorem dX11_reaches_100 : decode cX11_reaches 100 = .ok (.aload_n 0, 1) := by decide +kernel
theorem dX11_reaches_101 : decode cX11_reaches 101 = .ok (.getfield 84, 3) := by decide +kernel
theorem dX11_reaches_104 : decode cX11_reaches 104 = .ok (.iload 5, 2) := by decide +kernel
theorem dX11_reaches_106 : decode cX11_reaches 106 = .ok (.aload_n 0, 1) := by decide +kernel
theorem dX11_reaches_107 : decode cX11_reaches 107 = .ok (.iload 4, 2) := by decide +kernel
theorem dX11_reaches_109 : decode cX11_reaches 109 = .ok (.iload 5, 2) := by decide +kernel
theorem dX11_reaches_111 : decode cX11_reaches 111 = .ok (.iload 6, 2) := by decide +kernel
theorem dX11_reaches_113 : decode cX11_reaches 113 = .ok (.invokevirtual 309, 3) := by decide +kernel
theorem dX11_reaches_116 : decode cX11_reaches 116 = .ok (.iconst (-1), 1) := by decide +kernel
theorem dX11_reaches_117 : decode cX11_reaches 117 = .ok (.if_icmp .eq 7, 3) := by decide +kernel
theorem dX11_reaches_120 : decode cX11_reaches 120 = .ok (.iconst 1, 1) := by decide +kernel
theorem dX11_reaches_121 : decode cX11_reaches 121 = .ok (.goto 4, 3) := by decide +kernel
theorem dX11_reaches_124 : decode cX11_reaches 124 = .ok (.iconst 0, 1) := by decide +kernel
theorem dX11_reaches_125 : decode cX11_reaches 125 = .ok (.bastore, 1) := by decide +kernel
theorem dX11_reaches_126 : decode cX11_reaches 126 = .ok (.iload_n 2, 1) := by decide +kernel
theorem dX11_reaches_127 : decode cX11_reaches 127 = .ok (.ifCond .ne 13, 3) := by decide +kernel
theorem dX11_reaches_130 : decode cX11_reaches 130 = .ok (.aload_n 0, 1) := by decide +kernel
theorem dX11_reaches_131 : decode cX11_reaches 131 = .ok (.getfield 84, 3) := by decide +kernel
theorem dX11_reaches_134 : decode cX11_reaches 134 = .ok (.iload 5, 2) := by decide +kernel
theorem dX11_reaches_136 : decode cX11_reaches 136 = .ok (.baload, 1) := by decide +kernel
theorem dX11_reaches_137 : decode cX11_reaches 137 = .ok (.ifCond .eq 7, 3) := by decide +kernel
theorem dX11_reaches_140 : decode cX11_reaches 140 = .ok (.iconst 1, 1) := by decide +kernel
theorem dX11_reaches_141 : decode cX11_reaches 141 = .ok (.goto 4, 3) := by decide +kernel
theorem dX11_reaches_144 : decode cX11_reaches 144 = .ok (.iconst 0, 1) := by decide +kernel
theorem dX11_reaches_145 : decode cX11_reaches 145 = .ok (.istore_n 2, 1) := by decide +kernel
theorem dX11_reaches_146 : decode cX11_reaches 146 = .ok (.iinc 6 1, 3) := by decide +kernel
theorem dX11_reaches_149 : decode cX11_reaches 149 = .ok (.goto (-75), 3) := by decide +kernel
theorem dX11_reaches_152 : decode cX11_reaches 152 = .ok (.iinc 3 1, 3) := by decide +kernel
theorem dX11_reaches_155 : decode cX11_reaches 155 = .ok (.goto (-113), 3) := by decide +kernel
theorem dX11_reaches_158 : decode cX11_reaches 158 = .ok (.goto (-124), 3) := by decide +kernel
theorem dX11_reaches_161 : decode cX11_reaches 161 = .ok (.return_, 1) := by decide +kernel
theorem dX11_givesBack_0 : decode cX11_givesBack 0 = .ok (.iconst 0, 1) := by decide +kernel
theorem dX11_givesBack_1 : decode cX11_givesBack 1 = .ok (.istore_n 1, 1) := by decide +kernel
theorem dX11_givesBack_2 : decode cX11_givesBack 2 = .ok (.iconst 0, 1) := by decide +kernel
theorem dX11_givesBack_3 : decode cX11_givesBack 3 = .ok (.istore_n 2, 1) := by decide +kernel
theorem dX11_givesBack_4 : decode cX11_givesBack 4 = .ok (.iload_n 2, 1) := by decide +kernel
theorem dX11_givesBack_5 : decode cX11_givesBack 5 = .ok (.aload_n 0, 1) := by decide +kernel
theorem dX11_givesBack_6 : decode cX11_givesBack 6 = .ok (.getfield 272, 3) := by decide +kernel
theorem dX11_givesBack_9 : decode cX11_givesBack 9 = .ok (.aload_n 0, 1) := by decide +kernel
theorem dX11_givesBack_10 : decode cX11_givesBack 10 = .ok (.getfield 272, 3) := by decide +kernel
theorem dX11_givesBack_13 : decode cX11_givesBack 13 = .ok (.imul, 1) := by decide +kernel
theorem dX11_givesBack_14 : decode cX11_givesBack 14 = .ok (.if_icmp .ge 74, 3) := by decide +kernel
theorem dX11_givesBack_17 : decode cX11_givesBack 17 = .ok (.iload_n 2, 1) := by decide +kernel
theorem dX11_givesBack_18 : decode cX11_givesBack 18 = .ok (.aload_n 0, 1) := by decide +kernel
theorem dX11_givesBack_19 : decode cX11_givesBack 19 = .ok (.getfield 272, 3) := by decide +kernel
theorem dX11_givesBack_22 : decode cX11_givesBack 22 = .ok (.idiv, 1) := by decide +kernel
theorem dX11_givesBack_23 : decode cX11_givesBack 23 = .ok (.istore_n 3, 1) := by decide +kernel
theorem dX11_givesBack_24 : decode cX11_givesBack 24 = .ok (.iload_n 2, 1) := by decide +kernel
theorem dX11_givesBack_25 : decode cX11_givesBack 25 = .ok (.aload_n 0, 1) := by decide +kernel
theorem dX11_givesBack_26 : decode cX11_givesBack 26 = .ok (.getfield 272, 3) := by decide +kernel
theorem dX11_givesBack_29 : decode cX11_givesBack 29 = .ok (.irem, 1) := by decide +kernel
theorem dX11_givesBack_30 : decode cX11_givesBack 30 = .ok (.istore 4, 2) := by decide +kernel
theorem dX11_givesBack_32 : decode cX11_givesBack 32 = .ok (.aload_n 0, 1) := by decide +kernel
theorem dX11_givesBack_33 : decode cX11_givesBack 33 = .ok (.getfield 84, 3) := by decide +kernel
theorem dX11_givesBack_36 : decode cX11_givesBack 36 = .ok (.iload_n 3, 1) := by decide +kernel
theorem dX11_givesBack_37 : decode cX11_givesBack 37 = .ok (.baload, 1) := by decide +kernel
theorem dX11_givesBack_38 : decode cX11_givesBack 38 = .ok (.ifCond .ne 44, 3) := by decide +kernel
theorem dX11_givesBack_41 : decode cX11_givesBack 41 = .ok (.aload_n 0, 1) := by decide +kernel
theorem dX11_givesBack_42 : decode cX11_givesBack 42 = .ok (.getfield 84, 3) := by decide +kernel
theorem dX11_givesBack_45 : decode cX11_givesBack 45 = .ok (.iload 4, 2) := by decide +kernel
theorem dX11_givesBack_47 : decode cX11_givesBack 47 = .ok (.baload, 1) := by decide +kernel
theorem dX11_givesBack_48 : decode cX11_givesBack 48 = .ok (.ifCond .eq 34, 3) := by decide +kernel
theorem dX11_givesBack_51 : decode cX11_givesBack 51 = .ok (.aload_n 0, 1) := by decide +kernel
theorem dX11_givesBack_52 : decode cX11_givesBack 52 = .ok (.getfield 66, 3) := by decide +kernel
theorem dX11_givesBack_55 : decode cX11_givesBack 55 = .ok (.bipush 24, 2) := by decide +kernel
theorem dX11_givesBack_57 : decode cX11_givesBack 57 = .ok (.iload_n 3, 1) := by decide +kernel
theorem dX11_givesBack_58 : decode cX11_givesBack 58 = .ok (.imul, 1) := by decide +kernel
theorem dX11_givesBack_59 : decode cX11_givesBack 59 = .ok (.iload 4, 2) := by decide +kernel
theorem dX11_givesBack_61 : decode cX11_givesBack 61 = .ok (.iadd, 1) := by decide +kernel
theorem dX11_givesBack_62 : decode cX11_givesBack 62 = .ok (.iaload, 1) := by decide +kernel
theorem dX11_givesBack_63 : decode cX11_givesBack 63 = .ok (.iconst (-1), 1) := by decide +kernel
theorem dX11_givesBack_64 : decode cX11_givesBack 64 = .ok (.if_icmp .eq 18, 3) := by decide +kernel
theorem dX11_givesBack_67 : decode cX11_givesBack 67 = .ok (.aload_n 0, 1) := by decide +kernel
theorem dX11_givesBack_68 : decode cX11_givesBack 68 = .ok (.getfield 81, 3) := by decide +kernel
theorem dX11_givesBack_71 : decode cX11_givesBack 71 = .ok (.bipush 24, 2) := by decide +kernel
theorem dX11_givesBack_73 : decode cX11_givesBack 73 = .ok (.iload 4, 2) := by decide +kernel
theorem dX11_givesBack_75 : decode cX11_givesBack 75 = .ok (.imul, 1) := by decide +kernel
theorem dX11_givesBack_76 : decode cX11_givesBack 76 = .ok (.iload_n 3, 1) := by decide +kernel
theorem dX11_givesBack_77 : decode cX11_givesBack 77 = .ok (.iadd, 1) := by decide +kernel
theorem dX11_givesBack_78 : decode cX11_givesBack 78 = .ok (.iconst 1, 1) := by decide +kernel
theorem dX11_givesBack_79 : decode cX11_givesBack 79 = .ok (.bastore, 1) := by decide +kernel
theorem dX11_givesBack_80 : decode cX11_givesBack 80 = .ok (.iconst 1, 1) := by decide +kernel
theorem dX11_givesBack_81 : decode cX11_givesBack 81 = .ok (.istore_n 1, 1) := by decide +kernel
theorem dX11_givesBack_82 : decode cX11_givesBack 82 = .ok (.iinc 2 1, 3) := by decide +kernel
theorem dX11_givesBack_85 : decode cX11_givesBack 85 = .ok (.goto (-81), 3) := by decide +kernel
theorem dX11_givesBack_88 : decode cX11_givesBack 88 = .ok (.iload_n 1, 1) := by decide +kernel
theorem dX11_givesBack_89 : decode cX11_givesBack 89 = .ok (.ireturn, 1) := by decide +kernel
theorem dX11_isBetter_0 : decode cX11_isBetter 0 = .ok (.iload_n 1, 1) := by decide +kernel
theorem dX11_isBetter_1 : decode cX11_isBetter 1 = .ok (.iconst 4, 1) := by decide +kernel
theorem dX11_isBetter_2 : decode cX11_isBetter 2 = .ok (.idiv, 1) := by decide +kernel
theorem dX11_isBetter_3 : decode cX11_isBetter 3 = .ok (.istore 4, 2) := by decide +kernel
theorem dX11_isBetter_5 : decode cX11_isBetter 5 = .ok (.iload_n 1, 1) := by decide +kernel
theorem dX11_isBetter_6 : decode cX11_isBetter 6 = .ok (.iconst 4, 1) := by decide +kernel
theorem dX11_isBetter_7 : decode cX11_isBetter 7 = .ok (.irem, 1) := by decide +kernel
theorem dX11_isBetter_8 : decode cX11_isBetter 8 = .ok (.istore 5, 2) := by decide +kernel
theorem dX11_isBetter_10 : decode cX11_isBetter 10 = .ok (.aload_n 0, 1) := by decide +kernel
theorem dX11_isBetter_11 : decode cX11_isBetter 11 = .ok (.getfield 87, 3) := by decide +kernel
theorem dX11_isBetter_14 : decode cX11_isBetter 14 = .ok (.iload_n 1, 1) := by decide +kernel
theorem dX11_isBetter_15 : decode cX11_isBetter 15 = .ok (.iaload, 1) := by decide +kernel
theorem dX11_isBetter_16 : decode cX11_isBetter 16 = .ok (.iconst (-1), 1) := by decide +kernel
theorem dX11_isBetter_17 : decode cX11_isBetter 17 = .ok (.if_icmp .eq 15, 3) := by decide +kernel
theorem dX11_isBetter_20 : decode cX11_isBetter 20 = .ok (.aload_n 0, 1) := by decide +kernel
theorem dX11_isBetter_21 : decode cX11_isBetter 21 = .ok (.iload 4, 2) := by decide +kernel
theorem dX11_isBetter_23 : decode cX11_isBetter 23 = .ok (.iload_n 2, 1) := by decide +kernel
theorem dX11_isBetter_24 : decode cX11_isBetter 24 = .ok (.iload_n 3, 1) := by decide +kernel
theorem dX11_isBetter_25 : decode cX11_isBetter 25 = .ok (.invokevirtual 309, 3) := by decide +kernel
theorem dX11_isBetter_28 : decode cX11_isBetter 28 = .ok (.iconst (-1), 1) := by decide +kernel
theorem dX11_isBetter_29 : decode cX11_isBetter 29 = .ok (.if_icmp .ne 5, 3) := by decide +kernel
theorem dX11_isBetter_32 : decode cX11_isBetter 32 = .ok (.iconst 0, 1) := by decide +kernel
theorem dX11_isBetter_33 : decode cX11_isBetter 33 = .ok (.ireturn, 1) := by decide +kernel
theorem dX11_isBetter_34 : decode cX11_isBetter 34 = .ok (.iconst 4, 1) := by decide +kernel
theorem dX11_isBetter_35 : decode cX11_isBetter 35 = .ok (.iload_n 2, 1) := by decide +kernel
theorem dX11_isBetter_36 : decode cX11_isBetter 36 = .ok (.imul, 1) := by decide +kernel
theorem dX11_isBetter_37 : decode cX11_isBetter 37 = .ok (.aload_n 0, 1) := by decide +kernel
theorem dX11_isBetter_38 : decode cX11_isBetter 38 = .ok (.iload 4, 2) := by decide +kernel
theorem dX11_isBetter_40 : decode cX11_isBetter 40 = .ok (.iload 5, 2) := by decide +kernel
theorem dX11_isBetter_42 : decode cX11_isBetter 42 = .ok (.iload_n 2, 1) := by decide +kernel
theorem dX11_isBetter_43 : decode cX11_isBetter 43 = .ok (.iload_n 3, 1) := by decide +kernel
theorem dX11_isBetter_44 : decode cX11_isBetter 44 = .ok (.invokevirtual 313, 3) := by decide +kernel
theorem dX11_isBetter_47 : decode cX11_isBetter 47 = .ok (.iadd, 1) := by decide +kernel
theorem dX11_isBetter_48 : decode cX11_isBetter 48 = .ok (.istore 6, 2) := by decide +kernel
theorem dX11_isBetter_50 : decode cX11_isBetter 50 = .ok (.aload_n 0, 1) := by decide +kernel
theorem dX11_isBetter_51 : decode cX11_isBetter 51 = .ok (.getfield 87, 3) := by decide +kernel
theorem dX11_isBetter_54 : decode cX11_isBetter 54 = .ok (.iload_n 1, 1) := by decide +kernel
theorem dX11_isBetter_55 : decode cX11_isBetter 55 = .ok (.iaload, 1) := by decide +kernel
theorem dX11_isBetter_56 : decode cX11_isBetter 56 = .ok (.aload_n 0, 1) := by decide +kernel
theorem dX11_isBetter_57 : decode cX11_isBetter 57 = .ok (.iload 4, 2) := by decide +kernel
theorem dX11_isBetter_59 : decode cX11_isBetter 59 = .ok (.iload 5, 2) := by decide +kernel
theorem dX11_isBetter_61 : decode cX11_isBetter 61 = .ok (.iload_n 2, 1) := by decide +kernel
theorem dX11_isBetter_62 : decode cX11_isBetter 62 = .ok (.iload_n 3, 1) := by decide +kernel
theorem dX11_isBetter_63 : decode cX11_isBetter 63 = .ok (.invokevirtual 317, 3) := by decide +kernel
theorem dX11_isBetter_66 : decode cX11_isBetter 66 = .ok (.iadd, 1) := by decide +kernel
theorem dX11_isBetter_67 : decode cX11_isBetter 67 = .ok (.istore 7, 2) := by decide +kernel
theorem dX11_isBetter_69 : decode cX11_isBetter 69 = .ok (.aload_n 0, 1) := by decide +kernel
theorem dX11_isBetter_70 : decode cX11_isBetter 70 = .ok (.getfield 87, 3) := by decide +kernel
theorem dX11_isBetter_73 : decode cX11_isBetter 73 = .ok (.iload 6, 2) := by decide +kernel
theorem dX11_isBetter_75 : decode cX11_isBetter 75 = .ok (.iaload, 1) := by decide +kernel
theorem dX11_isBetter_76 : decode cX11_isBetter 76 = .ok (.iconst (-1), 1) := by decide +kernel
theorem dX11_isBetter_77 : decode cX11_isBetter 77 = .ok (.if_icmp .eq 45, 3) := by decide +kernel
theorem dX11_isBetter_80 : decode cX11_isBetter 80 = .ok (.iload 7, 2) := by decide +kernel
theorem dX11_isBetter_82 : decode cX11_isBetter 82 = .ok (.aload_n 0, 1) := by decide +kernel
theorem dX11_isBetter_83 : decode cX11_isBetter 83 = .ok (.getfield 87, 3) := by decide +kernel
theorem dX11_isBetter_86 : decode cX11_isBetter 86 = .ok (.iload 6, 2) := by decide +kernel
theorem dX11_isBetter_88 : decode cX11_isBetter 88 = .ok (.iaload, 1) := by decide +kernel
theorem dX11_isBetter_89 : decode cX11_isBetter 89 = .ok (.if_icmp .lt 33, 3) := by decide +kernel
theorem dX11_isBetter_92 : decode cX11_isBetter 92 = .ok (.iload 7, 2) := by decide +kernel
theorem dX11_isBetter_94 : decode cX11_isBetter 94 = .ok (.aload_n 0, 1) := by decide +kernel
theorem dX11_isBetter_95 : decode cX11_isBetter 95 = .ok (.getfield 87, 3) := by decide +kernel
theorem dX11_isBetter_98 : decode cX11_isBetter 98 = .ok (.iload 6, 2) := by decide +kernel
theorem dX11_isBetter_100 : decode cX11_isBetter 100 = .ok (.iaload, 1) := by decide +kernel
theorem dX11_isBetter_101 : decode cX11_isBetter 101 = .ok (.if_icmp .ne 25, 3) := by decide +kernel
theorem dX11_isBetter_104 : decode cX11_isBetter 104 = .ok (.aload_n 0, 1) := by decide +kernel
theorem dX11_isBetter_105 : decode cX11_isBetter 105 = .ok (.getfield 90, 3) := by decide +kernel
theorem dX11_isBetter_108 : decode cX11_isBetter 108 = .ok (.iload_n 1, 1) := by decide +kernel
theorem dX11_isBetter_109 : decode cX11_isBetter 109 = .ok (.iaload, 1) := by decide +kernel
theorem dX11_isBetter_110 : decode cX11_isBetter 110 = .ok (.iconst 1, 1) := by decide +kernel
theorem dX11_isBetter_111 : decode cX11_isBetter 111 = .ok (.iadd, 1) := by decide +kernel
theorem dX11_isBetter_112 : decode cX11_isBetter 112 = .ok (.aload_n 0, 1) := by decide +kernel
theorem dX11_isBetter_113 : decode cX11_isBetter 113 = .ok (.getfield 90, 3) := by decide +kernel
theorem dX11_isBetter_116 : decode cX11_isBetter 116 = .ok (.iload 6, 2) := by decide +kernel
theorem dX11_isBetter_118 : decode cX11_isBetter 118 = .ok (.iaload, 1) := by decide +kernel
theorem dX11_isBetter_119 : decode cX11_isBetter 119 = .ok (.if_icmp .ge 7, 3) := by decide +kernel
theorem dX11_isBetter_122 : decode cX11_isBetter 122 = .ok (.iconst 1, 1) := by decide +kernel
theorem dX11_isBetter_123 : decode cX11_isBetter 123 = .ok (.goto 4, 3) := by decide +kernel
theorem dX11_isBetter_126 : decode cX11_isBetter 126 = .ok (.iconst 0, 1) := by decide +kernel
theorem dX11_isBetter_127 : decode cX11_isBetter 127 = .ok (.istore 8, 2) := by decide +kernel
theorem dX11_isBetter_129 : decode cX11_isBetter 129 = .ok (.iload 8, 2) := by decide +kernel
theorem dX11_isBetter_131 : decode cX11_isBetter 131 = .ok (.ifCond .eq 27, 3) := by decide +kernel
theorem dX11_isBetter_134 : decode cX11_isBetter 134 = .ok (.aload_n 0, 1) := by decide +kernel
theorem dX11_isBetter_135 : decode cX11_isBetter 135 = .ok (.getfield 87, 3) := by decide +kernel
theorem dX11_isBetter_138 : decode cX11_isBetter 138 = .ok (.iload 6, 2) := by decide +kernel
theorem dX11_isBetter_140 : decode cX11_isBetter 140 = .ok (.iload 7, 2) := by decide +kernel
theorem dX11_isBetter_142 : decode cX11_isBetter 142 = .ok (.iastore, 1) := by decide +kernel
theorem dX11_isBetter_143 : decode cX11_isBetter 143 = .ok (.aload_n 0, 1) := by decide +kernel
theorem dX11_isBetter_144 : decode cX11_isBetter 144 = .ok (.getfield 90, 3) := by decide +kernel
theorem dX11_isBetter_147 : decode cX11_isBetter 147 = .ok (.iload 6, 2) := by decide +kernel
theorem dX11_isBetter_149 : decode cX11_isBetter 149 = .ok (.aload_n 0, 1) := by decide +kernel
theorem dX11_isBetter_150 : decode cX11_isBetter 150 = .ok (.getfield 90, 3) := by decide +kernel
theorem dX11_isBetter_153 : decode cX11_isBetter 153 = .ok (.iload_n 1, 1) := by decide +kernel
theorem dX11_isBetter_154 : decode cX11_isBetter 154 = .ok (.iaload, 1) := by decide +kernel
theorem dX11_isBetter_155 : decode cX11_isBetter 155 = .ok (.iconst 1, 1) := by decide +kernel
theorem dX11_isBetter_156 : decode cX11_isBetter 156 = .ok (.iadd, 1) := by decide +kernel
theorem dX11_isBetter_157 : decode cX11_isBetter 157 = .ok (.iastore, 1) := by decide +kernel
theorem dX11_isBetter_158 : decode cX11_isBetter 158 = .ok (.iload 8, 2) := by decide +kernel
theorem dX11_isBetter_160 : decode cX11_isBetter 160 = .ok (.ireturn, 1) := by decide +kernel
theorem dX11_comes_0 : decode cX11_comes 0 = .ok (.iload_n 1, 1) := by decide +kernel
theorem dX11_comes_1 : decode cX11_comes 1 = .ok (.iconst 4, 1) := by decide +kernel
theorem dX11_comes_2 : decode cX11_comes 2 = .ok (.idiv, 1) := by decide +kernel
theorem dX11_comes_3 : decode cX11_comes 3 = .ok (.istore 4, 2) := by decide +kernel
theorem dX11_comes_5 : decode cX11_comes 5 = .ok (.iload_n 1, 1) := by decide +kernel
theorem dX11_comes_6 : decode cX11_comes 6 = .ok (.iconst 4, 1) := by decide +kernel
theorem dX11_comes_7 : decode cX11_comes 7 = .ok (.irem, 1) := by decide +kernel
theorem dX11_comes_8 : decode cX11_comes 8 = .ok (.istore 5, 2) := by decide +kernel
theorem dX11_comes_10 : decode cX11_comes 10 = .ok (.iload_n 2, 1) := by decide +kernel
theorem dX11_comes_11 : decode cX11_comes 11 = .ok (.iconst 4, 1) := by decide +kernel
theorem dX11_comes_12 : decode cX11_comes 12 = .ok (.idiv, 1) := by decide +kernel
theorem dX11_comes_13 : decode cX11_comes 13 = .ok (.istore 6, 2) := by decide +kernel
theorem dX11_comes_15 : decode cX11_comes 15 = .ok (.aload_n 0, 1) := by decide +kernel
theorem dX11_comes_16 : decode cX11_comes 16 = .ok (.getfield 87, 3) := by decide +kernel
theorem dX11_comes_19 : decode cX11_comes 19 = .ok (.iload_n 1, 1) := by decide +kernel
theorem dX11_comes_20 : decode cX11_comes 20 = .ok (.iaload, 1) := by decide +kernel
theorem dX11_comes_21 : decode cX11_comes 21 = .ok (.iconst (-1), 1) := by decide +kernel
theorem dX11_comes_22 : decode cX11_comes 22 = .ok (.if_icmp .eq 23, 3) := by decide +kernel
theorem dX11_comes_25 : decode cX11_comes 25 = .ok (.iload 4, 2) := by decide +kernel
theorem dX11_comes_27 : decode cX11_comes 27 = .ok (.iload 6, 2) := by decide +kernel
theorem dX11_comes_29 : decode cX11_comes 29 = .ok (.if_icmp .eq 16, 3) := by decide +kernel
theorem dX11_comes_32 : decode cX11_comes 32 = .ok (.aload_n 0, 1) := by decide +kernel
theorem dX11_comes_33 : decode cX11_comes 33 = .ok (.iload 4, 2) := by decide +kernel
theorem dX11_comes_35 : decode cX11_comes 35 = .ok (.iload 6, 2) := by decide +kernel
theorem dX11_comes_37 : decode cX11_comes 37 = .ok (.iload_n 3, 1) := by decide +kernel
theorem dX11_comes_38 : decode cX11_comes 38 = .ok (.invokevirtual 309, 3) := by decide +kernel
theorem dX11_comes_41 : decode cX11_comes 41 = .ok (.iconst (-1), 1) := by decide +kernel
theorem dX11_comes_42 : decode cX11_comes 42 = .ok (.if_icmp .ne 5, 3) := by decide +kernel
theorem dX11_comes_45 : decode cX11_comes 45 = .ok (.iconst 0, 1) := by decide +kernel
theorem dX11_comes_46 : decode cX11_comes 46 = .ok (.ireturn, 1) := by decide +kernel
theorem dX11_comes_47 : decode cX11_comes 47 = .ok (.aload_n 0, 1) := by decide +kernel
theorem dX11_comes_48 : decode cX11_comes 48 = .ok (.iload 4, 2) := by decide +kernel
theorem dX11_comes_50 : decode cX11_comes 50 = .ok (.iload 5, 2) := by decide +kernel
theorem dX11_comes_52 : decode cX11_comes 52 = .ok (.iload 6, 2) := by decide +kernel
theorem dX11_comes_54 : decode cX11_comes 54 = .ok (.iload_n 3, 1) := by decide +kernel
theorem dX11_comes_55 : decode cX11_comes 55 = .ok (.invokevirtual 313, 3) := by decide +kernel
theorem dX11_comes_58 : decode cX11_comes 58 = .ok (.iload_n 2, 1) := by decide +kernel
theorem dX11_comes_59 : decode cX11_comes 59 = .ok (.iconst 4, 1) := by decide +kernel
theorem dX11_comes_60 : decode cX11_comes 60 = .ok (.irem, 1) := by decide +kernel
theorem dX11_comes_61 : decode cX11_comes 61 = .ok (.if_icmp .ne 7, 3) := by decide +kernel
theorem dX11_comes_64 : decode cX11_comes 64 = .ok (.iconst 1, 1) := by decide +kernel
theorem dX11_comes_65 : decode cX11_comes 65 = .ok (.goto 4, 3) := by decide +kernel
theorem dX11_comes_68 : decode cX11_comes 68 = .ok (.iconst 0, 1) := by decide +kernel
theorem dX11_comes_69 : decode cX11_comes 69 = .ok (.istore 7, 2) := by decide +kernel
theorem dX11_comes_71 : decode cX11_comes 71 = .ok (.iload 7, 2) := by decide +kernel
theorem dX11_comes_73 : decode cX11_comes 73 = .ok (.ifCond .eq 51, 3) := by decide +kernel
theorem dX11_comes_76 : decode cX11_comes 76 = .ok (.aload_n 0, 1) := by decide +kernel
theorem dX11_comes_77 : decode cX11_comes 77 = .ok (.getfield 87, 3) := by decide +kernel
theorem dX11_comes_80 : decode cX11_comes 80 = .ok (.iload_n 1, 1) := by decide +kernel
theorem dX11_comes_81 : decode cX11_comes 81 = .ok (.iaload, 1) := by decide +kernel
theorem dX11_comes_82 : decode cX11_comes 82 = .ok (.aload_n 0, 1) := by decide +kernel
theorem dX11_comes_83 : decode cX11_comes 83 = .ok (.iload 4, 2) := by decide +kernel
theorem dX11_comes_85 : decode cX11_comes 85 = .ok (.iload 5, 2) := by decide +kernel
theorem dX11_comes_87 : decode cX11_comes 87 = .ok (.iload 6, 2) := by decide +kernel
theorem dX11_comes_89 : decode cX11_comes 89 = .ok (.iload_n 3, 1) := by decide +kernel
theorem dX11_comes_90 : decode cX11_comes 90 = .ok (.invokevirtual 317, 3) := by decide +kernel
theorem dX11_comes_93 : decode cX11_comes 93 = .ok (.iadd, 1) := by decide +kernel
theorem dX11_comes_94 : decode cX11_comes 94 = .ok (.aload_n 0, 1) := by decide +kernel
theorem dX11_comes_95 : decode cX11_comes 95 = .ok (.getfield 87, 3) := by decide +kernel
theorem dX11_comes_98 : decode cX11_comes 98 = .ok (.iload_n 2, 1) := by decide +kernel
theorem dX11_comes_99 : decode cX11_comes 99 = .ok (.iaload, 1) := by decide +kernel
theorem dX11_comes_100 : decode cX11_comes 100 = .ok (.if_icmp .ne 24, 3) := by decide +kernel
theorem dX11_comes_103 : decode cX11_comes 103 = .ok (.aload_n 0, 1) := by decide +kernel
theorem dX11_comes_104 : decode cX11_comes 104 = .ok (.getfield 90, 3) := by decide +kernel
theorem dX11_comes_107 : decode cX11_comes 107 = .ok (.iload_n 1, 1) := by decide +kernel
theorem dX11_comes_108 : decode cX11_comes 108 = .ok (.iaload, 1) := by decide +kernel
theorem dX11_comes_109 : decode cX11_comes 109 = .ok (.iconst 1, 1) := by decide +kernel
theorem dX11_comes_110 : decode cX11_comes 110 = .ok (.iadd, 1) := by decide +kernel
theorem dX11_comes_111 : decode cX11_comes 111 = .ok (.aload_n 0, 1) := by decide +kernel
theorem dX11_comes_112 : decode cX11_comes 112 = .ok (.getfield 90, 3) := by decide +kernel
theorem dX11_comes_115 : decode cX11_comes 115 = .ok (.iload_n 2, 1) := by decide +kernel
theorem dX11_comes_116 : decode cX11_comes 116 = .ok (.iaload, 1) := by decide +kernel
theorem dX11_comes_117 : decode cX11_comes 117 = .ok (.if_icmp .ne 7, 3) := by decide +kernel
theorem dX11_comes_120 : decode cX11_comes 120 = .ok (.iconst 1, 1) := by decide +kernel
theorem dX11_comes_121 : decode cX11_comes 121 = .ok (.goto 4, 3) := by decide +kernel
theorem dX11_comes_124 : decode cX11_comes 124 = .ok (.iconst 0, 1) := by decide +kernel
theorem dX11_comes_125 : decode cX11_comes 125 = .ok (.ireturn, 1) := by decide +kernel
theorem dX11_solves_0 : decode cX11_solves 0 = .ok (.iconst 0, 1) := by decide +kernel
theorem dX11_solves_1 : decode cX11_solves 1 = .ok (.istore_n 1, 1) := by decide +kernel
theorem dX11_solves_2 : decode cX11_solves 2 = .ok (.iload_n 1, 1) := by decide +kernel
theorem dX11_solves_3 : decode cX11_solves 3 = .ok (.sipush 576, 3) := by decide +kernel
theorem dX11_solves_6 : decode cX11_solves 6 = .ok (.if_icmp .ge 16, 3) := by decide +kernel
theorem dX11_solves_9 : decode cX11_solves 9 = .ok (.aload_n 0, 1) := by decide +kernel
theorem dX11_solves_10 : decode cX11_solves 10 = .ok (.getfield 81, 3) := by decide +kernel
theorem dX11_solves_13 : decode cX11_solves 13 = .ok (.iload_n 1, 1) := by decide +kernel
theorem dX11_solves_14 : decode cX11_solves 14 = .ok (.iconst 0, 1) := by decide +kernel
theorem dX11_solves_15 : decode cX11_solves 15 = .ok (.bastore, 1) := by decide +kernel
theorem dX11_solves_16 : decode cX11_solves 16 = .ok (.iinc 1 1, 3) := by decide +kernel
theorem dX11_solves_19 : decode cX11_solves 19 = .ok (.goto (-17), 3) := by decide +kernel
theorem dX11_solves_22 : decode cX11_solves 22 = .ok (.iconst 0, 1) := by decide +kernel
theorem dX11_solves_23 : decode cX11_solves 23 = .ok (.istore_n 1, 1) := by decide +kernel
theorem dX11_solves_24 : decode cX11_solves 24 = .ok (.iload_n 1, 1) := by decide +kernel
theorem dX11_solves_25 : decode cX11_solves 25 = .ok (.bipush 96, 2) := by decide +kernel
theorem dX11_solves_27 : decode cX11_solves 27 = .ok (.if_icmp .ge 37, 3) := by decide +kernel
theorem dX11_solves_30 : decode cX11_solves 30 = .ok (.aload_n 0, 1) := by decide +kernel
theorem dX11_solves_31 : decode cX11_solves 31 = .ok (.getfield 87, 3) := by decide +kernel
theorem dX11_solves_34 : decode cX11_solves 34 = .ok (.iload_n 1, 1) := by decide +kernel
theorem dX11_solves_35 : decode cX11_solves 35 = .ok (.iconst (-1), 1) := by decide +kernel
theorem dX11_solves_36 : decode cX11_solves 36 = .ok (.iastore, 1) := by decide +kernel
theorem dX11_solves_37 : decode cX11_solves 37 = .ok (.aload_n 0, 1) := by decide +kernel
theorem dX11_solves_38 : decode cX11_solves 38 = .ok (.getfield 90, 3) := by decide +kernel
theorem dX11_solves_41 : decode cX11_solves 41 = .ok (.iload_n 1, 1) := by decide +kernel
theorem dX11_solves_42 : decode cX11_solves 42 = .ok (.iconst 0, 1) := by decide +kernel
theorem dX11_solves_43 : decode cX11_solves 43 = .ok (.iastore, 1) := by decide +kernel
theorem dX11_solves_44 : decode cX11_solves 44 = .ok (.aload_n 0, 1) := by decide +kernel
theorem dX11_solves_45 : decode cX11_solves 45 = .ok (.getfield 93, 3) := by decide +kernel
theorem dX11_solves_48 : decode cX11_solves 48 = .ok (.iload_n 1, 1) := by decide +kernel
theorem dX11_solves_49 : decode cX11_solves 49 = .ok (.iconst (-1), 1) := by decide +kernel
theorem dX11_solves_50 : decode cX11_solves 50 = .ok (.iastore, 1) := by decide +kernel
theorem dX11_solves_51 : decode cX11_solves 51 = .ok (.aload_n 0, 1) := by decide +kernel
theorem dX11_solves_52 : decode cX11_solves 52 = .ok (.getfield 96, 3) := by decide +kernel
theorem dX11_solves_55 : decode cX11_solves 55 = .ok (.iload_n 1, 1) := by decide +kernel
theorem dX11_solves_56 : decode cX11_solves 56 = .ok (.iconst 0, 1) := by decide +kernel
theorem dX11_solves_57 : decode cX11_solves 57 = .ok (.iastore, 1) := by decide +kernel
theorem dX11_solves_58 : decode cX11_solves 58 = .ok (.iinc 1 1, 3) := by decide +kernel
theorem dX11_solves_61 : decode cX11_solves 61 = .ok (.goto (-37), 3) := by decide +kernel
theorem dX11_solves_64 : decode cX11_solves 64 = .ok (.aload_n 0, 1) := by decide +kernel
theorem dX11_solves_65 : decode cX11_solves 65 = .ok (.invokevirtual 320, 3) := by decide +kernel
theorem dX11_solves_68 : decode cX11_solves 68 = .ok (.istore_n 1, 1) := by decide +kernel
theorem dX11_solves_69 : decode cX11_solves 69 = .ok (.iload_n 1, 1) := by decide +kernel
theorem dX11_solves_70 : decode cX11_solves 70 = .ok (.iconst (-1), 1) := by decide +kernel
theorem dX11_solves_71 : decode cX11_solves 71 = .ok (.if_icmp .ne 4, 3) := by decide +kernel
theorem dX11_solves_74 : decode cX11_solves 74 = .ok (.return_, 1) := by decide +kernel
theorem dX11_solves_75 : decode cX11_solves 75 = .ok (.aload_n 0, 1) := by decide +kernel
theorem dX11_solves_76 : decode cX11_solves 76 = .ok (.iload_n 1, 1) := by decide +kernel
theorem dX11_solves_77 : decode cX11_solves 77 = .ok (.invokevirtual 323, 3) := by decide +kernel
theorem dX11_solves_80 : decode cX11_solves 80 = .ok (.aload_n 0, 1) := by decide +kernel
theorem dX11_solves_81 : decode cX11_solves 81 = .ok (.invokevirtual 327, 3) := by decide +kernel
theorem dX11_solves_84 : decode cX11_solves 84 = .ok (.ifCond .eq 11, 3) := by decide +kernel
theorem dX11_solves_87 : decode cX11_solves 87 = .ok (.aload_n 0, 1) := by decide +kernel
theorem dX11_solves_88 : decode cX11_solves 88 = .ok (.iload_n 1, 1) := by decide +kernel
theorem dX11_solves_89 : decode cX11_solves 89 = .ok (.invokevirtual 323, 3) := by decide +kernel
theorem dX11_solves_92 : decode cX11_solves 92 = .ok (.goto (-12), 3) := by decide +kernel
theorem dX11_solves_95 : decode cX11_solves 95 = .ok (.aload_n 0, 1) := by decide +kernel
theorem dX11_solves_96 : decode cX11_solves 96 = .ok (.getfield 87, 3) := by decide +kernel
theorem dX11_solves_99 : decode cX11_solves 99 = .ok (.iconst 4, 1) := by decide +kernel
theorem dX11_solves_100 : decode cX11_solves 100 = .ok (.iload_n 1, 1) := by decide +kernel
theorem dX11_solves_101 : decode cX11_solves 101 = .ok (.imul, 1) := by decide +kernel
theorem dX11_solves_102 : decode cX11_solves 102 = .ok (.iconst 0, 1) := by decide +kernel
theorem dX11_solves_103 : decode cX11_solves 103 = .ok (.iastore, 1) := by decide +kernel
theorem dX11_solves_104 : decode cX11_solves 104 = .ok (.iconst 1, 1) := by decide +kernel
theorem dX11_solves_105 : decode cX11_solves 105 = .ok (.istore_n 2, 1) := by decide +kernel
theorem dX11_solves_106 : decode cX11_solves 106 = .ok (.iload_n 2, 1) := by decide +kernel
theorem dX11_solves_107 : decode cX11_solves 107 = .ok (.ifCond .eq 106, 3) := by decide +kernel
theorem dX11_solves_110 : decode cX11_solves 110 = .ok (.iconst 0, 1) := by decide +kernel
theorem dX11_solves_111 : decode cX11_solves 111 = .ok (.istore_n 2, 1) := by decide +kernel
theorem dX11_solves_112 : decode cX11_solves 112 = .ok (.iconst 0, 1) := by decide +kernel
theorem dX11_solves_113 : decode cX11_solves 113 = .ok (.istore_n 3, 1) := by decide +kernel
theorem dX11_solves_114 : decode cX11_solves 114 = .ok (.iload_n 3, 1) := by decide +kernel
theorem dX11_solves_115 : decode cX11_solves 115 = .ok (.iconst 4, 1) := by decide +kernel
theorem dX11_solves_116 : decode cX11_solves 116 = .ok (.aload_n 0, 1) := by decide +kernel
theorem dX11_solves_117 : decode cX11_solves 117 = .ok (.getfield 272, 3) := by decide +kernel
theorem dX11_solves_120 : decode cX11_solves 120 = .ok (.imul, 1) := by decide +kernel
theorem dX11_solves_121 : decode cX11_solves 121 = .ok (.aload_n 0, 1) := by decide +kernel
theorem dX11_solves_122 : decode cX11_solves 122 = .ok (.getfield 272, 3) := by decide +kernel
theorem dX11_solves_125 : decode cX11_solves 125 = .ok (.imul, 1) := by decide +kernel
theorem dX11_solves_126 : decode cX11_solves 126 = .ok (.if_icmp .ge 84, 3) := by decide +kernel
theorem dX11_solves_129 : decode cX11_solves 129 = .ok (.iconst 1, 1) := by decide +kernel
theorem dX11_solves_130 : decode cX11_solves 130 = .ok (.istore 4, 2) := by decide +kernel
theorem dX11_solves_132 : decode cX11_solves 132 = .ok (.iload 4, 2) := by decide +kernel
theorem dX11_solves_134 : decode cX11_solves 134 = .ok (.iconst 5, 1) := by decide +kernel
theorem dX11_solves_135 : decode cX11_solves 135 = .ok (.if_icmp .gt 69, 3) := by decide +kernel
theorem dX11_solves_138 : decode cX11_solves 138 = .ok (.iload_n 3, 1) := by decide +kernel
theorem dX11_solves_139 : decode cX11_solves 139 = .ok (.aload_n 0, 1) := by decide +kernel
theorem dX11_solves_140 : decode cX11_solves 140 = .ok (.getfield 272, 3) := by decide +kernel
theorem dX11_solves_143 : decode cX11_solves 143 = .ok (.idiv, 1) := by decide +kernel
theorem dX11_solves_144 : decode cX11_solves 144 = .ok (.iconst 4, 1) := by decide +kernel
theorem dX11_solves_145 : decode cX11_solves 145 = .ok (.idiv, 1) := by decide +kernel
theorem dX11_solves_146 : decode cX11_solves 146 = .ok (.iload_n 3, 1) := by decide +kernel
theorem dX11_solves_147 : decode cX11_solves 147 = .ok (.aload_n 0, 1) := by decide +kernel
theorem dX11_solves_148 : decode cX11_solves 148 = .ok (.getfield 272, 3) := by decide +kernel
theorem dX11_solves_151 : decode cX11_solves 151 = .ok (.irem, 1) := by decide +kernel
theorem dX11_solves_152 : decode cX11_solves 152 = .ok (.if_icmp .eq 28, 3) := by decide +kernel
theorem dX11_solves_155 : decode cX11_solves 155 = .ok (.aload_n 0, 1) := by decide +kernel
theorem dX11_solves_156 : decode cX11_solves 156 = .ok (.iload_n 3, 1) := by decide +kernel
theorem dX11_solves_157 : decode cX11_solves 157 = .ok (.aload_n 0, 1) := by decide +kernel
theorem dX11_solves_158 : decode cX11_solves 158 = .ok (.getfield 272, 3) := by decide +kernel
theorem dX11_solves_161 : decode cX11_solves 161 = .ok (.idiv, 1) := by decide +kernel
theorem dX11_solves_162 : decode cX11_solves 162 = .ok (.iload_n 3, 1) := by decide +kernel
theorem dX11_solves_163 : decode cX11_solves 163 = .ok (.aload_n 0, 1) := by decide +kernel
theorem dX11_solves_164 : decode cX11_solves 164 = .ok (.getfield 272, 3) := by decide +kernel
theorem dX11_solves_167 : decode cX11_solves 167 = .ok (.irem, 1) := by decide +kernel
theorem dX11_solves_168 : decode cX11_solves 168 = .ok (.iload 4, 2) := by decide +kernel
theorem dX11_solves_170 : decode cX11_solves 170 = .ok (.invokevirtual 330, 3) := by decide +kernel
theorem dX11_solves_173 : decode cX11_solves 173 = .ok (.ifCond .eq 7, 3) := by decide +kernel
theorem dX11_solves_176 : decode cX11_solves 176 = .ok (.iconst 1, 1) := by decide +kernel
theorem dX11_solves_177 : decode cX11_solves 177 = .ok (.goto 4, 3) := by decide +kernel
theorem dX11_solves_180 : decode cX11_solves 180 = .ok (.iconst 0, 1) := by decide +kernel
theorem dX11_solves_181 : decode cX11_solves 181 = .ok (.istore 5, 2) := by decide +kernel
theorem dX11_solves_183 : decode cX11_solves 183 = .ok (.iload_n 2, 1) := by decide +kernel
theorem dX11_solves_184 : decode cX11_solves 184 = .ok (.ifCond .ne 8, 3) := by decide +kernel
theorem dX11_solves_187 : decode cX11_solves 187 = .ok (.iload 5, 2) := by decide +kernel
theorem dX11_solves_189 : decode cX11_solves 189 = .ok (.ifCond .eq 7, 3) := by decide +kernel
theorem dX11_solves_192 : decode cX11_solves 192 = .ok (.iconst 1, 1) := by decide +kernel
theorem dX11_solves_193 : decode cX11_solves 193 = .ok (.goto 4, 3) := by decide +kernel
theorem dX11_solves_196 : decode cX11_solves 196 = .ok (.iconst 0, 1) := by decide +kernel
theorem dX11_solves_197 : decode cX11_solves 197 = .ok (.istore_n 2, 1) := by decide +kernel
theorem dX11_solves_198 : decode cX11_solves 198 = .ok (.iinc 4 1, 3) := by decide +kernel
theorem dX11_solves_201 : decode cX11_solves 201 = .ok (.goto (-69), 3) := by decide +kernel
theorem dX11_solves_204 : decode cX11_solves 204 = .ok (.iinc 3 1, 3) := by decide +kernel
theorem dX11_solves_207 : decode cX11_solves 207 = .ok (.goto (-93), 3) := by decide +kernel
theorem dX11_solves_210 : decode cX11_solves 210 = .ok (.goto (-104), 3) := by decide +kernel
theorem dX11_solves_213 : decode cX11_solves 213 = .ok (.iconst 0, 1) := by decide +kernel
theorem dX11_solves_214 : decode cX11_solves 214 = .ok (.istore_n 3, 1) := by decide +kernel
theorem dX11_solves_215 : decode cX11_solves 215 = .ok (.iload_n 3, 1) := by decide +kernel
theorem dX11_solves_216 : decode cX11_solves 216 = .ok (.iconst 4, 1) := by decide +kernel
theorem dX11_solves_217 : decode cX11_solves 217 = .ok (.aload_n 0, 1) := by decide +kernel
theorem dX11_solves_218 : decode cX11_solves 218 = .ok (.getfield 272, 3) := by decide +kernel
theorem dX11_solves_221 : decode cX11_solves 221 = .ok (.imul, 1) := by decide +kernel
theorem dX11_solves_222 : decode cX11_solves 222 = .ok (.if_icmp .ge 119, 3) := by decide +kernel
theorem dX11_solves_225 : decode cX11_solves 225 = .ok (.iconst 4, 1) := by decide +kernel
theorem dX11_solves_226 : decode cX11_solves 226 = .ok (.aload_n 0, 1) := by decide +kernel
theorem dX11_solves_227 : decode cX11_solves 227 = .ok (.getfield 272, 3) := by decide +kernel
theorem dX11_solves_230 : decode cX11_solves 230 = .ok (.imul, 1) := by decide +kernel
theorem dX11_solves_231 : decode cX11_solves 231 = .ok (.iconst 1, 1) := by decide +kernel
theorem dX11_solves_232 : decode cX11_solves 232 = .ok (.isub, 1) := by decide +kernel
theorem dX11_solves_233 : decode cX11_solves 233 = .ok (.istore 4, 2) := by decide +kernel
theorem dX11_solves_235 : decode cX11_solves 235 = .ok (.iload 4, 2) := by decide +kernel
theorem dX11_solves_237 : decode cX11_solves 237 = .ok (.ifCond .lt 98, 3) := by decide +kernel
theorem dX11_solves_240 : decode cX11_solves 240 = .ok (.aload_n 0, 1) := by decide +kernel
theorem dX11_solves_241 : decode cX11_solves 241 = .ok (.getfield 87, 3) := by decide +kernel
theorem dX11_solves_244 : decode cX11_solves 244 = .ok (.iload_n 3, 1) := by decide +kernel
theorem dX11_solves_245 : decode cX11_solves 245 = .ok (.iaload, 1) := by decide +kernel
theorem dX11_solves_246 : decode cX11_solves 246 = .ok (.iconst (-1), 1) := by decide +kernel
theorem dX11_solves_247 : decode cX11_solves 247 = .ok (.if_icmp .eq 88, 3) := by decide +kernel
theorem dX11_solves_250 : decode cX11_solves 250 = .ok (.aload_n 0, 1) := by decide +kernel
theorem dX11_solves_251 : decode cX11_solves 251 = .ok (.getfield 90, 3) := by decide +kernel
theorem dX11_solves_254 : decode cX11_solves 254 = .ok (.iload_n 3, 1) := by decide +kernel
theorem dX11_solves_255 : decode cX11_solves 255 = .ok (.iaload, 1) := by decide +kernel
theorem dX11_solves_256 : decode cX11_solves 256 = .ok (.ifCond .le 79, 3) := by decide +kernel
theorem dX11_solves_259 : decode cX11_solves 259 = .ok (.iconst 5, 1) := by decide +kernel
theorem dX11_solves_260 : decode cX11_solves 260 = .ok (.istore 5, 2) := by decide +kernel
theorem dX11_solves_262 : decode cX11_solves 262 = .ok (.iload 5, 2) := by decide +kernel
theorem dX11_solves_264 : decode cX11_solves 264 = .ok (.iconst 1, 1) := by decide +kernel
theorem dX11_solves_265 : decode cX11_solves 265 = .ok (.if_icmp .lt 64, 3) := by decide +kernel
theorem dX11_solves_268 : decode cX11_solves 268 = .ok (.aload_n 0, 1) := by decide +kernel
theorem dX11_solves_269 : decode cX11_solves 269 = .ok (.iload 4, 2) := by decide +kernel
theorem dX11_solves_271 : decode cX11_solves 271 = .ok (.iload_n 3, 1) := by decide +kernel
theorem dX11_solves_272 : decode cX11_solves 272 = .ok (.iload 5, 2) := by decide +kernel
theorem dX11_solves_274 : decode cX11_solves 274 = .ok (.invokevirtual 333, 3) := by decide +kernel
theorem dX11_solves_277 : decode cX11_solves 277 = .ok (.istore 6, 2) := by decide +kernel
theorem dX11_solves_279 : decode cX11_solves 279 = .ok (.aload_n 0, 1) := by decide +kernel
theorem dX11_solves_280 : decode cX11_solves 280 = .ok (.getfield 93, 3) := by decide +kernel
theorem dX11_solves_283 : decode cX11_solves 283 = .ok (.iload_n 3, 1) := by decide +kernel
theorem dX11_solves_284 : decode cX11_solves 284 = .ok (.iload 6, 2) := by decide +kernel
theorem dX11_solves_286 : decode cX11_solves 286 = .ok (.ifCond .eq 8, 3) := by decide +kernel
theorem dX11_solves_289 : decode cX11_solves 289 = .ok (.iload 4, 2) := by decide +kernel
theorem dX11_solves_291 : decode cX11_solves 291 = .ok (.goto 9, 3) := by decide +kernel
theorem dX11_solves_294 : decode cX11_solves 294 = .ok (.aload_n 0, 1) := by decide +kernel
theorem dX11_solves_295 : decode cX11_solves 295 = .ok (.getfield 93, 3) := by decide +kernel
theorem dX11_solves_298 : decode cX11_solves 298 = .ok (.iload_n 3, 1) := by decide +kernel
theorem dX11_solves_299 : decode cX11_solves 299 = .ok (.iaload, 1) := by decide +kernel
theorem dX11_solves_300 : decode cX11_solves 300 = .ok (.iastore, 1) := by decide +kernel
theorem dX11_solves_301 : decode cX11_solves 301 = .ok (.aload_n 0, 1) := by decide +kernel
theorem dX11_solves_302 : decode cX11_solves 302 = .ok (.getfield 96, 3) := by decide +kernel
theorem dX11_solves_305 : decode cX11_solves 305 = .ok (.iload_n 3, 1) := by decide +kernel
theorem dX11_solves_306 : decode cX11_solves 306 = .ok (.iload 6, 2) := by decide +kernel
theorem dX11_solves_308 : decode cX11_solves 308 = .ok (.ifCond .eq 8, 3) := by decide +kernel
theorem dX11_solves_311 : decode cX11_solves 311 = .ok (.iload 5, 2) := by decide +kernel
theorem dX11_solves_313 : decode cX11_solves 313 = .ok (.goto 9, 3) := by decide +kernel
theorem dX11_solves_316 : decode cX11_solves 316 = .ok (.aload_n 0, 1) := by decide +kernel
theorem dX11_solves_317 : decode cX11_solves 317 = .ok (.getfield 96, 3) := by decide +kernel
theorem dX11_solves_320 : decode cX11_solves 320 = .ok (.iload_n 3, 1) := by decide +kernel
theorem dX11_solves_321 : decode cX11_solves 321 = .ok (.iaload, 1) := by decide +kernel
theorem dX11_solves_322 : decode cX11_solves 322 = .ok (.iastore, 1) := by decide +kernel
theorem dX11_solves_323 : decode cX11_solves 323 = .ok (.iinc 5 (-1), 3) := by decide +kernel
theorem dX11_solves_326 : decode cX11_solves 326 = .ok (.goto (-64), 3) := by decide +kernel
theorem dX11_solves_329 : decode cX11_solves 329 = .ok (.iinc 4 (-1), 3) := by decide +kernel
theorem dX11_solves_332 : decode cX11_solves 332 = .ok (.goto (-97), 3) := by decide +kernel
theorem dX11_solves_335 : decode cX11_solves 335 = .ok (.iinc 3 1, 3) := by decide +kernel
theorem dX11_solves_338 : decode cX11_solves 338 = .ok (.goto (-123), 3) := by decide +kernel
theorem dX11_solves_341 : decode cX11_solves 341 = .ok (.return_, 1) := by decide +kernel
theorem dX11_wayOf_0 : decode cX11_wayOf 0 = .ok (.iconst (-1), 1) := by decide +kernel
theorem dX11_wayOf_1 : decode cX11_wayOf 1 = .ok (.istore_n 2, 1) := by decide +kernel
theorem dX11_wayOf_2 : decode cX11_wayOf 2 = .ok (.iconst 4, 1) := by decide +kernel
theorem dX11_wayOf_3 : decode cX11_wayOf 3 = .ok (.iload_n 1, 1) := by decide +kernel
theorem dX11_wayOf_4 : decode cX11_wayOf 4 = .ok (.imul, 1) := by decide +kernel
theorem dX11_wayOf_5 : decode cX11_wayOf 5 = .ok (.istore_n 3, 1) := by decide +kernel
theorem dX11_wayOf_6 : decode cX11_wayOf 6 = .ok (.iload_n 3, 1) := by decide +kernel
theorem dX11_wayOf_7 : decode cX11_wayOf 7 = .ok (.iconst 4, 1) := by decide +kernel
theorem dX11_wayOf_8 : decode cX11_wayOf 8 = .ok (.iload_n 1, 1) := by decide +kernel
theorem dX11_wayOf_9 : decode cX11_wayOf 9 = .ok (.imul, 1) := by decide +kernel
theorem dX11_wayOf_10 : decode cX11_wayOf 10 = .ok (.iconst 4, 1) := by decide +kernel
theorem dX11_wayOf_11 : decode cX11_wayOf 11 = .ok (.iadd, 1) := by decide +kernel
theorem dX11_wayOf_12 : decode cX11_wayOf 12 = .ok (.if_icmp .ge 87, 3) := by decide +kernel
theorem dX11_wayOf_15 : decode cX11_wayOf 15 = .ok (.aload_n 0, 1) := by decide +kernel
theorem dX11_wayOf_16 : decode cX11_wayOf 16 = .ok (.getfield 87, 3) := by decide +kernel
theorem dX11_wayOf_19 : decode cX11_wayOf 19 = .ok (.iload_n 3, 1) := by decide +kernel
theorem dX11_wayOf_20 : decode cX11_wayOf 20 = .ok (.iaload, 1) := by decide +kernel
theorem dX11_wayOf_21 : decode cX11_wayOf 21 = .ok (.iconst (-1), 1) := by decide +kernel
theorem dX11_wayOf_22 : decode cX11_wayOf 22 = .ok (.if_icmp .eq 57, 3) := by decide +kernel
theorem dX11_wayOf_25 : decode cX11_wayOf 25 = .ok (.iload_n 2, 1) := by decide +kernel
theorem dX11_wayOf_26 : decode cX11_wayOf 26 = .ok (.iconst (-1), 1) := by decide +kernel
theorem dX11_wayOf_27 : decode cX11_wayOf 27 = .ok (.if_icmp .eq 48, 3) := by decide +kernel
theorem dX11_wayOf_30 : decode cX11_wayOf 30 = .ok (.aload_n 0, 1) := by decide +kernel
theorem dX11_wayOf_31 : decode cX11_wayOf 31 = .ok (.getfield 87, 3) := by decide +kernel
theorem dX11_wayOf_34 : decode cX11_wayOf 34 = .ok (.iload_n 3, 1) := by decide +kernel
theorem dX11_wayOf_35 : decode cX11_wayOf 35 = .ok (.iaload, 1) := by decide +kernel
theorem dX11_wayOf_36 : decode cX11_wayOf 36 = .ok (.aload_n 0, 1) := by decide +kernel
theorem dX11_wayOf_37 : decode cX11_wayOf 37 = .ok (.getfield 87, 3) := by decide +kernel
theorem dX11_wayOf_40 : decode cX11_wayOf 40 = .ok (.iload_n 2, 1) := by decide +kernel
theorem dX11_wayOf_41 : decode cX11_wayOf 41 = .ok (.iaload, 1) := by decide +kernel
theorem dX11_wayOf_42 : decode cX11_wayOf 42 = .ok (.if_icmp .lt 33, 3) := by decide +kernel
theorem dX11_wayOf_45 : decode cX11_wayOf 45 = .ok (.aload_n 0, 1) := by decide +kernel
theorem dX11_wayOf_46 : decode cX11_wayOf 46 = .ok (.getfield 87, 3) := by decide +kernel
theorem dX11_wayOf_49 : decode cX11_wayOf 49 = .ok (.iload_n 3, 1) := by decide +kernel
theorem dX11_wayOf_50 : decode cX11_wayOf 50 = .ok (.iaload, 1) := by decide +kernel
theorem dX11_wayOf_51 : decode cX11_wayOf 51 = .ok (.aload_n 0, 1) := by decide +kernel
theorem dX11_wayOf_52 : decode cX11_wayOf 52 = .ok (.getfield 87, 3) := by decide +kernel
theorem dX11_wayOf_55 : decode cX11_wayOf 55 = .ok (.iload_n 2, 1) := by decide +kernel
theorem dX11_wayOf_56 : decode cX11_wayOf 56 = .ok (.iaload, 1) := by decide +kernel
theorem dX11_wayOf_57 : decode cX11_wayOf 57 = .ok (.if_icmp .ne 22, 3) := by decide +kernel
theorem dX11_wayOf_60 : decode cX11_wayOf 60 = .ok (.aload_n 0, 1) := by decide +kernel
theorem dX11_wayOf_61 : decode cX11_wayOf 61 = .ok (.getfield 90, 3) := by decide +kernel
theorem dX11_wayOf_64 : decode cX11_wayOf 64 = .ok (.iload_n 3, 1) := by decide +kernel
theorem dX11_wayOf_65 : decode cX11_wayOf 65 = .ok (.iaload, 1) := by decide +kernel
theorem dX11_wayOf_66 : decode cX11_wayOf 66 = .ok (.aload_n 0, 1) := by decide +kernel
theorem dX11_wayOf_67 : decode cX11_wayOf 67 = .ok (.getfield 90, 3) := by decide +kernel
theorem dX11_wayOf_70 : decode cX11_wayOf 70 = .ok (.iload_n 2, 1) := by decide +kernel
theorem dX11_wayOf_71 : decode cX11_wayOf 71 = .ok (.iaload, 1) := by decide +kernel
theorem dX11_wayOf_72 : decode cX11_wayOf 72 = .ok (.if_icmp .ge 7, 3) := by decide +kernel
theorem dX11_wayOf_75 : decode cX11_wayOf 75 = .ok (.iconst 1, 1) := by decide +kernel
theorem dX11_wayOf_76 : decode cX11_wayOf 76 = .ok (.goto 4, 3) := by decide +kernel
theorem dX11_wayOf_79 : decode cX11_wayOf 79 = .ok (.iconst 0, 1) := by decide +kernel
theorem dX11_wayOf_80 : decode cX11_wayOf 80 = .ok (.istore 4, 2) := by decide +kernel
theorem dX11_wayOf_82 : decode cX11_wayOf 82 = .ok (.iload 4, 2) := by decide +kernel
theorem dX11_wayOf_84 : decode cX11_wayOf 84 = .ok (.ifCond .eq 7, 3) := by decide +kernel
theorem dX11_wayOf_87 : decode cX11_wayOf 87 = .ok (.iload_n 3, 1) := by decide +kernel
theorem dX11_wayOf_88 : decode cX11_wayOf 88 = .ok (.goto 4, 3) := by decide +kernel
theorem dX11_wayOf_91 : decode cX11_wayOf 91 = .ok (.iload_n 2, 1) := by decide +kernel
theorem dX11_wayOf_92 : decode cX11_wayOf 92 = .ok (.istore_n 2, 1) := by decide +kernel
theorem dX11_wayOf_93 : decode cX11_wayOf 93 = .ok (.iinc 3 1, 3) := by decide +kernel
theorem dX11_wayOf_96 : decode cX11_wayOf 96 = .ok (.goto (-90), 3) := by decide +kernel
theorem dX11_wayOf_99 : decode cX11_wayOf 99 = .ok (.iload_n 2, 1) := by decide +kernel
theorem dX11_wayOf_100 : decode cX11_wayOf 100 = .ok (.ireturn, 1) := by decide +kernel
theorem dX11_lays_0 : decode cX11_lays 0 = .ok (.aload_n 0, 1) := by decide +kernel
theorem dX11_lays_1 : decode cX11_lays 1 = .ok (.iload_n 1, 1) := by decide +kernel
theorem dX11_lays_2 : decode cX11_lays 2 = .ok (.invokevirtual 336, 3) := by decide +kernel
theorem dX11_lays_5 : decode cX11_lays 5 = .ok (.istore_n 2, 1) := by decide +kernel
theorem dX11_lays_6 : decode cX11_lays 6 = .ok (.aload_n 0, 1) := by decide +kernel
theorem dX11_lays_7 : decode cX11_lays 7 = .ok (.aload_n 0, 1) := by decide +kernel
theorem dX11_lays_8 : decode cX11_lays 8 = .ok (.getfield 90, 3) := by decide +kernel
theorem dX11_lays_11 : decode cX11_lays 11 = .ok (.iload_n 2, 1) := by decide +kernel
theorem dX11_lays_12 : decode cX11_lays 12 = .ok (.iaload, 1) := by decide +kernel
theorem dX11_lays_13 : decode cX11_lays 13 = .ok (.putfield 339, 3) := by decide +kernel
theorem dX11_lays_16 : decode cX11_lays 16 = .ok (.aload_n 0, 1) := by decide +kernel
theorem dX11_lays_17 : decode cX11_lays 17 = .ok (.getfield 339, 3) := by decide +kernel
theorem dX11_lays_20 : decode cX11_lays 20 = .ok (.istore_n 3, 1) := by decide +kernel
theorem dX11_lays_21 : decode cX11_lays 21 = .ok (.iload_n 3, 1) := by decide +kernel
theorem dX11_lays_22 : decode cX11_lays 22 = .ok (.ifCond .lt 23, 3) := by decide +kernel
theorem dX11_lays_25 : decode cX11_lays 25 = .ok (.aload_n 0, 1) := by decide +kernel
theorem dX11_lays_26 : decode cX11_lays 26 = .ok (.getfield 99, 3) := by decide +kernel
theorem dX11_lays_29 : decode cX11_lays 29 = .ok (.iload_n 3, 1) := by decide +kernel
theorem dX11_lays_30 : decode cX11_lays 30 = .ok (.iload_n 2, 1) := by decide +kernel
theorem dX11_lays_31 : decode cX11_lays 31 = .ok (.iastore, 1) := by decide +kernel
theorem dX11_lays_32 : decode cX11_lays 32 = .ok (.aload_n 0, 1) := by decide +kernel
theorem dX11_lays_33 : decode cX11_lays 33 = .ok (.getfield 93, 3) := by decide +kernel
theorem dX11_lays_36 : decode cX11_lays 36 = .ok (.iload_n 2, 1) := by decide +kernel
theorem dX11_lays_37 : decode cX11_lays 37 = .ok (.iaload, 1) := by decide +kernel
theorem dX11_lays_38 : decode cX11_lays 38 = .ok (.istore_n 2, 1) := by decide +kernel
theorem dX11_lays_39 : decode cX11_lays 39 = .ok (.iinc 3 (-1), 3) := by decide +kernel
theorem dX11_lays_42 : decode cX11_lays 42 = .ok (.goto (-21), 3) := by decide +kernel
theorem dX11_lays_45 : decode cX11_lays 45 = .ok (.return_, 1) := by decide +kernel
theorem dX11_feed_0 : decode cX11_feed 0 = .ok (.aload_n 0, 1) := by decide +kernel
theorem dX11_feed_1 : decode cX11_feed 1 = .ok (.iload_n 3, 1) := by decide +kernel
theorem dX11_feed_2 : decode cX11_feed 2 = .ok (.iconst 1, 1) := by decide +kernel
theorem dX11_feed_3 : decode cX11_feed 3 = .ok (.bipush 8, 2) := by decide +kernel
theorem dX11_feed_5 : decode cX11_feed 5 = .ok (.invokestatic 127, 3) := by decide +kernel
theorem dX11_feed_8 : decode cX11_feed 8 = .ok (.ifCond .ne 7, 3) := by decide +kernel
theorem dX11_feed_11 : decode cX11_feed 11 = .ok (.iconst 1, 1) := by decide +kernel
theorem dX11_feed_12 : decode cX11_feed 12 = .ok (.goto 22, 3) := by decide +kernel
theorem dX11_feed_15 : decode cX11_feed 15 = .ok (.aload_n 0, 1) := by decide +kernel
theorem dX11_feed_16 : decode cX11_feed 16 = .ok (.getfield 13, 3) := by decide +kernel
theorem dX11_feed_19 : decode cX11_feed 19 = .ok (.iconst 4, 1) := by decide +kernel
theorem dX11_feed_20 : decode cX11_feed 20 = .ok (.iaload, 1) := by decide +kernel
theorem dX11_feed_21 : decode cX11_feed 21 = .ok (.iload_n 3, 1) := by decide +kernel
theorem dX11_feed_22 : decode cX11_feed 22 = .ok (.iadd, 1) := by decide +kernel
theorem dX11_feed_23 : decode cX11_feed 23 = .ok (.sipush 600, 3) := by decide +kernel
theorem dX11_feed_26 : decode cX11_feed 26 = .ok (.if_icmp .le 7, 3) := by decide +kernel
theorem dX11_feed_29 : decode cX11_feed 29 = .ok (.iconst 2, 1) := by decide +kernel
theorem dX11_feed_30 : decode cX11_feed 30 = .ok (.goto 4, 3) := by decide +kernel
theorem dX11_feed_33 : decode cX11_feed 33 = .ok (.iconst 0, 1) := by decide +kernel
theorem dX11_feed_34 : decode cX11_feed 34 = .ok (.invokevirtual 342, 3) := by decide +kernel
theorem dX11_feed_37 : decode cX11_feed 37 = .ok (.ifCond .ne 5, 3) := by decide +kernel
theorem dX11_feed_40 : decode cX11_feed 40 = .ok (.iconst 0, 1) := by decide +kernel
theorem dX11_feed_41 : decode cX11_feed 41 = .ok (.ireturn, 1) := by decide +kernel
theorem dX11_feed_42 : decode cX11_feed 42 = .ok (.iconst 0, 1) := by decide +kernel
theorem dX11_feed_43 : decode cX11_feed 43 = .ok (.istore 4, 2) := by decide +kernel
theorem dX11_feed_45 : decode cX11_feed 45 = .ok (.iload 4, 2) := by decide +kernel
theorem dX11_feed_47 : decode cX11_feed 47 = .ok (.iload_n 3, 1) := by decide +kernel
theorem dX11_feed_48 : decode cX11_feed 48 = .ok (.if_icmp .ge 46, 3) := by decide +kernel
theorem dX11_feed_51 : decode cX11_feed 51 = .ok (.aload_n 0, 1) := by decide +kernel
theorem dX11_feed_52 : decode cX11_feed 52 = .ok (.getfield 7, 3) := by decide +kernel
theorem dX11_feed_55 : decode cX11_feed 55 = .ok (.sipush 2400, 3) := by decide +kernel
theorem dX11_feed_58 : decode cX11_feed 58 = .ok (.aload_n 0, 1) := by decide +kernel
theorem dX11_feed_59 : decode cX11_feed 59 = .ok (.getfield 13, 3) := by decide +kernel
theorem dX11_feed_62 : decode cX11_feed 62 = .ok (.iconst 4, 1) := by decide +kernel
theorem dX11_feed_63 : decode cX11_feed 63 = .ok (.iaload, 1) := by decide +kernel
theorem dX11_feed_64 : decode cX11_feed 64 = .ok (.iadd, 1) := by decide +kernel
theorem dX11_feed_65 : decode cX11_feed 65 = .ok (.lload_n 1, 1) := by decide +kernel
theorem dX11_feed_66 : decode cX11_feed 66 = .ok (.bipush 8, 2) := by decide +kernel
theorem dX11_feed_68 : decode cX11_feed 68 = .ok (.iload 4, 2) := by decide +kernel
theorem dX11_feed_70 : decode cX11_feed 70 = .ok (.imul, 1) := by decide +kernel
theorem dX11_feed_71 : decode cX11_feed 71 = .ok (.lshr, 1) := by decide +kernel
theorem dX11_feed_72 : decode cX11_feed 72 = .ok (.ldc2_w 294, 3) := by decide +kernel
theorem dX11_feed_75 : decode cX11_feed 75 = .ok (.land, 1) := by decide +kernel
theorem dX11_feed_76 : decode cX11_feed 76 = .ok (.l2i, 1) := by decide +kernel
theorem dX11_feed_77 : decode cX11_feed 77 = .ok (.iastore, 1) := by decide +kernel
theorem dX11_feed_78 : decode cX11_feed 78 = .ok (.aload_n 0, 1) := by decide +kernel
theorem dX11_feed_79 : decode cX11_feed 79 = .ok (.getfield 13, 3) := by decide +kernel
theorem dX11_feed_82 : decode cX11_feed 82 = .ok (.iconst 4, 1) := by decide +kernel
theorem dX11_feed_83 : decode cX11_feed 83 = .ok (.dup2, 1) := by decide +kernel
theorem dX11_feed_84 : decode cX11_feed 84 = .ok (.iaload, 1) := by decide +kernel
theorem dX11_feed_85 : decode cX11_feed 85 = .ok (.iconst 1, 1) := by decide +kernel
theorem dX11_feed_86 : decode cX11_feed 86 = .ok (.iadd, 1) := by decide +kernel
theorem dX11_feed_87 : decode cX11_feed 87 = .ok (.iastore, 1) := by decide +kernel
theorem dX11_feed_88 : decode cX11_feed 88 = .ok (.iinc 4 1, 3) := by decide +kernel
theorem dX11_feed_91 : decode cX11_feed 91 = .ok (.goto (-46), 3) := by decide +kernel
theorem dX11_feed_94 : decode cX11_feed 94 = .ok (.aload_n 0, 1) := by decide +kernel
theorem dX11_feed_95 : decode cX11_feed 95 = .ok (.getfield 13, 3) := by decide +kernel
theorem dX11_feed_98 : decode cX11_feed 98 = .ok (.iconst 4, 1) := by decide +kernel
theorem dX11_feed_99 : decode cX11_feed 99 = .ok (.iaload, 1) := by decide +kernel
theorem dX11_feed_100 : decode cX11_feed 100 = .ok (.ireturn, 1) := by decide +kernel
theorem dX11_isFile_0 : decode cX11_isFile 0 = .ok (.iload_n 0, 1) := by decide +kernel
theorem dX11_isFile_1 : decode cX11_isFile 1 = .ok (.iconst 0, 1) := by decide +kernel
theorem dX11_isFile_2 : decode cX11_isFile 2 = .ok (.iconst 3, 1) := by decide +kernel
theorem dX11_isFile_3 : decode cX11_isFile 3 = .ok (.invokestatic 127, 3) := by decide +kernel
theorem dX11_isFile_6 : decode cX11_isFile 6 = .ok (.ireturn, 1) := by decide +kernel
theorem dX11_tells_0 : decode cX11_tells 0 = .ok (.aload_n 0, 1) := by decide +kernel
theorem dX11_tells_1 : decode cX11_tells 1 = .ok (.iload_n 1, 1) := by decide +kernel
theorem dX11_tells_2 : decode cX11_tells 2 = .ok (.ifCond .eq 7, 3) := by decide +kernel
theorem dX11_tells_5 : decode cX11_tells 5 = .ok (.iconst 0, 1) := by decide +kernel
theorem dX11_tells_6 : decode cX11_tells 6 = .ok (.goto 7, 3) := by decide +kernel
theorem dX11_tells_9 : decode cX11_tells 9 = .ok (.aload_n 0, 1) := by decide +kernel
theorem dX11_tells_10 : decode cX11_tells 10 = .ok (.getfield 174, 3) := by decide +kernel
theorem dX11_tells_13 : decode cX11_tells 13 = .ok (.putfield 345, 3) := by decide +kernel
theorem dX11_tells_16 : decode cX11_tells 16 = .ok (.aload_n 0, 1) := by decide +kernel
theorem dX11_tells_17 : decode cX11_tells 17 = .ok (.iload_n 1, 1) := by decide +kernel
theorem dX11_tells_18 : decode cX11_tells 18 = .ok (.ifCond .eq 7, 3) := by decide +kernel
theorem dX11_tells_21 : decode cX11_tells 21 = .ok (.iconst 0, 1) := by decide +kernel
theorem dX11_tells_22 : decode cX11_tells 22 = .ok (.goto 7, 3) := by decide +kernel
theorem dX11_tells_25 : decode cX11_tells 25 = .ok (.aload_n 0, 1) := by decide +kernel
theorem dX11_tells_26 : decode cX11_tells 26 = .ok (.getfield 177, 3) := by decide +kernel
theorem dX11_tells_29 : decode cX11_tells 29 = .ok (.putfield 348, 3) := by decide +kernel
theorem dX11_tells_32 : decode cX11_tells 32 = .ok (.aload_n 0, 1) := by decide +kernel
theorem dX11_tells_33 : decode cX11_tells 33 = .ok (.getfield 13, 3) := by decide +kernel
theorem dX11_tells_36 : decode cX11_tells 36 = .ok (.iconst 4, 1) := by decide +kernel
theorem dX11_tells_37 : decode cX11_tells 37 = .ok (.iconst 0, 1) := by decide +kernel
theorem dX11_tells_38 : decode cX11_tells 38 = .ok (.iastore, 1) := by decide +kernel
theorem dX11_tells_39 : decode cX11_tells 39 = .ok (.return_, 1) := by decide +kernel
theorem dX11_load_0 : decode cX11_load 0 = .ok (.aload_n 0, 1) := by decide +kernel
theorem dX11_load_1 : decode cX11_load 1 = .ok (.iload_n 1, 1) := by decide +kernel
theorem dX11_load_2 : decode cX11_load 2 = .ok (.invokestatic 351, 3) := by decide +kernel
theorem dX11_load_5 : decode cX11_load 5 = .ok (.ifCond .eq 7, 3) := by decide +kernel
theorem dX11_load_8 : decode cX11_load 8 = .ok (.iconst 0, 1) := by decide +kernel
theorem dX11_load_9 : decode cX11_load 9 = .ok (.goto 4, 3) := by decide +kernel
theorem dX11_load_12 : decode cX11_load 12 = .ok (.iconst 1, 1) := by decide +kernel
theorem dX11_load_13 : decode cX11_load 13 = .ok (.invokevirtual 342, 3) := by decide +kernel
theorem dX11_load_16 : decode cX11_load 16 = .ok (.ifCond .ne 12, 3) := by decide +kernel
theorem dX11_load_19 : decode cX11_load 19 = .ok (.aload_n 0, 1) := by decide +kernel
theorem dX11_load_20 : decode cX11_load 20 = .ok (.getfield 13, 3) := by decide +kernel
theorem dX11_load_23 : decode cX11_load 23 = .ok (.iconst 4, 1) := by decide +kernel
theorem dX11_load_24 : decode cX11_load 24 = .ok (.iconst 0, 1) := by decide +kernel
theorem dX11_load_25 : decode cX11_load 25 = .ok (.iastore, 1) := by decide +kernel
theorem dX11_load_26 : decode cX11_load 26 = .ok (.iconst 0, 1) := by decide +kernel
theorem dX11_load_27 : decode cX11_load 27 = .ok (.ireturn, 1) := by decide +kernel
theorem dX11_load_28 : decode cX11_load 28 = .ok (.aload_n 0, 1) := by decide +kernel
theorem dX11_load_29 : decode cX11_load 29 = .ok (.iconst 4, 1) := by decide +kernel
theorem dX11_load_30 : decode cX11_load 30 = .ok (.invokevirtual 288, 3) := by decide +kernel
theorem dX11_load_33 : decode cX11_load 33 = .ok (.istore_n 2, 1) := by decide +kernel
theorem dX11_load_34 : decode cX11_load 34 = .ok (.iload_n 2, 1) := by decide +kernel
theorem dX11_load_35 : decode cX11_load 35 = .ok (.ifCond .eq 9, 3) := by decide +kernel
theorem dX11_load_38 : decode cX11_load 38 = .ok (.aload_n 0, 1) := by decide +kernel
theorem dX11_load_39 : decode cX11_load 39 = .ok (.iload_n 1, 1) := by decide +kernel
theorem dX11_load_40 : decode cX11_load 40 = .ok (.invokevirtual 354, 3) := by decide +kernel
theorem dX11_load_43 : decode cX11_load 43 = .ok (.istore_n 2, 1) := by decide +kernel
theorem dX11_load_44 : decode cX11_load 44 = .ok (.aload_n 0, 1) := by decide +kernel
theorem dX11_load_45 : decode cX11_load 45 = .ok (.iload_n 2, 1) := by decide +kernel
theorem dX11_load_46 : decode cX11_load 46 = .ok (.invokevirtual 357, 3) := by decide +kernel
theorem dX11_load_49 : decode cX11_load 49 = .ok (.aload_n 0, 1) := by decide +kernel
theorem dX11_load_50 : decode cX11_load 50 = .ok (.iload_n 2, 1) := by decide +kernel
theorem dX11_load_51 : decode cX11_load 51 = .ok (.ifCond .eq 7, 3) := by decide +kernel
theorem dX11_load_54 : decode cX11_load 54 = .ok (.iconst 0, 1) := by decide +kernel
theorem dX11_load_55 : decode cX11_load 55 = .ok (.goto 4, 3) := by decide +kernel
theorem dX11_load_58 : decode cX11_load 58 = .ok (.iconst 2, 1) := by decide +kernel
theorem dX11_load_59 : decode cX11_load 59 = .ok (.invokevirtual 342, 3) := by decide +kernel
theorem dX11_load_62 : decode cX11_load 62 = .ok (.ifCond .eq 12, 3) := by decide +kernel
theorem dX11_load_65 : decode cX11_load 65 = .ok (.aload_n 0, 1) := by decide +kernel
theorem dX11_load_66 : decode cX11_load 66 = .ok (.getfield 16, 3) := by decide +kernel
theorem dX11_load_69 : decode cX11_load 69 = .ok (.iload_n 1, 1) := by decide +kernel
theorem dX11_load_70 : decode cX11_load 70 = .ok (.iaload, 1) := by decide +kernel
theorem dX11_load_71 : decode cX11_load 71 = .ok (.goto 4, 3) := by decide +kernel
theorem dX11_load_74 : decode cX11_load 74 = .ok (.iconst 0, 1) := by decide +kernel
theorem dX11_load_75 : decode cX11_load 75 = .ok (.ireturn, 1) := by decide +kernel
theorem dX11_isTaken_0 : decode cX11_isTaken 0 = .ok (.aload_n 0, 1) := by decide +kernel
theorem dX11_isTaken_1 : decode cX11_isTaken 1 = .ok (.getfield 13, 3) := by decide +kernel
theorem dX11_isTaken_4 : decode cX11_isTaken 4 = .ok (.iload_n 1, 1) := by decide +kernel
theorem dX11_isTaken_5 : decode cX11_isTaken 5 = .ok (.iaload, 1) := by decide +kernel
theorem dX11_isTaken_6 : decode cX11_isTaken 6 = .ok (.istore_n 2, 1) := by decide +kernel
theorem dX11_isTaken_7 : decode cX11_isTaken 7 = .ok (.iconst 0, 1) := by decide +kernel
theorem dX11_isTaken_8 : decode cX11_isTaken 8 = .ok (.istore_n 3, 1) := by decide +kernel
theorem dX11_isTaken_9 : decode cX11_isTaken 9 = .ok (.iload_n 3, 1) := by decide +kernel
theorem dX11_isTaken_10 : decode cX11_isTaken 10 = .ok (.iload_n 2, 1) := by decide +kernel
theorem dX11_isTaken_11 : decode cX11_isTaken 11 = .ok (.if_icmp .ge 27, 3) := by decide +kernel
theorem dX11_isTaken_14 : decode cX11_isTaken 14 = .ok (.aload_n 0, 1) := by decide +kernel
theorem dX11_isTaken_15 : decode cX11_isTaken 15 = .ok (.getfield 19, 3) := by decide +kernel
theorem dX11_isTaken_18 : decode cX11_isTaken 18 = .ok (.iload_n 3, 1) := by decide +kernel
theorem dX11_isTaken_19 : decode cX11_isTaken 19 = .ok (.aload_n 0, 1) := by decide +kernel
theorem dX11_isTaken_20 : decode cX11_isTaken 20 = .ok (.getfield 7, 3) := by decide +kernel
theorem dX11_isTaken_23 : decode cX11_isTaken 23 = .ok (.sipush 600, 3) := by decide +kernel
theorem dX11_isTaken_26 : decode cX11_isTaken 26 = .ok (.iload_n 1, 1) := by decide +kernel
theorem dX11_isTaken_27 : decode cX11_isTaken 27 = .ok (.imul, 1) := by decide +kernel
theorem dX11_isTaken_28 : decode cX11_isTaken 28 = .ok (.iload_n 3, 1) := by decide +kernel
theorem dX11_isTaken_29 : decode cX11_isTaken 29 = .ok (.iadd, 1) := by decide +kernel
theorem dX11_isTaken_30 : decode cX11_isTaken 30 = .ok (.iaload, 1) := by decide +kernel
theorem dX11_isTaken_31 : decode cX11_isTaken 31 = .ok (.iastore, 1) := by decide +kernel
theorem dX11_isTaken_32 : decode cX11_isTaken 32 = .ok (.iinc 3 1, 3) := by decide +kernel
theorem dX11_isTaken_35 : decode cX11_isTaken 35 = .ok (.goto (-26), 3) := by decide +kernel
theorem dX11_isTaken_38 : decode cX11_isTaken 38 = .ok (.iconst 0, 1) := by decide +kernel
theorem dX11_isTaken_39 : decode cX11_isTaken 39 = .ok (.istore_n 3, 1) := by decide +kernel
theorem dX11_isTaken_40 : decode cX11_isTaken 40 = .ok (.iload_n 3, 1) := by decide +kernel
theorem dX11_isTaken_41 : decode cX11_isTaken 41 = .ok (.aload_n 0, 1) := by decide +kernel
theorem dX11_isTaken_42 : decode cX11_isTaken 42 = .ok (.getfield 13, 3) := by decide +kernel
theorem dX11_isTaken_45 : decode cX11_isTaken 45 = .ok (.iconst 4, 1) := by decide +kernel
theorem dX11_isTaken_46 : decode cX11_isTaken 46 = .ok (.iaload, 1) := by decide +kernel
theorem dX11_isTaken_47 : decode cX11_isTaken 47 = .ok (.if_icmp .ge 31, 3) := by decide +kernel
theorem dX11_isTaken_50 : decode cX11_isTaken 50 = .ok (.aload_n 0, 1) := by decide +kernel
theorem dX11_isTaken_51 : decode cX11_isTaken 51 = .ok (.getfield 7, 3) := by decide +kernel
theorem dX11_isTaken_54 : decode cX11_isTaken 54 = .ok (.sipush 600, 3) := by decide +kernel
theorem dX11_isTaken_57 : decode cX11_isTaken 57 = .ok (.iload_n 1, 1) := by decide +kernel
theorem dX11_isTaken_58 : decode cX11_isTaken 58 = .ok (.imul, 1) := by decide +kernel
theorem dX11_isTaken_59 : decode cX11_isTaken 59 = .ok (.iload_n 3, 1) := by decide +kernel
theorem dX11_isTaken_60 : decode cX11_isTaken 60 = .ok (.iadd, 1) := by decide +kernel
theorem dX11_isTaken_61 : decode cX11_isTaken 61 = .ok (.aload_n 0, 1) := by decide +kernel
theorem dX11_isTaken_62 : decode cX11_isTaken 62 = .ok (.getfield 7, 3) := by decide +kernel
theorem dX11_isTaken_65 : decode cX11_isTaken 65 = .ok (.sipush 2400, 3) := by decide +kernel
theorem dX11_isTaken_68 : decode cX11_isTaken 68 = .ok (.iload_n 3, 1) := by decide +kernel
theorem dX11_isTaken_69 : decode cX11_isTaken 69 = .ok (.iadd, 1) := by decide +kernel
theorem dX11_isTaken_70 : decode cX11_isTaken 70 = .ok (.iaload, 1) := by decide +kernel
theorem dX11_isTaken_71 : decode cX11_isTaken 71 = .ok (.iastore, 1) := by decide +kernel
theorem dX11_isTaken_72 : decode cX11_isTaken 72 = .ok (.iinc 3 1, 3) := by decide +kernel
theorem dX11_isTaken_75 : decode cX11_isTaken 75 = .ok (.goto (-35), 3) := by decide +kernel
theorem dX11_isTaken_78 : decode cX11_isTaken 78 = .ok (.aload_n 0, 1) := by decide +kernel
theorem dX11_isTaken_79 : decode cX11_isTaken 79 = .ok (.getfield 13, 3) := by decide +kernel
theorem dX11_isTaken_82 : decode cX11_isTaken 82 = .ok (.iload_n 1, 1) := by decide +kernel
theorem dX11_isTaken_83 : decode cX11_isTaken 83 = .ok (.aload_n 0, 1) := by decide +kernel
theorem dX11_isTaken_84 : decode cX11_isTaken 84 = .ok (.getfield 13, 3) := by decide +kernel
theorem dX11_isTaken_87 : decode cX11_isTaken 87 = .ok (.iconst 4, 1) := by decide +kernel
theorem dX11_isTaken_88 : decode cX11_isTaken 88 = .ok (.iaload, 1) := by decide +kernel
theorem dX11_isTaken_89 : decode cX11_isTaken 89 = .ok (.iastore, 1) := by decide +kernel
theorem dX11_isTaken_90 : decode cX11_isTaken 90 = .ok (.aload_n 0, 1) := by decide +kernel
theorem dX11_isTaken_91 : decode cX11_isTaken 91 = .ok (.invokevirtual 109, 3) := by decide +kernel
theorem dX11_isTaken_94 : decode cX11_isTaken 94 = .ok (.aload_n 0, 1) := by decide +kernel
theorem dX11_isTaken_95 : decode cX11_isTaken 95 = .ok (.getfield 275, 3) := by decide +kernel
theorem dX11_isTaken_98 : decode cX11_isTaken 98 = .ok (.ifCond .ne 5, 3) := by decide +kernel
theorem dX11_isTaken_101 : decode cX11_isTaken 101 = .ok (.iconst 1, 1) := by decide +kernel
theorem dX11_isTaken_102 : decode cX11_isTaken 102 = .ok (.ireturn, 1) := by decide +kernel
theorem dX11_isTaken_103 : decode cX11_isTaken 103 = .ok (.iconst 0, 1) := by decide +kernel
theorem dX11_isTaken_104 : decode cX11_isTaken 104 = .ok (.istore_n 3, 1) := by decide +kernel
theorem dX11_isTaken_105 : decode cX11_isTaken 105 = .ok (.iload_n 3, 1) := by decide +kernel
theorem dX11_isTaken_106 : decode cX11_isTaken 106 = .ok (.iload_n 2, 1) := by decide +kernel
theorem dX11_isTaken_107 : decode cX11_isTaken 107 = .ok (.if_icmp .ge 27, 3) := by decide +kernel
theorem dX11_isTaken_110 : decode cX11_isTaken 110 = .ok (.aload_n 0, 1) := by decide +kernel
theorem dX11_isTaken_111 : decode cX11_isTaken 111 = .ok (.getfield 7, 3) := by decide +kernel
theorem dX11_isTaken_114 : decode cX11_isTaken 114 = .ok (.sipush 600, 3) := by decide +kernel
theorem dX11_isTaken_117 : decode cX11_isTaken 117 = .ok (.iload_n 1, 1) := by decide +kernel
theorem dX11_isTaken_118 : decode cX11_isTaken 118 = .ok (.imul, 1) := by decide +kernel
theorem dX11_isTaken_119 : decode cX11_isTaken 119 = .ok (.iload_n 3, 1) := by decide +kernel
theorem dX11_isTaken_120 : decode cX11_isTaken 120 = .ok (.iadd, 1) := by decide +kernel
theorem dX11_isTaken_121 : decode cX11_isTaken 121 = .ok (.aload_n 0, 1) := by decide +kernel
theorem dX11_isTaken_122 : decode cX11_isTaken 122 = .ok (.getfield 19, 3) := by decide +kernel
theorem dX11_isTaken_125 : decode cX11_isTaken 125 = .ok (.iload_n 3, 1) := by decide +kernel
theorem dX11_isTaken_126 : decode cX11_isTaken 126 = .ok (.iaload, 1) := by decide +kernel
theorem dX11_isTaken_127 : decode cX11_isTaken 127 = .ok (.iastore, 1) := by decide +kernel
theorem dX11_isTaken_128 : decode cX11_isTaken 128 = .ok (.iinc 3 1, 3) := by decide +kernel
theorem dX11_isTaken_131 : decode cX11_isTaken 131 = .ok (.goto (-26), 3) := by decide +kernel
theorem dX11_isTaken_134 : decode cX11_isTaken 134 = .ok (.aload_n 0, 1) := by decide +kernel
theorem dX11_isTaken_135 : decode cX11_isTaken 135 = .ok (.getfield 13, 3) := by decide +kernel
theorem dX11_isTaken_138 : decode cX11_isTaken 138 = .ok (.iload_n 1, 1) := by decide +kernel
theorem dX11_isTaken_139 : decode cX11_isTaken 139 = .ok (.iload_n 2, 1) := by decide +kernel
theorem dX11_isTaken_140 : decode cX11_isTaken 140 = .ok (.iastore, 1) := by decide +kernel
theorem dX11_isTaken_141 : decode cX11_isTaken 141 = .ok (.aload_n 0, 1) := by decide +kernel
theorem dX11_isTaken_142 : decode cX11_isTaken 142 = .ok (.invokevirtual 109, 3) := by decide +kernel
theorem dX11_isTaken_145 : decode cX11_isTaken 145 = .ok (.aload_n 0, 1) := by decide +kernel
theorem dX11_isTaken_146 : decode cX11_isTaken 146 = .ok (.bipush 6, 2) := by decide +kernel
theorem dX11_isTaken_148 : decode cX11_isTaken 148 = .ok (.aload_n 0, 1) := by decide +kernel
theorem dX11_isTaken_149 : decode cX11_isTaken 149 = .ok (.getfield 13, 3) := by decide +kernel
theorem dX11_isTaken_152 : decode cX11_isTaken 152 = .ok (.iconst 4, 1) := by decide +kernel
theorem dX11_isTaken_153 : decode cX11_isTaken 153 = .ok (.iaload, 1) := by decide +kernel
theorem dX11_isTaken_154 : decode cX11_isTaken 154 = .ok (.invokevirtual 180, 3) := by decide +kernel
theorem dX11_isTaken_157 : decode cX11_isTaken 157 = .ok (.ireturn, 1) := by decide +kernel
theorem dX11_drop_0 : decode cX11_drop 0 = .ok (.aload_n 0, 1) := by decide +kernel
theorem dX11_drop_1 : decode cX11_drop 1 = .ok (.iload_n 1, 1) := by decide +kernel
theorem dX11_drop_2 : decode cX11_drop 2 = .ok (.invokestatic 351, 3) := by decide +kernel
theorem dX11_drop_5 : decode cX11_drop 5 = .ok (.ifCond .eq 7, 3) := by decide +kernel
theorem dX11_drop_8 : decode cX11_drop 8 = .ok (.iconst 0, 1) := by decide +kernel
theorem dX11_drop_9 : decode cX11_drop 9 = .ok (.goto 4, 3) := by decide +kernel
theorem dX11_drop_12 : decode cX11_drop 12 = .ok (.iconst 1, 1) := by decide +kernel
theorem dX11_drop_13 : decode cX11_drop 13 = .ok (.invokevirtual 342, 3) := by decide +kernel
theorem dX11_drop_16 : decode cX11_drop 16 = .ok (.ifCond .ne 5, 3) := by decide +kernel
theorem dX11_drop_19 : decode cX11_drop 19 = .ok (.iconst 0, 1) := by decide +kernel
theorem dX11_drop_20 : decode cX11_drop 20 = .ok (.ireturn, 1) := by decide +kernel
theorem dX11_drop_21 : decode cX11_drop 21 = .ok (.aload_n 0, 1) := by decide +kernel
theorem dX11_drop_22 : decode cX11_drop 22 = .ok (.getfield 16, 3) := by decide +kernel
theorem dX11_drop_25 : decode cX11_drop 25 = .ok (.iload_n 1, 1) := by decide +kernel
theorem dX11_drop_26 : decode cX11_drop 26 = .ok (.iaload, 1) := by decide +kernel
theorem dX11_drop_27 : decode cX11_drop 27 = .ok (.istore_n 2, 1) := by decide +kernel
theorem dX11_drop_28 : decode cX11_drop 28 = .ok (.aload_n 0, 1) := by decide +kernel
theorem dX11_drop_29 : decode cX11_drop 29 = .ok (.getfield 13, 3) := by decide +kernel
theorem dX11_drop_32 : decode cX11_drop 32 = .ok (.iload_n 1, 1) := by decide +kernel
theorem dX11_drop_33 : decode cX11_drop 33 = .ok (.iconst 0, 1) := by decide +kernel
theorem dX11_drop_34 : decode cX11_drop 34 = .ok (.iastore, 1) := by decide +kernel
theorem dX11_drop_35 : decode cX11_drop 35 = .ok (.aload_n 0, 1) := by decide +kernel
theorem dX11_drop_36 : decode cX11_drop 36 = .ok (.invokevirtual 109, 3) := by decide +kernel
theorem dX11_drop_39 : decode cX11_drop 39 = .ok (.iload_n 2, 1) := by decide +kernel
theorem dX11_drop_40 : decode cX11_drop 40 = .ok (.ireturn, 1) := by decide +kernel
theorem dX11_value_0 : decode cX11_value 0 = .ok (.aload_n 0, 1) := by decide +kernel
theorem dX11_value_1 : decode cX11_value 1 = .ok (.iconst 4, 1) := by decide +kernel
theorem dX11_value_2 : decode cX11_value 2 = .ok (.putfield 124, 3) := by decide +kernel
theorem dX11_value_5 : decode cX11_value 5 = .ok (.aload_n 0, 1) := by decide +kernel
theorem dX11_value_6 : decode cX11_value 6 = .ok (.iconst 0, 1) := by decide +kernel
theorem dX11_value_7 : decode cX11_value 7 = .ok (.putfield 138, 3) := by decide +kernel
theorem dX11_value_10 : decode cX11_value 10 = .ok (.aload_n 0, 1) := by decide +kernel
theorem dX11_value_11 : decode cX11_value 11 = .ok (.iconst 0, 1) := by decide +kernel
theorem dX11_value_12 : decode cX11_value 12 = .ok (.putfield 174, 3) := by decide +kernel
theorem dX11_value_15 : decode cX11_value 15 = .ok (.aload_n 0, 1) := by decide +kernel
theorem dX11_value_16 : decode cX11_value 16 = .ok (.iconst 0, 1) := by decide +kernel
theorem dX11_value_17 : decode cX11_value 17 = .ok (.putfield 177, 3) := by decide +kernel
theorem dX11_value_20 : decode cX11_value 20 = .ok (.aload_n 0, 1) := by decide +kernel
theorem dX11_value_21 : decode cX11_value 21 = .ok (.invokevirtual 201, 3) := by decide +kernel
theorem dX11_value_24 : decode cX11_value 24 = .ok (.aload_n 0, 1) := by decide +kernel
theorem dX11_value_25 : decode cX11_value 25 = .ok (.invokevirtual 212, 3) := by decide +kernel
theorem dX11_value_28 : decode cX11_value 28 = .ok (.ifCond .eq 22, 3) := by decide +kernel
theorem dX11_value_31 : decode cX11_value 31 = .ok (.aload_n 0, 1) := by decide +kernel
theorem dX11_value_32 : decode cX11_value 32 = .ok (.getfield 161, 3) := by decide +kernel
theorem dX11_value_35 : decode cX11_value 35 = .ok (.ifCond .eq 11, 3) := by decide +kernel
theorem dX11_value_38 : decode cX11_value 38 = .ok (.aload_n 0, 1) := by decide +kernel
theorem dX11_value_39 : decode cX11_value 39 = .ok (.iconst 1, 1) := by decide +kernel
theorem dX11_value_40 : decode cX11_value 40 = .ok (.invokevirtual 187, 3) := by decide +kernel
theorem dX11_value_43 : decode cX11_value 43 = .ok (.ifCond .eq 7, 3) := by decide +kernel
theorem dX11_value_46 : decode cX11_value 46 = .ok (.iconst 1, 1) := by decide +kernel
theorem dX11_value_47 : decode cX11_value 47 = .ok (.goto 4, 3) := by decide +kernel
theorem dX11_value_50 : decode cX11_value 50 = .ok (.iconst 0, 1) := by decide +kernel
theorem dX11_value_51 : decode cX11_value 51 = .ok (.istore_n 1, 1) := by decide +kernel
theorem dX11_value_52 : decode cX11_value 52 = .ok (.aload_n 0, 1) := by decide +kernel
theorem dX11_value_53 : decode cX11_value 53 = .ok (.iload_n 1, 1) := by decide +kernel
theorem dX11_value_54 : decode cX11_value 54 = .ok (.invokevirtual 357, 3) := by decide +kernel
theorem dX11_value_57 : decode cX11_value 57 = .ok (.aload_n 0, 1) := by decide +kernel
theorem dX11_value_58 : decode cX11_value 58 = .ok (.iload_n 1, 1) := by decide +kernel
theorem dX11_value_59 : decode cX11_value 59 = .ok (.ifCond .eq 7, 3) := by decide +kernel
theorem dX11_value_62 : decode cX11_value 62 = .ok (.iconst 0, 1) := by decide +kernel
theorem dX11_value_63 : decode cX11_value 63 = .ok (.goto 4, 3) := by decide +kernel
theorem dX11_value_66 : decode cX11_value 66 = .ok (.iconst 1, 1) := by decide +kernel
theorem dX11_value_67 : decode cX11_value 67 = .ok (.invokevirtual 342, 3) := by decide +kernel
theorem dX11_value_70 : decode cX11_value 70 = .ok (.ifCond .eq 10, 3) := by decide +kernel
theorem dX11_value_73 : decode cX11_value 73 = .ok (.aload_n 0, 1) := by decide +kernel
theorem dX11_value_74 : decode cX11_value 74 = .ok (.getfield 184, 3) := by decide +kernel
theorem dX11_value_77 : decode cX11_value 77 = .ok (.goto 4, 3) := by decide +kernel
theorem dX11_value_80 : decode cX11_value 80 = .ok (.iconst 0, 1) := by decide +kernel
theorem dX11_value_81 : decode cX11_value 81 = .ok (.ireturn, 1) := by decide +kernel
theorem dX11_fault_0 : decode cX11_fault 0 = .ok (.aload_n 0, 1) := by decide +kernel
theorem dX11_fault_1 : decode cX11_fault 1 = .ok (.iconst 0, 1) := by decide +kernel
theorem dX11_fault_2 : decode cX11_fault 2 = .ok (.putfield 120, 3) := by decide +kernel
theorem dX11_fault_5 : decode cX11_fault 5 = .ok (.iload_n 1, 1) := by decide +kernel
theorem dX11_fault_6 : decode cX11_fault 6 = .ok (.ifCond .eq 10, 3) := by decide +kernel
theorem dX11_fault_9 : decode cX11_fault 9 = .ok (.aload_n 0, 1) := by decide +kernel
theorem dX11_fault_10 : decode cX11_fault 10 = .ok (.getfield 348, 3) := by decide +kernel
theorem dX11_fault_13 : decode cX11_fault 13 = .ok (.goto 7, 3) := by decide +kernel
theorem dX11_fault_16 : decode cX11_fault 16 = .ok (.aload_n 0, 1) := by decide +kernel
theorem dX11_fault_17 : decode cX11_fault 17 = .ok (.getfield 345, 3) := by decide +kernel
theorem dX11_fault_20 : decode cX11_fault 20 = .ok (.ireturn, 1) := by decide +kernel
theorem dX11_taped_0 : decode cX11_taped 0 = .ok (.aload_n 0, 1) := by decide +kernel
theorem dX11_taped_1 : decode cX11_taped 1 = .ok (.iconst 4, 1) := by decide +kernel
theorem dX11_taped_2 : decode cX11_taped 2 = .ok (.putfield 124, 3) := by decide +kernel
theorem dX11_taped_5 : decode cX11_taped 5 = .ok (.aload_n 0, 1) := by decide +kernel
theorem dX11_taped_6 : decode cX11_taped 6 = .ok (.getfield 13, 3) := by decide +kernel
theorem dX11_taped_9 : decode cX11_taped 9 = .ok (.iconst 4, 1) := by decide +kernel
theorem dX11_taped_10 : decode cX11_taped 10 = .ok (.iaload, 1) := by decide +kernel
theorem dX11_taped_11 : decode cX11_taped 11 = .ok (.istore_n 1, 1) := by decide +kernel
theorem dX11_taped_12 : decode cX11_taped 12 = .ok (.lconst 0, 1) := by decide +kernel
theorem dX11_taped_13 : decode cX11_taped 13 = .ok (.lstore_n 2, 1) := by decide +kernel
theorem dX11_taped_14 : decode cX11_taped 14 = .ok (.iload_n 1, 1) := by decide +kernel
theorem dX11_taped_15 : decode cX11_taped 15 = .ok (.iconst 1, 1) := by decide +kernel
theorem dX11_taped_16 : decode cX11_taped 16 = .ok (.bipush 8, 2) := by decide +kernel
theorem dX11_taped_18 : decode cX11_taped 18 = .ok (.invokestatic 127, 3) := by decide +kernel
theorem dX11_taped_21 : decode cX11_taped 21 = .ok (.ifCond .eq 28, 3) := by decide +kernel
theorem dX11_taped_24 : decode cX11_taped 24 = .ok (.aload_n 0, 1) := by decide +kernel
theorem dX11_taped_25 : decode cX11_taped 25 = .ok (.iconst 0, 1) := by decide +kernel
theorem dX11_taped_26 : decode cX11_taped 26 = .ok (.invokevirtual 141, 3) := by decide +kernel
theorem dX11_taped_29 : decode cX11_taped 29 = .ok (.invokestatic 131, 3) := by decide +kernel
theorem dX11_taped_32 : decode cX11_taped 32 = .ok (.ifCond .ne 13, 3) := by decide +kernel
theorem dX11_taped_35 : decode cX11_taped 35 = .ok (.aload_n 0, 1) := by decide +kernel
theorem dX11_taped_36 : decode cX11_taped 36 = .ok (.iconst 0, 1) := by decide +kernel
theorem dX11_taped_37 : decode cX11_taped 37 = .ok (.invokevirtual 141, 3) := by decide +kernel
theorem dX11_taped_40 : decode cX11_taped 40 = .ok (.bipush 46, 2) := by decide +kernel
theorem dX11_taped_42 : decode cX11_taped 42 = .ok (.if_icmp .ne 7, 3) := by decide +kernel
theorem dX11_taped_45 : decode cX11_taped 45 = .ok (.iconst 1, 1) := by decide +kernel
theorem dX11_taped_46 : decode cX11_taped 46 = .ok (.goto 4, 3) := by decide +kernel
theorem dX11_taped_49 : decode cX11_taped 49 = .ok (.iconst 0, 1) := by decide +kernel
theorem dX11_taped_50 : decode cX11_taped 50 = .ok (.istore 4, 2) := by decide +kernel
theorem dX11_taped_52 : decode cX11_taped 52 = .ok (.iconst 0, 1) := by decide +kernel
theorem dX11_taped_53 : decode cX11_taped 53 = .ok (.istore 5, 2) := by decide +kernel
theorem dX11_taped_55 : decode cX11_taped 55 = .ok (.iload 5, 2) := by decide +kernel
theorem dX11_taped_57 : decode cX11_taped 57 = .ok (.iload_n 1, 1) := by decide +kernel
theorem dX11_taped_58 : decode cX11_taped 58 = .ok (.if_icmp .ge 41, 3) := by decide +kernel
theorem dX11_taped_61 : decode cX11_taped 61 = .ok (.iload 4, 2) := by decide +kernel
theorem dX11_taped_63 : decode cX11_taped 63 = .ok (.ifCond .eq 36, 3) := by decide +kernel
theorem dX11_taped_66 : decode cX11_taped 66 = .ok (.aload_n 0, 1) := by decide +kernel
theorem dX11_taped_67 : decode cX11_taped 67 = .ok (.iload 5, 2) := by decide +kernel
theorem dX11_taped_69 : decode cX11_taped 69 = .ok (.invokevirtual 141, 3) := by decide +kernel
theorem dX11_taped_72 : decode cX11_taped 72 = .ok (.invokestatic 164, 3) := by decide +kernel
theorem dX11_taped_75 : decode cX11_taped 75 = .ok (.istore 4, 2) := by decide +kernel
theorem dX11_taped_77 : decode cX11_taped 77 = .ok (.lload_n 2, 1) := by decide +kernel
theorem dX11_taped_78 : decode cX11_taped 78 = .ok (.aload_n 0, 1) := by decide +kernel
theorem dX11_taped_79 : decode cX11_taped 79 = .ok (.iload 5, 2) := by decide +kernel
theorem dX11_taped_81 : decode cX11_taped 81 = .ok (.invokevirtual 141, 3) := by decide +kernel
theorem dX11_taped_84 : decode cX11_taped 84 = .ok (.i2l, 1) := by decide +kernel
theorem dX11_taped_85 : decode cX11_taped 85 = .ok (.bipush 8, 2) := by decide +kernel
theorem dX11_taped_87 : decode cX11_taped 87 = .ok (.iload 5, 2) := by decide +kernel
theorem dX11_taped_89 : decode cX11_taped 89 = .ok (.imul, 1) := by decide +kernel
theorem dX11_taped_90 : decode cX11_taped 90 = .ok (.lshl, 1) := by decide +kernel
theorem dX11_taped_91 : decode cX11_taped 91 = .ok (.lor, 1) := by decide +kernel
theorem dX11_taped_92 : decode cX11_taped 92 = .ok (.lstore_n 2, 1) := by decide +kernel
theorem dX11_taped_93 : decode cX11_taped 93 = .ok (.iinc 5 1, 3) := by decide +kernel
theorem dX11_taped_96 : decode cX11_taped 96 = .ok (.goto (-41), 3) := by decide +kernel
theorem dX11_taped_99 : decode cX11_taped 99 = .ok (.iload 4, 2) := by decide +kernel
theorem dX11_taped_101 : decode cX11_taped 101 = .ok (.ifCond .eq 7, 3) := by decide +kernel
theorem dX11_taped_104 : decode cX11_taped 104 = .ok (.lload_n 2, 1) := by decide +kernel
theorem dX11_taped_105 : decode cX11_taped 105 = .ok (.goto 4, 3) := by decide +kernel
theorem dX11_taped_108 : decode cX11_taped 108 = .ok (.lconst 0, 1) := by decide +kernel
theorem dX11_taped_109 : decode cX11_taped 109 = .ok (.lreturn, 1) := by decide +kernel
theorem dX11_setHome_0 : decode cX11_setHome 0 = .ok (.aload_n 0, 1) := by decide +kernel
theorem dX11_setHome_1 : decode cX11_setHome 1 = .ok (.invokevirtual 361, 3) := by decide +kernel
theorem dX11_setHome_4 : decode cX11_setHome 4 = .ok (.lstore_n 1, 1) := by decide +kernel
theorem dX11_setHome_5 : decode cX11_setHome 5 = .ok (.aload_n 0, 1) := by decide +kernel
theorem dX11_setHome_6 : decode cX11_setHome 6 = .ok (.getfield 13, 3) := by decide +kernel
theorem dX11_setHome_9 : decode cX11_setHome 9 = .ok (.iconst 4, 1) := by decide +kernel
theorem dX11_setHome_10 : decode cX11_setHome 10 = .ok (.iconst 0, 1) := by decide +kernel
theorem dX11_setHome_11 : decode cX11_setHome 11 = .ok (.iastore, 1) := by decide +kernel
theorem dX11_setHome_12 : decode cX11_setHome 12 = .ok (.aload_n 0, 1) := by decide +kernel
theorem dX11_setHome_13 : decode cX11_setHome 13 = .ok (.lload_n 1, 1) := by decide +kernel
theorem dX11_setHome_14 : decode cX11_setHome 14 = .ok (.lconst 0, 1) := by decide +kernel
theorem dX11_setHome_15 : decode cX11_setHome 15 = .ok (.lcmp, 1) := by decide +kernel
theorem dX11_setHome_16 : decode cX11_setHome 16 = .ok (.ifCond .ne 7, 3) := by decide +kernel
theorem dX11_setHome_19 : decode cX11_setHome 19 = .ok (.iconst 1, 1) := by decide +kernel
theorem dX11_setHome_20 : decode cX11_setHome 20 = .ok (.goto 4, 3) := by decide +kernel
theorem dX11_setHome_23 : decode cX11_setHome 23 = .ok (.iconst 0, 1) := by decide +kernel
theorem dX11_setHome_24 : decode cX11_setHome 24 = .ok (.invokevirtual 342, 3) := by decide +kernel
theorem dX11_setHome_27 : decode cX11_setHome 27 = .ok (.ifCond .ne 5, 3) := by decide +kernel
theorem dX11_setHome_30 : decode cX11_setHome 30 = .ok (.iconst 0, 1) := by decide +kernel
theorem dX11_setHome_31 : decode cX11_setHome 31 = .ok (.ireturn, 1) := by decide +kernel
theorem dX11_setHome_32 : decode cX11_setHome 32 = .ok (.aload_n 0, 1) := by decide +kernel
theorem dX11_setHome_33 : decode cX11_setHome 33 = .ok (.lload_n 1, 1) := by decide +kernel
theorem dX11_setHome_34 : decode cX11_setHome 34 = .ok (.putfield 365, 3) := by decide +kernel
theorem dX11_setHome_37 : decode cX11_setHome 37 = .ok (.aload_n 0, 1) := by decide +kernel
theorem dX11_setHome_38 : decode cX11_setHome 38 = .ok (.invokevirtual 291, 3) := by decide +kernel
theorem dX11_setHome_41 : decode cX11_setHome 41 = .ok (.aload_n 0, 1) := by decide +kernel
theorem dX11_setHome_42 : decode cX11_setHome 42 = .ok (.invokevirtual 320, 3) := by decide +kernel
theorem dX11_setHome_45 : decode cX11_setHome 45 = .ok (.ireturn, 1) := by decide +kernel
theorem dX11_homeNode_0 : decode cX11_homeNode 0 = .ok (.aload_n 0, 1) := by decide +kernel
theorem dX11_homeNode_1 : decode cX11_homeNode 1 = .ok (.getfield 365, 3) := by decide +kernel
theorem dX11_homeNode_4 : decode cX11_homeNode 4 = .ok (.lconst 0, 1) := by decide +kernel
theorem dX11_homeNode_5 : decode cX11_homeNode 5 = .ok (.lcmp, 1) := by decide +kernel
theorem dX11_homeNode_6 : decode cX11_homeNode 6 = .ok (.ifCond .ne 7, 3) := by decide +kernel
theorem dX11_homeNode_9 : decode cX11_homeNode 9 = .ok (.iconst (-1), 1) := by decide +kernel
theorem dX11_homeNode_10 : decode cX11_homeNode 10 = .ok (.goto 12, 3) := by decide +kernel
theorem dX11_homeNode_13 : decode cX11_homeNode 13 = .ok (.aload_n 0, 1) := by decide +kernel
theorem dX11_homeNode_14 : decode cX11_homeNode 14 = .ok (.aload_n 0, 1) := by decide +kernel
theorem dX11_homeNode_15 : decode cX11_homeNode 15 = .ok (.getfield 365, 3) := by decide +kernel
theorem dX11_homeNode_18 : decode cX11_homeNode 18 = .ok (.iconst (-1), 1) := by decide +kernel
theorem dX11_homeNode_19 : decode cX11_homeNode 19 = .ok (.invokevirtual 281, 3) := by decide +kernel
theorem dX11_homeNode_22 : decode cX11_homeNode 22 = .ok (.ireturn, 1) := by decide +kernel
theorem dX11_home_0 : decode cX11_home 0 = .ok (.aload_n 0, 1) := by decide +kernel
theorem dX11_home_1 : decode cX11_home 1 = .ok (.iconst 0, 1) := by decide +kernel
theorem dX11_home_2 : decode cX11_home 2 = .ok (.putfield 120, 3) := by decide +kernel
theorem dX11_home_5 : decode cX11_home 5 = .ok (.aload_n 0, 1) := by decide +kernel
theorem dX11_home_6 : decode cX11_home 6 = .ok (.invokevirtual 320, 3) := by decide +kernel
theorem dX11_home_9 : decode cX11_home 9 = .ok (.ireturn, 1) := by decide +kernel
theorem dX11_lookUp_0 : decode cX11_lookUp 0 = .ok (.aload_n 0, 1) := by decide +kernel
theorem dX11_lookUp_1 : decode cX11_lookUp 1 = .ok (.iconst 0, 1) := by decide +kernel
theorem dX11_lookUp_2 : decode cX11_lookUp 2 = .ok (.putfield 120, 3) := by decide +kernel
theorem dX11_lookUp_5 : decode cX11_lookUp 5 = .ok (.aload_n 0, 1) := by decide +kernel
theorem dX11_lookUp_6 : decode cX11_lookUp 6 = .ok (.invokevirtual 361, 3) := by decide +kernel
theorem dX11_lookUp_9 : decode cX11_lookUp 9 = .ok (.lstore_n 1, 1) := by decide +kernel
theorem dX11_lookUp_10 : decode cX11_lookUp 10 = .ok (.aload_n 0, 1) := by decide +kernel
theorem dX11_lookUp_11 : decode cX11_lookUp 11 = .ok (.getfield 13, 3) := by decide +kernel
theorem dX11_lookUp_14 : decode cX11_lookUp 14 = .ok (.iconst 4, 1) := by decide +kernel
theorem dX11_lookUp_15 : decode cX11_lookUp 15 = .ok (.iconst 0, 1) := by decide +kernel
theorem dX11_lookUp_16 : decode cX11_lookUp 16 = .ok (.iastore, 1) := by decide +kernel
theorem dX11_lookUp_17 : decode cX11_lookUp 17 = .ok (.lload_n 1, 1) := by decide +kernel
theorem dX11_lookUp_18 : decode cX11_lookUp 18 = .ok (.lconst 0, 1) := by decide +kernel
theorem dX11_lookUp_19 : decode cX11_lookUp 19 = .ok (.lcmp, 1) := by decide +kernel
theorem dX11_lookUp_20 : decode cX11_lookUp 20 = .ok (.ifCond .ne 7, 3) := by decide +kernel
theorem dX11_lookUp_23 : decode cX11_lookUp 23 = .ok (.iconst (-1), 1) := by decide +kernel
theorem dX11_lookUp_24 : decode cX11_lookUp 24 = .ok (.goto 9, 3) := by decide +kernel
theorem dX11_lookUp_27 : decode cX11_lookUp 27 = .ok (.aload_n 0, 1) := by decide +kernel
theorem dX11_lookUp_28 : decode cX11_lookUp 28 = .ok (.lload_n 1, 1) := by decide +kernel
theorem dX11_lookUp_29 : decode cX11_lookUp 29 = .ok (.iconst (-1), 1) := by decide +kernel
theorem dX11_lookUp_30 : decode cX11_lookUp 30 = .ok (.invokevirtual 281, 3) := by decide +kernel
theorem dX11_lookUp_33 : decode cX11_lookUp 33 = .ok (.ireturn, 1) := by decide +kernel
theorem dX11_nodes_0 : decode cX11_nodes 0 = .ok (.aload_n 0, 1) := by decide +kernel
theorem dX11_nodes_1 : decode cX11_nodes 1 = .ok (.iconst 0, 1) := by decide +kernel
theorem dX11_nodes_2 : decode cX11_nodes 2 = .ok (.putfield 120, 3) := by decide +kernel
theorem dX11_nodes_5 : decode cX11_nodes 5 = .ok (.aload_n 0, 1) := by decide +kernel
theorem dX11_nodes_6 : decode cX11_nodes 6 = .ok (.getfield 272, 3) := by decide +kernel
theorem dX11_nodes_9 : decode cX11_nodes 9 = .ok (.ireturn, 1) := by decide +kernel
theorem dX11_isNode_0 : decode cX11_isNode 0 = .ok (.iload_n 1, 1) := by decide +kernel
theorem dX11_isNode_1 : decode cX11_isNode 1 = .ok (.iconst 0, 1) := by decide +kernel
theorem dX11_isNode_2 : decode cX11_isNode 2 = .ok (.aload_n 0, 1) := by decide +kernel
theorem dX11_isNode_3 : decode cX11_isNode 3 = .ok (.getfield 272, 3) := by decide +kernel
theorem dX11_isNode_6 : decode cX11_isNode 6 = .ok (.iconst 1, 1) := by decide +kernel
theorem dX11_isNode_7 : decode cX11_isNode 7 = .ok (.isub, 1) := by decide +kernel
theorem dX11_isNode_8 : decode cX11_isNode 8 = .ok (.invokestatic 127, 3) := by decide +kernel
theorem dX11_isNode_11 : decode cX11_isNode 11 = .ok (.ireturn, 1) := by decide +kernel
theorem dX11_asks_0 : decode cX11_asks 0 = .ok (.aload_n 0, 1) := by decide +kernel
theorem dX11_asks_1 : decode cX11_asks 1 = .ok (.aload_n 0, 1) := by decide +kernel
theorem dX11_asks_2 : decode cX11_asks 2 = .ok (.iload_n 1, 1) := by decide +kernel
theorem dX11_asks_3 : decode cX11_asks 3 = .ok (.invokevirtual 368, 3) := by decide +kernel
theorem dX11_asks_6 : decode cX11_asks 6 = .ok (.ifCond .eq 7, 3) := by decide +kernel
theorem dX11_asks_9 : decode cX11_asks 9 = .ok (.iconst 0, 1) := by decide +kernel
theorem dX11_asks_10 : decode cX11_asks 10 = .ok (.goto 4, 3) := by decide +kernel
theorem dX11_asks_13 : decode cX11_asks 13 = .ok (.iconst 1, 1) := by decide +kernel
theorem dX11_asks_14 : decode cX11_asks 14 = .ok (.invokevirtual 342, 3) := by decide +kernel
theorem dX11_asks_17 : decode cX11_asks 17 = .ok (.ireturn, 1) := by decide +kernel
theorem dX11_name_0 : decode cX11_name 0 = .ok (.aload_n 0, 1) := by decide +kernel
theorem dX11_name_1 : decode cX11_name 1 = .ok (.iload_n 1, 1) := by decide +kernel
theorem dX11_name_2 : decode cX11_name 2 = .ok (.invokevirtual 371, 3) := by decide +kernel
theorem dX11_name_5 : decode cX11_name 5 = .ok (.ifCond .ne 5, 3) := by decide +kernel
theorem dX11_name_8 : decode cX11_name 8 = .ok (.iconst 0, 1) := by decide +kernel
theorem dX11_name_9 : decode cX11_name 9 = .ok (.ireturn, 1) := by decide +kernel
theorem dX11_name_10 : decode cX11_name 10 = .ok (.aload_n 0, 1) := by decide +kernel
theorem dX11_name_11 : decode cX11_name 11 = .ok (.iconst 0, 1) := by decide +kernel
theorem dX11_name_12 : decode cX11_name 12 = .ok (.putfield 374, 3) := by decide +kernel
theorem dX11_name_15 : decode cX11_name 15 = .ok (.aload_n 0, 1) := by decide +kernel
theorem dX11_name_16 : decode cX11_name 16 = .ok (.iload_n 1, 1) := by decide +kernel
theorem dX11_name_17 : decode cX11_name 17 = .ok (.invokevirtual 377, 3) := by decide +kernel
theorem dX11_name_20 : decode cX11_name 20 = .ok (.aload_n 0, 1) := by decide +kernel
theorem dX11_name_21 : decode cX11_name 21 = .ok (.getfield 374, 3) := by decide +kernel
theorem dX11_name_24 : decode cX11_name 24 = .ok (.ireturn, 1) := by decide +kernel
theorem dX11_kind_0 : decode cX11_kind 0 = .ok (.aload_n 0, 1) := by decide +kernel
theorem dX11_kind_1 : decode cX11_kind 1 = .ok (.iload_n 1, 1) := by decide +kernel
theorem dX11_kind_2 : decode cX11_kind 2 = .ok (.invokevirtual 371, 3) := by decide +kernel
theorem dX11_kind_5 : decode cX11_kind 5 = .ok (.ifCond .eq 11, 3) := by decide +kernel
theorem dX11_kind_8 : decode cX11_kind 8 = .ok (.aload_n 0, 1) := by decide +kernel
theorem dX11_kind_9 : decode cX11_kind 9 = .ok (.iload_n 1, 1) := by decide +kernel
theorem dX11_kind_10 : decode cX11_kind 10 = .ok (.invokevirtual 299, 3) := by decide +kernel
theorem dX11_kind_13 : decode cX11_kind 13 = .ok (.goto 4, 3) := by decide +kernel
theorem dX11_kind_16 : decode cX11_kind 16 = .ok (.iconst 0, 1) := by decide +kernel
theorem dX11_kind_17 : decode cX11_kind 17 = .ok (.ireturn, 1) := by decide +kernel
theorem dX11_isPrivate_0 : decode cX11_isPrivate 0 = .ok (.aload_n 0, 1) := by decide +kernel
theorem dX11_isPrivate_1 : decode cX11_isPrivate 1 = .ok (.iload_n 1, 1) := by decide +kernel
theorem dX11_isPrivate_2 : decode cX11_isPrivate 2 = .ok (.invokevirtual 371, 3) := by decide +kernel
theorem dX11_isPrivate_5 : decode cX11_isPrivate 5 = .ok (.ifCond .eq 17, 3) := by decide +kernel
theorem dX11_isPrivate_8 : decode cX11_isPrivate 8 = .ok (.aload_n 0, 1) := by decide +kernel
theorem dX11_isPrivate_9 : decode cX11_isPrivate 9 = .ok (.getfield 50, 3) := by decide +kernel
theorem dX11_isPrivate_12 : decode cX11_isPrivate 12 = .ok (.iload_n 1, 1) := by decide +kernel
theorem dX11_isPrivate_13 : decode cX11_isPrivate 13 = .ok (.iaload, 1) := by decide +kernel
theorem dX11_isPrivate_14 : decode cX11_isPrivate 14 = .ok (.iconst (-1), 1) := by decide +kernel
theorem dX11_isPrivate_15 : decode cX11_isPrivate 15 = .ok (.if_icmp .eq 7, 3) := by decide +kernel
theorem dX11_isPrivate_18 : decode cX11_isPrivate 18 = .ok (.iconst 1, 1) := by decide +kernel
theorem dX11_isPrivate_19 : decode cX11_isPrivate 19 = .ok (.goto 4, 3) := by decide +kernel
theorem dX11_isPrivate_22 : decode cX11_isPrivate 22 = .ok (.iconst 0, 1) := by decide +kernel
theorem dX11_isPrivate_23 : decode cX11_isPrivate 23 = .ok (.ireturn, 1) := by decide +kernel
theorem dX11_ask_0 : decode cX11_ask 0 = .ok (.aload_n 0, 1) := by decide +kernel
theorem dX11_ask_1 : decode cX11_ask 1 = .ok (.aload_n 0, 1) := by decide +kernel
theorem dX11_ask_2 : decode cX11_ask 2 = .ok (.iload_n 1, 1) := by decide +kernel
theorem dX11_ask_3 : decode cX11_ask 3 = .ok (.invokevirtual 368, 3) := by decide +kernel
theorem dX11_ask_6 : decode cX11_ask 6 = .ok (.ifCond .eq 15, 3) := by decide +kernel
theorem dX11_ask_9 : decode cX11_ask 9 = .ok (.aload_n 0, 1) := by decide +kernel
theorem dX11_ask_10 : decode cX11_ask 10 = .ok (.iload_n 2, 1) := by decide +kernel
theorem dX11_ask_11 : decode cX11_ask 11 = .ok (.invokevirtual 368, 3) := by decide +kernel
theorem dX11_ask_14 : decode cX11_ask 14 = .ok (.ifCond .eq 7, 3) := by decide +kernel
theorem dX11_ask_17 : decode cX11_ask 17 = .ok (.iconst 0, 1) := by decide +kernel
theorem dX11_ask_18 : decode cX11_ask 18 = .ok (.goto 4, 3) := by decide +kernel
theorem dX11_ask_21 : decode cX11_ask 21 = .ok (.iconst 1, 1) := by decide +kernel
theorem dX11_ask_22 : decode cX11_ask 22 = .ok (.invokevirtual 342, 3) := by decide +kernel
theorem dX11_ask_25 : decode cX11_ask 25 = .ok (.ireturn, 1) := by decide +kernel
theorem dX11_linkCost_0 : decode cX11_linkCost 0 = .ok (.aload_n 0, 1) := by decide +kernel
theorem dX11_linkCost_1 : decode cX11_linkCost 1 = .ok (.iload_n 1, 1) := by decide +kernel
theorem dX11_linkCost_2 : decode cX11_linkCost 2 = .ok (.iload_n 2, 1) := by decide +kernel
theorem dX11_linkCost_3 : decode cX11_linkCost 3 = .ok (.invokevirtual 380, 3) := by decide +kernel
theorem dX11_linkCost_6 : decode cX11_linkCost 6 = .ok (.ifCond .eq 17, 3) := by decide +kernel
theorem dX11_linkCost_9 : decode cX11_linkCost 9 = .ok (.aload_n 0, 1) := by decide +kernel
theorem dX11_linkCost_10 : decode cX11_linkCost 10 = .ok (.getfield 66, 3) := by decide +kernel
theorem dX11_linkCost_13 : decode cX11_linkCost 13 = .ok (.bipush 24, 2) := by decide +kernel
theorem dX11_linkCost_15 : decode cX11_linkCost 15 = .ok (.iload_n 1, 1) := by decide +kernel
theorem dX11_linkCost_16 : decode cX11_linkCost 16 = .ok (.imul, 1) := by decide +kernel
theorem dX11_linkCost_17 : decode cX11_linkCost 17 = .ok (.iload_n 2, 1) := by decide +kernel
theorem dX11_linkCost_18 : decode cX11_linkCost 18 = .ok (.iadd, 1) := by decide +kernel
theorem dX11_linkCost_19 : decode cX11_linkCost 19 = .ok (.iaload, 1) := by decide +kernel
theorem dX11_linkCost_20 : decode cX11_linkCost 20 = .ok (.goto 4, 3) := by decide +kernel
theorem dX11_linkCost_23 : decode cX11_linkCost 23 = .ok (.iconst 0, 1) := by decide +kernel
theorem dX11_linkCost_24 : decode cX11_linkCost 24 = .ok (.ireturn, 1) := by decide +kernel
theorem dX11_memberCost_0 : decode cX11_memberCost 0 = .ok (.aload_n 0, 1) := by decide +kernel
theorem dX11_memberCost_1 : decode cX11_memberCost 1 = .ok (.iload_n 1, 1) := by decide +kernel
theorem dX11_memberCost_2 : decode cX11_memberCost 2 = .ok (.iload_n 2, 1) := by decide +kernel
theorem dX11_memberCost_3 : decode cX11_memberCost 3 = .ok (.invokevirtual 380, 3) := by decide +kernel
theorem dX11_memberCost_6 : decode cX11_memberCost 6 = .ok (.ifCond .eq 17, 3) := by decide +kernel
theorem dX11_memberCost_9 : decode cX11_memberCost 9 = .ok (.aload_n 0, 1) := by decide +kernel
theorem dX11_memberCost_10 : decode cX11_memberCost 10 = .ok (.getfield 78, 3) := by decide +kernel
theorem dX11_memberCost_13 : decode cX11_memberCost 13 = .ok (.bipush 24, 2) := by decide +kernel
theorem dX11_memberCost_15 : decode cX11_memberCost 15 = .ok (.iload_n 1, 1) := by decide +kernel
theorem dX11_memberCost_16 : decode cX11_memberCost 16 = .ok (.imul, 1) := by decide +kernel
theorem dX11_memberCost_17 : decode cX11_memberCost 17 = .ok (.iload_n 2, 1) := by decide +kernel
theorem dX11_memberCost_18 : decode cX11_memberCost 18 = .ok (.iadd, 1) := by decide +kernel
theorem dX11_memberCost_19 : decode cX11_memberCost 19 = .ok (.iaload, 1) := by decide +kernel
theorem dX11_memberCost_20 : decode cX11_memberCost 20 = .ok (.goto 4, 3) := by decide +kernel
theorem dX11_memberCost_23 : decode cX11_memberCost 23 = .ok (.iconst 0, 1) := by decide +kernel
theorem dX11_memberCost_24 : decode cX11_memberCost 24 = .ok (.ireturn, 1) := by decide +kernel
theorem dX11_costTo_0 : decode cX11_costTo 0 = .ok (.aload_n 0, 1) := by decide +kernel
theorem dX11_costTo_1 : decode cX11_costTo 1 = .ok (.iload_n 1, 1) := by decide +kernel
theorem dX11_costTo_2 : decode cX11_costTo 2 = .ok (.invokevirtual 371, 3) := by decide +kernel
theorem dX11_costTo_5 : decode cX11_costTo 5 = .ok (.ifCond .eq 11, 3) := by decide +kernel
theorem dX11_costTo_8 : decode cX11_costTo 8 = .ok (.aload_n 0, 1) := by decide +kernel
theorem dX11_costTo_9 : decode cX11_costTo 9 = .ok (.iload_n 1, 1) := by decide +kernel
theorem dX11_costTo_10 : decode cX11_costTo 10 = .ok (.invokevirtual 336, 3) := by decide +kernel
theorem dX11_costTo_13 : decode cX11_costTo 13 = .ok (.goto 4, 3) := by decide +kernel
theorem dX11_costTo_16 : decode cX11_costTo 16 = .ok (.iconst (-1), 1) := by decide +kernel
theorem dX11_costTo_17 : decode cX11_costTo 17 = .ok (.istore_n 2, 1) := by decide +kernel
theorem dX11_costTo_18 : decode cX11_costTo 18 = .ok (.iload_n 2, 1) := by decide +kernel
theorem dX11_costTo_19 : decode cX11_costTo 19 = .ok (.iconst (-1), 1) := by decide +kernel
theorem dX11_costTo_20 : decode cX11_costTo 20 = .ok (.if_icmp .ne 18, 3) := by decide +kernel
theorem dX11_costTo_23 : decode cX11_costTo 23 = .ok (.aload_n 0, 1) := by decide +kernel
theorem dX11_costTo_24 : decode cX11_costTo 24 = .ok (.getfield 120, 3) := by decide +kernel
theorem dX11_costTo_27 : decode cX11_costTo 27 = .ok (.ifCond .ne 7, 3) := by decide +kernel
theorem dX11_costTo_30 : decode cX11_costTo 30 = .ok (.iconst (-1), 1) := by decide +kernel
theorem dX11_costTo_31 : decode cX11_costTo 31 = .ok (.goto 13, 3) := by decide +kernel
theorem dX11_costTo_34 : decode cX11_costTo 34 = .ok (.iconst 0, 1) := by decide +kernel
theorem dX11_costTo_35 : decode cX11_costTo 35 = .ok (.goto 9, 3) := by decide +kernel
theorem dX11_costTo_38 : decode cX11_costTo 38 = .ok (.aload_n 0, 1) := by decide +kernel
theorem dX11_costTo_39 : decode cX11_costTo 39 = .ok (.getfield 87, 3) := by decide +kernel
theorem dX11_costTo_42 : decode cX11_costTo 42 = .ok (.iload_n 2, 1) := by decide +kernel
theorem dX11_costTo_43 : decode cX11_costTo 43 = .ok (.iaload, 1) := by decide +kernel
theorem dX11_costTo_44 : decode cX11_costTo 44 = .ok (.ireturn, 1) := by decide +kernel
theorem dX11_cost_0 : decode cX11_cost 0 = .ok (.aload_n 0, 1) := by decide +kernel
theorem dX11_cost_1 : decode cX11_cost 1 = .ok (.iload_n 1, 1) := by decide +kernel
theorem dX11_cost_2 : decode cX11_cost 2 = .ok (.invokevirtual 383, 3) := by decide +kernel
theorem dX11_cost_5 : decode cX11_cost 5 = .ok (.ireturn, 1) := by decide +kernel
theorem dX11_costByRounds_0 : decode cX11_costByRounds 0 = .ok (.aload_n 0, 1) := by decide +kernel
theorem dX11_costByRounds_1 : decode cX11_costByRounds 1 = .ok (.iload_n 1, 1) := by decide +kernel
theorem dX11_costByRounds_2 : decode cX11_costByRounds 2 = .ok (.invokevirtual 383, 3) := by decide +kernel
theorem dX11_costByRounds_5 : decode cX11_costByRounds 5 = .ok (.ireturn, 1) := by decide +kernel
theorem dX11_steps_0 : decode cX11_steps 0 = .ok (.aload_n 0, 1) := by decide +kernel
theorem dX11_steps_1 : decode cX11_steps 1 = .ok (.iload_n 1, 1) := by decide +kernel
theorem dX11_steps_2 : decode cX11_steps 2 = .ok (.invokevirtual 371, 3) := by decide +kernel
theorem dX11_steps_5 : decode cX11_steps 5 = .ok (.ifCond .eq 11, 3) := by decide +kernel
theorem dX11_steps_8 : decode cX11_steps 8 = .ok (.aload_n 0, 1) := by decide +kernel
theorem dX11_steps_9 : decode cX11_steps 9 = .ok (.iload_n 1, 1) := by decide +kernel
theorem dX11_steps_10 : decode cX11_steps 10 = .ok (.invokevirtual 336, 3) := by decide +kernel
theorem dX11_steps_13 : decode cX11_steps 13 = .ok (.goto 4, 3) := by decide +kernel
theorem dX11_steps_16 : decode cX11_steps 16 = .ok (.iconst (-1), 1) := by decide +kernel
theorem dX11_steps_17 : decode cX11_steps 17 = .ok (.istore_n 2, 1) := by decide +kernel
theorem dX11_steps_18 : decode cX11_steps 18 = .ok (.iload_n 2, 1) := by decide +kernel
theorem dX11_steps_19 : decode cX11_steps 19 = .ok (.iconst (-1), 1) := by decide +kernel
theorem dX11_steps_20 : decode cX11_steps 20 = .ok (.if_icmp .ne 18, 3) := by decide +kernel
theorem dX11_steps_23 : decode cX11_steps 23 = .ok (.aload_n 0, 1) := by decide +kernel
theorem dX11_steps_24 : decode cX11_steps 24 = .ok (.getfield 120, 3) := by decide +kernel
theorem dX11_steps_27 : decode cX11_steps 27 = .ok (.ifCond .ne 7, 3) := by decide +kernel
theorem dX11_steps_30 : decode cX11_steps 30 = .ok (.iconst (-1), 1) := by decide +kernel
theorem dX11_steps_31 : decode cX11_steps 31 = .ok (.goto 13, 3) := by decide +kernel
theorem dX11_steps_34 : decode cX11_steps 34 = .ok (.iconst 0, 1) := by decide +kernel
theorem dX11_steps_35 : decode cX11_steps 35 = .ok (.goto 9, 3) := by decide +kernel
theorem dX11_steps_38 : decode cX11_steps 38 = .ok (.aload_n 0, 1) := by decide +kernel
theorem dX11_steps_39 : decode cX11_steps 39 = .ok (.getfield 90, 3) := by decide +kernel
theorem dX11_steps_42 : decode cX11_steps 42 = .ok (.iload_n 2, 1) := by decide +kernel
theorem dX11_steps_43 : decode cX11_steps 43 = .ok (.iaload, 1) := by decide +kernel
theorem dX11_steps_44 : decode cX11_steps 44 = .ok (.ireturn, 1) := by decide +kernel
theorem dX11_state_0 : decode cX11_state 0 = .ok (.aload_n 0, 1) := by decide +kernel
theorem dX11_state_1 : decode cX11_state 1 = .ok (.iload_n 1, 1) := by decide +kernel
theorem dX11_state_2 : decode cX11_state 2 = .ok (.invokevirtual 371, 3) := by decide +kernel
theorem dX11_state_5 : decode cX11_state 5 = .ok (.ifCond .eq 11, 3) := by decide +kernel
theorem dX11_state_8 : decode cX11_state 8 = .ok (.aload_n 0, 1) := by decide +kernel
theorem dX11_state_9 : decode cX11_state 9 = .ok (.iload_n 1, 1) := by decide +kernel
theorem dX11_state_10 : decode cX11_state 10 = .ok (.invokevirtual 336, 3) := by decide +kernel
theorem dX11_state_13 : decode cX11_state 13 = .ok (.goto 4, 3) := by decide +kernel
theorem dX11_state_16 : decode cX11_state 16 = .ok (.iconst (-1), 1) := by decide +kernel
theorem dX11_state_17 : decode cX11_state 17 = .ok (.istore_n 2, 1) := by decide +kernel
theorem dX11_state_18 : decode cX11_state 18 = .ok (.iload_n 2, 1) := by decide +kernel
theorem dX11_state_19 : decode cX11_state 19 = .ok (.iconst (-1), 1) := by decide +kernel
theorem dX11_state_20 : decode cX11_state 20 = .ok (.if_icmp .ne 18, 3) := by decide +kernel
theorem dX11_state_23 : decode cX11_state 23 = .ok (.aload_n 0, 1) := by decide +kernel
theorem dX11_state_24 : decode cX11_state 24 = .ok (.getfield 120, 3) := by decide +kernel
theorem dX11_state_27 : decode cX11_state 27 = .ok (.ifCond .ne 7, 3) := by decide +kernel
theorem dX11_state_30 : decode cX11_state 30 = .ok (.iconst (-1), 1) := by decide +kernel
theorem dX11_state_31 : decode cX11_state 31 = .ok (.goto 10, 3) := by decide +kernel
theorem dX11_state_34 : decode cX11_state 34 = .ok (.iconst 0, 1) := by decide +kernel
theorem dX11_state_35 : decode cX11_state 35 = .ok (.goto 6, 3) := by decide +kernel
theorem dX11_state_38 : decode cX11_state 38 = .ok (.iload_n 2, 1) := by decide +kernel
theorem dX11_state_39 : decode cX11_state 39 = .ok (.iconst 4, 1) := by decide +kernel
theorem dX11_state_40 : decode cX11_state 40 = .ok (.irem, 1) := by decide +kernel
theorem dX11_state_41 : decode cX11_state 41 = .ok (.ireturn, 1) := by decide +kernel
theorem dX11_wayAt_0 : decode cX11_wayAt 0 = .ok (.aload_n 0, 1) := by decide +kernel
theorem dX11_wayAt_1 : decode cX11_wayAt 1 = .ok (.iload_n 1, 1) := by decide +kernel
theorem dX11_wayAt_2 : decode cX11_wayAt 2 = .ok (.invokevirtual 368, 3) := by decide +kernel
theorem dX11_wayAt_5 : decode cX11_wayAt 5 = .ok (.ifCond .eq 11, 3) := by decide +kernel
theorem dX11_wayAt_8 : decode cX11_wayAt 8 = .ok (.aload_n 0, 1) := by decide +kernel
theorem dX11_wayAt_9 : decode cX11_wayAt 9 = .ok (.iload_n 1, 1) := by decide +kernel
theorem dX11_wayAt_10 : decode cX11_wayAt 10 = .ok (.invokevirtual 336, 3) := by decide +kernel
theorem dX11_wayAt_13 : decode cX11_wayAt 13 = .ok (.goto 4, 3) := by decide +kernel
theorem dX11_wayAt_16 : decode cX11_wayAt 16 = .ok (.iconst (-1), 1) := by decide +kernel
theorem dX11_wayAt_17 : decode cX11_wayAt 17 = .ok (.istore_n 3, 1) := by decide +kernel
theorem dX11_wayAt_18 : decode cX11_wayAt 18 = .ok (.aload_n 0, 1) := by decide +kernel
theorem dX11_wayAt_19 : decode cX11_wayAt 19 = .ok (.iload_n 3, 1) := by decide +kernel
theorem dX11_wayAt_20 : decode cX11_wayAt 20 = .ok (.iconst (-1), 1) := by decide +kernel
theorem dX11_wayAt_21 : decode cX11_wayAt 21 = .ok (.if_icmp .eq 17, 3) := by decide +kernel
theorem dX11_wayAt_24 : decode cX11_wayAt 24 = .ok (.iload_n 2, 1) := by decide +kernel
theorem dX11_wayAt_25 : decode cX11_wayAt 25 = .ok (.iconst 0, 1) := by decide +kernel
theorem dX11_wayAt_26 : decode cX11_wayAt 26 = .ok (.aload_n 0, 1) := by decide +kernel
theorem dX11_wayAt_27 : decode cX11_wayAt 27 = .ok (.getfield 90, 3) := by decide +kernel
theorem dX11_wayAt_30 : decode cX11_wayAt 30 = .ok (.iload_n 3, 1) := by decide +kernel
theorem dX11_wayAt_31 : decode cX11_wayAt 31 = .ok (.iaload, 1) := by decide +kernel
theorem dX11_wayAt_32 : decode cX11_wayAt 32 = .ok (.invokestatic 127, 3) := by decide +kernel
theorem dX11_wayAt_35 : decode cX11_wayAt 35 = .ok (.ifCond .ne 7, 3) := by decide +kernel
theorem dX11_wayAt_38 : decode cX11_wayAt 38 = .ok (.iconst 1, 1) := by decide +kernel
theorem dX11_wayAt_39 : decode cX11_wayAt 39 = .ok (.goto 4, 3) := by decide +kernel
theorem dX11_wayAt_42 : decode cX11_wayAt 42 = .ok (.iconst 0, 1) := by decide +kernel
theorem dX11_wayAt_43 : decode cX11_wayAt 43 = .ok (.invokevirtual 342, 3) := by decide +kernel
theorem dX11_wayAt_46 : decode cX11_wayAt 46 = .ok (.ifCond .ne 5, 3) := by decide +kernel
theorem dX11_wayAt_49 : decode cX11_wayAt 49 = .ok (.iconst (-1), 1) := by decide +kernel
theorem dX11_wayAt_50 : decode cX11_wayAt 50 = .ok (.ireturn, 1) := by decide +kernel
theorem dX11_wayAt_51 : decode cX11_wayAt 51 = .ok (.aload_n 0, 1) := by decide +kernel
theorem dX11_wayAt_52 : decode cX11_wayAt 52 = .ok (.iload_n 1, 1) := by decide +kernel
theorem dX11_wayAt_53 : decode cX11_wayAt 53 = .ok (.invokevirtual 386, 3) := by decide +kernel
theorem dX11_wayAt_56 : decode cX11_wayAt 56 = .ok (.aload_n 0, 1) := by decide +kernel
theorem dX11_wayAt_57 : decode cX11_wayAt 57 = .ok (.getfield 99, 3) := by decide +kernel
theorem dX11_wayAt_60 : decode cX11_wayAt 60 = .ok (.iload_n 2, 1) := by decide +kernel
theorem dX11_wayAt_61 : decode cX11_wayAt 61 = .ok (.iaload, 1) := by decide +kernel
theorem dX11_wayAt_62 : decode cX11_wayAt 62 = .ok (.ireturn, 1) := by decide +kernel
theorem dX11_nodeAt_0 : decode cX11_nodeAt 0 = .ok (.aload_n 0, 1) := by decide +kernel
theorem dX11_nodeAt_1 : decode cX11_nodeAt 1 = .ok (.iload_n 1, 1) := by decide +kernel
theorem dX11_nodeAt_2 : decode cX11_nodeAt 2 = .ok (.iload_n 2, 1) := by decide +kernel
theorem dX11_nodeAt_3 : decode cX11_nodeAt 3 = .ok (.invokevirtual 389, 3) := by decide +kernel
theorem dX11_nodeAt_6 : decode cX11_nodeAt 6 = .ok (.istore_n 3, 1) := by decide +kernel
theorem dX11_nodeAt_7 : decode cX11_nodeAt 7 = .ok (.iload_n 3, 1) := by decide +kernel
theorem dX11_nodeAt_8 : decode cX11_nodeAt 8 = .ok (.iconst (-1), 1) := by decide +kernel
theorem dX11_nodeAt_9 : decode cX11_nodeAt 9 = .ok (.if_icmp .ne 7, 3) := by decide +kernel
theorem dX11_nodeAt_12 : decode cX11_nodeAt 12 = .ok (.iconst 0, 1) := by decide +kernel
theorem dX11_nodeAt_13 : decode cX11_nodeAt 13 = .ok (.goto 6, 3) := by decide +kernel
theorem dX11_nodeAt_16 : decode cX11_nodeAt 16 = .ok (.iload_n 3, 1) := by decide +kernel
theorem dX11_nodeAt_17 : decode cX11_nodeAt 17 = .ok (.iconst 4, 1) := by decide +kernel
theorem dX11_nodeAt_18 : decode cX11_nodeAt 18 = .ok (.idiv, 1) := by decide +kernel
theorem dX11_nodeAt_19 : decode cX11_nodeAt 19 = .ok (.ireturn, 1) := by decide +kernel
theorem dX11_costAt_0 : decode cX11_costAt 0 = .ok (.aload_n 0, 1) := by decide +kernel
theorem dX11_costAt_1 : decode cX11_costAt 1 = .ok (.iload_n 1, 1) := by decide +kernel
theorem dX11_costAt_2 : decode cX11_costAt 2 = .ok (.iload_n 2, 1) := by decide +kernel
theorem dX11_costAt_3 : decode cX11_costAt 3 = .ok (.invokevirtual 389, 3) := by decide +kernel
theorem dX11_costAt_6 : decode cX11_costAt 6 = .ok (.istore_n 3, 1) := by decide +kernel
theorem dX11_costAt_7 : decode cX11_costAt 7 = .ok (.iload_n 3, 1) := by decide +kernel
theorem dX11_costAt_8 : decode cX11_costAt 8 = .ok (.iconst (-1), 1) := by decide +kernel
theorem dX11_costAt_9 : decode cX11_costAt 9 = .ok (.if_icmp .ne 7, 3) := by decide +kernel
theorem dX11_costAt_12 : decode cX11_costAt 12 = .ok (.iconst 0, 1) := by decide +kernel
theorem dX11_costAt_13 : decode cX11_costAt 13 = .ok (.goto 9, 3) := by decide +kernel
theorem dX11_costAt_16 : decode cX11_costAt 16 = .ok (.aload_n 0, 1) := by decide +kernel
theorem dX11_costAt_17 : decode cX11_costAt 17 = .ok (.getfield 87, 3) := by decide +kernel
theorem dX11_costAt_20 : decode cX11_costAt 20 = .ok (.iload_n 3, 1) := by decide +kernel
theorem dX11_costAt_21 : decode cX11_costAt 21 = .ok (.iaload, 1) := by decide +kernel
theorem dX11_costAt_22 : decode cX11_costAt 22 = .ok (.ireturn, 1) := by decide +kernel
theorem dX11_stepAt_0 : decode cX11_stepAt 0 = .ok (.aload_n 0, 1) := by decide +kernel
theorem dX11_stepAt_1 : decode cX11_stepAt 1 = .ok (.iload_n 1, 1) := by decide +kernel
theorem dX11_stepAt_2 : decode cX11_stepAt 2 = .ok (.iload_n 2, 1) := by decide +kernel
theorem dX11_stepAt_3 : decode cX11_stepAt 3 = .ok (.invokevirtual 389, 3) := by decide +kernel
theorem dX11_stepAt_6 : decode cX11_stepAt 6 = .ok (.istore_n 3, 1) := by decide +kernel
theorem dX11_stepAt_7 : decode cX11_stepAt 7 = .ok (.iload_n 3, 1) := by decide +kernel
theorem dX11_stepAt_8 : decode cX11_stepAt 8 = .ok (.iconst (-1), 1) := by decide +kernel
theorem dX11_stepAt_9 : decode cX11_stepAt 9 = .ok (.if_icmp .ne 7, 3) := by decide +kernel
theorem dX11_stepAt_12 : decode cX11_stepAt 12 = .ok (.iconst 0, 1) := by decide +kernel
theorem dX11_stepAt_13 : decode cX11_stepAt 13 = .ok (.goto 9, 3) := by decide +kernel
theorem dX11_stepAt_16 : decode cX11_stepAt 16 = .ok (.aload_n 0, 1) := by decide +kernel
theorem dX11_stepAt_17 : decode cX11_stepAt 17 = .ok (.getfield 96, 3) := by decide +kernel
theorem dX11_stepAt_20 : decode cX11_stepAt 20 = .ok (.iload_n 3, 1) := by decide +kernel
theorem dX11_stepAt_21 : decode cX11_stepAt 21 = .ok (.iaload, 1) := by decide +kernel
theorem dX11_stepAt_22 : decode cX11_stepAt 22 = .ok (.ireturn, 1) := by decide +kernel
theorem dX11_isBack_0 : decode cX11_isBack 0 = .ok (.aload_n 0, 1) := by decide +kernel
theorem dX11_isBack_1 : decode cX11_isBack 1 = .ok (.iload_n 1, 1) := by decide +kernel
theorem dX11_isBack_2 : decode cX11_isBack 2 = .ok (.iload_n 2, 1) := by decide +kernel
theorem dX11_isBack_3 : decode cX11_isBack 3 = .ok (.invokevirtual 380, 3) := by decide +kernel
theorem dX11_isBack_6 : decode cX11_isBack 6 = .ok (.ifCond .eq 21, 3) := by decide +kernel
theorem dX11_isBack_9 : decode cX11_isBack 9 = .ok (.aload_n 0, 1) := by decide +kernel
theorem dX11_isBack_10 : decode cX11_isBack 10 = .ok (.getfield 81, 3) := by decide +kernel
theorem dX11_isBack_13 : decode cX11_isBack 13 = .ok (.bipush 24, 2) := by decide +kernel
theorem dX11_isBack_15 : decode cX11_isBack 15 = .ok (.iload_n 1, 1) := by decide +kernel
theorem dX11_isBack_16 : decode cX11_isBack 16 = .ok (.imul, 1) := by decide +kernel
theorem dX11_isBack_17 : decode cX11_isBack 17 = .ok (.iload_n 2, 1) := by decide +kernel
theorem dX11_isBack_18 : decode cX11_isBack 18 = .ok (.iadd, 1) := by decide +kernel
theorem dX11_isBack_19 : decode cX11_isBack 19 = .ok (.baload, 1) := by decide +kernel
theorem dX11_isBack_20 : decode cX11_isBack 20 = .ok (.ifCond .eq 7, 3) := by decide +kernel
theorem dX11_isBack_23 : decode cX11_isBack 23 = .ok (.iconst 1, 1) := by decide +kernel
theorem dX11_isBack_24 : decode cX11_isBack 24 = .ok (.goto 4, 3) := by decide +kernel
theorem dX11_isBack_27 : decode cX11_isBack 27 = .ok (.iconst 0, 1) := by decide +kernel
theorem dX11_isBack_28 : decode cX11_isBack 28 = .ok (.ireturn, 1) := by decide +kernel
theorem dX11_puts_0 : decode cX11_puts 0 = .ok (.aload_n 0, 1) := by decide +kernel
theorem dX11_puts_1 : decode cX11_puts 1 = .ok (.getfield 47, 3) := by decide +kernel
theorem dX11_puts_4 : decode cX11_puts 4 = .ok (.iload_n 1, 1) := by decide +kernel
theorem dX11_puts_5 : decode cX11_puts 5 = .ok (.laload, 1) := by decide +kernel
theorem dX11_puts_6 : decode cX11_puts 6 = .ok (.lstore_n 2, 1) := by decide +kernel
theorem dX11_puts_7 : decode cX11_puts 7 = .ok (.lload_n 2, 1) := by decide +kernel
theorem dX11_puts_8 : decode cX11_puts 8 = .ok (.lconst 0, 1) := by decide +kernel
theorem dX11_puts_9 : decode cX11_puts 9 = .ok (.lcmp, 1) := by decide +kernel
theorem dX11_puts_10 : decode cX11_puts 10 = .ok (.ifCond .eq 36, 3) := by decide +kernel
theorem dX11_puts_13 : decode cX11_puts 13 = .ok (.aload_n 0, 1) := by decide +kernel
theorem dX11_puts_14 : decode cX11_puts 14 = .ok (.getfield 102, 3) := by decide +kernel
theorem dX11_puts_17 : decode cX11_puts 17 = .ok (.aload_n 0, 1) := by decide +kernel
theorem dX11_puts_18 : decode cX11_puts 18 = .ok (.getfield 374, 3) := by decide +kernel
theorem dX11_puts_21 : decode cX11_puts 21 = .ok (.lload_n 2, 1) := by decide +kernel
theorem dX11_puts_22 : decode cX11_puts 22 = .ok (.ldc2_w 294, 3) := by decide +kernel
theorem dX11_puts_25 : decode cX11_puts 25 = .ok (.land, 1) := by decide +kernel
theorem dX11_puts_26 : decode cX11_puts 26 = .ok (.l2i, 1) := by decide +kernel
theorem dX11_puts_27 : decode cX11_puts 27 = .ok (.iastore, 1) := by decide +kernel
theorem dX11_puts_28 : decode cX11_puts 28 = .ok (.aload_n 0, 1) := by decide +kernel
theorem dX11_puts_29 : decode cX11_puts 29 = .ok (.dup, 1) := by decide +kernel
theorem dX11_puts_30 : decode cX11_puts 30 = .ok (.getfield 374, 3) := by decide +kernel
theorem dX11_puts_33 : decode cX11_puts 33 = .ok (.iconst 1, 1) := by decide +kernel
theorem dX11_puts_34 : decode cX11_puts 34 = .ok (.iadd, 1) := by decide +kernel
theorem dX11_puts_35 : decode cX11_puts 35 = .ok (.putfield 374, 3) := by decide +kernel
theorem dX11_puts_38 : decode cX11_puts 38 = .ok (.lload_n 2, 1) := by decide +kernel
theorem dX11_puts_39 : decode cX11_puts 39 = .ok (.bipush 8, 2) := by decide +kernel
theorem dX11_puts_41 : decode cX11_puts 41 = .ok (.lshr, 1) := by decide +kernel
theorem dX11_puts_42 : decode cX11_puts 42 = .ok (.lstore_n 2, 1) := by decide +kernel
theorem dX11_puts_43 : decode cX11_puts 43 = .ok (.goto (-36), 3) := by decide +kernel
theorem dX11_puts_46 : decode cX11_puts 46 = .ok (.return_, 1) := by decide +kernel
theorem dX11_putsCode_0 : decode cX11_putsCode 0 = .ok (.aload_n 0, 1) := by decide +kernel
theorem dX11_putsCode_1 : decode cX11_putsCode 1 = .ok (.getfield 102, 3) := by decide +kernel
theorem dX11_putsCode_4 : decode cX11_putsCode 4 = .ok (.aload_n 0, 1) := by decide +kernel
theorem dX11_putsCode_5 : decode cX11_putsCode 5 = .ok (.getfield 374, 3) := by decide +kernel
theorem dX11_putsCode_8 : decode cX11_putsCode 8 = .ok (.iload_n 1, 1) := by decide +kernel
theorem dX11_putsCode_9 : decode cX11_putsCode 9 = .ok (.iastore, 1) := by decide +kernel
theorem dX11_putsCode_10 : decode cX11_putsCode 10 = .ok (.aload_n 0, 1) := by decide +kernel
theorem dX11_putsCode_11 : decode cX11_putsCode 11 = .ok (.dup, 1) := by decide +kernel
theorem dX11_putsCode_12 : decode cX11_putsCode 12 = .ok (.getfield 374, 3) := by decide +kernel
theorem dX11_putsCode_15 : decode cX11_putsCode 15 = .ok (.iconst 1, 1) := by decide +kernel
theorem dX11_putsCode_16 : decode cX11_putsCode 16 = .ok (.iadd, 1) := by decide +kernel
theorem dX11_putsCode_17 : decode cX11_putsCode 17 = .ok (.putfield 374, 3) := by decide +kernel
theorem dX11_putsCode_20 : decode cX11_putsCode 20 = .ok (.return_, 1) := by decide +kernel
theorem dX11_putsNameAt_0 : decode cX11_putsNameAt 0 = .ok (.aload_n 0, 1) := by decide +kernel
theorem dX11_putsNameAt_1 : decode cX11_putsNameAt 1 = .ok (.aload_n 0, 1) := by decide +kernel
theorem dX11_putsNameAt_2 : decode cX11_putsNameAt 2 = .ok (.getfield 99, 3) := by decide +kernel
theorem dX11_putsNameAt_5 : decode cX11_putsNameAt 5 = .ok (.iload_n 1, 1) := by decide +kernel
theorem dX11_putsNameAt_6 : decode cX11_putsNameAt 6 = .ok (.iaload, 1) := by decide +kernel
theorem dX11_putsNameAt_7 : decode cX11_putsNameAt 7 = .ok (.iconst 4, 1) := by decide +kernel
theorem dX11_putsNameAt_8 : decode cX11_putsNameAt 8 = .ok (.idiv, 1) := by decide +kernel
theorem dX11_putsNameAt_9 : decode cX11_putsNameAt 9 = .ok (.invokevirtual 377, 3) := by decide +kernel
theorem dX11_putsNameAt_12 : decode cX11_putsNameAt 12 = .ok (.iload_n 1, 1) := by decide +kernel
theorem dX11_putsNameAt_13 : decode cX11_putsNameAt 13 = .ok (.istore_n 2, 1) := by decide +kernel
theorem dX11_putsNameAt_14 : decode cX11_putsNameAt 14 = .ok (.iload_n 2, 1) := by decide +kernel
theorem dX11_putsNameAt_15 : decode cX11_putsNameAt 15 = .ok (.ifCond .le 69, 3) := by decide +kernel
theorem dX11_putsNameAt_18 : decode cX11_putsNameAt 18 = .ok (.aload_n 0, 1) := by decide +kernel
theorem dX11_putsNameAt_19 : decode cX11_putsNameAt 19 = .ok (.getfield 96, 3) := by decide +kernel
theorem dX11_putsNameAt_22 : decode cX11_putsNameAt 22 = .ok (.aload_n 0, 1) := by decide +kernel
theorem dX11_putsNameAt_23 : decode cX11_putsNameAt 23 = .ok (.getfield 99, 3) := by decide +kernel
theorem dX11_putsNameAt_26 : decode cX11_putsNameAt 26 = .ok (.iload_n 2, 1) := by decide +kernel
theorem dX11_putsNameAt_27 : decode cX11_putsNameAt 27 = .ok (.iaload, 1) := by decide +kernel
theorem dX11_putsNameAt_28 : decode cX11_putsNameAt 28 = .ok (.iaload, 1) := by decide +kernel
theorem dX11_putsNameAt_29 : decode cX11_putsNameAt 29 = .ok (.iconst 1, 1) := by decide +kernel
theorem dX11_putsNameAt_30 : decode cX11_putsNameAt 30 = .ok (.if_icmp .eq 54, 3) := by decide +kernel
theorem dX11_putsNameAt_33 : decode cX11_putsNameAt 33 = .ok (.aload_n 0, 1) := by decide +kernel
theorem dX11_putsNameAt_34 : decode cX11_putsNameAt 34 = .ok (.getfield 96, 3) := by decide +kernel
theorem dX11_putsNameAt_37 : decode cX11_putsNameAt 37 = .ok (.aload_n 0, 1) := by decide +kernel
theorem dX11_putsNameAt_38 : decode cX11_putsNameAt 38 = .ok (.getfield 99, 3) := by decide +kernel
theorem dX11_putsNameAt_41 : decode cX11_putsNameAt 41 = .ok (.iload_n 2, 1) := by decide +kernel
theorem dX11_putsNameAt_42 : decode cX11_putsNameAt 42 = .ok (.iaload, 1) := by decide +kernel
theorem dX11_putsNameAt_43 : decode cX11_putsNameAt 43 = .ok (.iaload, 1) := by decide +kernel
theorem dX11_putsNameAt_44 : decode cX11_putsNameAt 44 = .ok (.iconst 3, 1) := by decide +kernel
theorem dX11_putsNameAt_45 : decode cX11_putsNameAt 45 = .ok (.if_icmp .eq 39, 3) := by decide +kernel
theorem dX11_putsNameAt_48 : decode cX11_putsNameAt 48 = .ok (.aload_n 0, 1) := by decide +kernel
theorem dX11_putsNameAt_49 : decode cX11_putsNameAt 49 = .ok (.aload_n 0, 1) := by decide +kernel
theorem dX11_putsNameAt_50 : decode cX11_putsNameAt 50 = .ok (.getfield 99, 3) := by decide +kernel
theorem dX11_putsNameAt_53 : decode cX11_putsNameAt 53 = .ok (.iload_n 2, 1) := by decide +kernel
theorem dX11_putsNameAt_54 : decode cX11_putsNameAt 54 = .ok (.iconst 1, 1) := by decide +kernel
theorem dX11_putsNameAt_55 : decode cX11_putsNameAt 55 = .ok (.isub, 1) := by decide +kernel
theorem dX11_putsNameAt_56 : decode cX11_putsNameAt 56 = .ok (.iaload, 1) := by decide +kernel
theorem dX11_putsNameAt_57 : decode cX11_putsNameAt 57 = .ok (.iconst 4, 1) := by decide +kernel
theorem dX11_putsNameAt_58 : decode cX11_putsNameAt 58 = .ok (.idiv, 1) := by decide +kernel
theorem dX11_putsNameAt_59 : decode cX11_putsNameAt 59 = .ok (.invokevirtual 299, 3) := by decide +kernel
theorem dX11_putsNameAt_62 : decode cX11_putsNameAt 62 = .ok (.iconst 2, 1) := by decide +kernel
theorem dX11_putsNameAt_63 : decode cX11_putsNameAt 63 = .ok (.if_icmp .ne 21, 3) := by decide +kernel
theorem dX11_putsNameAt_66 : decode cX11_putsNameAt 66 = .ok (.iinc 2 (-1), 3) := by decide +kernel
theorem dX11_putsNameAt_69 : decode cX11_putsNameAt 69 = .ok (.aload_n 0, 1) := by decide +kernel
theorem dX11_putsNameAt_70 : decode cX11_putsNameAt 70 = .ok (.aload_n 0, 1) := by decide +kernel
theorem dX11_putsNameAt_71 : decode cX11_putsNameAt 71 = .ok (.getfield 99, 3) := by decide +kernel
theorem dX11_putsNameAt_74 : decode cX11_putsNameAt 74 = .ok (.iload_n 2, 1) := by decide +kernel
theorem dX11_putsNameAt_75 : decode cX11_putsNameAt 75 = .ok (.iaload, 1) := by decide +kernel
theorem dX11_putsNameAt_76 : decode cX11_putsNameAt 76 = .ok (.iconst 4, 1) := by decide +kernel
theorem dX11_putsNameAt_77 : decode cX11_putsNameAt 77 = .ok (.idiv, 1) := by decide +kernel
theorem dX11_putsNameAt_78 : decode cX11_putsNameAt 78 = .ok (.invokevirtual 377, 3) := by decide +kernel
theorem dX11_putsNameAt_81 : decode cX11_putsNameAt 81 = .ok (.goto (-67), 3) := by decide +kernel
theorem dX11_putsNameAt_84 : decode cX11_putsNameAt 84 = .ok (.return_, 1) := by decide +kernel
theorem dX11_markAt_0 : decode cX11_markAt 0 = .ok (.aload_n 0, 1) := by decide +kernel
theorem dX11_markAt_1 : decode cX11_markAt 1 = .ok (.getfield 99, 3) := by decide +kernel
theorem dX11_markAt_4 : decode cX11_markAt 4 = .ok (.iload_n 1, 1) := by decide +kernel
theorem dX11_markAt_5 : decode cX11_markAt 5 = .ok (.iaload, 1) := by decide +kernel
theorem dX11_markAt_6 : decode cX11_markAt 6 = .ok (.iconst 4, 1) := by decide +kernel
theorem dX11_markAt_7 : decode cX11_markAt 7 = .ok (.idiv, 1) := by decide +kernel
theorem dX11_markAt_8 : decode cX11_markAt 8 = .ok (.istore_n 2, 1) := by decide +kernel
theorem dX11_markAt_9 : decode cX11_markAt 9 = .ok (.iload_n 1, 1) := by decide +kernel
theorem dX11_markAt_10 : decode cX11_markAt 10 = .ok (.ifCond .ne 7, 3) := by decide +kernel
theorem dX11_markAt_13 : decode cX11_markAt 13 = .ok (.iconst 0, 1) := by decide +kernel
theorem dX11_markAt_14 : decode cX11_markAt 14 = .ok (.goto 14, 3) := by decide +kernel
theorem dX11_markAt_17 : decode cX11_markAt 17 = .ok (.aload_n 0, 1) := by decide +kernel
theorem dX11_markAt_18 : decode cX11_markAt 18 = .ok (.getfield 96, 3) := by decide +kernel
theorem dX11_markAt_21 : decode cX11_markAt 21 = .ok (.aload_n 0, 1) := by decide +kernel
theorem dX11_markAt_22 : decode cX11_markAt 22 = .ok (.getfield 99, 3) := by decide +kernel
theorem dX11_markAt_25 : decode cX11_markAt 25 = .ok (.iload_n 1, 1) := by decide +kernel
theorem dX11_markAt_26 : decode cX11_markAt 26 = .ok (.iaload, 1) := by decide +kernel
theorem dX11_markAt_27 : decode cX11_markAt 27 = .ok (.iaload, 1) := by decide +kernel
theorem dX11_markAt_28 : decode cX11_markAt 28 = .ok (.istore_n 3, 1) := by decide +kernel
theorem dX11_markAt_29 : decode cX11_markAt 29 = .ok (.iload_n 3, 1) := by decide +kernel
theorem dX11_markAt_30 : decode cX11_markAt 30 = .ok (.iconst 2, 1) := by decide +kernel
theorem dX11_markAt_31 : decode cX11_markAt 31 = .ok (.if_icmp .eq 13, 3) := by decide +kernel
theorem dX11_markAt_34 : decode cX11_markAt 34 = .ok (.iload_n 3, 1) := by decide +kernel
theorem dX11_markAt_35 : decode cX11_markAt 35 = .ok (.iconst 5, 1) := by decide +kernel
theorem dX11_markAt_36 : decode cX11_markAt 36 = .ok (.if_icmp .eq 8, 3) := by decide +kernel
theorem dX11_markAt_39 : decode cX11_markAt 39 = .ok (.iload_n 3, 1) := by decide +kernel
theorem dX11_markAt_40 : decode cX11_markAt 40 = .ok (.iconst 4, 1) := by decide +kernel
theorem dX11_markAt_41 : decode cX11_markAt 41 = .ok (.if_icmp .ne 15, 3) := by decide +kernel
theorem dX11_markAt_44 : decode cX11_markAt 44 = .ok (.aload_n 0, 1) := by decide +kernel
theorem dX11_markAt_45 : decode cX11_markAt 45 = .ok (.iload_n 2, 1) := by decide +kernel
theorem dX11_markAt_46 : decode cX11_markAt 46 = .ok (.invokevirtual 299, 3) := by decide +kernel
theorem dX11_markAt_49 : decode cX11_markAt 49 = .ok (.ifCond .ne 7, 3) := by decide +kernel
theorem dX11_markAt_52 : decode cX11_markAt 52 = .ok (.iconst 1, 1) := by decide +kernel
theorem dX11_markAt_53 : decode cX11_markAt 53 = .ok (.goto 4, 3) := by decide +kernel
theorem dX11_markAt_56 : decode cX11_markAt 56 = .ok (.iconst 0, 1) := by decide +kernel
theorem dX11_markAt_57 : decode cX11_markAt 57 = .ok (.istore 4, 2) := by decide +kernel
theorem dX11_markAt_59 : decode cX11_markAt 59 = .ok (.iload 4, 2) := by decide +kernel
theorem dX11_markAt_61 : decode cX11_markAt 61 = .ok (.ifCond .eq 22, 3) := by decide +kernel
theorem dX11_markAt_64 : decode cX11_markAt 64 = .ok (.aload_n 0, 1) := by decide +kernel
theorem dX11_markAt_65 : decode cX11_markAt 65 = .ok (.aload_n 0, 1) := by decide +kernel
theorem dX11_markAt_66 : decode cX11_markAt 66 = .ok (.getfield 99, 3) := by decide +kernel
theorem dX11_markAt_69 : decode cX11_markAt 69 = .ok (.iload_n 1, 1) := by decide +kernel
theorem dX11_markAt_70 : decode cX11_markAt 70 = .ok (.iconst 1, 1) := by decide +kernel
theorem dX11_markAt_71 : decode cX11_markAt 71 = .ok (.isub, 1) := by decide +kernel
theorem dX11_markAt_72 : decode cX11_markAt 72 = .ok (.iaload, 1) := by decide +kernel
theorem dX11_markAt_73 : decode cX11_markAt 73 = .ok (.iconst 4, 1) := by decide +kernel
theorem dX11_markAt_74 : decode cX11_markAt 74 = .ok (.idiv, 1) := by decide +kernel
theorem dX11_markAt_75 : decode cX11_markAt 75 = .ok (.iload_n 2, 1) := by decide +kernel
theorem dX11_markAt_76 : decode cX11_markAt 76 = .ok (.iload_n 3, 1) := by decide +kernel
theorem dX11_markAt_77 : decode cX11_markAt 77 = .ok (.invokevirtual 304, 3) := by decide +kernel
theorem dX11_markAt_80 : decode cX11_markAt 80 = .ok (.goto 4, 3) := by decide +kernel
theorem dX11_markAt_83 : decode cX11_markAt 83 = .ok (.iconst 0, 1) := by decide +kernel
theorem dX11_markAt_84 : decode cX11_markAt 84 = .ok (.ireturn, 1) := by decide +kernel
theorem dX11_putsLeft_0 : decode cX11_putsLeft 0 = .ok (.iconst 0, 1) := by decide +kernel
theorem dX11_putsLeft_1 : decode cX11_putsLeft 1 = .ok (.istore_n 1, 1) := by decide +kernel
theorem dX11_putsLeft_2 : decode cX11_putsLeft 2 = .ok (.iload_n 1, 1) := by decide +kernel
theorem dX11_putsLeft_3 : decode cX11_putsLeft 3 = .ok (.aload_n 0, 1) := by decide +kernel
theorem dX11_putsLeft_4 : decode cX11_putsLeft 4 = .ok (.getfield 339, 3) := by decide +kernel
theorem dX11_putsLeft_7 : decode cX11_putsLeft 7 = .ok (.if_icmp .gt 29, 3) := by decide +kernel
theorem dX11_putsLeft_10 : decode cX11_putsLeft 10 = .ok (.aload_n 0, 1) := by decide +kernel
theorem dX11_putsLeft_11 : decode cX11_putsLeft 11 = .ok (.iload_n 1, 1) := by decide +kernel
theorem dX11_putsLeft_12 : decode cX11_putsLeft 12 = .ok (.invokevirtual 393, 3) := by decide +kernel
theorem dX11_putsLeft_15 : decode cX11_putsLeft 15 = .ok (.iconst 1, 1) := by decide +kernel
theorem dX11_putsLeft_16 : decode cX11_putsLeft 16 = .ok (.if_icmp .ne 14, 3) := by decide +kernel
theorem dX11_putsLeft_19 : decode cX11_putsLeft 19 = .ok (.aload_n 0, 1) := by decide +kernel
theorem dX11_putsLeft_20 : decode cX11_putsLeft 20 = .ok (.iload_n 1, 1) := by decide +kernel
theorem dX11_putsLeft_21 : decode cX11_putsLeft 21 = .ok (.invokevirtual 396, 3) := by decide +kernel
theorem dX11_putsLeft_24 : decode cX11_putsLeft 24 = .ok (.aload_n 0, 1) := by decide +kernel
theorem dX11_putsLeft_25 : decode cX11_putsLeft 25 = .ok (.bipush 33, 2) := by decide +kernel
theorem dX11_putsLeft_27 : decode cX11_putsLeft 27 = .ok (.invokevirtual 399, 3) := by decide +kernel
theorem dX11_putsLeft_30 : decode cX11_putsLeft 30 = .ok (.iinc 1 1, 3) := by decide +kernel
theorem dX11_putsLeft_33 : decode cX11_putsLeft 33 = .ok (.goto (-31), 3) := by decide +kernel
theorem dX11_putsLeft_36 : decode cX11_putsLeft 36 = .ok (.return_, 1) := by decide +kernel
theorem dX11_putsRight_0 : decode cX11_putsRight 0 = .ok (.aload_n 0, 1) := by decide +kernel
theorem dX11_putsRight_1 : decode cX11_putsRight 1 = .ok (.getfield 339, 3) := by decide +kernel
theorem dX11_putsRight_4 : decode cX11_putsRight 4 = .ok (.istore_n 1, 1) := by decide +kernel
theorem dX11_putsRight_5 : decode cX11_putsRight 5 = .ok (.iload_n 1, 1) := by decide +kernel
theorem dX11_putsRight_6 : decode cX11_putsRight 6 = .ok (.ifCond .lt 29, 3) := by decide +kernel
theorem dX11_putsRight_9 : decode cX11_putsRight 9 = .ok (.aload_n 0, 1) := by decide +kernel
theorem dX11_putsRight_10 : decode cX11_putsRight 10 = .ok (.iload_n 1, 1) := by decide +kernel
theorem dX11_putsRight_11 : decode cX11_putsRight 11 = .ok (.invokevirtual 393, 3) := by decide +kernel
theorem dX11_putsRight_14 : decode cX11_putsRight 14 = .ok (.iconst 2, 1) := by decide +kernel
theorem dX11_putsRight_15 : decode cX11_putsRight 15 = .ok (.if_icmp .ne 14, 3) := by decide +kernel
theorem dX11_putsRight_18 : decode cX11_putsRight 18 = .ok (.aload_n 0, 1) := by decide +kernel
theorem dX11_putsRight_19 : decode cX11_putsRight 19 = .ok (.bipush 64, 2) := by decide +kernel
theorem dX11_putsRight_21 : decode cX11_putsRight 21 = .ok (.invokevirtual 399, 3) := by decide +kernel
theorem dX11_putsRight_24 : decode cX11_putsRight 24 = .ok (.aload_n 0, 1) := by decide +kernel
theorem dX11_putsRight_25 : decode cX11_putsRight 25 = .ok (.iload_n 1, 1) := by decide +kernel
theorem dX11_putsRight_26 : decode cX11_putsRight 26 = .ok (.invokevirtual 396, 3) := by decide +kernel
theorem dX11_putsRight_29 : decode cX11_putsRight 29 = .ok (.iinc 1 (-1), 3) := by decide +kernel
theorem dX11_putsRight_32 : decode cX11_putsRight 32 = .ok (.goto (-27), 3) := by decide +kernel
theorem dX11_putsRight_35 : decode cX11_putsRight 35 = .ok (.return_, 1) := by decide +kernel
theorem dX11_print_0 : decode cX11_print 0 = .ok (.aload_n 0, 1) := by decide +kernel
theorem dX11_print_1 : decode cX11_print 1 = .ok (.iload_n 1, 1) := by decide +kernel
theorem dX11_print_2 : decode cX11_print 2 = .ok (.invokevirtual 371, 3) := by decide +kernel
theorem dX11_print_5 : decode cX11_print 5 = .ok (.ifCond .ne 5, 3) := by decide +kernel
theorem dX11_print_8 : decode cX11_print 8 = .ok (.iconst 0, 1) := by decide +kernel
theorem dX11_print_9 : decode cX11_print 9 = .ok (.ireturn, 1) := by decide +kernel
theorem dX11_print_10 : decode cX11_print 10 = .ok (.aload_n 0, 1) := by decide +kernel
theorem dX11_print_11 : decode cX11_print 11 = .ok (.iconst 0, 1) := by decide +kernel
theorem dX11_print_12 : decode cX11_print 12 = .ok (.putfield 374, 3) := by decide +kernel
theorem dX11_print_15 : decode cX11_print 15 = .ok (.aload_n 0, 1) := by decide +kernel
theorem dX11_print_16 : decode cX11_print 16 = .ok (.iload_n 1, 1) := by decide +kernel
theorem dX11_print_17 : decode cX11_print 17 = .ok (.invokevirtual 336, 3) := by decide +kernel
theorem dX11_print_20 : decode cX11_print 20 = .ok (.iconst (-1), 1) := by decide +kernel
theorem dX11_print_21 : decode cX11_print 21 = .ok (.if_icmp .eq 22, 3) := by decide +kernel
theorem dX11_print_24 : decode cX11_print 24 = .ok (.aload_n 0, 1) := by decide +kernel
theorem dX11_print_25 : decode cX11_print 25 = .ok (.iload_n 1, 1) := by decide +kernel
theorem dX11_print_26 : decode cX11_print 26 = .ok (.invokevirtual 386, 3) := by decide +kernel
theorem dX11_print_29 : decode cX11_print 29 = .ok (.aload_n 0, 1) := by decide +kernel
theorem dX11_print_30 : decode cX11_print 30 = .ok (.invokevirtual 402, 3) := by decide +kernel
theorem dX11_print_33 : decode cX11_print 33 = .ok (.aload_n 0, 1) := by decide +kernel
theorem dX11_print_34 : decode cX11_print 34 = .ok (.bipush 37, 2) := by decide +kernel
theorem dX11_print_36 : decode cX11_print 36 = .ok (.invokevirtual 399, 3) := by decide +kernel
theorem dX11_print_39 : decode cX11_print 39 = .ok (.aload_n 0, 1) := by decide +kernel
theorem dX11_print_40 : decode cX11_print 40 = .ok (.invokevirtual 405, 3) := by decide +kernel
theorem dX11_print_43 : decode cX11_print 43 = .ok (.aload_n 0, 1) := by decide +kernel
theorem dX11_print_44 : decode cX11_print 44 = .ok (.getfield 374, 3) := by decide +kernel
theorem dX11_print_47 : decode cX11_print 47 = .ok (.ireturn, 1) := by decide +kernel
theorem dX11_nameLength_0 : decode cX11_nameLength 0 = .ok (.iconst 0, 1) := by decide +kernel
theorem dX11_nameLength_1 : decode cX11_nameLength 1 = .ok (.istore_n 2, 1) := by decide +kernel
theorem dX11_nameLength_2 : decode cX11_nameLength 2 = .ok (.aload_n 0, 1) := by decide +kernel
theorem dX11_nameLength_3 : decode cX11_nameLength 3 = .ok (.getfield 47, 3) := by decide +kernel
theorem dX11_nameLength_6 : decode cX11_nameLength 6 = .ok (.iload_n 1, 1) := by decide +kernel
theorem dX11_nameLength_7 : decode cX11_nameLength 7 = .ok (.laload, 1) := by decide +kernel
theorem dX11_nameLength_8 : decode cX11_nameLength 8 = .ok (.lstore_n 3, 1) := by decide +kernel
theorem dX11_nameLength_9 : decode cX11_nameLength 9 = .ok (.lload_n 3, 1) := by decide +kernel
theorem dX11_nameLength_10 : decode cX11_nameLength 10 = .ok (.lconst 0, 1) := by decide +kernel
theorem dX11_nameLength_11 : decode cX11_nameLength 11 = .ok (.lcmp, 1) := by decide +kernel
theorem dX11_nameLength_12 : decode cX11_nameLength 12 = .ok (.ifCond .eq 14, 3) := by decide +kernel
theorem dX11_nameLength_15 : decode cX11_nameLength 15 = .ok (.iinc 2 1, 3) := by decide +kernel
theorem dX11_nameLength_18 : decode cX11_nameLength 18 = .ok (.lload_n 3, 1) := by decide +kernel
theorem dX11_nameLength_19 : decode cX11_nameLength 19 = .ok (.bipush 8, 2) := by decide +kernel
theorem dX11_nameLength_21 : decode cX11_nameLength 21 = .ok (.lshr, 1) := by decide +kernel
theorem dX11_nameLength_22 : decode cX11_nameLength 22 = .ok (.lstore_n 3, 1) := by decide +kernel
theorem dX11_nameLength_23 : decode cX11_nameLength 23 = .ok (.goto (-14), 3) := by decide +kernel
theorem dX11_nameLength_26 : decode cX11_nameLength 26 = .ok (.iload_n 2, 1) := by decide +kernel
theorem dX11_nameLength_27 : decode cX11_nameLength 27 = .ok (.ireturn, 1) := by decide +kernel
theorem dX11_endsWith_0 : decode cX11_endsWith 0 = .ok (.aload_n 0, 1) := by decide +kernel
theorem dX11_endsWith_1 : decode cX11_endsWith 1 = .ok (.iload_n 3, 1) := by decide +kernel
theorem dX11_endsWith_2 : decode cX11_endsWith 2 = .ok (.invokevirtual 408, 3) := by decide +kernel
theorem dX11_endsWith_5 : decode cX11_endsWith 5 = .ok (.istore 4, 2) := by decide +kernel
theorem dX11_endsWith_7 : decode cX11_endsWith 7 = .ok (.iload_n 2, 1) := by decide +kernel
theorem dX11_endsWith_8 : decode cX11_endsWith 8 = .ok (.iload_n 1, 1) := by decide +kernel
theorem dX11_endsWith_9 : decode cX11_endsWith 9 = .ok (.isub, 1) := by decide +kernel
theorem dX11_endsWith_10 : decode cX11_endsWith 10 = .ok (.iload 4, 2) := by decide +kernel
theorem dX11_endsWith_12 : decode cX11_endsWith 12 = .ok (.if_icmp .lt 7, 3) := by decide +kernel
theorem dX11_endsWith_15 : decode cX11_endsWith 15 = .ok (.iconst 1, 1) := by decide +kernel
theorem dX11_endsWith_16 : decode cX11_endsWith 16 = .ok (.goto 4, 3) := by decide +kernel
theorem dX11_endsWith_19 : decode cX11_endsWith 19 = .ok (.iconst 0, 1) := by decide +kernel
theorem dX11_endsWith_20 : decode cX11_endsWith 20 = .ok (.istore 5, 2) := by decide +kernel
theorem dX11_endsWith_22 : decode cX11_endsWith 22 = .ok (.iconst 0, 1) := by decide +kernel
theorem dX11_endsWith_23 : decode cX11_endsWith 23 = .ok (.istore 6, 2) := by decide +kernel
theorem dX11_endsWith_25 : decode cX11_endsWith 25 = .ok (.iload 6, 2) := by decide +kernel
theorem dX11_endsWith_27 : decode cX11_endsWith 27 = .ok (.iload 4, 2) := by decide +kernel
theorem dX11_endsWith_29 : decode cX11_endsWith 29 = .ok (.if_icmp .ge 57, 3) := by decide +kernel
theorem dX11_endsWith_32 : decode cX11_endsWith 32 = .ok (.iload 5, 2) := by decide +kernel
theorem dX11_endsWith_34 : decode cX11_endsWith 34 = .ok (.ifCond .eq 52, 3) := by decide +kernel
theorem dX11_endsWith_37 : decode cX11_endsWith 37 = .ok (.aload_n 0, 1) := by decide +kernel
theorem dX11_endsWith_38 : decode cX11_endsWith 38 = .ok (.getfield 7, 3) := by decide +kernel
theorem dX11_endsWith_41 : decode cX11_endsWith 41 = .ok (.sipush 2400, 3) := by decide +kernel
theorem dX11_endsWith_44 : decode cX11_endsWith 44 = .ok (.iload_n 2, 1) := by decide +kernel
theorem dX11_endsWith_45 : decode cX11_endsWith 45 = .ok (.iadd, 1) := by decide +kernel
theorem dX11_endsWith_46 : decode cX11_endsWith 46 = .ok (.iload 4, 2) := by decide +kernel
theorem dX11_endsWith_48 : decode cX11_endsWith 48 = .ok (.isub, 1) := by decide +kernel
theorem dX11_endsWith_49 : decode cX11_endsWith 49 = .ok (.iload 6, 2) := by decide +kernel
theorem dX11_endsWith_51 : decode cX11_endsWith 51 = .ok (.iadd, 1) := by decide +kernel
theorem dX11_endsWith_52 : decode cX11_endsWith 52 = .ok (.iaload, 1) := by decide +kernel
theorem dX11_endsWith_53 : decode cX11_endsWith 53 = .ok (.aload_n 0, 1) := by decide +kernel
theorem dX11_endsWith_54 : decode cX11_endsWith 54 = .ok (.getfield 47, 3) := by decide +kernel
theorem dX11_endsWith_57 : decode cX11_endsWith 57 = .ok (.iload_n 3, 1) := by decide +kernel
theorem dX11_endsWith_58 : decode cX11_endsWith 58 = .ok (.laload, 1) := by decide +kernel
theorem dX11_endsWith_59 : decode cX11_endsWith 59 = .ok (.bipush 8, 2) := by decide +kernel
theorem dX11_endsWith_61 : decode cX11_endsWith 61 = .ok (.iload 6, 2) := by decide +kernel
theorem dX11_endsWith_63 : decode cX11_endsWith 63 = .ok (.imul, 1) := by decide +kernel
theorem dX11_endsWith_64 : decode cX11_endsWith 64 = .ok (.lshr, 1) := by decide +kernel
theorem dX11_endsWith_65 : decode cX11_endsWith 65 = .ok (.ldc2_w 294, 3) := by decide +kernel
theorem dX11_endsWith_68 : decode cX11_endsWith 68 = .ok (.land, 1) := by decide +kernel
theorem dX11_endsWith_69 : decode cX11_endsWith 69 = .ok (.l2i, 1) := by decide +kernel
theorem dX11_endsWith_70 : decode cX11_endsWith 70 = .ok (.if_icmp .ne 7, 3) := by decide +kernel
theorem dX11_endsWith_73 : decode cX11_endsWith 73 = .ok (.iconst 1, 1) := by decide +kernel
theorem dX11_endsWith_74 : decode cX11_endsWith 74 = .ok (.goto 4, 3) := by decide +kernel
theorem dX11_endsWith_77 : decode cX11_endsWith 77 = .ok (.iconst 0, 1) := by decide +kernel
theorem dX11_endsWith_78 : decode cX11_endsWith 78 = .ok (.istore 5, 2) := by decide +kernel
theorem dX11_endsWith_80 : decode cX11_endsWith 80 = .ok (.iinc 6 1, 3) := by decide +kernel
theorem dX11_endsWith_83 : decode cX11_endsWith 83 = .ok (.goto (-58), 3) := by decide +kernel
theorem dX11_endsWith_86 : decode cX11_endsWith 86 = .ok (.iload 5, 2) := by decide +kernel
theorem dX11_endsWith_88 : decode cX11_endsWith 88 = .ok (.ireturn, 1) := by decide +kernel
theorem dX11_known_0 : decode cX11_known 0 = .ok (.iconst (-1), 1) := by decide +kernel
theorem dX11_known_1 : decode cX11_known 1 = .ok (.istore_n 3, 1) := by decide +kernel
theorem dX11_known_2 : decode cX11_known 2 = .ok (.iconst 0, 1) := by decide +kernel
theorem dX11_known_3 : decode cX11_known 3 = .ok (.istore 4, 2) := by decide +kernel
theorem dX11_known_5 : decode cX11_known 5 = .ok (.iconst 0, 1) := by decide +kernel
theorem dX11_known_6 : decode cX11_known 6 = .ok (.istore 5, 2) := by decide +kernel
theorem dX11_known_8 : decode cX11_known 8 = .ok (.iload 5, 2) := by decide +kernel
theorem dX11_known_10 : decode cX11_known 10 = .ok (.aload_n 0, 1) := by decide +kernel
theorem dX11_known_11 : decode cX11_known 11 = .ok (.getfield 272, 3) := by decide +kernel
theorem dX11_known_14 : decode cX11_known 14 = .ok (.if_icmp .ge 152, 3) := by decide +kernel
theorem dX11_known_17 : decode cX11_known 17 = .ok (.aload_n 0, 1) := by decide +kernel
theorem dX11_known_18 : decode cX11_known 18 = .ok (.getfield 50, 3) := by decide +kernel
theorem dX11_known_21 : decode cX11_known 21 = .ok (.iload 5, 2) := by decide +kernel
theorem dX11_known_23 : decode cX11_known 23 = .ok (.iaload, 1) := by decide +kernel
theorem dX11_known_24 : decode cX11_known 24 = .ok (.iconst (-1), 1) := by decide +kernel
theorem dX11_known_25 : decode cX11_known 25 = .ok (.if_icmp .ne 28, 3) := by decide +kernel
theorem dX11_known_28 : decode cX11_known 28 = .ok (.aload_n 0, 1) := by decide +kernel
theorem dX11_known_29 : decode cX11_known 29 = .ok (.iload 5, 2) := by decide +kernel
theorem dX11_known_31 : decode cX11_known 31 = .ok (.invokevirtual 336, 3) := by decide +kernel
theorem dX11_known_34 : decode cX11_known 34 = .ok (.iconst (-1), 1) := by decide +kernel
theorem dX11_known_35 : decode cX11_known 35 = .ok (.if_icmp .eq 18, 3) := by decide +kernel
theorem dX11_known_38 : decode cX11_known 38 = .ok (.aload_n 0, 1) := by decide +kernel
theorem dX11_known_39 : decode cX11_known 39 = .ok (.iload_n 1, 1) := by decide +kernel
theorem dX11_known_40 : decode cX11_known 40 = .ok (.iload_n 2, 1) := by decide +kernel
theorem dX11_known_41 : decode cX11_known 41 = .ok (.iload 5, 2) := by decide +kernel
theorem dX11_known_43 : decode cX11_known 43 = .ok (.invokevirtual 411, 3) := by decide +kernel
theorem dX11_known_46 : decode cX11_known 46 = .ok (.ifCond .eq 7, 3) := by decide +kernel
theorem dX11_known_49 : decode cX11_known 49 = .ok (.iconst 1, 1) := by decide +kernel
theorem dX11_known_50 : decode cX11_known 50 = .ok (.goto 4, 3) := by decide +kernel
theorem dX11_known_53 : decode cX11_known 53 = .ok (.iconst 0, 1) := by decide +kernel
theorem dX11_known_54 : decode cX11_known 54 = .ok (.istore 6, 2) := by decide +kernel
theorem dX11_known_56 : decode cX11_known 56 = .ok (.iload 6, 2) := by decide +kernel
theorem dX11_known_58 : decode cX11_known 58 = .ok (.ifCond .eq 19, 3) := by decide +kernel
theorem dX11_known_61 : decode cX11_known 61 = .ok (.aload_n 0, 1) := by decide +kernel
theorem dX11_known_62 : decode cX11_known 62 = .ok (.iload 5, 2) := by decide +kernel
theorem dX11_known_64 : decode cX11_known 64 = .ok (.invokevirtual 408, 3) := by decide +kernel
theorem dX11_known_67 : decode cX11_known 67 = .ok (.iload_n 2, 1) := by decide +kernel
theorem dX11_known_68 : decode cX11_known 68 = .ok (.iload_n 1, 1) := by decide +kernel
theorem dX11_known_69 : decode cX11_known 69 = .ok (.isub, 1) := by decide +kernel
theorem dX11_known_70 : decode cX11_known 70 = .ok (.if_icmp .ne 7, 3) := by decide +kernel
theorem dX11_known_73 : decode cX11_known 73 = .ok (.iconst 1, 1) := by decide +kernel
theorem dX11_known_74 : decode cX11_known 74 = .ok (.goto 4, 3) := by decide +kernel
theorem dX11_known_77 : decode cX11_known 77 = .ok (.iconst 0, 1) := by decide +kernel
theorem dX11_known_78 : decode cX11_known 78 = .ok (.istore 7, 2) := by decide +kernel
theorem dX11_known_80 : decode cX11_known 80 = .ok (.iload 6, 2) := by decide +kernel
theorem dX11_known_82 : decode cX11_known 82 = .ok (.ifCond .eq 36, 3) := by decide +kernel
theorem dX11_known_85 : decode cX11_known 85 = .ok (.aload_n 0, 1) := by decide +kernel
theorem dX11_known_86 : decode cX11_known 86 = .ok (.iload 5, 2) := by decide +kernel
theorem dX11_known_88 : decode cX11_known 88 = .ok (.invokevirtual 299, 3) := by decide +kernel
theorem dX11_known_91 : decode cX11_known 91 = .ok (.iconst 2, 1) := by decide +kernel
theorem dX11_known_92 : decode cX11_known 92 = .ok (.if_icmp .ne 26, 3) := by decide +kernel
theorem dX11_known_95 : decode cX11_known 95 = .ok (.iload_n 3, 1) := by decide +kernel
theorem dX11_known_96 : decode cX11_known 96 = .ok (.iconst (-1), 1) := by decide +kernel
theorem dX11_known_97 : decode cX11_known 97 = .ok (.if_icmp .eq 17, 3) := by decide +kernel
theorem dX11_known_100 : decode cX11_known 100 = .ok (.aload_n 0, 1) := by decide +kernel
theorem dX11_known_101 : decode cX11_known 101 = .ok (.iload 5, 2) := by decide +kernel
theorem dX11_known_103 : decode cX11_known 103 = .ok (.invokevirtual 408, 3) := by decide +kernel
theorem dX11_known_106 : decode cX11_known 106 = .ok (.aload_n 0, 1) := by decide +kernel
theorem dX11_known_107 : decode cX11_known 107 = .ok (.iload_n 3, 1) := by decide +kernel
theorem dX11_known_108 : decode cX11_known 108 = .ok (.invokevirtual 408, 3) := by decide +kernel
theorem dX11_known_111 : decode cX11_known 111 = .ok (.if_icmp .le 7, 3) := by decide +kernel
theorem dX11_known_114 : decode cX11_known 114 = .ok (.iconst 1, 1) := by decide +kernel
theorem dX11_known_115 : decode cX11_known 115 = .ok (.goto 4, 3) := by decide +kernel
theorem dX11_known_118 : decode cX11_known 118 = .ok (.iconst 0, 1) := by decide +kernel
theorem dX11_known_119 : decode cX11_known 119 = .ok (.istore 8, 2) := by decide +kernel
theorem dX11_known_121 : decode cX11_known 121 = .ok (.iload 7, 2) := by decide +kernel
theorem dX11_known_123 : decode cX11_known 123 = .ok (.ifCond .ne 13, 3) := by decide +kernel
theorem dX11_known_126 : decode cX11_known 126 = .ok (.iload 4, 2) := by decide +kernel
theorem dX11_known_128 : decode cX11_known 128 = .ok (.ifCond .ne 13, 3) := by decide +kernel
theorem dX11_known_131 : decode cX11_known 131 = .ok (.iload 8, 2) := by decide +kernel
theorem dX11_known_133 : decode cX11_known 133 = .ok (.ifCond .eq 8, 3) := by decide +kernel
theorem dX11_known_136 : decode cX11_known 136 = .ok (.iload 5, 2) := by decide +kernel
theorem dX11_known_138 : decode cX11_known 138 = .ok (.goto 4, 3) := by decide +kernel
theorem dX11_known_141 : decode cX11_known 141 = .ok (.iload_n 3, 1) := by decide +kernel
theorem dX11_known_142 : decode cX11_known 142 = .ok (.istore_n 3, 1) := by decide +kernel
theorem dX11_known_143 : decode cX11_known 143 = .ok (.iload 4, 2) := by decide +kernel
theorem dX11_known_145 : decode cX11_known 145 = .ok (.ifCond .ne 8, 3) := by decide +kernel
theorem dX11_known_148 : decode cX11_known 148 = .ok (.iload 7, 2) := by decide +kernel
theorem dX11_known_150 : decode cX11_known 150 = .ok (.ifCond .eq 7, 3) := by decide +kernel
theorem dX11_known_153 : decode cX11_known 153 = .ok (.iconst 1, 1) := by decide +kernel
theorem dX11_known_154 : decode cX11_known 154 = .ok (.goto 4, 3) := by decide +kernel
theorem dX11_known_157 : decode cX11_known 157 = .ok (.iconst 0, 1) := by decide +kernel
theorem dX11_known_158 : decode cX11_known 158 = .ok (.istore 4, 2) := by decide +kernel
theorem dX11_known_160 : decode cX11_known 160 = .ok (.iinc 5 1, 3) := by decide +kernel
theorem dX11_known_163 : decode cX11_known 163 = .ok (.goto (-155), 3) := by decide +kernel
theorem dX11_known_166 : decode cX11_known 166 = .ok (.iload_n 3, 1) := by decide +kernel
theorem dX11_known_167 : decode cX11_known 167 = .ok (.ireturn, 1) := by decide +kernel
theorem dX11_putsTape_0 : decode cX11_putsTape 0 = .ok (.iload_n 1, 1) := by decide +kernel
theorem dX11_putsTape_1 : decode cX11_putsTape 1 = .ok (.istore_n 3, 1) := by decide +kernel
theorem dX11_putsTape_2 : decode cX11_putsTape 2 = .ok (.iload_n 3, 1) := by decide +kernel
theorem dX11_putsTape_3 : decode cX11_putsTape 3 = .ok (.iload_n 2, 1) := by decide +kernel
theorem dX11_putsTape_4 : decode cX11_putsTape 4 = .ok (.if_icmp .ge 23, 3) := by decide +kernel
theorem dX11_putsTape_7 : decode cX11_putsTape 7 = .ok (.aload_n 0, 1) := by decide +kernel
theorem dX11_putsTape_8 : decode cX11_putsTape 8 = .ok (.aload_n 0, 1) := by decide +kernel
theorem dX11_putsTape_9 : decode cX11_putsTape 9 = .ok (.getfield 7, 3) := by decide +kernel
theorem dX11_putsTape_12 : decode cX11_putsTape 12 = .ok (.sipush 2400, 3) := by decide +kernel
theorem dX11_putsTape_15 : decode cX11_putsTape 15 = .ok (.iload_n 3, 1) := by decide +kernel
theorem dX11_putsTape_16 : decode cX11_putsTape 16 = .ok (.iadd, 1) := by decide +kernel
theorem dX11_putsTape_17 : decode cX11_putsTape 17 = .ok (.iaload, 1) := by decide +kernel
theorem dX11_putsTape_18 : decode cX11_putsTape 18 = .ok (.invokevirtual 399, 3) := by decide +kernel
theorem dX11_putsTape_21 : decode cX11_putsTape 21 = .ok (.iinc 3 1, 3) := by decide +kernel
theorem dX11_putsTape_24 : decode cX11_putsTape 24 = .ok (.goto (-22), 3) := by decide +kernel
theorem dX11_putsTape_27 : decode cX11_putsTape 27 = .ok (.return_, 1) := by decide +kernel
theorem dX11_rewrite_0 : decode cX11_rewrite 0 = .ok (.aload_n 0, 1) := by decide +kernel
theorem dX11_rewrite_1 : decode cX11_rewrite 1 = .ok (.iconst 0, 1) := by decide +kernel
theorem dX11_rewrite_2 : decode cX11_rewrite 2 = .ok (.putfield 120, 3) := by decide +kernel
theorem dX11_rewrite_5 : decode cX11_rewrite 5 = .ok (.aload_n 0, 1) := by decide +kernel
theorem dX11_rewrite_6 : decode cX11_rewrite 6 = .ok (.getfield 13, 3) := by decide +kernel
theorem dX11_rewrite_9 : decode cX11_rewrite 9 = .ok (.iconst 4, 1) := by decide +kernel
theorem dX11_rewrite_10 : decode cX11_rewrite 10 = .ok (.iaload, 1) := by decide +kernel
theorem dX11_rewrite_11 : decode cX11_rewrite 11 = .ok (.istore_n 1, 1) := by decide +kernel
theorem dX11_rewrite_12 : decode cX11_rewrite 12 = .ok (.iconst 0, 1) := by decide +kernel
theorem dX11_rewrite_13 : decode cX11_rewrite 13 = .ok (.istore_n 2, 1) := by decide +kernel
theorem dX11_rewrite_14 : decode cX11_rewrite 14 = .ok (.iconst (-1), 1) := by decide +kernel
theorem dX11_rewrite_15 : decode cX11_rewrite 15 = .ok (.istore_n 3, 1) := by decide +kernel
theorem dX11_rewrite_16 : decode cX11_rewrite 16 = .ok (.iconst 0, 1) := by decide +kernel
theorem dX11_rewrite_17 : decode cX11_rewrite 17 = .ok (.istore 4, 2) := by decide +kernel
theorem dX11_rewrite_19 : decode cX11_rewrite 19 = .ok (.iconst 0, 1) := by decide +kernel
theorem dX11_rewrite_20 : decode cX11_rewrite 20 = .ok (.istore 5, 2) := by decide +kernel
theorem dX11_rewrite_22 : decode cX11_rewrite 22 = .ok (.iconst 0, 1) := by decide +kernel
theorem dX11_rewrite_23 : decode cX11_rewrite 23 = .ok (.istore 6, 2) := by decide +kernel
theorem dX11_rewrite_25 : decode cX11_rewrite 25 = .ok (.iload 6, 2) := by decide +kernel
theorem dX11_rewrite_27 : decode cX11_rewrite 27 = .ok (.iload_n 1, 1) := by decide +kernel
theorem dX11_rewrite_28 : decode cX11_rewrite 28 = .ok (.if_icmp .ge 81, 3) := by decide +kernel
theorem dX11_rewrite_31 : decode cX11_rewrite 31 = .ok (.aload_n 0, 1) := by decide +kernel
theorem dX11_rewrite_32 : decode cX11_rewrite 32 = .ok (.getfield 7, 3) := by decide +kernel
theorem dX11_rewrite_35 : decode cX11_rewrite 35 = .ok (.sipush 2400, 3) := by decide +kernel
theorem dX11_rewrite_38 : decode cX11_rewrite 38 = .ok (.iload 6, 2) := by decide +kernel
theorem dX11_rewrite_40 : decode cX11_rewrite 40 = .ok (.iadd, 1) := by decide +kernel
theorem dX11_rewrite_41 : decode cX11_rewrite 41 = .ok (.iaload, 1) := by decide +kernel
theorem dX11_rewrite_42 : decode cX11_rewrite 42 = .ok (.bipush 33, 2) := by decide +kernel
theorem dX11_rewrite_44 : decode cX11_rewrite 44 = .ok (.if_icmp .ne 59, 3) := by decide +kernel
theorem dX11_rewrite_47 : decode cX11_rewrite 47 = .ok (.aload_n 0, 1) := by decide +kernel
theorem dX11_rewrite_48 : decode cX11_rewrite 48 = .ok (.iload_n 2, 1) := by decide +kernel
theorem dX11_rewrite_49 : decode cX11_rewrite 49 = .ok (.iload 6, 2) := by decide +kernel
theorem dX11_rewrite_51 : decode cX11_rewrite 51 = .ok (.invokevirtual 414, 3) := by decide +kernel
theorem dX11_rewrite_54 : decode cX11_rewrite 54 = .ok (.istore 7, 2) := by decide +kernel
theorem dX11_rewrite_56 : decode cX11_rewrite 56 = .ok (.iload 7, 2) := by decide +kernel
theorem dX11_rewrite_58 : decode cX11_rewrite 58 = .ok (.iconst (-1), 1) := by decide +kernel
theorem dX11_rewrite_59 : decode cX11_rewrite 59 = .ok (.if_icmp .ne 7, 3) := by decide +kernel
theorem dX11_rewrite_62 : decode cX11_rewrite 62 = .ok (.iload_n 3, 1) := by decide +kernel
theorem dX11_rewrite_63 : decode cX11_rewrite 63 = .ok (.goto 5, 3) := by decide +kernel
theorem dX11_rewrite_66 : decode cX11_rewrite 66 = .ok (.iload 7, 2) := by decide +kernel
theorem dX11_rewrite_68 : decode cX11_rewrite 68 = .ok (.istore_n 3, 1) := by decide +kernel
theorem dX11_rewrite_69 : decode cX11_rewrite 69 = .ok (.iload 7, 2) := by decide +kernel
theorem dX11_rewrite_71 : decode cX11_rewrite 71 = .ok (.iconst (-1), 1) := by decide +kernel
theorem dX11_rewrite_72 : decode cX11_rewrite 72 = .ok (.if_icmp .ne 8, 3) := by decide +kernel
theorem dX11_rewrite_75 : decode cX11_rewrite 75 = .ok (.iload 4, 2) := by decide +kernel
theorem dX11_rewrite_77 : decode cX11_rewrite 77 = .ok (.goto 4, 3) := by decide +kernel
theorem dX11_rewrite_80 : decode cX11_rewrite 80 = .ok (.iload_n 2, 1) := by decide +kernel
theorem dX11_rewrite_81 : decode cX11_rewrite 81 = .ok (.istore 4, 2) := by decide +kernel
theorem dX11_rewrite_83 : decode cX11_rewrite 83 = .ok (.iload 7, 2) := by decide +kernel
theorem dX11_rewrite_85 : decode cX11_rewrite 85 = .ok (.iconst (-1), 1) := by decide +kernel
theorem dX11_rewrite_86 : decode cX11_rewrite 86 = .ok (.if_icmp .ne 8, 3) := by decide +kernel
theorem dX11_rewrite_89 : decode cX11_rewrite 89 = .ok (.iload 5, 2) := by decide +kernel
theorem dX11_rewrite_91 : decode cX11_rewrite 91 = .ok (.goto 5, 3) := by decide +kernel
theorem dX11_rewrite_94 : decode cX11_rewrite 94 = .ok (.iload 6, 2) := by decide +kernel
theorem dX11_rewrite_96 : decode cX11_rewrite 96 = .ok (.istore 5, 2) := by decide +kernel
theorem dX11_rewrite_98 : decode cX11_rewrite 98 = .ok (.iload 6, 2) := by decide +kernel
theorem dX11_rewrite_100 : decode cX11_rewrite 100 = .ok (.iconst 1, 1) := by decide +kernel
theorem dX11_rewrite_101 : decode cX11_rewrite 101 = .ok (.iadd, 1) := by decide +kernel
theorem dX11_rewrite_102 : decode cX11_rewrite 102 = .ok (.istore_n 2, 1) := by decide +kernel
theorem dX11_rewrite_103 : decode cX11_rewrite 103 = .ok (.iinc 6 1, 3) := by decide +kernel
theorem dX11_rewrite_106 : decode cX11_rewrite 106 = .ok (.goto (-81), 3) := by decide +kernel
theorem dX11_rewrite_109 : decode cX11_rewrite 109 = .ok (.aload_n 0, 1) := by decide +kernel
theorem dX11_rewrite_110 : decode cX11_rewrite 110 = .ok (.iconst 0, 1) := by decide +kernel
theorem dX11_rewrite_111 : decode cX11_rewrite 111 = .ok (.putfield 374, 3) := by decide +kernel
theorem dX11_rewrite_114 : decode cX11_rewrite 114 = .ok (.iload_n 3, 1) := by decide +kernel
theorem dX11_rewrite_115 : decode cX11_rewrite 115 = .ok (.iconst (-1), 1) := by decide +kernel
theorem dX11_rewrite_116 : decode cX11_rewrite 116 = .ok (.if_icmp .ne 12, 3) := by decide +kernel
theorem dX11_rewrite_119 : decode cX11_rewrite 119 = .ok (.aload_n 0, 1) := by decide +kernel
theorem dX11_rewrite_120 : decode cX11_rewrite 120 = .ok (.iconst 0, 1) := by decide +kernel
theorem dX11_rewrite_121 : decode cX11_rewrite 121 = .ok (.iload_n 1, 1) := by decide +kernel
theorem dX11_rewrite_122 : decode cX11_rewrite 122 = .ok (.invokevirtual 417, 3) := by decide +kernel
theorem dX11_rewrite_125 : decode cX11_rewrite 125 = .ok (.goto 52, 3) := by decide +kernel
theorem dX11_rewrite_128 : decode cX11_rewrite 128 = .ok (.aload_n 0, 1) := by decide +kernel
theorem dX11_rewrite_129 : decode cX11_rewrite 129 = .ok (.iload_n 3, 1) := by decide +kernel
theorem dX11_rewrite_130 : decode cX11_rewrite 130 = .ok (.invokevirtual 386, 3) := by decide +kernel
theorem dX11_rewrite_133 : decode cX11_rewrite 133 = .ok (.aload_n 0, 1) := by decide +kernel
theorem dX11_rewrite_134 : decode cX11_rewrite 134 = .ok (.invokevirtual 402, 3) := by decide +kernel
theorem dX11_rewrite_137 : decode cX11_rewrite 137 = .ok (.aload_n 0, 1) := by decide +kernel
theorem dX11_rewrite_138 : decode cX11_rewrite 138 = .ok (.iload_n 3, 1) := by decide +kernel
theorem dX11_rewrite_139 : decode cX11_rewrite 139 = .ok (.invokevirtual 408, 3) := by decide +kernel
theorem dX11_rewrite_142 : decode cX11_rewrite 142 = .ok (.iload 5, 2) := by decide +kernel
theorem dX11_rewrite_144 : decode cX11_rewrite 144 = .ok (.iload 4, 2) := by decide +kernel
theorem dX11_rewrite_146 : decode cX11_rewrite 146 = .ok (.isub, 1) := by decide +kernel
theorem dX11_rewrite_147 : decode cX11_rewrite 147 = .ok (.if_icmp .ge 17, 3) := by decide +kernel
theorem dX11_rewrite_150 : decode cX11_rewrite 150 = .ok (.aload_n 0, 1) := by decide +kernel
theorem dX11_rewrite_151 : decode cX11_rewrite 151 = .ok (.iload 4, 2) := by decide +kernel
theorem dX11_rewrite_153 : decode cX11_rewrite 153 = .ok (.iload 5, 2) := by decide +kernel
theorem dX11_rewrite_155 : decode cX11_rewrite 155 = .ok (.invokevirtual 417, 3) := by decide +kernel
theorem dX11_rewrite_158 : decode cX11_rewrite 158 = .ok (.aload_n 0, 1) := by decide +kernel
theorem dX11_rewrite_159 : decode cX11_rewrite 159 = .ok (.bipush 33, 2) := by decide +kernel
theorem dX11_rewrite_161 : decode cX11_rewrite 161 = .ok (.invokevirtual 399, 3) := by decide +kernel
theorem dX11_rewrite_164 : decode cX11_rewrite 164 = .ok (.aload_n 0, 1) := by decide +kernel
theorem dX11_rewrite_165 : decode cX11_rewrite 165 = .ok (.iload 5, 2) := by decide +kernel
theorem dX11_rewrite_167 : decode cX11_rewrite 167 = .ok (.iconst 1, 1) := by decide +kernel
theorem dX11_rewrite_168 : decode cX11_rewrite 168 = .ok (.iadd, 1) := by decide +kernel
theorem dX11_rewrite_169 : decode cX11_rewrite 169 = .ok (.iload_n 1, 1) := by decide +kernel
theorem dX11_rewrite_170 : decode cX11_rewrite 170 = .ok (.invokevirtual 417, 3) := by decide +kernel
theorem dX11_rewrite_173 : decode cX11_rewrite 173 = .ok (.aload_n 0, 1) := by decide +kernel
theorem dX11_rewrite_174 : decode cX11_rewrite 174 = .ok (.invokevirtual 405, 3) := by decide +kernel
theorem dX11_rewrite_177 : decode cX11_rewrite 177 = .ok (.aload_n 0, 1) := by decide +kernel
theorem dX11_rewrite_178 : decode cX11_rewrite 178 = .ok (.getfield 13, 3) := by decide +kernel
theorem dX11_rewrite_181 : decode cX11_rewrite 181 = .ok (.iconst 4, 1) := by decide +kernel
theorem dX11_rewrite_182 : decode cX11_rewrite 182 = .ok (.iconst 0, 1) := by decide +kernel
theorem dX11_rewrite_183 : decode cX11_rewrite 183 = .ok (.iastore, 1) := by decide +kernel
theorem dX11_rewrite_184 : decode cX11_rewrite 184 = .ok (.aload_n 0, 1) := by decide +kernel
theorem dX11_rewrite_185 : decode cX11_rewrite 185 = .ok (.getfield 374, 3) := by decide +kernel
theorem dX11_rewrite_188 : decode cX11_rewrite 188 = .ok (.ireturn, 1) := by decide +kernel
theorem dX11_word_0 : decode cX11_word 0 = .ok (.aload_n 0, 1) := by decide +kernel
theorem dX11_word_1 : decode cX11_word 1 = .ok (.iconst 0, 1) := by decide +kernel
theorem dX11_word_2 : decode cX11_word 2 = .ok (.putfield 120, 3) := by decide +kernel
theorem dX11_word_5 : decode cX11_word 5 = .ok (.lconst 0, 1) := by decide +kernel
theorem dX11_word_6 : decode cX11_word 6 = .ok (.lstore_n 2, 1) := by decide +kernel
theorem dX11_word_7 : decode cX11_word 7 = .ok (.iconst 0, 1) := by decide +kernel
theorem dX11_word_8 : decode cX11_word 8 = .ok (.istore 4, 2) := by decide +kernel
theorem dX11_word_10 : decode cX11_word 10 = .ok (.iload 4, 2) := by decide +kernel
theorem dX11_word_12 : decode cX11_word 12 = .ok (.bipush 8, 2) := by decide +kernel
theorem dX11_word_14 : decode cX11_word 14 = .ok (.if_icmp .ge 61, 3) := by decide +kernel
theorem dX11_word_17 : decode cX11_word 17 = .ok (.ldc2_w 421, 3) := by decide +kernel
theorem dX11_word_20 : decode cX11_word 20 = .ok (.iload_n 1, 1) := by decide +kernel
theorem dX11_word_21 : decode cX11_word 21 = .ok (.i2l, 1) := by decide +kernel
theorem dX11_word_22 : decode cX11_word 22 = .ok (.lmul, 1) := by decide +kernel
theorem dX11_word_23 : decode cX11_word 23 = .ok (.iload 4, 2) := by decide +kernel
theorem dX11_word_25 : decode cX11_word 25 = .ok (.i2l, 1) := by decide +kernel
theorem dX11_word_26 : decode cX11_word 26 = .ok (.ladd, 1) := by decide +kernel
theorem dX11_word_27 : decode cX11_word 27 = .ok (.lstore 5, 2) := by decide +kernel
theorem dX11_word_29 : decode cX11_word 29 = .ok (.lload_n 2, 1) := by decide +kernel
theorem dX11_word_30 : decode cX11_word 30 = .ok (.lload 5, 2) := by decide +kernel
theorem dX11_word_32 : decode cX11_word 32 = .ok (.lconst 0, 1) := by decide +kernel
theorem dX11_word_33 : decode cX11_word 33 = .ok (.lcmp, 1) := by decide +kernel
theorem dX11_word_34 : decode cX11_word 34 = .ok (.ifCond .lt 32, 3) := by decide +kernel
theorem dX11_word_37 : decode cX11_word 37 = .ok (.lload 5, 2) := by decide +kernel
theorem dX11_word_39 : decode cX11_word 39 = .ok (.aload_n 0, 1) := by decide +kernel
theorem dX11_word_40 : decode cX11_word 40 = .ok (.getfield 374, 3) := by decide +kernel
theorem dX11_word_43 : decode cX11_word 43 = .ok (.i2l, 1) := by decide +kernel
theorem dX11_word_44 : decode cX11_word 44 = .ok (.lcmp, 1) := by decide +kernel
theorem dX11_word_45 : decode cX11_word 45 = .ok (.ifCond .ge 21, 3) := by decide +kernel
theorem dX11_word_48 : decode cX11_word 48 = .ok (.aload_n 0, 1) := by decide +kernel
theorem dX11_word_49 : decode cX11_word 49 = .ok (.getfield 102, 3) := by decide +kernel
theorem dX11_word_52 : decode cX11_word 52 = .ok (.lload 5, 2) := by decide +kernel
theorem dX11_word_54 : decode cX11_word 54 = .ok (.l2i, 1) := by decide +kernel
theorem dX11_word_55 : decode cX11_word 55 = .ok (.iaload, 1) := by decide +kernel
theorem dX11_word_56 : decode cX11_word 56 = .ok (.i2l, 1) := by decide +kernel
theorem dX11_word_57 : decode cX11_word 57 = .ok (.bipush 8, 2) := by decide +kernel
theorem dX11_word_59 : decode cX11_word 59 = .ok (.iload 4, 2) := by decide +kernel
theorem dX11_word_61 : decode cX11_word 61 = .ok (.imul, 1) := by decide +kernel
theorem dX11_word_62 : decode cX11_word 62 = .ok (.lshl, 1) := by decide +kernel
theorem dX11_word_63 : decode cX11_word 63 = .ok (.goto 4, 3) := by decide +kernel
theorem dX11_word_66 : decode cX11_word 66 = .ok (.lconst 0, 1) := by decide +kernel
theorem dX11_word_67 : decode cX11_word 67 = .ok (.lor, 1) := by decide +kernel
theorem dX11_word_68 : decode cX11_word 68 = .ok (.lstore_n 2, 1) := by decide +kernel
theorem dX11_word_69 : decode cX11_word 69 = .ok (.iinc 4 1, 3) := by decide +kernel
theorem dX11_word_72 : decode cX11_word 72 = .ok (.goto (-62), 3) := by decide +kernel
theorem dX11_word_75 : decode cX11_word 75 = .ok (.lload_n 2, 1) := by decide +kernel
theorem dX11_word_76 : decode cX11_word 76 = .ok (.lreturn, 1) := by decide +kernel
