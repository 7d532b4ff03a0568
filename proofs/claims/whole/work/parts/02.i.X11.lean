theorem dX11_init_0 : decode cX11_init 0 = .ok (.aload_n 0, 1) := by decide +kernel
theorem dX11_init_1 : decode cX11_init 1 = .ok (.invokespecial 7, 3) := by decide +kernel
theorem dX11_init_4 : decode cX11_init 4 = .ok (.aload_n 0, 1) := by decide +kernel
theorem dX11_init_5 : decode cX11_init 5 = .ok (.sipush 2000, 3) := by decide +kernel
theorem dX11_init_8 : decode cX11_init 8 = .ok (.newarray .byte, 2) := by decide +kernel
theorem dX11_init_10 : decode cX11_init 10 = .ok (.putfield 13, 3) := by decide +kernel
theorem dX11_init_13 : decode cX11_init 13 = .ok (.aload_n 0, 1) := by decide +kernel
theorem dX11_init_14 : decode cX11_init 14 = .ok (.sipush 2000, 3) := by decide +kernel
theorem dX11_init_17 : decode cX11_init 17 = .ok (.newarray .byte, 2) := by decide +kernel
theorem dX11_init_19 : decode cX11_init 19 = .ok (.putfield 17, 3) := by decide +kernel
theorem dX11_init_22 : decode cX11_init 22 = .ok (.aload_n 0, 1) := by decide +kernel
theorem dX11_init_23 : decode cX11_init 23 = .ok (.sipush 403, 3) := by decide +kernel
theorem dX11_init_26 : decode cX11_init 26 = .ok (.newarray .int, 2) := by decide +kernel
theorem dX11_init_28 : decode cX11_init 28 = .ok (.putfield 20, 3) := by decide +kernel
theorem dX11_init_31 : decode cX11_init 31 = .ok (.aload_n 0, 1) := by decide +kernel
theorem dX11_init_32 : decode cX11_init 32 = .ok (.sipush 403, 3) := by decide +kernel
theorem dX11_init_35 : decode cX11_init 35 = .ok (.newarray .int, 2) := by decide +kernel
theorem dX11_init_37 : decode cX11_init 37 = .ok (.putfield 24, 3) := by decide +kernel
theorem dX11_init_40 : decode cX11_init 40 = .ok (.aload_n 0, 1) := by decide +kernel
theorem dX11_init_41 : decode cX11_init 41 = .ok (.sipush 403, 3) := by decide +kernel
theorem dX11_init_44 : decode cX11_init 44 = .ok (.newarray .int, 2) := by decide +kernel
theorem dX11_init_46 : decode cX11_init 46 = .ok (.putfield 27, 3) := by decide +kernel
theorem dX11_init_49 : decode cX11_init 49 = .ok (.aload_n 0, 1) := by decide +kernel
theorem dX11_init_50 : decode cX11_init 50 = .ok (.sipush 403, 3) := by decide +kernel
theorem dX11_init_53 : decode cX11_init 53 = .ok (.newarray .long, 2) := by decide +kernel
theorem dX11_init_55 : decode cX11_init 55 = .ok (.putfield 30, 3) := by decide +kernel
theorem dX11_init_58 : decode cX11_init 58 = .ok (.aload_n 0, 1) := by decide +kernel
theorem dX11_init_59 : decode cX11_init 59 = .ok (.bipush 20, 2) := by decide +kernel
theorem dX11_init_61 : decode cX11_init 61 = .ok (.newarray .long, 2) := by decide +kernel
theorem dX11_init_63 : decode cX11_init 63 = .ok (.putfield 34, 3) := by decide +kernel
theorem dX11_init_66 : decode cX11_init 66 = .ok (.aload_n 0, 1) := by decide +kernel
theorem dX11_init_67 : decode cX11_init 67 = .ok (.iconst (-1), 1) := by decide +kernel
theorem dX11_init_68 : decode cX11_init 68 = .ok (.putfield 37, 3) := by decide +kernel
theorem dX11_init_71 : decode cX11_init 71 = .ok (.aload_n 0, 1) := by decide +kernel
theorem dX11_init_72 : decode cX11_init 72 = .ok (.bipush 9, 2) := by decide +kernel
theorem dX11_init_74 : decode cX11_init 74 = .ok (.newarray .int, 2) := by decide +kernel
theorem dX11_init_76 : decode cX11_init 76 = .ok (.putfield 40, 3) := by decide +kernel
theorem dX11_init_79 : decode cX11_init 79 = .ok (.aload_n 0, 1) := by decide +kernel
theorem dX11_init_80 : decode cX11_init 80 = .ok (.bipush 9, 2) := by decide +kernel
theorem dX11_init_82 : decode cX11_init 82 = .ok (.newarray .int, 2) := by decide +kernel
theorem dX11_init_84 : decode cX11_init 84 = .ok (.putfield 43, 3) := by decide +kernel
theorem dX11_init_87 : decode cX11_init 87 = .ok (.aload_n 0, 1) := by decide +kernel
theorem dX11_init_88 : decode cX11_init 88 = .ok (.bipush 9, 2) := by decide +kernel
theorem dX11_init_90 : decode cX11_init 90 = .ok (.newarray .int, 2) := by decide +kernel
theorem dX11_init_92 : decode cX11_init 92 = .ok (.putfield 46, 3) := by decide +kernel
theorem dX11_init_95 : decode cX11_init 95 = .ok (.aload_n 0, 1) := by decide +kernel
theorem dX11_init_96 : decode cX11_init 96 = .ok (.sipush 144, 3) := by decide +kernel
theorem dX11_init_99 : decode cX11_init 99 = .ok (.newarray .int, 2) := by decide +kernel
theorem dX11_init_101 : decode cX11_init 101 = .ok (.putfield 49, 3) := by decide +kernel
theorem dX11_init_104 : decode cX11_init 104 = .ok (.aload_n 0, 1) := by decide +kernel
theorem dX11_init_105 : decode cX11_init 105 = .ok (.sipush 144, 3) := by decide +kernel
theorem dX11_init_108 : decode cX11_init 108 = .ok (.newarray .int, 2) := by decide +kernel
theorem dX11_init_110 : decode cX11_init 110 = .ok (.putfield 52, 3) := by decide +kernel
theorem dX11_init_113 : decode cX11_init 113 = .ok (.aload_n 0, 1) := by decide +kernel
theorem dX11_init_114 : decode cX11_init 114 = .ok (.sipush 144, 3) := by decide +kernel
theorem dX11_init_117 : decode cX11_init 117 = .ok (.newarray .int, 2) := by decide +kernel
theorem dX11_init_119 : decode cX11_init 119 = .ok (.putfield 55, 3) := by decide +kernel
theorem dX11_init_122 : decode cX11_init 122 = .ok (.aload_n 0, 1) := by decide +kernel
theorem dX11_init_123 : decode cX11_init 123 = .ok (.sipush 144, 3) := by decide +kernel
theorem dX11_init_126 : decode cX11_init 126 = .ok (.newarray .int, 2) := by decide +kernel
theorem dX11_init_128 : decode cX11_init 128 = .ok (.putfield 58, 3) := by decide +kernel
theorem dX11_init_131 : decode cX11_init 131 = .ok (.aload_n 0, 1) := by decide +kernel
theorem dX11_init_132 : decode cX11_init 132 = .ok (.sipush 144, 3) := by decide +kernel
theorem dX11_init_135 : decode cX11_init 135 = .ok (.newarray .int, 2) := by decide +kernel
theorem dX11_init_137 : decode cX11_init 137 = .ok (.putfield 61, 3) := by decide +kernel
theorem dX11_init_140 : decode cX11_init 140 = .ok (.aload_n 0, 1) := by decide +kernel
theorem dX11_init_141 : decode cX11_init 141 = .ok (.sipush 144, 3) := by decide +kernel
theorem dX11_init_144 : decode cX11_init 144 = .ok (.newarray .int, 2) := by decide +kernel
theorem dX11_init_146 : decode cX11_init 146 = .ok (.putfield 64, 3) := by decide +kernel
theorem dX11_init_149 : decode cX11_init 149 = .ok (.aload_n 0, 1) := by decide +kernel
theorem dX11_init_150 : decode cX11_init 150 = .ok (.bipush 9, 2) := by decide +kernel
theorem dX11_init_152 : decode cX11_init 152 = .ok (.newarray .int, 2) := by decide +kernel
theorem dX11_init_154 : decode cX11_init 154 = .ok (.putfield 67, 3) := by decide +kernel
theorem dX11_init_157 : decode cX11_init 157 = .ok (.aload_n 0, 1) := by decide +kernel
theorem dX11_init_158 : decode cX11_init 158 = .ok (.sipush 1800, 3) := by decide +kernel
theorem dX11_init_161 : decode cX11_init 161 = .ok (.newarray .int, 2) := by decide +kernel
theorem dX11_init_163 : decode cX11_init 163 = .ok (.putfield 70, 3) := by decide +kernel
theorem dX11_init_166 : decode cX11_init 166 = .ok (.aload_n 0, 1) := by decide +kernel
theorem dX11_init_167 : decode cX11_init 167 = .ok (.sipush 1800, 3) := by decide +kernel
theorem dX11_init_170 : decode cX11_init 170 = .ok (.newarray .int, 2) := by decide +kernel
theorem dX11_init_172 : decode cX11_init 172 = .ok (.putfield 73, 3) := by decide +kernel
theorem dX11_init_175 : decode cX11_init 175 = .ok (.aload_n 0, 1) := by decide +kernel
theorem dX11_init_176 : decode cX11_init 176 = .ok (.sipush 1800, 3) := by decide +kernel
theorem dX11_init_179 : decode cX11_init 179 = .ok (.newarray .int, 2) := by decide +kernel
theorem dX11_init_181 : decode cX11_init 181 = .ok (.putfield 76, 3) := by decide +kernel
theorem dX11_init_184 : decode cX11_init 184 = .ok (.aload_n 0, 1) := by decide +kernel
theorem dX11_init_185 : decode cX11_init 185 = .ok (.sipush 1800, 3) := by decide +kernel
theorem dX11_init_188 : decode cX11_init 188 = .ok (.newarray .int, 2) := by decide +kernel
theorem dX11_init_190 : decode cX11_init 190 = .ok (.putfield 79, 3) := by decide +kernel
theorem dX11_init_193 : decode cX11_init 193 = .ok (.aload_n 0, 1) := by decide +kernel
theorem dX11_init_194 : decode cX11_init 194 = .ok (.sipush 1800, 3) := by decide +kernel
theorem dX11_init_197 : decode cX11_init 197 = .ok (.newarray .boolean, 2) := by decide +kernel
theorem dX11_init_199 : decode cX11_init 199 = .ok (.putfield 82, 3) := by decide +kernel
theorem dX11_init_202 : decode cX11_init 202 = .ok (.aload_n 0, 1) := by decide +kernel
theorem dX11_init_203 : decode cX11_init 203 = .ok (.sipush 4500, 3) := by decide +kernel
theorem dX11_init_206 : decode cX11_init 206 = .ok (.newarray .int, 2) := by decide +kernel
theorem dX11_init_208 : decode cX11_init 208 = .ok (.putfield 86, 3) := by decide +kernel
theorem dX11_init_211 : decode cX11_init 211 = .ok (.aload_n 0, 1) := by decide +kernel
theorem dX11_init_212 : decode cX11_init 212 = .ok (.sipush 4500, 3) := by decide +kernel
theorem dX11_init_215 : decode cX11_init 215 = .ok (.newarray .int, 2) := by decide +kernel
theorem dX11_init_217 : decode cX11_init 217 = .ok (.putfield 89, 3) := by decide +kernel
theorem dX11_init_220 : decode cX11_init 220 = .ok (.aload_n 0, 1) := by decide +kernel
theorem dX11_init_221 : decode cX11_init 221 = .ok (.bipush 48, 2) := by decide +kernel
theorem dX11_init_223 : decode cX11_init 223 = .ok (.newarray .int, 2) := by decide +kernel
theorem dX11_init_225 : decode cX11_init 225 = .ok (.putfield 92, 3) := by decide +kernel
theorem dX11_init_228 : decode cX11_init 228 = .ok (.aload_n 0, 1) := by decide +kernel
theorem dX11_init_229 : decode cX11_init 229 = .ok (.bipush 12, 2) := by decide +kernel
theorem dX11_init_231 : decode cX11_init 231 = .ok (.newarray .int, 2) := by decide +kernel
theorem dX11_init_233 : decode cX11_init 233 = .ok (.putfield 95, 3) := by decide +kernel
theorem dX11_init_236 : decode cX11_init 236 = .ok (.aload_n 0, 1) := by decide +kernel
theorem dX11_init_237 : decode cX11_init 237 = .ok (.bipush 12, 2) := by decide +kernel
theorem dX11_init_239 : decode cX11_init 239 = .ok (.newarray .int, 2) := by decide +kernel
theorem dX11_init_241 : decode cX11_init 241 = .ok (.putfield 98, 3) := by decide +kernel
theorem dX11_init_244 : decode cX11_init 244 = .ok (.aload_n 0, 1) := by decide +kernel
theorem dX11_init_245 : decode cX11_init 245 = .ok (.bipush 12, 2) := by decide +kernel
theorem dX11_init_247 : decode cX11_init 247 = .ok (.newarray .int, 2) := by decide +kernel
theorem dX11_init_249 : decode cX11_init 249 = .ok (.putfield 101, 3) := by decide +kernel
theorem dX11_init_252 : decode cX11_init 252 = .ok (.aload_n 0, 1) := by decide +kernel
theorem dX11_init_253 : decode cX11_init 253 = .ok (.sipush 144, 3) := by decide +kernel
theorem dX11_init_256 : decode cX11_init 256 = .ok (.newarray .int, 2) := by decide +kernel
theorem dX11_init_258 : decode cX11_init 258 = .ok (.putfield 104, 3) := by decide +kernel
theorem dX11_init_261 : decode cX11_init 261 = .ok (.aload_n 0, 1) := by decide +kernel
theorem dX11_init_262 : decode cX11_init 262 = .ok (.bipush 15, 2) := by decide +kernel
theorem dX11_init_264 : decode cX11_init 264 = .ok (.newarray .int, 2) := by decide +kernel
theorem dX11_init_266 : decode cX11_init 266 = .ok (.putfield 107, 3) := by decide +kernel
theorem dX11_init_269 : decode cX11_init 269 = .ok (.aload_n 0, 1) := by decide +kernel
theorem dX11_init_270 : decode cX11_init 270 = .ok (.bipush 10, 2) := by decide +kernel
theorem dX11_init_272 : decode cX11_init 272 = .ok (.newarray .int, 2) := by decide +kernel
theorem dX11_init_274 : decode cX11_init 274 = .ok (.putfield 110, 3) := by decide +kernel
theorem dX11_init_277 : decode cX11_init 277 = .ok (.aload_n 0, 1) := by decide +kernel
theorem dX11_init_278 : decode cX11_init 278 = .ok (.bipush 10, 2) := by decide +kernel
theorem dX11_init_280 : decode cX11_init 280 = .ok (.newarray .int, 2) := by decide +kernel
theorem dX11_init_282 : decode cX11_init 282 = .ok (.putfield 113, 3) := by decide +kernel
theorem dX11_init_285 : decode cX11_init 285 = .ok (.aload_n 0, 1) := by decide +kernel
theorem dX11_init_286 : decode cX11_init 286 = .ok (.bipush 10, 2) := by decide +kernel
theorem dX11_init_288 : decode cX11_init 288 = .ok (.newarray .int, 2) := by decide +kernel
theorem dX11_init_290 : decode cX11_init 290 = .ok (.putfield 116, 3) := by decide +kernel
theorem dX11_init_293 : decode cX11_init 293 = .ok (.aload_n 0, 1) := by decide +kernel
theorem dX11_init_294 : decode cX11_init 294 = .ok (.bipush 10, 2) := by decide +kernel
theorem dX11_init_296 : decode cX11_init 296 = .ok (.newarray .int, 2) := by decide +kernel
theorem dX11_init_298 : decode cX11_init 298 = .ok (.putfield 119, 3) := by decide +kernel
theorem dX11_init_301 : decode cX11_init 301 = .ok (.aload_n 0, 1) := by decide +kernel
theorem dX11_init_302 : decode cX11_init 302 = .ok (.bipush 10, 2) := by decide +kernel
theorem dX11_init_304 : decode cX11_init 304 = .ok (.newarray .int, 2) := by decide +kernel
theorem dX11_init_306 : decode cX11_init 306 = .ok (.putfield 122, 3) := by decide +kernel
theorem dX11_init_309 : decode cX11_init 309 = .ok (.aload_n 0, 1) := by decide +kernel
theorem dX11_init_310 : decode cX11_init 310 = .ok (.bipush 10, 2) := by decide +kernel
theorem dX11_init_312 : decode cX11_init 312 = .ok (.newarray .int, 2) := by decide +kernel
theorem dX11_init_314 : decode cX11_init 314 = .ok (.putfield 125, 3) := by decide +kernel
theorem dX11_init_317 : decode cX11_init 317 = .ok (.aload_n 0, 1) := by decide +kernel
theorem dX11_init_318 : decode cX11_init 318 = .ok (.bipush 20, 2) := by decide +kernel
theorem dX11_init_320 : decode cX11_init 320 = .ok (.newarray .int, 2) := by decide +kernel
theorem dX11_init_322 : decode cX11_init 322 = .ok (.putfield 128, 3) := by decide +kernel
theorem dX11_init_325 : decode cX11_init 325 = .ok (.aload_n 0, 1) := by decide +kernel
theorem dX11_init_326 : decode cX11_init 326 = .ok (.bipush 20, 2) := by decide +kernel
theorem dX11_init_328 : decode cX11_init 328 = .ok (.newarray .int, 2) := by decide +kernel
theorem dX11_init_330 : decode cX11_init 330 = .ok (.putfield 131, 3) := by decide +kernel
theorem dX11_init_333 : decode cX11_init 333 = .ok (.aload_n 0, 1) := by decide +kernel
theorem dX11_init_334 : decode cX11_init 334 = .ok (.bipush 20, 2) := by decide +kernel
theorem dX11_init_336 : decode cX11_init 336 = .ok (.newarray .int, 2) := by decide +kernel
theorem dX11_init_338 : decode cX11_init 338 = .ok (.putfield 134, 3) := by decide +kernel
theorem dX11_init_341 : decode cX11_init 341 = .ok (.aload_n 0, 1) := by decide +kernel
theorem dX11_init_342 : decode cX11_init 342 = .ok (.sipush 200, 3) := by decide +kernel
theorem dX11_init_345 : decode cX11_init 345 = .ok (.newarray .int, 2) := by decide +kernel
theorem dX11_init_347 : decode cX11_init 347 = .ok (.putfield 137, 3) := by decide +kernel
theorem dX11_init_350 : decode cX11_init 350 = .ok (.aload_n 0, 1) := by decide +kernel
theorem dX11_init_351 : decode cX11_init 351 = .ok (.sipush 200, 3) := by decide +kernel
theorem dX11_init_354 : decode cX11_init 354 = .ok (.newarray .int, 2) := by decide +kernel
theorem dX11_init_356 : decode cX11_init 356 = .ok (.putfield 140, 3) := by decide +kernel
theorem dX11_init_359 : decode cX11_init 359 = .ok (.aload_n 0, 1) := by decide +kernel
theorem dX11_init_360 : decode cX11_init 360 = .ok (.sipush 200, 3) := by decide +kernel
theorem dX11_init_363 : decode cX11_init 363 = .ok (.newarray .int, 2) := by decide +kernel
theorem dX11_init_365 : decode cX11_init 365 = .ok (.putfield 143, 3) := by decide +kernel
theorem dX11_init_368 : decode cX11_init 368 = .ok (.aload_n 0, 1) := by decide +kernel
theorem dX11_init_369 : decode cX11_init 369 = .ok (.sipush 200, 3) := by decide +kernel
theorem dX11_init_372 : decode cX11_init 372 = .ok (.newarray .int, 2) := by decide +kernel
theorem dX11_init_374 : decode cX11_init 374 = .ok (.putfield 146, 3) := by decide +kernel
theorem dX11_init_377 : decode cX11_init 377 = .ok (.aload_n 0, 1) := by decide +kernel
theorem dX11_init_378 : decode cX11_init 378 = .ok (.bipush 12, 2) := by decide +kernel
theorem dX11_init_380 : decode cX11_init 380 = .ok (.newarray .int, 2) := by decide +kernel
theorem dX11_init_382 : decode cX11_init 382 = .ok (.putfield 149, 3) := by decide +kernel
theorem dX11_init_385 : decode cX11_init 385 = .ok (.aload_n 0, 1) := by decide +kernel
theorem dX11_init_386 : decode cX11_init 386 = .ok (.sipush 500, 3) := by decide +kernel
theorem dX11_init_389 : decode cX11_init 389 = .ok (.newarray .int, 2) := by decide +kernel
theorem dX11_init_391 : decode cX11_init 391 = .ok (.putfield 152, 3) := by decide +kernel
theorem dX11_init_394 : decode cX11_init 394 = .ok (.aload_n 0, 1) := by decide +kernel
theorem dX11_init_395 : decode cX11_init 395 = .ok (.iconst (-1), 1) := by decide +kernel
theorem dX11_init_396 : decode cX11_init 396 = .ok (.putfield 155, 3) := by decide +kernel
theorem dX11_init_399 : decode cX11_init 399 = .ok (.aload_n 0, 1) := by decide +kernel
theorem dX11_init_400 : decode cX11_init 400 = .ok (.bipush 10, 2) := by decide +kernel
theorem dX11_init_402 : decode cX11_init 402 = .ok (.newarray .int, 2) := by decide +kernel
theorem dX11_init_404 : decode cX11_init 404 = .ok (.putfield 158, 3) := by decide +kernel
theorem dX11_init_407 : decode cX11_init 407 = .ok (.aload_n 0, 1) := by decide +kernel
theorem dX11_init_408 : decode cX11_init 408 = .ok (.bipush 10, 2) := by decide +kernel
theorem dX11_init_410 : decode cX11_init 410 = .ok (.newarray .int, 2) := by decide +kernel
theorem dX11_init_412 : decode cX11_init 412 = .ok (.putfield 161, 3) := by decide +kernel
theorem dX11_init_415 : decode cX11_init 415 = .ok (.aload_n 0, 1) := by decide +kernel
theorem dX11_init_416 : decode cX11_init 416 = .ok (.bipush 10, 2) := by decide +kernel
theorem dX11_init_418 : decode cX11_init 418 = .ok (.newarray .int, 2) := by decide +kernel
theorem dX11_init_420 : decode cX11_init 420 = .ok (.putfield 164, 3) := by decide +kernel
theorem dX11_init_423 : decode cX11_init 423 = .ok (.aload_n 0, 1) := by decide +kernel
theorem dX11_init_424 : decode cX11_init 424 = .ok (.bipush 10, 2) := by decide +kernel
theorem dX11_init_426 : decode cX11_init 426 = .ok (.newarray .boolean, 2) := by decide +kernel
theorem dX11_init_428 : decode cX11_init 428 = .ok (.putfield 167, 3) := by decide +kernel
theorem dX11_init_431 : decode cX11_init 431 = .ok (.aload_n 0, 1) := by decide +kernel
theorem dX11_init_432 : decode cX11_init 432 = .ok (.bipush 10, 2) := by decide +kernel
theorem dX11_init_434 : decode cX11_init 434 = .ok (.newarray .int, 2) := by decide +kernel
theorem dX11_init_436 : decode cX11_init 436 = .ok (.putfield 170, 3) := by decide +kernel
theorem dX11_init_439 : decode cX11_init 439 = .ok (.aload_n 0, 1) := by decide +kernel
theorem dX11_init_440 : decode cX11_init 440 = .ok (.bipush 10, 2) := by decide +kernel
theorem dX11_init_442 : decode cX11_init 442 = .ok (.newarray .int, 2) := by decide +kernel
theorem dX11_init_444 : decode cX11_init 444 = .ok (.putfield 173, 3) := by decide +kernel
theorem dX11_init_447 : decode cX11_init 447 = .ok (.aload_n 0, 1) := by decide +kernel
theorem dX11_init_448 : decode cX11_init 448 = .ok (.bipush 10, 2) := by decide +kernel
theorem dX11_init_450 : decode cX11_init 450 = .ok (.newarray .int, 2) := by decide +kernel
theorem dX11_init_452 : decode cX11_init 452 = .ok (.putfield 176, 3) := by decide +kernel
theorem dX11_init_455 : decode cX11_init 455 = .ok (.aload_n 0, 1) := by decide +kernel
theorem dX11_init_456 : decode cX11_init 456 = .ok (.bipush 10, 2) := by decide +kernel
theorem dX11_init_458 : decode cX11_init 458 = .ok (.newarray .int, 2) := by decide +kernel
theorem dX11_init_460 : decode cX11_init 460 = .ok (.putfield 179, 3) := by decide +kernel
theorem dX11_init_463 : decode cX11_init 463 = .ok (.aload_n 0, 1) := by decide +kernel
theorem dX11_init_464 : decode cX11_init 464 = .ok (.bipush 10, 2) := by decide +kernel
theorem dX11_init_466 : decode cX11_init 466 = .ok (.newarray .int, 2) := by decide +kernel
theorem dX11_init_468 : decode cX11_init 468 = .ok (.putfield 182, 3) := by decide +kernel
theorem dX11_init_471 : decode cX11_init 471 = .ok (.aload_n 0, 1) := by decide +kernel
theorem dX11_init_472 : decode cX11_init 472 = .ok (.bipush 10, 2) := by decide +kernel
theorem dX11_init_474 : decode cX11_init 474 = .ok (.newarray .int, 2) := by decide +kernel
theorem dX11_init_476 : decode cX11_init 476 = .ok (.putfield 185, 3) := by decide +kernel
theorem dX11_init_479 : decode cX11_init 479 = .ok (.aload_n 0, 1) := by decide +kernel
theorem dX11_init_480 : decode cX11_init 480 = .ok (.bipush 10, 2) := by decide +kernel
theorem dX11_init_482 : decode cX11_init 482 = .ok (.newarray .boolean, 2) := by decide +kernel
theorem dX11_init_484 : decode cX11_init 484 = .ok (.putfield 188, 3) := by decide +kernel
theorem dX11_init_487 : decode cX11_init 487 = .ok (.aload_n 0, 1) := by decide +kernel
theorem dX11_init_488 : decode cX11_init 488 = .ok (.bipush 10, 2) := by decide +kernel
theorem dX11_init_490 : decode cX11_init 490 = .ok (.newarray .int, 2) := by decide +kernel
theorem dX11_init_492 : decode cX11_init 492 = .ok (.putfield 191, 3) := by decide +kernel
theorem dX11_init_495 : decode cX11_init 495 = .ok (.aload_n 0, 1) := by decide +kernel
theorem dX11_init_496 : decode cX11_init 496 = .ok (.getfield 34, 3) := by decide +kernel
theorem dX11_init_499 : decode cX11_init 499 = .ok (.iconst 0, 1) := by decide +kernel
theorem dX11_init_500 : decode cX11_init 500 = .ok (.bipush 112, 2) := by decide +kernel
theorem dX11_init_502 : decode cX11_init 502 = .ok (.bipush 114, 2) := by decide +kernel
theorem dX11_init_504 : decode cX11_init 504 = .ok (.bipush 111, 2) := by decide +kernel
theorem dX11_init_506 : decode cX11_init 506 = .ok (.bipush 111, 2) := by decide +kernel
theorem dX11_init_508 : decode cX11_init 508 = .ok (.bipush 102, 2) := by decide +kernel
theorem dX11_init_510 : decode cX11_init 510 = .ok (.iconst 0, 1) := by decide +kernel
theorem dX11_init_511 : decode cX11_init 511 = .ok (.iconst 0, 1) := by decide +kernel
theorem dX11_init_512 : decode cX11_init 512 = .ok (.invokestatic 194, 3) := by decide +kernel
theorem dX11_init_515 : decode cX11_init 515 = .ok (.lastore, 1) := by decide +kernel
theorem dX11_init_516 : decode cX11_init 516 = .ok (.aload_n 0, 1) := by decide +kernel
theorem dX11_init_517 : decode cX11_init 517 = .ok (.getfield 34, 3) := by decide +kernel
theorem dX11_init_520 : decode cX11_init 520 = .ok (.iconst 1, 1) := by decide +kernel
theorem dX11_init_521 : decode cX11_init 521 = .ok (.bipush 98, 2) := by decide +kernel
theorem dX11_init_523 : decode cX11_init 523 = .ok (.bipush 97, 2) := by decide +kernel
theorem dX11_init_525 : decode cX11_init 525 = .ok (.bipush 114, 2) := by decide +kernel
theorem dX11_init_527 : decode cX11_init 527 = .ok (.iconst 0, 1) := by decide +kernel
theorem dX11_init_528 : decode cX11_init 528 = .ok (.iconst 0, 1) := by decide +kernel
theorem dX11_init_529 : decode cX11_init 529 = .ok (.iconst 0, 1) := by decide +kernel
theorem dX11_init_530 : decode cX11_init 530 = .ok (.iconst 0, 1) := by decide +kernel
theorem dX11_init_531 : decode cX11_init 531 = .ok (.invokestatic 194, 3) := by decide +kernel
theorem dX11_init_534 : decode cX11_init 534 = .ok (.lastore, 1) := by decide +kernel
theorem dX11_init_535 : decode cX11_init 535 = .ok (.aload_n 0, 1) := by decide +kernel
theorem dX11_init_536 : decode cX11_init 536 = .ok (.getfield 34, 3) := by decide +kernel
theorem dX11_init_539 : decode cX11_init 539 = .ok (.iconst 2, 1) := by decide +kernel
theorem dX11_init_540 : decode cX11_init 540 = .ok (.bipush 111, 2) := by decide +kernel
theorem dX11_init_542 : decode cX11_init 542 = .ok (.bipush 118, 2) := by decide +kernel
theorem dX11_init_544 : decode cX11_init 544 = .ok (.bipush 101, 2) := by decide +kernel
theorem dX11_init_546 : decode cX11_init 546 = .ok (.bipush 114, 2) := by decide +kernel
theorem dX11_init_548 : decode cX11_init 548 = .ok (.iconst 0, 1) := by decide +kernel
theorem dX11_init_549 : decode cX11_init 549 = .ok (.iconst 0, 1) := by decide +kernel
theorem dX11_init_550 : decode cX11_init 550 = .ok (.iconst 0, 1) := by decide +kernel
theorem dX11_init_551 : decode cX11_init 551 = .ok (.invokestatic 194, 3) := by decide +kernel
theorem dX11_init_554 : decode cX11_init 554 = .ok (.lastore, 1) := by decide +kernel
theorem dX11_init_555 : decode cX11_init 555 = .ok (.aload_n 0, 1) := by decide +kernel
theorem dX11_init_556 : decode cX11_init 556 = .ok (.getfield 34, 3) := by decide +kernel
theorem dX11_init_559 : decode cX11_init 559 = .ok (.iconst 3, 1) := by decide +kernel
theorem dX11_init_560 : decode cX11_init 560 = .ok (.bipush 108, 2) := by decide +kernel
theorem dX11_init_562 : decode cX11_init 562 = .ok (.bipush 97, 2) := by decide +kernel
theorem dX11_init_564 : decode cX11_init 564 = .ok (.bipush 112, 2) := by decide +kernel
theorem dX11_init_566 : decode cX11_init 566 = .ok (.bipush 115, 2) := by decide +kernel
theorem dX11_init_568 : decode cX11_init 568 = .ok (.bipush 101, 2) := by decide +kernel
theorem dX11_init_570 : decode cX11_init 570 = .ok (.iconst 0, 1) := by decide +kernel
theorem dX11_init_571 : decode cX11_init 571 = .ok (.iconst 0, 1) := by decide +kernel
theorem dX11_init_572 : decode cX11_init 572 = .ok (.invokestatic 194, 3) := by decide +kernel
theorem dX11_init_575 : decode cX11_init 575 = .ok (.lastore, 1) := by decide +kernel
theorem dX11_init_576 : decode cX11_init 576 = .ok (.aload_n 0, 1) := by decide +kernel
theorem dX11_init_577 : decode cX11_init 577 = .ok (.getfield 34, 3) := by decide +kernel
theorem dX11_init_580 : decode cX11_init 580 = .ok (.iconst 4, 1) := by decide +kernel
theorem dX11_init_581 : decode cX11_init 581 = .ok (.bipush 98, 2) := by decide +kernel
theorem dX11_init_583 : decode cX11_init 583 = .ok (.bipush 97, 2) := by decide +kernel
theorem dX11_init_585 : decode cX11_init 585 = .ok (.bipush 99, 2) := by decide +kernel
theorem dX11_init_587 : decode cX11_init 587 = .ok (.bipush 107, 2) := by decide +kernel
theorem dX11_init_589 : decode cX11_init 589 = .ok (.iconst 0, 1) := by decide +kernel
theorem dX11_init_590 : decode cX11_init 590 = .ok (.iconst 0, 1) := by decide +kernel
theorem dX11_init_591 : decode cX11_init 591 = .ok (.iconst 0, 1) := by decide +kernel
theorem dX11_init_592 : decode cX11_init 592 = .ok (.invokestatic 194, 3) := by decide +kernel
theorem dX11_init_595 : decode cX11_init 595 = .ok (.lastore, 1) := by decide +kernel
theorem dX11_init_596 : decode cX11_init 596 = .ok (.aload_n 0, 1) := by decide +kernel
theorem dX11_init_597 : decode cX11_init 597 = .ok (.getfield 34, 3) := by decide +kernel
theorem dX11_init_600 : decode cX11_init 600 = .ok (.iconst 5, 1) := by decide +kernel
theorem dX11_init_601 : decode cX11_init 601 = .ok (.bipush 105, 2) := by decide +kernel
theorem dX11_init_603 : decode cX11_init 603 = .ok (.bipush 102, 2) := by decide +kernel
theorem dX11_init_605 : decode cX11_init 605 = .ok (.iconst 0, 1) := by decide +kernel
theorem dX11_init_606 : decode cX11_init 606 = .ok (.iconst 0, 1) := by decide +kernel
theorem dX11_init_607 : decode cX11_init 607 = .ok (.iconst 0, 1) := by decide +kernel
theorem dX11_init_608 : decode cX11_init 608 = .ok (.iconst 0, 1) := by decide +kernel
theorem dX11_init_609 : decode cX11_init 609 = .ok (.iconst 0, 1) := by decide +kernel
theorem dX11_init_610 : decode cX11_init 610 = .ok (.invokestatic 194, 3) := by decide +kernel
theorem dX11_init_613 : decode cX11_init 613 = .ok (.lastore, 1) := by decide +kernel
theorem dX11_init_614 : decode cX11_init 614 = .ok (.aload_n 0, 1) := by decide +kernel
theorem dX11_init_615 : decode cX11_init 615 = .ok (.getfield 34, 3) := by decide +kernel
theorem dX11_init_618 : decode cX11_init 618 = .ok (.bipush 6, 2) := by decide +kernel
theorem dX11_init_620 : decode cX11_init 620 = .ok (.bipush 111, 2) := by decide +kernel
theorem dX11_init_622 : decode cX11_init 622 = .ok (.bipush 114, 2) := by decide +kernel
theorem dX11_init_624 : decode cX11_init 624 = .ok (.iconst 0, 1) := by decide +kernel
theorem dX11_init_625 : decode cX11_init 625 = .ok (.iconst 0, 1) := by decide +kernel
theorem dX11_init_626 : decode cX11_init 626 = .ok (.iconst 0, 1) := by decide +kernel
theorem dX11_init_627 : decode cX11_init 627 = .ok (.iconst 0, 1) := by decide +kernel
theorem dX11_init_628 : decode cX11_init 628 = .ok (.iconst 0, 1) := by decide +kernel
theorem dX11_init_629 : decode cX11_init 629 = .ok (.invokestatic 194, 3) := by decide +kernel
theorem dX11_init_632 : decode cX11_init 632 = .ok (.lastore, 1) := by decide +kernel
theorem dX11_init_633 : decode cX11_init 633 = .ok (.aload_n 0, 1) := by decide +kernel
theorem dX11_init_634 : decode cX11_init 634 = .ok (.getfield 34, 3) := by decide +kernel
theorem dX11_init_637 : decode cX11_init 637 = .ok (.bipush 7, 2) := by decide +kernel
theorem dX11_init_639 : decode cX11_init 639 = .ok (.bipush 97, 2) := by decide +kernel
theorem dX11_init_641 : decode cX11_init 641 = .ok (.bipush 110, 2) := by decide +kernel
theorem dX11_init_643 : decode cX11_init 643 = .ok (.bipush 100, 2) := by decide +kernel
theorem dX11_init_645 : decode cX11_init 645 = .ok (.iconst 0, 1) := by decide +kernel
theorem dX11_init_646 : decode cX11_init 646 = .ok (.iconst 0, 1) := by decide +kernel
theorem dX11_init_647 : decode cX11_init 647 = .ok (.iconst 0, 1) := by decide +kernel
theorem dX11_init_648 : decode cX11_init 648 = .ok (.iconst 0, 1) := by decide +kernel
theorem dX11_init_649 : decode cX11_init 649 = .ok (.invokestatic 194, 3) := by decide +kernel
theorem dX11_init_652 : decode cX11_init 652 = .ok (.lastore, 1) := by decide +kernel
theorem dX11_init_653 : decode cX11_init 653 = .ok (.aload_n 0, 1) := by decide +kernel
theorem dX11_init_654 : decode cX11_init 654 = .ok (.getfield 34, 3) := by decide +kernel
theorem dX11_init_657 : decode cX11_init 657 = .ok (.bipush 8, 2) := by decide +kernel
theorem dX11_init_659 : decode cX11_init 659 = .ok (.bipush 121, 2) := by decide +kernel
theorem dX11_init_661 : decode cX11_init 661 = .ok (.bipush 101, 2) := by decide +kernel
theorem dX11_init_663 : decode cX11_init 663 = .ok (.bipush 115, 2) := by decide +kernel
theorem dX11_init_665 : decode cX11_init 665 = .ok (.iconst 0, 1) := by decide +kernel
theorem dX11_init_666 : decode cX11_init 666 = .ok (.iconst 0, 1) := by decide +kernel
theorem dX11_init_667 : decode cX11_init 667 = .ok (.iconst 0, 1) := by decide +kernel
theorem dX11_init_668 : decode cX11_init 668 = .ok (.iconst 0, 1) := by decide +kernel
theorem dX11_init_669 : decode cX11_init 669 = .ok (.invokestatic 194, 3) := by decide +kernel
theorem dX11_init_672 : decode cX11_init 672 = .ok (.lastore, 1) := by decide +kernel
theorem dX11_init_673 : decode cX11_init 673 = .ok (.aload_n 0, 1) := by decide +kernel
theorem dX11_init_674 : decode cX11_init 674 = .ok (.getfield 34, 3) := by decide +kernel
theorem dX11_init_677 : decode cX11_init 677 = .ok (.bipush 9, 2) := by decide +kernel
theorem dX11_init_679 : decode cX11_init 679 = .ok (.bipush 110, 2) := by decide +kernel
theorem dX11_init_681 : decode cX11_init 681 = .ok (.bipush 111, 2) := by decide +kernel
theorem dX11_init_683 : decode cX11_init 683 = .ok (.iconst 0, 1) := by decide +kernel
theorem dX11_init_684 : decode cX11_init 684 = .ok (.iconst 0, 1) := by decide +kernel
theorem dX11_init_685 : decode cX11_init 685 = .ok (.iconst 0, 1) := by decide +kernel
theorem dX11_init_686 : decode cX11_init 686 = .ok (.iconst 0, 1) := by decide +kernel
theorem dX11_init_687 : decode cX11_init 687 = .ok (.iconst 0, 1) := by decide +kernel
theorem dX11_init_688 : decode cX11_init 688 = .ok (.invokestatic 194, 3) := by decide +kernel
theorem dX11_init_691 : decode cX11_init 691 = .ok (.lastore, 1) := by decide +kernel
theorem dX11_init_692 : decode cX11_init 692 = .ok (.aload_n 0, 1) := by decide +kernel
theorem dX11_init_693 : decode cX11_init 693 = .ok (.getfield 34, 3) := by decide +kernel
theorem dX11_init_696 : decode cX11_init 696 = .ok (.bipush 10, 2) := by decide +kernel
theorem dX11_init_698 : decode cX11_init 698 = .ok (.bipush 107, 2) := by decide +kernel
theorem dX11_init_700 : decode cX11_init 700 = .ok (.bipush 105, 2) := by decide +kernel
theorem dX11_init_702 : decode cX11_init 702 = .ok (.bipush 110, 2) := by decide +kernel
theorem dX11_init_704 : decode cX11_init 704 = .ok (.iconst 0, 1) := by decide +kernel
theorem dX11_init_705 : decode cX11_init 705 = .ok (.iconst 0, 1) := by decide +kernel
theorem dX11_init_706 : decode cX11_init 706 = .ok (.iconst 0, 1) := by decide +kernel
theorem dX11_init_707 : decode cX11_init 707 = .ok (.iconst 0, 1) := by decide +kernel
theorem dX11_init_708 : decode cX11_init 708 = .ok (.invokestatic 194, 3) := by decide +kernel
theorem dX11_init_711 : decode cX11_init 711 = .ok (.lastore, 1) := by decide +kernel
theorem dX11_init_712 : decode cX11_init 712 = .ok (.aload_n 0, 1) := by decide +kernel
theorem dX11_init_713 : decode cX11_init 713 = .ok (.getfield 34, 3) := by decide +kernel
theorem dX11_init_716 : decode cX11_init 716 = .ok (.bipush 11, 2) := by decide +kernel
theorem dX11_init_718 : decode cX11_init 718 = .ok (.bipush 102, 2) := by decide +kernel
theorem dX11_init_720 : decode cX11_init 720 = .ok (.bipush 97, 2) := by decide +kernel
theorem dX11_init_722 : decode cX11_init 722 = .ok (.bipush 109, 2) := by decide +kernel
theorem dX11_init_724 : decode cX11_init 724 = .ok (.bipush 101, 2) := by decide +kernel
theorem dX11_init_726 : decode cX11_init 726 = .ok (.iconst 0, 1) := by decide +kernel
theorem dX11_init_727 : decode cX11_init 727 = .ok (.iconst 0, 1) := by decide +kernel
theorem dX11_init_728 : decode cX11_init 728 = .ok (.iconst 0, 1) := by decide +kernel
theorem dX11_init_729 : decode cX11_init 729 = .ok (.invokestatic 194, 3) := by decide +kernel
theorem dX11_init_732 : decode cX11_init 732 = .ok (.lastore, 1) := by decide +kernel
theorem dX11_init_733 : decode cX11_init 733 = .ok (.aload_n 0, 1) := by decide +kernel
theorem dX11_init_734 : decode cX11_init 734 = .ok (.getfield 34, 3) := by decide +kernel
theorem dX11_init_737 : decode cX11_init 737 = .ok (.bipush 12, 2) := by decide +kernel
theorem dX11_init_739 : decode cX11_init 739 = .ok (.bipush 116, 2) := by decide +kernel
theorem dX11_init_741 : decode cX11_init 741 = .ok (.bipush 101, 2) := by decide +kernel
theorem dX11_init_743 : decode cX11_init 743 = .ok (.bipush 110, 2) := by decide +kernel
theorem dX11_init_745 : decode cX11_init 745 = .ok (.bipush 115, 2) := by decide +kernel
theorem dX11_init_747 : decode cX11_init 747 = .ok (.bipush 101, 2) := by decide +kernel
theorem dX11_init_749 : decode cX11_init 749 = .ok (.iconst 0, 1) := by decide +kernel
theorem dX11_init_750 : decode cX11_init 750 = .ok (.iconst 0, 1) := by decide +kernel
theorem dX11_init_751 : decode cX11_init 751 = .ok (.invokestatic 194, 3) := by decide +kernel
theorem dX11_init_754 : decode cX11_init 754 = .ok (.lastore, 1) := by decide +kernel
theorem dX11_init_755 : decode cX11_init 755 = .ok (.aload_n 0, 1) := by decide +kernel
theorem dX11_init_756 : decode cX11_init 756 = .ok (.getfield 34, 3) := by decide +kernel
theorem dX11_init_759 : decode cX11_init 759 = .ok (.bipush 13, 2) := by decide +kernel
theorem dX11_init_761 : decode cX11_init 761 = .ok (.bipush 97, 2) := by decide +kernel
theorem dX11_init_763 : decode cX11_init 763 = .ok (.bipush 103, 2) := by decide +kernel
theorem dX11_init_765 : decode cX11_init 765 = .ok (.bipush 101, 2) := by decide +kernel
theorem dX11_init_767 : decode cX11_init 767 = .ok (.iconst 0, 1) := by decide +kernel
theorem dX11_init_768 : decode cX11_init 768 = .ok (.iconst 0, 1) := by decide +kernel
theorem dX11_init_769 : decode cX11_init 769 = .ok (.iconst 0, 1) := by decide +kernel
theorem dX11_init_770 : decode cX11_init 770 = .ok (.iconst 0, 1) := by decide +kernel
theorem dX11_init_771 : decode cX11_init 771 = .ok (.invokestatic 194, 3) := by decide +kernel
theorem dX11_init_774 : decode cX11_init 774 = .ok (.lastore, 1) := by decide +kernel
theorem dX11_init_775 : decode cX11_init 775 = .ok (.aload_n 0, 1) := by decide +kernel
theorem dX11_init_776 : decode cX11_init 776 = .ok (.getfield 34, 3) := by decide +kernel
theorem dX11_init_779 : decode cX11_init 779 = .ok (.bipush 14, 2) := by decide +kernel
theorem dX11_init_781 : decode cX11_init 781 = .ok (.bipush 100, 2) := by decide +kernel
theorem dX11_init_783 : decode cX11_init 783 = .ok (.bipush 101, 2) := by decide +kernel
theorem dX11_init_785 : decode cX11_init 785 = .ok (.bipush 103, 2) := by decide +kernel
theorem dX11_init_787 : decode cX11_init 787 = .ok (.bipush 114, 2) := by decide +kernel
theorem dX11_init_789 : decode cX11_init 789 = .ok (.bipush 101, 2) := by decide +kernel
theorem dX11_init_791 : decode cX11_init 791 = .ok (.bipush 101, 2) := by decide +kernel
theorem dX11_init_793 : decode cX11_init 793 = .ok (.iconst 0, 1) := by decide +kernel
theorem dX11_init_794 : decode cX11_init 794 = .ok (.invokestatic 194, 3) := by decide +kernel
theorem dX11_init_797 : decode cX11_init 797 = .ok (.lastore, 1) := by decide +kernel
theorem dX11_init_798 : decode cX11_init 798 = .ok (.aload_n 0, 1) := by decide +kernel
theorem dX11_init_799 : decode cX11_init 799 = .ok (.getfield 34, 3) := by decide +kernel
theorem dX11_init_802 : decode cX11_init 802 = .ok (.bipush 15, 2) := by decide +kernel
theorem dX11_init_804 : decode cX11_init 804 = .ok (.bipush 118, 2) := by decide +kernel
theorem dX11_init_806 : decode cX11_init 806 = .ok (.bipush 111, 2) := by decide +kernel
theorem dX11_init_808 : decode cX11_init 808 = .ok (.bipush 119, 2) := by decide +kernel
theorem dX11_init_810 : decode cX11_init 810 = .ok (.iconst 0, 1) := by decide +kernel
theorem dX11_init_811 : decode cX11_init 811 = .ok (.iconst 0, 1) := by decide +kernel
theorem dX11_init_812 : decode cX11_init 812 = .ok (.iconst 0, 1) := by decide +kernel
theorem dX11_init_813 : decode cX11_init 813 = .ok (.iconst 0, 1) := by decide +kernel
theorem dX11_init_814 : decode cX11_init 814 = .ok (.invokestatic 194, 3) := by decide +kernel
theorem dX11_init_817 : decode cX11_init 817 = .ok (.lastore, 1) := by decide +kernel
theorem dX11_init_818 : decode cX11_init 818 = .ok (.aload_n 0, 1) := by decide +kernel
theorem dX11_init_819 : decode cX11_init 819 = .ok (.getfield 34, 3) := by decide +kernel
theorem dX11_init_822 : decode cX11_init 822 = .ok (.bipush 16, 2) := by decide +kernel
theorem dX11_init_824 : decode cX11_init 824 = .ok (.bipush 108, 2) := by decide +kernel
theorem dX11_init_826 : decode cX11_init 826 = .ok (.bipush 101, 2) := by decide +kernel
theorem dX11_init_828 : decode cX11_init 828 = .ok (.bipush 97, 2) := by decide +kernel
theorem dX11_init_830 : decode cX11_init 830 = .ok (.bipush 118, 2) := by decide +kernel
theorem dX11_init_832 : decode cX11_init 832 = .ok (.bipush 101, 2) := by decide +kernel
theorem dX11_init_834 : decode cX11_init 834 = .ok (.iconst 0, 1) := by decide +kernel
theorem dX11_init_835 : decode cX11_init 835 = .ok (.iconst 0, 1) := by decide +kernel
theorem dX11_init_836 : decode cX11_init 836 = .ok (.invokestatic 194, 3) := by decide +kernel
theorem dX11_init_839 : decode cX11_init 839 = .ok (.lastore, 1) := by decide +kernel
theorem dX11_init_840 : decode cX11_init 840 = .ok (.aload_n 0, 1) := by decide +kernel
theorem dX11_init_841 : decode cX11_init 841 = .ok (.getfield 34, 3) := by decide +kernel
theorem dX11_init_844 : decode cX11_init 844 = .ok (.bipush 17, 2) := by decide +kernel
theorem dX11_init_846 : decode cX11_init 846 = .ok (.bipush 111, 2) := by decide +kernel
theorem dX11_init_848 : decode cX11_init 848 = .ok (.bipush 108, 2) := by decide +kernel
theorem dX11_init_850 : decode cX11_init 850 = .ok (.bipush 100, 2) := by decide +kernel
theorem dX11_init_852 : decode cX11_init 852 = .ok (.iconst 0, 1) := by decide +kernel
theorem dX11_init_853 : decode cX11_init 853 = .ok (.iconst 0, 1) := by decide +kernel
theorem dX11_init_854 : decode cX11_init 854 = .ok (.iconst 0, 1) := by decide +kernel
theorem dX11_init_855 : decode cX11_init 855 = .ok (.iconst 0, 1) := by decide +kernel
theorem dX11_init_856 : decode cX11_init 856 = .ok (.invokestatic 194, 3) := by decide +kernel
theorem dX11_init_859 : decode cX11_init 859 = .ok (.lastore, 1) := by decide +kernel
theorem dX11_init_860 : decode cX11_init 860 = .ok (.aload_n 0, 1) := by decide +kernel
theorem dX11_init_861 : decode cX11_init 861 = .ok (.getfield 34, 3) := by decide +kernel
theorem dX11_init_864 : decode cX11_init 864 = .ok (.bipush 18, 2) := by decide +kernel
theorem dX11_init_866 : decode cX11_init 866 = .ok (.bipush 119, 2) := by decide +kernel
theorem dX11_init_868 : decode cX11_init 868 = .ok (.bipush 104, 2) := by decide +kernel
theorem dX11_init_870 : decode cX11_init 870 = .ok (.bipush 121, 2) := by decide +kernel
theorem dX11_init_872 : decode cX11_init 872 = .ok (.iconst 0, 1) := by decide +kernel
theorem dX11_init_873 : decode cX11_init 873 = .ok (.iconst 0, 1) := by decide +kernel
theorem dX11_init_874 : decode cX11_init 874 = .ok (.iconst 0, 1) := by decide +kernel
theorem dX11_init_875 : decode cX11_init 875 = .ok (.iconst 0, 1) := by decide +kernel
theorem dX11_init_876 : decode cX11_init 876 = .ok (.invokestatic 194, 3) := by decide +kernel
theorem dX11_init_879 : decode cX11_init 879 = .ok (.lastore, 1) := by decide +kernel
theorem dX11_init_880 : decode cX11_init 880 = .ok (.aload_n 0, 1) := by decide +kernel
theorem dX11_init_881 : decode cX11_init 881 = .ok (.getfield 34, 3) := by decide +kernel
theorem dX11_init_884 : decode cX11_init 884 = .ok (.bipush 19, 2) := by decide +kernel
theorem dX11_init_886 : decode cX11_init 886 = .ok (.bipush 100, 2) := by decide +kernel
theorem dX11_init_888 : decode cX11_init 888 = .ok (.bipush 97, 2) := by decide +kernel
theorem dX11_init_890 : decode cX11_init 890 = .ok (.bipush 121, 2) := by decide +kernel
theorem dX11_init_892 : decode cX11_init 892 = .ok (.bipush 115, 2) := by decide +kernel
theorem dX11_init_894 : decode cX11_init 894 = .ok (.iconst 0, 1) := by decide +kernel
theorem dX11_init_895 : decode cX11_init 895 = .ok (.iconst 0, 1) := by decide +kernel
theorem dX11_init_896 : decode cX11_init 896 = .ok (.iconst 0, 1) := by decide +kernel
theorem dX11_init_897 : decode cX11_init 897 = .ok (.invokestatic 194, 3) := by decide +kernel
theorem dX11_init_900 : decode cX11_init 900 = .ok (.lastore, 1) := by decide +kernel
theorem dX11_init_901 : decode cX11_init 901 = .ok (.return_, 1) := by decide +kernel
theorem dX11_feed_0 : decode cX11_feed 0 = .ok (.aload_n 0, 1) := by decide +kernel
theorem dX11_feed_1 : decode cX11_feed 1 = .ok (.getfield 198, 3) := by decide +kernel
theorem dX11_feed_4 : decode cX11_feed 4 = .ok (.bipush 20, 2) := by decide +kernel
theorem dX11_feed_6 : decode cX11_feed 6 = .ok (.iadd, 1) := by decide +kernel
theorem dX11_feed_7 : decode cX11_feed 7 = .ok (.sipush 2000, 3) := by decide +kernel
theorem dX11_feed_10 : decode cX11_feed 10 = .ok (.if_icmp .le 5, 3) := by decide +kernel
theorem dX11_feed_13 : decode cX11_feed 13 = .ok (.iconst (-1), 1) := by decide +kernel
theorem dX11_feed_14 : decode cX11_feed 14 = .ok (.ireturn, 1) := by decide +kernel
theorem dX11_feed_15 : decode cX11_feed 15 = .ok (.aload_n 0, 1) := by decide +kernel
theorem dX11_feed_16 : decode cX11_feed 16 = .ok (.iload_n 1, 1) := by decide +kernel
theorem dX11_feed_17 : decode cX11_feed 17 = .ok (.invokevirtual 201, 3) := by decide +kernel
theorem dX11_feed_20 : decode cX11_feed 20 = .ok (.aload_n 0, 1) := by decide +kernel
theorem dX11_feed_21 : decode cX11_feed 21 = .ok (.iload_n 2, 1) := by decide +kernel
theorem dX11_feed_22 : decode cX11_feed 22 = .ok (.invokevirtual 201, 3) := by decide +kernel
theorem dX11_feed_25 : decode cX11_feed 25 = .ok (.aload_n 0, 1) := by decide +kernel
theorem dX11_feed_26 : decode cX11_feed 26 = .ok (.iload_n 3, 1) := by decide +kernel
theorem dX11_feed_27 : decode cX11_feed 27 = .ok (.invokevirtual 201, 3) := by decide +kernel
theorem dX11_feed_30 : decode cX11_feed 30 = .ok (.aload_n 0, 1) := by decide +kernel
theorem dX11_feed_31 : decode cX11_feed 31 = .ok (.iload 4, 2) := by decide +kernel
theorem dX11_feed_33 : decode cX11_feed 33 = .ok (.invokevirtual 201, 3) := by decide +kernel
theorem dX11_feed_36 : decode cX11_feed 36 = .ok (.aload_n 0, 1) := by decide +kernel
theorem dX11_feed_37 : decode cX11_feed 37 = .ok (.iload 5, 2) := by decide +kernel
theorem dX11_feed_39 : decode cX11_feed 39 = .ok (.invokevirtual 201, 3) := by decide +kernel
theorem dX11_feed_42 : decode cX11_feed 42 = .ok (.aload_n 0, 1) := by decide +kernel
theorem dX11_feed_43 : decode cX11_feed 43 = .ok (.getfield 198, 3) := by decide +kernel
theorem dX11_feed_46 : decode cX11_feed 46 = .ok (.ireturn, 1) := by decide +kernel
theorem dX11_put_0 : decode cX11_put 0 = .ok (.bipush 24, 2) := by decide +kernel
theorem dX11_put_2 : decode cX11_put 2 = .ok (.istore_n 2, 1) := by decide +kernel
theorem dX11_put_3 : decode cX11_put 3 = .ok (.iload_n 2, 1) := by decide +kernel
theorem dX11_put_4 : decode cX11_put 4 = .ok (.ifCond .lt 32, 3) := by decide +kernel
theorem dX11_put_7 : decode cX11_put 7 = .ok (.aload_n 0, 1) := by decide +kernel
theorem dX11_put_8 : decode cX11_put 8 = .ok (.getfield 13, 3) := by decide +kernel
theorem dX11_put_11 : decode cX11_put 11 = .ok (.aload_n 0, 1) := by decide +kernel
theorem dX11_put_12 : decode cX11_put 12 = .ok (.getfield 198, 3) := by decide +kernel
theorem dX11_put_15 : decode cX11_put 15 = .ok (.iload_n 1, 1) := by decide +kernel
theorem dX11_put_16 : decode cX11_put 16 = .ok (.iload_n 2, 1) := by decide +kernel
theorem dX11_put_17 : decode cX11_put 17 = .ok (.ishr, 1) := by decide +kernel
theorem dX11_put_18 : decode cX11_put 18 = .ok (.i2b, 1) := by decide +kernel
theorem dX11_put_19 : decode cX11_put 19 = .ok (.bastore, 1) := by decide +kernel
theorem dX11_put_20 : decode cX11_put 20 = .ok (.aload_n 0, 1) := by decide +kernel
theorem dX11_put_21 : decode cX11_put 21 = .ok (.dup, 1) := by decide +kernel
theorem dX11_put_22 : decode cX11_put 22 = .ok (.getfield 198, 3) := by decide +kernel
theorem dX11_put_25 : decode cX11_put 25 = .ok (.iconst 1, 1) := by decide +kernel
theorem dX11_put_26 : decode cX11_put 26 = .ok (.iadd, 1) := by decide +kernel
theorem dX11_put_27 : decode cX11_put 27 = .ok (.putfield 198, 3) := by decide +kernel
theorem dX11_put_30 : decode cX11_put 30 = .ok (.iinc 2 (-8), 3) := by decide +kernel
theorem dX11_put_33 : decode cX11_put 33 = .ok (.goto (-30), 3) := by decide +kernel
theorem dX11_put_36 : decode cX11_put 36 = .ok (.return_, 1) := by decide +kernel
theorem dX11_back_0 : decode cX11_back 0 = .ok (.iload_n 1, 1) := by decide +kernel
theorem dX11_back_1 : decode cX11_back 1 = .ok (.ifCond .lt 11, 3) := by decide +kernel
theorem dX11_back_4 : decode cX11_back 4 = .ok (.iload_n 1, 1) := by decide +kernel
theorem dX11_back_5 : decode cX11_back 5 = .ok (.aload_n 0, 1) := by decide +kernel
theorem dX11_back_6 : decode cX11_back 6 = .ok (.getfield 198, 3) := by decide +kernel
theorem dX11_back_9 : decode cX11_back 9 = .ok (.if_icmp .le 5, 3) := by decide +kernel
theorem dX11_back_12 : decode cX11_back 12 = .ok (.iconst (-1), 1) := by decide +kernel
theorem dX11_back_13 : decode cX11_back 13 = .ok (.ireturn, 1) := by decide +kernel
theorem dX11_back_14 : decode cX11_back 14 = .ok (.aload_n 0, 1) := by decide +kernel
theorem dX11_back_15 : decode cX11_back 15 = .ok (.dup, 1) := by decide +kernel
theorem dX11_back_16 : decode cX11_back 16 = .ok (.getfield 198, 3) := by decide +kernel
theorem dX11_back_19 : decode cX11_back 19 = .ok (.iload_n 1, 1) := by decide +kernel
theorem dX11_back_20 : decode cX11_back 20 = .ok (.isub, 1) := by decide +kernel
theorem dX11_back_21 : decode cX11_back 21 = .ok (.putfield 198, 3) := by decide +kernel
theorem dX11_back_24 : decode cX11_back 24 = .ok (.aload_n 0, 1) := by decide +kernel
theorem dX11_back_25 : decode cX11_back 25 = .ok (.getfield 198, 3) := by decide +kernel
theorem dX11_back_28 : decode cX11_back 28 = .ok (.ireturn, 1) := by decide +kernel
theorem dX11_at_0 : decode cX11_at 0 = .ok (.iload_n 1, 1) := by decide +kernel
theorem dX11_at_1 : decode cX11_at 1 = .ok (.aload_n 0, 1) := by decide +kernel
theorem dX11_at_2 : decode cX11_at 2 = .ok (.getfield 205, 3) := by decide +kernel
theorem dX11_at_5 : decode cX11_at 5 = .ok (.if_icmp .ge 16, 3) := by decide +kernel
theorem dX11_at_8 : decode cX11_at 8 = .ok (.aload_n 0, 1) := by decide +kernel
theorem dX11_at_9 : decode cX11_at 9 = .ok (.getfield 17, 3) := by decide +kernel
theorem dX11_at_12 : decode cX11_at 12 = .ok (.iload_n 1, 1) := by decide +kernel
theorem dX11_at_13 : decode cX11_at 13 = .ok (.baload, 1) := by decide +kernel
theorem dX11_at_14 : decode cX11_at 14 = .ok (.sipush 255, 3) := by decide +kernel
theorem dX11_at_17 : decode cX11_at 17 = .ok (.iand, 1) := by decide +kernel
theorem dX11_at_18 : decode cX11_at 18 = .ok (.goto 4, 3) := by decide +kernel
theorem dX11_at_21 : decode cX11_at 21 = .ok (.iconst 0, 1) := by decide +kernel
theorem dX11_at_22 : decode cX11_at 22 = .ok (.ireturn, 1) := by decide +kernel
theorem dX11_isDigit_0 : decode cX11_isDigit 0 = .ok (.iload_n 0, 1) := by decide +kernel
theorem dX11_isDigit_1 : decode cX11_isDigit 1 = .ok (.bipush 48, 2) := by decide +kernel
theorem dX11_isDigit_3 : decode cX11_isDigit 3 = .ok (.if_icmp .lt 13, 3) := by decide +kernel
theorem dX11_isDigit_6 : decode cX11_isDigit 6 = .ok (.iload_n 0, 1) := by decide +kernel
theorem dX11_isDigit_7 : decode cX11_isDigit 7 = .ok (.bipush 57, 2) := by decide +kernel
theorem dX11_isDigit_9 : decode cX11_isDigit 9 = .ok (.if_icmp .gt 7, 3) := by decide +kernel
theorem dX11_isDigit_12 : decode cX11_isDigit 12 = .ok (.iconst 1, 1) := by decide +kernel
theorem dX11_isDigit_13 : decode cX11_isDigit 13 = .ok (.goto 4, 3) := by decide +kernel
theorem dX11_isDigit_16 : decode cX11_isDigit 16 = .ok (.iconst 0, 1) := by decide +kernel
theorem dX11_isDigit_17 : decode cX11_isDigit 17 = .ok (.ireturn, 1) := by decide +kernel
theorem dX11_isLetter_0 : decode cX11_isLetter 0 = .ok (.iload_n 0, 1) := by decide +kernel
theorem dX11_isLetter_1 : decode cX11_isLetter 1 = .ok (.bipush 97, 2) := by decide +kernel
theorem dX11_isLetter_3 : decode cX11_isLetter 3 = .ok (.if_icmp .lt 13, 3) := by decide +kernel
theorem dX11_isLetter_6 : decode cX11_isLetter 6 = .ok (.iload_n 0, 1) := by decide +kernel
theorem dX11_isLetter_7 : decode cX11_isLetter 7 = .ok (.bipush 122, 2) := by decide +kernel
theorem dX11_isLetter_9 : decode cX11_isLetter 9 = .ok (.if_icmp .gt 7, 3) := by decide +kernel
theorem dX11_isLetter_12 : decode cX11_isLetter 12 = .ok (.iconst 1, 1) := by decide +kernel
theorem dX11_isLetter_13 : decode cX11_isLetter 13 = .ok (.goto 4, 3) := by decide +kernel
theorem dX11_isLetter_16 : decode cX11_isLetter 16 = .ok (.iconst 0, 1) := by decide +kernel
theorem dX11_isLetter_17 : decode cX11_isLetter 17 = .ok (.ireturn, 1) := by decide +kernel
theorem dX11_more_0 : decode cX11_more 0 = .ok (.iload_n 2, 1) := by decide +kernel
theorem dX11_more_1 : decode cX11_more 1 = .ok (.ifCond .ne 7, 3) := by decide +kernel
theorem dX11_more_4 : decode cX11_more 4 = .ok (.lload_n 0, 1) := by decide +kernel
theorem dX11_more_5 : decode cX11_more 5 = .ok (.goto 16, 3) := by decide +kernel
theorem dX11_more_8 : decode cX11_more 8 = .ok (.ldc2_w 208, 3) := by decide +kernel
theorem dX11_more_11 : decode cX11_more 11 = .ok (.lload_n 0, 1) := by decide +kernel
theorem dX11_more_12 : decode cX11_more 12 = .ok (.lmul, 1) := by decide +kernel
theorem dX11_more_13 : decode cX11_more 13 = .ok (.iload_n 2, 1) := by decide +kernel
theorem dX11_more_14 : decode cX11_more 14 = .ok (.bipush 97, 2) := by decide +kernel
theorem dX11_more_16 : decode cX11_more 16 = .ok (.isub, 1) := by decide +kernel
theorem dX11_more_17 : decode cX11_more 17 = .ok (.iconst 1, 1) := by decide +kernel
theorem dX11_more_18 : decode cX11_more 18 = .ok (.iadd, 1) := by decide +kernel
theorem dX11_more_19 : decode cX11_more 19 = .ok (.i2l, 1) := by decide +kernel
theorem dX11_more_20 : decode cX11_more 20 = .ok (.ladd, 1) := by decide +kernel
theorem dX11_more_21 : decode cX11_more 21 = .ok (.lreturn, 1) := by decide +kernel
theorem dX11_word_0 : decode cX11_word 0 = .ok (.lconst 0, 1) := by decide +kernel
theorem dX11_word_1 : decode cX11_word 1 = .ok (.iload_n 0, 1) := by decide +kernel
theorem dX11_word_2 : decode cX11_word 2 = .ok (.invokestatic 210, 3) := by decide +kernel
theorem dX11_word_5 : decode cX11_word 5 = .ok (.iload_n 1, 1) := by decide +kernel
theorem dX11_word_6 : decode cX11_word 6 = .ok (.invokestatic 210, 3) := by decide +kernel
theorem dX11_word_9 : decode cX11_word 9 = .ok (.iload_n 2, 1) := by decide +kernel
theorem dX11_word_10 : decode cX11_word 10 = .ok (.invokestatic 210, 3) := by decide +kernel
theorem dX11_word_13 : decode cX11_word 13 = .ok (.iload_n 3, 1) := by decide +kernel
theorem dX11_word_14 : decode cX11_word 14 = .ok (.invokestatic 210, 3) := by decide +kernel
theorem dX11_word_17 : decode cX11_word 17 = .ok (.iload 4, 2) := by decide +kernel
theorem dX11_word_19 : decode cX11_word 19 = .ok (.invokestatic 210, 3) := by decide +kernel
theorem dX11_word_22 : decode cX11_word 22 = .ok (.iload 5, 2) := by decide +kernel
theorem dX11_word_24 : decode cX11_word 24 = .ok (.invokestatic 210, 3) := by decide +kernel
theorem dX11_word_27 : decode cX11_word 27 = .ok (.iload 6, 2) := by decide +kernel
theorem dX11_word_29 : decode cX11_word 29 = .ok (.invokestatic 210, 3) := by decide +kernel
theorem dX11_word_32 : decode cX11_word 32 = .ok (.lreturn, 1) := by decide +kernel
theorem dX11_token_0 : decode cX11_token 0 = .ok (.aload_n 0, 1) := by decide +kernel
theorem dX11_token_1 : decode cX11_token 1 = .ok (.getfield 20, 3) := by decide +kernel
theorem dX11_token_4 : decode cX11_token 4 = .ok (.aload_n 0, 1) := by decide +kernel
theorem dX11_token_5 : decode cX11_token 5 = .ok (.getfield 214, 3) := by decide +kernel
theorem dX11_token_8 : decode cX11_token 8 = .ok (.iload_n 1, 1) := by decide +kernel
theorem dX11_token_9 : decode cX11_token 9 = .ok (.iastore, 1) := by decide +kernel
theorem dX11_token_10 : decode cX11_token 10 = .ok (.aload_n 0, 1) := by decide +kernel
theorem dX11_token_11 : decode cX11_token 11 = .ok (.getfield 24, 3) := by decide +kernel
theorem dX11_token_14 : decode cX11_token 14 = .ok (.aload_n 0, 1) := by decide +kernel
theorem dX11_token_15 : decode cX11_token 15 = .ok (.getfield 214, 3) := by decide +kernel
theorem dX11_token_18 : decode cX11_token 18 = .ok (.iload_n 2, 1) := by decide +kernel
theorem dX11_token_19 : decode cX11_token 19 = .ok (.iastore, 1) := by decide +kernel
theorem dX11_token_20 : decode cX11_token 20 = .ok (.aload_n 0, 1) := by decide +kernel
theorem dX11_token_21 : decode cX11_token 21 = .ok (.getfield 27, 3) := by decide +kernel
theorem dX11_token_24 : decode cX11_token 24 = .ok (.aload_n 0, 1) := by decide +kernel
theorem dX11_token_25 : decode cX11_token 25 = .ok (.getfield 214, 3) := by decide +kernel
theorem dX11_token_28 : decode cX11_token 28 = .ok (.iload_n 3, 1) := by decide +kernel
theorem dX11_token_29 : decode cX11_token 29 = .ok (.iastore, 1) := by decide +kernel
theorem dX11_token_30 : decode cX11_token 30 = .ok (.aload_n 0, 1) := by decide +kernel
theorem dX11_token_31 : decode cX11_token 31 = .ok (.getfield 30, 3) := by decide +kernel
theorem dX11_token_34 : decode cX11_token 34 = .ok (.aload_n 0, 1) := by decide +kernel
theorem dX11_token_35 : decode cX11_token 35 = .ok (.getfield 214, 3) := by decide +kernel
theorem dX11_token_38 : decode cX11_token 38 = .ok (.lload 4, 2) := by decide +kernel
theorem dX11_token_40 : decode cX11_token 40 = .ok (.lastore, 1) := by decide +kernel
theorem dX11_token_41 : decode cX11_token 41 = .ok (.aload_n 0, 1) := by decide +kernel
theorem dX11_token_42 : decode cX11_token 42 = .ok (.dup, 1) := by decide +kernel
theorem dX11_token_43 : decode cX11_token 43 = .ok (.getfield 214, 3) := by decide +kernel
theorem dX11_token_46 : decode cX11_token 46 = .ok (.iconst 1, 1) := by decide +kernel
theorem dX11_token_47 : decode cX11_token 47 = .ok (.iadd, 1) := by decide +kernel
theorem dX11_token_48 : decode cX11_token 48 = .ok (.putfield 214, 3) := by decide +kernel
theorem dX11_token_51 : decode cX11_token 51 = .ok (.return_, 1) := by decide +kernel
theorem dX11_cut_0 : decode cX11_cut 0 = .ok (.aload_n 0, 1) := by decide +kernel
theorem dX11_cut_1 : decode cX11_cut 1 = .ok (.iconst 0, 1) := by decide +kernel
theorem dX11_cut_2 : decode cX11_cut 2 = .ok (.putfield 214, 3) := by decide +kernel
theorem dX11_cut_5 : decode cX11_cut 5 = .ok (.iconst 0, 1) := by decide +kernel
theorem dX11_cut_6 : decode cX11_cut 6 = .ok (.istore_n 1, 1) := by decide +kernel
theorem dX11_cut_7 : decode cX11_cut 7 = .ok (.aload_n 0, 1) := by decide +kernel
theorem dX11_cut_8 : decode cX11_cut 8 = .ok (.getfield 214, 3) := by decide +kernel
theorem dX11_cut_11 : decode cX11_cut 11 = .ok (.sipush 400, 3) := by decide +kernel
theorem dX11_cut_14 : decode cX11_cut 14 = .ok (.if_icmp .gt 280, 3) := by decide +kernel
theorem dX11_cut_17 : decode cX11_cut 17 = .ok (.aload_n 0, 1) := by decide +kernel
theorem dX11_cut_18 : decode cX11_cut 18 = .ok (.iload_n 1, 1) := by decide +kernel
theorem dX11_cut_19 : decode cX11_cut 19 = .ok (.invokevirtual 217, 3) := by decide +kernel
theorem dX11_cut_22 : decode cX11_cut 22 = .ok (.istore_n 2, 1) := by decide +kernel
theorem dX11_cut_23 : decode cX11_cut 23 = .ok (.iload_n 1, 1) := by decide +kernel
theorem dX11_cut_24 : decode cX11_cut 24 = .ok (.aload_n 0, 1) := by decide +kernel
theorem dX11_cut_25 : decode cX11_cut 25 = .ok (.getfield 205, 3) := by decide +kernel
theorem dX11_cut_28 : decode cX11_cut 28 = .ok (.if_icmp .lt 15, 3) := by decide +kernel
theorem dX11_cut_31 : decode cX11_cut 31 = .ok (.aload_n 0, 1) := by decide +kernel
theorem dX11_cut_32 : decode cX11_cut 32 = .ok (.iconst 0, 1) := by decide +kernel
theorem dX11_cut_33 : decode cX11_cut 33 = .ok (.aload_n 0, 1) := by decide +kernel
theorem dX11_cut_34 : decode cX11_cut 34 = .ok (.getfield 205, 3) := by decide +kernel
theorem dX11_cut_37 : decode cX11_cut 37 = .ok (.iconst 0, 1) := by decide +kernel
theorem dX11_cut_38 : decode cX11_cut 38 = .ok (.lconst 0, 1) := by decide +kernel
theorem dX11_cut_39 : decode cX11_cut 39 = .ok (.invokevirtual 220, 3) := by decide +kernel
theorem dX11_cut_42 : decode cX11_cut 42 = .ok (.return_, 1) := by decide +kernel
theorem dX11_cut_43 : decode cX11_cut 43 = .ok (.iload_n 2, 1) := by decide +kernel
theorem dX11_cut_44 : decode cX11_cut 44 = .ok (.bipush 9, 2) := by decide +kernel
theorem dX11_cut_46 : decode cX11_cut 46 = .ok (.if_icmp .eq 21, 3) := by decide +kernel
theorem dX11_cut_49 : decode cX11_cut 49 = .ok (.iload_n 2, 1) := by decide +kernel
theorem dX11_cut_50 : decode cX11_cut 50 = .ok (.bipush 10, 2) := by decide +kernel
theorem dX11_cut_52 : decode cX11_cut 52 = .ok (.if_icmp .eq 15, 3) := by decide +kernel
theorem dX11_cut_55 : decode cX11_cut 55 = .ok (.iload_n 2, 1) := by decide +kernel
theorem dX11_cut_56 : decode cX11_cut 56 = .ok (.bipush 13, 2) := by decide +kernel
theorem dX11_cut_58 : decode cX11_cut 58 = .ok (.if_icmp .eq 9, 3) := by decide +kernel
theorem dX11_cut_61 : decode cX11_cut 61 = .ok (.iload_n 2, 1) := by decide +kernel
theorem dX11_cut_62 : decode cX11_cut 62 = .ok (.bipush 32, 2) := by decide +kernel
theorem dX11_cut_64 : decode cX11_cut 64 = .ok (.if_icmp .ne 9, 3) := by decide +kernel
theorem dX11_cut_67 : decode cX11_cut 67 = .ok (.iinc 1 1, 3) := by decide +kernel
theorem dX11_cut_70 : decode cX11_cut 70 = .ok (.goto 221, 3) := by decide +kernel
theorem dX11_cut_73 : decode cX11_cut 73 = .ok (.iload_n 2, 1) := by decide +kernel
theorem dX11_cut_74 : decode cX11_cut 74 = .ok (.invokestatic 224, 3) := by decide +kernel
theorem dX11_cut_77 : decode cX11_cut 77 = .ok (.ifCond .eq 119, 3) := by decide +kernel
theorem dX11_cut_80 : decode cX11_cut 80 = .ok (.iconst 0, 1) := by decide +kernel
theorem dX11_cut_81 : decode cX11_cut 81 = .ok (.istore_n 3, 1) := by decide +kernel
theorem dX11_cut_82 : decode cX11_cut 82 = .ok (.lconst 0, 1) := by decide +kernel
theorem dX11_cut_83 : decode cX11_cut 83 = .ok (.lstore 4, 2) := by decide +kernel
theorem dX11_cut_85 : decode cX11_cut 85 = .ok (.aload_n 0, 1) := by decide +kernel
theorem dX11_cut_86 : decode cX11_cut 86 = .ok (.iload_n 1, 1) := by decide +kernel
theorem dX11_cut_87 : decode cX11_cut 87 = .ok (.iload_n 3, 1) := by decide +kernel
theorem dX11_cut_88 : decode cX11_cut 88 = .ok (.iadd, 1) := by decide +kernel
theorem dX11_cut_89 : decode cX11_cut 89 = .ok (.invokevirtual 217, 3) := by decide +kernel
theorem dX11_cut_92 : decode cX11_cut 92 = .ok (.invokestatic 224, 3) := by decide +kernel
theorem dX11_cut_95 : decode cX11_cut 95 = .ok (.ifCond .eq 29, 3) := by decide +kernel
theorem dX11_cut_98 : decode cX11_cut 98 = .ok (.iload_n 3, 1) := by decide +kernel
theorem dX11_cut_99 : decode cX11_cut 99 = .ok (.bipush 8, 2) := by decide +kernel
theorem dX11_cut_101 : decode cX11_cut 101 = .ok (.if_icmp .ge 17, 3) := by decide +kernel
theorem dX11_cut_104 : decode cX11_cut 104 = .ok (.lload 4, 2) := by decide +kernel
theorem dX11_cut_106 : decode cX11_cut 106 = .ok (.aload_n 0, 1) := by decide +kernel
theorem dX11_cut_107 : decode cX11_cut 107 = .ok (.iload_n 1, 1) := by decide +kernel
theorem dX11_cut_108 : decode cX11_cut 108 = .ok (.iload_n 3, 1) := by decide +kernel
theorem dX11_cut_109 : decode cX11_cut 109 = .ok (.iadd, 1) := by decide +kernel
theorem dX11_cut_110 : decode cX11_cut 110 = .ok (.invokevirtual 217, 3) := by decide +kernel
theorem dX11_cut_113 : decode cX11_cut 113 = .ok (.invokestatic 210, 3) := by decide +kernel
