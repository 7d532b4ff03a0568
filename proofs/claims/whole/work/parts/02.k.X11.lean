theorem dX11_comesOut_44 : decode cX11_comesOut 44 = .ok (.dup, 1) := by decide +kernel
theorem dX11_comesOut_45 : decode cX11_comesOut 45 = .ok (.getfield 290, 3) := by decide +kernel
theorem dX11_comesOut_48 : decode cX11_comesOut 48 = .ok (.iconst 1, 1) := by decide +kernel
theorem dX11_comesOut_49 : decode cX11_comesOut 49 = .ok (.isub, 1) := by decide +kernel
theorem dX11_comesOut_50 : decode cX11_comesOut 50 = .ok (.putfield 290, 3) := by decide +kernel
theorem dX11_comesOut_53 : decode cX11_comesOut 53 = .ok (.aload_n 0, 1) := by decide +kernel
theorem dX11_comesOut_54 : decode cX11_comesOut 54 = .ok (.getfield 92, 3) := by decide +kernel
theorem dX11_comesOut_57 : decode cX11_comesOut 57 = .ok (.aload_n 0, 1) := by decide +kernel
theorem dX11_comesOut_58 : decode cX11_comesOut 58 = .ok (.getfield 290, 3) := by decide +kernel
theorem dX11_comesOut_61 : decode cX11_comesOut 61 = .ok (.iaload, 1) := by decide +kernel
theorem dX11_comesOut_62 : decode cX11_comesOut 62 = .ok (.istore_n 2, 1) := by decide +kernel
theorem dX11_comesOut_63 : decode cX11_comesOut 63 = .ok (.aload_n 0, 1) := by decide +kernel
theorem dX11_comesOut_64 : decode cX11_comesOut 64 = .ok (.iload_n 2, 1) := by decide +kernel
theorem dX11_comesOut_65 : decode cX11_comesOut 65 = .ok (.bipush 8, 2) := by decide +kernel
theorem dX11_comesOut_67 : decode cX11_comesOut 67 = .ok (.if_icmp .ne 7, 3) := by decide +kernel
theorem dX11_comesOut_70 : decode cX11_comesOut 70 = .ok (.iconst 2, 1) := by decide +kernel
theorem dX11_comesOut_71 : decode cX11_comesOut 71 = .ok (.goto 14, 3) := by decide +kernel
theorem dX11_comesOut_74 : decode cX11_comesOut 74 = .ok (.iload_n 2, 1) := by decide +kernel
theorem dX11_comesOut_75 : decode cX11_comesOut 75 = .ok (.bipush 9, 2) := by decide +kernel
theorem dX11_comesOut_77 : decode cX11_comesOut 77 = .ok (.if_icmp .ne 7, 3) := by decide +kernel
theorem dX11_comesOut_80 : decode cX11_comesOut 80 = .ok (.iconst 3, 1) := by decide +kernel
theorem dX11_comesOut_81 : decode cX11_comesOut 81 = .ok (.goto 4, 3) := by decide +kernel
theorem dX11_comesOut_84 : decode cX11_comesOut 84 = .ok (.iconst 4, 1) := by decide +kernel
theorem dX11_comesOut_85 : decode cX11_comesOut 85 = .ok (.iconst 0, 1) := by decide +kernel
theorem dX11_comesOut_86 : decode cX11_comesOut 86 = .ok (.invokevirtual 293, 3) := by decide +kernel
theorem dX11_comesOut_89 : decode cX11_comesOut 89 = .ok (.goto (-89), 3) := by decide +kernel
theorem dX11_comesOut_92 : decode cX11_comesOut 92 = .ok (.return_, 1) := by decide +kernel
theorem dX11_expression_0 : decode cX11_expression 0 = .ok (.aload_n 0, 1) := by decide +kernel
theorem dX11_expression_1 : decode cX11_expression 1 = .ok (.iconst 0, 1) := by decide +kernel
theorem dX11_expression_2 : decode cX11_expression 2 = .ok (.putfield 290, 3) := by decide +kernel
theorem dX11_expression_5 : decode cX11_expression 5 = .ok (.aload_n 0, 1) := by decide +kernel
theorem dX11_expression_6 : decode cX11_expression 6 = .ok (.getfield 268, 3) := by decide +kernel
theorem dX11_expression_9 : decode cX11_expression 9 = .ok (.istore_n 1, 1) := by decide +kernel
theorem dX11_expression_10 : decode cX11_expression 10 = .ok (.iconst 1, 1) := by decide +kernel
theorem dX11_expression_11 : decode cX11_expression 11 = .ok (.istore_n 2, 1) := by decide +kernel
theorem dX11_expression_12 : decode cX11_expression 12 = .ok (.iload_n 2, 1) := by decide +kernel
theorem dX11_expression_13 : decode cX11_expression 13 = .ok (.ifCond .eq 347, 3) := by decide +kernel
theorem dX11_expression_16 : decode cX11_expression 16 = .ok (.aload_n 0, 1) := by decide +kernel
theorem dX11_expression_17 : decode cX11_expression 17 = .ok (.getfield 235, 3) := by decide +kernel
theorem dX11_expression_20 : decode cX11_expression 20 = .ok (.ifCond .ne 340, 3) := by decide +kernel
theorem dX11_expression_23 : decode cX11_expression 23 = .ok (.aload_n 0, 1) := by decide +kernel
theorem dX11_expression_24 : decode cX11_expression 24 = .ok (.bipush 6, 2) := by decide +kernel
theorem dX11_expression_26 : decode cX11_expression 26 = .ok (.invokevirtual 253, 3) := by decide +kernel
theorem dX11_expression_29 : decode cX11_expression 29 = .ok (.ifCond .eq 63, 3) := by decide +kernel
theorem dX11_expression_32 : decode cX11_expression 32 = .ok (.aload_n 0, 1) := by decide +kernel
theorem dX11_expression_33 : decode cX11_expression 33 = .ok (.getfield 268, 3) := by decide +kernel
theorem dX11_expression_36 : decode cX11_expression 36 = .ok (.bipush 6, 2) := by decide +kernel
theorem dX11_expression_38 : decode cX11_expression 38 = .ok (.if_icmp .ne 8, 3) := by decide +kernel
theorem dX11_expression_41 : decode cX11_expression 41 = .ok (.aload_n 0, 1) := by decide +kernel
theorem dX11_expression_42 : decode cX11_expression 42 = .ok (.iconst 2, 1) := by decide +kernel
theorem dX11_expression_43 : decode cX11_expression 43 = .ok (.invokevirtual 250, 3) := by decide +kernel
theorem dX11_expression_46 : decode cX11_expression 46 = .ok (.aload_n 0, 1) := by decide +kernel
theorem dX11_expression_47 : decode cX11_expression 47 = .ok (.getfield 235, 3) := by decide +kernel
theorem dX11_expression_50 : decode cX11_expression 50 = .ok (.ifCond .le 4, 3) := by decide +kernel
theorem dX11_expression_53 : decode cX11_expression 53 = .ok (.return_, 1) := by decide +kernel
theorem dX11_expression_54 : decode cX11_expression 54 = .ok (.aload_n 0, 1) := by decide +kernel
theorem dX11_expression_55 : decode cX11_expression 55 = .ok (.dup, 1) := by decide +kernel
theorem dX11_expression_56 : decode cX11_expression 56 = .ok (.getfield 268, 3) := by decide +kernel
theorem dX11_expression_59 : decode cX11_expression 59 = .ok (.iconst 1, 1) := by decide +kernel
theorem dX11_expression_60 : decode cX11_expression 60 = .ok (.iadd, 1) := by decide +kernel
theorem dX11_expression_61 : decode cX11_expression 61 = .ok (.putfield 268, 3) := by decide +kernel
theorem dX11_expression_64 : decode cX11_expression 64 = .ok (.aload_n 0, 1) := by decide +kernel
theorem dX11_expression_65 : decode cX11_expression 65 = .ok (.invokevirtual 256, 3) := by decide +kernel
theorem dX11_expression_68 : decode cX11_expression 68 = .ok (.aload_n 0, 1) := by decide +kernel
theorem dX11_expression_69 : decode cX11_expression 69 = .ok (.getfield 92, 3) := by decide +kernel
theorem dX11_expression_72 : decode cX11_expression 72 = .ok (.aload_n 0, 1) := by decide +kernel
theorem dX11_expression_73 : decode cX11_expression 73 = .ok (.getfield 290, 3) := by decide +kernel
theorem dX11_expression_76 : decode cX11_expression 76 = .ok (.bipush 6, 2) := by decide +kernel
theorem dX11_expression_78 : decode cX11_expression 78 = .ok (.iastore, 1) := by decide +kernel
theorem dX11_expression_79 : decode cX11_expression 79 = .ok (.aload_n 0, 1) := by decide +kernel
theorem dX11_expression_80 : decode cX11_expression 80 = .ok (.dup, 1) := by decide +kernel
theorem dX11_expression_81 : decode cX11_expression 81 = .ok (.getfield 290, 3) := by decide +kernel
theorem dX11_expression_84 : decode cX11_expression 84 = .ok (.iconst 1, 1) := by decide +kernel
theorem dX11_expression_85 : decode cX11_expression 85 = .ok (.iadd, 1) := by decide +kernel
theorem dX11_expression_86 : decode cX11_expression 86 = .ok (.putfield 290, 3) := by decide +kernel
theorem dX11_expression_89 : decode cX11_expression 89 = .ok (.goto (-77), 3) := by decide +kernel
theorem dX11_expression_92 : decode cX11_expression 92 = .ok (.aload_n 0, 1) := by decide +kernel
theorem dX11_expression_93 : decode cX11_expression 93 = .ok (.getfield 235, 3) := by decide +kernel
theorem dX11_expression_96 : decode cX11_expression 96 = .ok (.ifCond .ne 35, 3) := by decide +kernel
theorem dX11_expression_99 : decode cX11_expression 99 = .ok (.aload_n 0, 1) := by decide +kernel
theorem dX11_expression_100 : decode cX11_expression 100 = .ok (.getfield 20, 3) := by decide +kernel
theorem dX11_expression_103 : decode cX11_expression 103 = .ok (.aload_n 0, 1) := by decide +kernel
theorem dX11_expression_104 : decode cX11_expression 104 = .ok (.getfield 238, 3) := by decide +kernel
theorem dX11_expression_107 : decode cX11_expression 107 = .ok (.iaload, 1) := by decide +kernel
theorem dX11_expression_108 : decode cX11_expression 108 = .ok (.bipush 28, 2) := by decide +kernel
theorem dX11_expression_110 : decode cX11_expression 110 = .ok (.if_icmp .lt 21, 3) := by decide +kernel
theorem dX11_expression_113 : decode cX11_expression 113 = .ok (.aload_n 0, 1) := by decide +kernel
theorem dX11_expression_114 : decode cX11_expression 114 = .ok (.getfield 20, 3) := by decide +kernel
theorem dX11_expression_117 : decode cX11_expression 117 = .ok (.aload_n 0, 1) := by decide +kernel
theorem dX11_expression_118 : decode cX11_expression 118 = .ok (.getfield 238, 3) := by decide +kernel
theorem dX11_expression_121 : decode cX11_expression 121 = .ok (.iaload, 1) := by decide +kernel
theorem dX11_expression_122 : decode cX11_expression 122 = .ok (.bipush 39, 2) := by decide +kernel
theorem dX11_expression_124 : decode cX11_expression 124 = .ok (.if_icmp .gt 7, 3) := by decide +kernel
theorem dX11_expression_127 : decode cX11_expression 127 = .ok (.iconst 1, 1) := by decide +kernel
theorem dX11_expression_128 : decode cX11_expression 128 = .ok (.goto 4, 3) := by decide +kernel
theorem dX11_expression_131 : decode cX11_expression 131 = .ok (.iconst 0, 1) := by decide +kernel
theorem dX11_expression_132 : decode cX11_expression 132 = .ok (.istore_n 3, 1) := by decide +kernel
theorem dX11_expression_133 : decode cX11_expression 133 = .ok (.aload_n 0, 1) := by decide +kernel
theorem dX11_expression_134 : decode cX11_expression 134 = .ok (.iconst 2, 1) := by decide +kernel
theorem dX11_expression_135 : decode cX11_expression 135 = .ok (.invokevirtual 253, 3) := by decide +kernel
theorem dX11_expression_138 : decode cX11_expression 138 = .ok (.ifCond .ne 12, 3) := by decide +kernel
theorem dX11_expression_141 : decode cX11_expression 141 = .ok (.iload_n 3, 1) := by decide +kernel
theorem dX11_expression_142 : decode cX11_expression 142 = .ok (.ifCond .ne 8, 3) := by decide +kernel
theorem dX11_expression_145 : decode cX11_expression 145 = .ok (.aload_n 0, 1) := by decide +kernel
theorem dX11_expression_146 : decode cX11_expression 146 = .ok (.iconst 1, 1) := by decide +kernel
theorem dX11_expression_147 : decode cX11_expression 147 = .ok (.invokevirtual 250, 3) := by decide +kernel
theorem dX11_expression_150 : decode cX11_expression 150 = .ok (.aload_n 0, 1) := by decide +kernel
theorem dX11_expression_151 : decode cX11_expression 151 = .ok (.getfield 235, 3) := by decide +kernel
theorem dX11_expression_154 : decode cX11_expression 154 = .ok (.ifCond .le 4, 3) := by decide +kernel
theorem dX11_expression_157 : decode cX11_expression 157 = .ok (.return_, 1) := by decide +kernel
theorem dX11_expression_158 : decode cX11_expression 158 = .ok (.iload_n 3, 1) := by decide +kernel
theorem dX11_expression_159 : decode cX11_expression 159 = .ok (.ifCond .eq 23, 3) := by decide +kernel
theorem dX11_expression_162 : decode cX11_expression 162 = .ok (.aload_n 0, 1) := by decide +kernel
theorem dX11_expression_163 : decode cX11_expression 163 = .ok (.iconst 1, 1) := by decide +kernel
theorem dX11_expression_164 : decode cX11_expression 164 = .ok (.aload_n 0, 1) := by decide +kernel
theorem dX11_expression_165 : decode cX11_expression 165 = .ok (.getfield 20, 3) := by decide +kernel
theorem dX11_expression_168 : decode cX11_expression 168 = .ok (.aload_n 0, 1) := by decide +kernel
theorem dX11_expression_169 : decode cX11_expression 169 = .ok (.getfield 238, 3) := by decide +kernel
theorem dX11_expression_172 : decode cX11_expression 172 = .ok (.iaload, 1) := by decide +kernel
theorem dX11_expression_173 : decode cX11_expression 173 = .ok (.bipush 28, 2) := by decide +kernel
theorem dX11_expression_175 : decode cX11_expression 175 = .ok (.isub, 1) := by decide +kernel
theorem dX11_expression_176 : decode cX11_expression 176 = .ok (.invokevirtual 293, 3) := by decide +kernel
theorem dX11_expression_179 : decode cX11_expression 179 = .ok (.goto 17, 3) := by decide +kernel
theorem dX11_expression_182 : decode cX11_expression 182 = .ok (.aload_n 0, 1) := by decide +kernel
theorem dX11_expression_183 : decode cX11_expression 183 = .ok (.iconst 0, 1) := by decide +kernel
theorem dX11_expression_184 : decode cX11_expression 184 = .ok (.aload_n 0, 1) := by decide +kernel
theorem dX11_expression_185 : decode cX11_expression 185 = .ok (.getfield 27, 3) := by decide +kernel
theorem dX11_expression_188 : decode cX11_expression 188 = .ok (.aload_n 0, 1) := by decide +kernel
theorem dX11_expression_189 : decode cX11_expression 189 = .ok (.getfield 238, 3) := by decide +kernel
theorem dX11_expression_192 : decode cX11_expression 192 = .ok (.iaload, 1) := by decide +kernel
theorem dX11_expression_193 : decode cX11_expression 193 = .ok (.invokevirtual 293, 3) := by decide +kernel
theorem dX11_expression_196 : decode cX11_expression 196 = .ok (.aload_n 0, 1) := by decide +kernel
theorem dX11_expression_197 : decode cX11_expression 197 = .ok (.invokevirtual 256, 3) := by decide +kernel
theorem dX11_expression_200 : decode cX11_expression 200 = .ok (.aload_n 0, 1) := by decide +kernel
theorem dX11_expression_201 : decode cX11_expression 201 = .ok (.bipush 7, 2) := by decide +kernel
theorem dX11_expression_203 : decode cX11_expression 203 = .ok (.invokevirtual 253, 3) := by decide +kernel
theorem dX11_expression_206 : decode cX11_expression 206 = .ok (.ifCond .eq 43, 3) := by decide +kernel
theorem dX11_expression_209 : decode cX11_expression 209 = .ok (.aload_n 0, 1) := by decide +kernel
theorem dX11_expression_210 : decode cX11_expression 210 = .ok (.getfield 268, 3) := by decide +kernel
theorem dX11_expression_213 : decode cX11_expression 213 = .ok (.iload_n 1, 1) := by decide +kernel
theorem dX11_expression_214 : decode cX11_expression 214 = .ok (.if_icmp .le 35, 3) := by decide +kernel
theorem dX11_expression_217 : decode cX11_expression 217 = .ok (.aload_n 0, 1) := by decide +kernel
theorem dX11_expression_218 : decode cX11_expression 218 = .ok (.iconst 0, 1) := by decide +kernel
theorem dX11_expression_219 : decode cX11_expression 219 = .ok (.invokevirtual 297, 3) := by decide +kernel
theorem dX11_expression_222 : decode cX11_expression 222 = .ok (.aload_n 0, 1) := by decide +kernel
theorem dX11_expression_223 : decode cX11_expression 223 = .ok (.dup, 1) := by decide +kernel
theorem dX11_expression_224 : decode cX11_expression 224 = .ok (.getfield 290, 3) := by decide +kernel
theorem dX11_expression_227 : decode cX11_expression 227 = .ok (.iconst 1, 1) := by decide +kernel
theorem dX11_expression_228 : decode cX11_expression 228 = .ok (.isub, 1) := by decide +kernel
theorem dX11_expression_229 : decode cX11_expression 229 = .ok (.putfield 290, 3) := by decide +kernel
theorem dX11_expression_232 : decode cX11_expression 232 = .ok (.aload_n 0, 1) := by decide +kernel
theorem dX11_expression_233 : decode cX11_expression 233 = .ok (.dup, 1) := by decide +kernel
theorem dX11_expression_234 : decode cX11_expression 234 = .ok (.getfield 268, 3) := by decide +kernel
theorem dX11_expression_237 : decode cX11_expression 237 = .ok (.iconst 1, 1) := by decide +kernel
theorem dX11_expression_238 : decode cX11_expression 238 = .ok (.isub, 1) := by decide +kernel
theorem dX11_expression_239 : decode cX11_expression 239 = .ok (.putfield 268, 3) := by decide +kernel
theorem dX11_expression_242 : decode cX11_expression 242 = .ok (.aload_n 0, 1) := by decide +kernel
theorem dX11_expression_243 : decode cX11_expression 243 = .ok (.invokevirtual 256, 3) := by decide +kernel
theorem dX11_expression_246 : decode cX11_expression 246 = .ok (.goto (-46), 3) := by decide +kernel
theorem dX11_expression_249 : decode cX11_expression 249 = .ok (.aload_n 0, 1) := by decide +kernel
theorem dX11_expression_250 : decode cX11_expression 250 = .ok (.bipush 8, 2) := by decide +kernel
theorem dX11_expression_252 : decode cX11_expression 252 = .ok (.invokevirtual 253, 3) := by decide +kernel
theorem dX11_expression_255 : decode cX11_expression 255 = .ok (.ifCond .ne 21, 3) := by decide +kernel
theorem dX11_expression_258 : decode cX11_expression 258 = .ok (.aload_n 0, 1) := by decide +kernel
theorem dX11_expression_259 : decode cX11_expression 259 = .ok (.bipush 9, 2) := by decide +kernel
theorem dX11_expression_261 : decode cX11_expression 261 = .ok (.invokevirtual 253, 3) := by decide +kernel
theorem dX11_expression_264 : decode cX11_expression 264 = .ok (.ifCond .ne 12, 3) := by decide +kernel
theorem dX11_expression_267 : decode cX11_expression 267 = .ok (.aload_n 0, 1) := by decide +kernel
theorem dX11_expression_268 : decode cX11_expression 268 = .ok (.bipush 10, 2) := by decide +kernel
theorem dX11_expression_270 : decode cX11_expression 270 = .ok (.invokevirtual 253, 3) := by decide +kernel
theorem dX11_expression_273 : decode cX11_expression 273 = .ok (.ifCond .eq 7, 3) := by decide +kernel
theorem dX11_expression_276 : decode cX11_expression 276 = .ok (.iconst 1, 1) := by decide +kernel
theorem dX11_expression_277 : decode cX11_expression 277 = .ok (.goto 4, 3) := by decide +kernel
theorem dX11_expression_280 : decode cX11_expression 280 = .ok (.iconst 0, 1) := by decide +kernel
theorem dX11_expression_281 : decode cX11_expression 281 = .ok (.istore_n 2, 1) := by decide +kernel
theorem dX11_expression_282 : decode cX11_expression 282 = .ok (.iload_n 2, 1) := by decide +kernel
theorem dX11_expression_283 : decode cX11_expression 283 = .ok (.ifCond .ne 22, 3) := by decide +kernel
theorem dX11_expression_286 : decode cX11_expression 286 = .ok (.aload_n 0, 1) := by decide +kernel
theorem dX11_expression_287 : decode cX11_expression 287 = .ok (.getfield 268, 3) := by decide +kernel
theorem dX11_expression_290 : decode cX11_expression 290 = .ok (.iload_n 1, 1) := by decide +kernel
theorem dX11_expression_291 : decode cX11_expression 291 = .ok (.if_icmp .le 8, 3) := by decide +kernel
theorem dX11_expression_294 : decode cX11_expression 294 = .ok (.aload_n 0, 1) := by decide +kernel
theorem dX11_expression_295 : decode cX11_expression 295 = .ok (.iconst 1, 1) := by decide +kernel
theorem dX11_expression_296 : decode cX11_expression 296 = .ok (.invokevirtual 250, 3) := by decide +kernel
theorem dX11_expression_299 : decode cX11_expression 299 = .ok (.aload_n 0, 1) := by decide +kernel
theorem dX11_expression_300 : decode cX11_expression 300 = .ok (.iconst 0, 1) := by decide +kernel
theorem dX11_expression_301 : decode cX11_expression 301 = .ok (.invokevirtual 297, 3) := by decide +kernel
theorem dX11_expression_304 : decode cX11_expression 304 = .ok (.return_, 1) := by decide +kernel
theorem dX11_expression_305 : decode cX11_expression 305 = .ok (.aload_n 0, 1) := by decide +kernel
theorem dX11_expression_306 : decode cX11_expression 306 = .ok (.getfield 20, 3) := by decide +kernel
theorem dX11_expression_309 : decode cX11_expression 309 = .ok (.aload_n 0, 1) := by decide +kernel
theorem dX11_expression_310 : decode cX11_expression 310 = .ok (.getfield 238, 3) := by decide +kernel
theorem dX11_expression_313 : decode cX11_expression 313 = .ok (.iaload, 1) := by decide +kernel
theorem dX11_expression_314 : decode cX11_expression 314 = .ok (.istore 4, 2) := by decide +kernel
theorem dX11_expression_316 : decode cX11_expression 316 = .ok (.aload_n 0, 1) := by decide +kernel
theorem dX11_expression_317 : decode cX11_expression 317 = .ok (.iload 4, 2) := by decide +kernel
theorem dX11_expression_319 : decode cX11_expression 319 = .ok (.bipush 10, 2) := by decide +kernel
theorem dX11_expression_321 : decode cX11_expression 321 = .ok (.if_icmp .ne 7, 3) := by decide +kernel
theorem dX11_expression_324 : decode cX11_expression 324 = .ok (.iconst 1, 1) := by decide +kernel
theorem dX11_expression_325 : decode cX11_expression 325 = .ok (.goto 4, 3) := by decide +kernel
theorem dX11_expression_328 : decode cX11_expression 328 = .ok (.iconst 0, 1) := by decide +kernel
theorem dX11_expression_329 : decode cX11_expression 329 = .ok (.invokevirtual 297, 3) := by decide +kernel
theorem dX11_expression_332 : decode cX11_expression 332 = .ok (.aload_n 0, 1) := by decide +kernel
theorem dX11_expression_333 : decode cX11_expression 333 = .ok (.getfield 92, 3) := by decide +kernel
theorem dX11_expression_336 : decode cX11_expression 336 = .ok (.aload_n 0, 1) := by decide +kernel
theorem dX11_expression_337 : decode cX11_expression 337 = .ok (.getfield 290, 3) := by decide +kernel
theorem dX11_expression_340 : decode cX11_expression 340 = .ok (.iload 4, 2) := by decide +kernel
theorem dX11_expression_342 : decode cX11_expression 342 = .ok (.iastore, 1) := by decide +kernel
theorem dX11_expression_343 : decode cX11_expression 343 = .ok (.aload_n 0, 1) := by decide +kernel
theorem dX11_expression_344 : decode cX11_expression 344 = .ok (.dup, 1) := by decide +kernel
theorem dX11_expression_345 : decode cX11_expression 345 = .ok (.getfield 290, 3) := by decide +kernel
theorem dX11_expression_348 : decode cX11_expression 348 = .ok (.iconst 1, 1) := by decide +kernel
theorem dX11_expression_349 : decode cX11_expression 349 = .ok (.iadd, 1) := by decide +kernel
theorem dX11_expression_350 : decode cX11_expression 350 = .ok (.putfield 290, 3) := by decide +kernel
theorem dX11_expression_353 : decode cX11_expression 353 = .ok (.aload_n 0, 1) := by decide +kernel
theorem dX11_expression_354 : decode cX11_expression 354 = .ok (.invokevirtual 256, 3) := by decide +kernel
theorem dX11_expression_357 : decode cX11_expression 357 = .ok (.goto (-345), 3) := by decide +kernel
theorem dX11_expression_360 : decode cX11_expression 360 = .ok (.return_, 1) := by decide +kernel
theorem dX11_isPerson_0 : decode cX11_isPerson 0 = .ok (.iload_n 1, 1) := by decide +kernel
theorem dX11_isPerson_1 : decode cX11_isPerson 1 = .ok (.ifCond .lt 15, 3) := by decide +kernel
theorem dX11_isPerson_4 : decode cX11_isPerson 4 = .ok (.iload_n 1, 1) := by decide +kernel
theorem dX11_isPerson_5 : decode cX11_isPerson 5 = .ok (.aload_n 0, 1) := by decide +kernel
theorem dX11_isPerson_6 : decode cX11_isPerson 6 = .ok (.getfield 300, 3) := by decide +kernel
theorem dX11_isPerson_9 : decode cX11_isPerson 9 = .ok (.if_icmp .ge 7, 3) := by decide +kernel
theorem dX11_isPerson_12 : decode cX11_isPerson 12 = .ok (.iconst 1, 1) := by decide +kernel
theorem dX11_isPerson_13 : decode cX11_isPerson 13 = .ok (.goto 4, 3) := by decide +kernel
theorem dX11_isPerson_16 : decode cX11_isPerson 16 = .ok (.iconst 0, 1) := by decide +kernel
theorem dX11_isPerson_17 : decode cX11_isPerson 17 = .ok (.ireturn, 1) := by decide +kernel
theorem dX11_isDay_0 : decode cX11_isDay 0 = .ok (.iload_n 0, 1) := by decide +kernel
theorem dX11_isDay_1 : decode cX11_isDay 1 = .ok (.ifCond .lt 14, 3) := by decide +kernel
theorem dX11_isDay_4 : decode cX11_isDay 4 = .ok (.iload_n 0, 1) := by decide +kernel
theorem dX11_isDay_5 : decode cX11_isDay 5 = .ok (.sipush 9999, 3) := by decide +kernel
theorem dX11_isDay_8 : decode cX11_isDay 8 = .ok (.if_icmp .gt 7, 3) := by decide +kernel
theorem dX11_isDay_11 : decode cX11_isDay 11 = .ok (.iconst 1, 1) := by decide +kernel
theorem dX11_isDay_12 : decode cX11_isDay 12 = .ok (.goto 4, 3) := by decide +kernel
theorem dX11_isDay_15 : decode cX11_isDay 15 = .ok (.iconst 0, 1) := by decide +kernel
theorem dX11_isDay_16 : decode cX11_isDay 16 = .ok (.ireturn, 1) := by decide +kernel
theorem dX11_person_0 : decode cX11_person 0 = .ok (.aload_n 0, 1) := by decide +kernel
theorem dX11_person_1 : decode cX11_person 1 = .ok (.getfield 300, 3) := by decide +kernel
theorem dX11_person_4 : decode cX11_person 4 = .ok (.bipush 12, 2) := by decide +kernel
theorem dX11_person_6 : decode cX11_person 6 = .ok (.if_icmp .eq 76, 3) := by decide +kernel
theorem dX11_person_9 : decode cX11_person 9 = .ok (.iload_n 1, 1) := by decide +kernel
theorem dX11_person_10 : decode cX11_person 10 = .ok (.iconst (-1), 1) := by decide +kernel
theorem dX11_person_11 : decode cX11_person 11 = .ok (.if_icmp .lt 71, 3) := by decide +kernel
theorem dX11_person_14 : decode cX11_person 14 = .ok (.iload_n 1, 1) := by decide +kernel
theorem dX11_person_15 : decode cX11_person 15 = .ok (.aload_n 0, 1) := by decide +kernel
theorem dX11_person_16 : decode cX11_person 16 = .ok (.getfield 300, 3) := by decide +kernel
theorem dX11_person_19 : decode cX11_person 19 = .ok (.if_icmp .ge 63, 3) := by decide +kernel
theorem dX11_person_22 : decode cX11_person 22 = .ok (.iload_n 2, 1) := by decide +kernel
theorem dX11_person_23 : decode cX11_person 23 = .ok (.iconst (-1), 1) := by decide +kernel
theorem dX11_person_24 : decode cX11_person 24 = .ok (.if_icmp .lt 58, 3) := by decide +kernel
theorem dX11_person_27 : decode cX11_person 27 = .ok (.iload_n 2, 1) := by decide +kernel
theorem dX11_person_28 : decode cX11_person 28 = .ok (.aload_n 0, 1) := by decide +kernel
theorem dX11_person_29 : decode cX11_person 29 = .ok (.getfield 300, 3) := by decide +kernel
theorem dX11_person_32 : decode cX11_person 32 = .ok (.if_icmp .ge 50, 3) := by decide +kernel
theorem dX11_person_35 : decode cX11_person 35 = .ok (.iload_n 1, 1) := by decide +kernel
theorem dX11_person_36 : decode cX11_person 36 = .ok (.iconst (-1), 1) := by decide +kernel
theorem dX11_person_37 : decode cX11_person 37 = .ok (.if_icmp .eq 8, 3) := by decide +kernel
theorem dX11_person_40 : decode cX11_person 40 = .ok (.iload_n 1, 1) := by decide +kernel
theorem dX11_person_41 : decode cX11_person 41 = .ok (.iload_n 2, 1) := by decide +kernel
theorem dX11_person_42 : decode cX11_person 42 = .ok (.if_icmp .eq 40, 3) := by decide +kernel
theorem dX11_person_45 : decode cX11_person 45 = .ok (.iload_n 3, 1) := by decide +kernel
theorem dX11_person_46 : decode cX11_person 46 = .ok (.invokestatic 259, 3) := by decide +kernel
theorem dX11_person_49 : decode cX11_person 49 = .ok (.ifCond .eq 33, 3) := by decide +kernel
theorem dX11_person_52 : decode cX11_person 52 = .ok (.iload_n 1, 1) := by decide +kernel
theorem dX11_person_53 : decode cX11_person 53 = .ok (.iconst (-1), 1) := by decide +kernel
theorem dX11_person_54 : decode cX11_person 54 = .ok (.if_icmp .eq 13, 3) := by decide +kernel
theorem dX11_person_57 : decode cX11_person 57 = .ok (.iload_n 3, 1) := by decide +kernel
theorem dX11_person_58 : decode cX11_person 58 = .ok (.aload_n 0, 1) := by decide +kernel
theorem dX11_person_59 : decode cX11_person 59 = .ok (.getfield 101, 3) := by decide +kernel
theorem dX11_person_62 : decode cX11_person 62 = .ok (.iload_n 1, 1) := by decide +kernel
theorem dX11_person_63 : decode cX11_person 63 = .ok (.iaload, 1) := by decide +kernel
theorem dX11_person_64 : decode cX11_person 64 = .ok (.if_icmp .le 18, 3) := by decide +kernel
theorem dX11_person_67 : decode cX11_person 67 = .ok (.iload_n 2, 1) := by decide +kernel
theorem dX11_person_68 : decode cX11_person 68 = .ok (.iconst (-1), 1) := by decide +kernel
theorem dX11_person_69 : decode cX11_person 69 = .ok (.if_icmp .eq 15, 3) := by decide +kernel
theorem dX11_person_72 : decode cX11_person 72 = .ok (.iload_n 3, 1) := by decide +kernel
theorem dX11_person_73 : decode cX11_person 73 = .ok (.aload_n 0, 1) := by decide +kernel
theorem dX11_person_74 : decode cX11_person 74 = .ok (.getfield 101, 3) := by decide +kernel
theorem dX11_person_77 : decode cX11_person 77 = .ok (.iload_n 2, 1) := by decide +kernel
theorem dX11_person_78 : decode cX11_person 78 = .ok (.iaload, 1) := by decide +kernel
theorem dX11_person_79 : decode cX11_person 79 = .ok (.if_icmp .gt 5, 3) := by decide +kernel
theorem dX11_person_82 : decode cX11_person 82 = .ok (.iconst (-1), 1) := by decide +kernel
theorem dX11_person_83 : decode cX11_person 83 = .ok (.ireturn, 1) := by decide +kernel
theorem dX11_person_84 : decode cX11_person 84 = .ok (.aload_n 0, 1) := by decide +kernel
theorem dX11_person_85 : decode cX11_person 85 = .ok (.getfield 95, 3) := by decide +kernel
theorem dX11_person_88 : decode cX11_person 88 = .ok (.aload_n 0, 1) := by decide +kernel
theorem dX11_person_89 : decode cX11_person 89 = .ok (.getfield 300, 3) := by decide +kernel
theorem dX11_person_92 : decode cX11_person 92 = .ok (.iload_n 1, 1) := by decide +kernel
theorem dX11_person_93 : decode cX11_person 93 = .ok (.iastore, 1) := by decide +kernel
theorem dX11_person_94 : decode cX11_person 94 = .ok (.aload_n 0, 1) := by decide +kernel
theorem dX11_person_95 : decode cX11_person 95 = .ok (.getfield 98, 3) := by decide +kernel
theorem dX11_person_98 : decode cX11_person 98 = .ok (.aload_n 0, 1) := by decide +kernel
theorem dX11_person_99 : decode cX11_person 99 = .ok (.getfield 300, 3) := by decide +kernel
theorem dX11_person_102 : decode cX11_person 102 = .ok (.iload_n 2, 1) := by decide +kernel
theorem dX11_person_103 : decode cX11_person 103 = .ok (.iastore, 1) := by decide +kernel
theorem dX11_person_104 : decode cX11_person 104 = .ok (.aload_n 0, 1) := by decide +kernel
theorem dX11_person_105 : decode cX11_person 105 = .ok (.getfield 101, 3) := by decide +kernel
theorem dX11_person_108 : decode cX11_person 108 = .ok (.aload_n 0, 1) := by decide +kernel
theorem dX11_person_109 : decode cX11_person 109 = .ok (.getfield 300, 3) := by decide +kernel
theorem dX11_person_112 : decode cX11_person 112 = .ok (.iload_n 3, 1) := by decide +kernel
theorem dX11_person_113 : decode cX11_person 113 = .ok (.iastore, 1) := by decide +kernel
theorem dX11_person_114 : decode cX11_person 114 = .ok (.iconst 0, 1) := by decide +kernel
theorem dX11_person_115 : decode cX11_person 115 = .ok (.istore 4, 2) := by decide +kernel
theorem dX11_person_117 : decode cX11_person 117 = .ok (.iload 4, 2) := by decide +kernel
theorem dX11_person_119 : decode cX11_person 119 = .ok (.bipush 12, 2) := by decide +kernel
theorem dX11_person_121 : decode cX11_person 121 = .ok (.if_icmp .ge 123, 3) := by decide +kernel
theorem dX11_person_124 : decode cX11_person 124 = .ok (.iload 4, 2) := by decide +kernel
theorem dX11_person_126 : decode cX11_person 126 = .ok (.aload_n 0, 1) := by decide +kernel
theorem dX11_person_127 : decode cX11_person 127 = .ok (.getfield 300, 3) := by decide +kernel
theorem dX11_person_130 : decode cX11_person 130 = .ok (.if_icmp .ne 7, 3) := by decide +kernel
theorem dX11_person_133 : decode cX11_person 133 = .ok (.iconst 0, 1) := by decide +kernel
theorem dX11_person_134 : decode cX11_person 134 = .ok (.goto 5, 3) := by decide +kernel
theorem dX11_person_137 : decode cX11_person 137 = .ok (.bipush 99, 2) := by decide +kernel
theorem dX11_person_139 : decode cX11_person 139 = .ok (.istore 5, 2) := by decide +kernel
theorem dX11_person_141 : decode cX11_person 141 = .ok (.iload_n 1, 1) := by decide +kernel
theorem dX11_person_142 : decode cX11_person 142 = .ok (.iconst (-1), 1) := by decide +kernel
theorem dX11_person_143 : decode cX11_person 143 = .ok (.if_icmp .eq 38, 3) := by decide +kernel
theorem dX11_person_146 : decode cX11_person 146 = .ok (.aload_n 0, 1) := by decide +kernel
theorem dX11_person_147 : decode cX11_person 147 = .ok (.getfield 104, 3) := by decide +kernel
theorem dX11_person_150 : decode cX11_person 150 = .ok (.bipush 12, 2) := by decide +kernel
theorem dX11_person_152 : decode cX11_person 152 = .ok (.iload_n 1, 1) := by decide +kernel
theorem dX11_person_153 : decode cX11_person 153 = .ok (.imul, 1) := by decide +kernel
theorem dX11_person_154 : decode cX11_person 154 = .ok (.iload 4, 2) := by decide +kernel
theorem dX11_person_156 : decode cX11_person 156 = .ok (.iadd, 1) := by decide +kernel
theorem dX11_person_157 : decode cX11_person 157 = .ok (.iaload, 1) := by decide +kernel
theorem dX11_person_158 : decode cX11_person 158 = .ok (.iconst 1, 1) := by decide +kernel
theorem dX11_person_159 : decode cX11_person 159 = .ok (.iadd, 1) := by decide +kernel
theorem dX11_person_160 : decode cX11_person 160 = .ok (.iload 5, 2) := by decide +kernel
theorem dX11_person_162 : decode cX11_person 162 = .ok (.if_icmp .ge 19, 3) := by decide +kernel
theorem dX11_person_165 : decode cX11_person 165 = .ok (.aload_n 0, 1) := by decide +kernel
theorem dX11_person_166 : decode cX11_person 166 = .ok (.getfield 104, 3) := by decide +kernel
theorem dX11_person_169 : decode cX11_person 169 = .ok (.bipush 12, 2) := by decide +kernel
theorem dX11_person_171 : decode cX11_person 171 = .ok (.iload_n 1, 1) := by decide +kernel
theorem dX11_person_172 : decode cX11_person 172 = .ok (.imul, 1) := by decide +kernel
theorem dX11_person_173 : decode cX11_person 173 = .ok (.iload 4, 2) := by decide +kernel
theorem dX11_person_175 : decode cX11_person 175 = .ok (.iadd, 1) := by decide +kernel
theorem dX11_person_176 : decode cX11_person 176 = .ok (.iaload, 1) := by decide +kernel
theorem dX11_person_177 : decode cX11_person 177 = .ok (.iconst 1, 1) := by decide +kernel
theorem dX11_person_178 : decode cX11_person 178 = .ok (.iadd, 1) := by decide +kernel
theorem dX11_person_179 : decode cX11_person 179 = .ok (.istore 5, 2) := by decide +kernel
theorem dX11_person_181 : decode cX11_person 181 = .ok (.iload_n 2, 1) := by decide +kernel
theorem dX11_person_182 : decode cX11_person 182 = .ok (.iconst (-1), 1) := by decide +kernel
theorem dX11_person_183 : decode cX11_person 183 = .ok (.if_icmp .eq 38, 3) := by decide +kernel
theorem dX11_person_186 : decode cX11_person 186 = .ok (.aload_n 0, 1) := by decide +kernel
theorem dX11_person_187 : decode cX11_person 187 = .ok (.getfield 104, 3) := by decide +kernel
theorem dX11_person_190 : decode cX11_person 190 = .ok (.bipush 12, 2) := by decide +kernel
theorem dX11_person_192 : decode cX11_person 192 = .ok (.iload_n 2, 1) := by decide +kernel
theorem dX11_person_193 : decode cX11_person 193 = .ok (.imul, 1) := by decide +kernel
theorem dX11_person_194 : decode cX11_person 194 = .ok (.iload 4, 2) := by decide +kernel
theorem dX11_person_196 : decode cX11_person 196 = .ok (.iadd, 1) := by decide +kernel
theorem dX11_person_197 : decode cX11_person 197 = .ok (.iaload, 1) := by decide +kernel
theorem dX11_person_198 : decode cX11_person 198 = .ok (.iconst 1, 1) := by decide +kernel
theorem dX11_person_199 : decode cX11_person 199 = .ok (.iadd, 1) := by decide +kernel
theorem dX11_person_200 : decode cX11_person 200 = .ok (.iload 5, 2) := by decide +kernel
theorem dX11_person_202 : decode cX11_person 202 = .ok (.if_icmp .ge 19, 3) := by decide +kernel
theorem dX11_person_205 : decode cX11_person 205 = .ok (.aload_n 0, 1) := by decide +kernel
theorem dX11_person_206 : decode cX11_person 206 = .ok (.getfield 104, 3) := by decide +kernel
theorem dX11_person_209 : decode cX11_person 209 = .ok (.bipush 12, 2) := by decide +kernel
theorem dX11_person_211 : decode cX11_person 211 = .ok (.iload_n 2, 1) := by decide +kernel
theorem dX11_person_212 : decode cX11_person 212 = .ok (.imul, 1) := by decide +kernel
theorem dX11_person_213 : decode cX11_person 213 = .ok (.iload 4, 2) := by decide +kernel
theorem dX11_person_215 : decode cX11_person 215 = .ok (.iadd, 1) := by decide +kernel
theorem dX11_person_216 : decode cX11_person 216 = .ok (.iaload, 1) := by decide +kernel
theorem dX11_person_217 : decode cX11_person 217 = .ok (.iconst 1, 1) := by decide +kernel
theorem dX11_person_218 : decode cX11_person 218 = .ok (.iadd, 1) := by decide +kernel
theorem dX11_person_219 : decode cX11_person 219 = .ok (.istore 5, 2) := by decide +kernel
theorem dX11_person_221 : decode cX11_person 221 = .ok (.aload_n 0, 1) := by decide +kernel
theorem dX11_person_222 : decode cX11_person 222 = .ok (.getfield 104, 3) := by decide +kernel
theorem dX11_person_225 : decode cX11_person 225 = .ok (.bipush 12, 2) := by decide +kernel
theorem dX11_person_227 : decode cX11_person 227 = .ok (.aload_n 0, 1) := by decide +kernel
theorem dX11_person_228 : decode cX11_person 228 = .ok (.getfield 300, 3) := by decide +kernel
theorem dX11_person_231 : decode cX11_person 231 = .ok (.imul, 1) := by decide +kernel
theorem dX11_person_232 : decode cX11_person 232 = .ok (.iload 4, 2) := by decide +kernel
theorem dX11_person_234 : decode cX11_person 234 = .ok (.iadd, 1) := by decide +kernel
theorem dX11_person_235 : decode cX11_person 235 = .ok (.iload 5, 2) := by decide +kernel
theorem dX11_person_237 : decode cX11_person 237 = .ok (.iastore, 1) := by decide +kernel
theorem dX11_person_238 : decode cX11_person 238 = .ok (.iinc 4 1, 3) := by decide +kernel
theorem dX11_person_241 : decode cX11_person 241 = .ok (.goto (-124), 3) := by decide +kernel
theorem dX11_person_244 : decode cX11_person 244 = .ok (.aload_n 0, 1) := by decide +kernel
theorem dX11_person_245 : decode cX11_person 245 = .ok (.dup, 1) := by decide +kernel
theorem dX11_person_246 : decode cX11_person 246 = .ok (.getfield 300, 3) := by decide +kernel
theorem dX11_person_249 : decode cX11_person 249 = .ok (.iconst 1, 1) := by decide +kernel
theorem dX11_person_250 : decode cX11_person 250 = .ok (.iadd, 1) := by decide +kernel
theorem dX11_person_251 : decode cX11_person 251 = .ok (.putfield 300, 3) := by decide +kernel
theorem dX11_person_254 : decode cX11_person 254 = .ok (.aload_n 0, 1) := by decide +kernel
theorem dX11_person_255 : decode cX11_person 255 = .ok (.getfield 300, 3) := by decide +kernel
theorem dX11_person_258 : decode cX11_person 258 = .ok (.iconst 1, 1) := by decide +kernel
theorem dX11_person_259 : decode cX11_person 259 = .ok (.isub, 1) := by decide +kernel
theorem dX11_person_260 : decode cX11_person 260 = .ok (.ireturn, 1) := by decide +kernel
theorem dX11_degreeOf_0 : decode cX11_degreeOf 0 = .ok (.bipush 99, 2) := by decide +kernel
theorem dX11_degreeOf_2 : decode cX11_degreeOf 2 = .ok (.istore_n 3, 1) := by decide +kernel
theorem dX11_degreeOf_3 : decode cX11_degreeOf 3 = .ok (.iconst 0, 1) := by decide +kernel
theorem dX11_degreeOf_4 : decode cX11_degreeOf 4 = .ok (.istore 4, 2) := by decide +kernel
theorem dX11_degreeOf_6 : decode cX11_degreeOf 6 = .ok (.iload 4, 2) := by decide +kernel
theorem dX11_degreeOf_8 : decode cX11_degreeOf 8 = .ok (.aload_n 0, 1) := by decide +kernel
theorem dX11_degreeOf_9 : decode cX11_degreeOf 9 = .ok (.getfield 300, 3) := by decide +kernel
theorem dX11_degreeOf_12 : decode cX11_degreeOf 12 = .ok (.if_icmp .ge 62, 3) := by decide +kernel
theorem dX11_degreeOf_15 : decode cX11_degreeOf 15 = .ok (.aload_n 0, 1) := by decide +kernel
theorem dX11_degreeOf_16 : decode cX11_degreeOf 16 = .ok (.getfield 104, 3) := by decide +kernel
theorem dX11_degreeOf_19 : decode cX11_degreeOf 19 = .ok (.bipush 12, 2) := by decide +kernel
theorem dX11_degreeOf_21 : decode cX11_degreeOf 21 = .ok (.iload_n 1, 1) := by decide +kernel
theorem dX11_degreeOf_22 : decode cX11_degreeOf 22 = .ok (.imul, 1) := by decide +kernel
theorem dX11_degreeOf_23 : decode cX11_degreeOf 23 = .ok (.iload 4, 2) := by decide +kernel
theorem dX11_degreeOf_25 : decode cX11_degreeOf 25 = .ok (.iadd, 1) := by decide +kernel
theorem dX11_degreeOf_26 : decode cX11_degreeOf 26 = .ok (.iaload, 1) := by decide +kernel
theorem dX11_degreeOf_27 : decode cX11_degreeOf 27 = .ok (.istore 5, 2) := by decide +kernel
theorem dX11_degreeOf_29 : decode cX11_degreeOf 29 = .ok (.aload_n 0, 1) := by decide +kernel
theorem dX11_degreeOf_30 : decode cX11_degreeOf 30 = .ok (.getfield 104, 3) := by decide +kernel
theorem dX11_degreeOf_33 : decode cX11_degreeOf 33 = .ok (.bipush 12, 2) := by decide +kernel
theorem dX11_degreeOf_35 : decode cX11_degreeOf 35 = .ok (.iload_n 2, 1) := by decide +kernel
theorem dX11_degreeOf_36 : decode cX11_degreeOf 36 = .ok (.imul, 1) := by decide +kernel
theorem dX11_degreeOf_37 : decode cX11_degreeOf 37 = .ok (.iload 4, 2) := by decide +kernel
theorem dX11_degreeOf_39 : decode cX11_degreeOf 39 = .ok (.iadd, 1) := by decide +kernel
theorem dX11_degreeOf_40 : decode cX11_degreeOf 40 = .ok (.iaload, 1) := by decide +kernel
theorem dX11_degreeOf_41 : decode cX11_degreeOf 41 = .ok (.istore 6, 2) := by decide +kernel
theorem dX11_degreeOf_43 : decode cX11_degreeOf 43 = .ok (.iload 5, 2) := by decide +kernel
theorem dX11_degreeOf_45 : decode cX11_degreeOf 45 = .ok (.iload 6, 2) := by decide +kernel
theorem dX11_degreeOf_47 : decode cX11_degreeOf 47 = .ok (.if_icmp .le 8, 3) := by decide +kernel
theorem dX11_degreeOf_50 : decode cX11_degreeOf 50 = .ok (.iload 5, 2) := by decide +kernel
theorem dX11_degreeOf_52 : decode cX11_degreeOf 52 = .ok (.goto 5, 3) := by decide +kernel
theorem dX11_degreeOf_55 : decode cX11_degreeOf 55 = .ok (.iload 6, 2) := by decide +kernel
theorem dX11_degreeOf_57 : decode cX11_degreeOf 57 = .ok (.istore 7, 2) := by decide +kernel
theorem dX11_degreeOf_59 : decode cX11_degreeOf 59 = .ok (.iload 7, 2) := by decide +kernel
theorem dX11_degreeOf_61 : decode cX11_degreeOf 61 = .ok (.iload_n 3, 1) := by decide +kernel
theorem dX11_degreeOf_62 : decode cX11_degreeOf 62 = .ok (.if_icmp .ge 6, 3) := by decide +kernel
theorem dX11_degreeOf_65 : decode cX11_degreeOf 65 = .ok (.iload 7, 2) := by decide +kernel
theorem dX11_degreeOf_67 : decode cX11_degreeOf 67 = .ok (.istore_n 3, 1) := by decide +kernel
theorem dX11_degreeOf_68 : decode cX11_degreeOf 68 = .ok (.iinc 4 1, 3) := by decide +kernel
theorem dX11_degreeOf_71 : decode cX11_degreeOf 71 = .ok (.goto (-65), 3) := by decide +kernel
theorem dX11_degreeOf_74 : decode cX11_degreeOf 74 = .ok (.iload_n 3, 1) := by decide +kernel
theorem dX11_degreeOf_75 : decode cX11_degreeOf 75 = .ok (.ireturn, 1) := by decide +kernel
theorem dX11_degree_0 : decode cX11_degree 0 = .ok (.aload_n 0, 1) := by decide +kernel
theorem dX11_degree_1 : decode cX11_degree 1 = .ok (.iload_n 1, 1) := by decide +kernel
theorem dX11_degree_2 : decode cX11_degree 2 = .ok (.invokevirtual 303, 3) := by decide +kernel
theorem dX11_degree_5 : decode cX11_degree 5 = .ok (.ifCond .eq 20, 3) := by decide +kernel
theorem dX11_degree_8 : decode cX11_degree 8 = .ok (.aload_n 0, 1) := by decide +kernel
theorem dX11_degree_9 : decode cX11_degree 9 = .ok (.iload_n 2, 1) := by decide +kernel
theorem dX11_degree_10 : decode cX11_degree 10 = .ok (.invokevirtual 303, 3) := by decide +kernel
theorem dX11_degree_13 : decode cX11_degree 13 = .ok (.ifCond .eq 12, 3) := by decide +kernel
theorem dX11_degree_16 : decode cX11_degree 16 = .ok (.aload_n 0, 1) := by decide +kernel
theorem dX11_degree_17 : decode cX11_degree 17 = .ok (.iload_n 1, 1) := by decide +kernel
theorem dX11_degree_18 : decode cX11_degree 18 = .ok (.iload_n 2, 1) := by decide +kernel
theorem dX11_degree_19 : decode cX11_degree 19 = .ok (.invokevirtual 306, 3) := by decide +kernel
theorem dX11_degree_22 : decode cX11_degree 22 = .ok (.goto 4, 3) := by decide +kernel
theorem dX11_degree_25 : decode cX11_degree 25 = .ok (.iconst (-1), 1) := by decide +kernel
theorem dX11_degree_26 : decode cX11_degree 26 = .ok (.ireturn, 1) := by decide +kernel
theorem dX11_gaps_0 : decode cX11_gaps 0 = .ok (.aload_n 0, 1) := by decide +kernel
theorem dX11_gaps_1 : decode cX11_gaps 1 = .ok (.iload_n 1, 1) := by decide +kernel
theorem dX11_gaps_2 : decode cX11_gaps 2 = .ok (.invokevirtual 303, 3) := by decide +kernel
theorem dX11_gaps_5 : decode cX11_gaps 5 = .ok (.ifCond .ne 5, 3) := by decide +kernel
theorem dX11_gaps_8 : decode cX11_gaps 8 = .ok (.iconst (-1), 1) := by decide +kernel
theorem dX11_gaps_9 : decode cX11_gaps 9 = .ok (.ireturn, 1) := by decide +kernel
theorem dX11_gaps_10 : decode cX11_gaps 10 = .ok (.iconst 0, 1) := by decide +kernel
theorem dX11_gaps_11 : decode cX11_gaps 11 = .ok (.istore_n 2, 1) := by decide +kernel
theorem dX11_gaps_12 : decode cX11_gaps 12 = .ok (.aload_n 0, 1) := by decide +kernel
theorem dX11_gaps_13 : decode cX11_gaps 13 = .ok (.getfield 107, 3) := by decide +kernel
theorem dX11_gaps_16 : decode cX11_gaps 16 = .ok (.iconst 0, 1) := by decide +kernel
theorem dX11_gaps_17 : decode cX11_gaps 17 = .ok (.iload_n 1, 1) := by decide +kernel
theorem dX11_gaps_18 : decode cX11_gaps 18 = .ok (.iastore, 1) := by decide +kernel
theorem dX11_gaps_19 : decode cX11_gaps 19 = .ok (.iconst 1, 1) := by decide +kernel
theorem dX11_gaps_20 : decode cX11_gaps 20 = .ok (.istore_n 3, 1) := by decide +kernel
theorem dX11_gaps_21 : decode cX11_gaps 21 = .ok (.iload_n 3, 1) := by decide +kernel
theorem dX11_gaps_22 : decode cX11_gaps 22 = .ok (.bipush 15, 2) := by decide +kernel
theorem dX11_gaps_24 : decode cX11_gaps 24 = .ok (.if_icmp .ge 74, 3) := by decide +kernel
theorem dX11_gaps_27 : decode cX11_gaps 27 = .ok (.aload_n 0, 1) := by decide +kernel
theorem dX11_gaps_28 : decode cX11_gaps 28 = .ok (.getfield 107, 3) := by decide +kernel
theorem dX11_gaps_31 : decode cX11_gaps 31 = .ok (.iload_n 3, 1) := by decide +kernel
theorem dX11_gaps_32 : decode cX11_gaps 32 = .ok (.iconst 1, 1) := by decide +kernel
theorem dX11_gaps_33 : decode cX11_gaps 33 = .ok (.isub, 1) := by decide +kernel
theorem dX11_gaps_34 : decode cX11_gaps 34 = .ok (.iconst 2, 1) := by decide +kernel
theorem dX11_gaps_35 : decode cX11_gaps 35 = .ok (.idiv, 1) := by decide +kernel
theorem dX11_gaps_36 : decode cX11_gaps 36 = .ok (.iaload, 1) := by decide +kernel
theorem dX11_gaps_37 : decode cX11_gaps 37 = .ok (.istore 4, 2) := by decide +kernel
theorem dX11_gaps_39 : decode cX11_gaps 39 = .ok (.aload_n 0, 1) := by decide +kernel
theorem dX11_gaps_40 : decode cX11_gaps 40 = .ok (.getfield 107, 3) := by decide +kernel
theorem dX11_gaps_43 : decode cX11_gaps 43 = .ok (.iload_n 3, 1) := by decide +kernel
theorem dX11_gaps_44 : decode cX11_gaps 44 = .ok (.iload 4, 2) := by decide +kernel
theorem dX11_gaps_46 : decode cX11_gaps 46 = .ok (.iconst (-1), 1) := by decide +kernel
theorem dX11_gaps_47 : decode cX11_gaps 47 = .ok (.if_icmp .ne 7, 3) := by decide +kernel
theorem dX11_gaps_50 : decode cX11_gaps 50 = .ok (.iconst (-1), 1) := by decide +kernel
theorem dX11_gaps_51 : decode cX11_gaps 51 = .ok (.goto 27, 3) := by decide +kernel
theorem dX11_gaps_54 : decode cX11_gaps 54 = .ok (.iload_n 3, 1) := by decide +kernel
theorem dX11_gaps_55 : decode cX11_gaps 55 = .ok (.iconst 2, 1) := by decide +kernel
theorem dX11_gaps_56 : decode cX11_gaps 56 = .ok (.irem, 1) := by decide +kernel
theorem dX11_gaps_57 : decode cX11_gaps 57 = .ok (.iconst 1, 1) := by decide +kernel
theorem dX11_gaps_58 : decode cX11_gaps 58 = .ok (.if_icmp .ne 13, 3) := by decide +kernel
theorem dX11_gaps_61 : decode cX11_gaps 61 = .ok (.aload_n 0, 1) := by decide +kernel
theorem dX11_gaps_62 : decode cX11_gaps 62 = .ok (.getfield 95, 3) := by decide +kernel
theorem dX11_gaps_65 : decode cX11_gaps 65 = .ok (.iload 4, 2) := by decide +kernel
theorem dX11_gaps_67 : decode cX11_gaps 67 = .ok (.iaload, 1) := by decide +kernel
theorem dX11_gaps_68 : decode cX11_gaps 68 = .ok (.goto 10, 3) := by decide +kernel
theorem dX11_gaps_71 : decode cX11_gaps 71 = .ok (.aload_n 0, 1) := by decide +kernel
theorem dX11_gaps_72 : decode cX11_gaps 72 = .ok (.getfield 98, 3) := by decide +kernel
theorem dX11_gaps_75 : decode cX11_gaps 75 = .ok (.iload 4, 2) := by decide +kernel
theorem dX11_gaps_77 : decode cX11_gaps 77 = .ok (.iaload, 1) := by decide +kernel
theorem dX11_gaps_78 : decode cX11_gaps 78 = .ok (.iastore, 1) := by decide +kernel
theorem dX11_gaps_79 : decode cX11_gaps 79 = .ok (.aload_n 0, 1) := by decide +kernel
theorem dX11_gaps_80 : decode cX11_gaps 80 = .ok (.getfield 107, 3) := by decide +kernel
theorem dX11_gaps_83 : decode cX11_gaps 83 = .ok (.iload_n 3, 1) := by decide +kernel
theorem dX11_gaps_84 : decode cX11_gaps 84 = .ok (.iaload, 1) := by decide +kernel
theorem dX11_gaps_85 : decode cX11_gaps 85 = .ok (.iconst (-1), 1) := by decide +kernel
theorem dX11_gaps_86 : decode cX11_gaps 86 = .ok (.if_icmp .ne 6, 3) := by decide +kernel
theorem dX11_gaps_89 : decode cX11_gaps 89 = .ok (.iinc 2 1, 3) := by decide +kernel
theorem dX11_gaps_92 : decode cX11_gaps 92 = .ok (.iinc 3 1, 3) := by decide +kernel
theorem dX11_gaps_95 : decode cX11_gaps 95 = .ok (.goto (-74), 3) := by decide +kernel
theorem dX11_gaps_98 : decode cX11_gaps 98 = .ok (.iload_n 2, 1) := by decide +kernel
theorem dX11_gaps_99 : decode cX11_gaps 99 = .ok (.ireturn, 1) := by decide +kernel
theorem dX11_isPromise_0 : decode cX11_isPromise 0 = .ok (.iload_n 1, 1) := by decide +kernel
theorem dX11_isPromise_1 : decode cX11_isPromise 1 = .ok (.ifCond .lt 15, 3) := by decide +kernel
theorem dX11_isPromise_4 : decode cX11_isPromise 4 = .ok (.iload_n 1, 1) := by decide +kernel
theorem dX11_isPromise_5 : decode cX11_isPromise 5 = .ok (.aload_n 0, 1) := by decide +kernel
theorem dX11_isPromise_6 : decode cX11_isPromise 6 = .ok (.getfield 310, 3) := by decide +kernel
theorem dX11_isPromise_9 : decode cX11_isPromise 9 = .ok (.if_icmp .ge 7, 3) := by decide +kernel
theorem dX11_isPromise_12 : decode cX11_isPromise 12 = .ok (.iconst 1, 1) := by decide +kernel
theorem dX11_isPromise_13 : decode cX11_isPromise 13 = .ok (.goto 4, 3) := by decide +kernel
theorem dX11_isPromise_16 : decode cX11_isPromise 16 = .ok (.iconst 0, 1) := by decide +kernel
theorem dX11_isPromise_17 : decode cX11_isPromise 17 = .ok (.ireturn, 1) := by decide +kernel
theorem dX11_isKnown_0 : decode cX11_isKnown 0 = .ok (.iload_n 1, 1) := by decide +kernel
theorem dX11_isKnown_1 : decode cX11_isKnown 1 = .ok (.ifCond .lt 15, 3) := by decide +kernel
theorem dX11_isKnown_4 : decode cX11_isKnown 4 = .ok (.iload_n 1, 1) := by decide +kernel
theorem dX11_isKnown_5 : decode cX11_isKnown 5 = .ok (.aload_n 0, 1) := by decide +kernel
theorem dX11_isKnown_6 : decode cX11_isKnown 6 = .ok (.getfield 313, 3) := by decide +kernel
theorem dX11_isKnown_9 : decode cX11_isKnown 9 = .ok (.if_icmp .gt 7, 3) := by decide +kernel
theorem dX11_isKnown_12 : decode cX11_isKnown 12 = .ok (.iconst 1, 1) := by decide +kernel
theorem dX11_isKnown_13 : decode cX11_isKnown 13 = .ok (.goto 4, 3) := by decide +kernel
theorem dX11_isKnown_16 : decode cX11_isKnown 16 = .ok (.iconst 0, 1) := by decide +kernel
theorem dX11_isKnown_17 : decode cX11_isKnown 17 = .ok (.ireturn, 1) := by decide +kernel
theorem dX11_promise_0 : decode cX11_promise 0 = .ok (.aload_n 0, 1) := by decide +kernel
theorem dX11_promise_1 : decode cX11_promise 1 = .ok (.getfield 310, 3) := by decide +kernel
theorem dX11_promise_4 : decode cX11_promise 4 = .ok (.bipush 10, 2) := by decide +kernel
theorem dX11_promise_6 : decode cX11_promise 6 = .ok (.if_icmp .eq 64, 3) := by decide +kernel
theorem dX11_promise_9 : decode cX11_promise 9 = .ok (.aload_n 0, 1) := by decide +kernel
theorem dX11_promise_10 : decode cX11_promise 10 = .ok (.iload_n 1, 1) := by decide +kernel
theorem dX11_promise_11 : decode cX11_promise 11 = .ok (.invokevirtual 303, 3) := by decide +kernel
theorem dX11_promise_14 : decode cX11_promise 14 = .ok (.ifCond .eq 56, 3) := by decide +kernel
theorem dX11_promise_17 : decode cX11_promise 17 = .ok (.aload_n 0, 1) := by decide +kernel
theorem dX11_promise_18 : decode cX11_promise 18 = .ok (.iload_n 2, 1) := by decide +kernel
theorem dX11_promise_19 : decode cX11_promise 19 = .ok (.invokevirtual 303, 3) := by decide +kernel
theorem dX11_promise_22 : decode cX11_promise 22 = .ok (.ifCond .eq 48, 3) := by decide +kernel
theorem dX11_promise_25 : decode cX11_promise 25 = .ok (.iload_n 1, 1) := by decide +kernel
theorem dX11_promise_26 : decode cX11_promise 26 = .ok (.iload_n 2, 1) := by decide +kernel
theorem dX11_promise_27 : decode cX11_promise 27 = .ok (.if_icmp .eq 43, 3) := by decide +kernel
theorem dX11_promise_30 : decode cX11_promise 30 = .ok (.iload_n 3, 1) := by decide +kernel
theorem dX11_promise_31 : decode cX11_promise 31 = .ok (.ifCond .lt 39, 3) := by decide +kernel
theorem dX11_promise_34 : decode cX11_promise 34 = .ok (.iload_n 3, 1) := by decide +kernel
theorem dX11_promise_35 : decode cX11_promise 35 = .ok (.iconst 3, 1) := by decide +kernel
theorem dX11_promise_36 : decode cX11_promise 36 = .ok (.if_icmp .gt 34, 3) := by decide +kernel
theorem dX11_promise_39 : decode cX11_promise 39 = .ok (.iload 4, 2) := by decide +kernel
theorem dX11_promise_41 : decode cX11_promise 41 = .ok (.invokestatic 259, 3) := by decide +kernel
theorem dX11_promise_44 : decode cX11_promise 44 = .ok (.ifCond .eq 26, 3) := by decide +kernel
theorem dX11_promise_47 : decode cX11_promise 47 = .ok (.iload 5, 2) := by decide +kernel
theorem dX11_promise_49 : decode cX11_promise 49 = .ok (.ifCond .lt 21, 3) := by decide +kernel
theorem dX11_promise_52 : decode cX11_promise 52 = .ok (.iload 5, 2) := by decide +kernel
theorem dX11_promise_54 : decode cX11_promise 54 = .ok (.iconst 1, 1) := by decide +kernel
theorem dX11_promise_55 : decode cX11_promise 55 = .ok (.if_icmp .gt 15, 3) := by decide +kernel
theorem dX11_promise_58 : decode cX11_promise 58 = .ok (.iload 6, 2) := by decide +kernel
theorem dX11_promise_60 : decode cX11_promise 60 = .ok (.iconst (-1), 1) := by decide +kernel
theorem dX11_promise_61 : decode cX11_promise 61 = .ok (.if_icmp .lt 9, 3) := by decide +kernel
theorem dX11_promise_64 : decode cX11_promise 64 = .ok (.iload 6, 2) := by decide +kernel
theorem dX11_promise_66 : decode cX11_promise 66 = .ok (.iconst 5, 1) := by decide +kernel
theorem dX11_promise_67 : decode cX11_promise 67 = .ok (.if_icmp .le 5, 3) := by decide +kernel
theorem dX11_promise_70 : decode cX11_promise 70 = .ok (.iconst (-1), 1) := by decide +kernel
theorem dX11_promise_71 : decode cX11_promise 71 = .ok (.ireturn, 1) := by decide +kernel
theorem dX11_promise_72 : decode cX11_promise 72 = .ok (.aload_n 0, 1) := by decide +kernel
theorem dX11_promise_73 : decode cX11_promise 73 = .ok (.getfield 110, 3) := by decide +kernel
theorem dX11_promise_76 : decode cX11_promise 76 = .ok (.aload_n 0, 1) := by decide +kernel
theorem dX11_promise_77 : decode cX11_promise 77 = .ok (.getfield 310, 3) := by decide +kernel
theorem dX11_promise_80 : decode cX11_promise 80 = .ok (.iload_n 1, 1) := by decide +kernel
theorem dX11_promise_81 : decode cX11_promise 81 = .ok (.iastore, 1) := by decide +kernel
theorem dX11_promise_82 : decode cX11_promise 82 = .ok (.aload_n 0, 1) := by decide +kernel
theorem dX11_promise_83 : decode cX11_promise 83 = .ok (.getfield 113, 3) := by decide +kernel
theorem dX11_promise_86 : decode cX11_promise 86 = .ok (.aload_n 0, 1) := by decide +kernel
theorem dX11_promise_87 : decode cX11_promise 87 = .ok (.getfield 310, 3) := by decide +kernel
theorem dX11_promise_90 : decode cX11_promise 90 = .ok (.iload_n 2, 1) := by decide +kernel
theorem dX11_promise_91 : decode cX11_promise 91 = .ok (.iastore, 1) := by decide +kernel
theorem dX11_promise_92 : decode cX11_promise 92 = .ok (.aload_n 0, 1) := by decide +kernel
theorem dX11_promise_93 : decode cX11_promise 93 = .ok (.getfield 116, 3) := by decide +kernel
theorem dX11_promise_96 : decode cX11_promise 96 = .ok (.aload_n 0, 1) := by decide +kernel
theorem dX11_promise_97 : decode cX11_promise 97 = .ok (.getfield 310, 3) := by decide +kernel
theorem dX11_promise_100 : decode cX11_promise 100 = .ok (.iload_n 3, 1) := by decide +kernel
theorem dX11_promise_101 : decode cX11_promise 101 = .ok (.iastore, 1) := by decide +kernel
theorem dX11_promise_102 : decode cX11_promise 102 = .ok (.aload_n 0, 1) := by decide +kernel
theorem dX11_promise_103 : decode cX11_promise 103 = .ok (.getfield 119, 3) := by decide +kernel
theorem dX11_promise_106 : decode cX11_promise 106 = .ok (.aload_n 0, 1) := by decide +kernel
theorem dX11_promise_107 : decode cX11_promise 107 = .ok (.getfield 310, 3) := by decide +kernel
theorem dX11_promise_110 : decode cX11_promise 110 = .ok (.iload 4, 2) := by decide +kernel
theorem dX11_promise_112 : decode cX11_promise 112 = .ok (.iastore, 1) := by decide +kernel
theorem dX11_promise_113 : decode cX11_promise 113 = .ok (.aload_n 0, 1) := by decide +kernel
theorem dX11_promise_114 : decode cX11_promise 114 = .ok (.getfield 122, 3) := by decide +kernel
theorem dX11_promise_117 : decode cX11_promise 117 = .ok (.aload_n 0, 1) := by decide +kernel
theorem dX11_promise_118 : decode cX11_promise 118 = .ok (.getfield 310, 3) := by decide +kernel
theorem dX11_promise_121 : decode cX11_promise 121 = .ok (.iload 5, 2) := by decide +kernel
theorem dX11_promise_123 : decode cX11_promise 123 = .ok (.iastore, 1) := by decide +kernel
theorem dX11_promise_124 : decode cX11_promise 124 = .ok (.aload_n 0, 1) := by decide +kernel
theorem dX11_promise_125 : decode cX11_promise 125 = .ok (.getfield 125, 3) := by decide +kernel
theorem dX11_promise_128 : decode cX11_promise 128 = .ok (.aload_n 0, 1) := by decide +kernel
theorem dX11_promise_129 : decode cX11_promise 129 = .ok (.getfield 310, 3) := by decide +kernel
theorem dX11_promise_132 : decode cX11_promise 132 = .ok (.iload 6, 2) := by decide +kernel
theorem dX11_promise_134 : decode cX11_promise 134 = .ok (.iastore, 1) := by decide +kernel
theorem dX11_promise_135 : decode cX11_promise 135 = .ok (.aload_n 0, 1) := by decide +kernel
theorem dX11_promise_136 : decode cX11_promise 136 = .ok (.dup, 1) := by decide +kernel
theorem dX11_promise_137 : decode cX11_promise 137 = .ok (.getfield 310, 3) := by decide +kernel
theorem dX11_promise_140 : decode cX11_promise 140 = .ok (.iconst 1, 1) := by decide +kernel
theorem dX11_promise_141 : decode cX11_promise 141 = .ok (.iadd, 1) := by decide +kernel
theorem dX11_promise_142 : decode cX11_promise 142 = .ok (.putfield 310, 3) := by decide +kernel
theorem dX11_promise_145 : decode cX11_promise 145 = .ok (.aload_n 0, 1) := by decide +kernel
theorem dX11_promise_146 : decode cX11_promise 146 = .ok (.iconst (-1), 1) := by decide +kernel
theorem dX11_promise_147 : decode cX11_promise 147 = .ok (.putfield 155, 3) := by decide +kernel
theorem dX11_promise_150 : decode cX11_promise 150 = .ok (.aload_n 0, 1) := by decide +kernel
theorem dX11_promise_151 : decode cX11_promise 151 = .ok (.getfield 310, 3) := by decide +kernel
theorem dX11_promise_154 : decode cX11_promise 154 = .ok (.iconst 1, 1) := by decide +kernel
theorem dX11_promise_155 : decode cX11_promise 155 = .ok (.isub, 1) := by decide +kernel
theorem dX11_promise_156 : decode cX11_promise 156 = .ok (.ireturn, 1) := by decide +kernel
theorem dX11_gift_0 : decode cX11_gift 0 = .ok (.aload_n 0, 1) := by decide +kernel
theorem dX11_gift_1 : decode cX11_gift 1 = .ok (.getfield 316, 3) := by decide +kernel
theorem dX11_gift_4 : decode cX11_gift 4 = .ok (.bipush 20, 2) := by decide +kernel
theorem dX11_gift_6 : decode cX11_gift 6 = .ok (.if_icmp .eq 32, 3) := by decide +kernel
theorem dX11_gift_9 : decode cX11_gift 9 = .ok (.aload_n 0, 1) := by decide +kernel
theorem dX11_gift_10 : decode cX11_gift 10 = .ok (.iload_n 1, 1) := by decide +kernel
theorem dX11_gift_11 : decode cX11_gift 11 = .ok (.invokevirtual 319, 3) := by decide +kernel
theorem dX11_gift_14 : decode cX11_gift 14 = .ok (.ifCond .eq 24, 3) := by decide +kernel
theorem dX11_gift_17 : decode cX11_gift 17 = .ok (.iload_n 2, 1) := by decide +kernel
theorem dX11_gift_18 : decode cX11_gift 18 = .ok (.ifCond .lt 20, 3) := by decide +kernel
theorem dX11_gift_21 : decode cX11_gift 21 = .ok (.iload_n 2, 1) := by decide +kernel
theorem dX11_gift_22 : decode cX11_gift 22 = .ok (.iconst 1, 1) := by decide +kernel
theorem dX11_gift_23 : decode cX11_gift 23 = .ok (.if_icmp .gt 15, 3) := by decide +kernel
theorem dX11_gift_26 : decode cX11_gift 26 = .ok (.iload_n 3, 1) := by decide +kernel
theorem dX11_gift_27 : decode cX11_gift 27 = .ok (.iconst 1, 1) := by decide +kernel
theorem dX11_gift_28 : decode cX11_gift 28 = .ok (.if_icmp .lt 10, 3) := by decide +kernel
theorem dX11_gift_31 : decode cX11_gift 31 = .ok (.iload_n 3, 1) := by decide +kernel
theorem dX11_gift_32 : decode cX11_gift 32 = .ok (.sipush 1000, 3) := by decide +kernel
theorem dX11_gift_35 : decode cX11_gift 35 = .ok (.if_icmp .le 5, 3) := by decide +kernel
theorem dX11_gift_38 : decode cX11_gift 38 = .ok (.iconst (-1), 1) := by decide +kernel
theorem dX11_gift_39 : decode cX11_gift 39 = .ok (.ireturn, 1) := by decide +kernel
theorem dX11_gift_40 : decode cX11_gift 40 = .ok (.aload_n 0, 1) := by decide +kernel
theorem dX11_gift_41 : decode cX11_gift 41 = .ok (.getfield 128, 3) := by decide +kernel
theorem dX11_gift_44 : decode cX11_gift 44 = .ok (.aload_n 0, 1) := by decide +kernel
theorem dX11_gift_45 : decode cX11_gift 45 = .ok (.getfield 316, 3) := by decide +kernel
theorem dX11_gift_48 : decode cX11_gift 48 = .ok (.iload_n 1, 1) := by decide +kernel
theorem dX11_gift_49 : decode cX11_gift 49 = .ok (.iastore, 1) := by decide +kernel
theorem dX11_gift_50 : decode cX11_gift 50 = .ok (.aload_n 0, 1) := by decide +kernel
theorem dX11_gift_51 : decode cX11_gift 51 = .ok (.getfield 131, 3) := by decide +kernel
theorem dX11_gift_54 : decode cX11_gift 54 = .ok (.aload_n 0, 1) := by decide +kernel
theorem dX11_gift_55 : decode cX11_gift 55 = .ok (.getfield 316, 3) := by decide +kernel
theorem dX11_gift_58 : decode cX11_gift 58 = .ok (.iload_n 2, 1) := by decide +kernel
theorem dX11_gift_59 : decode cX11_gift 59 = .ok (.iastore, 1) := by decide +kernel
theorem dX11_gift_60 : decode cX11_gift 60 = .ok (.aload_n 0, 1) := by decide +kernel
theorem dX11_gift_61 : decode cX11_gift 61 = .ok (.getfield 134, 3) := by decide +kernel
theorem dX11_gift_64 : decode cX11_gift 64 = .ok (.aload_n 0, 1) := by decide +kernel
theorem dX11_gift_65 : decode cX11_gift 65 = .ok (.getfield 316, 3) := by decide +kernel
theorem dX11_gift_68 : decode cX11_gift 68 = .ok (.iload_n 3, 1) := by decide +kernel
theorem dX11_gift_69 : decode cX11_gift 69 = .ok (.iastore, 1) := by decide +kernel
theorem dX11_gift_70 : decode cX11_gift 70 = .ok (.aload_n 0, 1) := by decide +kernel
theorem dX11_gift_71 : decode cX11_gift 71 = .ok (.dup, 1) := by decide +kernel
theorem dX11_gift_72 : decode cX11_gift 72 = .ok (.getfield 316, 3) := by decide +kernel
theorem dX11_gift_75 : decode cX11_gift 75 = .ok (.iconst 1, 1) := by decide +kernel
theorem dX11_gift_76 : decode cX11_gift 76 = .ok (.iadd, 1) := by decide +kernel
theorem dX11_gift_77 : decode cX11_gift 77 = .ok (.putfield 316, 3) := by decide +kernel
theorem dX11_gift_80 : decode cX11_gift 80 = .ok (.aload_n 0, 1) := by decide +kernel
theorem dX11_gift_81 : decode cX11_gift 81 = .ok (.getfield 316, 3) := by decide +kernel
theorem dX11_gift_84 : decode cX11_gift 84 = .ok (.iconst 1, 1) := by decide +kernel
theorem dX11_gift_85 : decode cX11_gift 85 = .ok (.isub, 1) := by decide +kernel
theorem dX11_gift_86 : decode cX11_gift 86 = .ok (.ireturn, 1) := by decide +kernel
theorem dX11_fact_0 : decode cX11_fact 0 = .ok (.aload_n 0, 1) := by decide +kernel
theorem dX11_fact_1 : decode cX11_fact 1 = .ok (.getfield 137, 3) := by decide +kernel
theorem dX11_fact_4 : decode cX11_fact 4 = .ok (.aload_n 0, 1) := by decide +kernel
theorem dX11_fact_5 : decode cX11_fact 5 = .ok (.getfield 313, 3) := by decide +kernel
theorem dX11_fact_8 : decode cX11_fact 8 = .ok (.iload_n 1, 1) := by decide +kernel
theorem dX11_fact_9 : decode cX11_fact 9 = .ok (.iastore, 1) := by decide +kernel
theorem dX11_fact_10 : decode cX11_fact 10 = .ok (.aload_n 0, 1) := by decide +kernel
theorem dX11_fact_11 : decode cX11_fact 11 = .ok (.getfield 140, 3) := by decide +kernel
theorem dX11_fact_14 : decode cX11_fact 14 = .ok (.aload_n 0, 1) := by decide +kernel
theorem dX11_fact_15 : decode cX11_fact 15 = .ok (.getfield 313, 3) := by decide +kernel
theorem dX11_fact_18 : decode cX11_fact 18 = .ok (.iload_n 2, 1) := by decide +kernel
theorem dX11_fact_19 : decode cX11_fact 19 = .ok (.iastore, 1) := by decide +kernel
theorem dX11_fact_20 : decode cX11_fact 20 = .ok (.aload_n 0, 1) := by decide +kernel
theorem dX11_fact_21 : decode cX11_fact 21 = .ok (.getfield 143, 3) := by decide +kernel
theorem dX11_fact_24 : decode cX11_fact 24 = .ok (.aload_n 0, 1) := by decide +kernel
theorem dX11_fact_25 : decode cX11_fact 25 = .ok (.getfield 313, 3) := by decide +kernel
theorem dX11_fact_28 : decode cX11_fact 28 = .ok (.iload_n 3, 1) := by decide +kernel
theorem dX11_fact_29 : decode cX11_fact 29 = .ok (.iastore, 1) := by decide +kernel
theorem dX11_fact_30 : decode cX11_fact 30 = .ok (.aload_n 0, 1) := by decide +kernel
theorem dX11_fact_31 : decode cX11_fact 31 = .ok (.getfield 146, 3) := by decide +kernel
theorem dX11_fact_34 : decode cX11_fact 34 = .ok (.aload_n 0, 1) := by decide +kernel
theorem dX11_fact_35 : decode cX11_fact 35 = .ok (.getfield 313, 3) := by decide +kernel
theorem dX11_fact_38 : decode cX11_fact 38 = .ok (.iload 4, 2) := by decide +kernel
theorem dX11_fact_40 : decode cX11_fact 40 = .ok (.iastore, 1) := by decide +kernel
theorem dX11_fact_41 : decode cX11_fact 41 = .ok (.aload_n 0, 1) := by decide +kernel
theorem dX11_fact_42 : decode cX11_fact 42 = .ok (.dup, 1) := by decide +kernel
theorem dX11_fact_43 : decode cX11_fact 43 = .ok (.getfield 313, 3) := by decide +kernel
theorem dX11_fact_46 : decode cX11_fact 46 = .ok (.iconst 1, 1) := by decide +kernel
theorem dX11_fact_47 : decode cX11_fact 47 = .ok (.iadd, 1) := by decide +kernel
theorem dX11_fact_48 : decode cX11_fact 48 = .ok (.putfield 313, 3) := by decide +kernel
theorem dX11_fact_51 : decode cX11_fact 51 = .ok (.aload_n 0, 1) := by decide +kernel
theorem dX11_fact_52 : decode cX11_fact 52 = .ok (.getfield 313, 3) := by decide +kernel
theorem dX11_fact_55 : decode cX11_fact 55 = .ok (.iconst 1, 1) := by decide +kernel
theorem dX11_fact_56 : decode cX11_fact 56 = .ok (.isub, 1) := by decide +kernel
theorem dX11_fact_57 : decode cX11_fact 57 = .ok (.ireturn, 1) := by decide +kernel
theorem dX11_says_0 : decode cX11_says 0 = .ok (.aload_n 0, 1) := by decide +kernel
