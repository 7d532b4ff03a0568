theorem dX11_cut_116 : decode cX11_cut 116 = .ok (.lstore 4, 2) := by decide +kernel
theorem dX11_cut_118 : decode cX11_cut 118 = .ok (.iinc 3 1, 3) := by decide +kernel
theorem dX11_cut_121 : decode cX11_cut 121 = .ok (.goto (-36), 3) := by decide +kernel
theorem dX11_cut_124 : decode cX11_cut 124 = .ok (.iload_n 3, 1) := by decide +kernel
theorem dX11_cut_125 : decode cX11_cut 125 = .ok (.bipush 8, 2) := by decide +kernel
theorem dX11_cut_127 : decode cX11_cut 127 = .ok (.if_icmp .le 7, 3) := by decide +kernel
theorem dX11_cut_130 : decode cX11_cut 130 = .ok (.iconst 3, 1) := by decide +kernel
theorem dX11_cut_131 : decode cX11_cut 131 = .ok (.goto 4, 3) := by decide +kernel
theorem dX11_cut_134 : decode cX11_cut 134 = .ok (.iconst 1, 1) := by decide +kernel
theorem dX11_cut_135 : decode cX11_cut 135 = .ok (.istore 6, 2) := by decide +kernel
theorem dX11_cut_137 : decode cX11_cut 137 = .ok (.iload_n 3, 1) := by decide +kernel
theorem dX11_cut_138 : decode cX11_cut 138 = .ok (.bipush 7, 2) := by decide +kernel
theorem dX11_cut_140 : decode cX11_cut 140 = .ok (.if_icmp .gt 39, 3) := by decide +kernel
theorem dX11_cut_143 : decode cX11_cut 143 = .ok (.iconst 0, 1) := by decide +kernel
theorem dX11_cut_144 : decode cX11_cut 144 = .ok (.istore 7, 2) := by decide +kernel
theorem dX11_cut_146 : decode cX11_cut 146 = .ok (.iload 7, 2) := by decide +kernel
theorem dX11_cut_148 : decode cX11_cut 148 = .ok (.bipush 20, 2) := by decide +kernel
theorem dX11_cut_150 : decode cX11_cut 150 = .ok (.if_icmp .ge 29, 3) := by decide +kernel
theorem dX11_cut_153 : decode cX11_cut 153 = .ok (.aload_n 0, 1) := by decide +kernel
theorem dX11_cut_154 : decode cX11_cut 154 = .ok (.getfield 34, 3) := by decide +kernel
theorem dX11_cut_157 : decode cX11_cut 157 = .ok (.iload 7, 2) := by decide +kernel
theorem dX11_cut_159 : decode cX11_cut 159 = .ok (.laload, 1) := by decide +kernel
theorem dX11_cut_160 : decode cX11_cut 160 = .ok (.lload 4, 2) := by decide +kernel
theorem dX11_cut_162 : decode cX11_cut 162 = .ok (.lcmp, 1) := by decide +kernel
theorem dX11_cut_163 : decode cX11_cut 163 = .ok (.ifCond .ne 10, 3) := by decide +kernel
theorem dX11_cut_166 : decode cX11_cut 166 = .ok (.bipush 20, 2) := by decide +kernel
theorem dX11_cut_168 : decode cX11_cut 168 = .ok (.iload 7, 2) := by decide +kernel
theorem dX11_cut_170 : decode cX11_cut 170 = .ok (.iadd, 1) := by decide +kernel
theorem dX11_cut_171 : decode cX11_cut 171 = .ok (.istore 6, 2) := by decide +kernel
theorem dX11_cut_173 : decode cX11_cut 173 = .ok (.iinc 7 1, 3) := by decide +kernel
theorem dX11_cut_176 : decode cX11_cut 176 = .ok (.goto (-30), 3) := by decide +kernel
theorem dX11_cut_179 : decode cX11_cut 179 = .ok (.aload_n 0, 1) := by decide +kernel
theorem dX11_cut_180 : decode cX11_cut 180 = .ok (.iload 6, 2) := by decide +kernel
theorem dX11_cut_182 : decode cX11_cut 182 = .ok (.iload_n 1, 1) := by decide +kernel
theorem dX11_cut_183 : decode cX11_cut 183 = .ok (.iconst 0, 1) := by decide +kernel
theorem dX11_cut_184 : decode cX11_cut 184 = .ok (.lload 4, 2) := by decide +kernel
theorem dX11_cut_186 : decode cX11_cut 186 = .ok (.invokevirtual 220, 3) := by decide +kernel
theorem dX11_cut_189 : decode cX11_cut 189 = .ok (.iload_n 1, 1) := by decide +kernel
theorem dX11_cut_190 : decode cX11_cut 190 = .ok (.iload_n 3, 1) := by decide +kernel
theorem dX11_cut_191 : decode cX11_cut 191 = .ok (.iadd, 1) := by decide +kernel
theorem dX11_cut_192 : decode cX11_cut 192 = .ok (.istore_n 1, 1) := by decide +kernel
theorem dX11_cut_193 : decode cX11_cut 193 = .ok (.goto 98, 3) := by decide +kernel
theorem dX11_cut_196 : decode cX11_cut 196 = .ok (.iload_n 2, 1) := by decide +kernel
theorem dX11_cut_197 : decode cX11_cut 197 = .ok (.invokestatic 228, 3) := by decide +kernel
theorem dX11_cut_200 : decode cX11_cut 200 = .ok (.ifCond .eq 75, 3) := by decide +kernel
theorem dX11_cut_203 : decode cX11_cut 203 = .ok (.iconst 0, 1) := by decide +kernel
theorem dX11_cut_204 : decode cX11_cut 204 = .ok (.istore_n 3, 1) := by decide +kernel
theorem dX11_cut_205 : decode cX11_cut 205 = .ok (.iconst 0, 1) := by decide +kernel
theorem dX11_cut_206 : decode cX11_cut 206 = .ok (.istore 4, 2) := by decide +kernel
theorem dX11_cut_208 : decode cX11_cut 208 = .ok (.aload_n 0, 1) := by decide +kernel
theorem dX11_cut_209 : decode cX11_cut 209 = .ok (.iload_n 1, 1) := by decide +kernel
theorem dX11_cut_210 : decode cX11_cut 210 = .ok (.iload_n 3, 1) := by decide +kernel
theorem dX11_cut_211 : decode cX11_cut 211 = .ok (.iadd, 1) := by decide +kernel
theorem dX11_cut_212 : decode cX11_cut 212 = .ok (.invokevirtual 217, 3) := by decide +kernel
theorem dX11_cut_215 : decode cX11_cut 215 = .ok (.invokestatic 228, 3) := by decide +kernel
theorem dX11_cut_218 : decode cX11_cut 218 = .ok (.ifCond .eq 32, 3) := by decide +kernel
theorem dX11_cut_221 : decode cX11_cut 221 = .ok (.iload_n 3, 1) := by decide +kernel
theorem dX11_cut_222 : decode cX11_cut 222 = .ok (.iconst 4, 1) := by decide +kernel
theorem dX11_cut_223 : decode cX11_cut 223 = .ok (.if_icmp .ge 21, 3) := by decide +kernel
theorem dX11_cut_226 : decode cX11_cut 226 = .ok (.bipush 10, 2) := by decide +kernel
theorem dX11_cut_228 : decode cX11_cut 228 = .ok (.iload 4, 2) := by decide +kernel
theorem dX11_cut_230 : decode cX11_cut 230 = .ok (.imul, 1) := by decide +kernel
theorem dX11_cut_231 : decode cX11_cut 231 = .ok (.aload_n 0, 1) := by decide +kernel
theorem dX11_cut_232 : decode cX11_cut 232 = .ok (.iload_n 1, 1) := by decide +kernel
theorem dX11_cut_233 : decode cX11_cut 233 = .ok (.iload_n 3, 1) := by decide +kernel
theorem dX11_cut_234 : decode cX11_cut 234 = .ok (.iadd, 1) := by decide +kernel
theorem dX11_cut_235 : decode cX11_cut 235 = .ok (.invokevirtual 217, 3) := by decide +kernel
theorem dX11_cut_238 : decode cX11_cut 238 = .ok (.iadd, 1) := by decide +kernel
theorem dX11_cut_239 : decode cX11_cut 239 = .ok (.bipush 48, 2) := by decide +kernel
theorem dX11_cut_241 : decode cX11_cut 241 = .ok (.isub, 1) := by decide +kernel
theorem dX11_cut_242 : decode cX11_cut 242 = .ok (.istore 4, 2) := by decide +kernel
theorem dX11_cut_244 : decode cX11_cut 244 = .ok (.iinc 3 1, 3) := by decide +kernel
theorem dX11_cut_247 : decode cX11_cut 247 = .ok (.goto (-39), 3) := by decide +kernel
theorem dX11_cut_250 : decode cX11_cut 250 = .ok (.aload_n 0, 1) := by decide +kernel
theorem dX11_cut_251 : decode cX11_cut 251 = .ok (.iload_n 3, 1) := by decide +kernel
theorem dX11_cut_252 : decode cX11_cut 252 = .ok (.iconst 4, 1) := by decide +kernel
theorem dX11_cut_253 : decode cX11_cut 253 = .ok (.if_icmp .le 7, 3) := by decide +kernel
theorem dX11_cut_256 : decode cX11_cut 256 = .ok (.iconst 3, 1) := by decide +kernel
theorem dX11_cut_257 : decode cX11_cut 257 = .ok (.goto 4, 3) := by decide +kernel
theorem dX11_cut_260 : decode cX11_cut 260 = .ok (.iconst 2, 1) := by decide +kernel
theorem dX11_cut_261 : decode cX11_cut 261 = .ok (.iload_n 1, 1) := by decide +kernel
theorem dX11_cut_262 : decode cX11_cut 262 = .ok (.iload 4, 2) := by decide +kernel
theorem dX11_cut_264 : decode cX11_cut 264 = .ok (.lconst 0, 1) := by decide +kernel
theorem dX11_cut_265 : decode cX11_cut 265 = .ok (.invokevirtual 220, 3) := by decide +kernel
theorem dX11_cut_268 : decode cX11_cut 268 = .ok (.iload_n 1, 1) := by decide +kernel
theorem dX11_cut_269 : decode cX11_cut 269 = .ok (.iload_n 3, 1) := by decide +kernel
theorem dX11_cut_270 : decode cX11_cut 270 = .ok (.iadd, 1) := by decide +kernel
theorem dX11_cut_271 : decode cX11_cut 271 = .ok (.istore_n 1, 1) := by decide +kernel
theorem dX11_cut_272 : decode cX11_cut 272 = .ok (.goto 19, 3) := by decide +kernel
theorem dX11_cut_275 : decode cX11_cut 275 = .ok (.iload_n 1, 1) := by decide +kernel
theorem dX11_cut_276 : decode cX11_cut 276 = .ok (.aload_n 0, 1) := by decide +kernel
theorem dX11_cut_277 : decode cX11_cut 277 = .ok (.iload_n 1, 1) := by decide +kernel
theorem dX11_cut_278 : decode cX11_cut 278 = .ok (.iload_n 2, 1) := by decide +kernel
theorem dX11_cut_279 : decode cX11_cut 279 = .ok (.aload_n 0, 1) := by decide +kernel
theorem dX11_cut_280 : decode cX11_cut 280 = .ok (.iload_n 1, 1) := by decide +kernel
theorem dX11_cut_281 : decode cX11_cut 281 = .ok (.iconst 1, 1) := by decide +kernel
theorem dX11_cut_282 : decode cX11_cut 282 = .ok (.iadd, 1) := by decide +kernel
theorem dX11_cut_283 : decode cX11_cut 283 = .ok (.invokevirtual 217, 3) := by decide +kernel
theorem dX11_cut_286 : decode cX11_cut 286 = .ok (.invokevirtual 231, 3) := by decide +kernel
theorem dX11_cut_289 : decode cX11_cut 289 = .ok (.iadd, 1) := by decide +kernel
theorem dX11_cut_290 : decode cX11_cut 290 = .ok (.istore_n 1, 1) := by decide +kernel
theorem dX11_cut_291 : decode cX11_cut 291 = .ok (.goto (-284), 3) := by decide +kernel
theorem dX11_cut_294 : decode cX11_cut 294 = .ok (.return_, 1) := by decide +kernel
theorem dX11_sign_0 : decode cX11_sign 0 = .ok (.iload_n 3, 1) := by decide +kernel
theorem dX11_sign_1 : decode cX11_sign 1 = .ok (.bipush 61, 2) := by decide +kernel
theorem dX11_sign_3 : decode cX11_sign 3 = .ok (.if_icmp .eq 7, 3) := by decide +kernel
theorem dX11_sign_6 : decode cX11_sign 6 = .ok (.iconst 0, 1) := by decide +kernel
theorem dX11_sign_7 : decode cX11_sign 7 = .ok (.goto 37, 3) := by decide +kernel
theorem dX11_sign_10 : decode cX11_sign 10 = .ok (.iload_n 2, 1) := by decide +kernel
theorem dX11_sign_11 : decode cX11_sign 11 = .ok (.bipush 61, 2) := by decide +kernel
theorem dX11_sign_13 : decode cX11_sign 13 = .ok (.if_icmp .ne 8, 3) := by decide +kernel
theorem dX11_sign_16 : decode cX11_sign 16 = .ok (.bipush 11, 2) := by decide +kernel
theorem dX11_sign_18 : decode cX11_sign 18 = .ok (.goto 26, 3) := by decide +kernel
theorem dX11_sign_21 : decode cX11_sign 21 = .ok (.iload_n 2, 1) := by decide +kernel
theorem dX11_sign_22 : decode cX11_sign 22 = .ok (.bipush 33, 2) := by decide +kernel
theorem dX11_sign_24 : decode cX11_sign 24 = .ok (.if_icmp .ne 8, 3) := by decide +kernel
theorem dX11_sign_27 : decode cX11_sign 27 = .ok (.bipush 12, 2) := by decide +kernel
theorem dX11_sign_29 : decode cX11_sign 29 = .ok (.goto 15, 3) := by decide +kernel
theorem dX11_sign_32 : decode cX11_sign 32 = .ok (.iload_n 2, 1) := by decide +kernel
theorem dX11_sign_33 : decode cX11_sign 33 = .ok (.bipush 60, 2) := by decide +kernel
theorem dX11_sign_35 : decode cX11_sign 35 = .ok (.if_icmp .ne 8, 3) := by decide +kernel
theorem dX11_sign_38 : decode cX11_sign 38 = .ok (.bipush 14, 2) := by decide +kernel
theorem dX11_sign_40 : decode cX11_sign 40 = .ok (.goto 4, 3) := by decide +kernel
theorem dX11_sign_43 : decode cX11_sign 43 = .ok (.iconst 0, 1) := by decide +kernel
theorem dX11_sign_44 : decode cX11_sign 44 = .ok (.istore 4, 2) := by decide +kernel
theorem dX11_sign_46 : decode cX11_sign 46 = .ok (.iconst 3, 1) := by decide +kernel
theorem dX11_sign_47 : decode cX11_sign 47 = .ok (.istore 5, 2) := by decide +kernel
theorem dX11_sign_49 : decode cX11_sign 49 = .ok (.iload 4, 2) := by decide +kernel
theorem dX11_sign_51 : decode cX11_sign 51 = .ok (.ifCond .le 10, 3) := by decide +kernel
theorem dX11_sign_54 : decode cX11_sign 54 = .ok (.iload 4, 2) := by decide +kernel
theorem dX11_sign_56 : decode cX11_sign 56 = .ok (.istore 5, 2) := by decide +kernel
theorem dX11_sign_58 : decode cX11_sign 58 = .ok (.goto 90, 3) := by decide +kernel
theorem dX11_sign_61 : decode cX11_sign 61 = .ok (.iload_n 2, 1) := by decide +kernel
theorem dX11_sign_62 : decode cX11_sign 62 = .ok (.bipush 59, 2) := by decide +kernel
theorem dX11_sign_64 : decode cX11_sign 64 = .ok (.if_icmp .ne 9, 3) := by decide +kernel
theorem dX11_sign_67 : decode cX11_sign 67 = .ok (.iconst 4, 1) := by decide +kernel
theorem dX11_sign_68 : decode cX11_sign 68 = .ok (.istore 5, 2) := by decide +kernel
theorem dX11_sign_70 : decode cX11_sign 70 = .ok (.goto 78, 3) := by decide +kernel
theorem dX11_sign_73 : decode cX11_sign 73 = .ok (.iload_n 2, 1) := by decide +kernel
theorem dX11_sign_74 : decode cX11_sign 74 = .ok (.bipush 40, 2) := by decide +kernel
theorem dX11_sign_76 : decode cX11_sign 76 = .ok (.if_icmp .ne 10, 3) := by decide +kernel
theorem dX11_sign_79 : decode cX11_sign 79 = .ok (.bipush 6, 2) := by decide +kernel
theorem dX11_sign_81 : decode cX11_sign 81 = .ok (.istore 5, 2) := by decide +kernel
theorem dX11_sign_83 : decode cX11_sign 83 = .ok (.goto 65, 3) := by decide +kernel
theorem dX11_sign_86 : decode cX11_sign 86 = .ok (.iload_n 2, 1) := by decide +kernel
theorem dX11_sign_87 : decode cX11_sign 87 = .ok (.bipush 41, 2) := by decide +kernel
theorem dX11_sign_89 : decode cX11_sign 89 = .ok (.if_icmp .ne 10, 3) := by decide +kernel
theorem dX11_sign_92 : decode cX11_sign 92 = .ok (.bipush 7, 2) := by decide +kernel
theorem dX11_sign_94 : decode cX11_sign 94 = .ok (.istore 5, 2) := by decide +kernel
theorem dX11_sign_96 : decode cX11_sign 96 = .ok (.goto 52, 3) := by decide +kernel
theorem dX11_sign_99 : decode cX11_sign 99 = .ok (.iload_n 2, 1) := by decide +kernel
theorem dX11_sign_100 : decode cX11_sign 100 = .ok (.bipush 43, 2) := by decide +kernel
theorem dX11_sign_102 : decode cX11_sign 102 = .ok (.if_icmp .ne 10, 3) := by decide +kernel
theorem dX11_sign_105 : decode cX11_sign 105 = .ok (.bipush 8, 2) := by decide +kernel
theorem dX11_sign_107 : decode cX11_sign 107 = .ok (.istore 5, 2) := by decide +kernel
theorem dX11_sign_109 : decode cX11_sign 109 = .ok (.goto 39, 3) := by decide +kernel
theorem dX11_sign_112 : decode cX11_sign 112 = .ok (.iload_n 2, 1) := by decide +kernel
theorem dX11_sign_113 : decode cX11_sign 113 = .ok (.bipush 45, 2) := by decide +kernel
theorem dX11_sign_115 : decode cX11_sign 115 = .ok (.if_icmp .ne 10, 3) := by decide +kernel
theorem dX11_sign_118 : decode cX11_sign 118 = .ok (.bipush 9, 2) := by decide +kernel
theorem dX11_sign_120 : decode cX11_sign 120 = .ok (.istore 5, 2) := by decide +kernel
theorem dX11_sign_122 : decode cX11_sign 122 = .ok (.goto 26, 3) := by decide +kernel
theorem dX11_sign_125 : decode cX11_sign 125 = .ok (.iload_n 2, 1) := by decide +kernel
theorem dX11_sign_126 : decode cX11_sign 126 = .ok (.bipush 42, 2) := by decide +kernel
theorem dX11_sign_128 : decode cX11_sign 128 = .ok (.if_icmp .ne 10, 3) := by decide +kernel
theorem dX11_sign_131 : decode cX11_sign 131 = .ok (.bipush 10, 2) := by decide +kernel
theorem dX11_sign_133 : decode cX11_sign 133 = .ok (.istore 5, 2) := by decide +kernel
theorem dX11_sign_135 : decode cX11_sign 135 = .ok (.goto 13, 3) := by decide +kernel
theorem dX11_sign_138 : decode cX11_sign 138 = .ok (.iload_n 2, 1) := by decide +kernel
theorem dX11_sign_139 : decode cX11_sign 139 = .ok (.bipush 60, 2) := by decide +kernel
theorem dX11_sign_141 : decode cX11_sign 141 = .ok (.if_icmp .ne 7, 3) := by decide +kernel
theorem dX11_sign_144 : decode cX11_sign 144 = .ok (.bipush 13, 2) := by decide +kernel
theorem dX11_sign_146 : decode cX11_sign 146 = .ok (.istore 5, 2) := by decide +kernel
theorem dX11_sign_148 : decode cX11_sign 148 = .ok (.aload_n 0, 1) := by decide +kernel
theorem dX11_sign_149 : decode cX11_sign 149 = .ok (.iload 5, 2) := by decide +kernel
theorem dX11_sign_151 : decode cX11_sign 151 = .ok (.iload_n 1, 1) := by decide +kernel
theorem dX11_sign_152 : decode cX11_sign 152 = .ok (.iconst 0, 1) := by decide +kernel
theorem dX11_sign_153 : decode cX11_sign 153 = .ok (.lconst 0, 1) := by decide +kernel
theorem dX11_sign_154 : decode cX11_sign 154 = .ok (.invokevirtual 220, 3) := by decide +kernel
theorem dX11_sign_157 : decode cX11_sign 157 = .ok (.iload 4, 2) := by decide +kernel
theorem dX11_sign_159 : decode cX11_sign 159 = .ok (.ifCond .le 7, 3) := by decide +kernel
theorem dX11_sign_162 : decode cX11_sign 162 = .ok (.iconst 2, 1) := by decide +kernel
theorem dX11_sign_163 : decode cX11_sign 163 = .ok (.goto 4, 3) := by decide +kernel
theorem dX11_sign_166 : decode cX11_sign 166 = .ok (.iconst 1, 1) := by decide +kernel
theorem dX11_sign_167 : decode cX11_sign 167 = .ok (.ireturn, 1) := by decide +kernel
theorem dX11_is_0 : decode cX11_is 0 = .ok (.aload_n 0, 1) := by decide +kernel
theorem dX11_is_1 : decode cX11_is 1 = .ok (.getfield 235, 3) := by decide +kernel
theorem dX11_is_4 : decode cX11_is 4 = .ok (.ifCond .ne 20, 3) := by decide +kernel
theorem dX11_is_7 : decode cX11_is 7 = .ok (.aload_n 0, 1) := by decide +kernel
theorem dX11_is_8 : decode cX11_is 8 = .ok (.getfield 20, 3) := by decide +kernel
theorem dX11_is_11 : decode cX11_is 11 = .ok (.aload_n 0, 1) := by decide +kernel
theorem dX11_is_12 : decode cX11_is 12 = .ok (.getfield 238, 3) := by decide +kernel
theorem dX11_is_15 : decode cX11_is 15 = .ok (.iaload, 1) := by decide +kernel
theorem dX11_is_16 : decode cX11_is 16 = .ok (.iload_n 1, 1) := by decide +kernel
theorem dX11_is_17 : decode cX11_is 17 = .ok (.if_icmp .ne 7, 3) := by decide +kernel
theorem dX11_is_20 : decode cX11_is 20 = .ok (.iconst 1, 1) := by decide +kernel
theorem dX11_is_21 : decode cX11_is 21 = .ok (.goto 4, 3) := by decide +kernel
theorem dX11_is_24 : decode cX11_is 24 = .ok (.iconst 0, 1) := by decide +kernel
theorem dX11_is_25 : decode cX11_is 25 = .ok (.ireturn, 1) := by decide +kernel
theorem dX11_fail_0 : decode cX11_fail 0 = .ok (.aload_n 0, 1) := by decide +kernel
theorem dX11_fail_1 : decode cX11_fail 1 = .ok (.getfield 235, 3) := by decide +kernel
theorem dX11_fail_4 : decode cX11_fail 4 = .ok (.ifCond .le 4, 3) := by decide +kernel
theorem dX11_fail_7 : decode cX11_fail 7 = .ok (.return_, 1) := by decide +kernel
theorem dX11_fail_8 : decode cX11_fail 8 = .ok (.aload_n 0, 1) := by decide +kernel
theorem dX11_fail_9 : decode cX11_fail 9 = .ok (.iload_n 1, 1) := by decide +kernel
theorem dX11_fail_10 : decode cX11_fail 10 = .ok (.putfield 235, 3) := by decide +kernel
theorem dX11_fail_13 : decode cX11_fail 13 = .ok (.aload_n 0, 1) := by decide +kernel
theorem dX11_fail_14 : decode cX11_fail 14 = .ok (.aload_n 0, 1) := by decide +kernel
theorem dX11_fail_15 : decode cX11_fail 15 = .ok (.getfield 24, 3) := by decide +kernel
theorem dX11_fail_18 : decode cX11_fail 18 = .ok (.aload_n 0, 1) := by decide +kernel
theorem dX11_fail_19 : decode cX11_fail 19 = .ok (.getfield 238, 3) := by decide +kernel
theorem dX11_fail_22 : decode cX11_fail 22 = .ok (.iaload, 1) := by decide +kernel
theorem dX11_fail_23 : decode cX11_fail 23 = .ok (.putfield 241, 3) := by decide +kernel
theorem dX11_fail_26 : decode cX11_fail 26 = .ok (.return_, 1) := by decide +kernel
theorem dX11_next_0 : decode cX11_next 0 = .ok (.aload_n 0, 1) := by decide +kernel
theorem dX11_next_1 : decode cX11_next 1 = .ok (.getfield 238, 3) := by decide +kernel
theorem dX11_next_4 : decode cX11_next 4 = .ok (.sipush 400, 3) := by decide +kernel
theorem dX11_next_7 : decode cX11_next 7 = .ok (.if_icmp .ne 11, 3) := by decide +kernel
theorem dX11_next_10 : decode cX11_next 10 = .ok (.aload_n 0, 1) := by decide +kernel
theorem dX11_next_11 : decode cX11_next 11 = .ok (.iconst 2, 1) := by decide +kernel
theorem dX11_next_12 : decode cX11_next 12 = .ok (.invokevirtual 250, 3) := by decide +kernel
theorem dX11_next_15 : decode cX11_next 15 = .ok (.goto 13, 3) := by decide +kernel
theorem dX11_next_18 : decode cX11_next 18 = .ok (.aload_n 0, 1) := by decide +kernel
theorem dX11_next_19 : decode cX11_next 19 = .ok (.dup, 1) := by decide +kernel
theorem dX11_next_20 : decode cX11_next 20 = .ok (.getfield 238, 3) := by decide +kernel
theorem dX11_next_23 : decode cX11_next 23 = .ok (.iconst 1, 1) := by decide +kernel
theorem dX11_next_24 : decode cX11_next 24 = .ok (.iadd, 1) := by decide +kernel
theorem dX11_next_25 : decode cX11_next 25 = .ok (.putfield 238, 3) := by decide +kernel
theorem dX11_next_28 : decode cX11_next 28 = .ok (.return_, 1) := by decide +kernel
theorem dX11_must_0 : decode cX11_must 0 = .ok (.aload_n 0, 1) := by decide +kernel
theorem dX11_must_1 : decode cX11_must 1 = .ok (.iload_n 1, 1) := by decide +kernel
theorem dX11_must_2 : decode cX11_must 2 = .ok (.invokevirtual 253, 3) := by decide +kernel
theorem dX11_must_5 : decode cX11_must 5 = .ok (.ifCond .eq 10, 3) := by decide +kernel
theorem dX11_must_8 : decode cX11_must 8 = .ok (.aload_n 0, 1) := by decide +kernel
theorem dX11_must_9 : decode cX11_must 9 = .ok (.invokevirtual 256, 3) := by decide +kernel
theorem dX11_must_12 : decode cX11_must 12 = .ok (.goto 8, 3) := by decide +kernel
theorem dX11_must_15 : decode cX11_must 15 = .ok (.aload_n 0, 1) := by decide +kernel
theorem dX11_must_16 : decode cX11_must 16 = .ok (.iconst 1, 1) := by decide +kernel
theorem dX11_must_17 : decode cX11_must 17 = .ok (.invokevirtual 250, 3) := by decide +kernel
theorem dX11_must_20 : decode cX11_must 20 = .ok (.return_, 1) := by decide +kernel
theorem dX11_read_0 : decode cX11_read 0 = .ok (.iload_n 1, 1) := by decide +kernel
theorem dX11_read_1 : decode cX11_read 1 = .ok (.ifCond .lt 24, 3) := by decide +kernel
theorem dX11_read_4 : decode cX11_read 4 = .ok (.iload_n 1, 1) := by decide +kernel
theorem dX11_read_5 : decode cX11_read 5 = .ok (.iconst 3, 1) := by decide +kernel
theorem dX11_read_6 : decode cX11_read 6 = .ok (.if_icmp .gt 19, 3) := by decide +kernel
theorem dX11_read_9 : decode cX11_read 9 = .ok (.iload_n 2, 1) := by decide +kernel
theorem dX11_read_10 : decode cX11_read 10 = .ok (.invokestatic 259, 3) := by decide +kernel
theorem dX11_read_13 : decode cX11_read 13 = .ok (.ifCond .eq 12, 3) := by decide +kernel
theorem dX11_read_16 : decode cX11_read 16 = .ok (.aload_n 0, 1) := by decide +kernel
theorem dX11_read_17 : decode cX11_read 17 = .ok (.getfield 262, 3) := by decide +kernel
theorem dX11_read_20 : decode cX11_read 20 = .ok (.bipush 8, 2) := by decide +kernel
theorem dX11_read_22 : decode cX11_read 22 = .ok (.if_icmp .ne 5, 3) := by decide +kernel
theorem dX11_read_25 : decode cX11_read 25 = .ok (.iconst (-1), 1) := by decide +kernel
theorem dX11_read_26 : decode cX11_read 26 = .ok (.ireturn, 1) := by decide +kernel
theorem dX11_read_27 : decode cX11_read 27 = .ok (.aload_n 0, 1) := by decide +kernel
theorem dX11_read_28 : decode cX11_read 28 = .ok (.aload_n 0, 1) := by decide +kernel
theorem dX11_read_29 : decode cX11_read 29 = .ok (.getfield 198, 3) := by decide +kernel
theorem dX11_read_32 : decode cX11_read 32 = .ok (.putfield 205, 3) := by decide +kernel
theorem dX11_read_35 : decode cX11_read 35 = .ok (.iconst 0, 1) := by decide +kernel
theorem dX11_read_36 : decode cX11_read 36 = .ok (.istore_n 3, 1) := by decide +kernel
theorem dX11_read_37 : decode cX11_read 37 = .ok (.iload_n 3, 1) := by decide +kernel
theorem dX11_read_38 : decode cX11_read 38 = .ok (.aload_n 0, 1) := by decide +kernel
theorem dX11_read_39 : decode cX11_read 39 = .ok (.getfield 205, 3) := by decide +kernel
theorem dX11_read_42 : decode cX11_read 42 = .ok (.if_icmp .ge 21, 3) := by decide +kernel
theorem dX11_read_45 : decode cX11_read 45 = .ok (.aload_n 0, 1) := by decide +kernel
theorem dX11_read_46 : decode cX11_read 46 = .ok (.getfield 17, 3) := by decide +kernel
theorem dX11_read_49 : decode cX11_read 49 = .ok (.iload_n 3, 1) := by decide +kernel
theorem dX11_read_50 : decode cX11_read 50 = .ok (.aload_n 0, 1) := by decide +kernel
theorem dX11_read_51 : decode cX11_read 51 = .ok (.getfield 13, 3) := by decide +kernel
theorem dX11_read_54 : decode cX11_read 54 = .ok (.iload_n 3, 1) := by decide +kernel
theorem dX11_read_55 : decode cX11_read 55 = .ok (.baload, 1) := by decide +kernel
theorem dX11_read_56 : decode cX11_read 56 = .ok (.bastore, 1) := by decide +kernel
theorem dX11_read_57 : decode cX11_read 57 = .ok (.iinc 3 1, 3) := by decide +kernel
theorem dX11_read_60 : decode cX11_read 60 = .ok (.goto (-23), 3) := by decide +kernel
theorem dX11_read_63 : decode cX11_read 63 = .ok (.aload_n 0, 1) := by decide +kernel
theorem dX11_read_64 : decode cX11_read 64 = .ok (.iconst 0, 1) := by decide +kernel
theorem dX11_read_65 : decode cX11_read 65 = .ok (.putfield 198, 3) := by decide +kernel
theorem dX11_read_68 : decode cX11_read 68 = .ok (.aload_n 0, 1) := by decide +kernel
theorem dX11_read_69 : decode cX11_read 69 = .ok (.invokevirtual 265, 3) := by decide +kernel
theorem dX11_read_72 : decode cX11_read 72 = .ok (.aload_n 0, 1) := by decide +kernel
theorem dX11_read_73 : decode cX11_read 73 = .ok (.iconst 0, 1) := by decide +kernel
theorem dX11_read_74 : decode cX11_read 74 = .ok (.putfield 238, 3) := by decide +kernel
theorem dX11_read_77 : decode cX11_read 77 = .ok (.aload_n 0, 1) := by decide +kernel
theorem dX11_read_78 : decode cX11_read 78 = .ok (.iconst 0, 1) := by decide +kernel
theorem dX11_read_79 : decode cX11_read 79 = .ok (.putfield 268, 3) := by decide +kernel
theorem dX11_read_82 : decode cX11_read 82 = .ok (.aload_n 0, 1) := by decide +kernel
theorem dX11_read_83 : decode cX11_read 83 = .ok (.iconst 0, 1) := by decide +kernel
theorem dX11_read_84 : decode cX11_read 84 = .ok (.putfield 235, 3) := by decide +kernel
theorem dX11_read_87 : decode cX11_read 87 = .ok (.aload_n 0, 1) := by decide +kernel
theorem dX11_read_88 : decode cX11_read 88 = .ok (.iconst 0, 1) := by decide +kernel
theorem dX11_read_89 : decode cX11_read 89 = .ok (.putfield 244, 3) := by decide +kernel
theorem dX11_read_92 : decode cX11_read 92 = .ok (.aload_n 0, 1) := by decide +kernel
theorem dX11_read_93 : decode cX11_read 93 = .ok (.aload_n 0, 1) := by decide +kernel
theorem dX11_read_94 : decode cX11_read 94 = .ok (.getfield 262, 3) := by decide +kernel
theorem dX11_read_97 : decode cX11_read 97 = .ok (.putfield 271, 3) := by decide +kernel
theorem dX11_read_100 : decode cX11_read 100 = .ok (.aload_n 0, 1) := by decide +kernel
theorem dX11_read_101 : decode cX11_read 101 = .ok (.getfield 46, 3) := by decide +kernel
theorem dX11_read_104 : decode cX11_read 104 = .ok (.aload_n 0, 1) := by decide +kernel
theorem dX11_read_105 : decode cX11_read 105 = .ok (.getfield 271, 3) := by decide +kernel
theorem dX11_read_108 : decode cX11_read 108 = .ok (.iconst 0, 1) := by decide +kernel
theorem dX11_read_109 : decode cX11_read 109 = .ok (.iastore, 1) := by decide +kernel
theorem dX11_read_110 : decode cX11_read 110 = .ok (.aload_n 0, 1) := by decide +kernel
theorem dX11_read_111 : decode cX11_read 111 = .ok (.getfield 67, 3) := by decide +kernel
theorem dX11_read_114 : decode cX11_read 114 = .ok (.aload_n 0, 1) := by decide +kernel
theorem dX11_read_115 : decode cX11_read 115 = .ok (.getfield 271, 3) := by decide +kernel
theorem dX11_read_118 : decode cX11_read 118 = .ok (.iconst 0, 1) := by decide +kernel
theorem dX11_read_119 : decode cX11_read 119 = .ok (.iastore, 1) := by decide +kernel
theorem dX11_read_120 : decode cX11_read 120 = .ok (.aload_n 0, 1) := by decide +kernel
theorem dX11_read_121 : decode cX11_read 121 = .ok (.sipush 500, 3) := by decide +kernel
theorem dX11_read_124 : decode cX11_read 124 = .ok (.aload_n 0, 1) := by decide +kernel
theorem dX11_read_125 : decode cX11_read 125 = .ok (.getfield 271, 3) := by decide +kernel
theorem dX11_read_128 : decode cX11_read 128 = .ok (.imul, 1) := by decide +kernel
theorem dX11_read_129 : decode cX11_read 129 = .ok (.putfield 274, 3) := by decide +kernel
theorem dX11_read_132 : decode cX11_read 132 = .ok (.aload_n 0, 1) := by decide +kernel
theorem dX11_read_133 : decode cX11_read 133 = .ok (.getfield 235, 3) := by decide +kernel
theorem dX11_read_136 : decode cX11_read 136 = .ok (.ifCond .ne 18, 3) := by decide +kernel
theorem dX11_read_139 : decode cX11_read 139 = .ok (.aload_n 0, 1) := by decide +kernel
theorem dX11_read_140 : decode cX11_read 140 = .ok (.iconst 0, 1) := by decide +kernel
theorem dX11_read_141 : decode cX11_read 141 = .ok (.invokevirtual 253, 3) := by decide +kernel
theorem dX11_read_144 : decode cX11_read 144 = .ok (.ifCond .ne 10, 3) := by decide +kernel
theorem dX11_read_147 : decode cX11_read 147 = .ok (.aload_n 0, 1) := by decide +kernel
theorem dX11_read_148 : decode cX11_read 148 = .ok (.invokevirtual 277, 3) := by decide +kernel
theorem dX11_read_151 : decode cX11_read 151 = .ok (.goto (-19), 3) := by decide +kernel
theorem dX11_read_154 : decode cX11_read 154 = .ok (.aload_n 0, 1) := by decide +kernel
theorem dX11_read_155 : decode cX11_read 155 = .ok (.aload_n 0, 1) := by decide +kernel
theorem dX11_read_156 : decode cX11_read 156 = .ok (.getfield 235, 3) := by decide +kernel
theorem dX11_read_159 : decode cX11_read 159 = .ok (.ifCond .le 10, 3) := by decide +kernel
theorem dX11_read_162 : decode cX11_read 162 = .ok (.aload_n 0, 1) := by decide +kernel
theorem dX11_read_163 : decode cX11_read 163 = .ok (.getfield 241, 3) := by decide +kernel
theorem dX11_read_166 : decode cX11_read 166 = .ok (.goto 4, 3) := by decide +kernel
theorem dX11_read_169 : decode cX11_read 169 = .ok (.iconst (-1), 1) := by decide +kernel
theorem dX11_read_170 : decode cX11_read 170 = .ok (.putfield 37, 3) := by decide +kernel
theorem dX11_read_173 : decode cX11_read 173 = .ok (.aload_n 0, 1) := by decide +kernel
theorem dX11_read_174 : decode cX11_read 174 = .ok (.getfield 235, 3) := by decide +kernel
theorem dX11_read_177 : decode cX11_read 177 = .ok (.ifCond .le 8, 3) := by decide +kernel
theorem dX11_read_180 : decode cX11_read 180 = .ok (.aload_n 0, 1) := by decide +kernel
theorem dX11_read_181 : decode cX11_read 181 = .ok (.getfield 235, 3) := by decide +kernel
theorem dX11_read_184 : decode cX11_read 184 = .ok (.ireturn, 1) := by decide +kernel
theorem dX11_read_185 : decode cX11_read 185 = .ok (.aload_n 0, 1) := by decide +kernel
theorem dX11_read_186 : decode cX11_read 186 = .ok (.getfield 40, 3) := by decide +kernel
theorem dX11_read_189 : decode cX11_read 189 = .ok (.aload_n 0, 1) := by decide +kernel
theorem dX11_read_190 : decode cX11_read 190 = .ok (.getfield 262, 3) := by decide +kernel
theorem dX11_read_193 : decode cX11_read 193 = .ok (.iload_n 1, 1) := by decide +kernel
theorem dX11_read_194 : decode cX11_read 194 = .ok (.iastore, 1) := by decide +kernel
theorem dX11_read_195 : decode cX11_read 195 = .ok (.aload_n 0, 1) := by decide +kernel
theorem dX11_read_196 : decode cX11_read 196 = .ok (.getfield 43, 3) := by decide +kernel
theorem dX11_read_199 : decode cX11_read 199 = .ok (.aload_n 0, 1) := by decide +kernel
theorem dX11_read_200 : decode cX11_read 200 = .ok (.getfield 262, 3) := by decide +kernel
theorem dX11_read_203 : decode cX11_read 203 = .ok (.iload_n 2, 1) := by decide +kernel
theorem dX11_read_204 : decode cX11_read 204 = .ok (.iastore, 1) := by decide +kernel
theorem dX11_read_205 : decode cX11_read 205 = .ok (.aload_n 0, 1) := by decide +kernel
theorem dX11_read_206 : decode cX11_read 206 = .ok (.dup, 1) := by decide +kernel
theorem dX11_read_207 : decode cX11_read 207 = .ok (.getfield 262, 3) := by decide +kernel
theorem dX11_read_210 : decode cX11_read 210 = .ok (.iconst 1, 1) := by decide +kernel
theorem dX11_read_211 : decode cX11_read 211 = .ok (.iadd, 1) := by decide +kernel
theorem dX11_read_212 : decode cX11_read 212 = .ok (.putfield 262, 3) := by decide +kernel
theorem dX11_read_215 : decode cX11_read 215 = .ok (.aload_n 0, 1) := by decide +kernel
theorem dX11_read_216 : decode cX11_read 216 = .ok (.iconst (-1), 1) := by decide +kernel
theorem dX11_read_217 : decode cX11_read 217 = .ok (.putfield 155, 3) := by decide +kernel
theorem dX11_read_220 : decode cX11_read 220 = .ok (.iconst 0, 1) := by decide +kernel
theorem dX11_read_221 : decode cX11_read 221 = .ok (.ireturn, 1) := by decide +kernel
theorem dX11_place_0 : decode cX11_place 0 = .ok (.aload_n 0, 1) := by decide +kernel
theorem dX11_place_1 : decode cX11_place 1 = .ok (.getfield 37, 3) := by decide +kernel
theorem dX11_place_4 : decode cX11_place 4 = .ok (.ireturn, 1) := by decide +kernel
theorem dX11_tellRule_0 : decode cX11_tellRule 0 = .ok (.aload_n 0, 1) := by decide +kernel
theorem dX11_tellRule_1 : decode cX11_tellRule 1 = .ok (.bipush 20, 2) := by decide +kernel
theorem dX11_tellRule_3 : decode cX11_tellRule 3 = .ok (.invokevirtual 253, 3) := by decide +kernel
theorem dX11_tellRule_6 : decode cX11_tellRule 6 = .ok (.ifCond .ne 39, 3) := by decide +kernel
theorem dX11_tellRule_9 : decode cX11_tellRule 9 = .ok (.aload_n 0, 1) := by decide +kernel
theorem dX11_tellRule_10 : decode cX11_tellRule 10 = .ok (.bipush 21, 2) := by decide +kernel
theorem dX11_tellRule_12 : decode cX11_tellRule 12 = .ok (.invokevirtual 253, 3) := by decide +kernel
theorem dX11_tellRule_15 : decode cX11_tellRule 15 = .ok (.ifCond .ne 30, 3) := by decide +kernel
theorem dX11_tellRule_18 : decode cX11_tellRule 18 = .ok (.aload_n 0, 1) := by decide +kernel
theorem dX11_tellRule_19 : decode cX11_tellRule 19 = .ok (.bipush 22, 2) := by decide +kernel
theorem dX11_tellRule_21 : decode cX11_tellRule 21 = .ok (.invokevirtual 253, 3) := by decide +kernel
theorem dX11_tellRule_24 : decode cX11_tellRule 24 = .ok (.ifCond .ne 21, 3) := by decide +kernel
theorem dX11_tellRule_27 : decode cX11_tellRule 27 = .ok (.aload_n 0, 1) := by decide +kernel
theorem dX11_tellRule_28 : decode cX11_tellRule 28 = .ok (.bipush 23, 2) := by decide +kernel
theorem dX11_tellRule_30 : decode cX11_tellRule 30 = .ok (.invokevirtual 253, 3) := by decide +kernel
theorem dX11_tellRule_33 : decode cX11_tellRule 33 = .ok (.ifCond .ne 12, 3) := by decide +kernel
theorem dX11_tellRule_36 : decode cX11_tellRule 36 = .ok (.aload_n 0, 1) := by decide +kernel
theorem dX11_tellRule_37 : decode cX11_tellRule 37 = .ok (.bipush 24, 2) := by decide +kernel
theorem dX11_tellRule_39 : decode cX11_tellRule 39 = .ok (.invokevirtual 253, 3) := by decide +kernel
theorem dX11_tellRule_42 : decode cX11_tellRule 42 = .ok (.ifCond .eq 7, 3) := by decide +kernel
theorem dX11_tellRule_45 : decode cX11_tellRule 45 = .ok (.iconst 1, 1) := by decide +kernel
theorem dX11_tellRule_46 : decode cX11_tellRule 46 = .ok (.goto 4, 3) := by decide +kernel
theorem dX11_tellRule_49 : decode cX11_tellRule 49 = .ok (.iconst 0, 1) := by decide +kernel
theorem dX11_tellRule_50 : decode cX11_tellRule 50 = .ok (.istore_n 1, 1) := by decide +kernel
theorem dX11_tellRule_51 : decode cX11_tellRule 51 = .ok (.iload_n 1, 1) := by decide +kernel
theorem dX11_tellRule_52 : decode cX11_tellRule 52 = .ok (.ifCond .ne 11, 3) := by decide +kernel
theorem dX11_tellRule_55 : decode cX11_tellRule 55 = .ok (.aload_n 0, 1) := by decide +kernel
theorem dX11_tellRule_56 : decode cX11_tellRule 56 = .ok (.iconst 1, 1) := by decide +kernel
theorem dX11_tellRule_57 : decode cX11_tellRule 57 = .ok (.invokevirtual 250, 3) := by decide +kernel
theorem dX11_tellRule_60 : decode cX11_tellRule 60 = .ok (.goto 22, 3) := by decide +kernel
theorem dX11_tellRule_63 : decode cX11_tellRule 63 = .ok (.aload_n 0, 1) := by decide +kernel
theorem dX11_tellRule_64 : decode cX11_tellRule 64 = .ok (.getfield 46, 3) := by decide +kernel
theorem dX11_tellRule_67 : decode cX11_tellRule 67 = .ok (.aload_n 0, 1) := by decide +kernel
theorem dX11_tellRule_68 : decode cX11_tellRule 68 = .ok (.getfield 271, 3) := by decide +kernel
theorem dX11_tellRule_71 : decode cX11_tellRule 71 = .ok (.iaload, 1) := by decide +kernel
theorem dX11_tellRule_72 : decode cX11_tellRule 72 = .ok (.bipush 16, 2) := by decide +kernel
theorem dX11_tellRule_74 : decode cX11_tellRule 74 = .ok (.if_icmp .ne 8, 3) := by decide +kernel
theorem dX11_tellRule_77 : decode cX11_tellRule 77 = .ok (.aload_n 0, 1) := by decide +kernel
theorem dX11_tellRule_78 : decode cX11_tellRule 78 = .ok (.iconst 2, 1) := by decide +kernel
theorem dX11_tellRule_79 : decode cX11_tellRule 79 = .ok (.invokevirtual 250, 3) := by decide +kernel
theorem dX11_tellRule_82 : decode cX11_tellRule 82 = .ok (.aload_n 0, 1) := by decide +kernel
theorem dX11_tellRule_83 : decode cX11_tellRule 83 = .ok (.getfield 235, 3) := by decide +kernel
theorem dX11_tellRule_86 : decode cX11_tellRule 86 = .ok (.ifCond .le 4, 3) := by decide +kernel
theorem dX11_tellRule_89 : decode cX11_tellRule 89 = .ok (.return_, 1) := by decide +kernel
theorem dX11_tellRule_90 : decode cX11_tellRule 90 = .ok (.bipush 16, 2) := by decide +kernel
theorem dX11_tellRule_92 : decode cX11_tellRule 92 = .ok (.aload_n 0, 1) := by decide +kernel
theorem dX11_tellRule_93 : decode cX11_tellRule 93 = .ok (.getfield 271, 3) := by decide +kernel
theorem dX11_tellRule_96 : decode cX11_tellRule 96 = .ok (.imul, 1) := by decide +kernel
theorem dX11_tellRule_97 : decode cX11_tellRule 97 = .ok (.aload_n 0, 1) := by decide +kernel
theorem dX11_tellRule_98 : decode cX11_tellRule 98 = .ok (.getfield 46, 3) := by decide +kernel
theorem dX11_tellRule_101 : decode cX11_tellRule 101 = .ok (.aload_n 0, 1) := by decide +kernel
theorem dX11_tellRule_102 : decode cX11_tellRule 102 = .ok (.getfield 271, 3) := by decide +kernel
theorem dX11_tellRule_105 : decode cX11_tellRule 105 = .ok (.iaload, 1) := by decide +kernel
theorem dX11_tellRule_106 : decode cX11_tellRule 106 = .ok (.iadd, 1) := by decide +kernel
theorem dX11_tellRule_107 : decode cX11_tellRule 107 = .ok (.istore_n 2, 1) := by decide +kernel
theorem dX11_tellRule_108 : decode cX11_tellRule 108 = .ok (.aload_n 0, 1) := by decide +kernel
theorem dX11_tellRule_109 : decode cX11_tellRule 109 = .ok (.getfield 49, 3) := by decide +kernel
theorem dX11_tellRule_112 : decode cX11_tellRule 112 = .ok (.iload_n 2, 1) := by decide +kernel
theorem dX11_tellRule_113 : decode cX11_tellRule 113 = .ok (.aload_n 0, 1) := by decide +kernel
theorem dX11_tellRule_114 : decode cX11_tellRule 114 = .ok (.getfield 20, 3) := by decide +kernel
theorem dX11_tellRule_117 : decode cX11_tellRule 117 = .ok (.aload_n 0, 1) := by decide +kernel
theorem dX11_tellRule_118 : decode cX11_tellRule 118 = .ok (.getfield 238, 3) := by decide +kernel
theorem dX11_tellRule_121 : decode cX11_tellRule 121 = .ok (.iaload, 1) := by decide +kernel
theorem dX11_tellRule_122 : decode cX11_tellRule 122 = .ok (.bipush 20, 2) := by decide +kernel
theorem dX11_tellRule_124 : decode cX11_tellRule 124 = .ok (.isub, 1) := by decide +kernel
theorem dX11_tellRule_125 : decode cX11_tellRule 125 = .ok (.iastore, 1) := by decide +kernel
theorem dX11_tellRule_126 : decode cX11_tellRule 126 = .ok (.aload_n 0, 1) := by decide +kernel
theorem dX11_tellRule_127 : decode cX11_tellRule 127 = .ok (.getfield 52, 3) := by decide +kernel
theorem dX11_tellRule_130 : decode cX11_tellRule 130 = .ok (.iload_n 2, 1) := by decide +kernel
theorem dX11_tellRule_131 : decode cX11_tellRule 131 = .ok (.iconst 0, 1) := by decide +kernel
theorem dX11_tellRule_132 : decode cX11_tellRule 132 = .ok (.iastore, 1) := by decide +kernel
theorem dX11_tellRule_133 : decode cX11_tellRule 133 = .ok (.aload_n 0, 1) := by decide +kernel
theorem dX11_tellRule_134 : decode cX11_tellRule 134 = .ok (.invokevirtual 256, 3) := by decide +kernel
theorem dX11_tellRule_137 : decode cX11_tellRule 137 = .ok (.aload_n 0, 1) := by decide +kernel
theorem dX11_tellRule_138 : decode cX11_tellRule 138 = .ok (.getfield 55, 3) := by decide +kernel
theorem dX11_tellRule_141 : decode cX11_tellRule 141 = .ok (.iload_n 2, 1) := by decide +kernel
theorem dX11_tellRule_142 : decode cX11_tellRule 142 = .ok (.aload_n 0, 1) := by decide +kernel
theorem dX11_tellRule_143 : decode cX11_tellRule 143 = .ok (.getfield 274, 3) := by decide +kernel
theorem dX11_tellRule_146 : decode cX11_tellRule 146 = .ok (.iastore, 1) := by decide +kernel
theorem dX11_tellRule_147 : decode cX11_tellRule 147 = .ok (.aload_n 0, 1) := by decide +kernel
theorem dX11_tellRule_148 : decode cX11_tellRule 148 = .ok (.getfield 49, 3) := by decide +kernel
theorem dX11_tellRule_151 : decode cX11_tellRule 151 = .ok (.iload_n 2, 1) := by decide +kernel
theorem dX11_tellRule_152 : decode cX11_tellRule 152 = .ok (.iaload, 1) := by decide +kernel
theorem dX11_tellRule_153 : decode cX11_tellRule 153 = .ok (.iconst 3, 1) := by decide +kernel
theorem dX11_tellRule_154 : decode cX11_tellRule 154 = .ok (.if_icmp .ne 33, 3) := by decide +kernel
theorem dX11_tellRule_157 : decode cX11_tellRule 157 = .ok (.aload_n 0, 1) := by decide +kernel
theorem dX11_tellRule_158 : decode cX11_tellRule 158 = .ok (.getfield 238, 3) := by decide +kernel
theorem dX11_tellRule_161 : decode cX11_tellRule 161 = .ok (.istore_n 3, 1) := by decide +kernel
theorem dX11_tellRule_162 : decode cX11_tellRule 162 = .ok (.aload_n 0, 1) := by decide +kernel
theorem dX11_tellRule_163 : decode cX11_tellRule 163 = .ok (.iconst 2, 1) := by decide +kernel
theorem dX11_tellRule_164 : decode cX11_tellRule 164 = .ok (.invokevirtual 280, 3) := by decide +kernel
theorem dX11_tellRule_167 : decode cX11_tellRule 167 = .ok (.aload_n 0, 1) := by decide +kernel
theorem dX11_tellRule_168 : decode cX11_tellRule 168 = .ok (.getfield 235, 3) := by decide +kernel
theorem dX11_tellRule_171 : decode cX11_tellRule 171 = .ok (.ifCond .le 4, 3) := by decide +kernel
theorem dX11_tellRule_174 : decode cX11_tellRule 174 = .ok (.return_, 1) := by decide +kernel
theorem dX11_tellRule_175 : decode cX11_tellRule 175 = .ok (.aload_n 0, 1) := by decide +kernel
theorem dX11_tellRule_176 : decode cX11_tellRule 176 = .ok (.getfield 52, 3) := by decide +kernel
theorem dX11_tellRule_179 : decode cX11_tellRule 179 = .ok (.iload_n 2, 1) := by decide +kernel
theorem dX11_tellRule_180 : decode cX11_tellRule 180 = .ok (.aload_n 0, 1) := by decide +kernel
theorem dX11_tellRule_181 : decode cX11_tellRule 181 = .ok (.getfield 27, 3) := by decide +kernel
theorem dX11_tellRule_184 : decode cX11_tellRule 184 = .ok (.iload_n 3, 1) := by decide +kernel
theorem dX11_tellRule_185 : decode cX11_tellRule 185 = .ok (.iaload, 1) := by decide +kernel
theorem dX11_tellRule_186 : decode cX11_tellRule 186 = .ok (.iastore, 1) := by decide +kernel
theorem dX11_tellRule_187 : decode cX11_tellRule 187 = .ok (.aload_n 0, 1) := by decide +kernel
theorem dX11_tellRule_188 : decode cX11_tellRule 188 = .ok (.getfield 49, 3) := by decide +kernel
theorem dX11_tellRule_191 : decode cX11_tellRule 191 = .ok (.iload_n 2, 1) := by decide +kernel
theorem dX11_tellRule_192 : decode cX11_tellRule 192 = .ok (.iaload, 1) := by decide +kernel
theorem dX11_tellRule_193 : decode cX11_tellRule 193 = .ok (.iconst 4, 1) := by decide +kernel
theorem dX11_tellRule_194 : decode cX11_tellRule 194 = .ok (.if_icmp .ne 7, 3) := by decide +kernel
theorem dX11_tellRule_197 : decode cX11_tellRule 197 = .ok (.aload_n 0, 1) := by decide +kernel
theorem dX11_tellRule_198 : decode cX11_tellRule 198 = .ok (.invokevirtual 283, 3) := by decide +kernel
theorem dX11_tellRule_201 : decode cX11_tellRule 201 = .ok (.aload_n 0, 1) := by decide +kernel
theorem dX11_tellRule_202 : decode cX11_tellRule 202 = .ok (.getfield 58, 3) := by decide +kernel
theorem dX11_tellRule_205 : decode cX11_tellRule 205 = .ok (.iload_n 2, 1) := by decide +kernel
theorem dX11_tellRule_206 : decode cX11_tellRule 206 = .ok (.aload_n 0, 1) := by decide +kernel
theorem dX11_tellRule_207 : decode cX11_tellRule 207 = .ok (.getfield 274, 3) := by decide +kernel
theorem dX11_tellRule_210 : decode cX11_tellRule 210 = .ok (.iastore, 1) := by decide +kernel
theorem dX11_tellRule_211 : decode cX11_tellRule 211 = .ok (.aload_n 0, 1) := by decide +kernel
theorem dX11_tellRule_212 : decode cX11_tellRule 212 = .ok (.getfield 61, 3) := by decide +kernel
theorem dX11_tellRule_215 : decode cX11_tellRule 215 = .ok (.iload_n 2, 1) := by decide +kernel
theorem dX11_tellRule_216 : decode cX11_tellRule 216 = .ok (.aload_n 0, 1) := by decide +kernel
theorem dX11_tellRule_217 : decode cX11_tellRule 217 = .ok (.getfield 67, 3) := by decide +kernel
theorem dX11_tellRule_220 : decode cX11_tellRule 220 = .ok (.aload_n 0, 1) := by decide +kernel
theorem dX11_tellRule_221 : decode cX11_tellRule 221 = .ok (.getfield 271, 3) := by decide +kernel
theorem dX11_tellRule_224 : decode cX11_tellRule 224 = .ok (.iaload, 1) := by decide +kernel
theorem dX11_tellRule_225 : decode cX11_tellRule 225 = .ok (.iastore, 1) := by decide +kernel
theorem dX11_tellRule_226 : decode cX11_tellRule 226 = .ok (.aload_n 0, 1) := by decide +kernel
theorem dX11_tellRule_227 : decode cX11_tellRule 227 = .ok (.getfield 49, 3) := by decide +kernel
theorem dX11_tellRule_230 : decode cX11_tellRule 230 = .ok (.iload_n 2, 1) := by decide +kernel
theorem dX11_tellRule_231 : decode cX11_tellRule 231 = .ok (.iaload, 1) := by decide +kernel
theorem dX11_tellRule_232 : decode cX11_tellRule 232 = .ok (.iconst 3, 1) := by decide +kernel
theorem dX11_tellRule_233 : decode cX11_tellRule 233 = .ok (.if_icmp .lt 22, 3) := by decide +kernel
theorem dX11_tellRule_236 : decode cX11_tellRule 236 = .ok (.aload_n 0, 1) := by decide +kernel
theorem dX11_tellRule_237 : decode cX11_tellRule 237 = .ok (.getfield 49, 3) := by decide +kernel
theorem dX11_tellRule_240 : decode cX11_tellRule 240 = .ok (.iload_n 2, 1) := by decide +kernel
theorem dX11_tellRule_241 : decode cX11_tellRule 241 = .ok (.iaload, 1) := by decide +kernel
theorem dX11_tellRule_242 : decode cX11_tellRule 242 = .ok (.iconst 4, 1) := by decide +kernel
theorem dX11_tellRule_243 : decode cX11_tellRule 243 = .ok (.if_icmp .ne 16, 3) := by decide +kernel
theorem dX11_tellRule_246 : decode cX11_tellRule 246 = .ok (.aload_n 0, 1) := by decide +kernel
theorem dX11_tellRule_247 : decode cX11_tellRule 247 = .ok (.bipush 25, 2) := by decide +kernel
theorem dX11_tellRule_249 : decode cX11_tellRule 249 = .ok (.invokevirtual 253, 3) := by decide +kernel
theorem dX11_tellRule_252 : decode cX11_tellRule 252 = .ok (.ifCond .eq 7, 3) := by decide +kernel
theorem dX11_tellRule_255 : decode cX11_tellRule 255 = .ok (.iconst 1, 1) := by decide +kernel
theorem dX11_tellRule_256 : decode cX11_tellRule 256 = .ok (.goto 4, 3) := by decide +kernel
theorem dX11_tellRule_259 : decode cX11_tellRule 259 = .ok (.iconst 0, 1) := by decide +kernel
theorem dX11_tellRule_260 : decode cX11_tellRule 260 = .ok (.istore_n 3, 1) := by decide +kernel
theorem dX11_tellRule_261 : decode cX11_tellRule 261 = .ok (.iload_n 3, 1) := by decide +kernel
theorem dX11_tellRule_262 : decode cX11_tellRule 262 = .ok (.ifCond .eq 9, 3) := by decide +kernel
theorem dX11_tellRule_265 : decode cX11_tellRule 265 = .ok (.aload_n 0, 1) := by decide +kernel
theorem dX11_tellRule_266 : decode cX11_tellRule 266 = .ok (.bipush 25, 2) := by decide +kernel
theorem dX11_tellRule_268 : decode cX11_tellRule 268 = .ok (.invokevirtual 280, 3) := by decide +kernel
theorem dX11_tellRule_271 : decode cX11_tellRule 271 = .ok (.iconst 1, 1) := by decide +kernel
theorem dX11_tellRule_272 : decode cX11_tellRule 272 = .ok (.istore 4, 2) := by decide +kernel
theorem dX11_tellRule_274 : decode cX11_tellRule 274 = .ok (.iload_n 3, 1) := by decide +kernel
theorem dX11_tellRule_275 : decode cX11_tellRule 275 = .ok (.ifCond .eq 55, 3) := by decide +kernel
theorem dX11_tellRule_278 : decode cX11_tellRule 278 = .ok (.aload_n 0, 1) := by decide +kernel
theorem dX11_tellRule_279 : decode cX11_tellRule 279 = .ok (.getfield 235, 3) := by decide +kernel
theorem dX11_tellRule_282 : decode cX11_tellRule 282 = .ok (.ifCond .ne 48, 3) := by decide +kernel
theorem dX11_tellRule_285 : decode cX11_tellRule 285 = .ok (.aload_n 0, 1) := by decide +kernel
theorem dX11_tellRule_286 : decode cX11_tellRule 286 = .ok (.iload 4, 2) := by decide +kernel
theorem dX11_tellRule_288 : decode cX11_tellRule 288 = .ok (.invokevirtual 286, 3) := by decide +kernel
theorem dX11_tellRule_291 : decode cX11_tellRule 291 = .ok (.aload_n 0, 1) := by decide +kernel
theorem dX11_tellRule_292 : decode cX11_tellRule 292 = .ok (.bipush 26, 2) := by decide +kernel
theorem dX11_tellRule_294 : decode cX11_tellRule 294 = .ok (.invokevirtual 253, 3) := by decide +kernel
theorem dX11_tellRule_297 : decode cX11_tellRule 297 = .ok (.istore 4, 2) := by decide +kernel
theorem dX11_tellRule_299 : decode cX11_tellRule 299 = .ok (.iload 4, 2) := by decide +kernel
theorem dX11_tellRule_301 : decode cX11_tellRule 301 = .ok (.ifCond .ne 12, 3) := by decide +kernel
theorem dX11_tellRule_304 : decode cX11_tellRule 304 = .ok (.aload_n 0, 1) := by decide +kernel
theorem dX11_tellRule_305 : decode cX11_tellRule 305 = .ok (.bipush 27, 2) := by decide +kernel
theorem dX11_tellRule_307 : decode cX11_tellRule 307 = .ok (.invokevirtual 253, 3) := by decide +kernel
theorem dX11_tellRule_310 : decode cX11_tellRule 310 = .ok (.ifCond .eq 7, 3) := by decide +kernel
theorem dX11_tellRule_313 : decode cX11_tellRule 313 = .ok (.iconst 1, 1) := by decide +kernel
theorem dX11_tellRule_314 : decode cX11_tellRule 314 = .ok (.goto 4, 3) := by decide +kernel
theorem dX11_tellRule_317 : decode cX11_tellRule 317 = .ok (.iconst 0, 1) := by decide +kernel
theorem dX11_tellRule_318 : decode cX11_tellRule 318 = .ok (.istore_n 3, 1) := by decide +kernel
theorem dX11_tellRule_319 : decode cX11_tellRule 319 = .ok (.iload_n 3, 1) := by decide +kernel
theorem dX11_tellRule_320 : decode cX11_tellRule 320 = .ok (.ifCond .eq (-46), 3) := by decide +kernel
theorem dX11_tellRule_323 : decode cX11_tellRule 323 = .ok (.aload_n 0, 1) := by decide +kernel
theorem dX11_tellRule_324 : decode cX11_tellRule 324 = .ok (.invokevirtual 256, 3) := by decide +kernel
theorem dX11_tellRule_327 : decode cX11_tellRule 327 = .ok (.goto (-53), 3) := by decide +kernel
theorem dX11_tellRule_330 : decode cX11_tellRule 330 = .ok (.aload_n 0, 1) := by decide +kernel
theorem dX11_tellRule_331 : decode cX11_tellRule 331 = .ok (.iconst 4, 1) := by decide +kernel
theorem dX11_tellRule_332 : decode cX11_tellRule 332 = .ok (.invokevirtual 280, 3) := by decide +kernel
theorem dX11_tellRule_335 : decode cX11_tellRule 335 = .ok (.aload_n 0, 1) := by decide +kernel
theorem dX11_tellRule_336 : decode cX11_tellRule 336 = .ok (.getfield 235, 3) := by decide +kernel
theorem dX11_tellRule_339 : decode cX11_tellRule 339 = .ok (.ifCond .le 4, 3) := by decide +kernel
theorem dX11_tellRule_342 : decode cX11_tellRule 342 = .ok (.return_, 1) := by decide +kernel
theorem dX11_tellRule_343 : decode cX11_tellRule 343 = .ok (.aload_n 0, 1) := by decide +kernel
theorem dX11_tellRule_344 : decode cX11_tellRule 344 = .ok (.getfield 64, 3) := by decide +kernel
theorem dX11_tellRule_347 : decode cX11_tellRule 347 = .ok (.iload_n 2, 1) := by decide +kernel
theorem dX11_tellRule_348 : decode cX11_tellRule 348 = .ok (.aload_n 0, 1) := by decide +kernel
theorem dX11_tellRule_349 : decode cX11_tellRule 349 = .ok (.getfield 67, 3) := by decide +kernel
theorem dX11_tellRule_352 : decode cX11_tellRule 352 = .ok (.aload_n 0, 1) := by decide +kernel
theorem dX11_tellRule_353 : decode cX11_tellRule 353 = .ok (.getfield 271, 3) := by decide +kernel
theorem dX11_tellRule_356 : decode cX11_tellRule 356 = .ok (.iaload, 1) := by decide +kernel
theorem dX11_tellRule_357 : decode cX11_tellRule 357 = .ok (.iastore, 1) := by decide +kernel
theorem dX11_tellRule_358 : decode cX11_tellRule 358 = .ok (.aload_n 0, 1) := by decide +kernel
theorem dX11_tellRule_359 : decode cX11_tellRule 359 = .ok (.getfield 46, 3) := by decide +kernel
theorem dX11_tellRule_362 : decode cX11_tellRule 362 = .ok (.aload_n 0, 1) := by decide +kernel
theorem dX11_tellRule_363 : decode cX11_tellRule 363 = .ok (.getfield 271, 3) := by decide +kernel
theorem dX11_tellRule_366 : decode cX11_tellRule 366 = .ok (.dup2, 1) := by decide +kernel
theorem dX11_tellRule_367 : decode cX11_tellRule 367 = .ok (.iaload, 1) := by decide +kernel
theorem dX11_tellRule_368 : decode cX11_tellRule 368 = .ok (.iconst 1, 1) := by decide +kernel
theorem dX11_tellRule_369 : decode cX11_tellRule 369 = .ok (.iadd, 1) := by decide +kernel
theorem dX11_tellRule_370 : decode cX11_tellRule 370 = .ok (.iastore, 1) := by decide +kernel
theorem dX11_tellRule_371 : decode cX11_tellRule 371 = .ok (.return_, 1) := by decide +kernel
theorem dX11_relation_0 : decode cX11_relation 0 = .ok (.aload_n 0, 1) := by decide +kernel
theorem dX11_relation_1 : decode cX11_relation 1 = .ok (.getfield 274, 3) := by decide +kernel
theorem dX11_relation_4 : decode cX11_relation 4 = .ok (.istore_n 2, 1) := by decide +kernel
theorem dX11_relation_5 : decode cX11_relation 5 = .ok (.aload_n 0, 1) := by decide +kernel
theorem dX11_relation_6 : decode cX11_relation 6 = .ok (.invokevirtual 283, 3) := by decide +kernel
theorem dX11_relation_9 : decode cX11_relation 9 = .ok (.aload_n 0, 1) := by decide +kernel
theorem dX11_relation_10 : decode cX11_relation 10 = .ok (.getfield 235, 3) := by decide +kernel
theorem dX11_relation_13 : decode cX11_relation 13 = .ok (.ifCond .le 7, 3) := by decide +kernel
theorem dX11_relation_16 : decode cX11_relation 16 = .ok (.iconst 0, 1) := by decide +kernel
theorem dX11_relation_17 : decode cX11_relation 17 = .ok (.goto 15, 3) := by decide +kernel
theorem dX11_relation_20 : decode cX11_relation 20 = .ok (.aload_n 0, 1) := by decide +kernel
theorem dX11_relation_21 : decode cX11_relation 21 = .ok (.getfield 20, 3) := by decide +kernel
theorem dX11_relation_24 : decode cX11_relation 24 = .ok (.aload_n 0, 1) := by decide +kernel
theorem dX11_relation_25 : decode cX11_relation 25 = .ok (.getfield 238, 3) := by decide +kernel
theorem dX11_relation_28 : decode cX11_relation 28 = .ok (.iaload, 1) := by decide +kernel
theorem dX11_relation_29 : decode cX11_relation 29 = .ok (.bipush 11, 2) := by decide +kernel
theorem dX11_relation_31 : decode cX11_relation 31 = .ok (.isub, 1) := by decide +kernel
theorem dX11_relation_32 : decode cX11_relation 32 = .ok (.istore_n 3, 1) := by decide +kernel
theorem dX11_relation_33 : decode cX11_relation 33 = .ok (.aload_n 0, 1) := by decide +kernel
theorem dX11_relation_34 : decode cX11_relation 34 = .ok (.getfield 235, 3) := by decide +kernel
theorem dX11_relation_37 : decode cX11_relation 37 = .ok (.ifCond .ne 17, 3) := by decide +kernel
theorem dX11_relation_40 : decode cX11_relation 40 = .ok (.iload_n 3, 1) := by decide +kernel
theorem dX11_relation_41 : decode cX11_relation 41 = .ok (.ifCond .lt 8, 3) := by decide +kernel
theorem dX11_relation_44 : decode cX11_relation 44 = .ok (.iload_n 3, 1) := by decide +kernel
theorem dX11_relation_45 : decode cX11_relation 45 = .ok (.iconst 3, 1) := by decide +kernel
theorem dX11_relation_46 : decode cX11_relation 46 = .ok (.if_icmp .le 8, 3) := by decide +kernel
theorem dX11_relation_49 : decode cX11_relation 49 = .ok (.aload_n 0, 1) := by decide +kernel
theorem dX11_relation_50 : decode cX11_relation 50 = .ok (.iconst 1, 1) := by decide +kernel
theorem dX11_relation_51 : decode cX11_relation 51 = .ok (.invokevirtual 250, 3) := by decide +kernel
theorem dX11_relation_54 : decode cX11_relation 54 = .ok (.aload_n 0, 1) := by decide +kernel
theorem dX11_relation_55 : decode cX11_relation 55 = .ok (.invokevirtual 256, 3) := by decide +kernel
theorem dX11_relation_58 : decode cX11_relation 58 = .ok (.aload_n 0, 1) := by decide +kernel
theorem dX11_relation_59 : decode cX11_relation 59 = .ok (.getfield 274, 3) := by decide +kernel
theorem dX11_relation_62 : decode cX11_relation 62 = .ok (.istore 4, 2) := by decide +kernel
theorem dX11_relation_64 : decode cX11_relation 64 = .ok (.aload_n 0, 1) := by decide +kernel
theorem dX11_relation_65 : decode cX11_relation 65 = .ok (.invokevirtual 283, 3) := by decide +kernel
theorem dX11_relation_68 : decode cX11_relation 68 = .ok (.aload_n 0, 1) := by decide +kernel
theorem dX11_relation_69 : decode cX11_relation 69 = .ok (.getfield 235, 3) := by decide +kernel
theorem dX11_relation_72 : decode cX11_relation 72 = .ok (.ifCond .le 4, 3) := by decide +kernel
theorem dX11_relation_75 : decode cX11_relation 75 = .ok (.return_, 1) := by decide +kernel
theorem dX11_relation_76 : decode cX11_relation 76 = .ok (.sipush 200, 3) := by decide +kernel
theorem dX11_relation_79 : decode cX11_relation 79 = .ok (.aload_n 0, 1) := by decide +kernel
theorem dX11_relation_80 : decode cX11_relation 80 = .ok (.getfield 271, 3) := by decide +kernel
theorem dX11_relation_83 : decode cX11_relation 83 = .ok (.imul, 1) := by decide +kernel
theorem dX11_relation_84 : decode cX11_relation 84 = .ok (.aload_n 0, 1) := by decide +kernel
theorem dX11_relation_85 : decode cX11_relation 85 = .ok (.getfield 67, 3) := by decide +kernel
theorem dX11_relation_88 : decode cX11_relation 88 = .ok (.aload_n 0, 1) := by decide +kernel
theorem dX11_relation_89 : decode cX11_relation 89 = .ok (.getfield 271, 3) := by decide +kernel
theorem dX11_relation_92 : decode cX11_relation 92 = .ok (.iaload, 1) := by decide +kernel
theorem dX11_relation_93 : decode cX11_relation 93 = .ok (.iadd, 1) := by decide +kernel
theorem dX11_relation_94 : decode cX11_relation 94 = .ok (.istore 5, 2) := by decide +kernel
theorem dX11_relation_96 : decode cX11_relation 96 = .ok (.aload_n 0, 1) := by decide +kernel
theorem dX11_relation_97 : decode cX11_relation 97 = .ok (.getfield 70, 3) := by decide +kernel
theorem dX11_relation_100 : decode cX11_relation 100 = .ok (.iload 5, 2) := by decide +kernel
theorem dX11_relation_102 : decode cX11_relation 102 = .ok (.iload_n 3, 1) := by decide +kernel
theorem dX11_relation_103 : decode cX11_relation 103 = .ok (.iastore, 1) := by decide +kernel
theorem dX11_relation_104 : decode cX11_relation 104 = .ok (.aload_n 0, 1) := by decide +kernel
theorem dX11_relation_105 : decode cX11_relation 105 = .ok (.getfield 73, 3) := by decide +kernel
theorem dX11_relation_108 : decode cX11_relation 108 = .ok (.iload 5, 2) := by decide +kernel
theorem dX11_relation_110 : decode cX11_relation 110 = .ok (.iload_n 2, 1) := by decide +kernel
theorem dX11_relation_111 : decode cX11_relation 111 = .ok (.iastore, 1) := by decide +kernel
theorem dX11_relation_112 : decode cX11_relation 112 = .ok (.aload_n 0, 1) := by decide +kernel
theorem dX11_relation_113 : decode cX11_relation 113 = .ok (.getfield 76, 3) := by decide +kernel
theorem dX11_relation_116 : decode cX11_relation 116 = .ok (.iload 5, 2) := by decide +kernel
theorem dX11_relation_118 : decode cX11_relation 118 = .ok (.iload 4, 2) := by decide +kernel
theorem dX11_relation_120 : decode cX11_relation 120 = .ok (.iastore, 1) := by decide +kernel
theorem dX11_relation_121 : decode cX11_relation 121 = .ok (.aload_n 0, 1) := by decide +kernel
theorem dX11_relation_122 : decode cX11_relation 122 = .ok (.getfield 79, 3) := by decide +kernel
theorem dX11_relation_125 : decode cX11_relation 125 = .ok (.iload 5, 2) := by decide +kernel
theorem dX11_relation_127 : decode cX11_relation 127 = .ok (.aload_n 0, 1) := by decide +kernel
theorem dX11_relation_128 : decode cX11_relation 128 = .ok (.getfield 274, 3) := by decide +kernel
theorem dX11_relation_131 : decode cX11_relation 131 = .ok (.iastore, 1) := by decide +kernel
theorem dX11_relation_132 : decode cX11_relation 132 = .ok (.aload_n 0, 1) := by decide +kernel
theorem dX11_relation_133 : decode cX11_relation 133 = .ok (.getfield 82, 3) := by decide +kernel
theorem dX11_relation_136 : decode cX11_relation 136 = .ok (.iload 5, 2) := by decide +kernel
theorem dX11_relation_138 : decode cX11_relation 138 = .ok (.iload_n 1, 1) := by decide +kernel
theorem dX11_relation_139 : decode cX11_relation 139 = .ok (.bastore, 1) := by decide +kernel
theorem dX11_relation_140 : decode cX11_relation 140 = .ok (.aload_n 0, 1) := by decide +kernel
theorem dX11_relation_141 : decode cX11_relation 141 = .ok (.getfield 67, 3) := by decide +kernel
theorem dX11_relation_144 : decode cX11_relation 144 = .ok (.aload_n 0, 1) := by decide +kernel
theorem dX11_relation_145 : decode cX11_relation 145 = .ok (.getfield 271, 3) := by decide +kernel
theorem dX11_relation_148 : decode cX11_relation 148 = .ok (.dup2, 1) := by decide +kernel
theorem dX11_relation_149 : decode cX11_relation 149 = .ok (.iaload, 1) := by decide +kernel
theorem dX11_relation_150 : decode cX11_relation 150 = .ok (.iconst 1, 1) := by decide +kernel
theorem dX11_relation_151 : decode cX11_relation 151 = .ok (.iadd, 1) := by decide +kernel
theorem dX11_relation_152 : decode cX11_relation 152 = .ok (.iastore, 1) := by decide +kernel
theorem dX11_relation_153 : decode cX11_relation 153 = .ok (.return_, 1) := by decide +kernel
theorem dX11_emit_0 : decode cX11_emit 0 = .ok (.aload_n 0, 1) := by decide +kernel
theorem dX11_emit_1 : decode cX11_emit 1 = .ok (.getfield 86, 3) := by decide +kernel
theorem dX11_emit_4 : decode cX11_emit 4 = .ok (.aload_n 0, 1) := by decide +kernel
theorem dX11_emit_5 : decode cX11_emit 5 = .ok (.getfield 274, 3) := by decide +kernel
theorem dX11_emit_8 : decode cX11_emit 8 = .ok (.iload_n 1, 1) := by decide +kernel
theorem dX11_emit_9 : decode cX11_emit 9 = .ok (.iastore, 1) := by decide +kernel
theorem dX11_emit_10 : decode cX11_emit 10 = .ok (.aload_n 0, 1) := by decide +kernel
theorem dX11_emit_11 : decode cX11_emit 11 = .ok (.getfield 89, 3) := by decide +kernel
theorem dX11_emit_14 : decode cX11_emit 14 = .ok (.aload_n 0, 1) := by decide +kernel
theorem dX11_emit_15 : decode cX11_emit 15 = .ok (.getfield 274, 3) := by decide +kernel
theorem dX11_emit_18 : decode cX11_emit 18 = .ok (.iload_n 2, 1) := by decide +kernel
theorem dX11_emit_19 : decode cX11_emit 19 = .ok (.iastore, 1) := by decide +kernel
theorem dX11_emit_20 : decode cX11_emit 20 = .ok (.aload_n 0, 1) := by decide +kernel
theorem dX11_emit_21 : decode cX11_emit 21 = .ok (.dup, 1) := by decide +kernel
theorem dX11_emit_22 : decode cX11_emit 22 = .ok (.getfield 274, 3) := by decide +kernel
theorem dX11_emit_25 : decode cX11_emit 25 = .ok (.iconst 1, 1) := by decide +kernel
theorem dX11_emit_26 : decode cX11_emit 26 = .ok (.iadd, 1) := by decide +kernel
theorem dX11_emit_27 : decode cX11_emit 27 = .ok (.putfield 274, 3) := by decide +kernel
theorem dX11_emit_30 : decode cX11_emit 30 = .ok (.return_, 1) := by decide +kernel
theorem dX11_comesOut_0 : decode cX11_comesOut 0 = .ok (.aload_n 0, 1) := by decide +kernel
theorem dX11_comesOut_1 : decode cX11_comesOut 1 = .ok (.getfield 290, 3) := by decide +kernel
theorem dX11_comesOut_4 : decode cX11_comesOut 4 = .ok (.ifCond .le 88, 3) := by decide +kernel
theorem dX11_comesOut_7 : decode cX11_comesOut 7 = .ok (.aload_n 0, 1) := by decide +kernel
theorem dX11_comesOut_8 : decode cX11_comesOut 8 = .ok (.getfield 92, 3) := by decide +kernel
theorem dX11_comesOut_11 : decode cX11_comesOut 11 = .ok (.aload_n 0, 1) := by decide +kernel
theorem dX11_comesOut_12 : decode cX11_comesOut 12 = .ok (.getfield 290, 3) := by decide +kernel
theorem dX11_comesOut_15 : decode cX11_comesOut 15 = .ok (.iconst 1, 1) := by decide +kernel
theorem dX11_comesOut_16 : decode cX11_comesOut 16 = .ok (.isub, 1) := by decide +kernel
theorem dX11_comesOut_17 : decode cX11_comesOut 17 = .ok (.iaload, 1) := by decide +kernel
theorem dX11_comesOut_18 : decode cX11_comesOut 18 = .ok (.bipush 6, 2) := by decide +kernel
theorem dX11_comesOut_20 : decode cX11_comesOut 20 = .ok (.if_icmp .eq 72, 3) := by decide +kernel
theorem dX11_comesOut_23 : decode cX11_comesOut 23 = .ok (.iload_n 1, 1) := by decide +kernel
theorem dX11_comesOut_24 : decode cX11_comesOut 24 = .ok (.ifCond .eq 19, 3) := by decide +kernel
theorem dX11_comesOut_27 : decode cX11_comesOut 27 = .ok (.aload_n 0, 1) := by decide +kernel
theorem dX11_comesOut_28 : decode cX11_comesOut 28 = .ok (.getfield 92, 3) := by decide +kernel
theorem dX11_comesOut_31 : decode cX11_comesOut 31 = .ok (.aload_n 0, 1) := by decide +kernel
theorem dX11_comesOut_32 : decode cX11_comesOut 32 = .ok (.getfield 290, 3) := by decide +kernel
theorem dX11_comesOut_35 : decode cX11_comesOut 35 = .ok (.iconst 1, 1) := by decide +kernel
theorem dX11_comesOut_36 : decode cX11_comesOut 36 = .ok (.isub, 1) := by decide +kernel
theorem dX11_comesOut_37 : decode cX11_comesOut 37 = .ok (.iaload, 1) := by decide +kernel
theorem dX11_comesOut_38 : decode cX11_comesOut 38 = .ok (.bipush 10, 2) := by decide +kernel
theorem dX11_comesOut_40 : decode cX11_comesOut 40 = .ok (.if_icmp .ne 52, 3) := by decide +kernel
theorem dX11_comesOut_43 : decode cX11_comesOut 43 = .ok (.aload_n 0, 1) := by decide +kernel
