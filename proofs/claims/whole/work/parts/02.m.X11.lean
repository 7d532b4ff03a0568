theorem dX11_effects_166 : decode cX11_effects 166 = .ok (.getfield 119, 3) := by decide +kernel
theorem dX11_effects_169 : decode cX11_effects 169 = .ok (.iload_n 1, 1) := by decide +kernel
theorem dX11_effects_170 : decode cX11_effects 170 = .ok (.iaload, 1) := by decide +kernel
theorem dX11_effects_171 : decode cX11_effects 171 = .ok (.if_icmp .le 15, 3) := by decide +kernel
theorem dX11_effects_174 : decode cX11_effects 174 = .ok (.aload_n 0, 1) := by decide +kernel
theorem dX11_effects_175 : decode cX11_effects 175 = .ok (.getfield 161, 3) := by decide +kernel
theorem dX11_effects_178 : decode cX11_effects 178 = .ok (.iload_n 1, 1) := by decide +kernel
theorem dX11_effects_179 : decode cX11_effects 179 = .ok (.aload_n 0, 1) := by decide +kernel
theorem dX11_effects_180 : decode cX11_effects 180 = .ok (.getfield 146, 3) := by decide +kernel
theorem dX11_effects_183 : decode cX11_effects 183 = .ok (.iload_n 3, 1) := by decide +kernel
theorem dX11_effects_184 : decode cX11_effects 184 = .ok (.iaload, 1) := by decide +kernel
theorem dX11_effects_185 : decode cX11_effects 185 = .ok (.iastore, 1) := by decide +kernel
theorem dX11_effects_186 : decode cX11_effects 186 = .ok (.return_, 1) := by decide +kernel
theorem dX11_fateOf_0 : decode cX11_fateOf 0 = .ok (.ldc_w 345, 3) := by decide +kernel
theorem dX11_fateOf_3 : decode cX11_fateOf 3 = .ok (.istore 4, 2) := by decide +kernel
theorem dX11_fateOf_5 : decode cX11_fateOf 5 = .ok (.iconst 0, 1) := by decide +kernel
theorem dX11_fateOf_6 : decode cX11_fateOf 6 = .ok (.istore 5, 2) := by decide +kernel
theorem dX11_fateOf_8 : decode cX11_fateOf 8 = .ok (.iload 5, 2) := by decide +kernel
theorem dX11_fateOf_10 : decode cX11_fateOf 10 = .ok (.iload_n 3, 1) := by decide +kernel
theorem dX11_fateOf_11 : decode cX11_fateOf 11 = .ok (.if_icmp .ge 73, 3) := by decide +kernel
theorem dX11_fateOf_14 : decode cX11_fateOf 14 = .ok (.aload_n 0, 1) := by decide +kernel
theorem dX11_fateOf_15 : decode cX11_fateOf 15 = .ok (.getfield 137, 3) := by decide +kernel
theorem dX11_fateOf_18 : decode cX11_fateOf 18 = .ok (.iload 5, 2) := by decide +kernel
theorem dX11_fateOf_20 : decode cX11_fateOf 20 = .ok (.iaload, 1) := by decide +kernel
theorem dX11_fateOf_21 : decode cX11_fateOf 21 = .ok (.iload_n 2, 1) := by decide +kernel
theorem dX11_fateOf_22 : decode cX11_fateOf 22 = .ok (.if_icmp .ne 56, 3) := by decide +kernel
theorem dX11_fateOf_25 : decode cX11_fateOf 25 = .ok (.aload_n 0, 1) := by decide +kernel
theorem dX11_fateOf_26 : decode cX11_fateOf 26 = .ok (.getfield 140, 3) := by decide +kernel
theorem dX11_fateOf_29 : decode cX11_fateOf 29 = .ok (.iload 5, 2) := by decide +kernel
theorem dX11_fateOf_31 : decode cX11_fateOf 31 = .ok (.iaload, 1) := by decide +kernel
theorem dX11_fateOf_32 : decode cX11_fateOf 32 = .ok (.aload_n 0, 1) := by decide +kernel
theorem dX11_fateOf_33 : decode cX11_fateOf 33 = .ok (.getfield 110, 3) := by decide +kernel
theorem dX11_fateOf_36 : decode cX11_fateOf 36 = .ok (.iload_n 1, 1) := by decide +kernel
theorem dX11_fateOf_37 : decode cX11_fateOf 37 = .ok (.iaload, 1) := by decide +kernel
theorem dX11_fateOf_38 : decode cX11_fateOf 38 = .ok (.if_icmp .eq 19, 3) := by decide +kernel
theorem dX11_fateOf_41 : decode cX11_fateOf 41 = .ok (.aload_n 0, 1) := by decide +kernel
theorem dX11_fateOf_42 : decode cX11_fateOf 42 = .ok (.getfield 140, 3) := by decide +kernel
theorem dX11_fateOf_45 : decode cX11_fateOf 45 = .ok (.iload 5, 2) := by decide +kernel
theorem dX11_fateOf_47 : decode cX11_fateOf 47 = .ok (.iaload, 1) := by decide +kernel
theorem dX11_fateOf_48 : decode cX11_fateOf 48 = .ok (.aload_n 0, 1) := by decide +kernel
theorem dX11_fateOf_49 : decode cX11_fateOf 49 = .ok (.getfield 113, 3) := by decide +kernel
theorem dX11_fateOf_52 : decode cX11_fateOf 52 = .ok (.iload_n 1, 1) := by decide +kernel
theorem dX11_fateOf_53 : decode cX11_fateOf 53 = .ok (.iaload, 1) := by decide +kernel
theorem dX11_fateOf_54 : decode cX11_fateOf 54 = .ok (.if_icmp .ne 24, 3) := by decide +kernel
theorem dX11_fateOf_57 : decode cX11_fateOf 57 = .ok (.aload_n 0, 1) := by decide +kernel
theorem dX11_fateOf_58 : decode cX11_fateOf 58 = .ok (.getfield 146, 3) := by decide +kernel
theorem dX11_fateOf_61 : decode cX11_fateOf 61 = .ok (.iload 5, 2) := by decide +kernel
theorem dX11_fateOf_63 : decode cX11_fateOf 63 = .ok (.iaload, 1) := by decide +kernel
theorem dX11_fateOf_64 : decode cX11_fateOf 64 = .ok (.iload 4, 2) := by decide +kernel
theorem dX11_fateOf_66 : decode cX11_fateOf 66 = .ok (.if_icmp .ge 12, 3) := by decide +kernel
theorem dX11_fateOf_69 : decode cX11_fateOf 69 = .ok (.aload_n 0, 1) := by decide +kernel
theorem dX11_fateOf_70 : decode cX11_fateOf 70 = .ok (.getfield 146, 3) := by decide +kernel
theorem dX11_fateOf_73 : decode cX11_fateOf 73 = .ok (.iload 5, 2) := by decide +kernel
theorem dX11_fateOf_75 : decode cX11_fateOf 75 = .ok (.iaload, 1) := by decide +kernel
theorem dX11_fateOf_76 : decode cX11_fateOf 76 = .ok (.istore 4, 2) := by decide +kernel
theorem dX11_fateOf_78 : decode cX11_fateOf 78 = .ok (.iinc 5 1, 3) := by decide +kernel
theorem dX11_fateOf_81 : decode cX11_fateOf 81 = .ok (.goto (-73), 3) := by decide +kernel
theorem dX11_fateOf_84 : decode cX11_fateOf 84 = .ok (.iload 4, 2) := by decide +kernel
theorem dX11_fateOf_86 : decode cX11_fateOf 86 = .ok (.ireturn, 1) := by decide +kernel
theorem dX11_lapseOf_0 : decode cX11_lapseOf 0 = .ok (.aload_n 0, 1) := by decide +kernel
theorem dX11_lapseOf_1 : decode cX11_lapseOf 1 = .ok (.iload_n 1, 1) := by decide +kernel
theorem dX11_lapseOf_2 : decode cX11_lapseOf 2 = .ok (.invokevirtual 326, 3) := by decide +kernel
theorem dX11_lapseOf_5 : decode cX11_lapseOf 5 = .ok (.istore_n 3, 1) := by decide +kernel
theorem dX11_lapseOf_6 : decode cX11_lapseOf 6 = .ok (.iconst (-1), 1) := by decide +kernel
theorem dX11_lapseOf_7 : decode cX11_lapseOf 7 = .ok (.istore 4, 2) := by decide +kernel
theorem dX11_lapseOf_9 : decode cX11_lapseOf 9 = .ok (.iconst 0, 1) := by decide +kernel
theorem dX11_lapseOf_10 : decode cX11_lapseOf 10 = .ok (.istore 5, 2) := by decide +kernel
theorem dX11_lapseOf_12 : decode cX11_lapseOf 12 = .ok (.iload_n 3, 1) := by decide +kernel
theorem dX11_lapseOf_13 : decode cX11_lapseOf 13 = .ok (.iconst (-1), 1) := by decide +kernel
theorem dX11_lapseOf_14 : decode cX11_lapseOf 14 = .ok (.if_icmp .eq 56, 3) := by decide +kernel
theorem dX11_lapseOf_17 : decode cX11_lapseOf 17 = .ok (.iload 5, 2) := by decide +kernel
theorem dX11_lapseOf_19 : decode cX11_lapseOf 19 = .ok (.aload_n 0, 1) := by decide +kernel
theorem dX11_lapseOf_20 : decode cX11_lapseOf 20 = .ok (.getfield 46, 3) := by decide +kernel
theorem dX11_lapseOf_23 : decode cX11_lapseOf 23 = .ok (.iload_n 3, 1) := by decide +kernel
theorem dX11_lapseOf_24 : decode cX11_lapseOf 24 = .ok (.iaload, 1) := by decide +kernel
theorem dX11_lapseOf_25 : decode cX11_lapseOf 25 = .ok (.if_icmp .ge 45, 3) := by decide +kernel
theorem dX11_lapseOf_28 : decode cX11_lapseOf 28 = .ok (.iload 4, 2) := by decide +kernel
theorem dX11_lapseOf_30 : decode cX11_lapseOf 30 = .ok (.iconst (-1), 1) := by decide +kernel
theorem dX11_lapseOf_31 : decode cX11_lapseOf 31 = .ok (.if_icmp .ne 39, 3) := by decide +kernel
theorem dX11_lapseOf_34 : decode cX11_lapseOf 34 = .ok (.aload_n 0, 1) := by decide +kernel
theorem dX11_lapseOf_35 : decode cX11_lapseOf 35 = .ok (.getfield 49, 3) := by decide +kernel
theorem dX11_lapseOf_38 : decode cX11_lapseOf 38 = .ok (.bipush 16, 2) := by decide +kernel
theorem dX11_lapseOf_40 : decode cX11_lapseOf 40 = .ok (.iload_n 3, 1) := by decide +kernel
theorem dX11_lapseOf_41 : decode cX11_lapseOf 41 = .ok (.imul, 1) := by decide +kernel
theorem dX11_lapseOf_42 : decode cX11_lapseOf 42 = .ok (.iload 5, 2) := by decide +kernel
theorem dX11_lapseOf_44 : decode cX11_lapseOf 44 = .ok (.iadd, 1) := by decide +kernel
theorem dX11_lapseOf_45 : decode cX11_lapseOf 45 = .ok (.iaload, 1) := by decide +kernel
theorem dX11_lapseOf_46 : decode cX11_lapseOf 46 = .ok (.iconst 3, 1) := by decide +kernel
theorem dX11_lapseOf_47 : decode cX11_lapseOf 47 = .ok (.if_icmp .ne 17, 3) := by decide +kernel
theorem dX11_lapseOf_50 : decode cX11_lapseOf 50 = .ok (.aload_n 0, 1) := by decide +kernel
theorem dX11_lapseOf_51 : decode cX11_lapseOf 51 = .ok (.getfield 52, 3) := by decide +kernel
theorem dX11_lapseOf_54 : decode cX11_lapseOf 54 = .ok (.bipush 16, 2) := by decide +kernel
theorem dX11_lapseOf_56 : decode cX11_lapseOf 56 = .ok (.iload_n 3, 1) := by decide +kernel
theorem dX11_lapseOf_57 : decode cX11_lapseOf 57 = .ok (.imul, 1) := by decide +kernel
theorem dX11_lapseOf_58 : decode cX11_lapseOf 58 = .ok (.iload 5, 2) := by decide +kernel
theorem dX11_lapseOf_60 : decode cX11_lapseOf 60 = .ok (.iadd, 1) := by decide +kernel
theorem dX11_lapseOf_61 : decode cX11_lapseOf 61 = .ok (.iaload, 1) := by decide +kernel
theorem dX11_lapseOf_62 : decode cX11_lapseOf 62 = .ok (.istore 4, 2) := by decide +kernel
theorem dX11_lapseOf_64 : decode cX11_lapseOf 64 = .ok (.iinc 5 1, 3) := by decide +kernel
theorem dX11_lapseOf_67 : decode cX11_lapseOf 67 = .ok (.goto (-55), 3) := by decide +kernel
theorem dX11_lapseOf_70 : decode cX11_lapseOf 70 = .ok (.iload 4, 2) := by decide +kernel
theorem dX11_lapseOf_72 : decode cX11_lapseOf 72 = .ok (.iconst (-1), 1) := by decide +kernel
theorem dX11_lapseOf_73 : decode cX11_lapseOf 73 = .ok (.if_icmp .ne 7, 3) := by decide +kernel
theorem dX11_lapseOf_76 : decode cX11_lapseOf 76 = .ok (.ldc_w 345, 3) := by decide +kernel
theorem dX11_lapseOf_79 : decode cX11_lapseOf 79 = .ok (.ireturn, 1) := by decide +kernel
theorem dX11_lapseOf_80 : decode cX11_lapseOf 80 = .ok (.ldc_w 345, 3) := by decide +kernel
theorem dX11_lapseOf_83 : decode cX11_lapseOf 83 = .ok (.istore 5, 2) := by decide +kernel
theorem dX11_lapseOf_85 : decode cX11_lapseOf 85 = .ok (.iconst 0, 1) := by decide +kernel
theorem dX11_lapseOf_86 : decode cX11_lapseOf 86 = .ok (.istore 6, 2) := by decide +kernel
theorem dX11_lapseOf_88 : decode cX11_lapseOf 88 = .ok (.iload 6, 2) := by decide +kernel
theorem dX11_lapseOf_90 : decode cX11_lapseOf 90 = .ok (.iload_n 2, 1) := by decide +kernel
theorem dX11_lapseOf_91 : decode cX11_lapseOf 91 = .ok (.if_icmp .ge 201, 3) := by decide +kernel
theorem dX11_lapseOf_94 : decode cX11_lapseOf 94 = .ok (.aload_n 0, 1) := by decide +kernel
theorem dX11_lapseOf_95 : decode cX11_lapseOf 95 = .ok (.getfield 137, 3) := by decide +kernel
theorem dX11_lapseOf_98 : decode cX11_lapseOf 98 = .ok (.iload 6, 2) := by decide +kernel
theorem dX11_lapseOf_100 : decode cX11_lapseOf 100 = .ok (.iaload, 1) := by decide +kernel
theorem dX11_lapseOf_101 : decode cX11_lapseOf 101 = .ok (.iconst 2, 1) := by decide +kernel
theorem dX11_lapseOf_102 : decode cX11_lapseOf 102 = .ok (.if_icmp .ne 184, 3) := by decide +kernel
theorem dX11_lapseOf_105 : decode cX11_lapseOf 105 = .ok (.aload_n 0, 1) := by decide +kernel
theorem dX11_lapseOf_106 : decode cX11_lapseOf 106 = .ok (.getfield 140, 3) := by decide +kernel
theorem dX11_lapseOf_109 : decode cX11_lapseOf 109 = .ok (.iload 6, 2) := by decide +kernel
theorem dX11_lapseOf_111 : decode cX11_lapseOf 111 = .ok (.iaload, 1) := by decide +kernel
theorem dX11_lapseOf_112 : decode cX11_lapseOf 112 = .ok (.aload_n 0, 1) := by decide +kernel
theorem dX11_lapseOf_113 : decode cX11_lapseOf 113 = .ok (.getfield 110, 3) := by decide +kernel
theorem dX11_lapseOf_116 : decode cX11_lapseOf 116 = .ok (.iload_n 1, 1) := by decide +kernel
theorem dX11_lapseOf_117 : decode cX11_lapseOf 117 = .ok (.iaload, 1) := by decide +kernel
theorem dX11_lapseOf_118 : decode cX11_lapseOf 118 = .ok (.if_icmp .eq 22, 3) := by decide +kernel
theorem dX11_lapseOf_121 : decode cX11_lapseOf 121 = .ok (.aload_n 0, 1) := by decide +kernel
theorem dX11_lapseOf_122 : decode cX11_lapseOf 122 = .ok (.getfield 140, 3) := by decide +kernel
theorem dX11_lapseOf_125 : decode cX11_lapseOf 125 = .ok (.iload 6, 2) := by decide +kernel
theorem dX11_lapseOf_127 : decode cX11_lapseOf 127 = .ok (.iaload, 1) := by decide +kernel
theorem dX11_lapseOf_128 : decode cX11_lapseOf 128 = .ok (.aload_n 0, 1) := by decide +kernel
theorem dX11_lapseOf_129 : decode cX11_lapseOf 129 = .ok (.getfield 113, 3) := by decide +kernel
theorem dX11_lapseOf_132 : decode cX11_lapseOf 132 = .ok (.iload_n 1, 1) := by decide +kernel
theorem dX11_lapseOf_133 : decode cX11_lapseOf 133 = .ok (.iaload, 1) := by decide +kernel
theorem dX11_lapseOf_134 : decode cX11_lapseOf 134 = .ok (.if_icmp .eq 6, 3) := by decide +kernel
theorem dX11_lapseOf_137 : decode cX11_lapseOf 137 = .ok (.goto 149, 3) := by decide +kernel
theorem dX11_lapseOf_140 : decode cX11_lapseOf 140 = .ok (.aload_n 0, 1) := by decide +kernel
theorem dX11_lapseOf_141 : decode cX11_lapseOf 141 = .ok (.getfield 146, 3) := by decide +kernel
theorem dX11_lapseOf_144 : decode cX11_lapseOf 144 = .ok (.iload 6, 2) := by decide +kernel
theorem dX11_lapseOf_146 : decode cX11_lapseOf 146 = .ok (.iaload, 1) := by decide +kernel
theorem dX11_lapseOf_147 : decode cX11_lapseOf 147 = .ok (.iload 4, 2) := by decide +kernel
theorem dX11_lapseOf_149 : decode cX11_lapseOf 149 = .ok (.iadd, 1) := by decide +kernel
theorem dX11_lapseOf_150 : decode cX11_lapseOf 150 = .ok (.aload_n 0, 1) := by decide +kernel
theorem dX11_lapseOf_151 : decode cX11_lapseOf 151 = .ok (.getfield 161, 3) := by decide +kernel
theorem dX11_lapseOf_154 : decode cX11_lapseOf 154 = .ok (.iload_n 1, 1) := by decide +kernel
theorem dX11_lapseOf_155 : decode cX11_lapseOf 155 = .ok (.iaload, 1) := by decide +kernel
theorem dX11_lapseOf_156 : decode cX11_lapseOf 156 = .ok (.if_icmp .le 16, 3) := by decide +kernel
theorem dX11_lapseOf_159 : decode cX11_lapseOf 159 = .ok (.aload_n 0, 1) := by decide +kernel
theorem dX11_lapseOf_160 : decode cX11_lapseOf 160 = .ok (.getfield 146, 3) := by decide +kernel
theorem dX11_lapseOf_163 : decode cX11_lapseOf 163 = .ok (.iload 6, 2) := by decide +kernel
theorem dX11_lapseOf_165 : decode cX11_lapseOf 165 = .ok (.iaload, 1) := by decide +kernel
theorem dX11_lapseOf_166 : decode cX11_lapseOf 166 = .ok (.iload 4, 2) := by decide +kernel
theorem dX11_lapseOf_168 : decode cX11_lapseOf 168 = .ok (.iadd, 1) := by decide +kernel
theorem dX11_lapseOf_169 : decode cX11_lapseOf 169 = .ok (.goto 9, 3) := by decide +kernel
theorem dX11_lapseOf_172 : decode cX11_lapseOf 172 = .ok (.aload_n 0, 1) := by decide +kernel
theorem dX11_lapseOf_173 : decode cX11_lapseOf 173 = .ok (.getfield 161, 3) := by decide +kernel
theorem dX11_lapseOf_176 : decode cX11_lapseOf 176 = .ok (.iload_n 1, 1) := by decide +kernel
theorem dX11_lapseOf_177 : decode cX11_lapseOf 177 = .ok (.iaload, 1) := by decide +kernel
theorem dX11_lapseOf_178 : decode cX11_lapseOf 178 = .ok (.istore 7, 2) := by decide +kernel
theorem dX11_lapseOf_180 : decode cX11_lapseOf 180 = .ok (.iload 7, 2) := by decide +kernel
theorem dX11_lapseOf_182 : decode cX11_lapseOf 182 = .ok (.sipush 9999, 3) := by decide +kernel
theorem dX11_lapseOf_185 : decode cX11_lapseOf 185 = .ok (.if_icmp .le 7, 3) := by decide +kernel
theorem dX11_lapseOf_188 : decode cX11_lapseOf 188 = .ok (.iconst 1, 1) := by decide +kernel
theorem dX11_lapseOf_189 : decode cX11_lapseOf 189 = .ok (.goto 4, 3) := by decide +kernel
theorem dX11_lapseOf_192 : decode cX11_lapseOf 192 = .ok (.iconst 0, 1) := by decide +kernel
theorem dX11_lapseOf_193 : decode cX11_lapseOf 193 = .ok (.istore 8, 2) := by decide +kernel
theorem dX11_lapseOf_195 : decode cX11_lapseOf 195 = .ok (.iconst 0, 1) := by decide +kernel
theorem dX11_lapseOf_196 : decode cX11_lapseOf 196 = .ok (.istore 9, 2) := by decide +kernel
theorem dX11_lapseOf_198 : decode cX11_lapseOf 198 = .ok (.iload 9, 2) := by decide +kernel
theorem dX11_lapseOf_200 : decode cX11_lapseOf 200 = .ok (.iload_n 2, 1) := by decide +kernel
theorem dX11_lapseOf_201 : decode cX11_lapseOf 201 = .ok (.if_icmp .ge 69, 3) := by decide +kernel
theorem dX11_lapseOf_204 : decode cX11_lapseOf 204 = .ok (.aload_n 0, 1) := by decide +kernel
theorem dX11_lapseOf_205 : decode cX11_lapseOf 205 = .ok (.getfield 137, 3) := by decide +kernel
theorem dX11_lapseOf_208 : decode cX11_lapseOf 208 = .ok (.iload 9, 2) := by decide +kernel
theorem dX11_lapseOf_210 : decode cX11_lapseOf 210 = .ok (.iaload, 1) := by decide +kernel
theorem dX11_lapseOf_211 : decode cX11_lapseOf 211 = .ok (.iconst 3, 1) := by decide +kernel
theorem dX11_lapseOf_212 : decode cX11_lapseOf 212 = .ok (.if_icmp .ne 52, 3) := by decide +kernel
theorem dX11_lapseOf_215 : decode cX11_lapseOf 215 = .ok (.aload_n 0, 1) := by decide +kernel
theorem dX11_lapseOf_216 : decode cX11_lapseOf 216 = .ok (.getfield 140, 3) := by decide +kernel
theorem dX11_lapseOf_219 : decode cX11_lapseOf 219 = .ok (.iload 9, 2) := by decide +kernel
theorem dX11_lapseOf_221 : decode cX11_lapseOf 221 = .ok (.iaload, 1) := by decide +kernel
theorem dX11_lapseOf_222 : decode cX11_lapseOf 222 = .ok (.aload_n 0, 1) := by decide +kernel
theorem dX11_lapseOf_223 : decode cX11_lapseOf 223 = .ok (.getfield 140, 3) := by decide +kernel
theorem dX11_lapseOf_226 : decode cX11_lapseOf 226 = .ok (.iload 6, 2) := by decide +kernel
theorem dX11_lapseOf_228 : decode cX11_lapseOf 228 = .ok (.iaload, 1) := by decide +kernel
theorem dX11_lapseOf_229 : decode cX11_lapseOf 229 = .ok (.if_icmp .ne 35, 3) := by decide +kernel
theorem dX11_lapseOf_232 : decode cX11_lapseOf 232 = .ok (.aload_n 0, 1) := by decide +kernel
theorem dX11_lapseOf_233 : decode cX11_lapseOf 233 = .ok (.getfield 146, 3) := by decide +kernel
theorem dX11_lapseOf_236 : decode cX11_lapseOf 236 = .ok (.iload 9, 2) := by decide +kernel
theorem dX11_lapseOf_238 : decode cX11_lapseOf 238 = .ok (.iaload, 1) := by decide +kernel
theorem dX11_lapseOf_239 : decode cX11_lapseOf 239 = .ok (.aload_n 0, 1) := by decide +kernel
theorem dX11_lapseOf_240 : decode cX11_lapseOf 240 = .ok (.getfield 146, 3) := by decide +kernel
theorem dX11_lapseOf_243 : decode cX11_lapseOf 243 = .ok (.iload 6, 2) := by decide +kernel
theorem dX11_lapseOf_245 : decode cX11_lapseOf 245 = .ok (.iaload, 1) := by decide +kernel
theorem dX11_lapseOf_246 : decode cX11_lapseOf 246 = .ok (.if_icmp .lt 18, 3) := by decide +kernel
theorem dX11_lapseOf_249 : decode cX11_lapseOf 249 = .ok (.aload_n 0, 1) := by decide +kernel
theorem dX11_lapseOf_250 : decode cX11_lapseOf 250 = .ok (.getfield 146, 3) := by decide +kernel
theorem dX11_lapseOf_253 : decode cX11_lapseOf 253 = .ok (.iload 9, 2) := by decide +kernel
theorem dX11_lapseOf_255 : decode cX11_lapseOf 255 = .ok (.iaload, 1) := by decide +kernel
theorem dX11_lapseOf_256 : decode cX11_lapseOf 256 = .ok (.iload 7, 2) := by decide +kernel
theorem dX11_lapseOf_258 : decode cX11_lapseOf 258 = .ok (.if_icmp .gt 6, 3) := by decide +kernel
theorem dX11_lapseOf_261 : decode cX11_lapseOf 261 = .ok (.iconst 1, 1) := by decide +kernel
theorem dX11_lapseOf_262 : decode cX11_lapseOf 262 = .ok (.istore 8, 2) := by decide +kernel
theorem dX11_lapseOf_264 : decode cX11_lapseOf 264 = .ok (.iinc 9 1, 3) := by decide +kernel
theorem dX11_lapseOf_267 : decode cX11_lapseOf 267 = .ok (.goto (-69), 3) := by decide +kernel
theorem dX11_lapseOf_270 : decode cX11_lapseOf 270 = .ok (.iload 8, 2) := by decide +kernel
theorem dX11_lapseOf_272 : decode cX11_lapseOf 272 = .ok (.ifCond .ne 14, 3) := by decide +kernel
theorem dX11_lapseOf_275 : decode cX11_lapseOf 275 = .ok (.iload 7, 2) := by decide +kernel
theorem dX11_lapseOf_277 : decode cX11_lapseOf 277 = .ok (.iload 5, 2) := by decide +kernel
theorem dX11_lapseOf_279 : decode cX11_lapseOf 279 = .ok (.if_icmp .ge 7, 3) := by decide +kernel
theorem dX11_lapseOf_282 : decode cX11_lapseOf 282 = .ok (.iload 7, 2) := by decide +kernel
theorem dX11_lapseOf_284 : decode cX11_lapseOf 284 = .ok (.istore 5, 2) := by decide +kernel
theorem dX11_lapseOf_286 : decode cX11_lapseOf 286 = .ok (.iinc 6 1, 3) := by decide +kernel
theorem dX11_lapseOf_289 : decode cX11_lapseOf 289 = .ok (.goto (-201), 3) := by decide +kernel
theorem dX11_lapseOf_292 : decode cX11_lapseOf 292 = .ok (.iload 5, 2) := by decide +kernel
theorem dX11_lapseOf_294 : decode cX11_lapseOf 294 = .ok (.ireturn, 1) := by decide +kernel
theorem dX11_vows_0 : decode cX11_vows 0 = .ok (.iconst 0, 1) := by decide +kernel
theorem dX11_vows_1 : decode cX11_vows 1 = .ok (.istore 4, 2) := by decide +kernel
theorem dX11_vows_3 : decode cX11_vows 3 = .ok (.iload 4, 2) := by decide +kernel
theorem dX11_vows_5 : decode cX11_vows 5 = .ok (.iload_n 3, 1) := by decide +kernel
theorem dX11_vows_6 : decode cX11_vows 6 = .ok (.if_icmp .ge 44, 3) := by decide +kernel
theorem dX11_vows_9 : decode cX11_vows 9 = .ok (.aload_n 0, 1) := by decide +kernel
theorem dX11_vows_10 : decode cX11_vows 10 = .ok (.getfield 137, 3) := by decide +kernel
theorem dX11_vows_13 : decode cX11_vows 13 = .ok (.iload 4, 2) := by decide +kernel
theorem dX11_vows_15 : decode cX11_vows 15 = .ok (.iaload, 1) := by decide +kernel
theorem dX11_vows_16 : decode cX11_vows 16 = .ok (.iconst 1, 1) := by decide +kernel
theorem dX11_vows_17 : decode cX11_vows 17 = .ok (.if_icmp .ne 27, 3) := by decide +kernel
theorem dX11_vows_20 : decode cX11_vows 20 = .ok (.aload_n 0, 1) := by decide +kernel
theorem dX11_vows_21 : decode cX11_vows 21 = .ok (.getfield 140, 3) := by decide +kernel
theorem dX11_vows_24 : decode cX11_vows 24 = .ok (.iload 4, 2) := by decide +kernel
theorem dX11_vows_26 : decode cX11_vows 26 = .ok (.iaload, 1) := by decide +kernel
theorem dX11_vows_27 : decode cX11_vows 27 = .ok (.iload_n 1, 1) := by decide +kernel
theorem dX11_vows_28 : decode cX11_vows 28 = .ok (.if_icmp .ne 16, 3) := by decide +kernel
theorem dX11_vows_31 : decode cX11_vows 31 = .ok (.aload_n 0, 1) := by decide +kernel
theorem dX11_vows_32 : decode cX11_vows 32 = .ok (.getfield 146, 3) := by decide +kernel
theorem dX11_vows_35 : decode cX11_vows 35 = .ok (.iload 4, 2) := by decide +kernel
theorem dX11_vows_37 : decode cX11_vows 37 = .ok (.iaload, 1) := by decide +kernel
theorem dX11_vows_38 : decode cX11_vows 38 = .ok (.iload_n 2, 1) := by decide +kernel
theorem dX11_vows_39 : decode cX11_vows 39 = .ok (.if_icmp .gt 5, 3) := by decide +kernel
theorem dX11_vows_42 : decode cX11_vows 42 = .ok (.iconst 1, 1) := by decide +kernel
theorem dX11_vows_43 : decode cX11_vows 43 = .ok (.ireturn, 1) := by decide +kernel
theorem dX11_vows_44 : decode cX11_vows 44 = .ok (.iinc 4 1, 3) := by decide +kernel
theorem dX11_vows_47 : decode cX11_vows 47 = .ok (.goto (-44), 3) := by decide +kernel
theorem dX11_vows_50 : decode cX11_vows 50 = .ok (.iconst 0, 1) := by decide +kernel
theorem dX11_vows_51 : decode cX11_vows 51 = .ok (.ireturn, 1) := by decide +kernel
theorem dX11_barOf_0 : decode cX11_barOf 0 = .ok (.aload_n 0, 1) := by decide +kernel
theorem dX11_barOf_1 : decode cX11_barOf 1 = .ok (.iload_n 1, 1) := by decide +kernel
theorem dX11_barOf_2 : decode cX11_barOf 2 = .ok (.iconst 0, 1) := by decide +kernel
theorem dX11_barOf_3 : decode cX11_barOf 3 = .ok (.iload_n 2, 1) := by decide +kernel
theorem dX11_barOf_4 : decode cX11_barOf 4 = .ok (.invokevirtual 346, 3) := by decide +kernel
theorem dX11_barOf_7 : decode cX11_barOf 7 = .ok (.aload_n 0, 1) := by decide +kernel
theorem dX11_barOf_8 : decode cX11_barOf 8 = .ok (.getfield 161, 3) := by decide +kernel
theorem dX11_barOf_11 : decode cX11_barOf 11 = .ok (.iload_n 1, 1) := by decide +kernel
theorem dX11_barOf_12 : decode cX11_barOf 12 = .ok (.iaload, 1) := by decide +kernel
theorem dX11_barOf_13 : decode cX11_barOf 13 = .ok (.if_icmp .gt 6, 3) := by decide +kernel
theorem dX11_barOf_16 : decode cX11_barOf 16 = .ok (.bipush (-2), 2) := by decide +kernel
theorem dX11_barOf_18 : decode cX11_barOf 18 = .ok (.ireturn, 1) := by decide +kernel
theorem dX11_barOf_19 : decode cX11_barOf 19 = .ok (.aload_n 0, 1) := by decide +kernel
theorem dX11_barOf_20 : decode cX11_barOf 20 = .ok (.iload_n 1, 1) := by decide +kernel
theorem dX11_barOf_21 : decode cX11_barOf 21 = .ok (.invokevirtual 336, 3) := by decide +kernel
theorem dX11_barOf_24 : decode cX11_barOf 24 = .ok (.aload_n 0, 1) := by decide +kernel
theorem dX11_barOf_25 : decode cX11_barOf 25 = .ok (.getfield 101, 3) := by decide +kernel
theorem dX11_barOf_28 : decode cX11_barOf 28 = .ok (.aload_n 0, 1) := by decide +kernel
theorem dX11_barOf_29 : decode cX11_barOf 29 = .ok (.getfield 110, 3) := by decide +kernel
theorem dX11_barOf_32 : decode cX11_barOf 32 = .ok (.iload_n 1, 1) := by decide +kernel
theorem dX11_barOf_33 : decode cX11_barOf 33 = .ok (.iaload, 1) := by decide +kernel
theorem dX11_barOf_34 : decode cX11_barOf 34 = .ok (.iaload, 1) := by decide +kernel
theorem dX11_barOf_35 : decode cX11_barOf 35 = .ok (.aload_n 0, 1) := by decide +kernel
theorem dX11_barOf_36 : decode cX11_barOf 36 = .ok (.getfield 101, 3) := by decide +kernel
theorem dX11_barOf_39 : decode cX11_barOf 39 = .ok (.aload_n 0, 1) := by decide +kernel
theorem dX11_barOf_40 : decode cX11_barOf 40 = .ok (.getfield 113, 3) := by decide +kernel
theorem dX11_barOf_43 : decode cX11_barOf 43 = .ok (.iload_n 1, 1) := by decide +kernel
theorem dX11_barOf_44 : decode cX11_barOf 44 = .ok (.iaload, 1) := by decide +kernel
theorem dX11_barOf_45 : decode cX11_barOf 45 = .ok (.iaload, 1) := by decide +kernel
theorem dX11_barOf_46 : decode cX11_barOf 46 = .ok (.if_icmp .le 17, 3) := by decide +kernel
theorem dX11_barOf_49 : decode cX11_barOf 49 = .ok (.aload_n 0, 1) := by decide +kernel
theorem dX11_barOf_50 : decode cX11_barOf 50 = .ok (.getfield 101, 3) := by decide +kernel
theorem dX11_barOf_53 : decode cX11_barOf 53 = .ok (.aload_n 0, 1) := by decide +kernel
theorem dX11_barOf_54 : decode cX11_barOf 54 = .ok (.getfield 110, 3) := by decide +kernel
theorem dX11_barOf_57 : decode cX11_barOf 57 = .ok (.iload_n 1, 1) := by decide +kernel
theorem dX11_barOf_58 : decode cX11_barOf 58 = .ok (.iaload, 1) := by decide +kernel
theorem dX11_barOf_59 : decode cX11_barOf 59 = .ok (.iaload, 1) := by decide +kernel
theorem dX11_barOf_60 : decode cX11_barOf 60 = .ok (.goto 14, 3) := by decide +kernel
theorem dX11_barOf_63 : decode cX11_barOf 63 = .ok (.aload_n 0, 1) := by decide +kernel
theorem dX11_barOf_64 : decode cX11_barOf 64 = .ok (.getfield 101, 3) := by decide +kernel
theorem dX11_barOf_67 : decode cX11_barOf 67 = .ok (.aload_n 0, 1) := by decide +kernel
theorem dX11_barOf_68 : decode cX11_barOf 68 = .ok (.getfield 113, 3) := by decide +kernel
theorem dX11_barOf_71 : decode cX11_barOf 71 = .ok (.iload_n 1, 1) := by decide +kernel
theorem dX11_barOf_72 : decode cX11_barOf 72 = .ok (.iaload, 1) := by decide +kernel
theorem dX11_barOf_73 : decode cX11_barOf 73 = .ok (.iaload, 1) := by decide +kernel
theorem dX11_barOf_74 : decode cX11_barOf 74 = .ok (.istore_n 3, 1) := by decide +kernel
theorem dX11_barOf_75 : decode cX11_barOf 75 = .ok (.aload_n 0, 1) := by decide +kernel
theorem dX11_barOf_76 : decode cX11_barOf 76 = .ok (.getfield 149, 3) := by decide +kernel
theorem dX11_barOf_79 : decode cX11_barOf 79 = .ok (.iconst 5, 1) := by decide +kernel
theorem dX11_barOf_80 : decode cX11_barOf 80 = .ok (.aload_n 0, 1) := by decide +kernel
theorem dX11_barOf_81 : decode cX11_barOf 81 = .ok (.getfield 161, 3) := by decide +kernel
theorem dX11_barOf_84 : decode cX11_barOf 84 = .ok (.iload_n 1, 1) := by decide +kernel
theorem dX11_barOf_85 : decode cX11_barOf 85 = .ok (.iaload, 1) := by decide +kernel
theorem dX11_barOf_86 : decode cX11_barOf 86 = .ok (.iload_n 3, 1) := by decide +kernel
theorem dX11_barOf_87 : decode cX11_barOf 87 = .ok (.if_icmp .ge 7, 3) := by decide +kernel
theorem dX11_barOf_90 : decode cX11_barOf 90 = .ok (.iconst 0, 1) := by decide +kernel
theorem dX11_barOf_91 : decode cX11_barOf 91 = .ok (.goto 15, 3) := by decide +kernel
theorem dX11_barOf_94 : decode cX11_barOf 94 = .ok (.aload_n 0, 1) := by decide +kernel
theorem dX11_barOf_95 : decode cX11_barOf 95 = .ok (.getfield 161, 3) := by decide +kernel
theorem dX11_barOf_98 : decode cX11_barOf 98 = .ok (.iload_n 1, 1) := by decide +kernel
theorem dX11_barOf_99 : decode cX11_barOf 99 = .ok (.iaload, 1) := by decide +kernel
theorem dX11_barOf_100 : decode cX11_barOf 100 = .ok (.iload_n 3, 1) := by decide +kernel
theorem dX11_barOf_101 : decode cX11_barOf 101 = .ok (.isub, 1) := by decide +kernel
theorem dX11_barOf_102 : decode cX11_barOf 102 = .ok (.sipush 365, 3) := by decide +kernel
theorem dX11_barOf_105 : decode cX11_barOf 105 = .ok (.idiv, 1) := by decide +kernel
theorem dX11_barOf_106 : decode cX11_barOf 106 = .ok (.iastore, 1) := by decide +kernel
theorem dX11_barOf_107 : decode cX11_barOf 107 = .ok (.aload_n 0, 1) := by decide +kernel
theorem dX11_barOf_108 : decode cX11_barOf 108 = .ok (.getfield 149, 3) := by decide +kernel
theorem dX11_barOf_111 : decode cX11_barOf 111 = .ok (.bipush 6, 2) := by decide +kernel
theorem dX11_barOf_113 : decode cX11_barOf 113 = .ok (.aload_n 0, 1) := by decide +kernel
theorem dX11_barOf_114 : decode cX11_barOf 114 = .ok (.aload_n 0, 1) := by decide +kernel
theorem dX11_barOf_115 : decode cX11_barOf 115 = .ok (.getfield 110, 3) := by decide +kernel
theorem dX11_barOf_118 : decode cX11_barOf 118 = .ok (.iload_n 1, 1) := by decide +kernel
theorem dX11_barOf_119 : decode cX11_barOf 119 = .ok (.iaload, 1) := by decide +kernel
theorem dX11_barOf_120 : decode cX11_barOf 120 = .ok (.aload_n 0, 1) := by decide +kernel
theorem dX11_barOf_121 : decode cX11_barOf 121 = .ok (.getfield 113, 3) := by decide +kernel
theorem dX11_barOf_124 : decode cX11_barOf 124 = .ok (.iload_n 1, 1) := by decide +kernel
theorem dX11_barOf_125 : decode cX11_barOf 125 = .ok (.iaload, 1) := by decide +kernel
theorem dX11_barOf_126 : decode cX11_barOf 126 = .ok (.invokevirtual 306, 3) := by decide +kernel
theorem dX11_barOf_129 : decode cX11_barOf 129 = .ok (.iastore, 1) := by decide +kernel
theorem dX11_barOf_130 : decode cX11_barOf 130 = .ok (.aload_n 0, 1) := by decide +kernel
theorem dX11_barOf_131 : decode cX11_barOf 131 = .ok (.getfield 149, 3) := by decide +kernel
theorem dX11_barOf_134 : decode cX11_barOf 134 = .ok (.bipush 7, 2) := by decide +kernel
theorem dX11_barOf_136 : decode cX11_barOf 136 = .ok (.aload_n 0, 1) := by decide +kernel
theorem dX11_barOf_137 : decode cX11_barOf 137 = .ok (.aload_n 0, 1) := by decide +kernel
theorem dX11_barOf_138 : decode cX11_barOf 138 = .ok (.getfield 110, 3) := by decide +kernel
theorem dX11_barOf_141 : decode cX11_barOf 141 = .ok (.iload_n 1, 1) := by decide +kernel
theorem dX11_barOf_142 : decode cX11_barOf 142 = .ok (.iaload, 1) := by decide +kernel
theorem dX11_barOf_143 : decode cX11_barOf 143 = .ok (.aload_n 0, 1) := by decide +kernel
theorem dX11_barOf_144 : decode cX11_barOf 144 = .ok (.getfield 161, 3) := by decide +kernel
theorem dX11_barOf_147 : decode cX11_barOf 147 = .ok (.iload_n 1, 1) := by decide +kernel
theorem dX11_barOf_148 : decode cX11_barOf 148 = .ok (.iaload, 1) := by decide +kernel
theorem dX11_barOf_149 : decode cX11_barOf 149 = .ok (.iload_n 2, 1) := by decide +kernel
theorem dX11_barOf_150 : decode cX11_barOf 150 = .ok (.invokevirtual 349, 3) := by decide +kernel
theorem dX11_barOf_153 : decode cX11_barOf 153 = .ok (.aload_n 0, 1) := by decide +kernel
theorem dX11_barOf_154 : decode cX11_barOf 154 = .ok (.aload_n 0, 1) := by decide +kernel
theorem dX11_barOf_155 : decode cX11_barOf 155 = .ok (.getfield 113, 3) := by decide +kernel
theorem dX11_barOf_158 : decode cX11_barOf 158 = .ok (.iload_n 1, 1) := by decide +kernel
theorem dX11_barOf_159 : decode cX11_barOf 159 = .ok (.iaload, 1) := by decide +kernel
theorem dX11_barOf_160 : decode cX11_barOf 160 = .ok (.aload_n 0, 1) := by decide +kernel
theorem dX11_barOf_161 : decode cX11_barOf 161 = .ok (.getfield 161, 3) := by decide +kernel
theorem dX11_barOf_164 : decode cX11_barOf 164 = .ok (.iload_n 1, 1) := by decide +kernel
theorem dX11_barOf_165 : decode cX11_barOf 165 = .ok (.iaload, 1) := by decide +kernel
theorem dX11_barOf_166 : decode cX11_barOf 166 = .ok (.iload_n 2, 1) := by decide +kernel
theorem dX11_barOf_167 : decode cX11_barOf 167 = .ok (.invokevirtual 349, 3) := by decide +kernel
theorem dX11_barOf_170 : decode cX11_barOf 170 = .ok (.iadd, 1) := by decide +kernel
theorem dX11_barOf_171 : decode cX11_barOf 171 = .ok (.iastore, 1) := by decide +kernel
theorem dX11_barOf_172 : decode cX11_barOf 172 = .ok (.iconst 0, 1) := by decide +kernel
theorem dX11_barOf_173 : decode cX11_barOf 173 = .ok (.istore 4, 2) := by decide +kernel
theorem dX11_barOf_175 : decode cX11_barOf 175 = .ok (.iload 4, 2) := by decide +kernel
theorem dX11_barOf_177 : decode cX11_barOf 177 = .ok (.iload_n 2, 1) := by decide +kernel
theorem dX11_barOf_178 : decode cX11_barOf 178 = .ok (.if_icmp .ge 109, 3) := by decide +kernel
theorem dX11_barOf_181 : decode cX11_barOf 181 = .ok (.aload_n 0, 1) := by decide +kernel
theorem dX11_barOf_182 : decode cX11_barOf 182 = .ok (.getfield 137, 3) := by decide +kernel
theorem dX11_barOf_185 : decode cX11_barOf 185 = .ok (.iload 4, 2) := by decide +kernel
theorem dX11_barOf_187 : decode cX11_barOf 187 = .ok (.iaload, 1) := by decide +kernel
theorem dX11_barOf_188 : decode cX11_barOf 188 = .ok (.bipush 9, 2) := by decide +kernel
theorem dX11_barOf_190 : decode cX11_barOf 190 = .ok (.if_icmp .ne 91, 3) := by decide +kernel
theorem dX11_barOf_193 : decode cX11_barOf 193 = .ok (.aload_n 0, 1) := by decide +kernel
theorem dX11_barOf_194 : decode cX11_barOf 194 = .ok (.getfield 146, 3) := by decide +kernel
theorem dX11_barOf_197 : decode cX11_barOf 197 = .ok (.iload 4, 2) := by decide +kernel
theorem dX11_barOf_199 : decode cX11_barOf 199 = .ok (.iaload, 1) := by decide +kernel
theorem dX11_barOf_200 : decode cX11_barOf 200 = .ok (.aload_n 0, 1) := by decide +kernel
theorem dX11_barOf_201 : decode cX11_barOf 201 = .ok (.getfield 161, 3) := by decide +kernel
theorem dX11_barOf_204 : decode cX11_barOf 204 = .ok (.iload_n 1, 1) := by decide +kernel
theorem dX11_barOf_205 : decode cX11_barOf 205 = .ok (.iaload, 1) := by decide +kernel
theorem dX11_barOf_206 : decode cX11_barOf 206 = .ok (.if_icmp .gt 75, 3) := by decide +kernel
theorem dX11_barOf_209 : decode cX11_barOf 209 = .ok (.aload_n 0, 1) := by decide +kernel
theorem dX11_barOf_210 : decode cX11_barOf 210 = .ok (.getfield 140, 3) := by decide +kernel
theorem dX11_barOf_213 : decode cX11_barOf 213 = .ok (.iload 4, 2) := by decide +kernel
theorem dX11_barOf_215 : decode cX11_barOf 215 = .ok (.iaload, 1) := by decide +kernel
theorem dX11_barOf_216 : decode cX11_barOf 216 = .ok (.aload_n 0, 1) := by decide +kernel
theorem dX11_barOf_217 : decode cX11_barOf 217 = .ok (.getfield 110, 3) := by decide +kernel
theorem dX11_barOf_220 : decode cX11_barOf 220 = .ok (.iload_n 1, 1) := by decide +kernel
theorem dX11_barOf_221 : decode cX11_barOf 221 = .ok (.iaload, 1) := by decide +kernel
theorem dX11_barOf_222 : decode cX11_barOf 222 = .ok (.if_icmp .ne 19, 3) := by decide +kernel
theorem dX11_barOf_225 : decode cX11_barOf 225 = .ok (.aload_n 0, 1) := by decide +kernel
theorem dX11_barOf_226 : decode cX11_barOf 226 = .ok (.getfield 143, 3) := by decide +kernel
theorem dX11_barOf_229 : decode cX11_barOf 229 = .ok (.iload 4, 2) := by decide +kernel
theorem dX11_barOf_231 : decode cX11_barOf 231 = .ok (.iaload, 1) := by decide +kernel
theorem dX11_barOf_232 : decode cX11_barOf 232 = .ok (.aload_n 0, 1) := by decide +kernel
theorem dX11_barOf_233 : decode cX11_barOf 233 = .ok (.getfield 113, 3) := by decide +kernel
theorem dX11_barOf_236 : decode cX11_barOf 236 = .ok (.iload_n 1, 1) := by decide +kernel
theorem dX11_barOf_237 : decode cX11_barOf 237 = .ok (.iaload, 1) := by decide +kernel
theorem dX11_barOf_238 : decode cX11_barOf 238 = .ok (.if_icmp .eq 35, 3) := by decide +kernel
theorem dX11_barOf_241 : decode cX11_barOf 241 = .ok (.aload_n 0, 1) := by decide +kernel
theorem dX11_barOf_242 : decode cX11_barOf 242 = .ok (.getfield 140, 3) := by decide +kernel
theorem dX11_barOf_245 : decode cX11_barOf 245 = .ok (.iload 4, 2) := by decide +kernel
theorem dX11_barOf_247 : decode cX11_barOf 247 = .ok (.iaload, 1) := by decide +kernel
theorem dX11_barOf_248 : decode cX11_barOf 248 = .ok (.aload_n 0, 1) := by decide +kernel
theorem dX11_barOf_249 : decode cX11_barOf 249 = .ok (.getfield 113, 3) := by decide +kernel
theorem dX11_barOf_252 : decode cX11_barOf 252 = .ok (.iload_n 1, 1) := by decide +kernel
theorem dX11_barOf_253 : decode cX11_barOf 253 = .ok (.iaload, 1) := by decide +kernel
theorem dX11_barOf_254 : decode cX11_barOf 254 = .ok (.if_icmp .ne 27, 3) := by decide +kernel
theorem dX11_barOf_257 : decode cX11_barOf 257 = .ok (.aload_n 0, 1) := by decide +kernel
theorem dX11_barOf_258 : decode cX11_barOf 258 = .ok (.getfield 143, 3) := by decide +kernel
theorem dX11_barOf_261 : decode cX11_barOf 261 = .ok (.iload 4, 2) := by decide +kernel
theorem dX11_barOf_263 : decode cX11_barOf 263 = .ok (.iaload, 1) := by decide +kernel
theorem dX11_barOf_264 : decode cX11_barOf 264 = .ok (.aload_n 0, 1) := by decide +kernel
theorem dX11_barOf_265 : decode cX11_barOf 265 = .ok (.getfield 110, 3) := by decide +kernel
theorem dX11_barOf_268 : decode cX11_barOf 268 = .ok (.iload_n 1, 1) := by decide +kernel
theorem dX11_barOf_269 : decode cX11_barOf 269 = .ok (.iaload, 1) := by decide +kernel
theorem dX11_barOf_270 : decode cX11_barOf 270 = .ok (.if_icmp .ne 11, 3) := by decide +kernel
theorem dX11_barOf_273 : decode cX11_barOf 273 = .ok (.aload_n 0, 1) := by decide +kernel
theorem dX11_barOf_274 : decode cX11_barOf 274 = .ok (.getfield 149, 3) := by decide +kernel
theorem dX11_barOf_277 : decode cX11_barOf 277 = .ok (.bipush 8, 2) := by decide +kernel
theorem dX11_barOf_279 : decode cX11_barOf 279 = .ok (.iconst 1, 1) := by decide +kernel
theorem dX11_barOf_280 : decode cX11_barOf 280 = .ok (.iastore, 1) := by decide +kernel
theorem dX11_barOf_281 : decode cX11_barOf 281 = .ok (.iinc 4 1, 3) := by decide +kernel
theorem dX11_barOf_284 : decode cX11_barOf 284 = .ok (.goto (-109), 3) := by decide +kernel
theorem dX11_barOf_287 : decode cX11_barOf 287 = .ok (.aload_n 0, 1) := by decide +kernel
theorem dX11_barOf_288 : decode cX11_barOf 288 = .ok (.iload_n 1, 1) := by decide +kernel
theorem dX11_barOf_289 : decode cX11_barOf 289 = .ok (.iconst 1, 1) := by decide +kernel
theorem dX11_barOf_290 : decode cX11_barOf 290 = .ok (.invokevirtual 342, 3) := by decide +kernel
theorem dX11_barOf_293 : decode cX11_barOf 293 = .ok (.ireturn, 1) := by decide +kernel
theorem dX11_isIn_0 : decode cX11_isIn 0 = .ok (.aload_n 0, 1) := by decide +kernel
theorem dX11_isIn_1 : decode cX11_isIn 1 = .ok (.getfield 110, 3) := by decide +kernel
theorem dX11_isIn_4 : decode cX11_isIn 4 = .ok (.iload_n 2, 1) := by decide +kernel
theorem dX11_isIn_5 : decode cX11_isIn 5 = .ok (.iaload, 1) := by decide +kernel
theorem dX11_isIn_6 : decode cX11_isIn 6 = .ok (.iload_n 1, 1) := by decide +kernel
theorem dX11_isIn_7 : decode cX11_isIn 7 = .ok (.if_icmp .eq 13, 3) := by decide +kernel
theorem dX11_isIn_10 : decode cX11_isIn 10 = .ok (.aload_n 0, 1) := by decide +kernel
theorem dX11_isIn_11 : decode cX11_isIn 11 = .ok (.getfield 113, 3) := by decide +kernel
theorem dX11_isIn_14 : decode cX11_isIn 14 = .ok (.iload_n 2, 1) := by decide +kernel
theorem dX11_isIn_15 : decode cX11_isIn 15 = .ok (.iaload, 1) := by decide +kernel
theorem dX11_isIn_16 : decode cX11_isIn 16 = .ok (.iload_n 1, 1) := by decide +kernel
theorem dX11_isIn_17 : decode cX11_isIn 17 = .ok (.if_icmp .ne 7, 3) := by decide +kernel
theorem dX11_isIn_20 : decode cX11_isIn 20 = .ok (.iconst 1, 1) := by decide +kernel
theorem dX11_isIn_21 : decode cX11_isIn 21 = .ok (.goto 4, 3) := by decide +kernel
theorem dX11_isIn_24 : decode cX11_isIn 24 = .ok (.iconst 0, 1) := by decide +kernel
theorem dX11_isIn_25 : decode cX11_isIn 25 = .ok (.ireturn, 1) := by decide +kernel
theorem dX11_isRival_0 : decode cX11_isRival 0 = .ok (.iload_n 1, 1) := by decide +kernel
theorem dX11_isRival_1 : decode cX11_isRival 1 = .ok (.iload_n 2, 1) := by decide +kernel
theorem dX11_isRival_2 : decode cX11_isRival 2 = .ok (.if_icmp .eq 74, 3) := by decide +kernel
theorem dX11_isRival_5 : decode cX11_isRival 5 = .ok (.aload_n 0, 1) := by decide +kernel
theorem dX11_isRival_6 : decode cX11_isRival 6 = .ok (.getfield 188, 3) := by decide +kernel
theorem dX11_isRival_9 : decode cX11_isRival 9 = .ok (.iload_n 1, 1) := by decide +kernel
theorem dX11_isRival_10 : decode cX11_isRival 10 = .ok (.baload, 1) := by decide +kernel
theorem dX11_isRival_11 : decode cX11_isRival 11 = .ok (.ifCond .eq 65, 3) := by decide +kernel
theorem dX11_isRival_14 : decode cX11_isRival 14 = .ok (.aload_n 0, 1) := by decide +kernel
theorem dX11_isRival_15 : decode cX11_isRival 15 = .ok (.getfield 161, 3) := by decide +kernel
theorem dX11_isRival_18 : decode cX11_isRival 18 = .ok (.iload_n 1, 1) := by decide +kernel
theorem dX11_isRival_19 : decode cX11_isRival 19 = .ok (.iaload, 1) := by decide +kernel
theorem dX11_isRival_20 : decode cX11_isRival 20 = .ok (.aload_n 0, 1) := by decide +kernel
theorem dX11_isRival_21 : decode cX11_isRival 21 = .ok (.getfield 161, 3) := by decide +kernel
theorem dX11_isRival_24 : decode cX11_isRival 24 = .ok (.iload_n 2, 1) := by decide +kernel
theorem dX11_isRival_25 : decode cX11_isRival 25 = .ok (.iaload, 1) := by decide +kernel
theorem dX11_isRival_26 : decode cX11_isRival 26 = .ok (.if_icmp .gt 50, 3) := by decide +kernel
theorem dX11_isRival_29 : decode cX11_isRival 29 = .ok (.aload_n 0, 1) := by decide +kernel
theorem dX11_isRival_30 : decode cX11_isRival 30 = .ok (.getfield 176, 3) := by decide +kernel
theorem dX11_isRival_33 : decode cX11_isRival 33 = .ok (.iload_n 1, 1) := by decide +kernel
theorem dX11_isRival_34 : decode cX11_isRival 34 = .ok (.iaload, 1) := by decide +kernel
theorem dX11_isRival_35 : decode cX11_isRival 35 = .ok (.aload_n 0, 1) := by decide +kernel
theorem dX11_isRival_36 : decode cX11_isRival 36 = .ok (.getfield 161, 3) := by decide +kernel
theorem dX11_isRival_39 : decode cX11_isRival 39 = .ok (.iload_n 2, 1) := by decide +kernel
theorem dX11_isRival_40 : decode cX11_isRival 40 = .ok (.iaload, 1) := by decide +kernel
theorem dX11_isRival_41 : decode cX11_isRival 41 = .ok (.if_icmp .le 35, 3) := by decide +kernel
theorem dX11_isRival_44 : decode cX11_isRival 44 = .ok (.aload_n 0, 1) := by decide +kernel
theorem dX11_isRival_45 : decode cX11_isRival 45 = .ok (.aload_n 0, 1) := by decide +kernel
theorem dX11_isRival_46 : decode cX11_isRival 46 = .ok (.getfield 110, 3) := by decide +kernel
theorem dX11_isRival_49 : decode cX11_isRival 49 = .ok (.iload_n 2, 1) := by decide +kernel
theorem dX11_isRival_50 : decode cX11_isRival 50 = .ok (.iaload, 1) := by decide +kernel
theorem dX11_isRival_51 : decode cX11_isRival 51 = .ok (.iload_n 1, 1) := by decide +kernel
theorem dX11_isRival_52 : decode cX11_isRival 52 = .ok (.invokevirtual 352, 3) := by decide +kernel
theorem dX11_isRival_55 : decode cX11_isRival 55 = .ok (.ifCond .ne 17, 3) := by decide +kernel
theorem dX11_isRival_58 : decode cX11_isRival 58 = .ok (.aload_n 0, 1) := by decide +kernel
theorem dX11_isRival_59 : decode cX11_isRival 59 = .ok (.aload_n 0, 1) := by decide +kernel
theorem dX11_isRival_60 : decode cX11_isRival 60 = .ok (.getfield 113, 3) := by decide +kernel
theorem dX11_isRival_63 : decode cX11_isRival 63 = .ok (.iload_n 2, 1) := by decide +kernel
theorem dX11_isRival_64 : decode cX11_isRival 64 = .ok (.iaload, 1) := by decide +kernel
theorem dX11_isRival_65 : decode cX11_isRival 65 = .ok (.iload_n 1, 1) := by decide +kernel
theorem dX11_isRival_66 : decode cX11_isRival 66 = .ok (.invokevirtual 352, 3) := by decide +kernel
theorem dX11_isRival_69 : decode cX11_isRival 69 = .ok (.ifCond .eq 7, 3) := by decide +kernel
theorem dX11_isRival_72 : decode cX11_isRival 72 = .ok (.iconst 1, 1) := by decide +kernel
theorem dX11_isRival_73 : decode cX11_isRival 73 = .ok (.goto 4, 3) := by decide +kernel
theorem dX11_isRival_76 : decode cX11_isRival 76 = .ok (.iconst 0, 1) := by decide +kernel
theorem dX11_isRival_77 : decode cX11_isRival 77 = .ok (.ireturn, 1) := by decide +kernel
theorem dX11_judges_0 : decode cX11_judges 0 = .ok (.aload_n 0, 1) := by decide +kernel
theorem dX11_judges_1 : decode cX11_judges 1 = .ok (.getfield 167, 3) := by decide +kernel
theorem dX11_judges_4 : decode cX11_judges 4 = .ok (.iload_n 1, 1) := by decide +kernel
theorem dX11_judges_5 : decode cX11_judges 5 = .ok (.iconst 1, 1) := by decide +kernel
theorem dX11_judges_6 : decode cX11_judges 6 = .ok (.bastore, 1) := by decide +kernel
theorem dX11_judges_7 : decode cX11_judges 7 = .ok (.aload_n 0, 1) := by decide +kernel
theorem dX11_judges_8 : decode cX11_judges 8 = .ok (.getfield 170, 3) := by decide +kernel
theorem dX11_judges_11 : decode cX11_judges 11 = .ok (.iload_n 1, 1) := by decide +kernel
theorem dX11_judges_12 : decode cX11_judges 12 = .ok (.aload_n 0, 1) := by decide +kernel
theorem dX11_judges_13 : decode cX11_judges 13 = .ok (.iload_n 1, 1) := by decide +kernel
theorem dX11_judges_14 : decode cX11_judges 14 = .ok (.iload_n 2, 1) := by decide +kernel
theorem dX11_judges_15 : decode cX11_judges 15 = .ok (.invokevirtual 355, 3) := by decide +kernel
theorem dX11_judges_18 : decode cX11_judges 18 = .ok (.iastore, 1) := by decide +kernel
theorem dX11_judges_19 : decode cX11_judges 19 = .ok (.aload_n 0, 1) := by decide +kernel
theorem dX11_judges_20 : decode cX11_judges 20 = .ok (.getfield 170, 3) := by decide +kernel
theorem dX11_judges_23 : decode cX11_judges 23 = .ok (.iload_n 1, 1) := by decide +kernel
theorem dX11_judges_24 : decode cX11_judges 24 = .ok (.iaload, 1) := by decide +kernel
theorem dX11_judges_25 : decode cX11_judges 25 = .ok (.iconst (-1), 1) := by decide +kernel
theorem dX11_judges_26 : decode cX11_judges 26 = .ok (.if_icmp .eq 4, 3) := by decide +kernel
theorem dX11_judges_29 : decode cX11_judges 29 = .ok (.return_, 1) := by decide +kernel
theorem dX11_judges_30 : decode cX11_judges 30 = .ok (.iconst 0, 1) := by decide +kernel
theorem dX11_judges_31 : decode cX11_judges 31 = .ok (.istore_n 3, 1) := by decide +kernel
theorem dX11_judges_32 : decode cX11_judges 32 = .ok (.iload_n 3, 1) := by decide +kernel
theorem dX11_judges_33 : decode cX11_judges 33 = .ok (.aload_n 0, 1) := by decide +kernel
theorem dX11_judges_34 : decode cX11_judges 34 = .ok (.getfield 310, 3) := by decide +kernel
theorem dX11_judges_37 : decode cX11_judges 37 = .ok (.if_icmp .ge 108, 3) := by decide +kernel
theorem dX11_judges_40 : decode cX11_judges 40 = .ok (.aload_n 0, 1) := by decide +kernel
theorem dX11_judges_41 : decode cX11_judges 41 = .ok (.iload_n 3, 1) := by decide +kernel
theorem dX11_judges_42 : decode cX11_judges 42 = .ok (.iload_n 1, 1) := by decide +kernel
theorem dX11_judges_43 : decode cX11_judges 43 = .ok (.invokevirtual 358, 3) := by decide +kernel
theorem dX11_judges_46 : decode cX11_judges 46 = .ok (.ifCond .eq 93, 3) := by decide +kernel
theorem dX11_judges_49 : decode cX11_judges 49 = .ok (.aload_n 0, 1) := by decide +kernel
theorem dX11_judges_50 : decode cX11_judges 50 = .ok (.aload_n 0, 1) := by decide +kernel
theorem dX11_judges_51 : decode cX11_judges 51 = .ok (.getfield 110, 3) := by decide +kernel
theorem dX11_judges_54 : decode cX11_judges 54 = .ok (.iload_n 1, 1) := by decide +kernel
theorem dX11_judges_55 : decode cX11_judges 55 = .ok (.iaload, 1) := by decide +kernel
theorem dX11_judges_56 : decode cX11_judges 56 = .ok (.iload_n 3, 1) := by decide +kernel
theorem dX11_judges_57 : decode cX11_judges 57 = .ok (.invokevirtual 352, 3) := by decide +kernel
theorem dX11_judges_60 : decode cX11_judges 60 = .ok (.ifCond .eq 20, 3) := by decide +kernel
theorem dX11_judges_63 : decode cX11_judges 63 = .ok (.aload_n 0, 1) := by decide +kernel
theorem dX11_judges_64 : decode cX11_judges 64 = .ok (.aload_n 0, 1) := by decide +kernel
theorem dX11_judges_65 : decode cX11_judges 65 = .ok (.getfield 113, 3) := by decide +kernel
theorem dX11_judges_68 : decode cX11_judges 68 = .ok (.iload_n 1, 1) := by decide +kernel
theorem dX11_judges_69 : decode cX11_judges 69 = .ok (.iaload, 1) := by decide +kernel
theorem dX11_judges_70 : decode cX11_judges 70 = .ok (.iload_n 3, 1) := by decide +kernel
theorem dX11_judges_71 : decode cX11_judges 71 = .ok (.invokevirtual 352, 3) := by decide +kernel
theorem dX11_judges_74 : decode cX11_judges 74 = .ok (.ifCond .eq 6, 3) := by decide +kernel
theorem dX11_judges_77 : decode cX11_judges 77 = .ok (.goto 62, 3) := by decide +kernel
theorem dX11_judges_80 : decode cX11_judges 80 = .ok (.aload_n 0, 1) := by decide +kernel
theorem dX11_judges_81 : decode cX11_judges 81 = .ok (.iload_n 1, 1) := by decide +kernel
theorem dX11_judges_82 : decode cX11_judges 82 = .ok (.invokevirtual 336, 3) := by decide +kernel
theorem dX11_judges_85 : decode cX11_judges 85 = .ok (.aload_n 0, 1) := by decide +kernel
theorem dX11_judges_86 : decode cX11_judges 86 = .ok (.getfield 149, 3) := by decide +kernel
theorem dX11_judges_89 : decode cX11_judges 89 = .ok (.bipush 9, 2) := by decide +kernel
theorem dX11_judges_91 : decode cX11_judges 91 = .ok (.aload_n 0, 1) := by decide +kernel
theorem dX11_judges_92 : decode cX11_judges 92 = .ok (.getfield 122, 3) := by decide +kernel
theorem dX11_judges_95 : decode cX11_judges 95 = .ok (.iload_n 3, 1) := by decide +kernel
theorem dX11_judges_96 : decode cX11_judges 96 = .ok (.iaload, 1) := by decide +kernel
theorem dX11_judges_97 : decode cX11_judges 97 = .ok (.iastore, 1) := by decide +kernel
theorem dX11_judges_98 : decode cX11_judges 98 = .ok (.aload_n 0, 1) := by decide +kernel
theorem dX11_judges_99 : decode cX11_judges 99 = .ok (.getfield 149, 3) := by decide +kernel
theorem dX11_judges_102 : decode cX11_judges 102 = .ok (.bipush 11, 2) := by decide +kernel
theorem dX11_judges_104 : decode cX11_judges 104 = .ok (.aload_n 0, 1) := by decide +kernel
theorem dX11_judges_105 : decode cX11_judges 105 = .ok (.getfield 161, 3) := by decide +kernel
theorem dX11_judges_108 : decode cX11_judges 108 = .ok (.iload_n 1, 1) := by decide +kernel
theorem dX11_judges_109 : decode cX11_judges 109 = .ok (.iaload, 1) := by decide +kernel
theorem dX11_judges_110 : decode cX11_judges 110 = .ok (.aload_n 0, 1) := by decide +kernel
theorem dX11_judges_111 : decode cX11_judges 111 = .ok (.getfield 161, 3) := by decide +kernel
theorem dX11_judges_114 : decode cX11_judges 114 = .ok (.iload_n 3, 1) := by decide +kernel
theorem dX11_judges_115 : decode cX11_judges 115 = .ok (.iaload, 1) := by decide +kernel
theorem dX11_judges_116 : decode cX11_judges 116 = .ok (.isub, 1) := by decide +kernel
theorem dX11_judges_117 : decode cX11_judges 117 = .ok (.iastore, 1) := by decide +kernel
theorem dX11_judges_118 : decode cX11_judges 118 = .ok (.aload_n 0, 1) := by decide +kernel
theorem dX11_judges_119 : decode cX11_judges 119 = .ok (.iload_n 1, 1) := by decide +kernel
theorem dX11_judges_120 : decode cX11_judges 120 = .ok (.iconst 2, 1) := by decide +kernel
theorem dX11_judges_121 : decode cX11_judges 121 = .ok (.invokevirtual 342, 3) := by decide +kernel
theorem dX11_judges_124 : decode cX11_judges 124 = .ok (.iconst (-1), 1) := by decide +kernel
theorem dX11_judges_125 : decode cX11_judges 125 = .ok (.if_icmp .eq 6, 3) := by decide +kernel
theorem dX11_judges_128 : decode cX11_judges 128 = .ok (.goto 11, 3) := by decide +kernel
theorem dX11_judges_131 : decode cX11_judges 131 = .ok (.aload_n 0, 1) := by decide +kernel
theorem dX11_judges_132 : decode cX11_judges 132 = .ok (.getfield 173, 3) := by decide +kernel
theorem dX11_judges_135 : decode cX11_judges 135 = .ok (.iload_n 1, 1) := by decide +kernel
theorem dX11_judges_136 : decode cX11_judges 136 = .ok (.iload_n 3, 1) := by decide +kernel
theorem dX11_judges_137 : decode cX11_judges 137 = .ok (.iastore, 1) := by decide +kernel
theorem dX11_judges_138 : decode cX11_judges 138 = .ok (.return_, 1) := by decide +kernel
theorem dX11_judges_139 : decode cX11_judges 139 = .ok (.iinc 3 1, 3) := by decide +kernel
theorem dX11_judges_142 : decode cX11_judges 142 = .ok (.goto (-110), 3) := by decide +kernel
theorem dX11_judges_145 : decode cX11_judges 145 = .ok (.iconst 0, 1) := by decide +kernel
theorem dX11_judges_146 : decode cX11_judges 146 = .ok (.istore_n 3, 1) := by decide +kernel
theorem dX11_judges_147 : decode cX11_judges 147 = .ok (.iload_n 3, 1) := by decide +kernel
theorem dX11_judges_148 : decode cX11_judges 148 = .ok (.aload_n 0, 1) := by decide +kernel
theorem dX11_judges_149 : decode cX11_judges 149 = .ok (.getfield 310, 3) := by decide +kernel
theorem dX11_judges_152 : decode cX11_judges 152 = .ok (.if_icmp .ge 104, 3) := by decide +kernel
theorem dX11_judges_155 : decode cX11_judges 155 = .ok (.aload_n 0, 1) := by decide +kernel
theorem dX11_judges_156 : decode cX11_judges 156 = .ok (.iload_n 3, 1) := by decide +kernel
theorem dX11_judges_157 : decode cX11_judges 157 = .ok (.iload_n 1, 1) := by decide +kernel
theorem dX11_judges_158 : decode cX11_judges 158 = .ok (.invokevirtual 358, 3) := by decide +kernel
theorem dX11_judges_161 : decode cX11_judges 161 = .ok (.ifCond .ne 6, 3) := by decide +kernel
theorem dX11_judges_164 : decode cX11_judges 164 = .ok (.goto 86, 3) := by decide +kernel
theorem dX11_judges_167 : decode cX11_judges 167 = .ok (.aload_n 0, 1) := by decide +kernel
theorem dX11_judges_168 : decode cX11_judges 168 = .ok (.getfield 176, 3) := by decide +kernel
theorem dX11_judges_171 : decode cX11_judges 171 = .ok (.iload_n 3, 1) := by decide +kernel
theorem dX11_judges_172 : decode cX11_judges 172 = .ok (.aload_n 0, 1) := by decide +kernel
theorem dX11_judges_173 : decode cX11_judges 173 = .ok (.getfield 161, 3) := by decide +kernel
theorem dX11_judges_176 : decode cX11_judges 176 = .ok (.iload_n 1, 1) := by decide +kernel
theorem dX11_judges_177 : decode cX11_judges 177 = .ok (.iaload, 1) := by decide +kernel
theorem dX11_judges_178 : decode cX11_judges 178 = .ok (.iastore, 1) := by decide +kernel
theorem dX11_judges_179 : decode cX11_judges 179 = .ok (.aload_n 0, 1) := by decide +kernel
theorem dX11_judges_180 : decode cX11_judges 180 = .ok (.getfield 179, 3) := by decide +kernel
theorem dX11_judges_183 : decode cX11_judges 183 = .ok (.iload_n 3, 1) := by decide +kernel
theorem dX11_judges_184 : decode cX11_judges 184 = .ok (.bipush 9, 2) := by decide +kernel
theorem dX11_judges_186 : decode cX11_judges 186 = .ok (.iastore, 1) := by decide +kernel
theorem dX11_judges_187 : decode cX11_judges 187 = .ok (.aload_n 0, 1) := by decide +kernel
theorem dX11_judges_188 : decode cX11_judges 188 = .ok (.getfield 182, 3) := by decide +kernel
theorem dX11_judges_191 : decode cX11_judges 191 = .ok (.iload_n 3, 1) := by decide +kernel
theorem dX11_judges_192 : decode cX11_judges 192 = .ok (.iload_n 1, 1) := by decide +kernel
theorem dX11_judges_193 : decode cX11_judges 193 = .ok (.iastore, 1) := by decide +kernel
theorem dX11_judges_194 : decode cX11_judges 194 = .ok (.aload_n 0, 1) := by decide +kernel
theorem dX11_judges_195 : decode cX11_judges 195 = .ok (.aload_n 0, 1) := by decide +kernel
theorem dX11_judges_196 : decode cX11_judges 196 = .ok (.getfield 110, 3) := by decide +kernel
theorem dX11_judges_199 : decode cX11_judges 199 = .ok (.iload_n 3, 1) := by decide +kernel
theorem dX11_judges_200 : decode cX11_judges 200 = .ok (.iaload, 1) := by decide +kernel
theorem dX11_judges_201 : decode cX11_judges 201 = .ok (.iload_n 1, 1) := by decide +kernel
theorem dX11_judges_202 : decode cX11_judges 202 = .ok (.invokevirtual 352, 3) := by decide +kernel
theorem dX11_judges_205 : decode cX11_judges 205 = .ok (.istore 4, 2) := by decide +kernel
theorem dX11_judges_207 : decode cX11_judges 207 = .ok (.aload_n 0, 1) := by decide +kernel
theorem dX11_judges_208 : decode cX11_judges 208 = .ok (.aload_n 0, 1) := by decide +kernel
theorem dX11_judges_209 : decode cX11_judges 209 = .ok (.getfield 113, 3) := by decide +kernel
theorem dX11_judges_212 : decode cX11_judges 212 = .ok (.iload_n 3, 1) := by decide +kernel
theorem dX11_judges_213 : decode cX11_judges 213 = .ok (.iaload, 1) := by decide +kernel
theorem dX11_judges_214 : decode cX11_judges 214 = .ok (.iload_n 1, 1) := by decide +kernel
theorem dX11_judges_215 : decode cX11_judges 215 = .ok (.invokevirtual 352, 3) := by decide +kernel
theorem dX11_judges_218 : decode cX11_judges 218 = .ok (.istore 5, 2) := by decide +kernel
theorem dX11_judges_220 : decode cX11_judges 220 = .ok (.aload_n 0, 1) := by decide +kernel
theorem dX11_judges_221 : decode cX11_judges 221 = .ok (.getfield 185, 3) := by decide +kernel
theorem dX11_judges_224 : decode cX11_judges 224 = .ok (.iload_n 3, 1) := by decide +kernel
theorem dX11_judges_225 : decode cX11_judges 225 = .ok (.iload 4, 2) := by decide +kernel
theorem dX11_judges_227 : decode cX11_judges 227 = .ok (.ifCond .eq 12, 3) := by decide +kernel
theorem dX11_judges_230 : decode cX11_judges 230 = .ok (.iload 5, 2) := by decide +kernel
theorem dX11_judges_232 : decode cX11_judges 232 = .ok (.ifCond .eq 7, 3) := by decide +kernel
theorem dX11_judges_235 : decode cX11_judges 235 = .ok (.iconst 0, 1) := by decide +kernel
theorem dX11_judges_236 : decode cX11_judges 236 = .ok (.goto 13, 3) := by decide +kernel
theorem dX11_judges_239 : decode cX11_judges 239 = .ok (.iload 4, 2) := by decide +kernel
theorem dX11_judges_241 : decode cX11_judges 241 = .ok (.ifCond .eq 7, 3) := by decide +kernel
theorem dX11_judges_244 : decode cX11_judges 244 = .ok (.iconst 1, 1) := by decide +kernel
theorem dX11_judges_245 : decode cX11_judges 245 = .ok (.goto 4, 3) := by decide +kernel
theorem dX11_judges_248 : decode cX11_judges 248 = .ok (.iconst 2, 1) := by decide +kernel
theorem dX11_judges_249 : decode cX11_judges 249 = .ok (.iastore, 1) := by decide +kernel
theorem dX11_judges_250 : decode cX11_judges 250 = .ok (.iinc 3 1, 3) := by decide +kernel
theorem dX11_judges_253 : decode cX11_judges 253 = .ok (.goto (-106), 3) := by decide +kernel
theorem dX11_judges_256 : decode cX11_judges 256 = .ok (.aload_n 0, 1) := by decide +kernel
theorem dX11_judges_257 : decode cX11_judges 257 = .ok (.getfield 188, 3) := by decide +kernel
theorem dX11_judges_260 : decode cX11_judges 260 = .ok (.iload_n 1, 1) := by decide +kernel
theorem dX11_judges_261 : decode cX11_judges 261 = .ok (.iconst 1, 1) := by decide +kernel
theorem dX11_judges_262 : decode cX11_judges 262 = .ok (.bastore, 1) := by decide +kernel
theorem dX11_judges_263 : decode cX11_judges 263 = .ok (.aload_n 0, 1) := by decide +kernel
theorem dX11_judges_264 : decode cX11_judges 264 = .ok (.iload_n 1, 1) := by decide +kernel
theorem dX11_judges_265 : decode cX11_judges 265 = .ok (.iconst 0, 1) := by decide +kernel
theorem dX11_judges_266 : decode cX11_judges 266 = .ok (.iload_n 2, 1) := by decide +kernel
theorem dX11_judges_267 : decode cX11_judges 267 = .ok (.invokevirtual 346, 3) := by decide +kernel
theorem dX11_judges_270 : decode cX11_judges 270 = .ok (.istore_n 3, 1) := by decide +kernel
theorem dX11_judges_271 : decode cX11_judges 271 = .ok (.aload_n 0, 1) := by decide +kernel
theorem dX11_judges_272 : decode cX11_judges 272 = .ok (.iload_n 1, 1) := by decide +kernel
theorem dX11_judges_273 : decode cX11_judges 273 = .ok (.iload_n 2, 1) := by decide +kernel
theorem dX11_judges_274 : decode cX11_judges 274 = .ok (.invokevirtual 361, 3) := by decide +kernel
theorem dX11_judges_277 : decode cX11_judges 277 = .ok (.istore 4, 2) := by decide +kernel
theorem dX11_judges_279 : decode cX11_judges 279 = .ok (.aload_n 0, 1) := by decide +kernel
theorem dX11_judges_280 : decode cX11_judges 280 = .ok (.getfield 176, 3) := by decide +kernel
theorem dX11_judges_283 : decode cX11_judges 283 = .ok (.iload_n 1, 1) := by decide +kernel
theorem dX11_judges_284 : decode cX11_judges 284 = .ok (.iload_n 3, 1) := by decide +kernel
theorem dX11_judges_285 : decode cX11_judges 285 = .ok (.iload 4, 2) := by decide +kernel
theorem dX11_judges_287 : decode cX11_judges 287 = .ok (.if_icmp .gt 7, 3) := by decide +kernel
theorem dX11_judges_290 : decode cX11_judges 290 = .ok (.iload_n 3, 1) := by decide +kernel
theorem dX11_judges_291 : decode cX11_judges 291 = .ok (.goto 5, 3) := by decide +kernel
theorem dX11_judges_294 : decode cX11_judges 294 = .ok (.iload 4, 2) := by decide +kernel
theorem dX11_judges_296 : decode cX11_judges 296 = .ok (.iastore, 1) := by decide +kernel
theorem dX11_judges_297 : decode cX11_judges 297 = .ok (.aload_n 0, 1) := by decide +kernel
theorem dX11_judges_298 : decode cX11_judges 298 = .ok (.getfield 179, 3) := by decide +kernel
theorem dX11_judges_301 : decode cX11_judges 301 = .ok (.iload_n 1, 1) := by decide +kernel
theorem dX11_judges_302 : decode cX11_judges 302 = .ok (.aload_n 0, 1) := by decide +kernel
theorem dX11_judges_303 : decode cX11_judges 303 = .ok (.getfield 176, 3) := by decide +kernel
theorem dX11_judges_306 : decode cX11_judges 306 = .ok (.iload_n 1, 1) := by decide +kernel
theorem dX11_judges_307 : decode cX11_judges 307 = .ok (.iaload, 1) := by decide +kernel
theorem dX11_judges_308 : decode cX11_judges 308 = .ok (.ldc_w 345, 3) := by decide +kernel
theorem dX11_judges_311 : decode cX11_judges 311 = .ok (.if_icmp .ne 7, 3) := by decide +kernel
theorem dX11_judges_314 : decode cX11_judges 314 = .ok (.iconst 0, 1) := by decide +kernel
theorem dX11_judges_315 : decode cX11_judges 315 = .ok (.goto 16, 3) := by decide +kernel
theorem dX11_judges_318 : decode cX11_judges 318 = .ok (.iload_n 3, 1) := by decide +kernel
theorem dX11_judges_319 : decode cX11_judges 319 = .ok (.iload 4, 2) := by decide +kernel
theorem dX11_judges_321 : decode cX11_judges 321 = .ok (.if_icmp .gt 8, 3) := by decide +kernel
theorem dX11_judges_324 : decode cX11_judges 324 = .ok (.bipush 7, 2) := by decide +kernel
theorem dX11_judges_326 : decode cX11_judges 326 = .ok (.goto 5, 3) := by decide +kernel
theorem dX11_judges_329 : decode cX11_judges 329 = .ok (.bipush 8, 2) := by decide +kernel
theorem dX11_judges_331 : decode cX11_judges 331 = .ok (.iastore, 1) := by decide +kernel
theorem dX11_judges_332 : decode cX11_judges 332 = .ok (.return_, 1) := by decide +kernel
theorem dX11_judgesAll_0 : decode cX11_judgesAll 0 = .ok (.aload_n 0, 1) := by decide +kernel
theorem dX11_judgesAll_1 : decode cX11_judgesAll 1 = .ok (.getfield 155, 3) := by decide +kernel
theorem dX11_judgesAll_4 : decode cX11_judgesAll 4 = .ok (.iload_n 1, 1) := by decide +kernel
theorem dX11_judgesAll_5 : decode cX11_judgesAll 5 = .ok (.if_icmp .ne 4, 3) := by decide +kernel
theorem dX11_judgesAll_8 : decode cX11_judgesAll 8 = .ok (.return_, 1) := by decide +kernel
theorem dX11_judgesAll_9 : decode cX11_judgesAll 9 = .ok (.aload_n 0, 1) := by decide +kernel
theorem dX11_judgesAll_10 : decode cX11_judgesAll 10 = .ok (.iload_n 1, 1) := by decide +kernel
theorem dX11_judgesAll_11 : decode cX11_judgesAll 11 = .ok (.putfield 155, 3) := by decide +kernel
theorem dX11_judgesAll_14 : decode cX11_judgesAll 14 = .ok (.iconst 0, 1) := by decide +kernel
theorem dX11_judgesAll_15 : decode cX11_judgesAll 15 = .ok (.istore_n 2, 1) := by decide +kernel
theorem dX11_judgesAll_16 : decode cX11_judgesAll 16 = .ok (.iload_n 2, 1) := by decide +kernel
theorem dX11_judgesAll_17 : decode cX11_judgesAll 17 = .ok (.aload_n 0, 1) := by decide +kernel
theorem dX11_judgesAll_18 : decode cX11_judgesAll 18 = .ok (.getfield 310, 3) := by decide +kernel
theorem dX11_judgesAll_21 : decode cX11_judgesAll 21 = .ok (.if_icmp .ge 85, 3) := by decide +kernel
theorem dX11_judgesAll_24 : decode cX11_judgesAll 24 = .ok (.aload_n 0, 1) := by decide +kernel
theorem dX11_judgesAll_25 : decode cX11_judgesAll 25 = .ok (.getfield 158, 3) := by decide +kernel
theorem dX11_judgesAll_28 : decode cX11_judgesAll 28 = .ok (.iload_n 2, 1) := by decide +kernel
theorem dX11_judgesAll_29 : decode cX11_judgesAll 29 = .ok (.aload_n 0, 1) := by decide +kernel
theorem dX11_judgesAll_30 : decode cX11_judgesAll 30 = .ok (.iload_n 2, 1) := by decide +kernel
theorem dX11_judgesAll_31 : decode cX11_judgesAll 31 = .ok (.iload_n 1, 1) := by decide +kernel
theorem dX11_judgesAll_32 : decode cX11_judgesAll 32 = .ok (.invokevirtual 364, 3) := by decide +kernel
theorem dX11_judgesAll_35 : decode cX11_judgesAll 35 = .ok (.iastore, 1) := by decide +kernel
