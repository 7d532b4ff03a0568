theorem dX11_judgesAll_36 : decode cX11_judgesAll 36 = .ok (.aload_n 0, 1) := by decide +kernel
theorem dX11_judgesAll_37 : decode cX11_judgesAll 37 = .ok (.iload_n 2, 1) := by decide +kernel
theorem dX11_judgesAll_38 : decode cX11_judgesAll 38 = .ok (.iload_n 1, 1) := by decide +kernel
theorem dX11_judgesAll_39 : decode cX11_judgesAll 39 = .ok (.invokevirtual 367, 3) := by decide +kernel
theorem dX11_judgesAll_42 : decode cX11_judgesAll 42 = .ok (.aload_n 0, 1) := by decide +kernel
theorem dX11_judgesAll_43 : decode cX11_judgesAll 43 = .ok (.getfield 167, 3) := by decide +kernel
theorem dX11_judgesAll_46 : decode cX11_judgesAll 46 = .ok (.iload_n 2, 1) := by decide +kernel
theorem dX11_judgesAll_47 : decode cX11_judgesAll 47 = .ok (.iconst 0, 1) := by decide +kernel
theorem dX11_judgesAll_48 : decode cX11_judgesAll 48 = .ok (.bastore, 1) := by decide +kernel
theorem dX11_judgesAll_49 : decode cX11_judgesAll 49 = .ok (.aload_n 0, 1) := by decide +kernel
theorem dX11_judgesAll_50 : decode cX11_judgesAll 50 = .ok (.getfield 188, 3) := by decide +kernel
theorem dX11_judgesAll_53 : decode cX11_judgesAll 53 = .ok (.iload_n 2, 1) := by decide +kernel
theorem dX11_judgesAll_54 : decode cX11_judgesAll 54 = .ok (.iconst 0, 1) := by decide +kernel
theorem dX11_judgesAll_55 : decode cX11_judgesAll 55 = .ok (.bastore, 1) := by decide +kernel
theorem dX11_judgesAll_56 : decode cX11_judgesAll 56 = .ok (.aload_n 0, 1) := by decide +kernel
theorem dX11_judgesAll_57 : decode cX11_judgesAll 57 = .ok (.getfield 170, 3) := by decide +kernel
theorem dX11_judgesAll_60 : decode cX11_judgesAll 60 = .ok (.iload_n 2, 1) := by decide +kernel
theorem dX11_judgesAll_61 : decode cX11_judgesAll 61 = .ok (.iconst (-1), 1) := by decide +kernel
theorem dX11_judgesAll_62 : decode cX11_judgesAll 62 = .ok (.iastore, 1) := by decide +kernel
theorem dX11_judgesAll_63 : decode cX11_judgesAll 63 = .ok (.aload_n 0, 1) := by decide +kernel
theorem dX11_judgesAll_64 : decode cX11_judgesAll 64 = .ok (.getfield 173, 3) := by decide +kernel
theorem dX11_judgesAll_67 : decode cX11_judgesAll 67 = .ok (.iload_n 2, 1) := by decide +kernel
theorem dX11_judgesAll_68 : decode cX11_judgesAll 68 = .ok (.iconst (-1), 1) := by decide +kernel
theorem dX11_judgesAll_69 : decode cX11_judgesAll 69 = .ok (.iastore, 1) := by decide +kernel
theorem dX11_judgesAll_70 : decode cX11_judgesAll 70 = .ok (.aload_n 0, 1) := by decide +kernel
theorem dX11_judgesAll_71 : decode cX11_judgesAll 71 = .ok (.getfield 176, 3) := by decide +kernel
theorem dX11_judgesAll_74 : decode cX11_judgesAll 74 = .ok (.iload_n 2, 1) := by decide +kernel
theorem dX11_judgesAll_75 : decode cX11_judgesAll 75 = .ok (.ldc_w 345, 3) := by decide +kernel
theorem dX11_judgesAll_78 : decode cX11_judgesAll 78 = .ok (.iastore, 1) := by decide +kernel
theorem dX11_judgesAll_79 : decode cX11_judgesAll 79 = .ok (.aload_n 0, 1) := by decide +kernel
theorem dX11_judgesAll_80 : decode cX11_judgesAll 80 = .ok (.getfield 179, 3) := by decide +kernel
theorem dX11_judgesAll_83 : decode cX11_judgesAll 83 = .ok (.iload_n 2, 1) := by decide +kernel
theorem dX11_judgesAll_84 : decode cX11_judgesAll 84 = .ok (.iconst 0, 1) := by decide +kernel
theorem dX11_judgesAll_85 : decode cX11_judgesAll 85 = .ok (.iastore, 1) := by decide +kernel
theorem dX11_judgesAll_86 : decode cX11_judgesAll 86 = .ok (.aload_n 0, 1) := by decide +kernel
theorem dX11_judgesAll_87 : decode cX11_judgesAll 87 = .ok (.getfield 182, 3) := by decide +kernel
theorem dX11_judgesAll_90 : decode cX11_judgesAll 90 = .ok (.iload_n 2, 1) := by decide +kernel
theorem dX11_judgesAll_91 : decode cX11_judgesAll 91 = .ok (.iconst (-1), 1) := by decide +kernel
theorem dX11_judgesAll_92 : decode cX11_judgesAll 92 = .ok (.iastore, 1) := by decide +kernel
theorem dX11_judgesAll_93 : decode cX11_judgesAll 93 = .ok (.aload_n 0, 1) := by decide +kernel
theorem dX11_judgesAll_94 : decode cX11_judgesAll 94 = .ok (.getfield 185, 3) := by decide +kernel
theorem dX11_judgesAll_97 : decode cX11_judgesAll 97 = .ok (.iload_n 2, 1) := by decide +kernel
theorem dX11_judgesAll_98 : decode cX11_judgesAll 98 = .ok (.iconst 0, 1) := by decide +kernel
theorem dX11_judgesAll_99 : decode cX11_judgesAll 99 = .ok (.iastore, 1) := by decide +kernel
theorem dX11_judgesAll_100 : decode cX11_judgesAll 100 = .ok (.iinc 2 1, 3) := by decide +kernel
theorem dX11_judgesAll_103 : decode cX11_judgesAll 103 = .ok (.goto (-87), 3) := by decide +kernel
theorem dX11_judgesAll_106 : decode cX11_judgesAll 106 = .ok (.iconst 0, 1) := by decide +kernel
theorem dX11_judgesAll_107 : decode cX11_judgesAll 107 = .ok (.istore_n 2, 1) := by decide +kernel
theorem dX11_judgesAll_108 : decode cX11_judgesAll 108 = .ok (.iload_n 2, 1) := by decide +kernel
theorem dX11_judgesAll_109 : decode cX11_judgesAll 109 = .ok (.aload_n 0, 1) := by decide +kernel
theorem dX11_judgesAll_110 : decode cX11_judgesAll 110 = .ok (.getfield 310, 3) := by decide +kernel
theorem dX11_judgesAll_113 : decode cX11_judgesAll 113 = .ok (.if_icmp .ge 97, 3) := by decide +kernel
theorem dX11_judgesAll_116 : decode cX11_judgesAll 116 = .ok (.iconst (-1), 1) := by decide +kernel
theorem dX11_judgesAll_117 : decode cX11_judgesAll 117 = .ok (.istore_n 3, 1) := by decide +kernel
theorem dX11_judgesAll_118 : decode cX11_judgesAll 118 = .ok (.iconst 0, 1) := by decide +kernel
theorem dX11_judgesAll_119 : decode cX11_judgesAll 119 = .ok (.istore 4, 2) := by decide +kernel
theorem dX11_judgesAll_121 : decode cX11_judgesAll 121 = .ok (.iload 4, 2) := by decide +kernel
theorem dX11_judgesAll_123 : decode cX11_judgesAll 123 = .ok (.aload_n 0, 1) := by decide +kernel
theorem dX11_judgesAll_124 : decode cX11_judgesAll 124 = .ok (.getfield 310, 3) := by decide +kernel
theorem dX11_judgesAll_127 : decode cX11_judgesAll 127 = .ok (.if_icmp .ge 65, 3) := by decide +kernel
theorem dX11_judgesAll_130 : decode cX11_judgesAll 130 = .ok (.aload_n 0, 1) := by decide +kernel
theorem dX11_judgesAll_131 : decode cX11_judgesAll 131 = .ok (.getfield 167, 3) := by decide +kernel
theorem dX11_judgesAll_134 : decode cX11_judgesAll 134 = .ok (.iload 4, 2) := by decide +kernel
theorem dX11_judgesAll_136 : decode cX11_judgesAll 136 = .ok (.baload, 1) := by decide +kernel
theorem dX11_judgesAll_137 : decode cX11_judgesAll 137 = .ok (.ifCond .ne 49, 3) := by decide +kernel
theorem dX11_judgesAll_140 : decode cX11_judgesAll 140 = .ok (.aload_n 0, 1) := by decide +kernel
theorem dX11_judgesAll_141 : decode cX11_judgesAll 141 = .ok (.getfield 158, 3) := by decide +kernel
theorem dX11_judgesAll_144 : decode cX11_judgesAll 144 = .ok (.iload 4, 2) := by decide +kernel
theorem dX11_judgesAll_146 : decode cX11_judgesAll 146 = .ok (.iaload, 1) := by decide +kernel
theorem dX11_judgesAll_147 : decode cX11_judgesAll 147 = .ok (.iconst (-1), 1) := by decide +kernel
theorem dX11_judgesAll_148 : decode cX11_judgesAll 148 = .ok (.if_icmp .eq 38, 3) := by decide +kernel
theorem dX11_judgesAll_151 : decode cX11_judgesAll 151 = .ok (.aload_n 0, 1) := by decide +kernel
theorem dX11_judgesAll_152 : decode cX11_judgesAll 152 = .ok (.getfield 164, 3) := by decide +kernel
theorem dX11_judgesAll_155 : decode cX11_judgesAll 155 = .ok (.iload 4, 2) := by decide +kernel
theorem dX11_judgesAll_157 : decode cX11_judgesAll 157 = .ok (.iaload, 1) := by decide +kernel
theorem dX11_judgesAll_158 : decode cX11_judgesAll 158 = .ok (.iconst 1, 1) := by decide +kernel
theorem dX11_judgesAll_159 : decode cX11_judgesAll 159 = .ok (.if_icmp .ne 27, 3) := by decide +kernel
theorem dX11_judgesAll_162 : decode cX11_judgesAll 162 = .ok (.iload_n 3, 1) := by decide +kernel
theorem dX11_judgesAll_163 : decode cX11_judgesAll 163 = .ok (.iconst (-1), 1) := by decide +kernel
theorem dX11_judgesAll_164 : decode cX11_judgesAll 164 = .ok (.if_icmp .eq 19, 3) := by decide +kernel
theorem dX11_judgesAll_167 : decode cX11_judgesAll 167 = .ok (.aload_n 0, 1) := by decide +kernel
theorem dX11_judgesAll_168 : decode cX11_judgesAll 168 = .ok (.getfield 161, 3) := by decide +kernel
theorem dX11_judgesAll_171 : decode cX11_judgesAll 171 = .ok (.iload 4, 2) := by decide +kernel
theorem dX11_judgesAll_173 : decode cX11_judgesAll 173 = .ok (.iaload, 1) := by decide +kernel
theorem dX11_judgesAll_174 : decode cX11_judgesAll 174 = .ok (.aload_n 0, 1) := by decide +kernel
theorem dX11_judgesAll_175 : decode cX11_judgesAll 175 = .ok (.getfield 161, 3) := by decide +kernel
theorem dX11_judgesAll_178 : decode cX11_judgesAll 178 = .ok (.iload_n 3, 1) := by decide +kernel
theorem dX11_judgesAll_179 : decode cX11_judgesAll 179 = .ok (.iaload, 1) := by decide +kernel
theorem dX11_judgesAll_180 : decode cX11_judgesAll 180 = .ok (.if_icmp .ge 6, 3) := by decide +kernel
theorem dX11_judgesAll_183 : decode cX11_judgesAll 183 = .ok (.iload 4, 2) := by decide +kernel
theorem dX11_judgesAll_185 : decode cX11_judgesAll 185 = .ok (.istore_n 3, 1) := by decide +kernel
theorem dX11_judgesAll_186 : decode cX11_judgesAll 186 = .ok (.iinc 4 1, 3) := by decide +kernel
theorem dX11_judgesAll_189 : decode cX11_judgesAll 189 = .ok (.goto (-68), 3) := by decide +kernel
theorem dX11_judgesAll_192 : decode cX11_judgesAll 192 = .ok (.iload_n 3, 1) := by decide +kernel
theorem dX11_judgesAll_193 : decode cX11_judgesAll 193 = .ok (.iconst (-1), 1) := by decide +kernel
theorem dX11_judgesAll_194 : decode cX11_judgesAll 194 = .ok (.if_icmp .ne 4, 3) := by decide +kernel
theorem dX11_judgesAll_197 : decode cX11_judgesAll 197 = .ok (.return_, 1) := by decide +kernel
theorem dX11_judgesAll_198 : decode cX11_judgesAll 198 = .ok (.aload_n 0, 1) := by decide +kernel
theorem dX11_judgesAll_199 : decode cX11_judgesAll 199 = .ok (.iload_n 3, 1) := by decide +kernel
theorem dX11_judgesAll_200 : decode cX11_judgesAll 200 = .ok (.iload_n 1, 1) := by decide +kernel
theorem dX11_judgesAll_201 : decode cX11_judgesAll 201 = .ok (.invokevirtual 370, 3) := by decide +kernel
theorem dX11_judgesAll_204 : decode cX11_judgesAll 204 = .ok (.iinc 2 1, 3) := by decide +kernel
theorem dX11_judgesAll_207 : decode cX11_judgesAll 207 = .ok (.goto (-99), 3) := by decide +kernel
theorem dX11_judgesAll_210 : decode cX11_judgesAll 210 = .ok (.return_, 1) := by decide +kernel
theorem dX11_proved_0 : decode cX11_proved 0 = .ok (.aload_n 0, 1) := by decide +kernel
theorem dX11_proved_1 : decode cX11_proved 1 = .ok (.iload_n 1, 1) := by decide +kernel
theorem dX11_proved_2 : decode cX11_proved 2 = .ok (.invokevirtual 319, 3) := by decide +kernel
theorem dX11_proved_5 : decode cX11_proved 5 = .ok (.ifCond .eq 11, 3) := by decide +kernel
theorem dX11_proved_8 : decode cX11_proved 8 = .ok (.aload_n 0, 1) := by decide +kernel
theorem dX11_proved_9 : decode cX11_proved 9 = .ok (.iload_n 2, 1) := by decide +kernel
theorem dX11_proved_10 : decode cX11_proved 10 = .ok (.invokevirtual 373, 3) := by decide +kernel
theorem dX11_proved_13 : decode cX11_proved 13 = .ok (.ifCond .ne 5, 3) := by decide +kernel
theorem dX11_proved_16 : decode cX11_proved 16 = .ok (.iconst (-1), 1) := by decide +kernel
theorem dX11_proved_17 : decode cX11_proved 17 = .ok (.ireturn, 1) := by decide +kernel
theorem dX11_proved_18 : decode cX11_proved 18 = .ok (.aload_n 0, 1) := by decide +kernel
theorem dX11_proved_19 : decode cX11_proved 19 = .ok (.iload_n 2, 1) := by decide +kernel
theorem dX11_proved_20 : decode cX11_proved 20 = .ok (.invokevirtual 376, 3) := by decide +kernel
theorem dX11_proved_23 : decode cX11_proved 23 = .ok (.aload_n 0, 1) := by decide +kernel
theorem dX11_proved_24 : decode cX11_proved 24 = .ok (.getfield 158, 3) := by decide +kernel
theorem dX11_proved_27 : decode cX11_proved 27 = .ok (.iload_n 1, 1) := by decide +kernel
theorem dX11_proved_28 : decode cX11_proved 28 = .ok (.iaload, 1) := by decide +kernel
theorem dX11_proved_29 : decode cX11_proved 29 = .ok (.ireturn, 1) := by decide +kernel
theorem dX11_barred_0 : decode cX11_barred 0 = .ok (.aload_n 0, 1) := by decide +kernel
theorem dX11_barred_1 : decode cX11_barred 1 = .ok (.iload_n 1, 1) := by decide +kernel
theorem dX11_barred_2 : decode cX11_barred 2 = .ok (.invokevirtual 319, 3) := by decide +kernel
theorem dX11_barred_5 : decode cX11_barred 5 = .ok (.ifCond .eq 11, 3) := by decide +kernel
theorem dX11_barred_8 : decode cX11_barred 8 = .ok (.aload_n 0, 1) := by decide +kernel
theorem dX11_barred_9 : decode cX11_barred 9 = .ok (.iload_n 2, 1) := by decide +kernel
theorem dX11_barred_10 : decode cX11_barred 10 = .ok (.invokevirtual 373, 3) := by decide +kernel
theorem dX11_barred_13 : decode cX11_barred 13 = .ok (.ifCond .ne 5, 3) := by decide +kernel
theorem dX11_barred_16 : decode cX11_barred 16 = .ok (.iconst (-1), 1) := by decide +kernel
theorem dX11_barred_17 : decode cX11_barred 17 = .ok (.ireturn, 1) := by decide +kernel
theorem dX11_barred_18 : decode cX11_barred 18 = .ok (.aload_n 0, 1) := by decide +kernel
theorem dX11_barred_19 : decode cX11_barred 19 = .ok (.iload_n 2, 1) := by decide +kernel
theorem dX11_barred_20 : decode cX11_barred 20 = .ok (.invokevirtual 376, 3) := by decide +kernel
theorem dX11_barred_23 : decode cX11_barred 23 = .ok (.aload_n 0, 1) := by decide +kernel
theorem dX11_barred_24 : decode cX11_barred 24 = .ok (.getfield 170, 3) := by decide +kernel
theorem dX11_barred_27 : decode cX11_barred 27 = .ok (.iload_n 1, 1) := by decide +kernel
theorem dX11_barred_28 : decode cX11_barred 28 = .ok (.iaload, 1) := by decide +kernel
theorem dX11_barred_29 : decode cX11_barred 29 = .ok (.ireturn, 1) := by decide +kernel
theorem dX11_stateOf_0 : decode cX11_stateOf 0 = .ok (.aload_n 0, 1) := by decide +kernel
theorem dX11_stateOf_1 : decode cX11_stateOf 1 = .ok (.getfield 158, 3) := by decide +kernel
theorem dX11_stateOf_4 : decode cX11_stateOf 4 = .ok (.iload_n 1, 1) := by decide +kernel
theorem dX11_stateOf_5 : decode cX11_stateOf 5 = .ok (.iaload, 1) := by decide +kernel
theorem dX11_stateOf_6 : decode cX11_stateOf 6 = .ok (.iconst (-1), 1) := by decide +kernel
theorem dX11_stateOf_7 : decode cX11_stateOf 7 = .ok (.if_icmp .ne 5, 3) := by decide +kernel
theorem dX11_stateOf_10 : decode cX11_stateOf 10 = .ok (.iconst 0, 1) := by decide +kernel
theorem dX11_stateOf_11 : decode cX11_stateOf 11 = .ok (.ireturn, 1) := by decide +kernel
theorem dX11_stateOf_12 : decode cX11_stateOf 12 = .ok (.iload_n 2, 1) := by decide +kernel
theorem dX11_stateOf_13 : decode cX11_stateOf 13 = .ok (.aload_n 0, 1) := by decide +kernel
theorem dX11_stateOf_14 : decode cX11_stateOf 14 = .ok (.getfield 161, 3) := by decide +kernel
theorem dX11_stateOf_17 : decode cX11_stateOf 17 = .ok (.iload_n 1, 1) := by decide +kernel
theorem dX11_stateOf_18 : decode cX11_stateOf 18 = .ok (.iaload, 1) := by decide +kernel
theorem dX11_stateOf_19 : decode cX11_stateOf 19 = .ok (.if_icmp .ge 19, 3) := by decide +kernel
theorem dX11_stateOf_22 : decode cX11_stateOf 22 = .ok (.aload_n 0, 1) := by decide +kernel
theorem dX11_stateOf_23 : decode cX11_stateOf 23 = .ok (.getfield 125, 3) := by decide +kernel
theorem dX11_stateOf_26 : decode cX11_stateOf 26 = .ok (.iload_n 1, 1) := by decide +kernel
theorem dX11_stateOf_27 : decode cX11_stateOf 27 = .ok (.iaload, 1) := by decide +kernel
theorem dX11_stateOf_28 : decode cX11_stateOf 28 = .ok (.iconst (-1), 1) := by decide +kernel
theorem dX11_stateOf_29 : decode cX11_stateOf 29 = .ok (.if_icmp .ne 7, 3) := by decide +kernel
theorem dX11_stateOf_32 : decode cX11_stateOf 32 = .ok (.iconst 1, 1) := by decide +kernel
theorem dX11_stateOf_33 : decode cX11_stateOf 33 = .ok (.goto 4, 3) := by decide +kernel
theorem dX11_stateOf_36 : decode cX11_stateOf 36 = .ok (.iconst 2, 1) := by decide +kernel
theorem dX11_stateOf_37 : decode cX11_stateOf 37 = .ok (.ireturn, 1) := by decide +kernel
theorem dX11_stateOf_38 : decode cX11_stateOf 38 = .ok (.aload_n 0, 1) := by decide +kernel
theorem dX11_stateOf_39 : decode cX11_stateOf 39 = .ok (.getfield 164, 3) := by decide +kernel
theorem dX11_stateOf_42 : decode cX11_stateOf 42 = .ok (.iload_n 1, 1) := by decide +kernel
theorem dX11_stateOf_43 : decode cX11_stateOf 43 = .ok (.iaload, 1) := by decide +kernel
theorem dX11_stateOf_44 : decode cX11_stateOf 44 = .ok (.iconst 2, 1) := by decide +kernel
theorem dX11_stateOf_45 : decode cX11_stateOf 45 = .ok (.if_icmp .ne 5, 3) := by decide +kernel
theorem dX11_stateOf_48 : decode cX11_stateOf 48 = .ok (.iconst 3, 1) := by decide +kernel
theorem dX11_stateOf_49 : decode cX11_stateOf 49 = .ok (.ireturn, 1) := by decide +kernel
theorem dX11_stateOf_50 : decode cX11_stateOf 50 = .ok (.aload_n 0, 1) := by decide +kernel
theorem dX11_stateOf_51 : decode cX11_stateOf 51 = .ok (.getfield 170, 3) := by decide +kernel
theorem dX11_stateOf_54 : decode cX11_stateOf 54 = .ok (.iload_n 1, 1) := by decide +kernel
theorem dX11_stateOf_55 : decode cX11_stateOf 55 = .ok (.iaload, 1) := by decide +kernel
theorem dX11_stateOf_56 : decode cX11_stateOf 56 = .ok (.iconst (-1), 1) := by decide +kernel
theorem dX11_stateOf_57 : decode cX11_stateOf 57 = .ok (.if_icmp .eq 5, 3) := by decide +kernel
theorem dX11_stateOf_60 : decode cX11_stateOf 60 = .ok (.iconst 4, 1) := by decide +kernel
theorem dX11_stateOf_61 : decode cX11_stateOf 61 = .ok (.ireturn, 1) := by decide +kernel
theorem dX11_stateOf_62 : decode cX11_stateOf 62 = .ok (.aload_n 0, 1) := by decide +kernel
theorem dX11_stateOf_63 : decode cX11_stateOf 63 = .ok (.getfield 173, 3) := by decide +kernel
theorem dX11_stateOf_66 : decode cX11_stateOf 66 = .ok (.iload_n 1, 1) := by decide +kernel
theorem dX11_stateOf_67 : decode cX11_stateOf 67 = .ok (.iaload, 1) := by decide +kernel
theorem dX11_stateOf_68 : decode cX11_stateOf 68 = .ok (.iconst (-1), 1) := by decide +kernel
theorem dX11_stateOf_69 : decode cX11_stateOf 69 = .ok (.if_icmp .eq 5, 3) := by decide +kernel
theorem dX11_stateOf_72 : decode cX11_stateOf 72 = .ok (.iconst 5, 1) := by decide +kernel
theorem dX11_stateOf_73 : decode cX11_stateOf 73 = .ok (.ireturn, 1) := by decide +kernel
theorem dX11_stateOf_74 : decode cX11_stateOf 74 = .ok (.iload_n 2, 1) := by decide +kernel
theorem dX11_stateOf_75 : decode cX11_stateOf 75 = .ok (.aload_n 0, 1) := by decide +kernel
theorem dX11_stateOf_76 : decode cX11_stateOf 76 = .ok (.getfield 176, 3) := by decide +kernel
theorem dX11_stateOf_79 : decode cX11_stateOf 79 = .ok (.iload_n 1, 1) := by decide +kernel
theorem dX11_stateOf_80 : decode cX11_stateOf 80 = .ok (.iaload, 1) := by decide +kernel
theorem dX11_stateOf_81 : decode cX11_stateOf 81 = .ok (.if_icmp .ge 8, 3) := by decide +kernel
theorem dX11_stateOf_84 : decode cX11_stateOf 84 = .ok (.bipush 6, 2) := by decide +kernel
theorem dX11_stateOf_86 : decode cX11_stateOf 86 = .ok (.goto 9, 3) := by decide +kernel
theorem dX11_stateOf_89 : decode cX11_stateOf 89 = .ok (.aload_n 0, 1) := by decide +kernel
theorem dX11_stateOf_90 : decode cX11_stateOf 90 = .ok (.getfield 179, 3) := by decide +kernel
theorem dX11_stateOf_93 : decode cX11_stateOf 93 = .ok (.iload_n 1, 1) := by decide +kernel
theorem dX11_stateOf_94 : decode cX11_stateOf 94 = .ok (.iaload, 1) := by decide +kernel
theorem dX11_stateOf_95 : decode cX11_stateOf 95 = .ok (.ireturn, 1) := by decide +kernel
theorem dX11_state_0 : decode cX11_state 0 = .ok (.aload_n 0, 1) := by decide +kernel
theorem dX11_state_1 : decode cX11_state 1 = .ok (.iload_n 1, 1) := by decide +kernel
theorem dX11_state_2 : decode cX11_state 2 = .ok (.invokevirtual 319, 3) := by decide +kernel
theorem dX11_state_5 : decode cX11_state 5 = .ok (.ifCond .eq 18, 3) := by decide +kernel
theorem dX11_state_8 : decode cX11_state 8 = .ok (.iload_n 2, 1) := by decide +kernel
theorem dX11_state_9 : decode cX11_state 9 = .ok (.invokestatic 259, 3) := by decide +kernel
theorem dX11_state_12 : decode cX11_state 12 = .ok (.ifCond .eq 11, 3) := by decide +kernel
theorem dX11_state_15 : decode cX11_state 15 = .ok (.aload_n 0, 1) := by decide +kernel
theorem dX11_state_16 : decode cX11_state 16 = .ok (.iload_n 3, 1) := by decide +kernel
theorem dX11_state_17 : decode cX11_state 17 = .ok (.invokevirtual 373, 3) := by decide +kernel
theorem dX11_state_20 : decode cX11_state 20 = .ok (.ifCond .ne 5, 3) := by decide +kernel
theorem dX11_state_23 : decode cX11_state 23 = .ok (.iconst (-1), 1) := by decide +kernel
theorem dX11_state_24 : decode cX11_state 24 = .ok (.ireturn, 1) := by decide +kernel
theorem dX11_state_25 : decode cX11_state 25 = .ok (.aload_n 0, 1) := by decide +kernel
theorem dX11_state_26 : decode cX11_state 26 = .ok (.iload_n 3, 1) := by decide +kernel
theorem dX11_state_27 : decode cX11_state 27 = .ok (.invokevirtual 376, 3) := by decide +kernel
theorem dX11_state_30 : decode cX11_state 30 = .ok (.aload_n 0, 1) := by decide +kernel
theorem dX11_state_31 : decode cX11_state 31 = .ok (.iload_n 1, 1) := by decide +kernel
theorem dX11_state_32 : decode cX11_state 32 = .ok (.iload_n 2, 1) := by decide +kernel
theorem dX11_state_33 : decode cX11_state 33 = .ok (.invokevirtual 379, 3) := by decide +kernel
theorem dX11_state_36 : decode cX11_state 36 = .ok (.ireturn, 1) := by decide +kernel
theorem dX11_force_0 : decode cX11_force 0 = .ok (.aload_n 0, 1) := by decide +kernel
theorem dX11_force_1 : decode cX11_force 1 = .ok (.iload_n 1, 1) := by decide +kernel
theorem dX11_force_2 : decode cX11_force 2 = .ok (.invokevirtual 319, 3) := by decide +kernel
theorem dX11_force_5 : decode cX11_force 5 = .ok (.ifCond .eq 20, 3) := by decide +kernel
theorem dX11_force_8 : decode cX11_force 8 = .ok (.aload_n 0, 1) := by decide +kernel
theorem dX11_force_9 : decode cX11_force 9 = .ok (.iload_n 2, 1) := by decide +kernel
theorem dX11_force_10 : decode cX11_force 10 = .ok (.invokevirtual 373, 3) := by decide +kernel
theorem dX11_force_13 : decode cX11_force 13 = .ok (.ifCond .eq 12, 3) := by decide +kernel
theorem dX11_force_16 : decode cX11_force 16 = .ok (.iload_n 3, 1) := by decide +kernel
theorem dX11_force_17 : decode cX11_force 17 = .ok (.ifCond .lt 8, 3) := by decide +kernel
theorem dX11_force_20 : decode cX11_force 20 = .ok (.iload_n 3, 1) := by decide +kernel
theorem dX11_force_21 : decode cX11_force 21 = .ok (.iconst 5, 1) := by decide +kernel
theorem dX11_force_22 : decode cX11_force 22 = .ok (.if_icmp .le 6, 3) := by decide +kernel
theorem dX11_force_25 : decode cX11_force 25 = .ok (.bipush (-3), 2) := by decide +kernel
theorem dX11_force_27 : decode cX11_force 27 = .ok (.ireturn, 1) := by decide +kernel
theorem dX11_force_28 : decode cX11_force 28 = .ok (.aload_n 0, 1) := by decide +kernel
theorem dX11_force_29 : decode cX11_force 29 = .ok (.iload_n 2, 1) := by decide +kernel
theorem dX11_force_30 : decode cX11_force 30 = .ok (.invokevirtual 376, 3) := by decide +kernel
theorem dX11_force_33 : decode cX11_force 33 = .ok (.iload_n 3, 1) := by decide +kernel
theorem dX11_force_34 : decode cX11_force 34 = .ok (.iconst 5, 1) := by decide +kernel
theorem dX11_force_35 : decode cX11_force 35 = .ok (.if_icmp .ne 10, 3) := by decide +kernel
theorem dX11_force_38 : decode cX11_force 38 = .ok (.aload_n 0, 1) := by decide +kernel
theorem dX11_force_39 : decode cX11_force 39 = .ok (.getfield 173, 3) := by decide +kernel
theorem dX11_force_42 : decode cX11_force 42 = .ok (.iload_n 1, 1) := by decide +kernel
theorem dX11_force_43 : decode cX11_force 43 = .ok (.iaload, 1) := by decide +kernel
theorem dX11_force_44 : decode cX11_force 44 = .ok (.ireturn, 1) := by decide +kernel
theorem dX11_force_45 : decode cX11_force 45 = .ok (.aload_n 0, 1) := by decide +kernel
theorem dX11_force_46 : decode cX11_force 46 = .ok (.getfield 188, 3) := by decide +kernel
theorem dX11_force_49 : decode cX11_force 49 = .ok (.iload_n 1, 1) := by decide +kernel
theorem dX11_force_50 : decode cX11_force 50 = .ok (.baload, 1) := by decide +kernel
theorem dX11_force_51 : decode cX11_force 51 = .ok (.ifCond .eq 18, 3) := by decide +kernel
theorem dX11_force_54 : decode cX11_force 54 = .ok (.aload_n 0, 1) := by decide +kernel
theorem dX11_force_55 : decode cX11_force 55 = .ok (.getfield 176, 3) := by decide +kernel
theorem dX11_force_58 : decode cX11_force 58 = .ok (.iload_n 1, 1) := by decide +kernel
theorem dX11_force_59 : decode cX11_force 59 = .ok (.iaload, 1) := by decide +kernel
theorem dX11_force_60 : decode cX11_force 60 = .ok (.aload_n 0, 1) := by decide +kernel
theorem dX11_force_61 : decode cX11_force 61 = .ok (.getfield 161, 3) := by decide +kernel
theorem dX11_force_64 : decode cX11_force 64 = .ok (.iload_n 1, 1) := by decide +kernel
theorem dX11_force_65 : decode cX11_force 65 = .ok (.iaload, 1) := by decide +kernel
theorem dX11_force_66 : decode cX11_force 66 = .ok (.if_icmp .gt 6, 3) := by decide +kernel
theorem dX11_force_69 : decode cX11_force 69 = .ok (.bipush (-2), 2) := by decide +kernel
theorem dX11_force_71 : decode cX11_force 71 = .ok (.ireturn, 1) := by decide +kernel
theorem dX11_force_72 : decode cX11_force 72 = .ok (.iload_n 3, 1) := by decide +kernel
theorem dX11_force_73 : decode cX11_force 73 = .ok (.tableswitch 75 0 3 #[31, 38, 61, 68], 31) := by decide +kernel
theorem dX11_force_104 : decode cX11_force 104 = .ok (.aload_n 0, 1) := by decide +kernel
theorem dX11_force_105 : decode cX11_force 105 = .ok (.getfield 161, 3) := by decide +kernel
theorem dX11_force_108 : decode cX11_force 108 = .ok (.iload_n 1, 1) := by decide +kernel
theorem dX11_force_109 : decode cX11_force 109 = .ok (.iaload, 1) := by decide +kernel
theorem dX11_force_110 : decode cX11_force 110 = .ok (.ireturn, 1) := by decide +kernel
theorem dX11_force_111 : decode cX11_force 111 = .ok (.aload_n 0, 1) := by decide +kernel
theorem dX11_force_112 : decode cX11_force 112 = .ok (.getfield 176, 3) := by decide +kernel
theorem dX11_force_115 : decode cX11_force 115 = .ok (.iload_n 1, 1) := by decide +kernel
theorem dX11_force_116 : decode cX11_force 116 = .ok (.iaload, 1) := by decide +kernel
theorem dX11_force_117 : decode cX11_force 117 = .ok (.ldc_w 345, 3) := by decide +kernel
theorem dX11_force_120 : decode cX11_force 120 = .ok (.if_icmp .ne 7, 3) := by decide +kernel
theorem dX11_force_123 : decode cX11_force 123 = .ok (.iconst (-1), 1) := by decide +kernel
theorem dX11_force_124 : decode cX11_force 124 = .ok (.goto 9, 3) := by decide +kernel
theorem dX11_force_127 : decode cX11_force 127 = .ok (.aload_n 0, 1) := by decide +kernel
theorem dX11_force_128 : decode cX11_force 128 = .ok (.getfield 176, 3) := by decide +kernel
theorem dX11_force_131 : decode cX11_force 131 = .ok (.iload_n 1, 1) := by decide +kernel
theorem dX11_force_132 : decode cX11_force 132 = .ok (.iaload, 1) := by decide +kernel
theorem dX11_force_133 : decode cX11_force 133 = .ok (.ireturn, 1) := by decide +kernel
theorem dX11_force_134 : decode cX11_force 134 = .ok (.aload_n 0, 1) := by decide +kernel
theorem dX11_force_135 : decode cX11_force 135 = .ok (.getfield 179, 3) := by decide +kernel
theorem dX11_force_138 : decode cX11_force 138 = .ok (.iload_n 1, 1) := by decide +kernel
theorem dX11_force_139 : decode cX11_force 139 = .ok (.iaload, 1) := by decide +kernel
theorem dX11_force_140 : decode cX11_force 140 = .ok (.ireturn, 1) := by decide +kernel
theorem dX11_force_141 : decode cX11_force 141 = .ok (.aload_n 0, 1) := by decide +kernel
theorem dX11_force_142 : decode cX11_force 142 = .ok (.getfield 182, 3) := by decide +kernel
theorem dX11_force_145 : decode cX11_force 145 = .ok (.iload_n 1, 1) := by decide +kernel
theorem dX11_force_146 : decode cX11_force 146 = .ok (.iaload, 1) := by decide +kernel
theorem dX11_force_147 : decode cX11_force 147 = .ok (.ireturn, 1) := by decide +kernel
theorem dX11_force_148 : decode cX11_force 148 = .ok (.aload_n 0, 1) := by decide +kernel
theorem dX11_force_149 : decode cX11_force 149 = .ok (.getfield 185, 3) := by decide +kernel
theorem dX11_force_152 : decode cX11_force 152 = .ok (.iload_n 1, 1) := by decide +kernel
theorem dX11_force_153 : decode cX11_force 153 = .ok (.iaload, 1) := by decide +kernel
theorem dX11_force_154 : decode cX11_force 154 = .ok (.ireturn, 1) := by decide +kernel
theorem dX11_bound_0 : decode cX11_bound 0 = .ok (.aload_n 0, 1) := by decide +kernel
theorem dX11_bound_1 : decode cX11_bound 1 = .ok (.iload_n 1, 1) := by decide +kernel
theorem dX11_bound_2 : decode cX11_bound 2 = .ok (.invokevirtual 303, 3) := by decide +kernel
theorem dX11_bound_5 : decode cX11_bound 5 = .ok (.ifCond .eq 18, 3) := by decide +kernel
theorem dX11_bound_8 : decode cX11_bound 8 = .ok (.iload_n 2, 1) := by decide +kernel
theorem dX11_bound_9 : decode cX11_bound 9 = .ok (.invokestatic 259, 3) := by decide +kernel
theorem dX11_bound_12 : decode cX11_bound 12 = .ok (.ifCond .eq 11, 3) := by decide +kernel
theorem dX11_bound_15 : decode cX11_bound 15 = .ok (.aload_n 0, 1) := by decide +kernel
theorem dX11_bound_16 : decode cX11_bound 16 = .ok (.iload_n 3, 1) := by decide +kernel
theorem dX11_bound_17 : decode cX11_bound 17 = .ok (.invokevirtual 373, 3) := by decide +kernel
theorem dX11_bound_20 : decode cX11_bound 20 = .ok (.ifCond .ne 5, 3) := by decide +kernel
theorem dX11_bound_23 : decode cX11_bound 23 = .ok (.iconst (-1), 1) := by decide +kernel
theorem dX11_bound_24 : decode cX11_bound 24 = .ok (.ireturn, 1) := by decide +kernel
theorem dX11_bound_25 : decode cX11_bound 25 = .ok (.aload_n 0, 1) := by decide +kernel
theorem dX11_bound_26 : decode cX11_bound 26 = .ok (.iload_n 3, 1) := by decide +kernel
theorem dX11_bound_27 : decode cX11_bound 27 = .ok (.invokevirtual 376, 3) := by decide +kernel
theorem dX11_bound_30 : decode cX11_bound 30 = .ok (.iconst 0, 1) := by decide +kernel
theorem dX11_bound_31 : decode cX11_bound 31 = .ok (.istore 4, 2) := by decide +kernel
theorem dX11_bound_33 : decode cX11_bound 33 = .ok (.iload 4, 2) := by decide +kernel
theorem dX11_bound_35 : decode cX11_bound 35 = .ok (.aload_n 0, 1) := by decide +kernel
theorem dX11_bound_36 : decode cX11_bound 36 = .ok (.getfield 310, 3) := by decide +kernel
theorem dX11_bound_39 : decode cX11_bound 39 = .ok (.if_icmp .ge 60, 3) := by decide +kernel
theorem dX11_bound_42 : decode cX11_bound 42 = .ok (.aload_n 0, 1) := by decide +kernel
theorem dX11_bound_43 : decode cX11_bound 43 = .ok (.iload_n 1, 1) := by decide +kernel
theorem dX11_bound_44 : decode cX11_bound 44 = .ok (.iload 4, 2) := by decide +kernel
theorem dX11_bound_46 : decode cX11_bound 46 = .ok (.invokevirtual 352, 3) := by decide +kernel
theorem dX11_bound_49 : decode cX11_bound 49 = .ok (.ifCond .eq 44, 3) := by decide +kernel
theorem dX11_bound_52 : decode cX11_bound 52 = .ok (.aload_n 0, 1) := by decide +kernel
theorem dX11_bound_53 : decode cX11_bound 53 = .ok (.iload 4, 2) := by decide +kernel
theorem dX11_bound_55 : decode cX11_bound 55 = .ok (.iload_n 2, 1) := by decide +kernel
theorem dX11_bound_56 : decode cX11_bound 56 = .ok (.invokevirtual 379, 3) := by decide +kernel
theorem dX11_bound_59 : decode cX11_bound 59 = .ok (.bipush 6, 2) := by decide +kernel
theorem dX11_bound_61 : decode cX11_bound 61 = .ok (.if_icmp .ne 32, 3) := by decide +kernel
theorem dX11_bound_64 : decode cX11_bound 64 = .ok (.aload_n 0, 1) := by decide +kernel
theorem dX11_bound_65 : decode cX11_bound 65 = .ok (.getfield 110, 3) := by decide +kernel
theorem dX11_bound_68 : decode cX11_bound 68 = .ok (.iload 4, 2) := by decide +kernel
theorem dX11_bound_70 : decode cX11_bound 70 = .ok (.iaload, 1) := by decide +kernel
theorem dX11_bound_71 : decode cX11_bound 71 = .ok (.iload_n 1, 1) := by decide +kernel
theorem dX11_bound_72 : decode cX11_bound 72 = .ok (.if_icmp .ne 13, 3) := by decide +kernel
theorem dX11_bound_75 : decode cX11_bound 75 = .ok (.aload_n 0, 1) := by decide +kernel
theorem dX11_bound_76 : decode cX11_bound 76 = .ok (.getfield 113, 3) := by decide +kernel
theorem dX11_bound_79 : decode cX11_bound 79 = .ok (.iload 4, 2) := by decide +kernel
theorem dX11_bound_81 : decode cX11_bound 81 = .ok (.iaload, 1) := by decide +kernel
theorem dX11_bound_82 : decode cX11_bound 82 = .ok (.goto 10, 3) := by decide +kernel
theorem dX11_bound_85 : decode cX11_bound 85 = .ok (.aload_n 0, 1) := by decide +kernel
theorem dX11_bound_86 : decode cX11_bound 86 = .ok (.getfield 110, 3) := by decide +kernel
theorem dX11_bound_89 : decode cX11_bound 89 = .ok (.iload 4, 2) := by decide +kernel
theorem dX11_bound_91 : decode cX11_bound 91 = .ok (.iaload, 1) := by decide +kernel
theorem dX11_bound_92 : decode cX11_bound 92 = .ok (.ireturn, 1) := by decide +kernel
theorem dX11_bound_93 : decode cX11_bound 93 = .ok (.iinc 4 1, 3) := by decide +kernel
theorem dX11_bound_96 : decode cX11_bound 96 = .ok (.goto (-63), 3) := by decide +kernel
theorem dX11_bound_99 : decode cX11_bound 99 = .ok (.iconst (-1), 1) := by decide +kernel
theorem dX11_bound_100 : decode cX11_bound 100 = .ok (.ireturn, 1) := by decide +kernel
theorem dX11_backOf_0 : decode cX11_backOf 0 = .ok (.aload_n 0, 1) := by decide +kernel
theorem dX11_backOf_1 : decode cX11_backOf 1 = .ok (.getfield 128, 3) := by decide +kernel
theorem dX11_backOf_4 : decode cX11_backOf 4 = .ok (.iload_n 1, 1) := by decide +kernel
theorem dX11_backOf_5 : decode cX11_backOf 5 = .ok (.iaload, 1) := by decide +kernel
theorem dX11_backOf_6 : decode cX11_backOf 6 = .ok (.istore_n 3, 1) := by decide +kernel
theorem dX11_backOf_7 : decode cX11_backOf 7 = .ok (.aload_n 0, 1) := by decide +kernel
theorem dX11_backOf_8 : decode cX11_backOf 8 = .ok (.iload_n 3, 1) := by decide +kernel
theorem dX11_backOf_9 : decode cX11_backOf 9 = .ok (.iload_n 2, 1) := by decide +kernel
theorem dX11_backOf_10 : decode cX11_backOf 10 = .ok (.invokevirtual 379, 3) := by decide +kernel
theorem dX11_backOf_13 : decode cX11_backOf 13 = .ok (.istore 4, 2) := by decide +kernel
theorem dX11_backOf_15 : decode cX11_backOf 15 = .ok (.iload 4, 2) := by decide +kernel
theorem dX11_backOf_17 : decode cX11_backOf 17 = .ok (.iconst 3, 1) := by decide +kernel
theorem dX11_backOf_18 : decode cX11_backOf 18 = .ok (.if_icmp .lt 10, 3) := by decide +kernel
theorem dX11_backOf_21 : decode cX11_backOf 21 = .ok (.iload 4, 2) := by decide +kernel
theorem dX11_backOf_23 : decode cX11_backOf 23 = .ok (.bipush 6, 2) := by decide +kernel
theorem dX11_backOf_25 : decode cX11_backOf 25 = .ok (.if_icmp .ne 5, 3) := by decide +kernel
theorem dX11_backOf_28 : decode cX11_backOf 28 = .ok (.iconst 0, 1) := by decide +kernel
theorem dX11_backOf_29 : decode cX11_backOf 29 = .ok (.ireturn, 1) := by decide +kernel
theorem dX11_backOf_30 : decode cX11_backOf 30 = .ok (.aload_n 0, 1) := by decide +kernel
theorem dX11_backOf_31 : decode cX11_backOf 31 = .ok (.iload_n 3, 1) := by decide +kernel
theorem dX11_backOf_32 : decode cX11_backOf 32 = .ok (.invokevirtual 336, 3) := by decide +kernel
theorem dX11_backOf_35 : decode cX11_backOf 35 = .ok (.aload_n 0, 1) := by decide +kernel
theorem dX11_backOf_36 : decode cX11_backOf 36 = .ok (.getfield 149, 3) := by decide +kernel
theorem dX11_backOf_39 : decode cX11_backOf 39 = .ok (.bipush 10, 2) := by decide +kernel
theorem dX11_backOf_41 : decode cX11_backOf 41 = .ok (.iload 4, 2) := by decide +kernel
theorem dX11_backOf_43 : decode cX11_backOf 43 = .ok (.iastore, 1) := by decide +kernel
theorem dX11_backOf_44 : decode cX11_backOf 44 = .ok (.iload 4, 2) := by decide +kernel
theorem dX11_backOf_46 : decode cX11_backOf 46 = .ok (.bipush 9, 2) := by decide +kernel
theorem dX11_backOf_48 : decode cX11_backOf 48 = .ok (.if_icmp .ne 56, 3) := by decide +kernel
theorem dX11_backOf_51 : decode cX11_backOf 51 = .ok (.aload_n 0, 1) := by decide +kernel
theorem dX11_backOf_52 : decode cX11_backOf 52 = .ok (.getfield 149, 3) := by decide +kernel
theorem dX11_backOf_55 : decode cX11_backOf 55 = .ok (.bipush 10, 2) := by decide +kernel
theorem dX11_backOf_57 : decode cX11_backOf 57 = .ok (.aload_n 0, 1) := by decide +kernel
theorem dX11_backOf_58 : decode cX11_backOf 58 = .ok (.getfield 185, 3) := by decide +kernel
theorem dX11_backOf_61 : decode cX11_backOf 61 = .ok (.iload_n 3, 1) := by decide +kernel
theorem dX11_backOf_62 : decode cX11_backOf 62 = .ok (.iaload, 1) := by decide +kernel
theorem dX11_backOf_63 : decode cX11_backOf 63 = .ok (.iconst 1, 1) := by decide +kernel
theorem dX11_backOf_64 : decode cX11_backOf 64 = .ok (.aload_n 0, 1) := by decide +kernel
theorem dX11_backOf_65 : decode cX11_backOf 65 = .ok (.getfield 131, 3) := by decide +kernel
theorem dX11_backOf_68 : decode cX11_backOf 68 = .ok (.iload_n 1, 1) := by decide +kernel
theorem dX11_backOf_69 : decode cX11_backOf 69 = .ok (.iaload, 1) := by decide +kernel
theorem dX11_backOf_70 : decode cX11_backOf 70 = .ok (.iadd, 1) := by decide +kernel
theorem dX11_backOf_71 : decode cX11_backOf 71 = .ok (.if_icmp .ne 8, 3) := by decide +kernel
theorem dX11_backOf_74 : decode cX11_backOf 74 = .ok (.bipush 9, 2) := by decide +kernel
theorem dX11_backOf_76 : decode cX11_backOf 76 = .ok (.goto 27, 3) := by decide +kernel
theorem dX11_backOf_79 : decode cX11_backOf 79 = .ok (.aload_n 0, 1) := by decide +kernel
theorem dX11_backOf_80 : decode cX11_backOf 80 = .ok (.getfield 185, 3) := by decide +kernel
theorem dX11_backOf_83 : decode cX11_backOf 83 = .ok (.iload_n 3, 1) := by decide +kernel
theorem dX11_backOf_84 : decode cX11_backOf 84 = .ok (.iaload, 1) := by decide +kernel
theorem dX11_backOf_85 : decode cX11_backOf 85 = .ok (.iconst 2, 1) := by decide +kernel
theorem dX11_backOf_86 : decode cX11_backOf 86 = .ok (.aload_n 0, 1) := by decide +kernel
theorem dX11_backOf_87 : decode cX11_backOf 87 = .ok (.getfield 131, 3) := by decide +kernel
theorem dX11_backOf_90 : decode cX11_backOf 90 = .ok (.iload_n 1, 1) := by decide +kernel
theorem dX11_backOf_91 : decode cX11_backOf 91 = .ok (.iaload, 1) := by decide +kernel
theorem dX11_backOf_92 : decode cX11_backOf 92 = .ok (.isub, 1) := by decide +kernel
theorem dX11_backOf_93 : decode cX11_backOf 93 = .ok (.if_icmp .ne 8, 3) := by decide +kernel
theorem dX11_backOf_96 : decode cX11_backOf 96 = .ok (.bipush 10, 2) := by decide +kernel
theorem dX11_backOf_98 : decode cX11_backOf 98 = .ok (.goto 5, 3) := by decide +kernel
theorem dX11_backOf_101 : decode cX11_backOf 101 = .ok (.bipush 11, 2) := by decide +kernel
theorem dX11_backOf_103 : decode cX11_backOf 103 = .ok (.iastore, 1) := by decide +kernel
theorem dX11_backOf_104 : decode cX11_backOf 104 = .ok (.iload 4, 2) := by decide +kernel
theorem dX11_backOf_106 : decode cX11_backOf 106 = .ok (.bipush 6, 2) := by decide +kernel
theorem dX11_backOf_108 : decode cX11_backOf 108 = .ok (.if_icmp .le 23, 3) := by decide +kernel
theorem dX11_backOf_111 : decode cX11_backOf 111 = .ok (.aload_n 0, 1) := by decide +kernel
theorem dX11_backOf_112 : decode cX11_backOf 112 = .ok (.getfield 149, 3) := by decide +kernel
theorem dX11_backOf_115 : decode cX11_backOf 115 = .ok (.bipush 11, 2) := by decide +kernel
theorem dX11_backOf_117 : decode cX11_backOf 117 = .ok (.aload_n 0, 1) := by decide +kernel
theorem dX11_backOf_118 : decode cX11_backOf 118 = .ok (.getfield 176, 3) := by decide +kernel
theorem dX11_backOf_121 : decode cX11_backOf 121 = .ok (.iload_n 3, 1) := by decide +kernel
theorem dX11_backOf_122 : decode cX11_backOf 122 = .ok (.iaload, 1) := by decide +kernel
theorem dX11_backOf_123 : decode cX11_backOf 123 = .ok (.aload_n 0, 1) := by decide +kernel
theorem dX11_backOf_124 : decode cX11_backOf 124 = .ok (.getfield 161, 3) := by decide +kernel
theorem dX11_backOf_127 : decode cX11_backOf 127 = .ok (.iload_n 3, 1) := by decide +kernel
theorem dX11_backOf_128 : decode cX11_backOf 128 = .ok (.iaload, 1) := by decide +kernel
theorem dX11_backOf_129 : decode cX11_backOf 129 = .ok (.isub, 1) := by decide +kernel
theorem dX11_backOf_130 : decode cX11_backOf 130 = .ok (.iastore, 1) := by decide +kernel
theorem dX11_backOf_131 : decode cX11_backOf 131 = .ok (.aload_n 0, 1) := by decide +kernel
theorem dX11_backOf_132 : decode cX11_backOf 132 = .ok (.iload_n 3, 1) := by decide +kernel
theorem dX11_backOf_133 : decode cX11_backOf 133 = .ok (.iconst 4, 1) := by decide +kernel
theorem dX11_backOf_134 : decode cX11_backOf 134 = .ok (.invokevirtual 342, 3) := by decide +kernel
theorem dX11_backOf_137 : decode cX11_backOf 137 = .ok (.istore 5, 2) := by decide +kernel
theorem dX11_backOf_139 : decode cX11_backOf 139 = .ok (.iload 5, 2) := by decide +kernel
theorem dX11_backOf_141 : decode cX11_backOf 141 = .ok (.iconst (-1), 1) := by decide +kernel
theorem dX11_backOf_142 : decode cX11_backOf 142 = .ok (.if_icmp .ne 5, 3) := by decide +kernel
theorem dX11_backOf_145 : decode cX11_backOf 145 = .ok (.iconst 0, 1) := by decide +kernel
theorem dX11_backOf_146 : decode cX11_backOf 146 = .ok (.ireturn, 1) := by decide +kernel
theorem dX11_backOf_147 : decode cX11_backOf 147 = .ok (.bipush 16, 2) := by decide +kernel
theorem dX11_backOf_149 : decode cX11_backOf 149 = .ok (.aload_n 0, 1) := by decide +kernel
theorem dX11_backOf_150 : decode cX11_backOf 150 = .ok (.iload_n 3, 1) := by decide +kernel
theorem dX11_backOf_151 : decode cX11_backOf 151 = .ok (.invokevirtual 326, 3) := by decide +kernel
theorem dX11_backOf_154 : decode cX11_backOf 154 = .ok (.imul, 1) := by decide +kernel
theorem dX11_backOf_155 : decode cX11_backOf 155 = .ok (.iload 5, 2) := by decide +kernel
theorem dX11_backOf_157 : decode cX11_backOf 157 = .ok (.iadd, 1) := by decide +kernel
theorem dX11_backOf_158 : decode cX11_backOf 158 = .ok (.istore 6, 2) := by decide +kernel
theorem dX11_backOf_160 : decode cX11_backOf 160 = .ok (.aload_n 0, 1) := by decide +kernel
theorem dX11_backOf_161 : decode cX11_backOf 161 = .ok (.aload_n 0, 1) := by decide +kernel
theorem dX11_backOf_162 : decode cX11_backOf 162 = .ok (.getfield 55, 3) := by decide +kernel
theorem dX11_backOf_165 : decode cX11_backOf 165 = .ok (.iload 6, 2) := by decide +kernel
theorem dX11_backOf_167 : decode cX11_backOf 167 = .ok (.iaload, 1) := by decide +kernel
theorem dX11_backOf_168 : decode cX11_backOf 168 = .ok (.aload_n 0, 1) := by decide +kernel
theorem dX11_backOf_169 : decode cX11_backOf 169 = .ok (.getfield 58, 3) := by decide +kernel
theorem dX11_backOf_172 : decode cX11_backOf 172 = .ok (.iload 6, 2) := by decide +kernel
theorem dX11_backOf_174 : decode cX11_backOf 174 = .ok (.iaload, 1) := by decide +kernel
theorem dX11_backOf_175 : decode cX11_backOf 175 = .ok (.invokevirtual 329, 3) := by decide +kernel
theorem dX11_backOf_178 : decode cX11_backOf 178 = .ok (.istore 7, 2) := by decide +kernel
theorem dX11_backOf_180 : decode cX11_backOf 180 = .ok (.iload 7, 2) := by decide +kernel
theorem dX11_backOf_182 : decode cX11_backOf 182 = .ok (.ifCond .ge 7, 3) := by decide +kernel
theorem dX11_backOf_185 : decode cX11_backOf 185 = .ok (.iconst 0, 1) := by decide +kernel
theorem dX11_backOf_186 : decode cX11_backOf 186 = .ok (.goto 17, 3) := by decide +kernel
theorem dX11_backOf_189 : decode cX11_backOf 189 = .ok (.iload 7, 2) := by decide +kernel
theorem dX11_backOf_191 : decode cX11_backOf 191 = .ok (.bipush 100, 2) := by decide +kernel
theorem dX11_backOf_193 : decode cX11_backOf 193 = .ok (.if_icmp .le 8, 3) := by decide +kernel
theorem dX11_backOf_196 : decode cX11_backOf 196 = .ok (.bipush 100, 2) := by decide +kernel
theorem dX11_backOf_198 : decode cX11_backOf 198 = .ok (.goto 5, 3) := by decide +kernel
theorem dX11_backOf_201 : decode cX11_backOf 201 = .ok (.iload 7, 2) := by decide +kernel
theorem dX11_backOf_203 : decode cX11_backOf 203 = .ok (.istore 7, 2) := by decide +kernel
theorem dX11_backOf_205 : decode cX11_backOf 205 = .ok (.aload_n 0, 1) := by decide +kernel
theorem dX11_backOf_206 : decode cX11_backOf 206 = .ok (.getfield 134, 3) := by decide +kernel
theorem dX11_backOf_209 : decode cX11_backOf 209 = .ok (.iload_n 1, 1) := by decide +kernel
theorem dX11_backOf_210 : decode cX11_backOf 210 = .ok (.iaload, 1) := by decide +kernel
theorem dX11_backOf_211 : decode cX11_backOf 211 = .ok (.iload 7, 2) := by decide +kernel
theorem dX11_backOf_213 : decode cX11_backOf 213 = .ok (.imul, 1) := by decide +kernel
theorem dX11_backOf_214 : decode cX11_backOf 214 = .ok (.bipush 100, 2) := by decide +kernel
theorem dX11_backOf_216 : decode cX11_backOf 216 = .ok (.idiv, 1) := by decide +kernel
theorem dX11_backOf_217 : decode cX11_backOf 217 = .ok (.ireturn, 1) := by decide +kernel
theorem dX11_goes_0 : decode cX11_goes 0 = .ok (.iload_n 1, 1) := by decide +kernel
theorem dX11_goes_1 : decode cX11_goes 1 = .ok (.ifCond .lt 26, 3) := by decide +kernel
theorem dX11_goes_4 : decode cX11_goes 4 = .ok (.iload_n 1, 1) := by decide +kernel
theorem dX11_goes_5 : decode cX11_goes 5 = .ok (.aload_n 0, 1) := by decide +kernel
theorem dX11_goes_6 : decode cX11_goes 6 = .ok (.getfield 316, 3) := by decide +kernel
theorem dX11_goes_9 : decode cX11_goes 9 = .ok (.if_icmp .ge 18, 3) := by decide +kernel
theorem dX11_goes_12 : decode cX11_goes 12 = .ok (.iload_n 2, 1) := by decide +kernel
theorem dX11_goes_13 : decode cX11_goes 13 = .ok (.invokestatic 259, 3) := by decide +kernel
theorem dX11_goes_16 : decode cX11_goes 16 = .ok (.ifCond .eq 11, 3) := by decide +kernel
theorem dX11_goes_19 : decode cX11_goes 19 = .ok (.aload_n 0, 1) := by decide +kernel
theorem dX11_goes_20 : decode cX11_goes 20 = .ok (.iload_n 3, 1) := by decide +kernel
theorem dX11_goes_21 : decode cX11_goes 21 = .ok (.invokevirtual 373, 3) := by decide +kernel
theorem dX11_goes_24 : decode cX11_goes 24 = .ok (.ifCond .ne 5, 3) := by decide +kernel
theorem dX11_goes_27 : decode cX11_goes 27 = .ok (.iconst (-1), 1) := by decide +kernel
theorem dX11_goes_28 : decode cX11_goes 28 = .ok (.ireturn, 1) := by decide +kernel
theorem dX11_goes_29 : decode cX11_goes 29 = .ok (.aload_n 0, 1) := by decide +kernel
theorem dX11_goes_30 : decode cX11_goes 30 = .ok (.iload_n 3, 1) := by decide +kernel
theorem dX11_goes_31 : decode cX11_goes 31 = .ok (.invokevirtual 376, 3) := by decide +kernel
theorem dX11_goes_34 : decode cX11_goes 34 = .ok (.aload_n 0, 1) := by decide +kernel
theorem dX11_goes_35 : decode cX11_goes 35 = .ok (.iload_n 1, 1) := by decide +kernel
theorem dX11_goes_36 : decode cX11_goes 36 = .ok (.iload_n 2, 1) := by decide +kernel
theorem dX11_goes_37 : decode cX11_goes 37 = .ok (.invokevirtual 382, 3) := by decide +kernel
theorem dX11_goes_40 : decode cX11_goes 40 = .ok (.ireturn, 1) := by decide +kernel
theorem dX11_owes_0 : decode cX11_owes 0 = .ok (.aload_n 0, 1) := by decide +kernel
theorem dX11_owes_1 : decode cX11_owes 1 = .ok (.iload_n 1, 1) := by decide +kernel
theorem dX11_owes_2 : decode cX11_owes 2 = .ok (.invokevirtual 303, 3) := by decide +kernel
theorem dX11_owes_5 : decode cX11_owes 5 = .ok (.ifCond .eq 18, 3) := by decide +kernel
theorem dX11_owes_8 : decode cX11_owes 8 = .ok (.iload_n 2, 1) := by decide +kernel
theorem dX11_owes_9 : decode cX11_owes 9 = .ok (.invokestatic 259, 3) := by decide +kernel
theorem dX11_owes_12 : decode cX11_owes 12 = .ok (.ifCond .eq 11, 3) := by decide +kernel
theorem dX11_owes_15 : decode cX11_owes 15 = .ok (.aload_n 0, 1) := by decide +kernel
theorem dX11_owes_16 : decode cX11_owes 16 = .ok (.iload_n 3, 1) := by decide +kernel
theorem dX11_owes_17 : decode cX11_owes 17 = .ok (.invokevirtual 373, 3) := by decide +kernel
theorem dX11_owes_20 : decode cX11_owes 20 = .ok (.ifCond .ne 5, 3) := by decide +kernel
theorem dX11_owes_23 : decode cX11_owes 23 = .ok (.iconst 0, 1) := by decide +kernel
theorem dX11_owes_24 : decode cX11_owes 24 = .ok (.ireturn, 1) := by decide +kernel
theorem dX11_owes_25 : decode cX11_owes 25 = .ok (.aload_n 0, 1) := by decide +kernel
theorem dX11_owes_26 : decode cX11_owes 26 = .ok (.iload_n 3, 1) := by decide +kernel
theorem dX11_owes_27 : decode cX11_owes 27 = .ok (.invokevirtual 376, 3) := by decide +kernel
theorem dX11_owes_30 : decode cX11_owes 30 = .ok (.iconst 0, 1) := by decide +kernel
theorem dX11_owes_31 : decode cX11_owes 31 = .ok (.istore 4, 2) := by decide +kernel
theorem dX11_owes_33 : decode cX11_owes 33 = .ok (.iconst 0, 1) := by decide +kernel
theorem dX11_owes_34 : decode cX11_owes 34 = .ok (.istore 5, 2) := by decide +kernel
theorem dX11_owes_36 : decode cX11_owes 36 = .ok (.iload 5, 2) := by decide +kernel
theorem dX11_owes_38 : decode cX11_owes 38 = .ok (.aload_n 0, 1) := by decide +kernel
theorem dX11_owes_39 : decode cX11_owes 39 = .ok (.getfield 316, 3) := by decide +kernel
theorem dX11_owes_42 : decode cX11_owes 42 = .ok (.if_icmp .ge 106, 3) := by decide +kernel
theorem dX11_owes_45 : decode cX11_owes 45 = .ok (.aload_n 0, 1) := by decide +kernel
theorem dX11_owes_46 : decode cX11_owes 46 = .ok (.getfield 128, 3) := by decide +kernel
theorem dX11_owes_49 : decode cX11_owes 49 = .ok (.iload 5, 2) := by decide +kernel
theorem dX11_owes_51 : decode cX11_owes 51 = .ok (.iaload, 1) := by decide +kernel
theorem dX11_owes_52 : decode cX11_owes 52 = .ok (.istore 6, 2) := by decide +kernel
theorem dX11_owes_54 : decode cX11_owes 54 = .ok (.aload_n 0, 1) := by decide +kernel
theorem dX11_owes_55 : decode cX11_owes 55 = .ok (.iload_n 1, 1) := by decide +kernel
theorem dX11_owes_56 : decode cX11_owes 56 = .ok (.iload 6, 2) := by decide +kernel
theorem dX11_owes_58 : decode cX11_owes 58 = .ok (.invokevirtual 352, 3) := by decide +kernel
theorem dX11_owes_61 : decode cX11_owes 61 = .ok (.ifCond .ne 6, 3) := by decide +kernel
theorem dX11_owes_64 : decode cX11_owes 64 = .ok (.goto 78, 3) := by decide +kernel
theorem dX11_owes_67 : decode cX11_owes 67 = .ok (.aload_n 0, 1) := by decide +kernel
theorem dX11_owes_68 : decode cX11_owes 68 = .ok (.getfield 131, 3) := by decide +kernel
theorem dX11_owes_71 : decode cX11_owes 71 = .ok (.iload 5, 2) := by decide +kernel
theorem dX11_owes_73 : decode cX11_owes 73 = .ok (.iaload, 1) := by decide +kernel
theorem dX11_owes_74 : decode cX11_owes 74 = .ok (.ifCond .ne 22, 3) := by decide +kernel
theorem dX11_owes_77 : decode cX11_owes 77 = .ok (.aload_n 0, 1) := by decide +kernel
theorem dX11_owes_78 : decode cX11_owes 78 = .ok (.getfield 110, 3) := by decide +kernel
theorem dX11_owes_81 : decode cX11_owes 81 = .ok (.iload 6, 2) := by decide +kernel
theorem dX11_owes_83 : decode cX11_owes 83 = .ok (.iaload, 1) := by decide +kernel
theorem dX11_owes_84 : decode cX11_owes 84 = .ok (.iload_n 1, 1) := by decide +kernel
theorem dX11_owes_85 : decode cX11_owes 85 = .ok (.if_icmp .ne 7, 3) := by decide +kernel
theorem dX11_owes_88 : decode cX11_owes 88 = .ok (.iconst 1, 1) := by decide +kernel
theorem dX11_owes_89 : decode cX11_owes 89 = .ok (.goto 23, 3) := by decide +kernel
theorem dX11_owes_92 : decode cX11_owes 92 = .ok (.iconst 0, 1) := by decide +kernel
theorem dX11_owes_93 : decode cX11_owes 93 = .ok (.goto 19, 3) := by decide +kernel
theorem dX11_owes_96 : decode cX11_owes 96 = .ok (.aload_n 0, 1) := by decide +kernel
theorem dX11_owes_97 : decode cX11_owes 97 = .ok (.getfield 113, 3) := by decide +kernel
theorem dX11_owes_100 : decode cX11_owes 100 = .ok (.iload 6, 2) := by decide +kernel
theorem dX11_owes_102 : decode cX11_owes 102 = .ok (.iaload, 1) := by decide +kernel
theorem dX11_owes_103 : decode cX11_owes 103 = .ok (.iload_n 1, 1) := by decide +kernel
theorem dX11_owes_104 : decode cX11_owes 104 = .ok (.if_icmp .ne 7, 3) := by decide +kernel
theorem dX11_owes_107 : decode cX11_owes 107 = .ok (.iconst 1, 1) := by decide +kernel
theorem dX11_owes_108 : decode cX11_owes 108 = .ok (.goto 4, 3) := by decide +kernel
theorem dX11_owes_111 : decode cX11_owes 111 = .ok (.iconst 0, 1) := by decide +kernel
theorem dX11_owes_112 : decode cX11_owes 112 = .ok (.istore 7, 2) := by decide +kernel
theorem dX11_owes_114 : decode cX11_owes 114 = .ok (.iload 4, 2) := by decide +kernel
theorem dX11_owes_116 : decode cX11_owes 116 = .ok (.iload 7, 2) := by decide +kernel
theorem dX11_owes_118 : decode cX11_owes 118 = .ok (.ifCond .eq 14, 3) := by decide +kernel
theorem dX11_owes_121 : decode cX11_owes 121 = .ok (.aload_n 0, 1) := by decide +kernel
theorem dX11_owes_122 : decode cX11_owes 122 = .ok (.iload 5, 2) := by decide +kernel
theorem dX11_owes_124 : decode cX11_owes 124 = .ok (.iload_n 2, 1) := by decide +kernel
theorem dX11_owes_125 : decode cX11_owes 125 = .ok (.invokevirtual 382, 3) := by decide +kernel
theorem dX11_owes_128 : decode cX11_owes 128 = .ok (.ineg, 1) := by decide +kernel
theorem dX11_owes_129 : decode cX11_owes 129 = .ok (.goto 10, 3) := by decide +kernel
theorem dX11_owes_132 : decode cX11_owes 132 = .ok (.aload_n 0, 1) := by decide +kernel
theorem dX11_owes_133 : decode cX11_owes 133 = .ok (.iload 5, 2) := by decide +kernel
theorem dX11_owes_135 : decode cX11_owes 135 = .ok (.iload_n 2, 1) := by decide +kernel
theorem dX11_owes_136 : decode cX11_owes 136 = .ok (.invokevirtual 382, 3) := by decide +kernel
theorem dX11_owes_139 : decode cX11_owes 139 = .ok (.iadd, 1) := by decide +kernel
theorem dX11_owes_140 : decode cX11_owes 140 = .ok (.istore 4, 2) := by decide +kernel
theorem dX11_owes_142 : decode cX11_owes 142 = .ok (.iinc 5 1, 3) := by decide +kernel
theorem dX11_owes_145 : decode cX11_owes 145 = .ok (.goto (-109), 3) := by decide +kernel
theorem dX11_owes_148 : decode cX11_owes 148 = .ok (.iload 4, 2) := by decide +kernel
theorem dX11_owes_150 : decode cX11_owes 150 = .ok (.ireturn, 1) := by decide +kernel
theorem dX11_changed_0 : decode cX11_changed 0 = .ok (.iload_n 1, 1) := by decide +kernel
theorem dX11_changed_1 : decode cX11_changed 1 = .ok (.invokestatic 259, 3) := by decide +kernel
theorem dX11_changed_4 : decode cX11_changed 4 = .ok (.ifCond .eq 19, 3) := by decide +kernel
theorem dX11_changed_7 : decode cX11_changed 7 = .ok (.aload_n 0, 1) := by decide +kernel
theorem dX11_changed_8 : decode cX11_changed 8 = .ok (.iload_n 2, 1) := by decide +kernel
theorem dX11_changed_9 : decode cX11_changed 9 = .ok (.invokevirtual 373, 3) := by decide +kernel
theorem dX11_changed_12 : decode cX11_changed 12 = .ok (.ifCond .eq 11, 3) := by decide +kernel
theorem dX11_changed_15 : decode cX11_changed 15 = .ok (.aload_n 0, 1) := by decide +kernel
theorem dX11_changed_16 : decode cX11_changed 16 = .ok (.iload_n 3, 1) := by decide +kernel
theorem dX11_changed_17 : decode cX11_changed 17 = .ok (.invokevirtual 373, 3) := by decide +kernel
theorem dX11_changed_20 : decode cX11_changed 20 = .ok (.ifCond .ne 5, 3) := by decide +kernel
theorem dX11_changed_23 : decode cX11_changed 23 = .ok (.iconst (-1), 1) := by decide +kernel
theorem dX11_changed_24 : decode cX11_changed 24 = .ok (.ireturn, 1) := by decide +kernel
theorem dX11_changed_25 : decode cX11_changed 25 = .ok (.aload_n 0, 1) := by decide +kernel
theorem dX11_changed_26 : decode cX11_changed 26 = .ok (.iload_n 2, 1) := by decide +kernel
theorem dX11_changed_27 : decode cX11_changed 27 = .ok (.invokevirtual 376, 3) := by decide +kernel
theorem dX11_changed_30 : decode cX11_changed 30 = .ok (.iconst 0, 1) := by decide +kernel
theorem dX11_changed_31 : decode cX11_changed 31 = .ok (.istore 4, 2) := by decide +kernel
theorem dX11_changed_33 : decode cX11_changed 33 = .ok (.iload 4, 2) := by decide +kernel
theorem dX11_changed_35 : decode cX11_changed 35 = .ok (.aload_n 0, 1) := by decide +kernel
theorem dX11_changed_36 : decode cX11_changed 36 = .ok (.getfield 310, 3) := by decide +kernel
theorem dX11_changed_39 : decode cX11_changed 39 = .ok (.if_icmp .ge 23, 3) := by decide +kernel
theorem dX11_changed_42 : decode cX11_changed 42 = .ok (.aload_n 0, 1) := by decide +kernel
theorem dX11_changed_43 : decode cX11_changed 43 = .ok (.getfield 191, 3) := by decide +kernel
theorem dX11_changed_46 : decode cX11_changed 46 = .ok (.iload 4, 2) := by decide +kernel
theorem dX11_changed_48 : decode cX11_changed 48 = .ok (.aload_n 0, 1) := by decide +kernel
theorem dX11_changed_49 : decode cX11_changed 49 = .ok (.iload 4, 2) := by decide +kernel
theorem dX11_changed_51 : decode cX11_changed 51 = .ok (.iload_n 1, 1) := by decide +kernel
theorem dX11_changed_52 : decode cX11_changed 52 = .ok (.invokevirtual 379, 3) := by decide +kernel
theorem dX11_changed_55 : decode cX11_changed 55 = .ok (.iastore, 1) := by decide +kernel
theorem dX11_changed_56 : decode cX11_changed 56 = .ok (.iinc 4 1, 3) := by decide +kernel
theorem dX11_changed_59 : decode cX11_changed 59 = .ok (.goto (-26), 3) := by decide +kernel
theorem dX11_changed_62 : decode cX11_changed 62 = .ok (.aload_n 0, 1) := by decide +kernel
theorem dX11_changed_63 : decode cX11_changed 63 = .ok (.iload_n 3, 1) := by decide +kernel
theorem dX11_changed_64 : decode cX11_changed 64 = .ok (.invokevirtual 376, 3) := by decide +kernel
theorem dX11_changed_67 : decode cX11_changed 67 = .ok (.iconst 0, 1) := by decide +kernel
theorem dX11_changed_68 : decode cX11_changed 68 = .ok (.istore 4, 2) := by decide +kernel
theorem dX11_changed_70 : decode cX11_changed 70 = .ok (.iload 4, 2) := by decide +kernel
theorem dX11_changed_72 : decode cX11_changed 72 = .ok (.aload_n 0, 1) := by decide +kernel
theorem dX11_changed_73 : decode cX11_changed 73 = .ok (.getfield 310, 3) := by decide +kernel
theorem dX11_changed_76 : decode cX11_changed 76 = .ok (.if_icmp .ge 29, 3) := by decide +kernel
theorem dX11_changed_79 : decode cX11_changed 79 = .ok (.aload_n 0, 1) := by decide +kernel
theorem dX11_changed_80 : decode cX11_changed 80 = .ok (.iload 4, 2) := by decide +kernel
theorem dX11_changed_82 : decode cX11_changed 82 = .ok (.iload_n 1, 1) := by decide +kernel
theorem dX11_changed_83 : decode cX11_changed 83 = .ok (.invokevirtual 379, 3) := by decide +kernel
theorem dX11_changed_86 : decode cX11_changed 86 = .ok (.aload_n 0, 1) := by decide +kernel
theorem dX11_changed_87 : decode cX11_changed 87 = .ok (.getfield 191, 3) := by decide +kernel
theorem dX11_changed_90 : decode cX11_changed 90 = .ok (.iload 4, 2) := by decide +kernel
theorem dX11_changed_92 : decode cX11_changed 92 = .ok (.iaload, 1) := by decide +kernel
theorem dX11_changed_93 : decode cX11_changed 93 = .ok (.if_icmp .eq 6, 3) := by decide +kernel
theorem dX11_changed_96 : decode cX11_changed 96 = .ok (.iload 4, 2) := by decide +kernel
theorem dX11_changed_98 : decode cX11_changed 98 = .ok (.ireturn, 1) := by decide +kernel
theorem dX11_changed_99 : decode cX11_changed 99 = .ok (.iinc 4 1, 3) := by decide +kernel
theorem dX11_changed_102 : decode cX11_changed 102 = .ok (.goto (-32), 3) := by decide +kernel
theorem dX11_changed_105 : decode cX11_changed 105 = .ok (.iconst (-1), 1) := by decide +kernel
theorem dX11_changed_106 : decode cX11_changed 106 = .ok (.ireturn, 1) := by decide +kernel
theorem dX11_count_0 : decode cX11_count 0 = .ok (.iload_n 1, 1) := by decide +kernel
theorem dX11_count_1 : decode cX11_count 1 = .ok (.tableswitch 69 0 5 #[39, 44, 49, 54, 59, 64], 39) := by decide +kernel
theorem dX11_count_40 : decode cX11_count 40 = .ok (.aload_n 0, 1) := by decide +kernel
theorem dX11_count_41 : decode cX11_count 41 = .ok (.getfield 300, 3) := by decide +kernel
theorem dX11_count_44 : decode cX11_count 44 = .ok (.ireturn, 1) := by decide +kernel
theorem dX11_count_45 : decode cX11_count 45 = .ok (.aload_n 0, 1) := by decide +kernel
theorem dX11_count_46 : decode cX11_count 46 = .ok (.getfield 310, 3) := by decide +kernel
theorem dX11_count_49 : decode cX11_count 49 = .ok (.ireturn, 1) := by decide +kernel
theorem dX11_count_50 : decode cX11_count 50 = .ok (.aload_n 0, 1) := by decide +kernel
theorem dX11_count_51 : decode cX11_count 51 = .ok (.getfield 316, 3) := by decide +kernel
theorem dX11_count_54 : decode cX11_count 54 = .ok (.ireturn, 1) := by decide +kernel
theorem dX11_count_55 : decode cX11_count 55 = .ok (.aload_n 0, 1) := by decide +kernel
theorem dX11_count_56 : decode cX11_count 56 = .ok (.getfield 313, 3) := by decide +kernel
theorem dX11_count_59 : decode cX11_count 59 = .ok (.ireturn, 1) := by decide +kernel
theorem dX11_count_60 : decode cX11_count 60 = .ok (.aload_n 0, 1) := by decide +kernel
theorem dX11_count_61 : decode cX11_count 61 = .ok (.getfield 262, 3) := by decide +kernel
theorem dX11_count_64 : decode cX11_count 64 = .ok (.ireturn, 1) := by decide +kernel
theorem dX11_count_65 : decode cX11_count 65 = .ok (.aload_n 0, 1) := by decide +kernel
theorem dX11_count_66 : decode cX11_count 66 = .ok (.getfield 198, 3) := by decide +kernel
theorem dX11_count_69 : decode cX11_count 69 = .ok (.ireturn, 1) := by decide +kernel
theorem dX11_count_70 : decode cX11_count 70 = .ok (.iconst (-1), 1) := by decide +kernel
theorem dX11_count_71 : decode cX11_count 71 = .ok (.ireturn, 1) := by decide +kernel
