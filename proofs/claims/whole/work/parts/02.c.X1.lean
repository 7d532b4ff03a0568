theorem dX1_init_0 : decode cX1_init 0 = .ok (.aload_n 0, 1) := by decide +kernel
theorem dX1_init_1 : decode cX1_init 1 = .ok (.invokespecial 3, 3) := by decide +kernel
theorem dX1_init_4 : decode cX1_init 4 = .ok (.aload_n 0, 1) := by decide +kernel
theorem dX1_init_5 : decode cX1_init 5 = .ok (.bipush 12, 2) := by decide +kernel
theorem dX1_init_7 : decode cX1_init 7 = .ok (.newarray .int, 2) := by decide +kernel
theorem dX1_init_9 : decode cX1_init 9 = .ok (.putfield 9, 3) := by decide +kernel
theorem dX1_init_12 : decode cX1_init 12 = .ok (.aload_n 0, 1) := by decide +kernel
theorem dX1_init_13 : decode cX1_init 13 = .ok (.bipush 12, 2) := by decide +kernel
theorem dX1_init_15 : decode cX1_init 15 = .ok (.newarray .int, 2) := by decide +kernel
theorem dX1_init_17 : decode cX1_init 17 = .ok (.putfield 15, 3) := by decide +kernel
theorem dX1_init_20 : decode cX1_init 20 = .ok (.aload_n 0, 1) := by decide +kernel
theorem dX1_init_21 : decode cX1_init 21 = .ok (.bipush 12, 2) := by decide +kernel
theorem dX1_init_23 : decode cX1_init 23 = .ok (.newarray .int, 2) := by decide +kernel
theorem dX1_init_25 : decode cX1_init 25 = .ok (.putfield 18, 3) := by decide +kernel
theorem dX1_init_28 : decode cX1_init 28 = .ok (.aload_n 0, 1) := by decide +kernel
theorem dX1_init_29 : decode cX1_init 29 = .ok (.sipush 144, 3) := by decide +kernel
theorem dX1_init_32 : decode cX1_init 32 = .ok (.newarray .int, 2) := by decide +kernel
theorem dX1_init_34 : decode cX1_init 34 = .ok (.putfield 21, 3) := by decide +kernel
theorem dX1_init_37 : decode cX1_init 37 = .ok (.aload_n 0, 1) := by decide +kernel
theorem dX1_init_38 : decode cX1_init 38 = .ok (.bipush 16, 2) := by decide +kernel
theorem dX1_init_40 : decode cX1_init 40 = .ok (.newarray .int, 2) := by decide +kernel
theorem dX1_init_42 : decode cX1_init 42 = .ok (.putfield 24, 3) := by decide +kernel
theorem dX1_init_45 : decode cX1_init 45 = .ok (.aload_n 0, 1) := by decide +kernel
theorem dX1_init_46 : decode cX1_init 46 = .ok (.iconst 0, 1) := by decide +kernel
theorem dX1_init_47 : decode cX1_init 47 = .ok (.putfield 27, 3) := by decide +kernel
theorem dX1_init_50 : decode cX1_init 50 = .ok (.return_, 1) := by decide +kernel
theorem dX1_has_0 : decode cX1_has 0 = .ok (.iload_n 1, 1) := by decide +kernel
theorem dX1_has_1 : decode cX1_has 1 = .ok (.ifCond .lt 15, 3) := by decide +kernel
theorem dX1_has_4 : decode cX1_has 4 = .ok (.iload_n 1, 1) := by decide +kernel
theorem dX1_has_5 : decode cX1_has 5 = .ok (.aload_n 0, 1) := by decide +kernel
theorem dX1_has_6 : decode cX1_has 6 = .ok (.getfield 27, 3) := by decide +kernel
theorem dX1_has_9 : decode cX1_has 9 = .ok (.if_icmp .ge 7, 3) := by decide +kernel
theorem dX1_has_12 : decode cX1_has 12 = .ok (.iconst 1, 1) := by decide +kernel
theorem dX1_has_13 : decode cX1_has 13 = .ok (.goto 4, 3) := by decide +kernel
theorem dX1_has_16 : decode cX1_has 16 = .ok (.iconst 0, 1) := by decide +kernel
theorem dX1_has_17 : decode cX1_has 17 = .ok (.ireturn, 1) := by decide +kernel
theorem dX1_canBear_0 : decode cX1_canBear 0 = .ok (.iload_n 1, 1) := by decide +kernel
theorem dX1_canBear_1 : decode cX1_canBear 1 = .ok (.iconst (-1), 1) := by decide +kernel
theorem dX1_canBear_2 : decode cX1_canBear 2 = .ok (.if_icmp .eq 21, 3) := by decide +kernel
theorem dX1_canBear_5 : decode cX1_canBear 5 = .ok (.aload_n 0, 1) := by decide +kernel
theorem dX1_canBear_6 : decode cX1_canBear 6 = .ok (.iload_n 1, 1) := by decide +kernel
theorem dX1_canBear_7 : decode cX1_canBear 7 = .ok (.invokevirtual 31, 3) := by decide +kernel
theorem dX1_canBear_10 : decode cX1_canBear 10 = .ok (.ifCond .eq 17, 3) := by decide +kernel
theorem dX1_canBear_13 : decode cX1_canBear 13 = .ok (.aload_n 0, 1) := by decide +kernel
theorem dX1_canBear_14 : decode cX1_canBear 14 = .ok (.getfield 18, 3) := by decide +kernel
theorem dX1_canBear_17 : decode cX1_canBear 17 = .ok (.iload_n 1, 1) := by decide +kernel
theorem dX1_canBear_18 : decode cX1_canBear 18 = .ok (.iaload, 1) := by decide +kernel
theorem dX1_canBear_19 : decode cX1_canBear 19 = .ok (.iload_n 2, 1) := by decide +kernel
theorem dX1_canBear_20 : decode cX1_canBear 20 = .ok (.if_icmp .ge 7, 3) := by decide +kernel
theorem dX1_canBear_23 : decode cX1_canBear 23 = .ok (.iconst 1, 1) := by decide +kernel
theorem dX1_canBear_24 : decode cX1_canBear 24 = .ok (.goto 4, 3) := by decide +kernel
theorem dX1_canBear_27 : decode cX1_canBear 27 = .ok (.iconst 0, 1) := by decide +kernel
theorem dX1_canBear_28 : decode cX1_canBear 28 = .ok (.ireturn, 1) := by decide +kernel
theorem dX1_add_0 : decode cX1_add 0 = .ok (.aload_n 0, 1) := by decide +kernel
theorem dX1_add_1 : decode cX1_add 1 = .ok (.getfield 27, 3) := by decide +kernel
theorem dX1_add_4 : decode cX1_add 4 = .ok (.bipush 12, 2) := by decide +kernel
theorem dX1_add_6 : decode cX1_add 6 = .ok (.if_icmp .lt 5, 3) := by decide +kernel
theorem dX1_add_9 : decode cX1_add 9 = .ok (.iconst (-1), 1) := by decide +kernel
theorem dX1_add_10 : decode cX1_add 10 = .ok (.ireturn, 1) := by decide +kernel
theorem dX1_add_11 : decode cX1_add 11 = .ok (.aload_n 0, 1) := by decide +kernel
theorem dX1_add_12 : decode cX1_add 12 = .ok (.getfield 27, 3) := by decide +kernel
theorem dX1_add_15 : decode cX1_add 15 = .ok (.istore 4, 2) := by decide +kernel
theorem dX1_add_17 : decode cX1_add 17 = .ok (.aload_n 0, 1) := by decide +kernel
theorem dX1_add_18 : decode cX1_add 18 = .ok (.getfield 9, 3) := by decide +kernel
theorem dX1_add_21 : decode cX1_add 21 = .ok (.iload 4, 2) := by decide +kernel
theorem dX1_add_23 : decode cX1_add 23 = .ok (.iload_n 1, 1) := by decide +kernel
theorem dX1_add_24 : decode cX1_add 24 = .ok (.iastore, 1) := by decide +kernel
theorem dX1_add_25 : decode cX1_add 25 = .ok (.aload_n 0, 1) := by decide +kernel
theorem dX1_add_26 : decode cX1_add 26 = .ok (.getfield 15, 3) := by decide +kernel
theorem dX1_add_29 : decode cX1_add 29 = .ok (.iload 4, 2) := by decide +kernel
theorem dX1_add_31 : decode cX1_add 31 = .ok (.iload_n 2, 1) := by decide +kernel
theorem dX1_add_32 : decode cX1_add 32 = .ok (.iastore, 1) := by decide +kernel
theorem dX1_add_33 : decode cX1_add 33 = .ok (.aload_n 0, 1) := by decide +kernel
theorem dX1_add_34 : decode cX1_add 34 = .ok (.getfield 18, 3) := by decide +kernel
theorem dX1_add_37 : decode cX1_add 37 = .ok (.iload 4, 2) := by decide +kernel
theorem dX1_add_39 : decode cX1_add 39 = .ok (.iload_n 3, 1) := by decide +kernel
theorem dX1_add_40 : decode cX1_add 40 = .ok (.iastore, 1) := by decide +kernel
theorem dX1_add_41 : decode cX1_add 41 = .ok (.aload_n 0, 1) := by decide +kernel
theorem dX1_add_42 : decode cX1_add 42 = .ok (.dup, 1) := by decide +kernel
theorem dX1_add_43 : decode cX1_add 43 = .ok (.getfield 27, 3) := by decide +kernel
theorem dX1_add_46 : decode cX1_add 46 = .ok (.iconst 1, 1) := by decide +kernel
theorem dX1_add_47 : decode cX1_add 47 = .ok (.iadd, 1) := by decide +kernel
theorem dX1_add_48 : decode cX1_add 48 = .ok (.putfield 27, 3) := by decide +kernel
theorem dX1_add_51 : decode cX1_add 51 = .ok (.iconst 0, 1) := by decide +kernel
theorem dX1_add_52 : decode cX1_add 52 = .ok (.istore 5, 2) := by decide +kernel
theorem dX1_add_54 : decode cX1_add 54 = .ok (.iload 5, 2) := by decide +kernel
theorem dX1_add_56 : decode cX1_add 56 = .ok (.bipush 12, 2) := by decide +kernel
theorem dX1_add_58 : decode cX1_add 58 = .ok (.if_icmp .ge 50, 3) := by decide +kernel
theorem dX1_add_61 : decode cX1_add 61 = .ok (.aload_n 0, 1) := by decide +kernel
theorem dX1_add_62 : decode cX1_add 62 = .ok (.iload_n 1, 1) := by decide +kernel
theorem dX1_add_63 : decode cX1_add 63 = .ok (.iload 5, 2) := by decide +kernel
theorem dX1_add_65 : decode cX1_add 65 = .ok (.invokevirtual 35, 3) := by decide +kernel
theorem dX1_add_68 : decode cX1_add 68 = .ok (.aload_n 0, 1) := by decide +kernel
theorem dX1_add_69 : decode cX1_add 69 = .ok (.iload_n 2, 1) := by decide +kernel
theorem dX1_add_70 : decode cX1_add 70 = .ok (.iload 5, 2) := by decide +kernel
theorem dX1_add_72 : decode cX1_add 72 = .ok (.invokevirtual 35, 3) := by decide +kernel
theorem dX1_add_75 : decode cX1_add 75 = .ok (.invokestatic 39, 3) := by decide +kernel
theorem dX1_add_78 : decode cX1_add 78 = .ok (.istore 6, 2) := by decide +kernel
theorem dX1_add_80 : decode cX1_add 80 = .ok (.aload_n 0, 1) := by decide +kernel
theorem dX1_add_81 : decode cX1_add 81 = .ok (.getfield 21, 3) := by decide +kernel
theorem dX1_add_84 : decode cX1_add 84 = .ok (.iload 4, 2) := by decide +kernel
theorem dX1_add_86 : decode cX1_add 86 = .ok (.bipush 12, 2) := by decide +kernel
theorem dX1_add_88 : decode cX1_add 88 = .ok (.imul, 1) := by decide +kernel
theorem dX1_add_89 : decode cX1_add 89 = .ok (.iload 5, 2) := by decide +kernel
theorem dX1_add_91 : decode cX1_add 91 = .ok (.iadd, 1) := by decide +kernel
theorem dX1_add_92 : decode cX1_add 92 = .ok (.bipush 99, 2) := by decide +kernel
theorem dX1_add_94 : decode cX1_add 94 = .ok (.iload 6, 2) := by decide +kernel
theorem dX1_add_96 : decode cX1_add 96 = .ok (.iconst 1, 1) := by decide +kernel
theorem dX1_add_97 : decode cX1_add 97 = .ok (.iadd, 1) := by decide +kernel
theorem dX1_add_98 : decode cX1_add 98 = .ok (.invokestatic 39, 3) := by decide +kernel
theorem dX1_add_101 : decode cX1_add 101 = .ok (.iastore, 1) := by decide +kernel
theorem dX1_add_102 : decode cX1_add 102 = .ok (.iinc 5 1, 3) := by decide +kernel
theorem dX1_add_105 : decode cX1_add 105 = .ok (.goto (-51), 3) := by decide +kernel
theorem dX1_add_108 : decode cX1_add 108 = .ok (.aload_n 0, 1) := by decide +kernel
theorem dX1_add_109 : decode cX1_add 109 = .ok (.getfield 21, 3) := by decide +kernel
theorem dX1_add_112 : decode cX1_add 112 = .ok (.iload 4, 2) := by decide +kernel
theorem dX1_add_114 : decode cX1_add 114 = .ok (.bipush 12, 2) := by decide +kernel
theorem dX1_add_116 : decode cX1_add 116 = .ok (.imul, 1) := by decide +kernel
theorem dX1_add_117 : decode cX1_add 117 = .ok (.iload 4, 2) := by decide +kernel
theorem dX1_add_119 : decode cX1_add 119 = .ok (.iadd, 1) := by decide +kernel
theorem dX1_add_120 : decode cX1_add 120 = .ok (.iconst 0, 1) := by decide +kernel
theorem dX1_add_121 : decode cX1_add 121 = .ok (.iastore, 1) := by decide +kernel
theorem dX1_add_122 : decode cX1_add 122 = .ok (.iload 4, 2) := by decide +kernel
theorem dX1_add_124 : decode cX1_add 124 = .ok (.ireturn, 1) := by decide +kernel
theorem dX1_stepsTo_0 : decode cX1_stepsTo 0 = .ok (.aload_n 0, 1) := by decide +kernel
theorem dX1_stepsTo_1 : decode cX1_stepsTo 1 = .ok (.iload_n 1, 1) := by decide +kernel
theorem dX1_stepsTo_2 : decode cX1_stepsTo 2 = .ok (.invokevirtual 31, 3) := by decide +kernel
theorem dX1_stepsTo_5 : decode cX1_stepsTo 5 = .ok (.ifCond .eq 17, 3) := by decide +kernel
theorem dX1_stepsTo_8 : decode cX1_stepsTo 8 = .ok (.aload_n 0, 1) := by decide +kernel
theorem dX1_stepsTo_9 : decode cX1_stepsTo 9 = .ok (.getfield 21, 3) := by decide +kernel
theorem dX1_stepsTo_12 : decode cX1_stepsTo 12 = .ok (.iload_n 1, 1) := by decide +kernel
theorem dX1_stepsTo_13 : decode cX1_stepsTo 13 = .ok (.bipush 12, 2) := by decide +kernel
theorem dX1_stepsTo_15 : decode cX1_stepsTo 15 = .ok (.imul, 1) := by decide +kernel
theorem dX1_stepsTo_16 : decode cX1_stepsTo 16 = .ok (.iload_n 2, 1) := by decide +kernel
theorem dX1_stepsTo_17 : decode cX1_stepsTo 17 = .ok (.iadd, 1) := by decide +kernel
theorem dX1_stepsTo_18 : decode cX1_stepsTo 18 = .ok (.iaload, 1) := by decide +kernel
theorem dX1_stepsTo_19 : decode cX1_stepsTo 19 = .ok (.goto 5, 3) := by decide +kernel
theorem dX1_stepsTo_22 : decode cX1_stepsTo 22 = .ok (.bipush 99, 2) := by decide +kernel
theorem dX1_stepsTo_24 : decode cX1_stepsTo 24 = .ok (.ireturn, 1) := by decide +kernel
theorem dX1_degreeOf_0 : decode cX1_degreeOf 0 = .ok (.bipush 99, 2) := by decide +kernel
theorem dX1_degreeOf_2 : decode cX1_degreeOf 2 = .ok (.istore_n 3, 1) := by decide +kernel
theorem dX1_degreeOf_3 : decode cX1_degreeOf 3 = .ok (.iconst 0, 1) := by decide +kernel
theorem dX1_degreeOf_4 : decode cX1_degreeOf 4 = .ok (.istore 4, 2) := by decide +kernel
theorem dX1_degreeOf_6 : decode cX1_degreeOf 6 = .ok (.iload 4, 2) := by decide +kernel
theorem dX1_degreeOf_8 : decode cX1_degreeOf 8 = .ok (.aload_n 0, 1) := by decide +kernel
theorem dX1_degreeOf_9 : decode cX1_degreeOf 9 = .ok (.getfield 27, 3) := by decide +kernel
theorem dX1_degreeOf_12 : decode cX1_degreeOf 12 = .ok (.if_icmp .ge 31, 3) := by decide +kernel
theorem dX1_degreeOf_15 : decode cX1_degreeOf 15 = .ok (.iload_n 3, 1) := by decide +kernel
theorem dX1_degreeOf_16 : decode cX1_degreeOf 16 = .ok (.aload_n 0, 1) := by decide +kernel
theorem dX1_degreeOf_17 : decode cX1_degreeOf 17 = .ok (.iload_n 1, 1) := by decide +kernel
theorem dX1_degreeOf_18 : decode cX1_degreeOf 18 = .ok (.iload 4, 2) := by decide +kernel
theorem dX1_degreeOf_20 : decode cX1_degreeOf 20 = .ok (.invokevirtual 35, 3) := by decide +kernel
theorem dX1_degreeOf_23 : decode cX1_degreeOf 23 = .ok (.aload_n 0, 1) := by decide +kernel
theorem dX1_degreeOf_24 : decode cX1_degreeOf 24 = .ok (.iload_n 2, 1) := by decide +kernel
theorem dX1_degreeOf_25 : decode cX1_degreeOf 25 = .ok (.iload 4, 2) := by decide +kernel
theorem dX1_degreeOf_27 : decode cX1_degreeOf 27 = .ok (.invokevirtual 35, 3) := by decide +kernel
theorem dX1_degreeOf_30 : decode cX1_degreeOf 30 = .ok (.invokestatic 44, 3) := by decide +kernel
theorem dX1_degreeOf_33 : decode cX1_degreeOf 33 = .ok (.invokestatic 39, 3) := by decide +kernel
theorem dX1_degreeOf_36 : decode cX1_degreeOf 36 = .ok (.istore_n 3, 1) := by decide +kernel
theorem dX1_degreeOf_37 : decode cX1_degreeOf 37 = .ok (.iinc 4 1, 3) := by decide +kernel
theorem dX1_degreeOf_40 : decode cX1_degreeOf 40 = .ok (.goto (-34), 3) := by decide +kernel
theorem dX1_degreeOf_43 : decode cX1_degreeOf 43 = .ok (.iload_n 3, 1) := by decide +kernel
theorem dX1_degreeOf_44 : decode cX1_degreeOf 44 = .ok (.ireturn, 1) := by decide +kernel
theorem dX1_gapsOf_0 : decode cX1_gapsOf 0 = .ok (.iconst 0, 1) := by decide +kernel
theorem dX1_gapsOf_1 : decode cX1_gapsOf 1 = .ok (.istore_n 2, 1) := by decide +kernel
theorem dX1_gapsOf_2 : decode cX1_gapsOf 2 = .ok (.aload_n 0, 1) := by decide +kernel
theorem dX1_gapsOf_3 : decode cX1_gapsOf 3 = .ok (.getfield 24, 3) := by decide +kernel
theorem dX1_gapsOf_6 : decode cX1_gapsOf 6 = .ok (.iconst 1, 1) := by decide +kernel
theorem dX1_gapsOf_7 : decode cX1_gapsOf 7 = .ok (.iload_n 1, 1) := by decide +kernel
theorem dX1_gapsOf_8 : decode cX1_gapsOf 8 = .ok (.iastore, 1) := by decide +kernel
theorem dX1_gapsOf_9 : decode cX1_gapsOf 9 = .ok (.iconst 2, 1) := by decide +kernel
theorem dX1_gapsOf_10 : decode cX1_gapsOf 10 = .ok (.istore_n 3, 1) := by decide +kernel
theorem dX1_gapsOf_11 : decode cX1_gapsOf 11 = .ok (.iload_n 3, 1) := by decide +kernel
theorem dX1_gapsOf_12 : decode cX1_gapsOf 12 = .ok (.aload_n 0, 1) := by decide +kernel
theorem dX1_gapsOf_13 : decode cX1_gapsOf 13 = .ok (.getfield 24, 3) := by decide +kernel
theorem dX1_gapsOf_16 : decode cX1_gapsOf 16 = .ok (.arraylength, 1) := by decide +kernel
theorem dX1_gapsOf_17 : decode cX1_gapsOf 17 = .ok (.if_icmp .ge 60, 3) := by decide +kernel
theorem dX1_gapsOf_20 : decode cX1_gapsOf 20 = .ok (.aload_n 0, 1) := by decide +kernel
theorem dX1_gapsOf_21 : decode cX1_gapsOf 21 = .ok (.getfield 24, 3) := by decide +kernel
theorem dX1_gapsOf_24 : decode cX1_gapsOf 24 = .ok (.iload_n 3, 1) := by decide +kernel
theorem dX1_gapsOf_25 : decode cX1_gapsOf 25 = .ok (.iconst 2, 1) := by decide +kernel
theorem dX1_gapsOf_26 : decode cX1_gapsOf 26 = .ok (.idiv, 1) := by decide +kernel
theorem dX1_gapsOf_27 : decode cX1_gapsOf 27 = .ok (.iaload, 1) := by decide +kernel
theorem dX1_gapsOf_28 : decode cX1_gapsOf 28 = .ok (.istore 4, 2) := by decide +kernel
theorem dX1_gapsOf_30 : decode cX1_gapsOf 30 = .ok (.aload_n 0, 1) := by decide +kernel
theorem dX1_gapsOf_31 : decode cX1_gapsOf 31 = .ok (.getfield 24, 3) := by decide +kernel
theorem dX1_gapsOf_34 : decode cX1_gapsOf 34 = .ok (.iload_n 3, 1) := by decide +kernel
theorem dX1_gapsOf_35 : decode cX1_gapsOf 35 = .ok (.aload_n 0, 1) := by decide +kernel
theorem dX1_gapsOf_36 : decode cX1_gapsOf 36 = .ok (.iload 4, 2) := by decide +kernel
theorem dX1_gapsOf_38 : decode cX1_gapsOf 38 = .ok (.invokevirtual 31, 3) := by decide +kernel
theorem dX1_gapsOf_41 : decode cX1_gapsOf 41 = .ok (.ifCond .eq 15, 3) := by decide +kernel
theorem dX1_gapsOf_44 : decode cX1_gapsOf 44 = .ok (.aload_n 0, 1) := by decide +kernel
theorem dX1_gapsOf_45 : decode cX1_gapsOf 45 = .ok (.iload 4, 2) := by decide +kernel
theorem dX1_gapsOf_47 : decode cX1_gapsOf 47 = .ok (.iload_n 3, 1) := by decide +kernel
theorem dX1_gapsOf_48 : decode cX1_gapsOf 48 = .ok (.iconst 2, 1) := by decide +kernel
theorem dX1_gapsOf_49 : decode cX1_gapsOf 49 = .ok (.irem, 1) := by decide +kernel
theorem dX1_gapsOf_50 : decode cX1_gapsOf 50 = .ok (.invokevirtual 47, 3) := by decide +kernel
theorem dX1_gapsOf_53 : decode cX1_gapsOf 53 = .ok (.goto 4, 3) := by decide +kernel
theorem dX1_gapsOf_56 : decode cX1_gapsOf 56 = .ok (.iconst (-1), 1) := by decide +kernel
theorem dX1_gapsOf_57 : decode cX1_gapsOf 57 = .ok (.iastore, 1) := by decide +kernel
theorem dX1_gapsOf_58 : decode cX1_gapsOf 58 = .ok (.aload_n 0, 1) := by decide +kernel
theorem dX1_gapsOf_59 : decode cX1_gapsOf 59 = .ok (.getfield 24, 3) := by decide +kernel
theorem dX1_gapsOf_62 : decode cX1_gapsOf 62 = .ok (.iload_n 3, 1) := by decide +kernel
theorem dX1_gapsOf_63 : decode cX1_gapsOf 63 = .ok (.iaload, 1) := by decide +kernel
theorem dX1_gapsOf_64 : decode cX1_gapsOf 64 = .ok (.iconst (-1), 1) := by decide +kernel
theorem dX1_gapsOf_65 : decode cX1_gapsOf 65 = .ok (.if_icmp .ne 6, 3) := by decide +kernel
theorem dX1_gapsOf_68 : decode cX1_gapsOf 68 = .ok (.iinc 2 1, 3) := by decide +kernel
theorem dX1_gapsOf_71 : decode cX1_gapsOf 71 = .ok (.iinc 3 1, 3) := by decide +kernel
theorem dX1_gapsOf_74 : decode cX1_gapsOf 74 = .ok (.goto (-63), 3) := by decide +kernel
theorem dX1_gapsOf_77 : decode cX1_gapsOf 77 = .ok (.iload_n 2, 1) := by decide +kernel
theorem dX1_gapsOf_78 : decode cX1_gapsOf 78 = .ok (.ireturn, 1) := by decide +kernel
theorem dX1_parentOf_0 : decode cX1_parentOf 0 = .ok (.iload_n 2, 1) := by decide +kernel
theorem dX1_parentOf_1 : decode cX1_parentOf 1 = .ok (.ifCond .ne 12, 3) := by decide +kernel
theorem dX1_parentOf_4 : decode cX1_parentOf 4 = .ok (.aload_n 0, 1) := by decide +kernel
theorem dX1_parentOf_5 : decode cX1_parentOf 5 = .ok (.getfield 9, 3) := by decide +kernel
theorem dX1_parentOf_8 : decode cX1_parentOf 8 = .ok (.iload_n 1, 1) := by decide +kernel
theorem dX1_parentOf_9 : decode cX1_parentOf 9 = .ok (.iaload, 1) := by decide +kernel
theorem dX1_parentOf_10 : decode cX1_parentOf 10 = .ok (.goto 9, 3) := by decide +kernel
theorem dX1_parentOf_13 : decode cX1_parentOf 13 = .ok (.aload_n 0, 1) := by decide +kernel
theorem dX1_parentOf_14 : decode cX1_parentOf 14 = .ok (.getfield 15, 3) := by decide +kernel
theorem dX1_parentOf_17 : decode cX1_parentOf 17 = .ok (.iload_n 1, 1) := by decide +kernel
theorem dX1_parentOf_18 : decode cX1_parentOf 18 = .ok (.iaload, 1) := by decide +kernel
theorem dX1_parentOf_19 : decode cX1_parentOf 19 = .ok (.ireturn, 1) := by decide +kernel
theorem dX2_init_0 : decode cX2_init 0 = .ok (.aload_n 0, 1) := by decide +kernel
theorem dX2_init_1 : decode cX2_init 1 = .ok (.invokespecial 3, 3) := by decide +kernel
theorem dX2_init_4 : decode cX2_init 4 = .ok (.aload_n 0, 1) := by decide +kernel
theorem dX2_init_5 : decode cX2_init 5 = .ok (.bipush 20, 2) := by decide +kernel
theorem dX2_init_7 : decode cX2_init 7 = .ok (.newarray .int, 2) := by decide +kernel
theorem dX2_init_9 : decode cX2_init 9 = .ok (.putfield 9, 3) := by decide +kernel
theorem dX2_init_12 : decode cX2_init 12 = .ok (.aload_n 0, 1) := by decide +kernel
theorem dX2_init_13 : decode cX2_init 13 = .ok (.bipush 20, 2) := by decide +kernel
theorem dX2_init_15 : decode cX2_init 15 = .ok (.newarray .int, 2) := by decide +kernel
theorem dX2_init_17 : decode cX2_init 17 = .ok (.putfield 15, 3) := by decide +kernel
theorem dX2_init_20 : decode cX2_init 20 = .ok (.aload_n 0, 1) := by decide +kernel
theorem dX2_init_21 : decode cX2_init 21 = .ok (.bipush 20, 2) := by decide +kernel
theorem dX2_init_23 : decode cX2_init 23 = .ok (.newarray .int, 2) := by decide +kernel
theorem dX2_init_25 : decode cX2_init 25 = .ok (.putfield 18, 3) := by decide +kernel
theorem dX2_init_28 : decode cX2_init 28 = .ok (.aload_n 0, 1) := by decide +kernel
theorem dX2_init_29 : decode cX2_init 29 = .ok (.iconst 0, 1) := by decide +kernel
theorem dX2_init_30 : decode cX2_init 30 = .ok (.putfield 21, 3) := by decide +kernel
theorem dX2_init_33 : decode cX2_init 33 = .ok (.return_, 1) := by decide +kernel
theorem dX2_add_0 : decode cX2_add 0 = .ok (.aload_n 0, 1) := by decide +kernel
theorem dX2_add_1 : decode cX2_add 1 = .ok (.getfield 21, 3) := by decide +kernel
theorem dX2_add_4 : decode cX2_add 4 = .ok (.bipush 20, 2) := by decide +kernel
theorem dX2_add_6 : decode cX2_add 6 = .ok (.if_icmp .lt 5, 3) := by decide +kernel
theorem dX2_add_9 : decode cX2_add 9 = .ok (.iconst (-1), 1) := by decide +kernel
theorem dX2_add_10 : decode cX2_add 10 = .ok (.ireturn, 1) := by decide +kernel
theorem dX2_add_11 : decode cX2_add 11 = .ok (.aload_n 0, 1) := by decide +kernel
theorem dX2_add_12 : decode cX2_add 12 = .ok (.getfield 9, 3) := by decide +kernel
theorem dX2_add_15 : decode cX2_add 15 = .ok (.aload_n 0, 1) := by decide +kernel
theorem dX2_add_16 : decode cX2_add 16 = .ok (.getfield 21, 3) := by decide +kernel
theorem dX2_add_19 : decode cX2_add 19 = .ok (.iload_n 1, 1) := by decide +kernel
theorem dX2_add_20 : decode cX2_add 20 = .ok (.iastore, 1) := by decide +kernel
theorem dX2_add_21 : decode cX2_add 21 = .ok (.aload_n 0, 1) := by decide +kernel
theorem dX2_add_22 : decode cX2_add 22 = .ok (.getfield 15, 3) := by decide +kernel
theorem dX2_add_25 : decode cX2_add 25 = .ok (.aload_n 0, 1) := by decide +kernel
theorem dX2_add_26 : decode cX2_add 26 = .ok (.getfield 21, 3) := by decide +kernel
theorem dX2_add_29 : decode cX2_add 29 = .ok (.iload_n 2, 1) := by decide +kernel
theorem dX2_add_30 : decode cX2_add 30 = .ok (.iastore, 1) := by decide +kernel
theorem dX2_add_31 : decode cX2_add 31 = .ok (.aload_n 0, 1) := by decide +kernel
theorem dX2_add_32 : decode cX2_add 32 = .ok (.getfield 18, 3) := by decide +kernel
theorem dX2_add_35 : decode cX2_add 35 = .ok (.aload_n 0, 1) := by decide +kernel
theorem dX2_add_36 : decode cX2_add 36 = .ok (.getfield 21, 3) := by decide +kernel
theorem dX2_add_39 : decode cX2_add 39 = .ok (.iload_n 3, 1) := by decide +kernel
theorem dX2_add_40 : decode cX2_add 40 = .ok (.iastore, 1) := by decide +kernel
theorem dX2_add_41 : decode cX2_add 41 = .ok (.aload_n 0, 1) := by decide +kernel
theorem dX2_add_42 : decode cX2_add 42 = .ok (.dup, 1) := by decide +kernel
theorem dX2_add_43 : decode cX2_add 43 = .ok (.getfield 21, 3) := by decide +kernel
theorem dX2_add_46 : decode cX2_add 46 = .ok (.iconst 1, 1) := by decide +kernel
theorem dX2_add_47 : decode cX2_add 47 = .ok (.iadd, 1) := by decide +kernel
theorem dX2_add_48 : decode cX2_add 48 = .ok (.putfield 21, 3) := by decide +kernel
theorem dX2_add_51 : decode cX2_add 51 = .ok (.aload_n 0, 1) := by decide +kernel
theorem dX2_add_52 : decode cX2_add 52 = .ok (.getfield 21, 3) := by decide +kernel
theorem dX2_add_55 : decode cX2_add 55 = .ok (.iconst 1, 1) := by decide +kernel
theorem dX2_add_56 : decode cX2_add 56 = .ok (.isub, 1) := by decide +kernel
theorem dX2_add_57 : decode cX2_add 57 = .ok (.ireturn, 1) := by decide +kernel
theorem dX3_init_0 : decode cX3_init 0 = .ok (.aload_n 0, 1) := by decide +kernel
theorem dX3_init_1 : decode cX3_init 1 = .ok (.invokespecial 3, 3) := by decide +kernel
theorem dX3_init_4 : decode cX3_init 4 = .ok (.aload_n 0, 1) := by decide +kernel
theorem dX3_init_5 : decode cX3_init 5 = .ok (.sipush 400, 3) := by decide +kernel
theorem dX3_init_8 : decode cX3_init 8 = .ok (.newarray .int, 2) := by decide +kernel
theorem dX3_init_10 : decode cX3_init 10 = .ok (.putfield 9, 3) := by decide +kernel
theorem dX3_init_13 : decode cX3_init 13 = .ok (.aload_n 0, 1) := by decide +kernel
theorem dX3_init_14 : decode cX3_init 14 = .ok (.bipush 16, 2) := by decide +kernel
theorem dX3_init_16 : decode cX3_init 16 = .ok (.newarray .int, 2) := by decide +kernel
theorem dX3_init_18 : decode cX3_init 18 = .ok (.putfield 15, 3) := by decide +kernel
theorem dX3_init_21 : decode cX3_init 21 = .ok (.aload_n 0, 1) := by decide +kernel
theorem dX3_init_22 : decode cX3_init 22 = .ok (.iconst 0, 1) := by decide +kernel
theorem dX3_init_23 : decode cX3_init 23 = .ok (.putfield 18, 3) := by decide +kernel
theorem dX3_init_26 : decode cX3_init 26 = .ok (.aload_n 0, 1) := by decide +kernel
theorem dX3_init_27 : decode cX3_init 27 = .ok (.iconst 0, 1) := by decide +kernel
theorem dX3_init_28 : decode cX3_init 28 = .ok (.putfield 22, 3) := by decide +kernel
theorem dX3_init_31 : decode cX3_init 31 = .ok (.aload_n 0, 1) := by decide +kernel
theorem dX3_init_32 : decode cX3_init 32 = .ok (.iconst 0, 1) := by decide +kernel
theorem dX3_init_33 : decode cX3_init 33 = .ok (.putfield 25, 3) := by decide +kernel
theorem dX3_init_36 : decode cX3_init 36 = .ok (.aload_n 0, 1) := by decide +kernel
theorem dX3_init_37 : decode cX3_init 37 = .ok (.iconst 0, 1) := by decide +kernel
theorem dX3_init_38 : decode cX3_init 38 = .ok (.putfield 28, 3) := by decide +kernel
theorem dX3_init_41 : decode cX3_init 41 = .ok (.aload_n 0, 1) := by decide +kernel
theorem dX3_init_42 : decode cX3_init 42 = .ok (.iconst 0, 1) := by decide +kernel
theorem dX3_init_43 : decode cX3_init 43 = .ok (.putfield 31, 3) := by decide +kernel
theorem dX3_init_46 : decode cX3_init 46 = .ok (.return_, 1) := by decide +kernel
theorem dX3_parse_0 : decode cX3_parse 0 = .ok (.aload_n 1, 1) := by decide +kernel
theorem dX3_parse_1 : decode cX3_parse 1 = .ok (.invokevirtual 34, 3) := by decide +kernel
theorem dX3_parse_4 : decode cX3_parse 4 = .ok (.aload_n 0, 1) := by decide +kernel
theorem dX3_parse_5 : decode cX3_parse 5 = .ok (.iconst 0, 1) := by decide +kernel
theorem dX3_parse_6 : decode cX3_parse 6 = .ok (.putfield 18, 3) := by decide +kernel
theorem dX3_parse_9 : decode cX3_parse 9 = .ok (.aload_n 0, 1) := by decide +kernel
theorem dX3_parse_10 : decode cX3_parse 10 = .ok (.iconst 0, 1) := by decide +kernel
theorem dX3_parse_11 : decode cX3_parse 11 = .ok (.putfield 22, 3) := by decide +kernel
theorem dX3_parse_14 : decode cX3_parse 14 = .ok (.aload_n 0, 1) := by decide +kernel
theorem dX3_parse_15 : decode cX3_parse 15 = .ok (.iconst 0, 1) := by decide +kernel
theorem dX3_parse_16 : decode cX3_parse 16 = .ok (.putfield 25, 3) := by decide +kernel
theorem dX3_parse_19 : decode cX3_parse 19 = .ok (.aload_n 0, 1) := by decide +kernel
theorem dX3_parse_20 : decode cX3_parse 20 = .ok (.iconst 0, 1) := by decide +kernel
theorem dX3_parse_21 : decode cX3_parse 21 = .ok (.putfield 31, 3) := by decide +kernel
theorem dX3_parse_24 : decode cX3_parse 24 = .ok (.iconst 0, 1) := by decide +kernel
theorem dX3_parse_25 : decode cX3_parse 25 = .ok (.istore_n 2, 1) := by decide +kernel
theorem dX3_parse_26 : decode cX3_parse 26 = .ok (.iload_n 2, 1) := by decide +kernel
theorem dX3_parse_27 : decode cX3_parse 27 = .ok (.sipush 400, 3) := by decide +kernel
theorem dX3_parse_30 : decode cX3_parse 30 = .ok (.if_icmp .gt 83, 3) := by decide +kernel
theorem dX3_parse_33 : decode cX3_parse 33 = .ok (.aload_n 1, 1) := by decide +kernel
theorem dX3_parse_34 : decode cX3_parse 34 = .ok (.invokevirtual 39, 3) := by decide +kernel
theorem dX3_parse_37 : decode cX3_parse 37 = .ok (.istore_n 3, 1) := by decide +kernel
theorem dX3_parse_38 : decode cX3_parse 38 = .ok (.iload_n 3, 1) := by decide +kernel
theorem dX3_parse_39 : decode cX3_parse 39 = .ok (.iconst (-1), 1) := by decide +kernel
theorem dX3_parse_40 : decode cX3_parse 40 = .ok (.if_icmp .ne 16, 3) := by decide +kernel
theorem dX3_parse_43 : decode cX3_parse 43 = .ok (.aload_n 0, 1) := by decide +kernel
theorem dX3_parse_44 : decode cX3_parse 44 = .ok (.getfield 25, 3) := by decide +kernel
theorem dX3_parse_47 : decode cX3_parse 47 = .ok (.ifCond .ne 7, 3) := by decide +kernel
theorem dX3_parse_50 : decode cX3_parse 50 = .ok (.iconst 0, 1) := by decide +kernel
theorem dX3_parse_51 : decode cX3_parse 51 = .ok (.goto 4, 3) := by decide +kernel
theorem dX3_parse_54 : decode cX3_parse 54 = .ok (.iconst 1, 1) := by decide +kernel
theorem dX3_parse_55 : decode cX3_parse 55 = .ok (.ireturn, 1) := by decide +kernel
theorem dX3_parse_56 : decode cX3_parse 56 = .ok (.aload_n 0, 1) := by decide +kernel
theorem dX3_parse_57 : decode cX3_parse 57 = .ok (.iload_n 3, 1) := by decide +kernel
theorem dX3_parse_58 : decode cX3_parse 58 = .ok (.invokevirtual 43, 3) := by decide +kernel
theorem dX3_parse_61 : decode cX3_parse 61 = .ok (.ifCond .ne 5, 3) := by decide +kernel
theorem dX3_parse_64 : decode cX3_parse 64 = .ok (.iconst 1, 1) := by decide +kernel
theorem dX3_parse_65 : decode cX3_parse 65 = .ok (.ireturn, 1) := by decide +kernel
theorem dX3_parse_66 : decode cX3_parse 66 = .ok (.iload_n 2, 1) := by decide +kernel
theorem dX3_parse_67 : decode cX3_parse 67 = .ok (.sipush 400, 3) := by decide +kernel
theorem dX3_parse_70 : decode cX3_parse 70 = .ok (.if_icmp .ge 21, 3) := by decide +kernel
theorem dX3_parse_73 : decode cX3_parse 73 = .ok (.aload_n 0, 1) := by decide +kernel
theorem dX3_parse_74 : decode cX3_parse 74 = .ok (.getfield 22, 3) := by decide +kernel
theorem dX3_parse_77 : decode cX3_parse 77 = .ok (.bipush 16, 2) := by decide +kernel
theorem dX3_parse_79 : decode cX3_parse 79 = .ok (.if_icmp .gt 12, 3) := by decide +kernel
theorem dX3_parse_82 : decode cX3_parse 82 = .ok (.aload_n 0, 1) := by decide +kernel
theorem dX3_parse_83 : decode cX3_parse 83 = .ok (.getfield 31, 3) := by decide +kernel
theorem dX3_parse_86 : decode cX3_parse 86 = .ok (.bipush 6, 2) := by decide +kernel
theorem dX3_parse_88 : decode cX3_parse 88 = .ok (.if_icmp .le 5, 3) := by decide +kernel
theorem dX3_parse_91 : decode cX3_parse 91 = .ok (.iconst 2, 1) := by decide +kernel
theorem dX3_parse_92 : decode cX3_parse 92 = .ok (.ireturn, 1) := by decide +kernel
theorem dX3_parse_93 : decode cX3_parse 93 = .ok (.aload_n 0, 1) := by decide +kernel
theorem dX3_parse_94 : decode cX3_parse 94 = .ok (.getfield 9, 3) := by decide +kernel
theorem dX3_parse_97 : decode cX3_parse 97 = .ok (.iload_n 2, 1) := by decide +kernel
theorem dX3_parse_98 : decode cX3_parse 98 = .ok (.iload_n 3, 1) := by decide +kernel
theorem dX3_parse_99 : decode cX3_parse 99 = .ok (.iastore, 1) := by decide +kernel
theorem dX3_parse_100 : decode cX3_parse 100 = .ok (.aload_n 0, 1) := by decide +kernel
theorem dX3_parse_101 : decode cX3_parse 101 = .ok (.iload_n 2, 1) := by decide +kernel
theorem dX3_parse_102 : decode cX3_parse 102 = .ok (.iconst 1, 1) := by decide +kernel
theorem dX3_parse_103 : decode cX3_parse 103 = .ok (.iadd, 1) := by decide +kernel
theorem dX3_parse_104 : decode cX3_parse 104 = .ok (.putfield 18, 3) := by decide +kernel
theorem dX3_parse_107 : decode cX3_parse 107 = .ok (.iinc 2 1, 3) := by decide +kernel
theorem dX3_parse_110 : decode cX3_parse 110 = .ok (.goto (-84), 3) := by decide +kernel
theorem dX3_parse_113 : decode cX3_parse 113 = .ok (.iconst 2, 1) := by decide +kernel
theorem dX3_parse_114 : decode cX3_parse 114 = .ok (.ireturn, 1) := by decide +kernel
theorem dX3_toLaw_0 : decode cX3_toLaw 0 = .ok (.aload_n 0, 1) := by decide +kernel
theorem dX3_toLaw_1 : decode cX3_toLaw 1 = .ok (.getfield 15, 3) := by decide +kernel
theorem dX3_toLaw_4 : decode cX3_toLaw 4 = .ok (.aload_n 0, 1) := by decide +kernel
theorem dX3_toLaw_5 : decode cX3_toLaw 5 = .ok (.getfield 22, 3) := by decide +kernel
theorem dX3_toLaw_8 : decode cX3_toLaw 8 = .ok (.bipush 16, 2) := by decide +kernel
theorem dX3_toLaw_10 : decode cX3_toLaw 10 = .ok (.invokestatic 47, 3) := by decide +kernel
theorem dX3_toLaw_13 : decode cX3_toLaw 13 = .ok (.invokestatic 53, 3) := by decide +kernel
theorem dX3_toLaw_16 : decode cX3_toLaw 16 = .ok (.astore_n 3, 1) := by decide +kernel
theorem dX3_toLaw_17 : decode cX3_toLaw 17 = .ok (.new 59, 3) := by decide +kernel
theorem dX3_toLaw_20 : decode cX3_toLaw 20 = .ok (.dup, 1) := by decide +kernel
theorem dX3_toLaw_21 : decode cX3_toLaw 21 = .ok (.iload_n 1, 1) := by decide +kernel
theorem dX3_toLaw_22 : decode cX3_toLaw 22 = .ok (.iload_n 2, 1) := by decide +kernel
theorem dX3_toLaw_23 : decode cX3_toLaw 23 = .ok (.aload_n 0, 1) := by decide +kernel
theorem dX3_toLaw_24 : decode cX3_toLaw 24 = .ok (.getfield 9, 3) := by decide +kernel
theorem dX3_toLaw_27 : decode cX3_toLaw 27 = .ok (.aload_n 0, 1) := by decide +kernel
theorem dX3_toLaw_28 : decode cX3_toLaw 28 = .ok (.getfield 18, 3) := by decide +kernel
theorem dX3_toLaw_31 : decode cX3_toLaw 31 = .ok (.invokestatic 53, 3) := by decide +kernel
theorem dX3_toLaw_34 : decode cX3_toLaw 34 = .ok (.aload_n 3, 1) := by decide +kernel
theorem dX3_toLaw_35 : decode cX3_toLaw 35 = .ok (.invokespecial 61, 3) := by decide +kernel
theorem dX3_toLaw_38 : decode cX3_toLaw 38 = .ok (.areturn, 1) := by decide +kernel
theorem dX3_goesOn_0 : decode cX3_goesOn 0 = .ok (.aload_n 0, 1) := by decide +kernel
theorem dX3_goesOn_1 : decode cX3_goesOn 1 = .ok (.getfield 25, 3) := by decide +kernel
theorem dX3_goesOn_4 : decode cX3_goesOn 4 = .ok (.tableswitch 99 0 4 #[36, 42, 65, 75, 93], 36) := by decide +kernel
theorem dX3_goesOn_40 : decode cX3_goesOn 40 = .ok (.aload_n 0, 1) := by decide +kernel
theorem dX3_goesOn_41 : decode cX3_goesOn 41 = .ok (.iload_n 1, 1) := by decide +kernel
theorem dX3_goesOn_42 : decode cX3_goesOn 42 = .ok (.invokevirtual 64, 3) := by decide +kernel
theorem dX3_goesOn_45 : decode cX3_goesOn 45 = .ok (.ireturn, 1) := by decide +kernel
theorem dX3_goesOn_46 : decode cX3_goesOn 46 = .ok (.aload_n 0, 1) := by decide +kernel
theorem dX3_goesOn_47 : decode cX3_goesOn 47 = .ok (.iconst 0, 1) := by decide +kernel
theorem dX3_goesOn_48 : decode cX3_goesOn 48 = .ok (.putfield 28, 3) := by decide +kernel
theorem dX3_goesOn_51 : decode cX3_goesOn 51 = .ok (.aload_n 0, 1) := by decide +kernel
theorem dX3_goesOn_52 : decode cX3_goesOn 52 = .ok (.iconst 4, 1) := by decide +kernel
theorem dX3_goesOn_53 : decode cX3_goesOn 53 = .ok (.putfield 25, 3) := by decide +kernel
theorem dX3_goesOn_56 : decode cX3_goesOn 56 = .ok (.iload_n 1, 1) := by decide +kernel
theorem dX3_goesOn_57 : decode cX3_goesOn 57 = .ok (.sipush 10005, 3) := by decide +kernel
theorem dX3_goesOn_60 : decode cX3_goesOn 60 = .ok (.if_icmp .ne 7, 3) := by decide +kernel
theorem dX3_goesOn_63 : decode cX3_goesOn 63 = .ok (.iconst 1, 1) := by decide +kernel
theorem dX3_goesOn_64 : decode cX3_goesOn 64 = .ok (.goto 4, 3) := by decide +kernel
theorem dX3_goesOn_67 : decode cX3_goesOn 67 = .ok (.iconst 0, 1) := by decide +kernel
theorem dX3_goesOn_68 : decode cX3_goesOn 68 = .ok (.ireturn, 1) := by decide +kernel
theorem dX3_goesOn_69 : decode cX3_goesOn 69 = .ok (.aload_n 0, 1) := by decide +kernel
theorem dX3_goesOn_70 : decode cX3_goesOn 70 = .ok (.iconst 3, 1) := by decide +kernel
theorem dX3_goesOn_71 : decode cX3_goesOn 71 = .ok (.putfield 25, 3) := by decide +kernel
theorem dX3_goesOn_74 : decode cX3_goesOn 74 = .ok (.iload_n 1, 1) := by decide +kernel
theorem dX3_goesOn_75 : decode cX3_goesOn 75 = .ok (.invokestatic 67, 3) := by decide +kernel
theorem dX3_goesOn_78 : decode cX3_goesOn 78 = .ok (.ireturn, 1) := by decide +kernel
theorem dX3_goesOn_79 : decode cX3_goesOn 79 = .ok (.aload_n 0, 1) := by decide +kernel
theorem dX3_goesOn_80 : decode cX3_goesOn 80 = .ok (.iconst 0, 1) := by decide +kernel
theorem dX3_goesOn_81 : decode cX3_goesOn 81 = .ok (.putfield 25, 3) := by decide +kernel
theorem dX3_goesOn_84 : decode cX3_goesOn 84 = .ok (.iload_n 1, 1) := by decide +kernel
theorem dX3_goesOn_85 : decode cX3_goesOn 85 = .ok (.sipush 10020, 3) := by decide +kernel
theorem dX3_goesOn_88 : decode cX3_goesOn 88 = .ok (.if_icmp .ne 7, 3) := by decide +kernel
theorem dX3_goesOn_91 : decode cX3_goesOn 91 = .ok (.iconst 1, 1) := by decide +kernel
theorem dX3_goesOn_92 : decode cX3_goesOn 92 = .ok (.goto 4, 3) := by decide +kernel
theorem dX3_goesOn_95 : decode cX3_goesOn 95 = .ok (.iconst 0, 1) := by decide +kernel
theorem dX3_goesOn_96 : decode cX3_goesOn 96 = .ok (.ireturn, 1) := by decide +kernel
theorem dX3_goesOn_97 : decode cX3_goesOn 97 = .ok (.aload_n 0, 1) := by decide +kernel
theorem dX3_goesOn_98 : decode cX3_goesOn 98 = .ok (.iload_n 1, 1) := by decide +kernel
theorem dX3_goesOn_99 : decode cX3_goesOn 99 = .ok (.invokevirtual 70, 3) := by decide +kernel
theorem dX3_goesOn_102 : decode cX3_goesOn 102 = .ok (.ireturn, 1) := by decide +kernel
theorem dX3_goesOn_103 : decode cX3_goesOn 103 = .ok (.aload_n 0, 1) := by decide +kernel
theorem dX3_goesOn_104 : decode cX3_goesOn 104 = .ok (.iload_n 1, 1) := by decide +kernel
theorem dX3_goesOn_105 : decode cX3_goesOn 105 = .ok (.invokevirtual 73, 3) := by decide +kernel
theorem dX3_goesOn_108 : decode cX3_goesOn 108 = .ok (.ireturn, 1) := by decide +kernel
theorem dX3_begins_0 : decode cX3_begins 0 = .ok (.aload_n 0, 1) := by decide +kernel
theorem dX3_begins_1 : decode cX3_begins 1 = .ok (.getfield 22, 3) := by decide +kernel
theorem dX3_begins_4 : decode cX3_begins 4 = .ok (.bipush 16, 2) := by decide +kernel
theorem dX3_begins_6 : decode cX3_begins 6 = .ok (.if_icmp .ge 16, 3) := by decide +kernel
theorem dX3_begins_9 : decode cX3_begins 9 = .ok (.aload_n 0, 1) := by decide +kernel
theorem dX3_begins_10 : decode cX3_begins 10 = .ok (.getfield 15, 3) := by decide +kernel
theorem dX3_begins_13 : decode cX3_begins 13 = .ok (.aload_n 0, 1) := by decide +kernel
theorem dX3_begins_14 : decode cX3_begins 14 = .ok (.getfield 22, 3) := by decide +kernel
theorem dX3_begins_17 : decode cX3_begins 17 = .ok (.aload_n 0, 1) := by decide +kernel
theorem dX3_begins_18 : decode cX3_begins 18 = .ok (.getfield 18, 3) := by decide +kernel
theorem dX3_begins_21 : decode cX3_begins 21 = .ok (.iastore, 1) := by decide +kernel
theorem dX3_begins_22 : decode cX3_begins 22 = .ok (.aload_n 0, 1) := by decide +kernel
theorem dX3_begins_23 : decode cX3_begins 23 = .ok (.dup, 1) := by decide +kernel
theorem dX3_begins_24 : decode cX3_begins 24 = .ok (.getfield 22, 3) := by decide +kernel
theorem dX3_begins_27 : decode cX3_begins 27 = .ok (.iconst 1, 1) := by decide +kernel
theorem dX3_begins_28 : decode cX3_begins 28 = .ok (.iadd, 1) := by decide +kernel
theorem dX3_begins_29 : decode cX3_begins 29 = .ok (.putfield 22, 3) := by decide +kernel
theorem dX3_begins_32 : decode cX3_begins 32 = .ok (.iload_n 1, 1) := by decide +kernel
theorem dX3_begins_33 : decode cX3_begins 33 = .ok (.sipush 10003, 3) := by decide +kernel
theorem dX3_begins_36 : decode cX3_begins 36 = .ok (.if_icmp .ne 10, 3) := by decide +kernel
theorem dX3_begins_39 : decode cX3_begins 39 = .ok (.aload_n 0, 1) := by decide +kernel
theorem dX3_begins_40 : decode cX3_begins 40 = .ok (.iconst 2, 1) := by decide +kernel
theorem dX3_begins_41 : decode cX3_begins 41 = .ok (.putfield 25, 3) := by decide +kernel
theorem dX3_begins_44 : decode cX3_begins 44 = .ok (.iconst 1, 1) := by decide +kernel
theorem dX3_begins_45 : decode cX3_begins 45 = .ok (.ireturn, 1) := by decide +kernel
theorem dX3_begins_46 : decode cX3_begins 46 = .ok (.iload_n 1, 1) := by decide +kernel
theorem dX3_begins_47 : decode cX3_begins 47 = .ok (.sipush 10004, 3) := by decide +kernel
theorem dX3_begins_50 : decode cX3_begins 50 = .ok (.if_icmp .ne 15, 3) := by decide +kernel
theorem dX3_begins_53 : decode cX3_begins 53 = .ok (.aload_n 0, 1) := by decide +kernel
theorem dX3_begins_54 : decode cX3_begins 54 = .ok (.iconst 2, 1) := by decide +kernel
theorem dX3_begins_55 : decode cX3_begins 55 = .ok (.putfield 28, 3) := by decide +kernel
theorem dX3_begins_58 : decode cX3_begins 58 = .ok (.aload_n 0, 1) := by decide +kernel
theorem dX3_begins_59 : decode cX3_begins 59 = .ok (.iconst 4, 1) := by decide +kernel
theorem dX3_begins_60 : decode cX3_begins 60 = .ok (.putfield 25, 3) := by decide +kernel
theorem dX3_begins_63 : decode cX3_begins 63 = .ok (.iconst 1, 1) := by decide +kernel
theorem dX3_begins_64 : decode cX3_begins 64 = .ok (.ireturn, 1) := by decide +kernel
theorem dX3_begins_65 : decode cX3_begins 65 = .ok (.aload_n 0, 1) := by decide +kernel
theorem dX3_begins_66 : decode cX3_begins 66 = .ok (.iconst 1, 1) := by decide +kernel
theorem dX3_begins_67 : decode cX3_begins 67 = .ok (.putfield 25, 3) := by decide +kernel
theorem dX3_begins_70 : decode cX3_begins 70 = .ok (.iload_n 1, 1) := by decide +kernel
theorem dX3_begins_71 : decode cX3_begins 71 = .ok (.sipush 10000, 3) := by decide +kernel
theorem dX3_begins_74 : decode cX3_begins 74 = .ok (.if_icmp .eq 17, 3) := by decide +kernel
theorem dX3_begins_77 : decode cX3_begins 77 = .ok (.iload_n 1, 1) := by decide +kernel
theorem dX3_begins_78 : decode cX3_begins 78 = .ok (.sipush 10001, 3) := by decide +kernel
theorem dX3_begins_81 : decode cX3_begins 81 = .ok (.if_icmp .eq 10, 3) := by decide +kernel
theorem dX3_begins_84 : decode cX3_begins 84 = .ok (.iload_n 1, 1) := by decide +kernel
theorem dX3_begins_85 : decode cX3_begins 85 = .ok (.sipush 10002, 3) := by decide +kernel
theorem dX3_begins_88 : decode cX3_begins 88 = .ok (.if_icmp .ne 7, 3) := by decide +kernel
theorem dX3_begins_91 : decode cX3_begins 91 = .ok (.iconst 1, 1) := by decide +kernel
theorem dX3_begins_92 : decode cX3_begins 92 = .ok (.goto 4, 3) := by decide +kernel
theorem dX3_begins_95 : decode cX3_begins 95 = .ok (.iconst 0, 1) := by decide +kernel
theorem dX3_begins_96 : decode cX3_begins 96 = .ok (.ireturn, 1) := by decide +kernel
theorem dX3_isUnit_0 : decode cX3_isUnit 0 = .ok (.iload_n 1, 1) := by decide +kernel
theorem dX3_isUnit_1 : decode cX3_isUnit 1 = .ok (.sipush 10028, 3) := by decide +kernel
theorem dX3_isUnit_4 : decode cX3_isUnit 4 = .ok (.if_icmp .ne 15, 3) := by decide +kernel
theorem dX3_isUnit_7 : decode cX3_isUnit 7 = .ok (.aload_n 0, 1) := by decide +kernel
theorem dX3_isUnit_8 : decode cX3_isUnit 8 = .ok (.dup, 1) := by decide +kernel
theorem dX3_isUnit_9 : decode cX3_isUnit 9 = .ok (.getfield 31, 3) := by decide +kernel
theorem dX3_isUnit_12 : decode cX3_isUnit 12 = .ok (.iconst 1, 1) := by decide +kernel
theorem dX3_isUnit_13 : decode cX3_isUnit 13 = .ok (.iadd, 1) := by decide +kernel
theorem dX3_isUnit_14 : decode cX3_isUnit 14 = .ok (.putfield 31, 3) := by decide +kernel
theorem dX3_isUnit_17 : decode cX3_isUnit 17 = .ok (.iconst 1, 1) := by decide +kernel
theorem dX3_isUnit_18 : decode cX3_isUnit 18 = .ok (.ireturn, 1) := by decide +kernel
theorem dX3_isUnit_19 : decode cX3_isUnit 19 = .ok (.aload_n 0, 1) := by decide +kernel
theorem dX3_isUnit_20 : decode cX3_isUnit 20 = .ok (.iconst 5, 1) := by decide +kernel
theorem dX3_isUnit_21 : decode cX3_isUnit 21 = .ok (.putfield 25, 3) := by decide +kernel
theorem dX3_isUnit_24 : decode cX3_isUnit 24 = .ok (.iload_n 1, 1) := by decide +kernel
theorem dX3_isUnit_25 : decode cX3_isUnit 25 = .ok (.invokestatic 67, 3) := by decide +kernel
theorem dX3_isUnit_28 : decode cX3_isUnit 28 = .ok (.ifCond .ne 10, 3) := by decide +kernel
theorem dX3_isUnit_31 : decode cX3_isUnit 31 = .ok (.iload_n 1, 1) := by decide +kernel
theorem dX3_isUnit_32 : decode cX3_isUnit 32 = .ok (.invokestatic 76, 3) := by decide +kernel
theorem dX3_isUnit_35 : decode cX3_isUnit 35 = .ok (.ifCond .eq 7, 3) := by decide +kernel
theorem dX3_isUnit_38 : decode cX3_isUnit 38 = .ok (.iconst 1, 1) := by decide +kernel
theorem dX3_isUnit_39 : decode cX3_isUnit 39 = .ok (.goto 4, 3) := by decide +kernel
theorem dX3_isUnit_42 : decode cX3_isUnit 42 = .ok (.iconst 0, 1) := by decide +kernel
theorem dX3_isUnit_43 : decode cX3_isUnit 43 = .ok (.ireturn, 1) := by decide +kernel
theorem dX3_goesBehindUnit_0 : decode cX3_goesBehindUnit 0 = .ok (.iload_n 1, 1) := by decide +kernel
theorem dX3_goesBehindUnit_1 : decode cX3_goesBehindUnit 1 = .ok (.sipush 10029, 3) := by decide +kernel
theorem dX3_goesBehindUnit_4 : decode cX3_goesBehindUnit 4 = .ok (.if_icmp .ne 26, 3) := by decide +kernel
theorem dX3_goesBehindUnit_7 : decode cX3_goesBehindUnit 7 = .ok (.aload_n 0, 1) := by decide +kernel
theorem dX3_goesBehindUnit_8 : decode cX3_goesBehindUnit 8 = .ok (.dup, 1) := by decide +kernel
theorem dX3_goesBehindUnit_9 : decode cX3_goesBehindUnit 9 = .ok (.getfield 31, 3) := by decide +kernel
theorem dX3_goesBehindUnit_12 : decode cX3_goesBehindUnit 12 = .ok (.iconst 1, 1) := by decide +kernel
theorem dX3_goesBehindUnit_13 : decode cX3_goesBehindUnit 13 = .ok (.isub, 1) := by decide +kernel
theorem dX3_goesBehindUnit_14 : decode cX3_goesBehindUnit 14 = .ok (.putfield 31, 3) := by decide +kernel
theorem dX3_goesBehindUnit_17 : decode cX3_goesBehindUnit 17 = .ok (.aload_n 0, 1) := by decide +kernel
theorem dX3_goesBehindUnit_18 : decode cX3_goesBehindUnit 18 = .ok (.getfield 31, 3) := by decide +kernel
theorem dX3_goesBehindUnit_21 : decode cX3_goesBehindUnit 21 = .ok (.ifCond .lt 7, 3) := by decide +kernel
theorem dX3_goesBehindUnit_24 : decode cX3_goesBehindUnit 24 = .ok (.iconst 1, 1) := by decide +kernel
theorem dX3_goesBehindUnit_25 : decode cX3_goesBehindUnit 25 = .ok (.goto 4, 3) := by decide +kernel
theorem dX3_goesBehindUnit_28 : decode cX3_goesBehindUnit 28 = .ok (.iconst 0, 1) := by decide +kernel
theorem dX3_goesBehindUnit_29 : decode cX3_goesBehindUnit 29 = .ok (.ireturn, 1) := by decide +kernel
theorem dX3_goesBehindUnit_30 : decode cX3_goesBehindUnit 30 = .ok (.iload_n 1, 1) := by decide +kernel
theorem dX3_goesBehindUnit_31 : decode cX3_goesBehindUnit 31 = .ok (.sipush 10021, 3) := by decide +kernel
theorem dX3_goesBehindUnit_34 : decode cX3_goesBehindUnit 34 = .ok (.if_icmp .eq 17, 3) := by decide +kernel
theorem dX3_goesBehindUnit_37 : decode cX3_goesBehindUnit 37 = .ok (.iload_n 1, 1) := by decide +kernel
theorem dX3_goesBehindUnit_38 : decode cX3_goesBehindUnit 38 = .ok (.sipush 10022, 3) := by decide +kernel
theorem dX3_goesBehindUnit_41 : decode cX3_goesBehindUnit 41 = .ok (.if_icmp .eq 10, 3) := by decide +kernel
theorem dX3_goesBehindUnit_44 : decode cX3_goesBehindUnit 44 = .ok (.iload_n 1, 1) := by decide +kernel
theorem dX3_goesBehindUnit_45 : decode cX3_goesBehindUnit 45 = .ok (.sipush 10023, 3) := by decide +kernel
theorem dX3_goesBehindUnit_48 : decode cX3_goesBehindUnit 48 = .ok (.if_icmp .ne 10, 3) := by decide +kernel
theorem dX3_goesBehindUnit_51 : decode cX3_goesBehindUnit 51 = .ok (.aload_n 0, 1) := by decide +kernel
theorem dX3_goesBehindUnit_52 : decode cX3_goesBehindUnit 52 = .ok (.iconst 4, 1) := by decide +kernel
theorem dX3_goesBehindUnit_53 : decode cX3_goesBehindUnit 53 = .ok (.putfield 25, 3) := by decide +kernel
theorem dX3_goesBehindUnit_56 : decode cX3_goesBehindUnit 56 = .ok (.iconst 1, 1) := by decide +kernel
theorem dX3_goesBehindUnit_57 : decode cX3_goesBehindUnit 57 = .ok (.ireturn, 1) := by decide +kernel
theorem dX3_goesBehindUnit_58 : decode cX3_goesBehindUnit 58 = .ok (.aload_n 0, 1) := by decide +kernel
theorem dX3_goesBehindUnit_59 : decode cX3_goesBehindUnit 59 = .ok (.getfield 31, 3) := by decide +kernel
theorem dX3_goesBehindUnit_62 : decode cX3_goesBehindUnit 62 = .ok (.ifCond .ne 15, 3) := by decide +kernel
theorem dX3_goesBehindUnit_65 : decode cX3_goesBehindUnit 65 = .ok (.aload_n 0, 1) := by decide +kernel
theorem dX3_goesBehindUnit_66 : decode cX3_goesBehindUnit 66 = .ok (.iload_n 1, 1) := by decide +kernel
theorem dX3_goesBehindUnit_67 : decode cX3_goesBehindUnit 67 = .ok (.invokevirtual 79, 3) := by decide +kernel
theorem dX3_goesBehindUnit_70 : decode cX3_goesBehindUnit 70 = .ok (.ifCond .eq 7, 3) := by decide +kernel
theorem dX3_goesBehindUnit_73 : decode cX3_goesBehindUnit 73 = .ok (.iconst 1, 1) := by decide +kernel
theorem dX3_goesBehindUnit_74 : decode cX3_goesBehindUnit 74 = .ok (.goto 4, 3) := by decide +kernel
theorem dX3_goesBehindUnit_77 : decode cX3_goesBehindUnit 77 = .ok (.iconst 0, 1) := by decide +kernel
theorem dX3_goesBehindUnit_78 : decode cX3_goesBehindUnit 78 = .ok (.ireturn, 1) := by decide +kernel
theorem dX3_goesBehindE_0 : decode cX3_goesBehindE 0 = .ok (.iload_n 1, 1) := by decide +kernel
theorem dX3_goesBehindE_1 : decode cX3_goesBehindE 1 = .ok (.sipush 10020, 3) := by decide +kernel
theorem dX3_goesBehindE_4 : decode cX3_goesBehindE 4 = .ok (.if_icmp .ne 21, 3) := by decide +kernel
theorem dX3_goesBehindE_7 : decode cX3_goesBehindE 7 = .ok (.aload_n 0, 1) := by decide +kernel
theorem dX3_goesBehindE_8 : decode cX3_goesBehindE 8 = .ok (.iconst 0, 1) := by decide +kernel
theorem dX3_goesBehindE_9 : decode cX3_goesBehindE 9 = .ok (.putfield 25, 3) := by decide +kernel
theorem dX3_goesBehindE_12 : decode cX3_goesBehindE 12 = .ok (.aload_n 0, 1) := by decide +kernel
theorem dX3_goesBehindE_13 : decode cX3_goesBehindE 13 = .ok (.getfield 28, 3) := by decide +kernel
theorem dX3_goesBehindE_16 : decode cX3_goesBehindE 16 = .ok (.ifCond .eq 7, 3) := by decide +kernel
theorem dX3_goesBehindE_19 : decode cX3_goesBehindE 19 = .ok (.iconst 1, 1) := by decide +kernel
theorem dX3_goesBehindE_20 : decode cX3_goesBehindE 20 = .ok (.goto 4, 3) := by decide +kernel
theorem dX3_goesBehindE_23 : decode cX3_goesBehindE 23 = .ok (.iconst 0, 1) := by decide +kernel
theorem dX3_goesBehindE_24 : decode cX3_goesBehindE 24 = .ok (.ireturn, 1) := by decide +kernel
theorem dX3_goesBehindE_25 : decode cX3_goesBehindE 25 = .ok (.aload_n 0, 1) := by decide +kernel
theorem dX3_goesBehindE_26 : decode cX3_goesBehindE 26 = .ok (.iconst 4, 1) := by decide +kernel
theorem dX3_goesBehindE_27 : decode cX3_goesBehindE 27 = .ok (.putfield 25, 3) := by decide +kernel
theorem dX3_goesBehindE_30 : decode cX3_goesBehindE 30 = .ok (.aload_n 0, 1) := by decide +kernel
theorem dX3_goesBehindE_31 : decode cX3_goesBehindE 31 = .ok (.getfield 28, 3) := by decide +kernel
theorem dX3_goesBehindE_34 : decode cX3_goesBehindE 34 = .ok (.ifCond .ne 28, 3) := by decide +kernel
theorem dX3_goesBehindE_37 : decode cX3_goesBehindE 37 = .ok (.aload_n 0, 1) := by decide +kernel
theorem dX3_goesBehindE_38 : decode cX3_goesBehindE 38 = .ok (.iconst 1, 1) := by decide +kernel
theorem dX3_goesBehindE_39 : decode cX3_goesBehindE 39 = .ok (.putfield 28, 3) := by decide +kernel
theorem dX3_goesBehindE_42 : decode cX3_goesBehindE 42 = .ok (.iload_n 1, 1) := by decide +kernel
theorem dX3_goesBehindE_43 : decode cX3_goesBehindE 43 = .ok (.sipush 10024, 3) := by decide +kernel
theorem dX3_goesBehindE_46 : decode cX3_goesBehindE 46 = .ok (.if_icmp .lt 14, 3) := by decide +kernel
theorem dX3_goesBehindE_49 : decode cX3_goesBehindE 49 = .ok (.iload_n 1, 1) := by decide +kernel
theorem dX3_goesBehindE_50 : decode cX3_goesBehindE 50 = .ok (.sipush 10027, 3) := by decide +kernel
theorem dX3_goesBehindE_53 : decode cX3_goesBehindE 53 = .ok (.if_icmp .gt 7, 3) := by decide +kernel
theorem dX3_goesBehindE_56 : decode cX3_goesBehindE 56 = .ok (.iconst 1, 1) := by decide +kernel
theorem dX3_goesBehindE_57 : decode cX3_goesBehindE 57 = .ok (.goto 4, 3) := by decide +kernel
theorem dX3_goesBehindE_60 : decode cX3_goesBehindE 60 = .ok (.iconst 0, 1) := by decide +kernel
theorem dX3_goesBehindE_61 : decode cX3_goesBehindE 61 = .ok (.ireturn, 1) := by decide +kernel
theorem dX3_goesBehindE_62 : decode cX3_goesBehindE 62 = .ok (.aload_n 0, 1) := by decide +kernel
theorem dX3_goesBehindE_63 : decode cX3_goesBehindE 63 = .ok (.getfield 28, 3) := by decide +kernel
theorem dX3_goesBehindE_66 : decode cX3_goesBehindE 66 = .ok (.iconst 2, 1) := by decide +kernel
theorem dX3_goesBehindE_67 : decode cX3_goesBehindE 67 = .ok (.if_icmp .ne 7, 3) := by decide +kernel
theorem dX3_goesBehindE_70 : decode cX3_goesBehindE 70 = .ok (.iconst 1, 1) := by decide +kernel
theorem dX3_goesBehindE_71 : decode cX3_goesBehindE 71 = .ok (.goto 4, 3) := by decide +kernel
theorem dX3_goesBehindE_74 : decode cX3_goesBehindE 74 = .ok (.iconst 0, 1) := by decide +kernel
theorem dX3_goesBehindE_75 : decode cX3_goesBehindE 75 = .ok (.istore_n 2, 1) := by decide +kernel
theorem dX3_goesBehindE_76 : decode cX3_goesBehindE 76 = .ok (.aload_n 0, 1) := by decide +kernel
theorem dX3_goesBehindE_77 : decode cX3_goesBehindE 77 = .ok (.iconst 0, 1) := by decide +kernel
theorem dX3_goesBehindE_78 : decode cX3_goesBehindE 78 = .ok (.putfield 28, 3) := by decide +kernel
theorem dX3_goesBehindE_81 : decode cX3_goesBehindE 81 = .ok (.iload_n 2, 1) := by decide +kernel
theorem dX3_goesBehindE_82 : decode cX3_goesBehindE 82 = .ok (.ifCond .eq 18, 3) := by decide +kernel
theorem dX3_goesBehindE_85 : decode cX3_goesBehindE 85 = .ok (.iload_n 1, 1) := by decide +kernel
theorem dX3_goesBehindE_86 : decode cX3_goesBehindE 86 = .ok (.sipush 10005, 3) := by decide +kernel
theorem dX3_goesBehindE_89 : decode cX3_goesBehindE 89 = .ok (.if_icmp .ne 7, 3) := by decide +kernel
theorem dX3_goesBehindE_92 : decode cX3_goesBehindE 92 = .ok (.iconst 1, 1) := by decide +kernel
theorem dX3_goesBehindE_93 : decode cX3_goesBehindE 93 = .ok (.goto 26, 3) := by decide +kernel
theorem dX3_goesBehindE_96 : decode cX3_goesBehindE 96 = .ok (.iconst 0, 1) := by decide +kernel
theorem dX3_goesBehindE_97 : decode cX3_goesBehindE 97 = .ok (.goto 22, 3) := by decide +kernel
theorem dX3_goesBehindE_100 : decode cX3_goesBehindE 100 = .ok (.iload_n 1, 1) := by decide +kernel
theorem dX3_goesBehindE_101 : decode cX3_goesBehindE 101 = .ok (.sipush 10007, 3) := by decide +kernel
theorem dX3_goesBehindE_104 : decode cX3_goesBehindE 104 = .ok (.if_icmp .eq 10, 3) := by decide +kernel
theorem dX3_goesBehindE_107 : decode cX3_goesBehindE 107 = .ok (.iload_n 1, 1) := by decide +kernel
theorem dX3_goesBehindE_108 : decode cX3_goesBehindE 108 = .ok (.sipush 10006, 3) := by decide +kernel
theorem dX3_goesBehindE_111 : decode cX3_goesBehindE 111 = .ok (.if_icmp .ne 7, 3) := by decide +kernel
theorem dX3_goesBehindE_114 : decode cX3_goesBehindE 114 = .ok (.iconst 1, 1) := by decide +kernel
theorem dX3_goesBehindE_115 : decode cX3_goesBehindE 115 = .ok (.goto 4, 3) := by decide +kernel
theorem dX3_goesBehindE_118 : decode cX3_goesBehindE 118 = .ok (.iconst 0, 1) := by decide +kernel
theorem dX3_goesBehindE_119 : decode cX3_goesBehindE 119 = .ok (.ireturn, 1) := by decide +kernel
