theorem dX0_init_0 : decode cX0_init 0 = .ok (.aload_n 0, 1) := by decide +kernel
theorem dX0_init_1 : decode cX0_init 1 = .ok (.invokespecial 3, 3) := by decide +kernel
theorem dX0_init_4 : decode cX0_init 4 = .ok (.aload_n 0, 1) := by decide +kernel
theorem dX0_init_5 : decode cX0_init 5 = .ok (.sipush 200, 3) := by decide +kernel
theorem dX0_init_8 : decode cX0_init 8 = .ok (.newarray .int, 2) := by decide +kernel
theorem dX0_init_10 : decode cX0_init 10 = .ok (.putfield 9, 3) := by decide +kernel
theorem dX0_init_13 : decode cX0_init 13 = .ok (.aload_n 0, 1) := by decide +kernel
theorem dX0_init_14 : decode cX0_init 14 = .ok (.sipush 200, 3) := by decide +kernel
theorem dX0_init_17 : decode cX0_init 17 = .ok (.newarray .int, 2) := by decide +kernel
theorem dX0_init_19 : decode cX0_init 19 = .ok (.putfield 15, 3) := by decide +kernel
theorem dX0_init_22 : decode cX0_init 22 = .ok (.aload_n 0, 1) := by decide +kernel
theorem dX0_init_23 : decode cX0_init 23 = .ok (.sipush 200, 3) := by decide +kernel
theorem dX0_init_26 : decode cX0_init 26 = .ok (.newarray .int, 2) := by decide +kernel
theorem dX0_init_28 : decode cX0_init 28 = .ok (.putfield 18, 3) := by decide +kernel
theorem dX0_init_31 : decode cX0_init 31 = .ok (.aload_n 0, 1) := by decide +kernel
theorem dX0_init_32 : decode cX0_init 32 = .ok (.sipush 200, 3) := by decide +kernel
theorem dX0_init_35 : decode cX0_init 35 = .ok (.newarray .int, 2) := by decide +kernel
theorem dX0_init_37 : decode cX0_init 37 = .ok (.putfield 21, 3) := by decide +kernel
theorem dX0_init_40 : decode cX0_init 40 = .ok (.aload_n 0, 1) := by decide +kernel
theorem dX0_init_41 : decode cX0_init 41 = .ok (.iconst 0, 1) := by decide +kernel
theorem dX0_init_42 : decode cX0_init 42 = .ok (.putfield 24, 3) := by decide +kernel
theorem dX0_init_45 : decode cX0_init 45 = .ok (.aload_n 0, 1) := by decide +kernel
theorem dX0_init_46 : decode cX0_init 46 = .ok (.iconst 0, 1) := by decide +kernel
theorem dX0_init_47 : decode cX0_init 47 = .ok (.putfield 28, 3) := by decide +kernel
theorem dX0_init_50 : decode cX0_init 50 = .ok (.return_, 1) := by decide +kernel
theorem dX0_add_0 : decode cX0_add 0 = .ok (.aload_n 0, 1) := by decide +kernel
theorem dX0_add_1 : decode cX0_add 1 = .ok (.getfield 24, 3) := by decide +kernel
theorem dX0_add_4 : decode cX0_add 4 = .ok (.sipush 200, 3) := by decide +kernel
theorem dX0_add_7 : decode cX0_add 7 = .ok (.if_icmp .lt 5, 3) := by decide +kernel
theorem dX0_add_10 : decode cX0_add 10 = .ok (.iconst (-1), 1) := by decide +kernel
theorem dX0_add_11 : decode cX0_add 11 = .ok (.ireturn, 1) := by decide +kernel
theorem dX0_add_12 : decode cX0_add 12 = .ok (.aload_n 0, 1) := by decide +kernel
theorem dX0_add_13 : decode cX0_add 13 = .ok (.getfield 9, 3) := by decide +kernel
theorem dX0_add_16 : decode cX0_add 16 = .ok (.aload_n 0, 1) := by decide +kernel
theorem dX0_add_17 : decode cX0_add 17 = .ok (.getfield 24, 3) := by decide +kernel
theorem dX0_add_20 : decode cX0_add 20 = .ok (.iload_n 1, 1) := by decide +kernel
theorem dX0_add_21 : decode cX0_add 21 = .ok (.iastore, 1) := by decide +kernel
theorem dX0_add_22 : decode cX0_add 22 = .ok (.aload_n 0, 1) := by decide +kernel
theorem dX0_add_23 : decode cX0_add 23 = .ok (.getfield 15, 3) := by decide +kernel
theorem dX0_add_26 : decode cX0_add 26 = .ok (.aload_n 0, 1) := by decide +kernel
theorem dX0_add_27 : decode cX0_add 27 = .ok (.getfield 24, 3) := by decide +kernel
theorem dX0_add_30 : decode cX0_add 30 = .ok (.iload_n 2, 1) := by decide +kernel
theorem dX0_add_31 : decode cX0_add 31 = .ok (.iastore, 1) := by decide +kernel
theorem dX0_add_32 : decode cX0_add 32 = .ok (.aload_n 0, 1) := by decide +kernel
theorem dX0_add_33 : decode cX0_add 33 = .ok (.getfield 18, 3) := by decide +kernel
theorem dX0_add_36 : decode cX0_add 36 = .ok (.aload_n 0, 1) := by decide +kernel
theorem dX0_add_37 : decode cX0_add 37 = .ok (.getfield 24, 3) := by decide +kernel
theorem dX0_add_40 : decode cX0_add 40 = .ok (.iload_n 3, 1) := by decide +kernel
theorem dX0_add_41 : decode cX0_add 41 = .ok (.iastore, 1) := by decide +kernel
theorem dX0_add_42 : decode cX0_add 42 = .ok (.aload_n 0, 1) := by decide +kernel
theorem dX0_add_43 : decode cX0_add 43 = .ok (.getfield 21, 3) := by decide +kernel
theorem dX0_add_46 : decode cX0_add 46 = .ok (.aload_n 0, 1) := by decide +kernel
theorem dX0_add_47 : decode cX0_add 47 = .ok (.getfield 24, 3) := by decide +kernel
theorem dX0_add_50 : decode cX0_add 50 = .ok (.iload 4, 2) := by decide +kernel
theorem dX0_add_52 : decode cX0_add 52 = .ok (.iastore, 1) := by decide +kernel
theorem dX0_add_53 : decode cX0_add 53 = .ok (.aload_n 0, 1) := by decide +kernel
theorem dX0_add_54 : decode cX0_add 54 = .ok (.dup, 1) := by decide +kernel
theorem dX0_add_55 : decode cX0_add 55 = .ok (.getfield 24, 3) := by decide +kernel
theorem dX0_add_58 : decode cX0_add 58 = .ok (.iconst 1, 1) := by decide +kernel
theorem dX0_add_59 : decode cX0_add 59 = .ok (.iadd, 1) := by decide +kernel
theorem dX0_add_60 : decode cX0_add 60 = .ok (.putfield 24, 3) := by decide +kernel
theorem dX0_add_63 : decode cX0_add 63 = .ok (.aload_n 0, 1) := by decide +kernel
theorem dX0_add_64 : decode cX0_add 64 = .ok (.getfield 24, 3) := by decide +kernel
theorem dX0_add_67 : decode cX0_add 67 = .ok (.iconst 1, 1) := by decide +kernel
theorem dX0_add_68 : decode cX0_add 68 = .ok (.isub, 1) := by decide +kernel
theorem dX0_add_69 : decode cX0_add 69 = .ok (.ireturn, 1) := by decide +kernel
theorem dX0_recall_0 : decode cX0_recall 0 = .ok (.aload_n 0, 1) := by decide +kernel
theorem dX0_recall_1 : decode cX0_recall 1 = .ok (.iconst 0, 1) := by decide +kernel
theorem dX0_recall_2 : decode cX0_recall 2 = .ok (.iload_n 1, 1) := by decide +kernel
theorem dX0_recall_3 : decode cX0_recall 3 = .ok (.aload_n 0, 1) := by decide +kernel
theorem dX0_recall_4 : decode cX0_recall 4 = .ok (.getfield 24, 3) := by decide +kernel
theorem dX0_recall_7 : decode cX0_recall 7 = .ok (.invokestatic 31, 3) := by decide +kernel
theorem dX0_recall_10 : decode cX0_recall 10 = .ok (.invokestatic 37, 3) := by decide +kernel
theorem dX0_recall_13 : decode cX0_recall 13 = .ok (.putfield 28, 3) := by decide +kernel
theorem dX0_recall_16 : decode cX0_recall 16 = .ok (.return_, 1) := by decide +kernel
theorem dX0_firstDay_0 : decode cX0_firstDay 0 = .ok (.sipush 10000, 3) := by decide +kernel
theorem dX0_firstDay_3 : decode cX0_firstDay 3 = .ok (.istore_n 3, 1) := by decide +kernel
theorem dX0_firstDay_4 : decode cX0_firstDay 4 = .ok (.iconst 0, 1) := by decide +kernel
theorem dX0_firstDay_5 : decode cX0_firstDay 5 = .ok (.istore 4, 2) := by decide +kernel
theorem dX0_firstDay_7 : decode cX0_firstDay 7 = .ok (.iload 4, 2) := by decide +kernel
theorem dX0_firstDay_9 : decode cX0_firstDay 9 = .ok (.aload_n 0, 1) := by decide +kernel
theorem dX0_firstDay_10 : decode cX0_firstDay 10 = .ok (.getfield 28, 3) := by decide +kernel
theorem dX0_firstDay_13 : decode cX0_firstDay 13 = .ok (.if_icmp .ge 43, 3) := by decide +kernel
theorem dX0_firstDay_16 : decode cX0_firstDay 16 = .ok (.aload_n 0, 1) := by decide +kernel
theorem dX0_firstDay_17 : decode cX0_firstDay 17 = .ok (.getfield 9, 3) := by decide +kernel
theorem dX0_firstDay_20 : decode cX0_firstDay 20 = .ok (.iload 4, 2) := by decide +kernel
theorem dX0_firstDay_22 : decode cX0_firstDay 22 = .ok (.iaload, 1) := by decide +kernel
theorem dX0_firstDay_23 : decode cX0_firstDay 23 = .ok (.iload_n 1, 1) := by decide +kernel
theorem dX0_firstDay_24 : decode cX0_firstDay 24 = .ok (.if_icmp .ne 26, 3) := by decide +kernel
theorem dX0_firstDay_27 : decode cX0_firstDay 27 = .ok (.aload_n 0, 1) := by decide +kernel
theorem dX0_firstDay_28 : decode cX0_firstDay 28 = .ok (.getfield 15, 3) := by decide +kernel
theorem dX0_firstDay_31 : decode cX0_firstDay 31 = .ok (.iload 4, 2) := by decide +kernel
theorem dX0_firstDay_33 : decode cX0_firstDay 33 = .ok (.iaload, 1) := by decide +kernel
theorem dX0_firstDay_34 : decode cX0_firstDay 34 = .ok (.iload_n 2, 1) := by decide +kernel
theorem dX0_firstDay_35 : decode cX0_firstDay 35 = .ok (.if_icmp .ne 15, 3) := by decide +kernel
theorem dX0_firstDay_38 : decode cX0_firstDay 38 = .ok (.iload_n 3, 1) := by decide +kernel
theorem dX0_firstDay_39 : decode cX0_firstDay 39 = .ok (.aload_n 0, 1) := by decide +kernel
theorem dX0_firstDay_40 : decode cX0_firstDay 40 = .ok (.getfield 21, 3) := by decide +kernel
theorem dX0_firstDay_43 : decode cX0_firstDay 43 = .ok (.iload 4, 2) := by decide +kernel
theorem dX0_firstDay_45 : decode cX0_firstDay 45 = .ok (.iaload, 1) := by decide +kernel
theorem dX0_firstDay_46 : decode cX0_firstDay 46 = .ok (.invokestatic 31, 3) := by decide +kernel
theorem dX0_firstDay_49 : decode cX0_firstDay 49 = .ok (.istore_n 3, 1) := by decide +kernel
theorem dX0_firstDay_50 : decode cX0_firstDay 50 = .ok (.iinc 4 1, 3) := by decide +kernel
theorem dX0_firstDay_53 : decode cX0_firstDay 53 = .ok (.goto (-46), 3) := by decide +kernel
theorem dX0_firstDay_56 : decode cX0_firstDay 56 = .ok (.iload_n 3, 1) := by decide +kernel
theorem dX0_firstDay_57 : decode cX0_firstDay 57 = .ok (.ireturn, 1) := by decide +kernel
theorem dX0_firstLeave_0 : decode cX0_firstLeave 0 = .ok (.sipush 10000, 3) := by decide +kernel
theorem dX0_firstLeave_3 : decode cX0_firstLeave 3 = .ok (.istore_n 3, 1) := by decide +kernel
theorem dX0_firstLeave_4 : decode cX0_firstLeave 4 = .ok (.iconst 0, 1) := by decide +kernel
theorem dX0_firstLeave_5 : decode cX0_firstLeave 5 = .ok (.istore 4, 2) := by decide +kernel
theorem dX0_firstLeave_7 : decode cX0_firstLeave 7 = .ok (.iload 4, 2) := by decide +kernel
theorem dX0_firstLeave_9 : decode cX0_firstLeave 9 = .ok (.aload_n 0, 1) := by decide +kernel
theorem dX0_firstLeave_10 : decode cX0_firstLeave 10 = .ok (.getfield 28, 3) := by decide +kernel
theorem dX0_firstLeave_13 : decode cX0_firstLeave 13 = .ok (.if_icmp .ge 88, 3) := by decide +kernel
theorem dX0_firstLeave_16 : decode cX0_firstLeave 16 = .ok (.aload_n 0, 1) := by decide +kernel
theorem dX0_firstLeave_17 : decode cX0_firstLeave 17 = .ok (.getfield 15, 3) := by decide +kernel
theorem dX0_firstLeave_20 : decode cX0_firstLeave 20 = .ok (.iload 4, 2) := by decide +kernel
theorem dX0_firstLeave_22 : decode cX0_firstLeave 22 = .ok (.iaload, 1) := by decide +kernel
theorem dX0_firstLeave_23 : decode cX0_firstLeave 23 = .ok (.iload_n 1, 1) := by decide +kernel
theorem dX0_firstLeave_24 : decode cX0_firstLeave 24 = .ok (.if_icmp .ne 14, 3) := by decide +kernel
theorem dX0_firstLeave_27 : decode cX0_firstLeave 27 = .ok (.aload_n 0, 1) := by decide +kernel
theorem dX0_firstLeave_28 : decode cX0_firstLeave 28 = .ok (.getfield 18, 3) := by decide +kernel
theorem dX0_firstLeave_31 : decode cX0_firstLeave 31 = .ok (.iload 4, 2) := by decide +kernel
theorem dX0_firstLeave_33 : decode cX0_firstLeave 33 = .ok (.iaload, 1) := by decide +kernel
theorem dX0_firstLeave_34 : decode cX0_firstLeave 34 = .ok (.iload_n 2, 1) := by decide +kernel
theorem dX0_firstLeave_35 : decode cX0_firstLeave 35 = .ok (.if_icmp .eq 25, 3) := by decide +kernel
theorem dX0_firstLeave_38 : decode cX0_firstLeave 38 = .ok (.aload_n 0, 1) := by decide +kernel
theorem dX0_firstLeave_39 : decode cX0_firstLeave 39 = .ok (.getfield 15, 3) := by decide +kernel
theorem dX0_firstLeave_42 : decode cX0_firstLeave 42 = .ok (.iload 4, 2) := by decide +kernel
theorem dX0_firstLeave_44 : decode cX0_firstLeave 44 = .ok (.iaload, 1) := by decide +kernel
theorem dX0_firstLeave_45 : decode cX0_firstLeave 45 = .ok (.iload_n 2, 1) := by decide +kernel
theorem dX0_firstLeave_46 : decode cX0_firstLeave 46 = .ok (.if_icmp .ne 18, 3) := by decide +kernel
theorem dX0_firstLeave_49 : decode cX0_firstLeave 49 = .ok (.aload_n 0, 1) := by decide +kernel
theorem dX0_firstLeave_50 : decode cX0_firstLeave 50 = .ok (.getfield 18, 3) := by decide +kernel
theorem dX0_firstLeave_53 : decode cX0_firstLeave 53 = .ok (.iload 4, 2) := by decide +kernel
theorem dX0_firstLeave_55 : decode cX0_firstLeave 55 = .ok (.iaload, 1) := by decide +kernel
theorem dX0_firstLeave_56 : decode cX0_firstLeave 56 = .ok (.iload_n 1, 1) := by decide +kernel
theorem dX0_firstLeave_57 : decode cX0_firstLeave 57 = .ok (.if_icmp .ne 7, 3) := by decide +kernel
theorem dX0_firstLeave_60 : decode cX0_firstLeave 60 = .ok (.iconst 1, 1) := by decide +kernel
theorem dX0_firstLeave_61 : decode cX0_firstLeave 61 = .ok (.goto 4, 3) := by decide +kernel
theorem dX0_firstLeave_64 : decode cX0_firstLeave 64 = .ok (.iconst 0, 1) := by decide +kernel
theorem dX0_firstLeave_65 : decode cX0_firstLeave 65 = .ok (.istore 5, 2) := by decide +kernel
theorem dX0_firstLeave_67 : decode cX0_firstLeave 67 = .ok (.aload_n 0, 1) := by decide +kernel
theorem dX0_firstLeave_68 : decode cX0_firstLeave 68 = .ok (.getfield 9, 3) := by decide +kernel
theorem dX0_firstLeave_71 : decode cX0_firstLeave 71 = .ok (.iload 4, 2) := by decide +kernel
theorem dX0_firstLeave_73 : decode cX0_firstLeave 73 = .ok (.iaload, 1) := by decide +kernel
theorem dX0_firstLeave_74 : decode cX0_firstLeave 74 = .ok (.iconst 4, 1) := by decide +kernel
theorem dX0_firstLeave_75 : decode cX0_firstLeave 75 = .ok (.if_icmp .ne 20, 3) := by decide +kernel
theorem dX0_firstLeave_78 : decode cX0_firstLeave 78 = .ok (.iload 5, 2) := by decide +kernel
theorem dX0_firstLeave_80 : decode cX0_firstLeave 80 = .ok (.ifCond .eq 15, 3) := by decide +kernel
theorem dX0_firstLeave_83 : decode cX0_firstLeave 83 = .ok (.iload_n 3, 1) := by decide +kernel
theorem dX0_firstLeave_84 : decode cX0_firstLeave 84 = .ok (.aload_n 0, 1) := by decide +kernel
theorem dX0_firstLeave_85 : decode cX0_firstLeave 85 = .ok (.getfield 21, 3) := by decide +kernel
theorem dX0_firstLeave_88 : decode cX0_firstLeave 88 = .ok (.iload 4, 2) := by decide +kernel
theorem dX0_firstLeave_90 : decode cX0_firstLeave 90 = .ok (.iaload, 1) := by decide +kernel
theorem dX0_firstLeave_91 : decode cX0_firstLeave 91 = .ok (.invokestatic 31, 3) := by decide +kernel
theorem dX0_firstLeave_94 : decode cX0_firstLeave 94 = .ok (.istore_n 3, 1) := by decide +kernel
theorem dX0_firstLeave_95 : decode cX0_firstLeave 95 = .ok (.iinc 4 1, 3) := by decide +kernel
theorem dX0_firstLeave_98 : decode cX0_firstLeave 98 = .ok (.goto (-91), 3) := by decide +kernel
theorem dX0_firstLeave_101 : decode cX0_firstLeave 101 = .ok (.iload_n 3, 1) := by decide +kernel
theorem dX0_firstLeave_102 : decode cX0_firstLeave 102 = .ok (.ireturn, 1) := by decide +kernel
theorem dX0_famesOf_0 : decode cX0_famesOf 0 = .ok (.iconst 0, 1) := by decide +kernel
theorem dX0_famesOf_1 : decode cX0_famesOf 1 = .ok (.istore_n 2, 1) := by decide +kernel
theorem dX0_famesOf_2 : decode cX0_famesOf 2 = .ok (.iconst 0, 1) := by decide +kernel
theorem dX0_famesOf_3 : decode cX0_famesOf 3 = .ok (.istore_n 3, 1) := by decide +kernel
theorem dX0_famesOf_4 : decode cX0_famesOf 4 = .ok (.iload_n 3, 1) := by decide +kernel
theorem dX0_famesOf_5 : decode cX0_famesOf 5 = .ok (.aload_n 0, 1) := by decide +kernel
theorem dX0_famesOf_6 : decode cX0_famesOf 6 = .ok (.getfield 28, 3) := by decide +kernel
theorem dX0_famesOf_9 : decode cX0_famesOf 9 = .ok (.if_icmp .ge 33, 3) := by decide +kernel
theorem dX0_famesOf_12 : decode cX0_famesOf 12 = .ok (.aload_n 0, 1) := by decide +kernel
theorem dX0_famesOf_13 : decode cX0_famesOf 13 = .ok (.getfield 9, 3) := by decide +kernel
theorem dX0_famesOf_16 : decode cX0_famesOf 16 = .ok (.iload_n 3, 1) := by decide +kernel
theorem dX0_famesOf_17 : decode cX0_famesOf 17 = .ok (.iaload, 1) := by decide +kernel
theorem dX0_famesOf_18 : decode cX0_famesOf 18 = .ok (.bipush 9, 2) := by decide +kernel
theorem dX0_famesOf_20 : decode cX0_famesOf 20 = .ok (.if_icmp .ne 16, 3) := by decide +kernel
theorem dX0_famesOf_23 : decode cX0_famesOf 23 = .ok (.aload_n 0, 1) := by decide +kernel
theorem dX0_famesOf_24 : decode cX0_famesOf 24 = .ok (.getfield 15, 3) := by decide +kernel
theorem dX0_famesOf_27 : decode cX0_famesOf 27 = .ok (.iload_n 3, 1) := by decide +kernel
theorem dX0_famesOf_28 : decode cX0_famesOf 28 = .ok (.iaload, 1) := by decide +kernel
theorem dX0_famesOf_29 : decode cX0_famesOf 29 = .ok (.iload_n 1, 1) := by decide +kernel
theorem dX0_famesOf_30 : decode cX0_famesOf 30 = .ok (.if_icmp .ne 6, 3) := by decide +kernel
theorem dX0_famesOf_33 : decode cX0_famesOf 33 = .ok (.iinc 2 1, 3) := by decide +kernel
theorem dX0_famesOf_36 : decode cX0_famesOf 36 = .ok (.iinc 3 1, 3) := by decide +kernel
theorem dX0_famesOf_39 : decode cX0_famesOf 39 = .ok (.goto (-35), 3) := by decide +kernel
theorem dX0_famesOf_42 : decode cX0_famesOf 42 = .ok (.iload_n 2, 1) := by decide +kernel
theorem dX0_famesOf_43 : decode cX0_famesOf 43 = .ok (.ireturn, 1) := by decide +kernel
theorem dX0_deciding_0 : decode cX0_deciding 0 = .ok (.iconst (-1), 1) := by decide +kernel
theorem dX0_deciding_1 : decode cX0_deciding 1 = .ok (.istore_n 2, 1) := by decide +kernel
theorem dX0_deciding_2 : decode cX0_deciding 2 = .ok (.iconst 0, 1) := by decide +kernel
theorem dX0_deciding_3 : decode cX0_deciding 3 = .ok (.istore_n 3, 1) := by decide +kernel
theorem dX0_deciding_4 : decode cX0_deciding 4 = .ok (.iload_n 3, 1) := by decide +kernel
theorem dX0_deciding_5 : decode cX0_deciding 5 = .ok (.aload_n 0, 1) := by decide +kernel
theorem dX0_deciding_6 : decode cX0_deciding 6 = .ok (.getfield 28, 3) := by decide +kernel
theorem dX0_deciding_9 : decode cX0_deciding 9 = .ok (.if_icmp .ge 74, 3) := by decide +kernel
theorem dX0_deciding_12 : decode cX0_deciding 12 = .ok (.aload_n 0, 1) := by decide +kernel
theorem dX0_deciding_13 : decode cX0_deciding 13 = .ok (.getfield 9, 3) := by decide +kernel
theorem dX0_deciding_16 : decode cX0_deciding 16 = .ok (.iload_n 3, 1) := by decide +kernel
theorem dX0_deciding_17 : decode cX0_deciding 17 = .ok (.iaload, 1) := by decide +kernel
theorem dX0_deciding_18 : decode cX0_deciding 18 = .ok (.iconst 5, 1) := by decide +kernel
theorem dX0_deciding_19 : decode cX0_deciding 19 = .ok (.if_icmp .eq 14, 3) := by decide +kernel
theorem dX0_deciding_22 : decode cX0_deciding 22 = .ok (.aload_n 0, 1) := by decide +kernel
theorem dX0_deciding_23 : decode cX0_deciding 23 = .ok (.getfield 9, 3) := by decide +kernel
theorem dX0_deciding_26 : decode cX0_deciding 26 = .ok (.iload_n 3, 1) := by decide +kernel
theorem dX0_deciding_27 : decode cX0_deciding 27 = .ok (.iaload, 1) := by decide +kernel
theorem dX0_deciding_28 : decode cX0_deciding 28 = .ok (.bipush 6, 2) := by decide +kernel
theorem dX0_deciding_30 : decode cX0_deciding 30 = .ok (.if_icmp .ne 17, 3) := by decide +kernel
theorem dX0_deciding_33 : decode cX0_deciding 33 = .ok (.aload_n 0, 1) := by decide +kernel
theorem dX0_deciding_34 : decode cX0_deciding 34 = .ok (.getfield 15, 3) := by decide +kernel
theorem dX0_deciding_37 : decode cX0_deciding 37 = .ok (.iload_n 3, 1) := by decide +kernel
theorem dX0_deciding_38 : decode cX0_deciding 38 = .ok (.iaload, 1) := by decide +kernel
theorem dX0_deciding_39 : decode cX0_deciding 39 = .ok (.iload_n 1, 1) := by decide +kernel
theorem dX0_deciding_40 : decode cX0_deciding 40 = .ok (.if_icmp .ne 7, 3) := by decide +kernel
theorem dX0_deciding_43 : decode cX0_deciding 43 = .ok (.iconst 1, 1) := by decide +kernel
theorem dX0_deciding_44 : decode cX0_deciding 44 = .ok (.goto 4, 3) := by decide +kernel
theorem dX0_deciding_47 : decode cX0_deciding 47 = .ok (.iconst 0, 1) := by decide +kernel
theorem dX0_deciding_48 : decode cX0_deciding 48 = .ok (.istore 4, 2) := by decide +kernel
theorem dX0_deciding_50 : decode cX0_deciding 50 = .ok (.iload 4, 2) := by decide +kernel
theorem dX0_deciding_52 : decode cX0_deciding 52 = .ok (.ifCond .eq 25, 3) := by decide +kernel
theorem dX0_deciding_55 : decode cX0_deciding 55 = .ok (.iload_n 2, 1) := by decide +kernel
theorem dX0_deciding_56 : decode cX0_deciding 56 = .ok (.iconst (-1), 1) := by decide +kernel
theorem dX0_deciding_57 : decode cX0_deciding 57 = .ok (.if_icmp .eq 18, 3) := by decide +kernel
theorem dX0_deciding_60 : decode cX0_deciding 60 = .ok (.aload_n 0, 1) := by decide +kernel
theorem dX0_deciding_61 : decode cX0_deciding 61 = .ok (.getfield 21, 3) := by decide +kernel
theorem dX0_deciding_64 : decode cX0_deciding 64 = .ok (.iload_n 3, 1) := by decide +kernel
theorem dX0_deciding_65 : decode cX0_deciding 65 = .ok (.iaload, 1) := by decide +kernel
theorem dX0_deciding_66 : decode cX0_deciding 66 = .ok (.aload_n 0, 1) := by decide +kernel
theorem dX0_deciding_67 : decode cX0_deciding 67 = .ok (.getfield 21, 3) := by decide +kernel
theorem dX0_deciding_70 : decode cX0_deciding 70 = .ok (.iload_n 2, 1) := by decide +kernel
theorem dX0_deciding_71 : decode cX0_deciding 71 = .ok (.iaload, 1) := by decide +kernel
theorem dX0_deciding_72 : decode cX0_deciding 72 = .ok (.if_icmp .ge 5, 3) := by decide +kernel
theorem dX0_deciding_75 : decode cX0_deciding 75 = .ok (.iload_n 3, 1) := by decide +kernel
theorem dX0_deciding_76 : decode cX0_deciding 76 = .ok (.istore_n 2, 1) := by decide +kernel
theorem dX0_deciding_77 : decode cX0_deciding 77 = .ok (.iinc 3 1, 3) := by decide +kernel
theorem dX0_deciding_80 : decode cX0_deciding 80 = .ok (.goto (-76), 3) := by decide +kernel
theorem dX0_deciding_83 : decode cX0_deciding 83 = .ok (.iload_n 2, 1) := by decide +kernel
theorem dX0_deciding_84 : decode cX0_deciding 84 = .ok (.ireturn, 1) := by decide +kernel
theorem dX0_lastWords_0 : decode cX0_lastWords 0 = .ok (.aload_n 2, 1) := by decide +kernel
theorem dX0_lastWords_1 : decode cX0_lastWords 1 = .ok (.iconst (-1), 1) := by decide +kernel
theorem dX0_lastWords_2 : decode cX0_lastWords 2 = .ok (.invokestatic 40, 3) := by decide +kernel
theorem dX0_lastWords_5 : decode cX0_lastWords 5 = .ok (.iconst 0, 1) := by decide +kernel
theorem dX0_lastWords_6 : decode cX0_lastWords 6 = .ok (.istore_n 3, 1) := by decide +kernel
theorem dX0_lastWords_7 : decode cX0_lastWords 7 = .ok (.iload_n 3, 1) := by decide +kernel
theorem dX0_lastWords_8 : decode cX0_lastWords 8 = .ok (.aload_n 0, 1) := by decide +kernel
theorem dX0_lastWords_9 : decode cX0_lastWords 9 = .ok (.getfield 28, 3) := by decide +kernel
theorem dX0_lastWords_12 : decode cX0_lastWords 12 = .ok (.if_icmp .ge 87, 3) := by decide +kernel
theorem dX0_lastWords_15 : decode cX0_lastWords 15 = .ok (.aload_n 0, 1) := by decide +kernel
theorem dX0_lastWords_16 : decode cX0_lastWords 16 = .ok (.getfield 9, 3) := by decide +kernel
theorem dX0_lastWords_19 : decode cX0_lastWords 19 = .ok (.iload_n 3, 1) := by decide +kernel
theorem dX0_lastWords_20 : decode cX0_lastWords 20 = .ok (.iaload, 1) := by decide +kernel
theorem dX0_lastWords_21 : decode cX0_lastWords 21 = .ok (.bipush 7, 2) := by decide +kernel
theorem dX0_lastWords_23 : decode cX0_lastWords 23 = .ok (.if_icmp .eq 14, 3) := by decide +kernel
theorem dX0_lastWords_26 : decode cX0_lastWords 26 = .ok (.aload_n 0, 1) := by decide +kernel
theorem dX0_lastWords_27 : decode cX0_lastWords 27 = .ok (.getfield 9, 3) := by decide +kernel
theorem dX0_lastWords_30 : decode cX0_lastWords 30 = .ok (.iload_n 3, 1) := by decide +kernel
theorem dX0_lastWords_31 : decode cX0_lastWords 31 = .ok (.iaload, 1) := by decide +kernel
theorem dX0_lastWords_32 : decode cX0_lastWords 32 = .ok (.bipush 8, 2) := by decide +kernel
theorem dX0_lastWords_34 : decode cX0_lastWords 34 = .ok (.if_icmp .ne 7, 3) := by decide +kernel
theorem dX0_lastWords_37 : decode cX0_lastWords 37 = .ok (.iconst 1, 1) := by decide +kernel
theorem dX0_lastWords_38 : decode cX0_lastWords 38 = .ok (.goto 4, 3) := by decide +kernel
theorem dX0_lastWords_41 : decode cX0_lastWords 41 = .ok (.iconst 0, 1) := by decide +kernel
theorem dX0_lastWords_42 : decode cX0_lastWords 42 = .ok (.istore 4, 2) := by decide +kernel
theorem dX0_lastWords_44 : decode cX0_lastWords 44 = .ok (.iload 4, 2) := by decide +kernel
theorem dX0_lastWords_46 : decode cX0_lastWords 46 = .ok (.ifCond .eq 47, 3) := by decide +kernel
theorem dX0_lastWords_49 : decode cX0_lastWords 49 = .ok (.aload_n 0, 1) := by decide +kernel
theorem dX0_lastWords_50 : decode cX0_lastWords 50 = .ok (.getfield 18, 3) := by decide +kernel
theorem dX0_lastWords_53 : decode cX0_lastWords 53 = .ok (.iload_n 3, 1) := by decide +kernel
theorem dX0_lastWords_54 : decode cX0_lastWords 54 = .ok (.iaload, 1) := by decide +kernel
theorem dX0_lastWords_55 : decode cX0_lastWords 55 = .ok (.iload_n 1, 1) := by decide +kernel
theorem dX0_lastWords_56 : decode cX0_lastWords 56 = .ok (.if_icmp .ne 37, 3) := by decide +kernel
theorem dX0_lastWords_59 : decode cX0_lastWords 59 = .ok (.aload_n 0, 1) := by decide +kernel
theorem dX0_lastWords_60 : decode cX0_lastWords 60 = .ok (.getfield 15, 3) := by decide +kernel
theorem dX0_lastWords_63 : decode cX0_lastWords 63 = .ok (.iload_n 3, 1) := by decide +kernel
theorem dX0_lastWords_64 : decode cX0_lastWords 64 = .ok (.iaload, 1) := by decide +kernel
theorem dX0_lastWords_65 : decode cX0_lastWords 65 = .ok (.ifCond .lt 28, 3) := by decide +kernel
theorem dX0_lastWords_68 : decode cX0_lastWords 68 = .ok (.aload_n 0, 1) := by decide +kernel
theorem dX0_lastWords_69 : decode cX0_lastWords 69 = .ok (.getfield 15, 3) := by decide +kernel
theorem dX0_lastWords_72 : decode cX0_lastWords 72 = .ok (.iload_n 3, 1) := by decide +kernel
theorem dX0_lastWords_73 : decode cX0_lastWords 73 = .ok (.iaload, 1) := by decide +kernel
theorem dX0_lastWords_74 : decode cX0_lastWords 74 = .ok (.aload_n 2, 1) := by decide +kernel
theorem dX0_lastWords_75 : decode cX0_lastWords 75 = .ok (.arraylength, 1) := by decide +kernel
theorem dX0_lastWords_76 : decode cX0_lastWords 76 = .ok (.if_icmp .ge 17, 3) := by decide +kernel
theorem dX0_lastWords_79 : decode cX0_lastWords 79 = .ok (.aload_n 2, 1) := by decide +kernel
theorem dX0_lastWords_80 : decode cX0_lastWords 80 = .ok (.aload_n 0, 1) := by decide +kernel
theorem dX0_lastWords_81 : decode cX0_lastWords 81 = .ok (.getfield 15, 3) := by decide +kernel
theorem dX0_lastWords_84 : decode cX0_lastWords 84 = .ok (.iload_n 3, 1) := by decide +kernel
theorem dX0_lastWords_85 : decode cX0_lastWords 85 = .ok (.iaload, 1) := by decide +kernel
theorem dX0_lastWords_86 : decode cX0_lastWords 86 = .ok (.aload_n 0, 1) := by decide +kernel
theorem dX0_lastWords_87 : decode cX0_lastWords 87 = .ok (.getfield 9, 3) := by decide +kernel
theorem dX0_lastWords_90 : decode cX0_lastWords 90 = .ok (.iload_n 3, 1) := by decide +kernel
theorem dX0_lastWords_91 : decode cX0_lastWords 91 = .ok (.iaload, 1) := by decide +kernel
theorem dX0_lastWords_92 : decode cX0_lastWords 92 = .ok (.iastore, 1) := by decide +kernel
theorem dX0_lastWords_93 : decode cX0_lastWords 93 = .ok (.iinc 3 1, 3) := by decide +kernel
theorem dX0_lastWords_96 : decode cX0_lastWords 96 = .ok (.goto (-89), 3) := by decide +kernel
theorem dX0_lastWords_99 : decode cX0_lastWords 99 = .ok (.return_, 1) := by decide +kernel
theorem dX0_firstLapse_0 : decode cX0_firstLapse 0 = .ok (.sipush 10000, 3) := by decide +kernel
theorem dX0_firstLapse_3 : decode cX0_firstLapse 3 = .ok (.istore 4, 2) := by decide +kernel
theorem dX0_firstLapse_5 : decode cX0_firstLapse 5 = .ok (.iconst 0, 1) := by decide +kernel
theorem dX0_firstLapse_6 : decode cX0_firstLapse 6 = .ok (.istore 5, 2) := by decide +kernel
theorem dX0_firstLapse_8 : decode cX0_firstLapse 8 = .ok (.iload 5, 2) := by decide +kernel
theorem dX0_firstLapse_10 : decode cX0_firstLapse 10 = .ok (.aload_n 0, 1) := by decide +kernel
theorem dX0_firstLapse_11 : decode cX0_firstLapse 11 = .ok (.getfield 28, 3) := by decide +kernel
theorem dX0_firstLapse_14 : decode cX0_firstLapse 14 = .ok (.if_icmp .ge 74, 3) := by decide +kernel
theorem dX0_firstLapse_17 : decode cX0_firstLapse 17 = .ok (.aload_n 0, 1) := by decide +kernel
theorem dX0_firstLapse_18 : decode cX0_firstLapse 18 = .ok (.getfield 9, 3) := by decide +kernel
theorem dX0_firstLapse_21 : decode cX0_firstLapse 21 = .ok (.iload 5, 2) := by decide +kernel
theorem dX0_firstLapse_23 : decode cX0_firstLapse 23 = .ok (.iaload, 1) := by decide +kernel
theorem dX0_firstLapse_24 : decode cX0_firstLapse 24 = .ok (.iconst 2, 1) := by decide +kernel
theorem dX0_firstLapse_25 : decode cX0_firstLapse 25 = .ok (.if_icmp .ne 57, 3) := by decide +kernel
theorem dX0_firstLapse_28 : decode cX0_firstLapse 28 = .ok (.aload_n 0, 1) := by decide +kernel
theorem dX0_firstLapse_29 : decode cX0_firstLapse 29 = .ok (.getfield 15, 3) := by decide +kernel
theorem dX0_firstLapse_32 : decode cX0_firstLapse 32 = .ok (.iload 5, 2) := by decide +kernel
theorem dX0_firstLapse_34 : decode cX0_firstLapse 34 = .ok (.iaload, 1) := by decide +kernel
theorem dX0_firstLapse_35 : decode cX0_firstLapse 35 = .ok (.iload_n 1, 1) := by decide +kernel
theorem dX0_firstLapse_36 : decode cX0_firstLapse 36 = .ok (.if_icmp .ne 46, 3) := by decide +kernel
theorem dX0_firstLapse_39 : decode cX0_firstLapse 39 = .ok (.iload_n 3, 1) := by decide +kernel
theorem dX0_firstLapse_40 : decode cX0_firstLapse 40 = .ok (.aload_n 0, 1) := by decide +kernel
theorem dX0_firstLapse_41 : decode cX0_firstLapse 41 = .ok (.getfield 21, 3) := by decide +kernel
theorem dX0_firstLapse_44 : decode cX0_firstLapse 44 = .ok (.iload 5, 2) := by decide +kernel
theorem dX0_firstLapse_46 : decode cX0_firstLapse 46 = .ok (.iaload, 1) := by decide +kernel
theorem dX0_firstLapse_47 : decode cX0_firstLapse 47 = .ok (.iload_n 2, 1) := by decide +kernel
theorem dX0_firstLapse_48 : decode cX0_firstLapse 48 = .ok (.iadd, 1) := by decide +kernel
theorem dX0_firstLapse_49 : decode cX0_firstLapse 49 = .ok (.invokestatic 37, 3) := by decide +kernel
theorem dX0_firstLapse_52 : decode cX0_firstLapse 52 = .ok (.istore 6, 2) := by decide +kernel
theorem dX0_firstLapse_54 : decode cX0_firstLapse 54 = .ok (.iload 6, 2) := by decide +kernel
theorem dX0_firstLapse_56 : decode cX0_firstLapse 56 = .ok (.iload 4, 2) := by decide +kernel
theorem dX0_firstLapse_58 : decode cX0_firstLapse 58 = .ok (.if_icmp .ge 24, 3) := by decide +kernel
theorem dX0_firstLapse_61 : decode cX0_firstLapse 61 = .ok (.aload_n 0, 1) := by decide +kernel
theorem dX0_firstLapse_62 : decode cX0_firstLapse 62 = .ok (.iload_n 1, 1) := by decide +kernel
theorem dX0_firstLapse_63 : decode cX0_firstLapse 63 = .ok (.aload_n 0, 1) := by decide +kernel
theorem dX0_firstLapse_64 : decode cX0_firstLapse 64 = .ok (.getfield 21, 3) := by decide +kernel
theorem dX0_firstLapse_67 : decode cX0_firstLapse 67 = .ok (.iload 5, 2) := by decide +kernel
theorem dX0_firstLapse_69 : decode cX0_firstLapse 69 = .ok (.iaload, 1) := by decide +kernel
theorem dX0_firstLapse_70 : decode cX0_firstLapse 70 = .ok (.iload 6, 2) := by decide +kernel
theorem dX0_firstLapse_72 : decode cX0_firstLapse 72 = .ok (.invokevirtual 46, 3) := by decide +kernel
theorem dX0_firstLapse_75 : decode cX0_firstLapse 75 = .ok (.ifCond .ne 7, 3) := by decide +kernel
theorem dX0_firstLapse_78 : decode cX0_firstLapse 78 = .ok (.iload 6, 2) := by decide +kernel
theorem dX0_firstLapse_80 : decode cX0_firstLapse 80 = .ok (.istore 4, 2) := by decide +kernel
theorem dX0_firstLapse_82 : decode cX0_firstLapse 82 = .ok (.iinc 5 1, 3) := by decide +kernel
theorem dX0_firstLapse_85 : decode cX0_firstLapse 85 = .ok (.goto (-77), 3) := by decide +kernel
theorem dX0_firstLapse_88 : decode cX0_firstLapse 88 = .ok (.iload 4, 2) := by decide +kernel
theorem dX0_firstLapse_90 : decode cX0_firstLapse 90 = .ok (.ireturn, 1) := by decide +kernel
theorem dX0_returns_0 : decode cX0_returns 0 = .ok (.iconst 0, 1) := by decide +kernel
theorem dX0_returns_1 : decode cX0_returns 1 = .ok (.istore 4, 2) := by decide +kernel
theorem dX0_returns_3 : decode cX0_returns 3 = .ok (.iload 4, 2) := by decide +kernel
theorem dX0_returns_5 : decode cX0_returns 5 = .ok (.aload_n 0, 1) := by decide +kernel
theorem dX0_returns_6 : decode cX0_returns 6 = .ok (.getfield 28, 3) := by decide +kernel
theorem dX0_returns_9 : decode cX0_returns 9 = .ok (.if_icmp .ge 55, 3) := by decide +kernel
theorem dX0_returns_12 : decode cX0_returns 12 = .ok (.aload_n 0, 1) := by decide +kernel
theorem dX0_returns_13 : decode cX0_returns 13 = .ok (.getfield 9, 3) := by decide +kernel
theorem dX0_returns_16 : decode cX0_returns 16 = .ok (.iload 4, 2) := by decide +kernel
theorem dX0_returns_18 : decode cX0_returns 18 = .ok (.iaload, 1) := by decide +kernel
theorem dX0_returns_19 : decode cX0_returns 19 = .ok (.iconst 3, 1) := by decide +kernel
theorem dX0_returns_20 : decode cX0_returns 20 = .ok (.if_icmp .ne 38, 3) := by decide +kernel
theorem dX0_returns_23 : decode cX0_returns 23 = .ok (.aload_n 0, 1) := by decide +kernel
theorem dX0_returns_24 : decode cX0_returns 24 = .ok (.getfield 15, 3) := by decide +kernel
theorem dX0_returns_27 : decode cX0_returns 27 = .ok (.iload 4, 2) := by decide +kernel
theorem dX0_returns_29 : decode cX0_returns 29 = .ok (.iaload, 1) := by decide +kernel
theorem dX0_returns_30 : decode cX0_returns 30 = .ok (.iload_n 1, 1) := by decide +kernel
theorem dX0_returns_31 : decode cX0_returns 31 = .ok (.if_icmp .ne 27, 3) := by decide +kernel
theorem dX0_returns_34 : decode cX0_returns 34 = .ok (.aload_n 0, 1) := by decide +kernel
theorem dX0_returns_35 : decode cX0_returns 35 = .ok (.getfield 21, 3) := by decide +kernel
theorem dX0_returns_38 : decode cX0_returns 38 = .ok (.iload 4, 2) := by decide +kernel
theorem dX0_returns_40 : decode cX0_returns 40 = .ok (.iaload, 1) := by decide +kernel
theorem dX0_returns_41 : decode cX0_returns 41 = .ok (.iload_n 2, 1) := by decide +kernel
theorem dX0_returns_42 : decode cX0_returns 42 = .ok (.if_icmp .lt 16, 3) := by decide +kernel
theorem dX0_returns_45 : decode cX0_returns 45 = .ok (.aload_n 0, 1) := by decide +kernel
theorem dX0_returns_46 : decode cX0_returns 46 = .ok (.getfield 21, 3) := by decide +kernel
theorem dX0_returns_49 : decode cX0_returns 49 = .ok (.iload 4, 2) := by decide +kernel
theorem dX0_returns_51 : decode cX0_returns 51 = .ok (.iaload, 1) := by decide +kernel
theorem dX0_returns_52 : decode cX0_returns 52 = .ok (.iload_n 3, 1) := by decide +kernel
theorem dX0_returns_53 : decode cX0_returns 53 = .ok (.if_icmp .gt 5, 3) := by decide +kernel
theorem dX0_returns_56 : decode cX0_returns 56 = .ok (.iconst 1, 1) := by decide +kernel
theorem dX0_returns_57 : decode cX0_returns 57 = .ok (.ireturn, 1) := by decide +kernel
theorem dX0_returns_58 : decode cX0_returns 58 = .ok (.iinc 4 1, 3) := by decide +kernel
theorem dX0_returns_61 : decode cX0_returns 61 = .ok (.goto (-58), 3) := by decide +kernel
theorem dX0_returns_64 : decode cX0_returns 64 = .ok (.iconst 0, 1) := by decide +kernel
theorem dX0_returns_65 : decode cX0_returns 65 = .ok (.ireturn, 1) := by decide +kernel
