theorem dX9_init_0 : decode cX9_init 0 = .ok (.aload_n 0, 1) := by decide +kernel
theorem dX9_init_1 : decode cX9_init 1 = .ok (.invokespecial 3, 3) := by decide +kernel
theorem dX9_init_4 : decode cX9_init 4 = .ok (.aload_n 0, 1) := by decide +kernel
theorem dX9_init_5 : decode cX9_init 5 = .ok (.sipush 2000, 3) := by decide +kernel
theorem dX9_init_8 : decode cX9_init 8 = .ok (.newarray .byte, 2) := by decide +kernel
theorem dX9_init_10 : decode cX9_init 10 = .ok (.putfield 9, 3) := by decide +kernel
theorem dX9_init_13 : decode cX9_init 13 = .ok (.aload_n 0, 1) := by decide +kernel
theorem dX9_init_14 : decode cX9_init 14 = .ok (.iconst 0, 1) := by decide +kernel
theorem dX9_init_15 : decode cX9_init 15 = .ok (.putfield 15, 3) := by decide +kernel
theorem dX9_init_18 : decode cX9_init 18 = .ok (.aload_n 0, 1) := by decide +kernel
theorem dX9_init_19 : decode cX9_init 19 = .ok (.iconst 0, 1) := by decide +kernel
theorem dX9_init_20 : decode cX9_init 20 = .ok (.putfield 19, 3) := by decide +kernel
theorem dX9_init_23 : decode cX9_init 23 = .ok (.aload_n 0, 1) := by decide +kernel
theorem dX9_init_24 : decode cX9_init 24 = .ok (.iconst 0, 1) := by decide +kernel
theorem dX9_init_25 : decode cX9_init 25 = .ok (.putfield 22, 3) := by decide +kernel
theorem dX9_init_28 : decode cX9_init 28 = .ok (.return_, 1) := by decide +kernel
theorem dX9_append_0 : decode cX9_append 0 = .ok (.bipush 24, 2) := by decide +kernel
theorem dX9_append_2 : decode cX9_append 2 = .ok (.istore_n 2, 1) := by decide +kernel
theorem dX9_append_3 : decode cX9_append 3 = .ok (.iload_n 2, 1) := by decide +kernel
theorem dX9_append_4 : decode cX9_append 4 = .ok (.ifCond .lt 44, 3) := by decide +kernel
theorem dX9_append_7 : decode cX9_append 7 = .ok (.aload_n 0, 1) := by decide +kernel
theorem dX9_append_8 : decode cX9_append 8 = .ok (.getfield 15, 3) := by decide +kernel
theorem dX9_append_11 : decode cX9_append 11 = .ok (.aload_n 0, 1) := by decide +kernel
theorem dX9_append_12 : decode cX9_append 12 = .ok (.getfield 9, 3) := by decide +kernel
theorem dX9_append_15 : decode cX9_append 15 = .ok (.arraylength, 1) := by decide +kernel
theorem dX9_append_16 : decode cX9_append 16 = .ok (.if_icmp .ge 32, 3) := by decide +kernel
theorem dX9_append_19 : decode cX9_append 19 = .ok (.aload_n 0, 1) := by decide +kernel
theorem dX9_append_20 : decode cX9_append 20 = .ok (.getfield 9, 3) := by decide +kernel
theorem dX9_append_23 : decode cX9_append 23 = .ok (.aload_n 0, 1) := by decide +kernel
theorem dX9_append_24 : decode cX9_append 24 = .ok (.getfield 15, 3) := by decide +kernel
theorem dX9_append_27 : decode cX9_append 27 = .ok (.iload_n 1, 1) := by decide +kernel
theorem dX9_append_28 : decode cX9_append 28 = .ok (.iload_n 2, 1) := by decide +kernel
theorem dX9_append_29 : decode cX9_append 29 = .ok (.ishr, 1) := by decide +kernel
theorem dX9_append_30 : decode cX9_append 30 = .ok (.i2b, 1) := by decide +kernel
theorem dX9_append_31 : decode cX9_append 31 = .ok (.bastore, 1) := by decide +kernel
theorem dX9_append_32 : decode cX9_append 32 = .ok (.aload_n 0, 1) := by decide +kernel
theorem dX9_append_33 : decode cX9_append 33 = .ok (.dup, 1) := by decide +kernel
theorem dX9_append_34 : decode cX9_append 34 = .ok (.getfield 15, 3) := by decide +kernel
theorem dX9_append_37 : decode cX9_append 37 = .ok (.iconst 1, 1) := by decide +kernel
theorem dX9_append_38 : decode cX9_append 38 = .ok (.iadd, 1) := by decide +kernel
theorem dX9_append_39 : decode cX9_append 39 = .ok (.putfield 15, 3) := by decide +kernel
theorem dX9_append_42 : decode cX9_append 42 = .ok (.iinc 2 (-8), 3) := by decide +kernel
theorem dX9_append_45 : decode cX9_append 45 = .ok (.goto (-42), 3) := by decide +kernel
theorem dX9_append_48 : decode cX9_append 48 = .ok (.return_, 1) := by decide +kernel
theorem dX9_rewind_0 : decode cX9_rewind 0 = .ok (.aload_n 0, 1) := by decide +kernel
theorem dX9_rewind_1 : decode cX9_rewind 1 = .ok (.iconst 0, 1) := by decide +kernel
theorem dX9_rewind_2 : decode cX9_rewind 2 = .ok (.putfield 19, 3) := by decide +kernel
theorem dX9_rewind_5 : decode cX9_rewind 5 = .ok (.aload_n 0, 1) := by decide +kernel
theorem dX9_rewind_6 : decode cX9_rewind 6 = .ok (.iconst 0, 1) := by decide +kernel
theorem dX9_rewind_7 : decode cX9_rewind 7 = .ok (.putfield 22, 3) := by decide +kernel
theorem dX9_rewind_10 : decode cX9_rewind 10 = .ok (.return_, 1) := by decide +kernel
theorem dX9_token_0 : decode cX9_token 0 = .ok (.aload_n 0, 1) := by decide +kernel
theorem dX9_token_1 : decode cX9_token 1 = .ok (.getfield 22, 3) := by decide +kernel
theorem dX9_token_4 : decode cX9_token 4 = .ok (.aload_n 0, 1) := by decide +kernel
theorem dX9_token_5 : decode cX9_token 5 = .ok (.getfield 15, 3) := by decide +kernel
theorem dX9_token_8 : decode cX9_token 8 = .ok (.if_icmp .ge 31, 3) := by decide +kernel
theorem dX9_token_11 : decode cX9_token 11 = .ok (.aload_n 0, 1) := by decide +kernel
theorem dX9_token_12 : decode cX9_token 12 = .ok (.getfield 9, 3) := by decide +kernel
theorem dX9_token_15 : decode cX9_token 15 = .ok (.aload_n 0, 1) := by decide +kernel
theorem dX9_token_16 : decode cX9_token 16 = .ok (.getfield 22, 3) := by decide +kernel
theorem dX9_token_19 : decode cX9_token 19 = .ok (.baload, 1) := by decide +kernel
theorem dX9_token_20 : decode cX9_token 20 = .ok (.invokestatic 25, 3) := by decide +kernel
theorem dX9_token_23 : decode cX9_token 23 = .ok (.ifCond .eq 16, 3) := by decide +kernel
theorem dX9_token_26 : decode cX9_token 26 = .ok (.aload_n 0, 1) := by decide +kernel
theorem dX9_token_27 : decode cX9_token 27 = .ok (.dup, 1) := by decide +kernel
theorem dX9_token_28 : decode cX9_token 28 = .ok (.getfield 22, 3) := by decide +kernel
theorem dX9_token_31 : decode cX9_token 31 = .ok (.iconst 1, 1) := by decide +kernel
theorem dX9_token_32 : decode cX9_token 32 = .ok (.iadd, 1) := by decide +kernel
theorem dX9_token_33 : decode cX9_token 33 = .ok (.putfield 22, 3) := by decide +kernel
theorem dX9_token_36 : decode cX9_token 36 = .ok (.goto (-36), 3) := by decide +kernel
theorem dX9_token_39 : decode cX9_token 39 = .ok (.aload_n 0, 1) := by decide +kernel
theorem dX9_token_40 : decode cX9_token 40 = .ok (.aload_n 0, 1) := by decide +kernel
theorem dX9_token_41 : decode cX9_token 41 = .ok (.getfield 22, 3) := by decide +kernel
theorem dX9_token_44 : decode cX9_token 44 = .ok (.putfield 19, 3) := by decide +kernel
theorem dX9_token_47 : decode cX9_token 47 = .ok (.aload_n 0, 1) := by decide +kernel
theorem dX9_token_48 : decode cX9_token 48 = .ok (.getfield 19, 3) := by decide +kernel
theorem dX9_token_51 : decode cX9_token 51 = .ok (.aload_n 0, 1) := by decide +kernel
theorem dX9_token_52 : decode cX9_token 52 = .ok (.getfield 15, 3) := by decide +kernel
theorem dX9_token_55 : decode cX9_token 55 = .ok (.if_icmp .lt 5, 3) := by decide +kernel
theorem dX9_token_58 : decode cX9_token 58 = .ok (.iconst (-1), 1) := by decide +kernel
theorem dX9_token_59 : decode cX9_token 59 = .ok (.ireturn, 1) := by decide +kernel
theorem dX9_token_60 : decode cX9_token 60 = .ok (.aload_n 0, 1) := by decide +kernel
theorem dX9_token_61 : decode cX9_token 61 = .ok (.getfield 9, 3) := by decide +kernel
theorem dX9_token_64 : decode cX9_token 64 = .ok (.aload_n 0, 1) := by decide +kernel
theorem dX9_token_65 : decode cX9_token 65 = .ok (.getfield 19, 3) := by decide +kernel
theorem dX9_token_68 : decode cX9_token 68 = .ok (.baload, 1) := by decide +kernel
theorem dX9_token_69 : decode cX9_token 69 = .ok (.invokestatic 29, 3) := by decide +kernel
theorem dX9_token_72 : decode cX9_token 72 = .ok (.ifCond .eq 8, 3) := by decide +kernel
theorem dX9_token_75 : decode cX9_token 75 = .ok (.aload_n 0, 1) := by decide +kernel
theorem dX9_token_76 : decode cX9_token 76 = .ok (.invokevirtual 32, 3) := by decide +kernel
theorem dX9_token_79 : decode cX9_token 79 = .ok (.ireturn, 1) := by decide +kernel
theorem dX9_token_80 : decode cX9_token 80 = .ok (.aload_n 0, 1) := by decide +kernel
theorem dX9_token_81 : decode cX9_token 81 = .ok (.getfield 9, 3) := by decide +kernel
theorem dX9_token_84 : decode cX9_token 84 = .ok (.aload_n 0, 1) := by decide +kernel
theorem dX9_token_85 : decode cX9_token 85 = .ok (.getfield 19, 3) := by decide +kernel
theorem dX9_token_88 : decode cX9_token 88 = .ok (.baload, 1) := by decide +kernel
theorem dX9_token_89 : decode cX9_token 89 = .ok (.invokestatic 36, 3) := by decide +kernel
theorem dX9_token_92 : decode cX9_token 92 = .ok (.ifCond .eq 8, 3) := by decide +kernel
theorem dX9_token_95 : decode cX9_token 95 = .ok (.aload_n 0, 1) := by decide +kernel
theorem dX9_token_96 : decode cX9_token 96 = .ok (.invokevirtual 39, 3) := by decide +kernel
theorem dX9_token_99 : decode cX9_token 99 = .ok (.ireturn, 1) := by decide +kernel
theorem dX9_token_100 : decode cX9_token 100 = .ok (.aload_n 0, 1) := by decide +kernel
theorem dX9_token_101 : decode cX9_token 101 = .ok (.aload_n 0, 1) := by decide +kernel
theorem dX9_token_102 : decode cX9_token 102 = .ok (.getfield 9, 3) := by decide +kernel
theorem dX9_token_105 : decode cX9_token 105 = .ok (.aload_n 0, 1) := by decide +kernel
theorem dX9_token_106 : decode cX9_token 106 = .ok (.getfield 19, 3) := by decide +kernel
theorem dX9_token_109 : decode cX9_token 109 = .ok (.baload, 1) := by decide +kernel
theorem dX9_token_110 : decode cX9_token 110 = .ok (.invokevirtual 42, 3) := by decide +kernel
theorem dX9_token_113 : decode cX9_token 113 = .ok (.ireturn, 1) := by decide +kernel
theorem dX9_word_0 : decode cX9_word 0 = .ok (.aload_n 0, 1) := by decide +kernel
theorem dX9_word_1 : decode cX9_word 1 = .ok (.getfield 22, 3) := by decide +kernel
theorem dX9_word_4 : decode cX9_word 4 = .ok (.aload_n 0, 1) := by decide +kernel
theorem dX9_word_5 : decode cX9_word 5 = .ok (.getfield 15, 3) := by decide +kernel
theorem dX9_word_8 : decode cX9_word 8 = .ok (.if_icmp .ge 31, 3) := by decide +kernel
theorem dX9_word_11 : decode cX9_word 11 = .ok (.aload_n 0, 1) := by decide +kernel
theorem dX9_word_12 : decode cX9_word 12 = .ok (.getfield 9, 3) := by decide +kernel
theorem dX9_word_15 : decode cX9_word 15 = .ok (.aload_n 0, 1) := by decide +kernel
theorem dX9_word_16 : decode cX9_word 16 = .ok (.getfield 22, 3) := by decide +kernel
theorem dX9_word_19 : decode cX9_word 19 = .ok (.baload, 1) := by decide +kernel
theorem dX9_word_20 : decode cX9_word 20 = .ok (.invokestatic 29, 3) := by decide +kernel
theorem dX9_word_23 : decode cX9_word 23 = .ok (.ifCond .eq 16, 3) := by decide +kernel
theorem dX9_word_26 : decode cX9_word 26 = .ok (.aload_n 0, 1) := by decide +kernel
theorem dX9_word_27 : decode cX9_word 27 = .ok (.dup, 1) := by decide +kernel
theorem dX9_word_28 : decode cX9_word 28 = .ok (.getfield 22, 3) := by decide +kernel
theorem dX9_word_31 : decode cX9_word 31 = .ok (.iconst 1, 1) := by decide +kernel
theorem dX9_word_32 : decode cX9_word 32 = .ok (.iadd, 1) := by decide +kernel
theorem dX9_word_33 : decode cX9_word 33 = .ok (.putfield 22, 3) := by decide +kernel
theorem dX9_word_36 : decode cX9_word 36 = .ok (.goto (-36), 3) := by decide +kernel
theorem dX9_word_39 : decode cX9_word 39 = .ok (.iconst 0, 1) := by decide +kernel
theorem dX9_word_40 : decode cX9_word 40 = .ok (.istore_n 1, 1) := by decide +kernel
theorem dX9_word_41 : decode cX9_word 41 = .ok (.iload_n 1, 1) := by decide +kernel
theorem dX9_word_42 : decode cX9_word 42 = .ok (.bipush 20, 2) := by decide +kernel
theorem dX9_word_44 : decode cX9_word 44 = .ok (.if_icmp .ge 35, 3) := by decide +kernel
theorem dX9_word_47 : decode cX9_word 47 = .ok (.aload_n 0, 1) := by decide +kernel
theorem dX9_word_48 : decode cX9_word 48 = .ok (.iload_n 1, 1) := by decide +kernel
theorem dX9_word_49 : decode cX9_word 49 = .ok (.bipush 7, 2) := by decide +kernel
theorem dX9_word_51 : decode cX9_word 51 = .ok (.imul, 1) := by decide +kernel
theorem dX9_word_52 : decode cX9_word 52 = .ok (.aload_n 0, 1) := by decide +kernel
theorem dX9_word_53 : decode cX9_word 53 = .ok (.getfield 22, 3) := by decide +kernel
theorem dX9_word_56 : decode cX9_word 56 = .ok (.aload_n 0, 1) := by decide +kernel
theorem dX9_word_57 : decode cX9_word 57 = .ok (.getfield 19, 3) := by decide +kernel
theorem dX9_word_60 : decode cX9_word 60 = .ok (.isub, 1) := by decide +kernel
theorem dX9_word_61 : decode cX9_word 61 = .ok (.invokevirtual 46, 3) := by decide +kernel
theorem dX9_word_64 : decode cX9_word 64 = .ok (.ifCond .eq 9, 3) := by decide +kernel
theorem dX9_word_67 : decode cX9_word 67 = .ok (.sipush 10000, 3) := by decide +kernel
theorem dX9_word_70 : decode cX9_word 70 = .ok (.iload_n 1, 1) := by decide +kernel
theorem dX9_word_71 : decode cX9_word 71 = .ok (.iadd, 1) := by decide +kernel
theorem dX9_word_72 : decode cX9_word 72 = .ok (.ireturn, 1) := by decide +kernel
theorem dX9_word_73 : decode cX9_word 73 = .ok (.iinc 1 1, 3) := by decide +kernel
theorem dX9_word_76 : decode cX9_word 76 = .ok (.goto (-35), 3) := by decide +kernel
theorem dX9_word_79 : decode cX9_word 79 = .ok (.bipush (-2), 2) := by decide +kernel
theorem dX9_word_81 : decode cX9_word 81 = .ok (.ireturn, 1) := by decide +kernel
theorem dX9_isWord_0 : decode cX9_isWord 0 = .ok (.iload_n 2, 1) := by decide +kernel
theorem dX9_isWord_1 : decode cX9_isWord 1 = .ok (.bipush 7, 2) := by decide +kernel
theorem dX9_isWord_3 : decode cX9_isWord 3 = .ok (.if_icmp .ge 16, 3) := by decide +kernel
theorem dX9_isWord_6 : decode cX9_isWord 6 = .ok (.ldc 50, 2) := by decide +kernel
theorem dX9_isWord_8 : decode cX9_isWord 8 = .ok (.iload_n 1, 1) := by decide +kernel
theorem dX9_isWord_9 : decode cX9_isWord 9 = .ok (.iload_n 2, 1) := by decide +kernel
theorem dX9_isWord_10 : decode cX9_isWord 10 = .ok (.iadd, 1) := by decide +kernel
theorem dX9_isWord_11 : decode cX9_isWord 11 = .ok (.invokevirtual 52, 3) := by decide +kernel
theorem dX9_isWord_14 : decode cX9_isWord 14 = .ok (.bipush 32, 2) := by decide +kernel
theorem dX9_isWord_16 : decode cX9_isWord 16 = .ok (.if_icmp .eq 5, 3) := by decide +kernel
theorem dX9_isWord_19 : decode cX9_isWord 19 = .ok (.iconst 0, 1) := by decide +kernel
theorem dX9_isWord_20 : decode cX9_isWord 20 = .ok (.ireturn, 1) := by decide +kernel
theorem dX9_isWord_21 : decode cX9_isWord 21 = .ok (.iconst 0, 1) := by decide +kernel
theorem dX9_isWord_22 : decode cX9_isWord 22 = .ok (.istore_n 3, 1) := by decide +kernel
theorem dX9_isWord_23 : decode cX9_isWord 23 = .ok (.iload_n 3, 1) := by decide +kernel
theorem dX9_isWord_24 : decode cX9_isWord 24 = .ok (.iload_n 2, 1) := by decide +kernel
theorem dX9_isWord_25 : decode cX9_isWord 25 = .ok (.if_icmp .ge 33, 3) := by decide +kernel
theorem dX9_isWord_28 : decode cX9_isWord 28 = .ok (.ldc 50, 2) := by decide +kernel
theorem dX9_isWord_30 : decode cX9_isWord 30 = .ok (.iload_n 1, 1) := by decide +kernel
theorem dX9_isWord_31 : decode cX9_isWord 31 = .ok (.iload_n 3, 1) := by decide +kernel
theorem dX9_isWord_32 : decode cX9_isWord 32 = .ok (.iadd, 1) := by decide +kernel
theorem dX9_isWord_33 : decode cX9_isWord 33 = .ok (.invokevirtual 52, 3) := by decide +kernel
theorem dX9_isWord_36 : decode cX9_isWord 36 = .ok (.aload_n 0, 1) := by decide +kernel
theorem dX9_isWord_37 : decode cX9_isWord 37 = .ok (.getfield 9, 3) := by decide +kernel
theorem dX9_isWord_40 : decode cX9_isWord 40 = .ok (.aload_n 0, 1) := by decide +kernel
theorem dX9_isWord_41 : decode cX9_isWord 41 = .ok (.getfield 19, 3) := by decide +kernel
theorem dX9_isWord_44 : decode cX9_isWord 44 = .ok (.iload_n 3, 1) := by decide +kernel
theorem dX9_isWord_45 : decode cX9_isWord 45 = .ok (.iadd, 1) := by decide +kernel
theorem dX9_isWord_46 : decode cX9_isWord 46 = .ok (.baload, 1) := by decide +kernel
theorem dX9_isWord_47 : decode cX9_isWord 47 = .ok (.if_icmp .eq 5, 3) := by decide +kernel
theorem dX9_isWord_50 : decode cX9_isWord 50 = .ok (.iconst 0, 1) := by decide +kernel
theorem dX9_isWord_51 : decode cX9_isWord 51 = .ok (.ireturn, 1) := by decide +kernel
theorem dX9_isWord_52 : decode cX9_isWord 52 = .ok (.iinc 3 1, 3) := by decide +kernel
theorem dX9_isWord_55 : decode cX9_isWord 55 = .ok (.goto (-32), 3) := by decide +kernel
theorem dX9_isWord_58 : decode cX9_isWord 58 = .ok (.iconst 1, 1) := by decide +kernel
theorem dX9_isWord_59 : decode cX9_isWord 59 = .ok (.ireturn, 1) := by decide +kernel
theorem dX9_number_0 : decode cX9_number 0 = .ok (.iconst 0, 1) := by decide +kernel
theorem dX9_number_1 : decode cX9_number 1 = .ok (.istore_n 1, 1) := by decide +kernel
theorem dX9_number_2 : decode cX9_number 2 = .ok (.aload_n 0, 1) := by decide +kernel
theorem dX9_number_3 : decode cX9_number 3 = .ok (.getfield 22, 3) := by decide +kernel
theorem dX9_number_6 : decode cX9_number 6 = .ok (.aload_n 0, 1) := by decide +kernel
theorem dX9_number_7 : decode cX9_number 7 = .ok (.getfield 15, 3) := by decide +kernel
theorem dX9_number_10 : decode cX9_number 10 = .ok (.if_icmp .ge 49, 3) := by decide +kernel
theorem dX9_number_13 : decode cX9_number 13 = .ok (.aload_n 0, 1) := by decide +kernel
theorem dX9_number_14 : decode cX9_number 14 = .ok (.getfield 9, 3) := by decide +kernel
theorem dX9_number_17 : decode cX9_number 17 = .ok (.aload_n 0, 1) := by decide +kernel
theorem dX9_number_18 : decode cX9_number 18 = .ok (.getfield 22, 3) := by decide +kernel
theorem dX9_number_21 : decode cX9_number 21 = .ok (.baload, 1) := by decide +kernel
theorem dX9_number_22 : decode cX9_number 22 = .ok (.invokestatic 36, 3) := by decide +kernel
theorem dX9_number_25 : decode cX9_number 25 = .ok (.ifCond .eq 34, 3) := by decide +kernel
theorem dX9_number_28 : decode cX9_number 28 = .ok (.iload_n 1, 1) := by decide +kernel
theorem dX9_number_29 : decode cX9_number 29 = .ok (.bipush 10, 2) := by decide +kernel
theorem dX9_number_31 : decode cX9_number 31 = .ok (.imul, 1) := by decide +kernel
theorem dX9_number_32 : decode cX9_number 32 = .ok (.aload_n 0, 1) := by decide +kernel
theorem dX9_number_33 : decode cX9_number 33 = .ok (.getfield 9, 3) := by decide +kernel
theorem dX9_number_36 : decode cX9_number 36 = .ok (.aload_n 0, 1) := by decide +kernel
theorem dX9_number_37 : decode cX9_number 37 = .ok (.getfield 22, 3) := by decide +kernel
theorem dX9_number_40 : decode cX9_number 40 = .ok (.baload, 1) := by decide +kernel
theorem dX9_number_41 : decode cX9_number 41 = .ok (.iadd, 1) := by decide +kernel
theorem dX9_number_42 : decode cX9_number 42 = .ok (.bipush 48, 2) := by decide +kernel
theorem dX9_number_44 : decode cX9_number 44 = .ok (.isub, 1) := by decide +kernel
theorem dX9_number_45 : decode cX9_number 45 = .ok (.istore_n 1, 1) := by decide +kernel
theorem dX9_number_46 : decode cX9_number 46 = .ok (.aload_n 0, 1) := by decide +kernel
theorem dX9_number_47 : decode cX9_number 47 = .ok (.dup, 1) := by decide +kernel
theorem dX9_number_48 : decode cX9_number 48 = .ok (.getfield 22, 3) := by decide +kernel
theorem dX9_number_51 : decode cX9_number 51 = .ok (.iconst 1, 1) := by decide +kernel
theorem dX9_number_52 : decode cX9_number 52 = .ok (.iadd, 1) := by decide +kernel
theorem dX9_number_53 : decode cX9_number 53 = .ok (.putfield 22, 3) := by decide +kernel
theorem dX9_number_56 : decode cX9_number 56 = .ok (.goto (-54), 3) := by decide +kernel
theorem dX9_number_59 : decode cX9_number 59 = .ok (.aload_n 0, 1) := by decide +kernel
theorem dX9_number_60 : decode cX9_number 60 = .ok (.getfield 22, 3) := by decide +kernel
theorem dX9_number_63 : decode cX9_number 63 = .ok (.aload_n 0, 1) := by decide +kernel
theorem dX9_number_64 : decode cX9_number 64 = .ok (.getfield 19, 3) := by decide +kernel
theorem dX9_number_67 : decode cX9_number 67 = .ok (.isub, 1) := by decide +kernel
theorem dX9_number_68 : decode cX9_number 68 = .ok (.iconst 4, 1) := by decide +kernel
theorem dX9_number_69 : decode cX9_number 69 = .ok (.if_icmp .le 8, 3) := by decide +kernel
theorem dX9_number_72 : decode cX9_number 72 = .ok (.bipush (-2), 2) := by decide +kernel
theorem dX9_number_74 : decode cX9_number 74 = .ok (.goto 4, 3) := by decide +kernel
theorem dX9_number_77 : decode cX9_number 77 = .ok (.iload_n 1, 1) := by decide +kernel
theorem dX9_number_78 : decode cX9_number 78 = .ok (.ireturn, 1) := by decide +kernel
theorem dX9_sign_0 : decode cX9_sign 0 = .ok (.aload_n 0, 1) := by decide +kernel
theorem dX9_sign_1 : decode cX9_sign 1 = .ok (.dup, 1) := by decide +kernel
theorem dX9_sign_2 : decode cX9_sign 2 = .ok (.getfield 22, 3) := by decide +kernel
theorem dX9_sign_5 : decode cX9_sign 5 = .ok (.iconst 1, 1) := by decide +kernel
theorem dX9_sign_6 : decode cX9_sign 6 = .ok (.iadd, 1) := by decide +kernel
theorem dX9_sign_7 : decode cX9_sign 7 = .ok (.putfield 22, 3) := by decide +kernel
theorem dX9_sign_10 : decode cX9_sign 10 = .ok (.iload_n 1, 1) := by decide +kernel
theorem dX9_sign_11 : decode cX9_sign 11 = .ok (.tableswitch 117 40 59 #[109, 113, 105, 97, 117, 101, 117, 117, 117, 117, 117, 117, 117, 117, 117, 117, 117, 117, 117, 93], 93) := by decide +kernel
theorem dX9_sign_104 : decode cX9_sign 104 = .ok (.sipush 10020, 3) := by decide +kernel
theorem dX9_sign_107 : decode cX9_sign 107 = .ok (.ireturn, 1) := by decide +kernel
theorem dX9_sign_108 : decode cX9_sign 108 = .ok (.sipush 10021, 3) := by decide +kernel
theorem dX9_sign_111 : decode cX9_sign 111 = .ok (.ireturn, 1) := by decide +kernel
theorem dX9_sign_112 : decode cX9_sign 112 = .ok (.sipush 10022, 3) := by decide +kernel
theorem dX9_sign_115 : decode cX9_sign 115 = .ok (.ireturn, 1) := by decide +kernel
theorem dX9_sign_116 : decode cX9_sign 116 = .ok (.sipush 10023, 3) := by decide +kernel
theorem dX9_sign_119 : decode cX9_sign 119 = .ok (.ireturn, 1) := by decide +kernel
theorem dX9_sign_120 : decode cX9_sign 120 = .ok (.sipush 10028, 3) := by decide +kernel
theorem dX9_sign_123 : decode cX9_sign 123 = .ok (.ireturn, 1) := by decide +kernel
theorem dX9_sign_124 : decode cX9_sign 124 = .ok (.sipush 10029, 3) := by decide +kernel
theorem dX9_sign_127 : decode cX9_sign 127 = .ok (.ireturn, 1) := by decide +kernel
theorem dX9_sign_128 : decode cX9_sign 128 = .ok (.aload_n 0, 1) := by decide +kernel
theorem dX9_sign_129 : decode cX9_sign 129 = .ok (.iload_n 1, 1) := by decide +kernel
theorem dX9_sign_130 : decode cX9_sign 130 = .ok (.invokevirtual 58, 3) := by decide +kernel
theorem dX9_sign_133 : decode cX9_sign 133 = .ok (.ireturn, 1) := by decide +kernel
theorem dX9_relation_0 : decode cX9_relation 0 = .ok (.aload_n 0, 1) := by decide +kernel
theorem dX9_relation_1 : decode cX9_relation 1 = .ok (.getfield 22, 3) := by decide +kernel
theorem dX9_relation_4 : decode cX9_relation 4 = .ok (.aload_n 0, 1) := by decide +kernel
theorem dX9_relation_5 : decode cX9_relation 5 = .ok (.getfield 15, 3) := by decide +kernel
theorem dX9_relation_8 : decode cX9_relation 8 = .ok (.if_icmp .ge 21, 3) := by decide +kernel
theorem dX9_relation_11 : decode cX9_relation 11 = .ok (.aload_n 0, 1) := by decide +kernel
theorem dX9_relation_12 : decode cX9_relation 12 = .ok (.getfield 9, 3) := by decide +kernel
theorem dX9_relation_15 : decode cX9_relation 15 = .ok (.aload_n 0, 1) := by decide +kernel
theorem dX9_relation_16 : decode cX9_relation 16 = .ok (.getfield 22, 3) := by decide +kernel
theorem dX9_relation_19 : decode cX9_relation 19 = .ok (.baload, 1) := by decide +kernel
theorem dX9_relation_20 : decode cX9_relation 20 = .ok (.bipush 61, 2) := by decide +kernel
theorem dX9_relation_22 : decode cX9_relation 22 = .ok (.if_icmp .ne 7, 3) := by decide +kernel
theorem dX9_relation_25 : decode cX9_relation 25 = .ok (.iconst 1, 1) := by decide +kernel
theorem dX9_relation_26 : decode cX9_relation 26 = .ok (.goto 4, 3) := by decide +kernel
theorem dX9_relation_29 : decode cX9_relation 29 = .ok (.iconst 0, 1) := by decide +kernel
theorem dX9_relation_30 : decode cX9_relation 30 = .ok (.istore_n 2, 1) := by decide +kernel
theorem dX9_relation_31 : decode cX9_relation 31 = .ok (.iload_n 2, 1) := by decide +kernel
theorem dX9_relation_32 : decode cX9_relation 32 = .ok (.ifCond .eq 13, 3) := by decide +kernel
theorem dX9_relation_35 : decode cX9_relation 35 = .ok (.aload_n 0, 1) := by decide +kernel
theorem dX9_relation_36 : decode cX9_relation 36 = .ok (.dup, 1) := by decide +kernel
theorem dX9_relation_37 : decode cX9_relation 37 = .ok (.getfield 22, 3) := by decide +kernel
theorem dX9_relation_40 : decode cX9_relation 40 = .ok (.iconst 1, 1) := by decide +kernel
theorem dX9_relation_41 : decode cX9_relation 41 = .ok (.iadd, 1) := by decide +kernel
theorem dX9_relation_42 : decode cX9_relation 42 = .ok (.putfield 22, 3) := by decide +kernel
theorem dX9_relation_45 : decode cX9_relation 45 = .ok (.iload_n 1, 1) := by decide +kernel
theorem dX9_relation_46 : decode cX9_relation 46 = .ok (.lookupswitch 74 #[(33, 47), (60, 60), (61, 34)], 34) := by decide +kernel
theorem dX9_relation_80 : decode cX9_relation 80 = .ok (.iload_n 2, 1) := by decide +kernel
theorem dX9_relation_81 : decode cX9_relation 81 = .ok (.ifCond .eq 9, 3) := by decide +kernel
theorem dX9_relation_84 : decode cX9_relation 84 = .ok (.sipush 10024, 3) := by decide +kernel
theorem dX9_relation_87 : decode cX9_relation 87 = .ok (.goto 5, 3) := by decide +kernel
theorem dX9_relation_90 : decode cX9_relation 90 = .ok (.bipush (-2), 2) := by decide +kernel
theorem dX9_relation_92 : decode cX9_relation 92 = .ok (.ireturn, 1) := by decide +kernel
theorem dX9_relation_93 : decode cX9_relation 93 = .ok (.iload_n 2, 1) := by decide +kernel
theorem dX9_relation_94 : decode cX9_relation 94 = .ok (.ifCond .eq 9, 3) := by decide +kernel
theorem dX9_relation_97 : decode cX9_relation 97 = .ok (.sipush 10025, 3) := by decide +kernel
theorem dX9_relation_100 : decode cX9_relation 100 = .ok (.goto 5, 3) := by decide +kernel
theorem dX9_relation_103 : decode cX9_relation 103 = .ok (.bipush (-2), 2) := by decide +kernel
theorem dX9_relation_105 : decode cX9_relation 105 = .ok (.ireturn, 1) := by decide +kernel
theorem dX9_relation_106 : decode cX9_relation 106 = .ok (.iload_n 2, 1) := by decide +kernel
theorem dX9_relation_107 : decode cX9_relation 107 = .ok (.ifCond .eq 9, 3) := by decide +kernel
theorem dX9_relation_110 : decode cX9_relation 110 = .ok (.sipush 10027, 3) := by decide +kernel
theorem dX9_relation_113 : decode cX9_relation 113 = .ok (.goto 6, 3) := by decide +kernel
theorem dX9_relation_116 : decode cX9_relation 116 = .ok (.sipush 10026, 3) := by decide +kernel
theorem dX9_relation_119 : decode cX9_relation 119 = .ok (.ireturn, 1) := by decide +kernel
theorem dX9_relation_120 : decode cX9_relation 120 = .ok (.bipush (-2), 2) := by decide +kernel
theorem dX9_relation_122 : decode cX9_relation 122 = .ok (.ireturn, 1) := by decide +kernel
theorem dX9_isBlank_0 : decode cX9_isBlank 0 = .ok (.iload_n 0, 1) := by decide +kernel
theorem dX9_isBlank_1 : decode cX9_isBlank 1 = .ok (.bipush 9, 2) := by decide +kernel
theorem dX9_isBlank_3 : decode cX9_isBlank 3 = .ok (.if_icmp .eq 21, 3) := by decide +kernel
theorem dX9_isBlank_6 : decode cX9_isBlank 6 = .ok (.iload_n 0, 1) := by decide +kernel
theorem dX9_isBlank_7 : decode cX9_isBlank 7 = .ok (.bipush 10, 2) := by decide +kernel
theorem dX9_isBlank_9 : decode cX9_isBlank 9 = .ok (.if_icmp .eq 15, 3) := by decide +kernel
theorem dX9_isBlank_12 : decode cX9_isBlank 12 = .ok (.iload_n 0, 1) := by decide +kernel
theorem dX9_isBlank_13 : decode cX9_isBlank 13 = .ok (.bipush 13, 2) := by decide +kernel
theorem dX9_isBlank_15 : decode cX9_isBlank 15 = .ok (.if_icmp .eq 9, 3) := by decide +kernel
theorem dX9_isBlank_18 : decode cX9_isBlank 18 = .ok (.iload_n 0, 1) := by decide +kernel
theorem dX9_isBlank_19 : decode cX9_isBlank 19 = .ok (.bipush 32, 2) := by decide +kernel
theorem dX9_isBlank_21 : decode cX9_isBlank 21 = .ok (.if_icmp .ne 7, 3) := by decide +kernel
theorem dX9_isBlank_24 : decode cX9_isBlank 24 = .ok (.iconst 1, 1) := by decide +kernel
theorem dX9_isBlank_25 : decode cX9_isBlank 25 = .ok (.goto 4, 3) := by decide +kernel
theorem dX9_isBlank_28 : decode cX9_isBlank 28 = .ok (.iconst 0, 1) := by decide +kernel
theorem dX9_isBlank_29 : decode cX9_isBlank 29 = .ok (.ireturn, 1) := by decide +kernel
theorem dX9_isLetter_0 : decode cX9_isLetter 0 = .ok (.iload_n 0, 1) := by decide +kernel
theorem dX9_isLetter_1 : decode cX9_isLetter 1 = .ok (.bipush 97, 2) := by decide +kernel
theorem dX9_isLetter_3 : decode cX9_isLetter 3 = .ok (.if_icmp .lt 13, 3) := by decide +kernel
theorem dX9_isLetter_6 : decode cX9_isLetter 6 = .ok (.iload_n 0, 1) := by decide +kernel
theorem dX9_isLetter_7 : decode cX9_isLetter 7 = .ok (.bipush 122, 2) := by decide +kernel
theorem dX9_isLetter_9 : decode cX9_isLetter 9 = .ok (.if_icmp .gt 7, 3) := by decide +kernel
theorem dX9_isLetter_12 : decode cX9_isLetter 12 = .ok (.iconst 1, 1) := by decide +kernel
theorem dX9_isLetter_13 : decode cX9_isLetter 13 = .ok (.goto 4, 3) := by decide +kernel
theorem dX9_isLetter_16 : decode cX9_isLetter 16 = .ok (.iconst 0, 1) := by decide +kernel
theorem dX9_isLetter_17 : decode cX9_isLetter 17 = .ok (.ireturn, 1) := by decide +kernel
theorem dX9_isDigit_0 : decode cX9_isDigit 0 = .ok (.iload_n 0, 1) := by decide +kernel
theorem dX9_isDigit_1 : decode cX9_isDigit 1 = .ok (.bipush 48, 2) := by decide +kernel
theorem dX9_isDigit_3 : decode cX9_isDigit 3 = .ok (.if_icmp .lt 13, 3) := by decide +kernel
theorem dX9_isDigit_6 : decode cX9_isDigit 6 = .ok (.iload_n 0, 1) := by decide +kernel
theorem dX9_isDigit_7 : decode cX9_isDigit 7 = .ok (.bipush 57, 2) := by decide +kernel
theorem dX9_isDigit_9 : decode cX9_isDigit 9 = .ok (.if_icmp .gt 7, 3) := by decide +kernel
theorem dX9_isDigit_12 : decode cX9_isDigit 12 = .ok (.iconst 1, 1) := by decide +kernel
theorem dX9_isDigit_13 : decode cX9_isDigit 13 = .ok (.goto 4, 3) := by decide +kernel
theorem dX9_isDigit_16 : decode cX9_isDigit 16 = .ok (.iconst 0, 1) := by decide +kernel
theorem dX9_isDigit_17 : decode cX9_isDigit 17 = .ok (.ireturn, 1) := by decide +kernel
theorem dX10_init_0 : decode cX10_init 0 = .ok (.aload_n 0, 1) := by decide +kernel
theorem dX10_init_1 : decode cX10_init 1 = .ok (.invokespecial 3, 3) := by decide +kernel
theorem dX10_init_4 : decode cX10_init 4 = .ok (.aload_n 0, 1) := by decide +kernel
theorem dX10_init_5 : decode cX10_init 5 = .ok (.new 9, 3) := by decide +kernel
theorem dX10_init_8 : decode cX10_init 8 = .ok (.dup, 1) := by decide +kernel
theorem dX10_init_9 : decode cX10_init 9 = .ok (.invokespecial 11, 3) := by decide +kernel
theorem dX10_init_12 : decode cX10_init 12 = .ok (.putfield 12, 3) := by decide +kernel
theorem dX10_init_15 : decode cX10_init 15 = .ok (.aload_n 0, 1) := by decide +kernel
theorem dX10_init_16 : decode cX10_init 16 = .ok (.new 16, 3) := by decide +kernel
theorem dX10_init_19 : decode cX10_init 19 = .ok (.dup, 1) := by decide +kernel
theorem dX10_init_20 : decode cX10_init 20 = .ok (.invokespecial 18, 3) := by decide +kernel
theorem dX10_init_23 : decode cX10_init 23 = .ok (.putfield 19, 3) := by decide +kernel
theorem dX10_init_26 : decode cX10_init 26 = .ok (.aload_n 0, 1) := by decide +kernel
theorem dX10_init_27 : decode cX10_init 27 = .ok (.new 23, 3) := by decide +kernel
theorem dX10_init_30 : decode cX10_init 30 = .ok (.dup, 1) := by decide +kernel
theorem dX10_init_31 : decode cX10_init 31 = .ok (.invokespecial 25, 3) := by decide +kernel
theorem dX10_init_34 : decode cX10_init 34 = .ok (.putfield 26, 3) := by decide +kernel
theorem dX10_init_37 : decode cX10_init 37 = .ok (.aload_n 0, 1) := by decide +kernel
theorem dX10_init_38 : decode cX10_init 38 = .ok (.new 30, 3) := by decide +kernel
theorem dX10_init_41 : decode cX10_init 41 = .ok (.dup, 1) := by decide +kernel
theorem dX10_init_42 : decode cX10_init 42 = .ok (.invokespecial 32, 3) := by decide +kernel
theorem dX10_init_45 : decode cX10_init 45 = .ok (.putfield 33, 3) := by decide +kernel
theorem dX10_init_48 : decode cX10_init 48 = .ok (.aload_n 0, 1) := by decide +kernel
theorem dX10_init_49 : decode cX10_init 49 = .ok (.new 37, 3) := by decide +kernel
theorem dX10_init_52 : decode cX10_init 52 = .ok (.dup, 1) := by decide +kernel
theorem dX10_init_53 : decode cX10_init 53 = .ok (.invokespecial 39, 3) := by decide +kernel
theorem dX10_init_56 : decode cX10_init 56 = .ok (.putfield 40, 3) := by decide +kernel
theorem dX10_init_59 : decode cX10_init 59 = .ok (.aload_n 0, 1) := by decide +kernel
theorem dX10_init_60 : decode cX10_init 60 = .ok (.new 44, 3) := by decide +kernel
theorem dX10_init_63 : decode cX10_init 63 = .ok (.dup, 1) := by decide +kernel
theorem dX10_init_64 : decode cX10_init 64 = .ok (.invokespecial 46, 3) := by decide +kernel
theorem dX10_init_67 : decode cX10_init 67 = .ok (.putfield 47, 3) := by decide +kernel
theorem dX10_init_70 : decode cX10_init 70 = .ok (.aload_n 0, 1) := by decide +kernel
theorem dX10_init_71 : decode cX10_init 71 = .ok (.new 51, 3) := by decide +kernel
theorem dX10_init_74 : decode cX10_init 74 = .ok (.dup, 1) := by decide +kernel
theorem dX10_init_75 : decode cX10_init 75 = .ok (.invokespecial 53, 3) := by decide +kernel
theorem dX10_init_78 : decode cX10_init 78 = .ok (.putfield 54, 3) := by decide +kernel
theorem dX10_init_81 : decode cX10_init 81 = .ok (.aload_n 0, 1) := by decide +kernel
theorem dX10_init_82 : decode cX10_init 82 = .ok (.new 58, 3) := by decide +kernel
theorem dX10_init_85 : decode cX10_init 85 = .ok (.dup, 1) := by decide +kernel
theorem dX10_init_86 : decode cX10_init 86 = .ok (.aload_n 0, 1) := by decide +kernel
theorem dX10_init_87 : decode cX10_init 87 = .ok (.getfield 26, 3) := by decide +kernel
theorem dX10_init_90 : decode cX10_init 90 = .ok (.aload_n 0, 1) := by decide +kernel
theorem dX10_init_91 : decode cX10_init 91 = .ok (.getfield 33, 3) := by decide +kernel
theorem dX10_init_94 : decode cX10_init 94 = .ok (.aload_n 0, 1) := by decide +kernel
theorem dX10_init_95 : decode cX10_init 95 = .ok (.getfield 40, 3) := by decide +kernel
theorem dX10_init_98 : decode cX10_init 98 = .ok (.aload_n 0, 1) := by decide +kernel
theorem dX10_init_99 : decode cX10_init 99 = .ok (.getfield 54, 3) := by decide +kernel
theorem dX10_init_102 : decode cX10_init 102 = .ok (.invokespecial 60, 3) := by decide +kernel
theorem dX10_init_105 : decode cX10_init 105 = .ok (.putfield 63, 3) := by decide +kernel
theorem dX10_init_108 : decode cX10_init 108 = .ok (.aload_n 0, 1) := by decide +kernel
theorem dX10_init_109 : decode cX10_init 109 = .ok (.bipush 10, 2) := by decide +kernel
theorem dX10_init_111 : decode cX10_init 111 = .ok (.newarray .int, 2) := by decide +kernel
theorem dX10_init_113 : decode cX10_init 113 = .ok (.putfield 67, 3) := by decide +kernel
theorem dX10_init_116 : decode cX10_init 116 = .ok (.aload_n 0, 1) := by decide +kernel
theorem dX10_init_117 : decode cX10_init 117 = .ok (.iconst (-1), 1) := by decide +kernel
theorem dX10_init_118 : decode cX10_init 118 = .ok (.putfield 71, 3) := by decide +kernel
theorem dX10_init_121 : decode cX10_init 121 = .ok (.return_, 1) := by decide +kernel
theorem dX10_feed_0 : decode cX10_feed 0 = .ok (.aload_n 0, 1) := by decide +kernel
theorem dX10_feed_1 : decode cX10_feed 1 = .ok (.getfield 12, 3) := by decide +kernel
theorem dX10_feed_4 : decode cX10_feed 4 = .ok (.getfield 75, 3) := by decide +kernel
theorem dX10_feed_7 : decode cX10_feed 7 = .ok (.bipush 20, 2) := by decide +kernel
theorem dX10_feed_9 : decode cX10_feed 9 = .ok (.iadd, 1) := by decide +kernel
theorem dX10_feed_10 : decode cX10_feed 10 = .ok (.sipush 2000, 3) := by decide +kernel
theorem dX10_feed_13 : decode cX10_feed 13 = .ok (.if_icmp .le 5, 3) := by decide +kernel
theorem dX10_feed_16 : decode cX10_feed 16 = .ok (.iconst (-1), 1) := by decide +kernel
theorem dX10_feed_17 : decode cX10_feed 17 = .ok (.ireturn, 1) := by decide +kernel
theorem dX10_feed_18 : decode cX10_feed 18 = .ok (.aload_n 0, 1) := by decide +kernel
theorem dX10_feed_19 : decode cX10_feed 19 = .ok (.getfield 12, 3) := by decide +kernel
theorem dX10_feed_22 : decode cX10_feed 22 = .ok (.iload_n 1, 1) := by decide +kernel
theorem dX10_feed_23 : decode cX10_feed 23 = .ok (.invokevirtual 78, 3) := by decide +kernel
theorem dX10_feed_26 : decode cX10_feed 26 = .ok (.aload_n 0, 1) := by decide +kernel
theorem dX10_feed_27 : decode cX10_feed 27 = .ok (.getfield 12, 3) := by decide +kernel
theorem dX10_feed_30 : decode cX10_feed 30 = .ok (.iload_n 2, 1) := by decide +kernel
theorem dX10_feed_31 : decode cX10_feed 31 = .ok (.invokevirtual 78, 3) := by decide +kernel
theorem dX10_feed_34 : decode cX10_feed 34 = .ok (.aload_n 0, 1) := by decide +kernel
theorem dX10_feed_35 : decode cX10_feed 35 = .ok (.getfield 12, 3) := by decide +kernel
theorem dX10_feed_38 : decode cX10_feed 38 = .ok (.iload_n 3, 1) := by decide +kernel
theorem dX10_feed_39 : decode cX10_feed 39 = .ok (.invokevirtual 78, 3) := by decide +kernel
theorem dX10_feed_42 : decode cX10_feed 42 = .ok (.aload_n 0, 1) := by decide +kernel
theorem dX10_feed_43 : decode cX10_feed 43 = .ok (.getfield 12, 3) := by decide +kernel
theorem dX10_feed_46 : decode cX10_feed 46 = .ok (.iload 4, 2) := by decide +kernel
theorem dX10_feed_48 : decode cX10_feed 48 = .ok (.invokevirtual 78, 3) := by decide +kernel
theorem dX10_feed_51 : decode cX10_feed 51 = .ok (.aload_n 0, 1) := by decide +kernel
theorem dX10_feed_52 : decode cX10_feed 52 = .ok (.getfield 12, 3) := by decide +kernel
theorem dX10_feed_55 : decode cX10_feed 55 = .ok (.iload 5, 2) := by decide +kernel
theorem dX10_feed_57 : decode cX10_feed 57 = .ok (.invokevirtual 78, 3) := by decide +kernel
theorem dX10_feed_60 : decode cX10_feed 60 = .ok (.aload_n 0, 1) := by decide +kernel
theorem dX10_feed_61 : decode cX10_feed 61 = .ok (.getfield 12, 3) := by decide +kernel
theorem dX10_feed_64 : decode cX10_feed 64 = .ok (.getfield 75, 3) := by decide +kernel
theorem dX10_feed_67 : decode cX10_feed 67 = .ok (.ireturn, 1) := by decide +kernel
theorem dX10_back_0 : decode cX10_back 0 = .ok (.iload_n 1, 1) := by decide +kernel
theorem dX10_back_1 : decode cX10_back 1 = .ok (.ifCond .lt 14, 3) := by decide +kernel
theorem dX10_back_4 : decode cX10_back 4 = .ok (.iload_n 1, 1) := by decide +kernel
theorem dX10_back_5 : decode cX10_back 5 = .ok (.aload_n 0, 1) := by decide +kernel
theorem dX10_back_6 : decode cX10_back 6 = .ok (.getfield 12, 3) := by decide +kernel
theorem dX10_back_9 : decode cX10_back 9 = .ok (.getfield 75, 3) := by decide +kernel
theorem dX10_back_12 : decode cX10_back 12 = .ok (.if_icmp .le 5, 3) := by decide +kernel
theorem dX10_back_15 : decode cX10_back 15 = .ok (.iconst (-1), 1) := by decide +kernel
theorem dX10_back_16 : decode cX10_back 16 = .ok (.ireturn, 1) := by decide +kernel
theorem dX10_back_17 : decode cX10_back 17 = .ok (.aload_n 0, 1) := by decide +kernel
theorem dX10_back_18 : decode cX10_back 18 = .ok (.getfield 12, 3) := by decide +kernel
theorem dX10_back_21 : decode cX10_back 21 = .ok (.dup, 1) := by decide +kernel
theorem dX10_back_22 : decode cX10_back 22 = .ok (.getfield 75, 3) := by decide +kernel
theorem dX10_back_25 : decode cX10_back 25 = .ok (.iload_n 1, 1) := by decide +kernel
theorem dX10_back_26 : decode cX10_back 26 = .ok (.isub, 1) := by decide +kernel
theorem dX10_back_27 : decode cX10_back 27 = .ok (.putfield 75, 3) := by decide +kernel
theorem dX10_back_30 : decode cX10_back 30 = .ok (.aload_n 0, 1) := by decide +kernel
theorem dX10_back_31 : decode cX10_back 31 = .ok (.getfield 12, 3) := by decide +kernel
theorem dX10_back_34 : decode cX10_back 34 = .ok (.getfield 75, 3) := by decide +kernel
theorem dX10_back_37 : decode cX10_back 37 = .ok (.ireturn, 1) := by decide +kernel
theorem dX10_read_0 : decode cX10_read 0 = .ok (.iload_n 1, 1) := by decide +kernel
theorem dX10_read_1 : decode cX10_read 1 = .ok (.invokestatic 82, 3) := by decide +kernel
theorem dX10_read_4 : decode cX10_read 4 = .ok (.ifCond .eq 22, 3) := by decide +kernel
theorem dX10_read_7 : decode cX10_read 7 = .ok (.iload_n 2, 1) := by decide +kernel
theorem dX10_read_8 : decode cX10_read 8 = .ok (.invokestatic 86, 3) := by decide +kernel
theorem dX10_read_11 : decode cX10_read 11 = .ok (.ifCond .eq 15, 3) := by decide +kernel
theorem dX10_read_14 : decode cX10_read 14 = .ok (.aload_n 0, 1) := by decide +kernel
theorem dX10_read_15 : decode cX10_read 15 = .ok (.getfield 26, 3) := by decide +kernel
theorem dX10_read_18 : decode cX10_read 18 = .ok (.getfield 89, 3) := by decide +kernel
theorem dX10_read_21 : decode cX10_read 21 = .ok (.bipush 8, 2) := by decide +kernel
theorem dX10_read_23 : decode cX10_read 23 = .ok (.if_icmp .lt 5, 3) := by decide +kernel
theorem dX10_read_26 : decode cX10_read 26 = .ok (.iconst (-1), 1) := by decide +kernel
theorem dX10_read_27 : decode cX10_read 27 = .ok (.ireturn, 1) := by decide +kernel
theorem dX10_read_28 : decode cX10_read 28 = .ok (.aload_n 0, 1) := by decide +kernel
theorem dX10_read_29 : decode cX10_read 29 = .ok (.getfield 19, 3) := by decide +kernel
theorem dX10_read_32 : decode cX10_read 32 = .ok (.aload_n 0, 1) := by decide +kernel
theorem dX10_read_33 : decode cX10_read 33 = .ok (.getfield 12, 3) := by decide +kernel
theorem dX10_read_36 : decode cX10_read 36 = .ok (.invokevirtual 92, 3) := by decide +kernel
theorem dX10_read_39 : decode cX10_read 39 = .ok (.istore_n 3, 1) := by decide +kernel
theorem dX10_read_40 : decode cX10_read 40 = .ok (.aload_n 0, 1) := by decide +kernel
theorem dX10_read_41 : decode cX10_read 41 = .ok (.iload_n 3, 1) := by decide +kernel
theorem dX10_read_42 : decode cX10_read 42 = .ok (.ifCond .ne 7, 3) := by decide +kernel
theorem dX10_read_45 : decode cX10_read 45 = .ok (.iconst (-1), 1) := by decide +kernel
theorem dX10_read_46 : decode cX10_read 46 = .ok (.goto 10, 3) := by decide +kernel
theorem dX10_read_49 : decode cX10_read 49 = .ok (.aload_n 0, 1) := by decide +kernel
theorem dX10_read_50 : decode cX10_read 50 = .ok (.getfield 12, 3) := by decide +kernel
theorem dX10_read_53 : decode cX10_read 53 = .ok (.getfield 96, 3) := by decide +kernel
theorem dX10_read_56 : decode cX10_read 56 = .ok (.putfield 71, 3) := by decide +kernel
theorem dX10_read_59 : decode cX10_read 59 = .ok (.iload_n 3, 1) := by decide +kernel
theorem dX10_read_60 : decode cX10_read 60 = .ok (.ifCond .ne 19, 3) := by decide +kernel
theorem dX10_read_63 : decode cX10_read 63 = .ok (.aload_n 0, 1) := by decide +kernel
theorem dX10_read_64 : decode cX10_read 64 = .ok (.getfield 26, 3) := by decide +kernel
theorem dX10_read_67 : decode cX10_read 67 = .ok (.aload_n 0, 1) := by decide +kernel
theorem dX10_read_68 : decode cX10_read 68 = .ok (.getfield 19, 3) := by decide +kernel
theorem dX10_read_71 : decode cX10_read 71 = .ok (.iload_n 1, 1) := by decide +kernel
theorem dX10_read_72 : decode cX10_read 72 = .ok (.iload_n 2, 1) := by decide +kernel
theorem dX10_read_73 : decode cX10_read 73 = .ok (.invokevirtual 99, 3) := by decide +kernel
theorem dX10_read_76 : decode cX10_read 76 = .ok (.invokevirtual 103, 3) := by decide +kernel
theorem dX10_read_79 : decode cX10_read 79 = .ok (.aload_n 0, 1) := by decide +kernel
theorem dX10_read_80 : decode cX10_read 80 = .ok (.getfield 12, 3) := by decide +kernel
theorem dX10_read_83 : decode cX10_read 83 = .ok (.iconst 0, 1) := by decide +kernel
theorem dX10_read_84 : decode cX10_read 84 = .ok (.putfield 75, 3) := by decide +kernel
theorem dX10_read_87 : decode cX10_read 87 = .ok (.iload_n 3, 1) := by decide +kernel
theorem dX10_read_88 : decode cX10_read 88 = .ok (.ireturn, 1) := by decide +kernel
theorem dX10_place_0 : decode cX10_place 0 = .ok (.aload_n 0, 1) := by decide +kernel
theorem dX10_place_1 : decode cX10_place 1 = .ok (.getfield 71, 3) := by decide +kernel
theorem dX10_place_4 : decode cX10_place 4 = .ok (.ireturn, 1) := by decide +kernel
theorem dX10_person_0 : decode cX10_person 0 = .ok (.iload_n 3, 1) := by decide +kernel
theorem dX10_person_1 : decode cX10_person 1 = .ok (.invokestatic 86, 3) := by decide +kernel
theorem dX10_person_4 : decode cX10_person 4 = .ok (.ifCond .eq 13, 3) := by decide +kernel
theorem dX10_person_7 : decode cX10_person 7 = .ok (.iload_n 1, 1) := by decide +kernel
theorem dX10_person_8 : decode cX10_person 8 = .ok (.iconst (-1), 1) := by decide +kernel
theorem dX10_person_9 : decode cX10_person 9 = .ok (.if_icmp .eq 10, 3) := by decide +kernel
theorem dX10_person_12 : decode cX10_person 12 = .ok (.iload_n 1, 1) := by decide +kernel
theorem dX10_person_13 : decode cX10_person 13 = .ok (.iload_n 2, 1) := by decide +kernel
theorem dX10_person_14 : decode cX10_person 14 = .ok (.if_icmp .ne 5, 3) := by decide +kernel
theorem dX10_person_17 : decode cX10_person 17 = .ok (.iconst (-1), 1) := by decide +kernel
theorem dX10_person_18 : decode cX10_person 18 = .ok (.ireturn, 1) := by decide +kernel
theorem dX10_person_19 : decode cX10_person 19 = .ok (.aload_n 0, 1) := by decide +kernel
theorem dX10_person_20 : decode cX10_person 20 = .ok (.getfield 33, 3) := by decide +kernel
theorem dX10_person_23 : decode cX10_person 23 = .ok (.iload_n 1, 1) := by decide +kernel
theorem dX10_person_24 : decode cX10_person 24 = .ok (.iload_n 3, 1) := by decide +kernel
theorem dX10_person_25 : decode cX10_person 25 = .ok (.invokevirtual 107, 3) := by decide +kernel
theorem dX10_person_28 : decode cX10_person 28 = .ok (.ifCond .eq 15, 3) := by decide +kernel
theorem dX10_person_31 : decode cX10_person 31 = .ok (.aload_n 0, 1) := by decide +kernel
theorem dX10_person_32 : decode cX10_person 32 = .ok (.getfield 33, 3) := by decide +kernel
theorem dX10_person_35 : decode cX10_person 35 = .ok (.iload_n 2, 1) := by decide +kernel
theorem dX10_person_36 : decode cX10_person 36 = .ok (.iload_n 3, 1) := by decide +kernel
theorem dX10_person_37 : decode cX10_person 37 = .ok (.invokevirtual 107, 3) := by decide +kernel
theorem dX10_person_40 : decode cX10_person 40 = .ok (.ifCond .ne 5, 3) := by decide +kernel
theorem dX10_person_43 : decode cX10_person 43 = .ok (.iconst (-1), 1) := by decide +kernel
theorem dX10_person_44 : decode cX10_person 44 = .ok (.ireturn, 1) := by decide +kernel
theorem dX10_person_45 : decode cX10_person 45 = .ok (.aload_n 0, 1) := by decide +kernel
theorem dX10_person_46 : decode cX10_person 46 = .ok (.getfield 33, 3) := by decide +kernel
theorem dX10_person_49 : decode cX10_person 49 = .ok (.iload_n 1, 1) := by decide +kernel
theorem dX10_person_50 : decode cX10_person 50 = .ok (.iload_n 2, 1) := by decide +kernel
theorem dX10_person_51 : decode cX10_person 51 = .ok (.iload_n 3, 1) := by decide +kernel
theorem dX10_person_52 : decode cX10_person 52 = .ok (.invokevirtual 111, 3) := by decide +kernel
theorem dX10_person_55 : decode cX10_person 55 = .ok (.ireturn, 1) := by decide +kernel
theorem dX10_promise_0 : decode cX10_promise 0 = .ok (.aload_n 0, 1) := by decide +kernel
theorem dX10_promise_1 : decode cX10_promise 1 = .ok (.iload_n 1, 1) := by decide +kernel
theorem dX10_promise_2 : decode cX10_promise 2 = .ok (.iload_n 2, 1) := by decide +kernel
theorem dX10_promise_3 : decode cX10_promise 3 = .ok (.invokevirtual 114, 3) := by decide +kernel
theorem dX10_promise_6 : decode cX10_promise 6 = .ok (.ifCond .eq 29, 3) := by decide +kernel
theorem dX10_promise_9 : decode cX10_promise 9 = .ok (.iload_n 3, 1) := by decide +kernel
theorem dX10_promise_10 : decode cX10_promise 10 = .ok (.invokestatic 82, 3) := by decide +kernel
theorem dX10_promise_13 : decode cX10_promise 13 = .ok (.ifCond .eq 22, 3) := by decide +kernel
theorem dX10_promise_16 : decode cX10_promise 16 = .ok (.iload 4, 2) := by decide +kernel
theorem dX10_promise_18 : decode cX10_promise 18 = .ok (.invokestatic 86, 3) := by decide +kernel
theorem dX10_promise_21 : decode cX10_promise 21 = .ok (.ifCond .eq 14, 3) := by decide +kernel
theorem dX10_promise_24 : decode cX10_promise 24 = .ok (.iload 5, 2) := by decide +kernel
theorem dX10_promise_26 : decode cX10_promise 26 = .ok (.ifCond .lt 9, 3) := by decide +kernel
theorem dX10_promise_29 : decode cX10_promise 29 = .ok (.iload 5, 2) := by decide +kernel
theorem dX10_promise_31 : decode cX10_promise 31 = .ok (.iconst 1, 1) := by decide +kernel
theorem dX10_promise_32 : decode cX10_promise 32 = .ok (.if_icmp .le 5, 3) := by decide +kernel
theorem dX10_promise_35 : decode cX10_promise 35 = .ok (.iconst (-1), 1) := by decide +kernel
theorem dX10_promise_36 : decode cX10_promise 36 = .ok (.ireturn, 1) := by decide +kernel
theorem dX10_promise_37 : decode cX10_promise 37 = .ok (.iload 6, 2) := by decide +kernel
theorem dX10_promise_39 : decode cX10_promise 39 = .ok (.iconst (-1), 1) := by decide +kernel
theorem dX10_promise_40 : decode cX10_promise 40 = .ok (.if_icmp .eq 13, 3) := by decide +kernel
theorem dX10_promise_43 : decode cX10_promise 43 = .ok (.iload 6, 2) := by decide +kernel
theorem dX10_promise_45 : decode cX10_promise 45 = .ok (.invokestatic 117, 3) := by decide +kernel
theorem dX10_promise_48 : decode cX10_promise 48 = .ok (.ifCond .ne 5, 3) := by decide +kernel
theorem dX10_promise_51 : decode cX10_promise 51 = .ok (.iconst (-1), 1) := by decide +kernel
theorem dX10_promise_52 : decode cX10_promise 52 = .ok (.ireturn, 1) := by decide +kernel
theorem dX10_promise_53 : decode cX10_promise 53 = .ok (.aload_n 0, 1) := by decide +kernel
theorem dX10_promise_54 : decode cX10_promise 54 = .ok (.getfield 40, 3) := by decide +kernel
theorem dX10_promise_57 : decode cX10_promise 57 = .ok (.iload_n 1, 1) := by decide +kernel
theorem dX10_promise_58 : decode cX10_promise 58 = .ok (.iload_n 2, 1) := by decide +kernel
theorem dX10_promise_59 : decode cX10_promise 59 = .ok (.iload_n 3, 1) := by decide +kernel
theorem dX10_promise_60 : decode cX10_promise 60 = .ok (.iload 4, 2) := by decide +kernel
theorem dX10_promise_62 : decode cX10_promise 62 = .ok (.iload 5, 2) := by decide +kernel
theorem dX10_promise_64 : decode cX10_promise 64 = .ok (.iload 6, 2) := by decide +kernel
theorem dX10_promise_66 : decode cX10_promise 66 = .ok (.invokevirtual 120, 3) := by decide +kernel
theorem dX10_promise_69 : decode cX10_promise 69 = .ok (.ireturn, 1) := by decide +kernel
theorem dX10_gift_0 : decode cX10_gift 0 = .ok (.aload_n 0, 1) := by decide +kernel
theorem dX10_gift_1 : decode cX10_gift 1 = .ok (.iload_n 1, 1) := by decide +kernel
theorem dX10_gift_2 : decode cX10_gift 2 = .ok (.invokevirtual 123, 3) := by decide +kernel
theorem dX10_gift_5 : decode cX10_gift 5 = .ok (.ifCond .eq 24, 3) := by decide +kernel
theorem dX10_gift_8 : decode cX10_gift 8 = .ok (.iload_n 2, 1) := by decide +kernel
theorem dX10_gift_9 : decode cX10_gift 9 = .ok (.ifCond .lt 20, 3) := by decide +kernel
theorem dX10_gift_12 : decode cX10_gift 12 = .ok (.iload_n 2, 1) := by decide +kernel
theorem dX10_gift_13 : decode cX10_gift 13 = .ok (.iconst 1, 1) := by decide +kernel
theorem dX10_gift_14 : decode cX10_gift 14 = .ok (.if_icmp .gt 15, 3) := by decide +kernel
theorem dX10_gift_17 : decode cX10_gift 17 = .ok (.iload_n 3, 1) := by decide +kernel
theorem dX10_gift_18 : decode cX10_gift 18 = .ok (.iconst 1, 1) := by decide +kernel
theorem dX10_gift_19 : decode cX10_gift 19 = .ok (.if_icmp .lt 10, 3) := by decide +kernel
theorem dX10_gift_22 : decode cX10_gift 22 = .ok (.iload_n 3, 1) := by decide +kernel
theorem dX10_gift_23 : decode cX10_gift 23 = .ok (.sipush 1000, 3) := by decide +kernel
theorem dX10_gift_26 : decode cX10_gift 26 = .ok (.if_icmp .le 5, 3) := by decide +kernel
theorem dX10_gift_29 : decode cX10_gift 29 = .ok (.iconst (-1), 1) := by decide +kernel
theorem dX10_gift_30 : decode cX10_gift 30 = .ok (.ireturn, 1) := by decide +kernel
theorem dX10_gift_31 : decode cX10_gift 31 = .ok (.aload_n 0, 1) := by decide +kernel
theorem dX10_gift_32 : decode cX10_gift 32 = .ok (.getfield 47, 3) := by decide +kernel
theorem dX10_gift_35 : decode cX10_gift 35 = .ok (.iload_n 1, 1) := by decide +kernel
theorem dX10_gift_36 : decode cX10_gift 36 = .ok (.iload_n 2, 1) := by decide +kernel
theorem dX10_gift_37 : decode cX10_gift 37 = .ok (.iload_n 3, 1) := by decide +kernel
theorem dX10_gift_38 : decode cX10_gift 38 = .ok (.invokevirtual 126, 3) := by decide +kernel
theorem dX10_gift_41 : decode cX10_gift 41 = .ok (.ireturn, 1) := by decide +kernel
theorem dX10_says_0 : decode cX10_says 0 = .ok (.iload_n 1, 1) := by decide +kernel
theorem dX10_says_1 : decode cX10_says 1 = .ok (.bipush 100, 2) := by decide +kernel
theorem dX10_says_3 : decode cX10_says 3 = .ok (.if_icmp .lt 13, 3) := by decide +kernel
theorem dX10_says_6 : decode cX10_says 6 = .ok (.iload_n 1, 1) := by decide +kernel
theorem dX10_says_7 : decode cX10_says 7 = .ok (.bipush 119, 2) := by decide +kernel
theorem dX10_says_9 : decode cX10_says 9 = .ok (.if_icmp .gt 7, 3) := by decide +kernel
theorem dX10_says_12 : decode cX10_says 12 = .ok (.iconst 1, 1) := by decide +kernel
theorem dX10_says_13 : decode cX10_says 13 = .ok (.goto 4, 3) := by decide +kernel
theorem dX10_says_16 : decode cX10_says 16 = .ok (.iconst 0, 1) := by decide +kernel
theorem dX10_says_17 : decode cX10_says 17 = .ok (.istore 4, 2) := by decide +kernel
theorem dX10_says_19 : decode cX10_says 19 = .ok (.aload_n 0, 1) := by decide +kernel
theorem dX10_says_20 : decode cX10_says 20 = .ok (.iload_n 2, 1) := by decide +kernel
theorem dX10_says_21 : decode cX10_says 21 = .ok (.invokevirtual 123, 3) := by decide +kernel
theorem dX10_says_24 : decode cX10_says 24 = .ok (.ifCond .eq 19, 3) := by decide +kernel
theorem dX10_says_27 : decode cX10_says 27 = .ok (.iload 4, 2) := by decide +kernel
theorem dX10_says_29 : decode cX10_says 29 = .ok (.ifCond .ne 16, 3) := by decide +kernel
theorem dX10_says_32 : decode cX10_says 32 = .ok (.aload_n 0, 1) := by decide +kernel
theorem dX10_says_33 : decode cX10_says 33 = .ok (.getfield 33, 3) := by decide +kernel
theorem dX10_says_36 : decode cX10_says 36 = .ok (.iload_n 1, 1) := by decide +kernel
theorem dX10_says_37 : decode cX10_says 37 = .ok (.invokevirtual 127, 3) := by decide +kernel
theorem dX10_says_40 : decode cX10_says 40 = .ok (.ifCond .ne 5, 3) := by decide +kernel
theorem dX10_says_43 : decode cX10_says 43 = .ok (.iconst (-1), 1) := by decide +kernel
theorem dX10_says_44 : decode cX10_says 44 = .ok (.ireturn, 1) := by decide +kernel
theorem dX10_says_45 : decode cX10_says 45 = .ok (.aload_n 0, 1) := by decide +kernel
theorem dX10_says_46 : decode cX10_says 46 = .ok (.getfield 40, 3) := by decide +kernel
theorem dX10_says_49 : decode cX10_says 49 = .ok (.iload_n 2, 1) := by decide +kernel
theorem dX10_says_50 : decode cX10_says 50 = .ok (.iload_n 1, 1) := by decide +kernel
theorem dX10_says_51 : decode cX10_says 51 = .ok (.invokevirtual 130, 3) := by decide +kernel
theorem dX10_says_54 : decode cX10_says 54 = .ok (.ifCond .eq 5, 3) := by decide +kernel
theorem dX10_says_57 : decode cX10_says 57 = .ok (.iconst (-1), 1) := by decide +kernel
theorem dX10_says_58 : decode cX10_says 58 = .ok (.ireturn, 1) := by decide +kernel
theorem dX10_says_59 : decode cX10_says 59 = .ok (.iload 4, 2) := by decide +kernel
theorem dX10_says_61 : decode cX10_says 61 = .ok (.ifCond .eq 13, 3) := by decide +kernel
theorem dX10_says_64 : decode cX10_says 64 = .ok (.bipush 12, 2) := by decide +kernel
theorem dX10_says_66 : decode cX10_says 66 = .ok (.iload_n 1, 1) := by decide +kernel
theorem dX10_says_67 : decode cX10_says 67 = .ok (.iadd, 1) := by decide +kernel
theorem dX10_says_68 : decode cX10_says 68 = .ok (.bipush 100, 2) := by decide +kernel
theorem dX10_says_70 : decode cX10_says 70 = .ok (.isub, 1) := by decide +kernel
theorem dX10_says_71 : decode cX10_says 71 = .ok (.goto 4, 3) := by decide +kernel
theorem dX10_says_74 : decode cX10_says 74 = .ok (.iload_n 1, 1) := by decide +kernel
theorem dX10_says_75 : decode cX10_says 75 = .ok (.istore 5, 2) := by decide +kernel
theorem dX10_says_77 : decode cX10_says 77 = .ok (.aload_n 0, 1) := by decide +kernel
theorem dX10_says_78 : decode cX10_says 78 = .ok (.getfield 54, 3) := by decide +kernel
theorem dX10_says_81 : decode cX10_says 81 = .ok (.iload_n 3, 1) := by decide +kernel
theorem dX10_says_82 : decode cX10_says 82 = .ok (.ifCond .eq 8, 3) := by decide +kernel
theorem dX10_says_85 : decode cX10_says 85 = .ok (.bipush 7, 2) := by decide +kernel
theorem dX10_says_87 : decode cX10_says 87 = .ok (.goto 5, 3) := by decide +kernel
theorem dX10_says_90 : decode cX10_says 90 = .ok (.bipush 8, 2) := by decide +kernel
theorem dX10_says_92 : decode cX10_says 92 = .ok (.iload 5, 2) := by decide +kernel
theorem dX10_says_94 : decode cX10_says 94 = .ok (.iload_n 2, 1) := by decide +kernel
theorem dX10_says_95 : decode cX10_says 95 = .ok (.iconst 0, 1) := by decide +kernel
theorem dX10_says_96 : decode cX10_says 96 = .ok (.invokevirtual 133, 3) := by decide +kernel
theorem dX10_says_99 : decode cX10_says 99 = .ok (.ireturn, 1) := by decide +kernel
theorem dX10_fame_0 : decode cX10_fame 0 = .ok (.aload_n 0, 1) := by decide +kernel
theorem dX10_fame_1 : decode cX10_fame 1 = .ok (.iload_n 1, 1) := by decide +kernel
theorem dX10_fame_2 : decode cX10_fame 2 = .ok (.invokevirtual 123, 3) := by decide +kernel
theorem dX10_fame_5 : decode cX10_fame 5 = .ok (.ifCond .ne 5, 3) := by decide +kernel
theorem dX10_fame_8 : decode cX10_fame 8 = .ok (.iconst (-1), 1) := by decide +kernel
theorem dX10_fame_9 : decode cX10_fame 9 = .ok (.ireturn, 1) := by decide +kernel
theorem dX10_fame_10 : decode cX10_fame 10 = .ok (.aload_n 0, 1) := by decide +kernel
theorem dX10_fame_11 : decode cX10_fame 11 = .ok (.getfield 54, 3) := by decide +kernel
theorem dX10_fame_14 : decode cX10_fame 14 = .ok (.bipush 9, 2) := by decide +kernel
theorem dX10_fame_16 : decode cX10_fame 16 = .ok (.iload_n 1, 1) := by decide +kernel
theorem dX10_fame_17 : decode cX10_fame 17 = .ok (.iconst (-1), 1) := by decide +kernel
theorem dX10_fame_18 : decode cX10_fame 18 = .ok (.iconst 0, 1) := by decide +kernel
theorem dX10_fame_19 : decode cX10_fame 19 = .ok (.invokevirtual 133, 3) := by decide +kernel
theorem dX10_fame_22 : decode cX10_fame 22 = .ok (.ireturn, 1) := by decide +kernel
theorem dX10_comes_0 : decode cX10_comes 0 = .ok (.iload_n 1, 1) := by decide +kernel
theorem dX10_comes_1 : decode cX10_comes 1 = .ok (.invokestatic 117, 3) := by decide +kernel
theorem dX10_comes_4 : decode cX10_comes 4 = .ok (.ifCond .eq 10, 3) := by decide +kernel
theorem dX10_comes_7 : decode cX10_comes 7 = .ok (.iload_n 2, 1) := by decide +kernel
theorem dX10_comes_8 : decode cX10_comes 8 = .ok (.invokestatic 86, 3) := by decide +kernel
theorem dX10_comes_11 : decode cX10_comes 11 = .ok (.ifCond .ne 5, 3) := by decide +kernel
theorem dX10_comes_14 : decode cX10_comes 14 = .ok (.iconst (-1), 1) := by decide +kernel
theorem dX10_comes_15 : decode cX10_comes 15 = .ok (.ireturn, 1) := by decide +kernel
theorem dX10_comes_16 : decode cX10_comes 16 = .ok (.aload_n 0, 1) := by decide +kernel
theorem dX10_comes_17 : decode cX10_comes 17 = .ok (.getfield 54, 3) := by decide +kernel
theorem dX10_comes_20 : decode cX10_comes 20 = .ok (.iload_n 3, 1) := by decide +kernel
theorem dX10_comes_21 : decode cX10_comes 21 = .ok (.ifCond .eq 7, 3) := by decide +kernel
theorem dX10_comes_24 : decode cX10_comes 24 = .ok (.iconst 5, 1) := by decide +kernel
theorem dX10_comes_25 : decode cX10_comes 25 = .ok (.goto 5, 3) := by decide +kernel
theorem dX10_comes_28 : decode cX10_comes 28 = .ok (.bipush 6, 2) := by decide +kernel
theorem dX10_comes_30 : decode cX10_comes 30 = .ok (.iload_n 1, 1) := by decide +kernel
theorem dX10_comes_31 : decode cX10_comes 31 = .ok (.iconst (-1), 1) := by decide +kernel
theorem dX10_comes_32 : decode cX10_comes 32 = .ok (.iload_n 2, 1) := by decide +kernel
theorem dX10_comes_33 : decode cX10_comes 33 = .ok (.invokevirtual 133, 3) := by decide +kernel
theorem dX10_comes_36 : decode cX10_comes 36 = .ok (.ireturn, 1) := by decide +kernel
theorem dX10_fate_0 : decode cX10_fate 0 = .ok (.iload_n 1, 1) := by decide +kernel
theorem dX10_fate_1 : decode cX10_fate 1 = .ok (.ifCond .lt 26, 3) := by decide +kernel
theorem dX10_fate_4 : decode cX10_fate 4 = .ok (.iload_n 1, 1) := by decide +kernel
theorem dX10_fate_5 : decode cX10_fate 5 = .ok (.iconst 4, 1) := by decide +kernel
theorem dX10_fate_6 : decode cX10_fate 6 = .ok (.if_icmp .ge 21, 3) := by decide +kernel
theorem dX10_fate_9 : decode cX10_fate 9 = .ok (.aload_n 0, 1) := by decide +kernel
theorem dX10_fate_10 : decode cX10_fate 10 = .ok (.getfield 33, 3) := by decide +kernel
theorem dX10_fate_13 : decode cX10_fate 13 = .ok (.iload_n 2, 1) := by decide +kernel
theorem dX10_fate_14 : decode cX10_fate 14 = .ok (.invokevirtual 127, 3) := by decide +kernel
theorem dX10_fate_17 : decode cX10_fate 17 = .ok (.ifCond .eq 10, 3) := by decide +kernel
theorem dX10_fate_20 : decode cX10_fate 20 = .ok (.iload_n 3, 1) := by decide +kernel
theorem dX10_fate_21 : decode cX10_fate 21 = .ok (.invokestatic 86, 3) := by decide +kernel
theorem dX10_fate_24 : decode cX10_fate 24 = .ok (.ifCond .ne 5, 3) := by decide +kernel
theorem dX10_fate_27 : decode cX10_fate 27 = .ok (.iconst (-1), 1) := by decide +kernel
theorem dX10_fate_28 : decode cX10_fate 28 = .ok (.ireturn, 1) := by decide +kernel
theorem dX10_fate_29 : decode cX10_fate 29 = .ok (.aload_n 0, 1) := by decide +kernel
theorem dX10_fate_30 : decode cX10_fate 30 = .ok (.getfield 54, 3) := by decide +kernel
theorem dX10_fate_33 : decode cX10_fate 33 = .ok (.iload_n 1, 1) := by decide +kernel
theorem dX10_fate_34 : decode cX10_fate 34 = .ok (.iload_n 2, 1) := by decide +kernel
theorem dX10_fate_35 : decode cX10_fate 35 = .ok (.iconst (-1), 1) := by decide +kernel
theorem dX10_fate_36 : decode cX10_fate 36 = .ok (.iload_n 3, 1) := by decide +kernel
theorem dX10_fate_37 : decode cX10_fate 37 = .ok (.invokevirtual 133, 3) := by decide +kernel
theorem dX10_fate_40 : decode cX10_fate 40 = .ok (.ireturn, 1) := by decide +kernel
theorem dX10_leave_0 : decode cX10_leave 0 = .ok (.aload_n 0, 1) := by decide +kernel
theorem dX10_leave_1 : decode cX10_leave 1 = .ok (.iload_n 1, 1) := by decide +kernel
