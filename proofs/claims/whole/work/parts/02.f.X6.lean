theorem dX6_init_0 : decode cX6_init 0 = .ok (.aload_n 0, 1) := by decide +kernel
theorem dX6_init_1 : decode cX6_init 1 = .ok (.invokespecial 3, 3) := by decide +kernel
theorem dX6_init_4 : decode cX6_init 4 = .ok (.aload_n 0, 1) := by decide +kernel
theorem dX6_init_5 : decode cX6_init 5 = .ok (.bipush 8, 2) := by decide +kernel
theorem dX6_init_7 : decode cX6_init 7 = .ok (.anewarray 9, 3) := by decide +kernel
theorem dX6_init_10 : decode cX6_init 10 = .ok (.putfield 11, 3) := by decide +kernel
theorem dX6_init_13 : decode cX6_init 13 = .ok (.aload_n 0, 1) := by decide +kernel
theorem dX6_init_14 : decode cX6_init 14 = .ok (.new 9, 3) := by decide +kernel
theorem dX6_init_17 : decode cX6_init 17 = .ok (.dup, 1) := by decide +kernel
theorem dX6_init_18 : decode cX6_init 18 = .ok (.iconst (-1), 1) := by decide +kernel
theorem dX6_init_19 : decode cX6_init 19 = .ok (.iconst (-1), 1) := by decide +kernel
theorem dX6_init_20 : decode cX6_init 20 = .ok (.iconst 0, 1) := by decide +kernel
theorem dX6_init_21 : decode cX6_init 21 = .ok (.newarray .int, 2) := by decide +kernel
theorem dX6_init_23 : decode cX6_init 23 = .ok (.iconst 0, 1) := by decide +kernel
theorem dX6_init_24 : decode cX6_init 24 = .ok (.newarray .int, 2) := by decide +kernel
theorem dX6_init_26 : decode cX6_init 26 = .ok (.invokespecial 17, 3) := by decide +kernel
theorem dX6_init_29 : decode cX6_init 29 = .ok (.putfield 20, 3) := by decide +kernel
theorem dX6_init_32 : decode cX6_init 32 = .ok (.aload_n 0, 1) := by decide +kernel
theorem dX6_init_33 : decode cX6_init 33 = .ok (.iconst 0, 1) := by decide +kernel
theorem dX6_init_34 : decode cX6_init 34 = .ok (.putfield 24, 3) := by decide +kernel
theorem dX6_init_37 : decode cX6_init 37 = .ok (.return_, 1) := by decide +kernel
theorem dX6_add_0 : decode cX6_add 0 = .ok (.aload_n 0, 1) := by decide +kernel
theorem dX6_add_1 : decode cX6_add 1 = .ok (.getfield 24, 3) := by decide +kernel
theorem dX6_add_4 : decode cX6_add 4 = .ok (.bipush 8, 2) := by decide +kernel
theorem dX6_add_6 : decode cX6_add 6 = .ok (.if_icmp .ge 23, 3) := by decide +kernel
theorem dX6_add_9 : decode cX6_add 9 = .ok (.aload_n 0, 1) := by decide +kernel
theorem dX6_add_10 : decode cX6_add 10 = .ok (.getfield 11, 3) := by decide +kernel
theorem dX6_add_13 : decode cX6_add 13 = .ok (.aload_n 0, 1) := by decide +kernel
theorem dX6_add_14 : decode cX6_add 14 = .ok (.getfield 24, 3) := by decide +kernel
theorem dX6_add_17 : decode cX6_add 17 = .ok (.aload_n 1, 1) := by decide +kernel
theorem dX6_add_18 : decode cX6_add 18 = .ok (.aastore, 1) := by decide +kernel
theorem dX6_add_19 : decode cX6_add 19 = .ok (.aload_n 0, 1) := by decide +kernel
theorem dX6_add_20 : decode cX6_add 20 = .ok (.dup, 1) := by decide +kernel
theorem dX6_add_21 : decode cX6_add 21 = .ok (.getfield 24, 3) := by decide +kernel
theorem dX6_add_24 : decode cX6_add 24 = .ok (.iconst 1, 1) := by decide +kernel
theorem dX6_add_25 : decode cX6_add 25 = .ok (.iadd, 1) := by decide +kernel
theorem dX6_add_26 : decode cX6_add 26 = .ok (.putfield 24, 3) := by decide +kernel
theorem dX6_add_29 : decode cX6_add 29 = .ok (.return_, 1) := by decide +kernel
theorem dX6_inForce_0 : decode cX6_inForce 0 = .ok (.iconst (-1), 1) := by decide +kernel
theorem dX6_inForce_1 : decode cX6_inForce 1 = .ok (.istore_n 3, 1) := by decide +kernel
theorem dX6_inForce_2 : decode cX6_inForce 2 = .ok (.iconst (-1), 1) := by decide +kernel
theorem dX6_inForce_3 : decode cX6_inForce 3 = .ok (.istore 4, 2) := by decide +kernel
theorem dX6_inForce_5 : decode cX6_inForce 5 = .ok (.iconst 0, 1) := by decide +kernel
theorem dX6_inForce_6 : decode cX6_inForce 6 = .ok (.istore 5, 2) := by decide +kernel
theorem dX6_inForce_8 : decode cX6_inForce 8 = .ok (.iload 5, 2) := by decide +kernel
theorem dX6_inForce_10 : decode cX6_inForce 10 = .ok (.aload_n 0, 1) := by decide +kernel
theorem dX6_inForce_11 : decode cX6_inForce 11 = .ok (.getfield 24, 3) := by decide +kernel
theorem dX6_inForce_14 : decode cX6_inForce 14 = .ok (.if_icmp .ge 61, 3) := by decide +kernel
theorem dX6_inForce_17 : decode cX6_inForce 17 = .ok (.aload_n 0, 1) := by decide +kernel
theorem dX6_inForce_18 : decode cX6_inForce 18 = .ok (.getfield 11, 3) := by decide +kernel
theorem dX6_inForce_21 : decode cX6_inForce 21 = .ok (.iload 5, 2) := by decide +kernel
theorem dX6_inForce_23 : decode cX6_inForce 23 = .ok (.aaload, 1) := by decide +kernel
theorem dX6_inForce_24 : decode cX6_inForce 24 = .ok (.astore 6, 2) := by decide +kernel
theorem dX6_inForce_26 : decode cX6_inForce 26 = .ok (.aload 6, 2) := by decide +kernel
theorem dX6_inForce_28 : decode cX6_inForce 28 = .ok (.ifnull 41, 3) := by decide +kernel
theorem dX6_inForce_31 : decode cX6_inForce 31 = .ok (.aload 6, 2) := by decide +kernel
theorem dX6_inForce_33 : decode cX6_inForce 33 = .ok (.getfield 28, 3) := by decide +kernel
theorem dX6_inForce_36 : decode cX6_inForce 36 = .ok (.iload_n 1, 1) := by decide +kernel
theorem dX6_inForce_37 : decode cX6_inForce 37 = .ok (.if_icmp .ne 32, 3) := by decide +kernel
theorem dX6_inForce_40 : decode cX6_inForce 40 = .ok (.aload 6, 2) := by decide +kernel
theorem dX6_inForce_42 : decode cX6_inForce 42 = .ok (.getfield 31, 3) := by decide +kernel
theorem dX6_inForce_45 : decode cX6_inForce 45 = .ok (.iload_n 2, 1) := by decide +kernel
theorem dX6_inForce_46 : decode cX6_inForce 46 = .ok (.if_icmp .gt 23, 3) := by decide +kernel
theorem dX6_inForce_49 : decode cX6_inForce 49 = .ok (.aload 6, 2) := by decide +kernel
theorem dX6_inForce_51 : decode cX6_inForce 51 = .ok (.getfield 31, 3) := by decide +kernel
theorem dX6_inForce_54 : decode cX6_inForce 54 = .ok (.iload 4, 2) := by decide +kernel
theorem dX6_inForce_56 : decode cX6_inForce 56 = .ok (.if_icmp .lt 13, 3) := by decide +kernel
theorem dX6_inForce_59 : decode cX6_inForce 59 = .ok (.iload 5, 2) := by decide +kernel
theorem dX6_inForce_61 : decode cX6_inForce 61 = .ok (.istore_n 3, 1) := by decide +kernel
theorem dX6_inForce_62 : decode cX6_inForce 62 = .ok (.aload 6, 2) := by decide +kernel
theorem dX6_inForce_64 : decode cX6_inForce 64 = .ok (.getfield 31, 3) := by decide +kernel
theorem dX6_inForce_67 : decode cX6_inForce 67 = .ok (.istore 4, 2) := by decide +kernel
theorem dX6_inForce_69 : decode cX6_inForce 69 = .ok (.iinc 5 1, 3) := by decide +kernel
theorem dX6_inForce_72 : decode cX6_inForce 72 = .ok (.goto (-64), 3) := by decide +kernel
theorem dX6_inForce_75 : decode cX6_inForce 75 = .ok (.iload_n 3, 1) := by decide +kernel
theorem dX6_inForce_76 : decode cX6_inForce 76 = .ok (.ireturn, 1) := by decide +kernel
theorem dX6_lawOn_0 : decode cX6_lawOn 0 = .ok (.aload_n 0, 1) := by decide +kernel
theorem dX6_lawOn_1 : decode cX6_lawOn 1 = .ok (.iload_n 1, 1) := by decide +kernel
theorem dX6_lawOn_2 : decode cX6_lawOn 2 = .ok (.iload_n 2, 1) := by decide +kernel
theorem dX6_lawOn_3 : decode cX6_lawOn 3 = .ok (.invokevirtual 34, 3) := by decide +kernel
theorem dX6_lawOn_6 : decode cX6_lawOn 6 = .ok (.istore_n 3, 1) := by decide +kernel
theorem dX6_lawOn_7 : decode cX6_lawOn 7 = .ok (.iload_n 3, 1) := by decide +kernel
theorem dX6_lawOn_8 : decode cX6_lawOn 8 = .ok (.ifCond .lt 12, 3) := by decide +kernel
theorem dX6_lawOn_11 : decode cX6_lawOn 11 = .ok (.aload_n 0, 1) := by decide +kernel
theorem dX6_lawOn_12 : decode cX6_lawOn 12 = .ok (.getfield 11, 3) := by decide +kernel
theorem dX6_lawOn_15 : decode cX6_lawOn 15 = .ok (.iload_n 3, 1) := by decide +kernel
theorem dX6_lawOn_16 : decode cX6_lawOn 16 = .ok (.aaload, 1) := by decide +kernel
theorem dX6_lawOn_17 : decode cX6_lawOn 17 = .ok (.ifnonnull 8, 3) := by decide +kernel
theorem dX6_lawOn_20 : decode cX6_lawOn 20 = .ok (.aload_n 0, 1) := by decide +kernel
theorem dX6_lawOn_21 : decode cX6_lawOn 21 = .ok (.getfield 20, 3) := by decide +kernel
theorem dX6_lawOn_24 : decode cX6_lawOn 24 = .ok (.areturn, 1) := by decide +kernel
theorem dX6_lawOn_25 : decode cX6_lawOn 25 = .ok (.aload_n 0, 1) := by decide +kernel
theorem dX6_lawOn_26 : decode cX6_lawOn 26 = .ok (.getfield 11, 3) := by decide +kernel
theorem dX6_lawOn_29 : decode cX6_lawOn 29 = .ok (.iload_n 3, 1) := by decide +kernel
theorem dX6_lawOn_30 : decode cX6_lawOn 30 = .ok (.aaload, 1) := by decide +kernel
theorem dX6_lawOn_31 : decode cX6_lawOn 31 = .ok (.areturn, 1) := by decide +kernel
theorem dX7_init_0 : decode cX7_init 0 = .ok (.aload_n 0, 1) := by decide +kernel
theorem dX7_init_1 : decode cX7_init 1 = .ok (.invokespecial 3, 3) := by decide +kernel
theorem dX7_init_4 : decode cX7_init 4 = .ok (.aload_n 0, 1) := by decide +kernel
theorem dX7_init_5 : decode cX7_init 5 = .ok (.bipush 10, 2) := by decide +kernel
theorem dX7_init_7 : decode cX7_init 7 = .ok (.newarray .int, 2) := by decide +kernel
theorem dX7_init_9 : decode cX7_init 9 = .ok (.putfield 9, 3) := by decide +kernel
theorem dX7_init_12 : decode cX7_init 12 = .ok (.aload_n 0, 1) := by decide +kernel
theorem dX7_init_13 : decode cX7_init 13 = .ok (.bipush 10, 2) := by decide +kernel
theorem dX7_init_15 : decode cX7_init 15 = .ok (.newarray .int, 2) := by decide +kernel
theorem dX7_init_17 : decode cX7_init 17 = .ok (.putfield 15, 3) := by decide +kernel
theorem dX7_init_20 : decode cX7_init 20 = .ok (.aload_n 0, 1) := by decide +kernel
theorem dX7_init_21 : decode cX7_init 21 = .ok (.bipush 10, 2) := by decide +kernel
theorem dX7_init_23 : decode cX7_init 23 = .ok (.newarray .int, 2) := by decide +kernel
theorem dX7_init_25 : decode cX7_init 25 = .ok (.putfield 18, 3) := by decide +kernel
theorem dX7_init_28 : decode cX7_init 28 = .ok (.aload_n 0, 1) := by decide +kernel
theorem dX7_init_29 : decode cX7_init 29 = .ok (.bipush 10, 2) := by decide +kernel
theorem dX7_init_31 : decode cX7_init 31 = .ok (.newarray .int, 2) := by decide +kernel
theorem dX7_init_33 : decode cX7_init 33 = .ok (.putfield 21, 3) := by decide +kernel
theorem dX7_init_36 : decode cX7_init 36 = .ok (.aload_n 0, 1) := by decide +kernel
theorem dX7_init_37 : decode cX7_init 37 = .ok (.bipush 10, 2) := by decide +kernel
theorem dX7_init_39 : decode cX7_init 39 = .ok (.newarray .int, 2) := by decide +kernel
theorem dX7_init_41 : decode cX7_init 41 = .ok (.putfield 24, 3) := by decide +kernel
theorem dX7_init_44 : decode cX7_init 44 = .ok (.aload_n 0, 1) := by decide +kernel
theorem dX7_init_45 : decode cX7_init 45 = .ok (.bipush 10, 2) := by decide +kernel
theorem dX7_init_47 : decode cX7_init 47 = .ok (.newarray .int, 2) := by decide +kernel
theorem dX7_init_49 : decode cX7_init 49 = .ok (.putfield 27, 3) := by decide +kernel
theorem dX7_init_52 : decode cX7_init 52 = .ok (.aload_n 0, 1) := by decide +kernel
theorem dX7_init_53 : decode cX7_init 53 = .ok (.iconst 0, 1) := by decide +kernel
theorem dX7_init_54 : decode cX7_init 54 = .ok (.putfield 30, 3) := by decide +kernel
theorem dX7_init_57 : decode cX7_init 57 = .ok (.return_, 1) := by decide +kernel
theorem dX7_add_0 : decode cX7_add 0 = .ok (.aload_n 0, 1) := by decide +kernel
theorem dX7_add_1 : decode cX7_add 1 = .ok (.getfield 30, 3) := by decide +kernel
theorem dX7_add_4 : decode cX7_add 4 = .ok (.bipush 10, 2) := by decide +kernel
theorem dX7_add_6 : decode cX7_add 6 = .ok (.if_icmp .lt 5, 3) := by decide +kernel
theorem dX7_add_9 : decode cX7_add 9 = .ok (.iconst (-1), 1) := by decide +kernel
theorem dX7_add_10 : decode cX7_add 10 = .ok (.ireturn, 1) := by decide +kernel
theorem dX7_add_11 : decode cX7_add 11 = .ok (.aload_n 0, 1) := by decide +kernel
theorem dX7_add_12 : decode cX7_add 12 = .ok (.getfield 9, 3) := by decide +kernel
theorem dX7_add_15 : decode cX7_add 15 = .ok (.aload_n 0, 1) := by decide +kernel
theorem dX7_add_16 : decode cX7_add 16 = .ok (.getfield 30, 3) := by decide +kernel
theorem dX7_add_19 : decode cX7_add 19 = .ok (.iload_n 1, 1) := by decide +kernel
theorem dX7_add_20 : decode cX7_add 20 = .ok (.iastore, 1) := by decide +kernel
theorem dX7_add_21 : decode cX7_add 21 = .ok (.aload_n 0, 1) := by decide +kernel
theorem dX7_add_22 : decode cX7_add 22 = .ok (.getfield 15, 3) := by decide +kernel
theorem dX7_add_25 : decode cX7_add 25 = .ok (.aload_n 0, 1) := by decide +kernel
theorem dX7_add_26 : decode cX7_add 26 = .ok (.getfield 30, 3) := by decide +kernel
theorem dX7_add_29 : decode cX7_add 29 = .ok (.iload_n 2, 1) := by decide +kernel
theorem dX7_add_30 : decode cX7_add 30 = .ok (.iastore, 1) := by decide +kernel
theorem dX7_add_31 : decode cX7_add 31 = .ok (.aload_n 0, 1) := by decide +kernel
theorem dX7_add_32 : decode cX7_add 32 = .ok (.getfield 18, 3) := by decide +kernel
theorem dX7_add_35 : decode cX7_add 35 = .ok (.aload_n 0, 1) := by decide +kernel
theorem dX7_add_36 : decode cX7_add 36 = .ok (.getfield 30, 3) := by decide +kernel
theorem dX7_add_39 : decode cX7_add 39 = .ok (.iload_n 3, 1) := by decide +kernel
theorem dX7_add_40 : decode cX7_add 40 = .ok (.iastore, 1) := by decide +kernel
theorem dX7_add_41 : decode cX7_add 41 = .ok (.aload_n 0, 1) := by decide +kernel
theorem dX7_add_42 : decode cX7_add 42 = .ok (.getfield 21, 3) := by decide +kernel
theorem dX7_add_45 : decode cX7_add 45 = .ok (.aload_n 0, 1) := by decide +kernel
theorem dX7_add_46 : decode cX7_add 46 = .ok (.getfield 30, 3) := by decide +kernel
theorem dX7_add_49 : decode cX7_add 49 = .ok (.iload 4, 2) := by decide +kernel
theorem dX7_add_51 : decode cX7_add 51 = .ok (.iastore, 1) := by decide +kernel
theorem dX7_add_52 : decode cX7_add 52 = .ok (.aload_n 0, 1) := by decide +kernel
theorem dX7_add_53 : decode cX7_add 53 = .ok (.getfield 24, 3) := by decide +kernel
theorem dX7_add_56 : decode cX7_add 56 = .ok (.aload_n 0, 1) := by decide +kernel
theorem dX7_add_57 : decode cX7_add 57 = .ok (.getfield 30, 3) := by decide +kernel
theorem dX7_add_60 : decode cX7_add 60 = .ok (.iload 5, 2) := by decide +kernel
theorem dX7_add_62 : decode cX7_add 62 = .ok (.iastore, 1) := by decide +kernel
theorem dX7_add_63 : decode cX7_add 63 = .ok (.aload_n 0, 1) := by decide +kernel
theorem dX7_add_64 : decode cX7_add 64 = .ok (.getfield 27, 3) := by decide +kernel
theorem dX7_add_67 : decode cX7_add 67 = .ok (.aload_n 0, 1) := by decide +kernel
theorem dX7_add_68 : decode cX7_add 68 = .ok (.getfield 30, 3) := by decide +kernel
theorem dX7_add_71 : decode cX7_add 71 = .ok (.iload 6, 2) := by decide +kernel
theorem dX7_add_73 : decode cX7_add 73 = .ok (.iastore, 1) := by decide +kernel
theorem dX7_add_74 : decode cX7_add 74 = .ok (.aload_n 0, 1) := by decide +kernel
theorem dX7_add_75 : decode cX7_add 75 = .ok (.dup, 1) := by decide +kernel
theorem dX7_add_76 : decode cX7_add 76 = .ok (.getfield 30, 3) := by decide +kernel
theorem dX7_add_79 : decode cX7_add 79 = .ok (.iconst 1, 1) := by decide +kernel
theorem dX7_add_80 : decode cX7_add 80 = .ok (.iadd, 1) := by decide +kernel
theorem dX7_add_81 : decode cX7_add 81 = .ok (.putfield 30, 3) := by decide +kernel
theorem dX7_add_84 : decode cX7_add 84 = .ok (.aload_n 0, 1) := by decide +kernel
theorem dX7_add_85 : decode cX7_add 85 = .ok (.getfield 30, 3) := by decide +kernel
theorem dX7_add_88 : decode cX7_add 88 = .ok (.iconst 1, 1) := by decide +kernel
theorem dX7_add_89 : decode cX7_add 89 = .ok (.isub, 1) := by decide +kernel
theorem dX7_add_90 : decode cX7_add 90 = .ok (.ireturn, 1) := by decide +kernel
theorem dX7_binds_0 : decode cX7_binds 0 = .ok (.aload_n 0, 1) := by decide +kernel
theorem dX7_binds_1 : decode cX7_binds 1 = .ok (.getfield 9, 3) := by decide +kernel
theorem dX7_binds_4 : decode cX7_binds 4 = .ok (.iload_n 1, 1) := by decide +kernel
theorem dX7_binds_5 : decode cX7_binds 5 = .ok (.iaload, 1) := by decide +kernel
theorem dX7_binds_6 : decode cX7_binds 6 = .ok (.iload_n 2, 1) := by decide +kernel
theorem dX7_binds_7 : decode cX7_binds 7 = .ok (.if_icmp .eq 13, 3) := by decide +kernel
theorem dX7_binds_10 : decode cX7_binds 10 = .ok (.aload_n 0, 1) := by decide +kernel
theorem dX7_binds_11 : decode cX7_binds 11 = .ok (.getfield 15, 3) := by decide +kernel
theorem dX7_binds_14 : decode cX7_binds 14 = .ok (.iload_n 1, 1) := by decide +kernel
theorem dX7_binds_15 : decode cX7_binds 15 = .ok (.iaload, 1) := by decide +kernel
theorem dX7_binds_16 : decode cX7_binds 16 = .ok (.iload_n 2, 1) := by decide +kernel
theorem dX7_binds_17 : decode cX7_binds 17 = .ok (.if_icmp .ne 7, 3) := by decide +kernel
theorem dX7_binds_20 : decode cX7_binds 20 = .ok (.iconst 1, 1) := by decide +kernel
theorem dX7_binds_21 : decode cX7_binds 21 = .ok (.goto 4, 3) := by decide +kernel
theorem dX7_binds_24 : decode cX7_binds 24 = .ok (.iconst 0, 1) := by decide +kernel
theorem dX7_binds_25 : decode cX7_binds 25 = .ok (.ireturn, 1) := by decide +kernel
theorem dX7_otherOf_0 : decode cX7_otherOf 0 = .ok (.aload_n 0, 1) := by decide +kernel
theorem dX7_otherOf_1 : decode cX7_otherOf 1 = .ok (.getfield 9, 3) := by decide +kernel
theorem dX7_otherOf_4 : decode cX7_otherOf 4 = .ok (.iload_n 1, 1) := by decide +kernel
theorem dX7_otherOf_5 : decode cX7_otherOf 5 = .ok (.iaload, 1) := by decide +kernel
theorem dX7_otherOf_6 : decode cX7_otherOf 6 = .ok (.iload_n 2, 1) := by decide +kernel
theorem dX7_otherOf_7 : decode cX7_otherOf 7 = .ok (.if_icmp .ne 12, 3) := by decide +kernel
theorem dX7_otherOf_10 : decode cX7_otherOf 10 = .ok (.aload_n 0, 1) := by decide +kernel
theorem dX7_otherOf_11 : decode cX7_otherOf 11 = .ok (.getfield 15, 3) := by decide +kernel
theorem dX7_otherOf_14 : decode cX7_otherOf 14 = .ok (.iload_n 1, 1) := by decide +kernel
theorem dX7_otherOf_15 : decode cX7_otherOf 15 = .ok (.iaload, 1) := by decide +kernel
theorem dX7_otherOf_16 : decode cX7_otherOf 16 = .ok (.goto 9, 3) := by decide +kernel
theorem dX7_otherOf_19 : decode cX7_otherOf 19 = .ok (.aload_n 0, 1) := by decide +kernel
theorem dX7_otherOf_20 : decode cX7_otherOf 20 = .ok (.getfield 9, 3) := by decide +kernel
theorem dX7_otherOf_23 : decode cX7_otherOf 23 = .ok (.iload_n 1, 1) := by decide +kernel
theorem dX7_otherOf_24 : decode cX7_otherOf 24 = .ok (.iaload, 1) := by decide +kernel
theorem dX7_otherOf_25 : decode cX7_otherOf 25 = .ok (.ireturn, 1) := by decide +kernel
theorem dX7_sideOf_0 : decode cX7_sideOf 0 = .ok (.aload_n 0, 1) := by decide +kernel
theorem dX7_sideOf_1 : decode cX7_sideOf 1 = .ok (.getfield 9, 3) := by decide +kernel
theorem dX7_sideOf_4 : decode cX7_sideOf 4 = .ok (.iload_n 1, 1) := by decide +kernel
theorem dX7_sideOf_5 : decode cX7_sideOf 5 = .ok (.iaload, 1) := by decide +kernel
theorem dX7_sideOf_6 : decode cX7_sideOf 6 = .ok (.iload_n 2, 1) := by decide +kernel
theorem dX7_sideOf_7 : decode cX7_sideOf 7 = .ok (.if_icmp .ne 7, 3) := by decide +kernel
theorem dX7_sideOf_10 : decode cX7_sideOf 10 = .ok (.iconst 0, 1) := by decide +kernel
theorem dX7_sideOf_11 : decode cX7_sideOf 11 = .ok (.goto 4, 3) := by decide +kernel
theorem dX7_sideOf_14 : decode cX7_sideOf 14 = .ok (.iconst 1, 1) := by decide +kernel
theorem dX7_sideOf_15 : decode cX7_sideOf 15 = .ok (.ireturn, 1) := by decide +kernel
theorem dX7_shared_0 : decode cX7_shared 0 = .ok (.aload_n 0, 1) := by decide +kernel
theorem dX7_shared_1 : decode cX7_shared 1 = .ok (.iload_n 2, 1) := by decide +kernel
theorem dX7_shared_2 : decode cX7_shared 2 = .ok (.aload_n 0, 1) := by decide +kernel
theorem dX7_shared_3 : decode cX7_shared 3 = .ok (.getfield 9, 3) := by decide +kernel
theorem dX7_shared_6 : decode cX7_shared 6 = .ok (.iload_n 1, 1) := by decide +kernel
theorem dX7_shared_7 : decode cX7_shared 7 = .ok (.iaload, 1) := by decide +kernel
theorem dX7_shared_8 : decode cX7_shared 8 = .ok (.invokevirtual 34, 3) := by decide +kernel
theorem dX7_shared_11 : decode cX7_shared 11 = .ok (.ifCond .eq 7, 3) := by decide +kernel
theorem dX7_shared_14 : decode cX7_shared 14 = .ok (.iconst 1, 1) := by decide +kernel
theorem dX7_shared_15 : decode cX7_shared 15 = .ok (.goto 4, 3) := by decide +kernel
theorem dX7_shared_18 : decode cX7_shared 18 = .ok (.iconst 0, 1) := by decide +kernel
theorem dX7_shared_19 : decode cX7_shared 19 = .ok (.aload_n 0, 1) := by decide +kernel
theorem dX7_shared_20 : decode cX7_shared 20 = .ok (.iload_n 2, 1) := by decide +kernel
theorem dX7_shared_21 : decode cX7_shared 21 = .ok (.aload_n 0, 1) := by decide +kernel
theorem dX7_shared_22 : decode cX7_shared 22 = .ok (.getfield 15, 3) := by decide +kernel
theorem dX7_shared_25 : decode cX7_shared 25 = .ok (.iload_n 1, 1) := by decide +kernel
theorem dX7_shared_26 : decode cX7_shared 26 = .ok (.iaload, 1) := by decide +kernel
theorem dX7_shared_27 : decode cX7_shared 27 = .ok (.invokevirtual 34, 3) := by decide +kernel
theorem dX7_shared_30 : decode cX7_shared 30 = .ok (.ifCond .eq 7, 3) := by decide +kernel
theorem dX7_shared_33 : decode cX7_shared 33 = .ok (.iconst 2, 1) := by decide +kernel
theorem dX7_shared_34 : decode cX7_shared 34 = .ok (.goto 4, 3) := by decide +kernel
theorem dX7_shared_37 : decode cX7_shared 37 = .ok (.iconst 0, 1) := by decide +kernel
theorem dX7_shared_38 : decode cX7_shared 38 = .ok (.iadd, 1) := by decide +kernel
theorem dX7_shared_39 : decode cX7_shared 39 = .ok (.ireturn, 1) := by decide +kernel
theorem dX8_init_0 : decode cX8_init 0 = .ok (.aload_n 0, 1) := by decide +kernel
theorem dX8_init_1 : decode cX8_init 1 = .ok (.invokespecial 3, 3) := by decide +kernel
theorem dX8_init_4 : decode cX8_init 4 = .ok (.aload_n 0, 1) := by decide +kernel
theorem dX8_init_5 : decode cX8_init 5 = .ok (.bipush 12, 2) := by decide +kernel
theorem dX8_init_7 : decode cX8_init 7 = .ok (.newarray .int, 2) := by decide +kernel
theorem dX8_init_9 : decode cX8_init 9 = .ok (.putfield 9, 3) := by decide +kernel
theorem dX8_init_12 : decode cX8_init 12 = .ok (.aload_n 0, 1) := by decide +kernel
theorem dX8_init_13 : decode cX8_init 13 = .ok (.bipush 7, 2) := by decide +kernel
theorem dX8_init_15 : decode cX8_init 15 = .ok (.newarray .int, 2) := by decide +kernel
theorem dX8_init_17 : decode cX8_init 17 = .ok (.putfield 15, 3) := by decide +kernel
theorem dX8_init_20 : decode cX8_init 20 = .ok (.aload_n 0, 1) := by decide +kernel
theorem dX8_init_21 : decode cX8_init 21 = .ok (.bipush 7, 2) := by decide +kernel
theorem dX8_init_23 : decode cX8_init 23 = .ok (.newarray .int, 2) := by decide +kernel
theorem dX8_init_25 : decode cX8_init 25 = .ok (.putfield 18, 3) := by decide +kernel
theorem dX8_init_28 : decode cX8_init 28 = .ok (.aload_n 0, 1) := by decide +kernel
theorem dX8_init_29 : decode cX8_init 29 = .ok (.iconst 0, 1) := by decide +kernel
theorem dX8_init_30 : decode cX8_init 30 = .ok (.putfield 21, 3) := by decide +kernel
theorem dX8_init_33 : decode cX8_init 33 = .ok (.return_, 1) := by decide +kernel
theorem dX8_clear_0 : decode cX8_clear 0 = .ok (.aload_n 0, 1) := by decide +kernel
theorem dX8_clear_1 : decode cX8_clear 1 = .ok (.getfield 9, 3) := by decide +kernel
theorem dX8_clear_4 : decode cX8_clear 4 = .ok (.iconst 0, 1) := by decide +kernel
theorem dX8_clear_5 : decode cX8_clear 5 = .ok (.invokestatic 25, 3) := by decide +kernel
theorem dX8_clear_8 : decode cX8_clear 8 = .ok (.return_, 1) := by decide +kernel
theorem dX8_holds_0 : decode cX8_holds 0 = .ok (.iconst 1, 1) := by decide +kernel
theorem dX8_holds_1 : decode cX8_holds 1 = .ok (.istore_n 3, 1) := by decide +kernel
theorem dX8_holds_2 : decode cX8_holds 2 = .ok (.aload_n 0, 1) := by decide +kernel
theorem dX8_holds_3 : decode cX8_holds 3 = .ok (.iload_n 2, 1) := by decide +kernel
theorem dX8_holds_4 : decode cX8_holds 4 = .ok (.iconst 1, 1) := by decide +kernel
theorem dX8_holds_5 : decode cX8_holds 5 = .ok (.isub, 1) := by decide +kernel
theorem dX8_holds_6 : decode cX8_holds 6 = .ok (.putfield 21, 3) := by decide +kernel
theorem dX8_holds_9 : decode cX8_holds 9 = .ok (.iconst 0, 1) := by decide +kernel
theorem dX8_holds_10 : decode cX8_holds 10 = .ok (.istore 4, 2) := by decide +kernel
theorem dX8_holds_12 : decode cX8_holds 12 = .ok (.iload 4, 2) := by decide +kernel
theorem dX8_holds_14 : decode cX8_holds 14 = .ok (.sipush 400, 3) := by decide +kernel
theorem dX8_holds_17 : decode cX8_holds 17 = .ok (.if_icmp .ge 101, 3) := by decide +kernel
theorem dX8_holds_20 : decode cX8_holds 20 = .ok (.aload_n 0, 1) := by decide +kernel
theorem dX8_holds_21 : decode cX8_holds 21 = .ok (.aload_n 1, 1) := by decide +kernel
theorem dX8_holds_22 : decode cX8_holds 22 = .ok (.aload_n 0, 1) := by decide +kernel
theorem dX8_holds_23 : decode cX8_holds 23 = .ok (.getfield 21, 3) := by decide +kernel
theorem dX8_holds_26 : decode cX8_holds 26 = .ok (.iconst 1, 1) := by decide +kernel
theorem dX8_holds_27 : decode cX8_holds 27 = .ok (.iadd, 1) := by decide +kernel
theorem dX8_holds_28 : decode cX8_holds 28 = .ok (.invokevirtual 31, 3) := by decide +kernel
theorem dX8_holds_31 : decode cX8_holds 31 = .ok (.istore 5, 2) := by decide +kernel
theorem dX8_holds_33 : decode cX8_holds 33 = .ok (.aload_n 1, 1) := by decide +kernel
theorem dX8_holds_34 : decode cX8_holds 34 = .ok (.aload_n 0, 1) := by decide +kernel
theorem dX8_holds_35 : decode cX8_holds 35 = .ok (.getfield 21, 3) := by decide +kernel
theorem dX8_holds_38 : decode cX8_holds 38 = .ok (.invokevirtual 35, 3) := by decide +kernel
theorem dX8_holds_41 : decode cX8_holds 41 = .ok (.istore 6, 2) := by decide +kernel
theorem dX8_holds_43 : decode cX8_holds 43 = .ok (.aload_n 0, 1) := by decide +kernel
theorem dX8_holds_44 : decode cX8_holds 44 = .ok (.aload_n 1, 1) := by decide +kernel
theorem dX8_holds_45 : decode cX8_holds 45 = .ok (.aload_n 0, 1) := by decide +kernel
theorem dX8_holds_46 : decode cX8_holds 46 = .ok (.getfield 21, 3) := by decide +kernel
theorem dX8_holds_49 : decode cX8_holds 49 = .ok (.iconst 1, 1) := by decide +kernel
theorem dX8_holds_50 : decode cX8_holds 50 = .ok (.iadd, 1) := by decide +kernel
theorem dX8_holds_51 : decode cX8_holds 51 = .ok (.invokevirtual 31, 3) := by decide +kernel
theorem dX8_holds_54 : decode cX8_holds 54 = .ok (.istore 7, 2) := by decide +kernel
theorem dX8_holds_56 : decode cX8_holds 56 = .ok (.iload_n 3, 1) := by decide +kernel
theorem dX8_holds_57 : decode cX8_holds 57 = .ok (.ifCond .eq 19, 3) := by decide +kernel
theorem dX8_holds_60 : decode cX8_holds 60 = .ok (.iload 5, 2) := by decide +kernel
theorem dX8_holds_62 : decode cX8_holds 62 = .ok (.iload 6, 2) := by decide +kernel
theorem dX8_holds_64 : decode cX8_holds 64 = .ok (.iload 7, 2) := by decide +kernel
theorem dX8_holds_66 : decode cX8_holds 66 = .ok (.invokestatic 41, 3) := by decide +kernel
theorem dX8_holds_69 : decode cX8_holds 69 = .ok (.ifCond .eq 7, 3) := by decide +kernel
theorem dX8_holds_72 : decode cX8_holds 72 = .ok (.iconst 1, 1) := by decide +kernel
theorem dX8_holds_73 : decode cX8_holds 73 = .ok (.goto 4, 3) := by decide +kernel
theorem dX8_holds_76 : decode cX8_holds 76 = .ok (.iconst 0, 1) := by decide +kernel
theorem dX8_holds_77 : decode cX8_holds 77 = .ok (.istore_n 3, 1) := by decide +kernel
theorem dX8_holds_78 : decode cX8_holds 78 = .ok (.aload_n 1, 1) := by decide +kernel
theorem dX8_holds_79 : decode cX8_holds 79 = .ok (.aload_n 0, 1) := by decide +kernel
theorem dX8_holds_80 : decode cX8_holds 80 = .ok (.getfield 21, 3) := by decide +kernel
theorem dX8_holds_83 : decode cX8_holds 83 = .ok (.invokevirtual 35, 3) := by decide +kernel
theorem dX8_holds_86 : decode cX8_holds 86 = .ok (.istore 8, 2) := by decide +kernel
theorem dX8_holds_88 : decode cX8_holds 88 = .ok (.iload 8, 2) := by decide +kernel
theorem dX8_holds_90 : decode cX8_holds 90 = .ok (.sipush 10007, 3) := by decide +kernel
theorem dX8_holds_93 : decode cX8_holds 93 = .ok (.if_icmp .eq 19, 3) := by decide +kernel
theorem dX8_holds_96 : decode cX8_holds 96 = .ok (.iload_n 3, 1) := by decide +kernel
theorem dX8_holds_97 : decode cX8_holds 97 = .ok (.ifCond .ne 11, 3) := by decide +kernel
theorem dX8_holds_100 : decode cX8_holds 100 = .ok (.iload 8, 2) := by decide +kernel
theorem dX8_holds_102 : decode cX8_holds 102 = .ok (.sipush 10006, 3) := by decide +kernel
theorem dX8_holds_105 : decode cX8_holds 105 = .ok (.if_icmp .eq 5, 3) := by decide +kernel
theorem dX8_holds_108 : decode cX8_holds 108 = .ok (.iload_n 3, 1) := by decide +kernel
theorem dX8_holds_109 : decode cX8_holds 109 = .ok (.ireturn, 1) := by decide +kernel
theorem dX8_holds_110 : decode cX8_holds 110 = .ok (.iconst 1, 1) := by decide +kernel
theorem dX8_holds_111 : decode cX8_holds 111 = .ok (.istore_n 3, 1) := by decide +kernel
theorem dX8_holds_112 : decode cX8_holds 112 = .ok (.iinc 4 1, 3) := by decide +kernel
theorem dX8_holds_115 : decode cX8_holds 115 = .ok (.goto (-103), 3) := by decide +kernel
theorem dX8_holds_118 : decode cX8_holds 118 = .ok (.iconst 0, 1) := by decide +kernel
theorem dX8_holds_119 : decode cX8_holds 119 = .ok (.ireturn, 1) := by decide +kernel
theorem dX8_valueOf_0 : decode cX8_valueOf 0 = .ok (.iconst 0, 1) := by decide +kernel
theorem dX8_valueOf_1 : decode cX8_valueOf 1 = .ok (.istore_n 3, 1) := by decide +kernel
theorem dX8_valueOf_2 : decode cX8_valueOf 2 = .ok (.aload_n 0, 1) := by decide +kernel
theorem dX8_valueOf_3 : decode cX8_valueOf 3 = .ok (.getfield 15, 3) := by decide +kernel
theorem dX8_valueOf_6 : decode cX8_valueOf 6 = .ok (.iconst 0, 1) := by decide +kernel
theorem dX8_valueOf_7 : decode cX8_valueOf 7 = .ok (.iconst 0, 1) := by decide +kernel
theorem dX8_valueOf_8 : decode cX8_valueOf 8 = .ok (.iastore, 1) := by decide +kernel
theorem dX8_valueOf_9 : decode cX8_valueOf 9 = .ok (.aload_n 0, 1) := by decide +kernel
theorem dX8_valueOf_10 : decode cX8_valueOf 10 = .ok (.getfield 18, 3) := by decide +kernel
theorem dX8_valueOf_13 : decode cX8_valueOf 13 = .ok (.iconst 0, 1) := by decide +kernel
theorem dX8_valueOf_14 : decode cX8_valueOf 14 = .ok (.iconst 1, 1) := by decide +kernel
theorem dX8_valueOf_15 : decode cX8_valueOf 15 = .ok (.iastore, 1) := by decide +kernel
theorem dX8_valueOf_16 : decode cX8_valueOf 16 = .ok (.iconst 0, 1) := by decide +kernel
theorem dX8_valueOf_17 : decode cX8_valueOf 17 = .ok (.iload_n 2, 1) := by decide +kernel
theorem dX8_valueOf_18 : decode cX8_valueOf 18 = .ok (.invokestatic 45, 3) := by decide +kernel
theorem dX8_valueOf_21 : decode cX8_valueOf 21 = .ok (.istore 4, 2) := by decide +kernel
theorem dX8_valueOf_23 : decode cX8_valueOf 23 = .ok (.iload 4, 2) := by decide +kernel
theorem dX8_valueOf_25 : decode cX8_valueOf 25 = .ok (.aload_n 1, 1) := by decide +kernel
theorem dX8_valueOf_26 : decode cX8_valueOf 26 = .ok (.getfield 51, 3) := by decide +kernel
theorem dX8_valueOf_29 : decode cX8_valueOf 29 = .ok (.arraylength, 1) := by decide +kernel
theorem dX8_valueOf_30 : decode cX8_valueOf 30 = .ok (.if_icmp .ge 221, 3) := by decide +kernel
theorem dX8_valueOf_33 : decode cX8_valueOf 33 = .ok (.aload_n 1, 1) := by decide +kernel
theorem dX8_valueOf_34 : decode cX8_valueOf 34 = .ok (.getfield 51, 3) := by decide +kernel
theorem dX8_valueOf_37 : decode cX8_valueOf 37 = .ok (.iload 4, 2) := by decide +kernel
theorem dX8_valueOf_39 : decode cX8_valueOf 39 = .ok (.iaload, 1) := by decide +kernel
theorem dX8_valueOf_40 : decode cX8_valueOf 40 = .ok (.istore 5, 2) := by decide +kernel
theorem dX8_valueOf_42 : decode cX8_valueOf 42 = .ok (.iload 5, 2) := by decide +kernel
theorem dX8_valueOf_44 : decode cX8_valueOf 44 = .ok (.sipush 10000, 3) := by decide +kernel
theorem dX8_valueOf_47 : decode cX8_valueOf 47 = .ok (.if_icmp .ge 17, 3) := by decide +kernel
theorem dX8_valueOf_50 : decode cX8_valueOf 50 = .ok (.aload_n 0, 1) := by decide +kernel
theorem dX8_valueOf_51 : decode cX8_valueOf 51 = .ok (.getfield 18, 3) := by decide +kernel
theorem dX8_valueOf_54 : decode cX8_valueOf 54 = .ok (.iload_n 3, 1) := by decide +kernel
theorem dX8_valueOf_55 : decode cX8_valueOf 55 = .ok (.dup2, 1) := by decide +kernel
theorem dX8_valueOf_56 : decode cX8_valueOf 56 = .ok (.iaload, 1) := by decide +kernel
theorem dX8_valueOf_57 : decode cX8_valueOf 57 = .ok (.iload 5, 2) := by decide +kernel
theorem dX8_valueOf_59 : decode cX8_valueOf 59 = .ok (.imul, 1) := by decide +kernel
theorem dX8_valueOf_60 : decode cX8_valueOf 60 = .ok (.iastore, 1) := by decide +kernel
theorem dX8_valueOf_61 : decode cX8_valueOf 61 = .ok (.goto 184, 3) := by decide +kernel
theorem dX8_valueOf_64 : decode cX8_valueOf 64 = .ok (.iload 5, 2) := by decide +kernel
theorem dX8_valueOf_66 : decode cX8_valueOf 66 = .ok (.sipush 10008, 3) := by decide +kernel
theorem dX8_valueOf_69 : decode cX8_valueOf 69 = .ok (.if_icmp .lt 34, 3) := by decide +kernel
theorem dX8_valueOf_72 : decode cX8_valueOf 72 = .ok (.iload 5, 2) := by decide +kernel
theorem dX8_valueOf_74 : decode cX8_valueOf 74 = .ok (.sipush 10020, 3) := by decide +kernel
theorem dX8_valueOf_77 : decode cX8_valueOf 77 = .ok (.if_icmp .ge 26, 3) := by decide +kernel
theorem dX8_valueOf_80 : decode cX8_valueOf 80 = .ok (.aload_n 0, 1) := by decide +kernel
theorem dX8_valueOf_81 : decode cX8_valueOf 81 = .ok (.getfield 18, 3) := by decide +kernel
theorem dX8_valueOf_84 : decode cX8_valueOf 84 = .ok (.iload_n 3, 1) := by decide +kernel
theorem dX8_valueOf_85 : decode cX8_valueOf 85 = .ok (.dup2, 1) := by decide +kernel
theorem dX8_valueOf_86 : decode cX8_valueOf 86 = .ok (.iaload, 1) := by decide +kernel
theorem dX8_valueOf_87 : decode cX8_valueOf 87 = .ok (.aload_n 0, 1) := by decide +kernel
theorem dX8_valueOf_88 : decode cX8_valueOf 88 = .ok (.getfield 9, 3) := by decide +kernel
theorem dX8_valueOf_91 : decode cX8_valueOf 91 = .ok (.iload 5, 2) := by decide +kernel
theorem dX8_valueOf_93 : decode cX8_valueOf 93 = .ok (.sipush 10008, 3) := by decide +kernel
theorem dX8_valueOf_96 : decode cX8_valueOf 96 = .ok (.isub, 1) := by decide +kernel
theorem dX8_valueOf_97 : decode cX8_valueOf 97 = .ok (.iaload, 1) := by decide +kernel
theorem dX8_valueOf_98 : decode cX8_valueOf 98 = .ok (.imul, 1) := by decide +kernel
theorem dX8_valueOf_99 : decode cX8_valueOf 99 = .ok (.iastore, 1) := by decide +kernel
theorem dX8_valueOf_100 : decode cX8_valueOf 100 = .ok (.goto 145, 3) := by decide +kernel
theorem dX8_valueOf_103 : decode cX8_valueOf 103 = .ok (.iload 5, 2) := by decide +kernel
theorem dX8_valueOf_105 : decode cX8_valueOf 105 = .ok (.sipush 10021, 3) := by decide +kernel
theorem dX8_valueOf_108 : decode cX8_valueOf 108 = .ok (.if_icmp .eq 11, 3) := by decide +kernel
theorem dX8_valueOf_111 : decode cX8_valueOf 111 = .ok (.iload 5, 2) := by decide +kernel
theorem dX8_valueOf_113 : decode cX8_valueOf 113 = .ok (.sipush 10022, 3) := by decide +kernel
theorem dX8_valueOf_116 : decode cX8_valueOf 116 = .ok (.if_icmp .ne 40, 3) := by decide +kernel
theorem dX8_valueOf_119 : decode cX8_valueOf 119 = .ok (.aload_n 0, 1) := by decide +kernel
theorem dX8_valueOf_120 : decode cX8_valueOf 120 = .ok (.getfield 15, 3) := by decide +kernel
theorem dX8_valueOf_123 : decode cX8_valueOf 123 = .ok (.iload_n 3, 1) := by decide +kernel
theorem dX8_valueOf_124 : decode cX8_valueOf 124 = .ok (.dup2, 1) := by decide +kernel
theorem dX8_valueOf_125 : decode cX8_valueOf 125 = .ok (.iaload, 1) := by decide +kernel
theorem dX8_valueOf_126 : decode cX8_valueOf 126 = .ok (.aload_n 0, 1) := by decide +kernel
theorem dX8_valueOf_127 : decode cX8_valueOf 127 = .ok (.getfield 18, 3) := by decide +kernel
theorem dX8_valueOf_130 : decode cX8_valueOf 130 = .ok (.iload_n 3, 1) := by decide +kernel
theorem dX8_valueOf_131 : decode cX8_valueOf 131 = .ok (.iaload, 1) := by decide +kernel
theorem dX8_valueOf_132 : decode cX8_valueOf 132 = .ok (.iadd, 1) := by decide +kernel
theorem dX8_valueOf_133 : decode cX8_valueOf 133 = .ok (.iastore, 1) := by decide +kernel
theorem dX8_valueOf_134 : decode cX8_valueOf 134 = .ok (.aload_n 0, 1) := by decide +kernel
theorem dX8_valueOf_135 : decode cX8_valueOf 135 = .ok (.getfield 18, 3) := by decide +kernel
theorem dX8_valueOf_138 : decode cX8_valueOf 138 = .ok (.iload_n 3, 1) := by decide +kernel
theorem dX8_valueOf_139 : decode cX8_valueOf 139 = .ok (.iload 5, 2) := by decide +kernel
theorem dX8_valueOf_141 : decode cX8_valueOf 141 = .ok (.sipush 10021, 3) := by decide +kernel
theorem dX8_valueOf_144 : decode cX8_valueOf 144 = .ok (.if_icmp .ne 7, 3) := by decide +kernel
theorem dX8_valueOf_147 : decode cX8_valueOf 147 = .ok (.iconst 1, 1) := by decide +kernel
theorem dX8_valueOf_148 : decode cX8_valueOf 148 = .ok (.goto 4, 3) := by decide +kernel
theorem dX8_valueOf_151 : decode cX8_valueOf 151 = .ok (.iconst (-1), 1) := by decide +kernel
theorem dX8_valueOf_152 : decode cX8_valueOf 152 = .ok (.iastore, 1) := by decide +kernel
theorem dX8_valueOf_153 : decode cX8_valueOf 153 = .ok (.goto 92, 3) := by decide +kernel
theorem dX8_valueOf_156 : decode cX8_valueOf 156 = .ok (.iload 5, 2) := by decide +kernel
theorem dX8_valueOf_158 : decode cX8_valueOf 158 = .ok (.sipush 10028, 3) := by decide +kernel
theorem dX8_valueOf_161 : decode cX8_valueOf 161 = .ok (.if_icmp .ne 29, 3) := by decide +kernel
theorem dX8_valueOf_164 : decode cX8_valueOf 164 = .ok (.iload_n 3, 1) := by decide +kernel
theorem dX8_valueOf_165 : decode cX8_valueOf 165 = .ok (.bipush 6, 2) := by decide +kernel
theorem dX8_valueOf_167 : decode cX8_valueOf 167 = .ok (.if_icmp .ge 23, 3) := by decide +kernel
theorem dX8_valueOf_170 : decode cX8_valueOf 170 = .ok (.iinc 3 1, 3) := by decide +kernel
theorem dX8_valueOf_173 : decode cX8_valueOf 173 = .ok (.aload_n 0, 1) := by decide +kernel
theorem dX8_valueOf_174 : decode cX8_valueOf 174 = .ok (.getfield 15, 3) := by decide +kernel
theorem dX8_valueOf_177 : decode cX8_valueOf 177 = .ok (.iload_n 3, 1) := by decide +kernel
theorem dX8_valueOf_178 : decode cX8_valueOf 178 = .ok (.iconst 0, 1) := by decide +kernel
theorem dX8_valueOf_179 : decode cX8_valueOf 179 = .ok (.iastore, 1) := by decide +kernel
theorem dX8_valueOf_180 : decode cX8_valueOf 180 = .ok (.aload_n 0, 1) := by decide +kernel
theorem dX8_valueOf_181 : decode cX8_valueOf 181 = .ok (.getfield 18, 3) := by decide +kernel
theorem dX8_valueOf_184 : decode cX8_valueOf 184 = .ok (.iload_n 3, 1) := by decide +kernel
theorem dX8_valueOf_185 : decode cX8_valueOf 185 = .ok (.iconst 1, 1) := by decide +kernel
theorem dX8_valueOf_186 : decode cX8_valueOf 186 = .ok (.iastore, 1) := by decide +kernel
theorem dX8_valueOf_187 : decode cX8_valueOf 187 = .ok (.goto 58, 3) := by decide +kernel
theorem dX8_valueOf_190 : decode cX8_valueOf 190 = .ok (.iload 5, 2) := by decide +kernel
theorem dX8_valueOf_192 : decode cX8_valueOf 192 = .ok (.sipush 10029, 3) := by decide +kernel
theorem dX8_valueOf_195 : decode cX8_valueOf 195 = .ok (.if_icmp .ne 39, 3) := by decide +kernel
theorem dX8_valueOf_198 : decode cX8_valueOf 198 = .ok (.iload_n 3, 1) := by decide +kernel
theorem dX8_valueOf_199 : decode cX8_valueOf 199 = .ok (.ifCond .le 35, 3) := by decide +kernel
theorem dX8_valueOf_202 : decode cX8_valueOf 202 = .ok (.iinc 3 (-1), 3) := by decide +kernel
theorem dX8_valueOf_205 : decode cX8_valueOf 205 = .ok (.aload_n 0, 1) := by decide +kernel
theorem dX8_valueOf_206 : decode cX8_valueOf 206 = .ok (.getfield 18, 3) := by decide +kernel
theorem dX8_valueOf_209 : decode cX8_valueOf 209 = .ok (.iload_n 3, 1) := by decide +kernel
theorem dX8_valueOf_210 : decode cX8_valueOf 210 = .ok (.dup2, 1) := by decide +kernel
theorem dX8_valueOf_211 : decode cX8_valueOf 211 = .ok (.iaload, 1) := by decide +kernel
theorem dX8_valueOf_212 : decode cX8_valueOf 212 = .ok (.aload_n 0, 1) := by decide +kernel
theorem dX8_valueOf_213 : decode cX8_valueOf 213 = .ok (.getfield 15, 3) := by decide +kernel
theorem dX8_valueOf_216 : decode cX8_valueOf 216 = .ok (.iload_n 3, 1) := by decide +kernel
theorem dX8_valueOf_217 : decode cX8_valueOf 217 = .ok (.iconst 1, 1) := by decide +kernel
theorem dX8_valueOf_218 : decode cX8_valueOf 218 = .ok (.iadd, 1) := by decide +kernel
theorem dX8_valueOf_219 : decode cX8_valueOf 219 = .ok (.iaload, 1) := by decide +kernel
theorem dX8_valueOf_220 : decode cX8_valueOf 220 = .ok (.aload_n 0, 1) := by decide +kernel
theorem dX8_valueOf_221 : decode cX8_valueOf 221 = .ok (.getfield 18, 3) := by decide +kernel
theorem dX8_valueOf_224 : decode cX8_valueOf 224 = .ok (.iload_n 3, 1) := by decide +kernel
theorem dX8_valueOf_225 : decode cX8_valueOf 225 = .ok (.iconst 1, 1) := by decide +kernel
theorem dX8_valueOf_226 : decode cX8_valueOf 226 = .ok (.iadd, 1) := by decide +kernel
theorem dX8_valueOf_227 : decode cX8_valueOf 227 = .ok (.iaload, 1) := by decide +kernel
theorem dX8_valueOf_228 : decode cX8_valueOf 228 = .ok (.iadd, 1) := by decide +kernel
theorem dX8_valueOf_229 : decode cX8_valueOf 229 = .ok (.imul, 1) := by decide +kernel
theorem dX8_valueOf_230 : decode cX8_valueOf 230 = .ok (.iastore, 1) := by decide +kernel
theorem dX8_valueOf_231 : decode cX8_valueOf 231 = .ok (.goto 14, 3) := by decide +kernel
theorem dX8_valueOf_234 : decode cX8_valueOf 234 = .ok (.iload 5, 2) := by decide +kernel
theorem dX8_valueOf_236 : decode cX8_valueOf 236 = .ok (.sipush 10023, 3) := by decide +kernel
theorem dX8_valueOf_239 : decode cX8_valueOf 239 = .ok (.if_icmp .eq 6, 3) := by decide +kernel
theorem dX8_valueOf_242 : decode cX8_valueOf 242 = .ok (.goto 9, 3) := by decide +kernel
theorem dX8_valueOf_245 : decode cX8_valueOf 245 = .ok (.iinc 4 1, 3) := by decide +kernel
theorem dX8_valueOf_248 : decode cX8_valueOf 248 = .ok (.goto (-225), 3) := by decide +kernel
theorem dX8_valueOf_251 : decode cX8_valueOf 251 = .ok (.aload_n 0, 1) := by decide +kernel
theorem dX8_valueOf_252 : decode cX8_valueOf 252 = .ok (.iload 4, 2) := by decide +kernel
theorem dX8_valueOf_254 : decode cX8_valueOf 254 = .ok (.putfield 21, 3) := by decide +kernel
theorem dX8_valueOf_257 : decode cX8_valueOf 257 = .ok (.aload_n 0, 1) := by decide +kernel
theorem dX8_valueOf_258 : decode cX8_valueOf 258 = .ok (.getfield 15, 3) := by decide +kernel
theorem dX8_valueOf_261 : decode cX8_valueOf 261 = .ok (.iconst 0, 1) := by decide +kernel
theorem dX8_valueOf_262 : decode cX8_valueOf 262 = .ok (.iaload, 1) := by decide +kernel
theorem dX8_valueOf_263 : decode cX8_valueOf 263 = .ok (.aload_n 0, 1) := by decide +kernel
theorem dX8_valueOf_264 : decode cX8_valueOf 264 = .ok (.getfield 18, 3) := by decide +kernel
theorem dX8_valueOf_267 : decode cX8_valueOf 267 = .ok (.iconst 0, 1) := by decide +kernel
theorem dX8_valueOf_268 : decode cX8_valueOf 268 = .ok (.iaload, 1) := by decide +kernel
theorem dX8_valueOf_269 : decode cX8_valueOf 269 = .ok (.iadd, 1) := by decide +kernel
theorem dX8_valueOf_270 : decode cX8_valueOf 270 = .ok (.ireturn, 1) := by decide +kernel
theorem dX8_compares_0 : decode cX8_compares 0 = .ok (.iload_n 1, 1) := by decide +kernel
theorem dX8_compares_1 : decode cX8_compares 1 = .ok (.tableswitch 75 10024 10027 #[31, 42, 53, 64], 31) := by decide +kernel
theorem dX8_compares_32 : decode cX8_compares 32 = .ok (.iload_n 0, 1) := by decide +kernel
theorem dX8_compares_33 : decode cX8_compares 33 = .ok (.iload_n 2, 1) := by decide +kernel
theorem dX8_compares_34 : decode cX8_compares 34 = .ok (.if_icmp .ne 7, 3) := by decide +kernel
theorem dX8_compares_37 : decode cX8_compares 37 = .ok (.iconst 1, 1) := by decide +kernel
theorem dX8_compares_38 : decode cX8_compares 38 = .ok (.goto 4, 3) := by decide +kernel
theorem dX8_compares_41 : decode cX8_compares 41 = .ok (.iconst 0, 1) := by decide +kernel
theorem dX8_compares_42 : decode cX8_compares 42 = .ok (.ireturn, 1) := by decide +kernel
theorem dX8_compares_43 : decode cX8_compares 43 = .ok (.iload_n 0, 1) := by decide +kernel
theorem dX8_compares_44 : decode cX8_compares 44 = .ok (.iload_n 2, 1) := by decide +kernel
theorem dX8_compares_45 : decode cX8_compares 45 = .ok (.if_icmp .eq 7, 3) := by decide +kernel
theorem dX8_compares_48 : decode cX8_compares 48 = .ok (.iconst 1, 1) := by decide +kernel
theorem dX8_compares_49 : decode cX8_compares 49 = .ok (.goto 4, 3) := by decide +kernel
theorem dX8_compares_52 : decode cX8_compares 52 = .ok (.iconst 0, 1) := by decide +kernel
theorem dX8_compares_53 : decode cX8_compares 53 = .ok (.ireturn, 1) := by decide +kernel
theorem dX8_compares_54 : decode cX8_compares 54 = .ok (.iload_n 0, 1) := by decide +kernel
theorem dX8_compares_55 : decode cX8_compares 55 = .ok (.iload_n 2, 1) := by decide +kernel
theorem dX8_compares_56 : decode cX8_compares 56 = .ok (.if_icmp .ge 7, 3) := by decide +kernel
theorem dX8_compares_59 : decode cX8_compares 59 = .ok (.iconst 1, 1) := by decide +kernel
theorem dX8_compares_60 : decode cX8_compares 60 = .ok (.goto 4, 3) := by decide +kernel
theorem dX8_compares_63 : decode cX8_compares 63 = .ok (.iconst 0, 1) := by decide +kernel
theorem dX8_compares_64 : decode cX8_compares 64 = .ok (.ireturn, 1) := by decide +kernel
theorem dX8_compares_65 : decode cX8_compares 65 = .ok (.iload_n 0, 1) := by decide +kernel
theorem dX8_compares_66 : decode cX8_compares 66 = .ok (.iload_n 2, 1) := by decide +kernel
theorem dX8_compares_67 : decode cX8_compares 67 = .ok (.if_icmp .gt 7, 3) := by decide +kernel
theorem dX8_compares_70 : decode cX8_compares 70 = .ok (.iconst 1, 1) := by decide +kernel
theorem dX8_compares_71 : decode cX8_compares 71 = .ok (.goto 4, 3) := by decide +kernel
theorem dX8_compares_74 : decode cX8_compares 74 = .ok (.iconst 0, 1) := by decide +kernel
theorem dX8_compares_75 : decode cX8_compares 75 = .ok (.ireturn, 1) := by decide +kernel
theorem dX8_compares_76 : decode cX8_compares 76 = .ok (.iconst 0, 1) := by decide +kernel
theorem dX8_compares_77 : decode cX8_compares 77 = .ok (.ireturn, 1) := by decide +kernel
