theorem dX4_init_0 : decode cX4_init 0 = .ok (.aload_n 0, 1) := by decide +kernel
theorem dX4_init_1 : decode cX4_init 1 = .ok (.invokespecial 3, 3) := by decide +kernel
theorem dX4_init_4 : decode cX4_init 4 = .ok (.aload_n 0, 1) := by decide +kernel
theorem dX4_init_5 : decode cX4_init 5 = .ok (.new 9, 3) := by decide +kernel
theorem dX4_init_8 : decode cX4_init 8 = .ok (.dup, 1) := by decide +kernel
theorem dX4_init_9 : decode cX4_init 9 = .ok (.invokespecial 11, 3) := by decide +kernel
theorem dX4_init_12 : decode cX4_init 12 = .ok (.putfield 12, 3) := by decide +kernel
theorem dX4_init_15 : decode cX4_init 15 = .ok (.aload_n 0, 1) := by decide +kernel
theorem dX4_init_16 : decode cX4_init 16 = .ok (.bipush 32, 2) := by decide +kernel
theorem dX4_init_18 : decode cX4_init 18 = .ok (.newarray .int, 2) := by decide +kernel
theorem dX4_init_20 : decode cX4_init 20 = .ok (.putfield 18, 3) := by decide +kernel
theorem dX4_init_23 : decode cX4_init 23 = .ok (.aload_n 0, 1) := by decide +kernel
theorem dX4_init_24 : decode cX4_init 24 = .ok (.bipush 10, 2) := by decide +kernel
theorem dX4_init_26 : decode cX4_init 26 = .ok (.newarray .int, 2) := by decide +kernel
theorem dX4_init_28 : decode cX4_init 28 = .ok (.putfield 22, 3) := by decide +kernel
theorem dX4_init_31 : decode cX4_init 31 = .ok (.aload_n 0, 1) := by decide +kernel
theorem dX4_init_32 : decode cX4_init 32 = .ok (.bipush 10, 2) := by decide +kernel
theorem dX4_init_34 : decode cX4_init 34 = .ok (.newarray .int, 2) := by decide +kernel
theorem dX4_init_36 : decode cX4_init 36 = .ok (.putfield 25, 3) := by decide +kernel
theorem dX4_init_39 : decode cX4_init 39 = .ok (.aload_n 0, 1) := by decide +kernel
theorem dX4_init_40 : decode cX4_init 40 = .ok (.bipush 10, 2) := by decide +kernel
theorem dX4_init_42 : decode cX4_init 42 = .ok (.newarray .int, 2) := by decide +kernel
theorem dX4_init_44 : decode cX4_init 44 = .ok (.putfield 28, 3) := by decide +kernel
theorem dX4_init_47 : decode cX4_init 47 = .ok (.aload_n 0, 1) := by decide +kernel
theorem dX4_init_48 : decode cX4_init 48 = .ok (.bipush 10, 2) := by decide +kernel
theorem dX4_init_50 : decode cX4_init 50 = .ok (.newarray .int, 2) := by decide +kernel
theorem dX4_init_52 : decode cX4_init 52 = .ok (.putfield 31, 3) := by decide +kernel
theorem dX4_init_55 : decode cX4_init 55 = .ok (.aload_n 0, 1) := by decide +kernel
theorem dX4_init_56 : decode cX4_init 56 = .ok (.bipush 10, 2) := by decide +kernel
theorem dX4_init_58 : decode cX4_init 58 = .ok (.newarray .int, 2) := by decide +kernel
theorem dX4_init_60 : decode cX4_init 60 = .ok (.putfield 34, 3) := by decide +kernel
theorem dX4_init_63 : decode cX4_init 63 = .ok (.aload_n 0, 1) := by decide +kernel
theorem dX4_init_64 : decode cX4_init 64 = .ok (.bipush 10, 2) := by decide +kernel
theorem dX4_init_66 : decode cX4_init 66 = .ok (.newarray .int, 2) := by decide +kernel
theorem dX4_init_68 : decode cX4_init 68 = .ok (.putfield 37, 3) := by decide +kernel
theorem dX4_init_71 : decode cX4_init 71 = .ok (.aload_n 0, 1) := by decide +kernel
theorem dX4_init_72 : decode cX4_init 72 = .ok (.bipush 10, 2) := by decide +kernel
theorem dX4_init_74 : decode cX4_init 74 = .ok (.newarray .int, 2) := by decide +kernel
theorem dX4_init_76 : decode cX4_init 76 = .ok (.putfield 40, 3) := by decide +kernel
theorem dX4_init_79 : decode cX4_init 79 = .ok (.aload_n 0, 1) := by decide +kernel
theorem dX4_init_80 : decode cX4_init 80 = .ok (.bipush 10, 2) := by decide +kernel
theorem dX4_init_82 : decode cX4_init 82 = .ok (.newarray .int, 2) := by decide +kernel
theorem dX4_init_84 : decode cX4_init 84 = .ok (.putfield 43, 3) := by decide +kernel
theorem dX4_init_87 : decode cX4_init 87 = .ok (.aload_n 0, 1) := by decide +kernel
theorem dX4_init_88 : decode cX4_init 88 = .ok (.bipush 10, 2) := by decide +kernel
theorem dX4_init_90 : decode cX4_init 90 = .ok (.newarray .int, 2) := by decide +kernel
theorem dX4_init_92 : decode cX4_init 92 = .ok (.putfield 46, 3) := by decide +kernel
theorem dX4_init_95 : decode cX4_init 95 = .ok (.aload_n 0, 1) := by decide +kernel
theorem dX4_init_96 : decode cX4_init 96 = .ok (.aload_n 1, 1) := by decide +kernel
theorem dX4_init_97 : decode cX4_init 97 = .ok (.putfield 49, 3) := by decide +kernel
theorem dX4_init_100 : decode cX4_init 100 = .ok (.aload_n 0, 1) := by decide +kernel
theorem dX4_init_101 : decode cX4_init 101 = .ok (.aload_n 2, 1) := by decide +kernel
theorem dX4_init_102 : decode cX4_init 102 = .ok (.putfield 53, 3) := by decide +kernel
theorem dX4_init_105 : decode cX4_init 105 = .ok (.aload_n 0, 1) := by decide +kernel
theorem dX4_init_106 : decode cX4_init 106 = .ok (.aload_n 3, 1) := by decide +kernel
theorem dX4_init_107 : decode cX4_init 107 = .ok (.putfield 57, 3) := by decide +kernel
theorem dX4_init_110 : decode cX4_init 110 = .ok (.aload_n 0, 1) := by decide +kernel
theorem dX4_init_111 : decode cX4_init 111 = .ok (.aload 4, 2) := by decide +kernel
theorem dX4_init_113 : decode cX4_init 113 = .ok (.putfield 61, 3) := by decide +kernel
theorem dX4_init_116 : decode cX4_init 116 = .ok (.return_, 1) := by decide +kernel
theorem dX4_hear_0 : decode cX4_hear 0 = .ok (.aload_n 0, 1) := by decide +kernel
theorem dX4_hear_1 : decode cX4_hear 1 = .ok (.getfield 61, 3) := by decide +kernel
theorem dX4_hear_4 : decode cX4_hear 4 = .ok (.iload_n 1, 1) := by decide +kernel
theorem dX4_hear_5 : decode cX4_hear 5 = .ok (.invokevirtual 65, 3) := by decide +kernel
theorem dX4_hear_8 : decode cX4_hear 8 = .ok (.iconst 0, 1) := by decide +kernel
theorem dX4_hear_9 : decode cX4_hear 9 = .ok (.istore_n 2, 1) := by decide +kernel
theorem dX4_hear_10 : decode cX4_hear 10 = .ok (.iload_n 2, 1) := by decide +kernel
theorem dX4_hear_11 : decode cX4_hear 11 = .ok (.aload_n 0, 1) := by decide +kernel
theorem dX4_hear_12 : decode cX4_hear 12 = .ok (.getfield 57, 3) := by decide +kernel
theorem dX4_hear_15 : decode cX4_hear 15 = .ok (.getfield 71, 3) := by decide +kernel
theorem dX4_hear_18 : decode cX4_hear 18 = .ok (.if_icmp .ge 14, 3) := by decide +kernel
theorem dX4_hear_21 : decode cX4_hear 21 = .ok (.aload_n 0, 1) := by decide +kernel
theorem dX4_hear_22 : decode cX4_hear 22 = .ok (.iload_n 2, 1) := by decide +kernel
theorem dX4_hear_23 : decode cX4_hear 23 = .ok (.invokevirtual 77, 3) := by decide +kernel
theorem dX4_hear_26 : decode cX4_hear 26 = .ok (.iinc 2 1, 3) := by decide +kernel
theorem dX4_hear_29 : decode cX4_hear 29 = .ok (.goto (-19), 3) := by decide +kernel
theorem dX4_hear_32 : decode cX4_hear 32 = .ok (.iconst 0, 1) := by decide +kernel
theorem dX4_hear_33 : decode cX4_hear 33 = .ok (.istore_n 2, 1) := by decide +kernel
theorem dX4_hear_34 : decode cX4_hear 34 = .ok (.iload_n 2, 1) := by decide +kernel
theorem dX4_hear_35 : decode cX4_hear 35 = .ok (.aload_n 0, 1) := by decide +kernel
theorem dX4_hear_36 : decode cX4_hear 36 = .ok (.getfield 57, 3) := by decide +kernel
theorem dX4_hear_39 : decode cX4_hear 39 = .ok (.getfield 71, 3) := by decide +kernel
theorem dX4_hear_42 : decode cX4_hear 42 = .ok (.if_icmp .ge 25, 3) := by decide +kernel
theorem dX4_hear_45 : decode cX4_hear 45 = .ok (.aload_n 0, 1) := by decide +kernel
theorem dX4_hear_46 : decode cX4_hear 46 = .ok (.invokevirtual 80, 3) := by decide +kernel
theorem dX4_hear_49 : decode cX4_hear 49 = .ok (.istore_n 3, 1) := by decide +kernel
theorem dX4_hear_50 : decode cX4_hear 50 = .ok (.iload_n 3, 1) := by decide +kernel
theorem dX4_hear_51 : decode cX4_hear 51 = .ok (.iconst (-1), 1) := by decide +kernel
theorem dX4_hear_52 : decode cX4_hear 52 = .ok (.if_icmp .ne 4, 3) := by decide +kernel
theorem dX4_hear_55 : decode cX4_hear 55 = .ok (.return_, 1) := by decide +kernel
theorem dX4_hear_56 : decode cX4_hear 56 = .ok (.aload_n 0, 1) := by decide +kernel
theorem dX4_hear_57 : decode cX4_hear 57 = .ok (.iload_n 3, 1) := by decide +kernel
theorem dX4_hear_58 : decode cX4_hear 58 = .ok (.invokevirtual 84, 3) := by decide +kernel
theorem dX4_hear_61 : decode cX4_hear 61 = .ok (.iinc 2 1, 3) := by decide +kernel
theorem dX4_hear_64 : decode cX4_hear 64 = .ok (.goto (-30), 3) := by decide +kernel
theorem dX4_hear_67 : decode cX4_hear 67 = .ok (.return_, 1) := by decide +kernel
theorem dX4_stateOn_0 : decode cX4_stateOn 0 = .ok (.aload_n 0, 1) := by decide +kernel
theorem dX4_stateOn_1 : decode cX4_stateOn 1 = .ok (.getfield 28, 3) := by decide +kernel
theorem dX4_stateOn_4 : decode cX4_stateOn 4 = .ok (.iload_n 1, 1) := by decide +kernel
theorem dX4_stateOn_5 : decode cX4_stateOn 5 = .ok (.iaload, 1) := by decide +kernel
theorem dX4_stateOn_6 : decode cX4_stateOn 6 = .ok (.ifCond .ne 5, 3) := by decide +kernel
theorem dX4_stateOn_9 : decode cX4_stateOn 9 = .ok (.iconst 0, 1) := by decide +kernel
theorem dX4_stateOn_10 : decode cX4_stateOn 10 = .ok (.ireturn, 1) := by decide +kernel
theorem dX4_stateOn_11 : decode cX4_stateOn 11 = .ok (.iload_n 2, 1) := by decide +kernel
theorem dX4_stateOn_12 : decode cX4_stateOn 12 = .ok (.aload_n 0, 1) := by decide +kernel
theorem dX4_stateOn_13 : decode cX4_stateOn 13 = .ok (.getfield 25, 3) := by decide +kernel
theorem dX4_stateOn_16 : decode cX4_stateOn 16 = .ok (.iload_n 1, 1) := by decide +kernel
theorem dX4_stateOn_17 : decode cX4_stateOn 17 = .ok (.iaload, 1) := by decide +kernel
theorem dX4_stateOn_18 : decode cX4_stateOn 18 = .ok (.if_icmp .ge 22, 3) := by decide +kernel
theorem dX4_stateOn_21 : decode cX4_stateOn 21 = .ok (.aload_n 0, 1) := by decide +kernel
theorem dX4_stateOn_22 : decode cX4_stateOn 22 = .ok (.getfield 57, 3) := by decide +kernel
theorem dX4_stateOn_25 : decode cX4_stateOn 25 = .ok (.getfield 87, 3) := by decide +kernel
theorem dX4_stateOn_28 : decode cX4_stateOn 28 = .ok (.iload_n 1, 1) := by decide +kernel
theorem dX4_stateOn_29 : decode cX4_stateOn 29 = .ok (.iaload, 1) := by decide +kernel
theorem dX4_stateOn_30 : decode cX4_stateOn 30 = .ok (.iconst (-1), 1) := by decide +kernel
theorem dX4_stateOn_31 : decode cX4_stateOn 31 = .ok (.if_icmp .ne 7, 3) := by decide +kernel
theorem dX4_stateOn_34 : decode cX4_stateOn 34 = .ok (.iconst 1, 1) := by decide +kernel
theorem dX4_stateOn_35 : decode cX4_stateOn 35 = .ok (.goto 4, 3) := by decide +kernel
theorem dX4_stateOn_38 : decode cX4_stateOn 38 = .ok (.iconst 2, 1) := by decide +kernel
theorem dX4_stateOn_39 : decode cX4_stateOn 39 = .ok (.ireturn, 1) := by decide +kernel
theorem dX4_stateOn_40 : decode cX4_stateOn 40 = .ok (.aload_n 0, 1) := by decide +kernel
theorem dX4_stateOn_41 : decode cX4_stateOn 41 = .ok (.getfield 28, 3) := by decide +kernel
theorem dX4_stateOn_44 : decode cX4_stateOn 44 = .ok (.iload_n 1, 1) := by decide +kernel
theorem dX4_stateOn_45 : decode cX4_stateOn 45 = .ok (.iaload, 1) := by decide +kernel
theorem dX4_stateOn_46 : decode cX4_stateOn 46 = .ok (.bipush 6, 2) := by decide +kernel
theorem dX4_stateOn_48 : decode cX4_stateOn 48 = .ok (.if_icmp .ne 20, 3) := by decide +kernel
theorem dX4_stateOn_51 : decode cX4_stateOn 51 = .ok (.aload_n 0, 1) := by decide +kernel
theorem dX4_stateOn_52 : decode cX4_stateOn 52 = .ok (.getfield 37, 3) := by decide +kernel
theorem dX4_stateOn_55 : decode cX4_stateOn 55 = .ok (.iload_n 1, 1) := by decide +kernel
theorem dX4_stateOn_56 : decode cX4_stateOn 56 = .ok (.iaload, 1) := by decide +kernel
theorem dX4_stateOn_57 : decode cX4_stateOn 57 = .ok (.iload_n 2, 1) := by decide +kernel
theorem dX4_stateOn_58 : decode cX4_stateOn 58 = .ok (.if_icmp .gt 10, 3) := by decide +kernel
theorem dX4_stateOn_61 : decode cX4_stateOn 61 = .ok (.aload_n 0, 1) := by decide +kernel
theorem dX4_stateOn_62 : decode cX4_stateOn 62 = .ok (.getfield 40, 3) := by decide +kernel
theorem dX4_stateOn_65 : decode cX4_stateOn 65 = .ok (.iload_n 1, 1) := by decide +kernel
theorem dX4_stateOn_66 : decode cX4_stateOn 66 = .ok (.iaload, 1) := by decide +kernel
theorem dX4_stateOn_67 : decode cX4_stateOn 67 = .ok (.ireturn, 1) := by decide +kernel
theorem dX4_stateOn_68 : decode cX4_stateOn 68 = .ok (.aload_n 0, 1) := by decide +kernel
theorem dX4_stateOn_69 : decode cX4_stateOn 69 = .ok (.getfield 28, 3) := by decide +kernel
theorem dX4_stateOn_72 : decode cX4_stateOn 72 = .ok (.iload_n 1, 1) := by decide +kernel
theorem dX4_stateOn_73 : decode cX4_stateOn 73 = .ok (.iaload, 1) := by decide +kernel
theorem dX4_stateOn_74 : decode cX4_stateOn 74 = .ok (.ireturn, 1) := by decide +kernel
theorem dX4_wasInForce_0 : decode cX4_wasInForce 0 = .ok (.aload_n 0, 1) := by decide +kernel
theorem dX4_wasInForce_1 : decode cX4_wasInForce 1 = .ok (.getfield 28, 3) := by decide +kernel
theorem dX4_wasInForce_4 : decode cX4_wasInForce 4 = .ok (.iload_n 1, 1) := by decide +kernel
theorem dX4_wasInForce_5 : decode cX4_wasInForce 5 = .ok (.iaload, 1) := by decide +kernel
theorem dX4_wasInForce_6 : decode cX4_wasInForce 6 = .ok (.bipush 6, 2) := by decide +kernel
theorem dX4_wasInForce_8 : decode cX4_wasInForce 8 = .ok (.if_icmp .ne 22, 3) := by decide +kernel
theorem dX4_wasInForce_11 : decode cX4_wasInForce 11 = .ok (.aload_n 0, 1) := by decide +kernel
theorem dX4_wasInForce_12 : decode cX4_wasInForce 12 = .ok (.getfield 37, 3) := by decide +kernel
theorem dX4_wasInForce_15 : decode cX4_wasInForce 15 = .ok (.iload_n 1, 1) := by decide +kernel
theorem dX4_wasInForce_16 : decode cX4_wasInForce 16 = .ok (.iaload, 1) := by decide +kernel
theorem dX4_wasInForce_17 : decode cX4_wasInForce 17 = .ok (.aload_n 0, 1) := by decide +kernel
theorem dX4_wasInForce_18 : decode cX4_wasInForce 18 = .ok (.getfield 25, 3) := by decide +kernel
theorem dX4_wasInForce_21 : decode cX4_wasInForce 21 = .ok (.iload_n 1, 1) := by decide +kernel
theorem dX4_wasInForce_22 : decode cX4_wasInForce 22 = .ok (.iaload, 1) := by decide +kernel
theorem dX4_wasInForce_23 : decode cX4_wasInForce 23 = .ok (.if_icmp .le 7, 3) := by decide +kernel
theorem dX4_wasInForce_26 : decode cX4_wasInForce 26 = .ok (.iconst 1, 1) := by decide +kernel
theorem dX4_wasInForce_27 : decode cX4_wasInForce 27 = .ok (.goto 4, 3) := by decide +kernel
theorem dX4_wasInForce_30 : decode cX4_wasInForce 30 = .ok (.iconst 0, 1) := by decide +kernel
theorem dX4_wasInForce_31 : decode cX4_wasInForce 31 = .ok (.ireturn, 1) := by decide +kernel
theorem dX4_shareBack_0 : decode cX4_shareBack 0 = .ok (.aload_n 0, 1) := by decide +kernel
theorem dX4_shareBack_1 : decode cX4_shareBack 1 = .ok (.iload_n 1, 1) := by decide +kernel
theorem dX4_shareBack_2 : decode cX4_shareBack 2 = .ok (.iload_n 3, 1) := by decide +kernel
theorem dX4_shareBack_3 : decode cX4_shareBack 3 = .ok (.invokevirtual 90, 3) := by decide +kernel
theorem dX4_shareBack_6 : decode cX4_shareBack 6 = .ok (.istore 4, 2) := by decide +kernel
theorem dX4_shareBack_8 : decode cX4_shareBack 8 = .ok (.iload 4, 2) := by decide +kernel
theorem dX4_shareBack_10 : decode cX4_shareBack 10 = .ok (.iconst 3, 1) := by decide +kernel
theorem dX4_shareBack_11 : decode cX4_shareBack 11 = .ok (.if_icmp .lt 10, 3) := by decide +kernel
theorem dX4_shareBack_14 : decode cX4_shareBack 14 = .ok (.iload 4, 2) := by decide +kernel
theorem dX4_shareBack_16 : decode cX4_shareBack 16 = .ok (.bipush 6, 2) := by decide +kernel
theorem dX4_shareBack_18 : decode cX4_shareBack 18 = .ok (.if_icmp .ne 5, 3) := by decide +kernel
theorem dX4_shareBack_21 : decode cX4_shareBack 21 = .ok (.iconst 0, 1) := by decide +kernel
theorem dX4_shareBack_22 : decode cX4_shareBack 22 = .ok (.ireturn, 1) := by decide +kernel
theorem dX4_shareBack_23 : decode cX4_shareBack 23 = .ok (.aload_n 0, 1) := by decide +kernel
theorem dX4_shareBack_24 : decode cX4_shareBack 24 = .ok (.getfield 12, 3) := by decide +kernel
theorem dX4_shareBack_27 : decode cX4_shareBack 27 = .ok (.invokevirtual 94, 3) := by decide +kernel
theorem dX4_shareBack_30 : decode cX4_shareBack 30 = .ok (.aload_n 0, 1) := by decide +kernel
theorem dX4_shareBack_31 : decode cX4_shareBack 31 = .ok (.getfield 12, 3) := by decide +kernel
theorem dX4_shareBack_34 : decode cX4_shareBack 34 = .ok (.getfield 97, 3) := by decide +kernel
theorem dX4_shareBack_37 : decode cX4_shareBack 37 = .ok (.bipush 10, 2) := by decide +kernel
theorem dX4_shareBack_39 : decode cX4_shareBack 39 = .ok (.iload 4, 2) := by decide +kernel
theorem dX4_shareBack_41 : decode cX4_shareBack 41 = .ok (.bipush 9, 2) := by decide +kernel
theorem dX4_shareBack_43 : decode cX4_shareBack 43 = .ok (.if_icmp .ne 12, 3) := by decide +kernel
theorem dX4_shareBack_46 : decode cX4_shareBack 46 = .ok (.aload_n 0, 1) := by decide +kernel
theorem dX4_shareBack_47 : decode cX4_shareBack 47 = .ok (.iload_n 1, 1) := by decide +kernel
theorem dX4_shareBack_48 : decode cX4_shareBack 48 = .ok (.iload_n 2, 1) := by decide +kernel
theorem dX4_shareBack_49 : decode cX4_shareBack 49 = .ok (.invokevirtual 100, 3) := by decide +kernel
theorem dX4_shareBack_52 : decode cX4_shareBack 52 = .ok (.goto 5, 3) := by decide +kernel
theorem dX4_shareBack_55 : decode cX4_shareBack 55 = .ok (.iload 4, 2) := by decide +kernel
theorem dX4_shareBack_57 : decode cX4_shareBack 57 = .ok (.iastore, 1) := by decide +kernel
theorem dX4_shareBack_58 : decode cX4_shareBack 58 = .ok (.aload_n 0, 1) := by decide +kernel
theorem dX4_shareBack_59 : decode cX4_shareBack 59 = .ok (.getfield 12, 3) := by decide +kernel
theorem dX4_shareBack_62 : decode cX4_shareBack 62 = .ok (.getfield 97, 3) := by decide +kernel
theorem dX4_shareBack_65 : decode cX4_shareBack 65 = .ok (.iconst 4, 1) := by decide +kernel
theorem dX4_shareBack_66 : decode cX4_shareBack 66 = .ok (.aload_n 0, 1) := by decide +kernel
theorem dX4_shareBack_67 : decode cX4_shareBack 67 = .ok (.getfield 57, 3) := by decide +kernel
theorem dX4_shareBack_70 : decode cX4_shareBack 70 = .ok (.getfield 103, 3) := by decide +kernel
theorem dX4_shareBack_73 : decode cX4_shareBack 73 = .ok (.iload_n 1, 1) := by decide +kernel
theorem dX4_shareBack_74 : decode cX4_shareBack 74 = .ok (.iaload, 1) := by decide +kernel
theorem dX4_shareBack_75 : decode cX4_shareBack 75 = .ok (.iastore, 1) := by decide +kernel
theorem dX4_shareBack_76 : decode cX4_shareBack 76 = .ok (.aload_n 0, 1) := by decide +kernel
theorem dX4_shareBack_77 : decode cX4_shareBack 77 = .ok (.getfield 12, 3) := by decide +kernel
theorem dX4_shareBack_80 : decode cX4_shareBack 80 = .ok (.getfield 97, 3) := by decide +kernel
theorem dX4_shareBack_83 : decode cX4_shareBack 83 = .ok (.bipush 11, 2) := by decide +kernel
theorem dX4_shareBack_85 : decode cX4_shareBack 85 = .ok (.iload 4, 2) := by decide +kernel
theorem dX4_shareBack_87 : decode cX4_shareBack 87 = .ok (.bipush 6, 2) := by decide +kernel
theorem dX4_shareBack_89 : decode cX4_shareBack 89 = .ok (.if_icmp .le 19, 3) := by decide +kernel
theorem dX4_shareBack_92 : decode cX4_shareBack 92 = .ok (.aload_n 0, 1) := by decide +kernel
theorem dX4_shareBack_93 : decode cX4_shareBack 93 = .ok (.getfield 37, 3) := by decide +kernel
theorem dX4_shareBack_96 : decode cX4_shareBack 96 = .ok (.iload_n 1, 1) := by decide +kernel
theorem dX4_shareBack_97 : decode cX4_shareBack 97 = .ok (.iaload, 1) := by decide +kernel
theorem dX4_shareBack_98 : decode cX4_shareBack 98 = .ok (.aload_n 0, 1) := by decide +kernel
theorem dX4_shareBack_99 : decode cX4_shareBack 99 = .ok (.getfield 25, 3) := by decide +kernel
theorem dX4_shareBack_102 : decode cX4_shareBack 102 = .ok (.iload_n 1, 1) := by decide +kernel
theorem dX4_shareBack_103 : decode cX4_shareBack 103 = .ok (.iaload, 1) := by decide +kernel
theorem dX4_shareBack_104 : decode cX4_shareBack 104 = .ok (.isub, 1) := by decide +kernel
theorem dX4_shareBack_105 : decode cX4_shareBack 105 = .ok (.goto 4, 3) := by decide +kernel
theorem dX4_shareBack_108 : decode cX4_shareBack 108 = .ok (.iconst 0, 1) := by decide +kernel
theorem dX4_shareBack_109 : decode cX4_shareBack 109 = .ok (.iastore, 1) := by decide +kernel
theorem dX4_shareBack_110 : decode cX4_shareBack 110 = .ok (.aload_n 0, 1) := by decide +kernel
theorem dX4_shareBack_111 : decode cX4_shareBack 111 = .ok (.iload_n 1, 1) := by decide +kernel
theorem dX4_shareBack_112 : decode cX4_shareBack 112 = .ok (.invokevirtual 106, 3) := by decide +kernel
theorem dX4_shareBack_115 : decode cX4_shareBack 115 = .ok (.aload_n 0, 1) := by decide +kernel
theorem dX4_shareBack_116 : decode cX4_shareBack 116 = .ok (.getfield 12, 3) := by decide +kernel
theorem dX4_shareBack_119 : decode cX4_shareBack 119 = .ok (.invokevirtual 110, 3) := by decide +kernel
theorem dX4_shareBack_122 : decode cX4_shareBack 122 = .ok (.ireturn, 1) := by decide +kernel
theorem dX4_breachFor_0 : decode cX4_breachFor 0 = .ok (.aload_n 0, 1) := by decide +kernel
theorem dX4_breachFor_1 : decode cX4_breachFor 1 = .ok (.getfield 46, 3) := by decide +kernel
theorem dX4_breachFor_4 : decode cX4_breachFor 4 = .ok (.iload_n 1, 1) := by decide +kernel
theorem dX4_breachFor_5 : decode cX4_breachFor 5 = .ok (.iaload, 1) := by decide +kernel
theorem dX4_breachFor_6 : decode cX4_breachFor 6 = .ok (.iload_n 2, 1) := by decide +kernel
theorem dX4_breachFor_7 : decode cX4_breachFor 7 = .ok (.iconst 1, 1) := by decide +kernel
theorem dX4_breachFor_8 : decode cX4_breachFor 8 = .ok (.iadd, 1) := by decide +kernel
theorem dX4_breachFor_9 : decode cX4_breachFor 9 = .ok (.if_icmp .ne 6, 3) := by decide +kernel
theorem dX4_breachFor_12 : decode cX4_breachFor 12 = .ok (.bipush 9, 2) := by decide +kernel
theorem dX4_breachFor_14 : decode cX4_breachFor 14 = .ok (.ireturn, 1) := by decide +kernel
theorem dX4_breachFor_15 : decode cX4_breachFor 15 = .ok (.aload_n 0, 1) := by decide +kernel
theorem dX4_breachFor_16 : decode cX4_breachFor 16 = .ok (.getfield 46, 3) := by decide +kernel
theorem dX4_breachFor_19 : decode cX4_breachFor 19 = .ok (.iload_n 1, 1) := by decide +kernel
theorem dX4_breachFor_20 : decode cX4_breachFor 20 = .ok (.iaload, 1) := by decide +kernel
theorem dX4_breachFor_21 : decode cX4_breachFor 21 = .ok (.iconst 2, 1) := by decide +kernel
theorem dX4_breachFor_22 : decode cX4_breachFor 22 = .ok (.iload_n 2, 1) := by decide +kernel
theorem dX4_breachFor_23 : decode cX4_breachFor 23 = .ok (.isub, 1) := by decide +kernel
theorem dX4_breachFor_24 : decode cX4_breachFor 24 = .ok (.if_icmp .ne 8, 3) := by decide +kernel
theorem dX4_breachFor_27 : decode cX4_breachFor 27 = .ok (.bipush 10, 2) := by decide +kernel
theorem dX4_breachFor_29 : decode cX4_breachFor 29 = .ok (.goto 5, 3) := by decide +kernel
theorem dX4_breachFor_32 : decode cX4_breachFor 32 = .ok (.bipush 11, 2) := by decide +kernel
theorem dX4_breachFor_34 : decode cX4_breachFor 34 = .ok (.ireturn, 1) := by decide +kernel
theorem dX4_lawOf_0 : decode cX4_lawOf 0 = .ok (.aload_n 0, 1) := by decide +kernel
theorem dX4_lawOf_1 : decode cX4_lawOf 1 = .ok (.getfield 49, 3) := by decide +kernel
theorem dX4_lawOf_4 : decode cX4_lawOf 4 = .ok (.aload_n 0, 1) := by decide +kernel
theorem dX4_lawOf_5 : decode cX4_lawOf 5 = .ok (.getfield 57, 3) := by decide +kernel
theorem dX4_lawOf_8 : decode cX4_lawOf 8 = .ok (.getfield 116, 3) := by decide +kernel
theorem dX4_lawOf_11 : decode cX4_lawOf 11 = .ok (.iload_n 1, 1) := by decide +kernel
theorem dX4_lawOf_12 : decode cX4_lawOf 12 = .ok (.iaload, 1) := by decide +kernel
theorem dX4_lawOf_13 : decode cX4_lawOf 13 = .ok (.aload_n 0, 1) := by decide +kernel
theorem dX4_lawOf_14 : decode cX4_lawOf 14 = .ok (.getfield 57, 3) := by decide +kernel
theorem dX4_lawOf_17 : decode cX4_lawOf 17 = .ok (.getfield 119, 3) := by decide +kernel
theorem dX4_lawOf_20 : decode cX4_lawOf 20 = .ok (.iload_n 1, 1) := by decide +kernel
theorem dX4_lawOf_21 : decode cX4_lawOf 21 = .ok (.iaload, 1) := by decide +kernel
theorem dX4_lawOf_22 : decode cX4_lawOf 22 = .ok (.invokevirtual 122, 3) := by decide +kernel
theorem dX4_lawOf_25 : decode cX4_lawOf 25 = .ok (.areturn, 1) := by decide +kernel
theorem dX4_prepare_0 : decode cX4_prepare 0 = .ok (.aload_n 0, 1) := by decide +kernel
theorem dX4_prepare_1 : decode cX4_prepare 1 = .ok (.getfield 31, 3) := by decide +kernel
theorem dX4_prepare_4 : decode cX4_prepare 4 = .ok (.iload_n 1, 1) := by decide +kernel
theorem dX4_prepare_5 : decode cX4_prepare 5 = .ok (.iconst (-1), 1) := by decide +kernel
theorem dX4_prepare_6 : decode cX4_prepare 6 = .ok (.iastore, 1) := by decide +kernel
theorem dX4_prepare_7 : decode cX4_prepare 7 = .ok (.aload_n 0, 1) := by decide +kernel
theorem dX4_prepare_8 : decode cX4_prepare 8 = .ok (.getfield 34, 3) := by decide +kernel
theorem dX4_prepare_11 : decode cX4_prepare 11 = .ok (.iload_n 1, 1) := by decide +kernel
theorem dX4_prepare_12 : decode cX4_prepare 12 = .ok (.iconst (-1), 1) := by decide +kernel
theorem dX4_prepare_13 : decode cX4_prepare 13 = .ok (.iastore, 1) := by decide +kernel
theorem dX4_prepare_14 : decode cX4_prepare 14 = .ok (.aload_n 0, 1) := by decide +kernel
theorem dX4_prepare_15 : decode cX4_prepare 15 = .ok (.getfield 37, 3) := by decide +kernel
theorem dX4_prepare_18 : decode cX4_prepare 18 = .ok (.iload_n 1, 1) := by decide +kernel
theorem dX4_prepare_19 : decode cX4_prepare 19 = .ok (.sipush 10000, 3) := by decide +kernel
theorem dX4_prepare_22 : decode cX4_prepare 22 = .ok (.iastore, 1) := by decide +kernel
theorem dX4_prepare_23 : decode cX4_prepare 23 = .ok (.aload_n 0, 1) := by decide +kernel
theorem dX4_prepare_24 : decode cX4_prepare 24 = .ok (.getfield 40, 3) := by decide +kernel
theorem dX4_prepare_27 : decode cX4_prepare 27 = .ok (.iload_n 1, 1) := by decide +kernel
theorem dX4_prepare_28 : decode cX4_prepare 28 = .ok (.iconst 0, 1) := by decide +kernel
theorem dX4_prepare_29 : decode cX4_prepare 29 = .ok (.iastore, 1) := by decide +kernel
theorem dX4_prepare_30 : decode cX4_prepare 30 = .ok (.aload_n 0, 1) := by decide +kernel
theorem dX4_prepare_31 : decode cX4_prepare 31 = .ok (.getfield 43, 3) := by decide +kernel
theorem dX4_prepare_34 : decode cX4_prepare 34 = .ok (.iload_n 1, 1) := by decide +kernel
theorem dX4_prepare_35 : decode cX4_prepare 35 = .ok (.iconst (-1), 1) := by decide +kernel
theorem dX4_prepare_36 : decode cX4_prepare 36 = .ok (.iastore, 1) := by decide +kernel
theorem dX4_prepare_37 : decode cX4_prepare 37 = .ok (.aload_n 0, 1) := by decide +kernel
theorem dX4_prepare_38 : decode cX4_prepare 38 = .ok (.getfield 46, 3) := by decide +kernel
theorem dX4_prepare_41 : decode cX4_prepare 41 = .ok (.iload_n 1, 1) := by decide +kernel
theorem dX4_prepare_42 : decode cX4_prepare 42 = .ok (.iconst 0, 1) := by decide +kernel
theorem dX4_prepare_43 : decode cX4_prepare 43 = .ok (.iastore, 1) := by decide +kernel
theorem dX4_prepare_44 : decode cX4_prepare 44 = .ok (.aload_n 0, 1) := by decide +kernel
theorem dX4_prepare_45 : decode cX4_prepare 45 = .ok (.iload_n 1, 1) := by decide +kernel
theorem dX4_prepare_46 : decode cX4_prepare 46 = .ok (.invokevirtual 128, 3) := by decide +kernel
theorem dX4_prepare_49 : decode cX4_prepare 49 = .ok (.aload_n 0, 1) := by decide +kernel
theorem dX4_prepare_50 : decode cX4_prepare 50 = .ok (.iload_n 1, 1) := by decide +kernel
theorem dX4_prepare_51 : decode cX4_prepare 51 = .ok (.invokevirtual 131, 3) := by decide +kernel
theorem dX4_prepare_54 : decode cX4_prepare 54 = .ok (.aload_n 0, 1) := by decide +kernel
theorem dX4_prepare_55 : decode cX4_prepare 55 = .ok (.getfield 22, 3) := by decide +kernel
theorem dX4_prepare_58 : decode cX4_prepare 58 = .ok (.iload_n 1, 1) := by decide +kernel
theorem dX4_prepare_59 : decode cX4_prepare 59 = .ok (.aload_n 0, 1) := by decide +kernel
theorem dX4_prepare_60 : decode cX4_prepare 60 = .ok (.iload_n 1, 1) := by decide +kernel
theorem dX4_prepare_61 : decode cX4_prepare 61 = .ok (.invokevirtual 106, 3) := by decide +kernel
theorem dX4_prepare_64 : decode cX4_prepare 64 = .ok (.sipush 10000, 3) := by decide +kernel
theorem dX4_prepare_67 : decode cX4_prepare 67 = .ok (.aload_n 0, 1) := by decide +kernel
theorem dX4_prepare_68 : decode cX4_prepare 68 = .ok (.getfield 12, 3) := by decide +kernel
theorem dX4_prepare_71 : decode cX4_prepare 71 = .ok (.invokevirtual 134, 3) := by decide +kernel
theorem dX4_prepare_74 : decode cX4_prepare 74 = .ok (.iastore, 1) := by decide +kernel
theorem dX4_prepare_75 : decode cX4_prepare 75 = .ok (.aload_n 0, 1) := by decide +kernel
theorem dX4_prepare_76 : decode cX4_prepare 76 = .ok (.getfield 22, 3) := by decide +kernel
theorem dX4_prepare_79 : decode cX4_prepare 79 = .ok (.iload_n 1, 1) := by decide +kernel
theorem dX4_prepare_80 : decode cX4_prepare 80 = .ok (.iaload, 1) := by decide +kernel
theorem dX4_prepare_81 : decode cX4_prepare 81 = .ok (.iconst (-1), 1) := by decide +kernel
theorem dX4_prepare_82 : decode cX4_prepare 82 = .ok (.if_icmp .ne 10, 3) := by decide +kernel
theorem dX4_prepare_85 : decode cX4_prepare 85 = .ok (.aload_n 0, 1) := by decide +kernel
theorem dX4_prepare_86 : decode cX4_prepare 86 = .ok (.getfield 28, 3) := by decide +kernel
theorem dX4_prepare_89 : decode cX4_prepare 89 = .ok (.iload_n 1, 1) := by decide +kernel
theorem dX4_prepare_90 : decode cX4_prepare 90 = .ok (.iconst 0, 1) := by decide +kernel
theorem dX4_prepare_91 : decode cX4_prepare 91 = .ok (.iastore, 1) := by decide +kernel
theorem dX4_prepare_92 : decode cX4_prepare 92 = .ok (.return_, 1) := by decide +kernel
theorem dX4_findEffect_0 : decode cX4_findEffect 0 = .ok (.aload_n 0, 1) := by decide +kernel
theorem dX4_findEffect_1 : decode cX4_findEffect 1 = .ok (.getfield 25, 3) := by decide +kernel
theorem dX4_findEffect_4 : decode cX4_findEffect 4 = .ok (.iload_n 1, 1) := by decide +kernel
theorem dX4_findEffect_5 : decode cX4_findEffect 5 = .ok (.aload_n 0, 1) := by decide +kernel
theorem dX4_findEffect_6 : decode cX4_findEffect 6 = .ok (.getfield 57, 3) := by decide +kernel
theorem dX4_findEffect_9 : decode cX4_findEffect 9 = .ok (.getfield 119, 3) := by decide +kernel
theorem dX4_findEffect_12 : decode cX4_findEffect 12 = .ok (.iload_n 1, 1) := by decide +kernel
theorem dX4_findEffect_13 : decode cX4_findEffect 13 = .ok (.iaload, 1) := by decide +kernel
theorem dX4_findEffect_14 : decode cX4_findEffect 14 = .ok (.iastore, 1) := by decide +kernel
theorem dX4_findEffect_15 : decode cX4_findEffect 15 = .ok (.aload_n 0, 1) := by decide +kernel
theorem dX4_findEffect_16 : decode cX4_findEffect 16 = .ok (.getfield 28, 3) := by decide +kernel
theorem dX4_findEffect_19 : decode cX4_findEffect 19 = .ok (.iload_n 1, 1) := by decide +kernel
theorem dX4_findEffect_20 : decode cX4_findEffect 20 = .ok (.iconst (-1), 1) := by decide +kernel
theorem dX4_findEffect_21 : decode cX4_findEffect 21 = .ok (.iastore, 1) := by decide +kernel
theorem dX4_findEffect_22 : decode cX4_findEffect 22 = .ok (.aload_n 0, 1) := by decide +kernel
theorem dX4_findEffect_23 : decode cX4_findEffect 23 = .ok (.getfield 57, 3) := by decide +kernel
theorem dX4_findEffect_26 : decode cX4_findEffect 26 = .ok (.getfield 87, 3) := by decide +kernel
theorem dX4_findEffect_29 : decode cX4_findEffect 29 = .ok (.iload_n 1, 1) := by decide +kernel
theorem dX4_findEffect_30 : decode cX4_findEffect 30 = .ok (.iaload, 1) := by decide +kernel
theorem dX4_findEffect_31 : decode cX4_findEffect 31 = .ok (.iconst (-1), 1) := by decide +kernel
theorem dX4_findEffect_32 : decode cX4_findEffect 32 = .ok (.if_icmp .ne 4, 3) := by decide +kernel
theorem dX4_findEffect_35 : decode cX4_findEffect 35 = .ok (.return_, 1) := by decide +kernel
theorem dX4_findEffect_36 : decode cX4_findEffect 36 = .ok (.aload_n 0, 1) := by decide +kernel
theorem dX4_findEffect_37 : decode cX4_findEffect 37 = .ok (.getfield 61, 3) := by decide +kernel
theorem dX4_findEffect_40 : decode cX4_findEffect 40 = .ok (.aload_n 0, 1) := by decide +kernel
theorem dX4_findEffect_41 : decode cX4_findEffect 41 = .ok (.getfield 57, 3) := by decide +kernel
theorem dX4_findEffect_44 : decode cX4_findEffect 44 = .ok (.getfield 87, 3) := by decide +kernel
theorem dX4_findEffect_47 : decode cX4_findEffect 47 = .ok (.iload_n 1, 1) := by decide +kernel
theorem dX4_findEffect_48 : decode cX4_findEffect 48 = .ok (.iaload, 1) := by decide +kernel
theorem dX4_findEffect_49 : decode cX4_findEffect 49 = .ok (.invokevirtual 138, 3) := by decide +kernel
theorem dX4_findEffect_52 : decode cX4_findEffect 52 = .ok (.istore_n 2, 1) := by decide +kernel
theorem dX4_findEffect_53 : decode cX4_findEffect 53 = .ok (.iload_n 2, 1) := by decide +kernel
theorem dX4_findEffect_54 : decode cX4_findEffect 54 = .ok (.iconst (-1), 1) := by decide +kernel
theorem dX4_findEffect_55 : decode cX4_findEffect 55 = .ok (.if_icmp .ne 20, 3) := by decide +kernel
theorem dX4_findEffect_58 : decode cX4_findEffect 58 = .ok (.aload_n 0, 1) := by decide +kernel
theorem dX4_findEffect_59 : decode cX4_findEffect 59 = .ok (.getfield 25, 3) := by decide +kernel
theorem dX4_findEffect_62 : decode cX4_findEffect 62 = .ok (.iload_n 1, 1) := by decide +kernel
theorem dX4_findEffect_63 : decode cX4_findEffect 63 = .ok (.sipush 10000, 3) := by decide +kernel
theorem dX4_findEffect_66 : decode cX4_findEffect 66 = .ok (.iastore, 1) := by decide +kernel
theorem dX4_findEffect_67 : decode cX4_findEffect 67 = .ok (.aload_n 0, 1) := by decide +kernel
theorem dX4_findEffect_68 : decode cX4_findEffect 68 = .ok (.getfield 28, 3) := by decide +kernel
theorem dX4_findEffect_71 : decode cX4_findEffect 71 = .ok (.iload_n 1, 1) := by decide +kernel
theorem dX4_findEffect_72 : decode cX4_findEffect 72 = .ok (.iconst 2, 1) := by decide +kernel
theorem dX4_findEffect_73 : decode cX4_findEffect 73 = .ok (.iastore, 1) := by decide +kernel
theorem dX4_findEffect_74 : decode cX4_findEffect 74 = .ok (.return_, 1) := by decide +kernel
theorem dX4_findEffect_75 : decode cX4_findEffect 75 = .ok (.aload_n 0, 1) := by decide +kernel
theorem dX4_findEffect_76 : decode cX4_findEffect 76 = .ok (.getfield 25, 3) := by decide +kernel
theorem dX4_findEffect_79 : decode cX4_findEffect 79 = .ok (.iload_n 1, 1) := by decide +kernel
theorem dX4_findEffect_80 : decode cX4_findEffect 80 = .ok (.aload_n 0, 1) := by decide +kernel
theorem dX4_findEffect_81 : decode cX4_findEffect 81 = .ok (.getfield 25, 3) := by decide +kernel
theorem dX4_findEffect_84 : decode cX4_findEffect 84 = .ok (.iload_n 1, 1) := by decide +kernel
theorem dX4_findEffect_85 : decode cX4_findEffect 85 = .ok (.iaload, 1) := by decide +kernel
theorem dX4_findEffect_86 : decode cX4_findEffect 86 = .ok (.aload_n 0, 1) := by decide +kernel
theorem dX4_findEffect_87 : decode cX4_findEffect 87 = .ok (.getfield 61, 3) := by decide +kernel
theorem dX4_findEffect_90 : decode cX4_findEffect 90 = .ok (.getfield 142, 3) := by decide +kernel
theorem dX4_findEffect_93 : decode cX4_findEffect 93 = .ok (.iload_n 2, 1) := by decide +kernel
theorem dX4_findEffect_94 : decode cX4_findEffect 94 = .ok (.iaload, 1) := by decide +kernel
theorem dX4_findEffect_95 : decode cX4_findEffect 95 = .ok (.invokestatic 143, 3) := by decide +kernel
theorem dX4_findEffect_98 : decode cX4_findEffect 98 = .ok (.iastore, 1) := by decide +kernel
theorem dX4_findEffect_99 : decode cX4_findEffect 99 = .ok (.aload_n 0, 1) := by decide +kernel
theorem dX4_findEffect_100 : decode cX4_findEffect 100 = .ok (.getfield 61, 3) := by decide +kernel
theorem dX4_findEffect_103 : decode cX4_findEffect 103 = .ok (.getfield 148, 3) := by decide +kernel
theorem dX4_findEffect_106 : decode cX4_findEffect 106 = .ok (.iload_n 2, 1) := by decide +kernel
theorem dX4_findEffect_107 : decode cX4_findEffect 107 = .ok (.iaload, 1) := by decide +kernel
theorem dX4_findEffect_108 : decode cX4_findEffect 108 = .ok (.bipush 6, 2) := by decide +kernel
theorem dX4_findEffect_110 : decode cX4_findEffect 110 = .ok (.if_icmp .ne 10, 3) := by decide +kernel
theorem dX4_findEffect_113 : decode cX4_findEffect 113 = .ok (.aload_n 0, 1) := by decide +kernel
theorem dX4_findEffect_114 : decode cX4_findEffect 114 = .ok (.getfield 28, 3) := by decide +kernel
theorem dX4_findEffect_117 : decode cX4_findEffect 117 = .ok (.iload_n 1, 1) := by decide +kernel
theorem dX4_findEffect_118 : decode cX4_findEffect 118 = .ok (.iconst 3, 1) := by decide +kernel
theorem dX4_findEffect_119 : decode cX4_findEffect 119 = .ok (.iastore, 1) := by decide +kernel
theorem dX4_findEffect_120 : decode cX4_findEffect 120 = .ok (.return_, 1) := by decide +kernel
theorem dX4_weighWords_0 : decode cX4_weighWords 0 = .ok (.aload_n 0, 1) := by decide +kernel
theorem dX4_weighWords_1 : decode cX4_weighWords 1 = .ok (.getfield 12, 3) := by decide +kernel
theorem dX4_weighWords_4 : decode cX4_weighWords 4 = .ok (.getfield 97, 3) := by decide +kernel
theorem dX4_weighWords_7 : decode cX4_weighWords 7 = .ok (.astore_n 2, 1) := by decide +kernel
theorem dX4_weighWords_8 : decode cX4_weighWords 8 = .ok (.aload_n 0, 1) := by decide +kernel
theorem dX4_weighWords_9 : decode cX4_weighWords 9 = .ok (.getfield 12, 3) := by decide +kernel
theorem dX4_weighWords_12 : decode cX4_weighWords 12 = .ok (.invokevirtual 94, 3) := by decide +kernel
theorem dX4_weighWords_15 : decode cX4_weighWords 15 = .ok (.aload_n 2, 1) := by decide +kernel
theorem dX4_weighWords_16 : decode cX4_weighWords 16 = .ok (.iconst 3, 1) := by decide +kernel
theorem dX4_weighWords_17 : decode cX4_weighWords 17 = .ok (.aload_n 0, 1) := by decide +kernel
theorem dX4_weighWords_18 : decode cX4_weighWords 18 = .ok (.getfield 61, 3) := by decide +kernel
theorem dX4_weighWords_21 : decode cX4_weighWords 21 = .ok (.iload_n 1, 1) := by decide +kernel
theorem dX4_weighWords_22 : decode cX4_weighWords 22 = .ok (.invokevirtual 151, 3) := by decide +kernel
theorem dX4_weighWords_25 : decode cX4_weighWords 25 = .ok (.iastore, 1) := by decide +kernel
theorem dX4_weighWords_26 : decode cX4_weighWords 26 = .ok (.aload_n 2, 1) := by decide +kernel
theorem dX4_weighWords_27 : decode cX4_weighWords 27 = .ok (.iconst 4, 1) := by decide +kernel
theorem dX4_weighWords_28 : decode cX4_weighWords 28 = .ok (.aload_n 0, 1) := by decide +kernel
theorem dX4_weighWords_29 : decode cX4_weighWords 29 = .ok (.getfield 57, 3) := by decide +kernel
theorem dX4_weighWords_32 : decode cX4_weighWords 32 = .ok (.getfield 103, 3) := by decide +kernel
theorem dX4_weighWords_35 : decode cX4_weighWords 35 = .ok (.iload_n 1, 1) := by decide +kernel
theorem dX4_weighWords_36 : decode cX4_weighWords 36 = .ok (.iaload, 1) := by decide +kernel
theorem dX4_weighWords_37 : decode cX4_weighWords 37 = .ok (.iastore, 1) := by decide +kernel
theorem dX4_weighWords_38 : decode cX4_weighWords 38 = .ok (.aload_n 0, 1) := by decide +kernel
theorem dX4_weighWords_39 : decode cX4_weighWords 39 = .ok (.getfield 61, 3) := by decide +kernel
theorem dX4_weighWords_42 : decode cX4_weighWords 42 = .ok (.iload_n 1, 1) := by decide +kernel
theorem dX4_weighWords_43 : decode cX4_weighWords 43 = .ok (.aload_n 0, 1) := by decide +kernel
theorem dX4_weighWords_44 : decode cX4_weighWords 44 = .ok (.getfield 18, 3) := by decide +kernel
theorem dX4_weighWords_47 : decode cX4_weighWords 47 = .ok (.invokevirtual 154, 3) := by decide +kernel
theorem dX4_weighWords_50 : decode cX4_weighWords 50 = .ok (.iconst 0, 1) := by decide +kernel
theorem dX4_weighWords_51 : decode cX4_weighWords 51 = .ok (.istore_n 3, 1) := by decide +kernel
theorem dX4_weighWords_52 : decode cX4_weighWords 52 = .ok (.iload_n 3, 1) := by decide +kernel
theorem dX4_weighWords_53 : decode cX4_weighWords 53 = .ok (.bipush 32, 2) := by decide +kernel
theorem dX4_weighWords_55 : decode cX4_weighWords 55 = .ok (.if_icmp .ge 77, 3) := by decide +kernel
theorem dX4_weighWords_58 : decode cX4_weighWords 58 = .ok (.aload_n 0, 1) := by decide +kernel
theorem dX4_weighWords_59 : decode cX4_weighWords 59 = .ok (.getfield 18, 3) := by decide +kernel
theorem dX4_weighWords_62 : decode cX4_weighWords 62 = .ok (.iload_n 3, 1) := by decide +kernel
theorem dX4_weighWords_63 : decode cX4_weighWords 63 = .ok (.iaload, 1) := by decide +kernel
theorem dX4_weighWords_64 : decode cX4_weighWords 64 = .ok (.iconst (-1), 1) := by decide +kernel
theorem dX4_weighWords_65 : decode cX4_weighWords 65 = .ok (.if_icmp .eq 61, 3) := by decide +kernel
theorem dX4_weighWords_68 : decode cX4_weighWords 68 = .ok (.aload_n 0, 1) := by decide +kernel
theorem dX4_weighWords_69 : decode cX4_weighWords 69 = .ok (.getfield 18, 3) := by decide +kernel
theorem dX4_weighWords_72 : decode cX4_weighWords 72 = .ok (.iload_n 3, 1) := by decide +kernel
theorem dX4_weighWords_73 : decode cX4_weighWords 73 = .ok (.iaload, 1) := by decide +kernel
theorem dX4_weighWords_74 : decode cX4_weighWords 74 = .ok (.bipush 7, 2) := by decide +kernel
theorem dX4_weighWords_76 : decode cX4_weighWords 76 = .ok (.if_icmp .ne 7, 3) := by decide +kernel
theorem dX4_weighWords_79 : decode cX4_weighWords 79 = .ok (.iconst 1, 1) := by decide +kernel
theorem dX4_weighWords_80 : decode cX4_weighWords 80 = .ok (.goto 4, 3) := by decide +kernel
theorem dX4_weighWords_83 : decode cX4_weighWords 83 = .ok (.iconst 0, 1) := by decide +kernel
theorem dX4_weighWords_84 : decode cX4_weighWords 84 = .ok (.istore 4, 2) := by decide +kernel
theorem dX4_weighWords_86 : decode cX4_weighWords 86 = .ok (.aload_n 0, 1) := by decide +kernel
theorem dX4_weighWords_87 : decode cX4_weighWords 87 = .ok (.iload_n 3, 1) := by decide +kernel
theorem dX4_weighWords_88 : decode cX4_weighWords 88 = .ok (.iload_n 1, 1) := by decide +kernel
theorem dX4_weighWords_89 : decode cX4_weighWords 89 = .ok (.invokevirtual 158, 3) := by decide +kernel
theorem dX4_weighWords_92 : decode cX4_weighWords 92 = .ok (.ifCond .ne 22, 3) := by decide +kernel
theorem dX4_weighWords_95 : decode cX4_weighWords 95 = .ok (.aload_n 2, 1) := by decide +kernel
theorem dX4_weighWords_96 : decode cX4_weighWords 96 = .ok (.iload 4, 2) := by decide +kernel
theorem dX4_weighWords_98 : decode cX4_weighWords 98 = .ok (.ifCond .eq 7, 3) := by decide +kernel
theorem dX4_weighWords_101 : decode cX4_weighWords 101 = .ok (.iconst 0, 1) := by decide +kernel
theorem dX4_weighWords_102 : decode cX4_weighWords 102 = .ok (.goto 4, 3) := by decide +kernel
theorem dX4_weighWords_105 : decode cX4_weighWords 105 = .ok (.iconst 1, 1) := by decide +kernel
theorem dX4_weighWords_106 : decode cX4_weighWords 106 = .ok (.dup2, 1) := by decide +kernel
theorem dX4_weighWords_107 : decode cX4_weighWords 107 = .ok (.iaload, 1) := by decide +kernel
theorem dX4_weighWords_108 : decode cX4_weighWords 108 = .ok (.iconst 1, 1) := by decide +kernel
theorem dX4_weighWords_109 : decode cX4_weighWords 109 = .ok (.iadd, 1) := by decide +kernel
theorem dX4_weighWords_110 : decode cX4_weighWords 110 = .ok (.iastore, 1) := by decide +kernel
theorem dX4_weighWords_111 : decode cX4_weighWords 111 = .ok (.goto 15, 3) := by decide +kernel
theorem dX4_weighWords_114 : decode cX4_weighWords 114 = .ok (.iload 4, 2) := by decide +kernel
theorem dX4_weighWords_116 : decode cX4_weighWords 116 = .ok (.ifCond .eq 10, 3) := by decide +kernel
theorem dX4_weighWords_119 : decode cX4_weighWords 119 = .ok (.aload_n 2, 1) := by decide +kernel
theorem dX4_weighWords_120 : decode cX4_weighWords 120 = .ok (.iconst 2, 1) := by decide +kernel
theorem dX4_weighWords_121 : decode cX4_weighWords 121 = .ok (.dup2, 1) := by decide +kernel
theorem dX4_weighWords_122 : decode cX4_weighWords 122 = .ok (.iaload, 1) := by decide +kernel
theorem dX4_weighWords_123 : decode cX4_weighWords 123 = .ok (.iconst 1, 1) := by decide +kernel
theorem dX4_weighWords_124 : decode cX4_weighWords 124 = .ok (.iadd, 1) := by decide +kernel
theorem dX4_weighWords_125 : decode cX4_weighWords 125 = .ok (.iastore, 1) := by decide +kernel
theorem dX4_weighWords_126 : decode cX4_weighWords 126 = .ok (.iinc 3 1, 3) := by decide +kernel
theorem dX4_weighWords_129 : decode cX4_weighWords 129 = .ok (.goto (-77), 3) := by decide +kernel
theorem dX4_weighWords_132 : decode cX4_weighWords 132 = .ok (.return_, 1) := by decide +kernel
theorem dX4_isKin_0 : decode cX4_isKin 0 = .ok (.aload_n 0, 1) := by decide +kernel
theorem dX4_isKin_1 : decode cX4_isKin 1 = .ok (.getfield 53, 3) := by decide +kernel
theorem dX4_isKin_4 : decode cX4_isKin 4 = .ok (.iload_n 1, 1) := by decide +kernel
theorem dX4_isKin_5 : decode cX4_isKin 5 = .ok (.invokevirtual 162, 3) := by decide +kernel
theorem dX4_isKin_8 : decode cX4_isKin 8 = .ok (.ifCond .eq 49, 3) := by decide +kernel
theorem dX4_isKin_11 : decode cX4_isKin 11 = .ok (.aload_n 0, 1) := by decide +kernel
theorem dX4_isKin_12 : decode cX4_isKin 12 = .ok (.getfield 53, 3) := by decide +kernel
theorem dX4_isKin_15 : decode cX4_isKin 15 = .ok (.iload_n 1, 1) := by decide +kernel
theorem dX4_isKin_16 : decode cX4_isKin 16 = .ok (.aload_n 0, 1) := by decide +kernel
theorem dX4_isKin_17 : decode cX4_isKin 17 = .ok (.getfield 57, 3) := by decide +kernel
theorem dX4_isKin_20 : decode cX4_isKin 20 = .ok (.getfield 168, 3) := by decide +kernel
theorem dX4_isKin_23 : decode cX4_isKin 23 = .ok (.iload_n 2, 1) := by decide +kernel
theorem dX4_isKin_24 : decode cX4_isKin 24 = .ok (.iaload, 1) := by decide +kernel
theorem dX4_isKin_25 : decode cX4_isKin 25 = .ok (.invokevirtual 171, 3) := by decide +kernel
theorem dX4_isKin_28 : decode cX4_isKin 28 = .ok (.iconst 4, 1) := by decide +kernel
theorem dX4_isKin_29 : decode cX4_isKin 29 = .ok (.if_icmp .le 24, 3) := by decide +kernel
theorem dX4_isKin_32 : decode cX4_isKin 32 = .ok (.aload_n 0, 1) := by decide +kernel
theorem dX4_isKin_33 : decode cX4_isKin 33 = .ok (.getfield 53, 3) := by decide +kernel
theorem dX4_isKin_36 : decode cX4_isKin 36 = .ok (.iload_n 1, 1) := by decide +kernel
theorem dX4_isKin_37 : decode cX4_isKin 37 = .ok (.aload_n 0, 1) := by decide +kernel
theorem dX4_isKin_38 : decode cX4_isKin 38 = .ok (.getfield 57, 3) := by decide +kernel
theorem dX4_isKin_41 : decode cX4_isKin 41 = .ok (.getfield 174, 3) := by decide +kernel
theorem dX4_isKin_44 : decode cX4_isKin 44 = .ok (.iload_n 2, 1) := by decide +kernel
theorem dX4_isKin_45 : decode cX4_isKin 45 = .ok (.iaload, 1) := by decide +kernel
theorem dX4_isKin_46 : decode cX4_isKin 46 = .ok (.invokevirtual 171, 3) := by decide +kernel
theorem dX4_isKin_49 : decode cX4_isKin 49 = .ok (.iconst 4, 1) := by decide +kernel
theorem dX4_isKin_50 : decode cX4_isKin 50 = .ok (.if_icmp .gt 7, 3) := by decide +kernel
theorem dX4_isKin_53 : decode cX4_isKin 53 = .ok (.iconst 1, 1) := by decide +kernel
theorem dX4_isKin_54 : decode cX4_isKin 54 = .ok (.goto 4, 3) := by decide +kernel
theorem dX4_isKin_57 : decode cX4_isKin 57 = .ok (.iconst 0, 1) := by decide +kernel
theorem dX4_isKin_58 : decode cX4_isKin 58 = .ok (.ireturn, 1) := by decide +kernel
theorem dX4_nextWaiting_0 : decode cX4_nextWaiting 0 = .ok (.iconst (-1), 1) := by decide +kernel
theorem dX4_nextWaiting_1 : decode cX4_nextWaiting 1 = .ok (.istore_n 1, 1) := by decide +kernel
theorem dX4_nextWaiting_2 : decode cX4_nextWaiting 2 = .ok (.iconst 0, 1) := by decide +kernel
theorem dX4_nextWaiting_3 : decode cX4_nextWaiting 3 = .ok (.istore_n 2, 1) := by decide +kernel
theorem dX4_nextWaiting_4 : decode cX4_nextWaiting 4 = .ok (.iload_n 2, 1) := by decide +kernel
theorem dX4_nextWaiting_5 : decode cX4_nextWaiting 5 = .ok (.aload_n 0, 1) := by decide +kernel
theorem dX4_nextWaiting_6 : decode cX4_nextWaiting 6 = .ok (.getfield 57, 3) := by decide +kernel
theorem dX4_nextWaiting_9 : decode cX4_nextWaiting 9 = .ok (.getfield 71, 3) := by decide +kernel
theorem dX4_nextWaiting_12 : decode cX4_nextWaiting 12 = .ok (.if_icmp .ge 41, 3) := by decide +kernel
theorem dX4_nextWaiting_15 : decode cX4_nextWaiting 15 = .ok (.aload_n 0, 1) := by decide +kernel
theorem dX4_nextWaiting_16 : decode cX4_nextWaiting 16 = .ok (.getfield 28, 3) := by decide +kernel
theorem dX4_nextWaiting_19 : decode cX4_nextWaiting 19 = .ok (.iload_n 2, 1) := by decide +kernel
theorem dX4_nextWaiting_20 : decode cX4_nextWaiting 20 = .ok (.iaload, 1) := by decide +kernel
theorem dX4_nextWaiting_21 : decode cX4_nextWaiting 21 = .ok (.iconst (-1), 1) := by decide +kernel
theorem dX4_nextWaiting_22 : decode cX4_nextWaiting 22 = .ok (.if_icmp .ne 25, 3) := by decide +kernel
theorem dX4_nextWaiting_25 : decode cX4_nextWaiting 25 = .ok (.iload_n 1, 1) := by decide +kernel
theorem dX4_nextWaiting_26 : decode cX4_nextWaiting 26 = .ok (.iconst (-1), 1) := by decide +kernel
theorem dX4_nextWaiting_27 : decode cX4_nextWaiting 27 = .ok (.if_icmp .eq 18, 3) := by decide +kernel
theorem dX4_nextWaiting_30 : decode cX4_nextWaiting 30 = .ok (.aload_n 0, 1) := by decide +kernel
theorem dX4_nextWaiting_31 : decode cX4_nextWaiting 31 = .ok (.getfield 25, 3) := by decide +kernel
theorem dX4_nextWaiting_34 : decode cX4_nextWaiting 34 = .ok (.iload_n 2, 1) := by decide +kernel
theorem dX4_nextWaiting_35 : decode cX4_nextWaiting 35 = .ok (.iaload, 1) := by decide +kernel
theorem dX4_nextWaiting_36 : decode cX4_nextWaiting 36 = .ok (.aload_n 0, 1) := by decide +kernel
theorem dX4_nextWaiting_37 : decode cX4_nextWaiting 37 = .ok (.getfield 25, 3) := by decide +kernel
theorem dX4_nextWaiting_40 : decode cX4_nextWaiting 40 = .ok (.iload_n 1, 1) := by decide +kernel
theorem dX4_nextWaiting_41 : decode cX4_nextWaiting 41 = .ok (.iaload, 1) := by decide +kernel
theorem dX4_nextWaiting_42 : decode cX4_nextWaiting 42 = .ok (.if_icmp .ge 5, 3) := by decide +kernel
theorem dX4_nextWaiting_45 : decode cX4_nextWaiting 45 = .ok (.iload_n 2, 1) := by decide +kernel
theorem dX4_nextWaiting_46 : decode cX4_nextWaiting 46 = .ok (.istore_n 1, 1) := by decide +kernel
theorem dX4_nextWaiting_47 : decode cX4_nextWaiting 47 = .ok (.iinc 2 1, 3) := by decide +kernel
theorem dX4_nextWaiting_50 : decode cX4_nextWaiting 50 = .ok (.goto (-46), 3) := by decide +kernel
theorem dX4_nextWaiting_53 : decode cX4_nextWaiting 53 = .ok (.iload_n 1, 1) := by decide +kernel
theorem dX4_nextWaiting_54 : decode cX4_nextWaiting 54 = .ok (.ireturn, 1) := by decide +kernel
theorem dX4_settle_0 : decode cX4_settle 0 = .ok (.aload_n 0, 1) := by decide +kernel
theorem dX4_settle_1 : decode cX4_settle 1 = .ok (.getfield 31, 3) := by decide +kernel
theorem dX4_settle_4 : decode cX4_settle 4 = .ok (.iload_n 1, 1) := by decide +kernel
theorem dX4_settle_5 : decode cX4_settle 5 = .ok (.aload_n 0, 1) := by decide +kernel
theorem dX4_settle_6 : decode cX4_settle 6 = .ok (.iload_n 1, 1) := by decide +kernel
theorem dX4_settle_7 : decode cX4_settle 7 = .ok (.invokevirtual 177, 3) := by decide +kernel
theorem dX4_settle_10 : decode cX4_settle 10 = .ok (.iastore, 1) := by decide +kernel
theorem dX4_settle_11 : decode cX4_settle 11 = .ok (.aload_n 0, 1) := by decide +kernel
theorem dX4_settle_12 : decode cX4_settle 12 = .ok (.getfield 31, 3) := by decide +kernel
theorem dX4_settle_15 : decode cX4_settle 15 = .ok (.iload_n 1, 1) := by decide +kernel
theorem dX4_settle_16 : decode cX4_settle 16 = .ok (.iaload, 1) := by decide +kernel
theorem dX4_settle_17 : decode cX4_settle 17 = .ok (.iconst (-1), 1) := by decide +kernel
theorem dX4_settle_18 : decode cX4_settle 18 = .ok (.if_icmp .eq 11, 3) := by decide +kernel
theorem dX4_settle_21 : decode cX4_settle 21 = .ok (.aload_n 0, 1) := by decide +kernel
theorem dX4_settle_22 : decode cX4_settle 22 = .ok (.getfield 28, 3) := by decide +kernel
theorem dX4_settle_25 : decode cX4_settle 25 = .ok (.iload_n 1, 1) := by decide +kernel
theorem dX4_settle_26 : decode cX4_settle 26 = .ok (.iconst 4, 1) := by decide +kernel
theorem dX4_settle_27 : decode cX4_settle 27 = .ok (.iastore, 1) := by decide +kernel
theorem dX4_settle_28 : decode cX4_settle 28 = .ok (.return_, 1) := by decide +kernel
theorem dX4_settle_29 : decode cX4_settle 29 = .ok (.aload_n 0, 1) := by decide +kernel
theorem dX4_settle_30 : decode cX4_settle 30 = .ok (.getfield 34, 3) := by decide +kernel
theorem dX4_settle_33 : decode cX4_settle 33 = .ok (.iload_n 1, 1) := by decide +kernel
theorem dX4_settle_34 : decode cX4_settle 34 = .ok (.aload_n 0, 1) := by decide +kernel
theorem dX4_settle_35 : decode cX4_settle 35 = .ok (.iload_n 1, 1) := by decide +kernel
theorem dX4_settle_36 : decode cX4_settle 36 = .ok (.invokevirtual 180, 3) := by decide +kernel
theorem dX4_settle_39 : decode cX4_settle 39 = .ok (.iastore, 1) := by decide +kernel
theorem dX4_settle_40 : decode cX4_settle 40 = .ok (.aload_n 0, 1) := by decide +kernel
theorem dX4_settle_41 : decode cX4_settle 41 = .ok (.getfield 34, 3) := by decide +kernel
theorem dX4_settle_44 : decode cX4_settle 44 = .ok (.iload_n 1, 1) := by decide +kernel
theorem dX4_settle_45 : decode cX4_settle 45 = .ok (.iaload, 1) := by decide +kernel
theorem dX4_settle_46 : decode cX4_settle 46 = .ok (.iconst (-1), 1) := by decide +kernel
theorem dX4_settle_47 : decode cX4_settle 47 = .ok (.if_icmp .eq 11, 3) := by decide +kernel
theorem dX4_settle_50 : decode cX4_settle 50 = .ok (.aload_n 0, 1) := by decide +kernel
theorem dX4_settle_51 : decode cX4_settle 51 = .ok (.getfield 28, 3) := by decide +kernel
theorem dX4_settle_54 : decode cX4_settle 54 = .ok (.iload_n 1, 1) := by decide +kernel
theorem dX4_settle_55 : decode cX4_settle 55 = .ok (.iconst 5, 1) := by decide +kernel
theorem dX4_settle_56 : decode cX4_settle 56 = .ok (.iastore, 1) := by decide +kernel
theorem dX4_settle_57 : decode cX4_settle 57 = .ok (.return_, 1) := by decide +kernel
theorem dX4_settle_58 : decode cX4_settle 58 = .ok (.aload_n 0, 1) := by decide +kernel
theorem dX4_settle_59 : decode cX4_settle 59 = .ok (.iload_n 1, 1) := by decide +kernel
theorem dX4_settle_60 : decode cX4_settle 60 = .ok (.invokevirtual 183, 3) := by decide +kernel
theorem dX4_settle_63 : decode cX4_settle 63 = .ok (.aload_n 0, 1) := by decide +kernel
theorem dX4_settle_64 : decode cX4_settle 64 = .ok (.getfield 28, 3) := by decide +kernel
theorem dX4_settle_67 : decode cX4_settle 67 = .ok (.iload_n 1, 1) := by decide +kernel
theorem dX4_settle_68 : decode cX4_settle 68 = .ok (.bipush 6, 2) := by decide +kernel
theorem dX4_settle_70 : decode cX4_settle 70 = .ok (.iastore, 1) := by decide +kernel
theorem dX4_settle_71 : decode cX4_settle 71 = .ok (.aload_n 0, 1) := by decide +kernel
theorem dX4_settle_72 : decode cX4_settle 72 = .ok (.iload_n 1, 1) := by decide +kernel
theorem dX4_settle_73 : decode cX4_settle 73 = .ok (.invokevirtual 186, 3) := by decide +kernel
theorem dX4_settle_76 : decode cX4_settle 76 = .ok (.return_, 1) := by decide +kernel
theorem dX4_firstBar_0 : decode cX4_firstBar 0 = .ok (.aload_n 0, 1) := by decide +kernel
theorem dX4_firstBar_1 : decode cX4_firstBar 1 = .ok (.getfield 57, 3) := by decide +kernel
theorem dX4_firstBar_4 : decode cX4_firstBar 4 = .ok (.getfield 168, 3) := by decide +kernel
theorem dX4_firstBar_7 : decode cX4_firstBar 7 = .ok (.iload_n 1, 1) := by decide +kernel
theorem dX4_firstBar_8 : decode cX4_firstBar 8 = .ok (.iaload, 1) := by decide +kernel
theorem dX4_firstBar_9 : decode cX4_firstBar 9 = .ok (.istore_n 2, 1) := by decide +kernel
theorem dX4_firstBar_10 : decode cX4_firstBar 10 = .ok (.aload_n 0, 1) := by decide +kernel
theorem dX4_firstBar_11 : decode cX4_firstBar 11 = .ok (.getfield 57, 3) := by decide +kernel
theorem dX4_firstBar_14 : decode cX4_firstBar 14 = .ok (.getfield 174, 3) := by decide +kernel
theorem dX4_firstBar_17 : decode cX4_firstBar 17 = .ok (.iload_n 1, 1) := by decide +kernel
theorem dX4_firstBar_18 : decode cX4_firstBar 18 = .ok (.iaload, 1) := by decide +kernel
theorem dX4_firstBar_19 : decode cX4_firstBar 19 = .ok (.istore_n 3, 1) := by decide +kernel
theorem dX4_firstBar_20 : decode cX4_firstBar 20 = .ok (.aload_n 0, 1) := by decide +kernel
theorem dX4_firstBar_21 : decode cX4_firstBar 21 = .ok (.iconst 0, 1) := by decide +kernel
theorem dX4_firstBar_22 : decode cX4_firstBar 22 = .ok (.iload_n 1, 1) := by decide +kernel
theorem dX4_firstBar_23 : decode cX4_firstBar 23 = .ok (.invokevirtual 189, 3) := by decide +kernel
theorem dX4_firstBar_26 : decode cX4_firstBar 26 = .ok (.aload_n 0, 1) := by decide +kernel
theorem dX4_firstBar_27 : decode cX4_firstBar 27 = .ok (.getfield 25, 3) := by decide +kernel
theorem dX4_firstBar_30 : decode cX4_firstBar 30 = .ok (.iload_n 1, 1) := by decide +kernel
theorem dX4_firstBar_31 : decode cX4_firstBar 31 = .ok (.iaload, 1) := by decide +kernel
theorem dX4_firstBar_32 : decode cX4_firstBar 32 = .ok (.if_icmp .gt 6, 3) := by decide +kernel
theorem dX4_firstBar_35 : decode cX4_firstBar 35 = .ok (.bipush (-2), 2) := by decide +kernel
theorem dX4_firstBar_37 : decode cX4_firstBar 37 = .ok (.ireturn, 1) := by decide +kernel
theorem dX4_firstBar_38 : decode cX4_firstBar 38 = .ok (.aload_n 0, 1) := by decide +kernel
theorem dX4_firstBar_39 : decode cX4_firstBar 39 = .ok (.getfield 12, 3) := by decide +kernel
theorem dX4_firstBar_42 : decode cX4_firstBar 42 = .ok (.getfield 97, 3) := by decide +kernel
theorem dX4_firstBar_45 : decode cX4_firstBar 45 = .ok (.astore 4, 2) := by decide +kernel
theorem dX4_firstBar_47 : decode cX4_firstBar 47 = .ok (.aload_n 0, 1) := by decide +kernel
theorem dX4_firstBar_48 : decode cX4_firstBar 48 = .ok (.getfield 12, 3) := by decide +kernel
theorem dX4_firstBar_51 : decode cX4_firstBar 51 = .ok (.invokevirtual 94, 3) := by decide +kernel
theorem dX4_firstBar_54 : decode cX4_firstBar 54 = .ok (.aload 4, 2) := by decide +kernel
theorem dX4_firstBar_56 : decode cX4_firstBar 56 = .ok (.bipush 6, 2) := by decide +kernel
theorem dX4_firstBar_58 : decode cX4_firstBar 58 = .ok (.aload_n 0, 1) := by decide +kernel
theorem dX4_firstBar_59 : decode cX4_firstBar 59 = .ok (.getfield 53, 3) := by decide +kernel
theorem dX4_firstBar_62 : decode cX4_firstBar 62 = .ok (.iload_n 2, 1) := by decide +kernel
theorem dX4_firstBar_63 : decode cX4_firstBar 63 = .ok (.iload_n 3, 1) := by decide +kernel
theorem dX4_firstBar_64 : decode cX4_firstBar 64 = .ok (.invokevirtual 171, 3) := by decide +kernel
theorem dX4_firstBar_67 : decode cX4_firstBar 67 = .ok (.iastore, 1) := by decide +kernel
theorem dX4_firstBar_68 : decode cX4_firstBar 68 = .ok (.aload 4, 2) := by decide +kernel
theorem dX4_firstBar_70 : decode cX4_firstBar 70 = .ok (.bipush 7, 2) := by decide +kernel
theorem dX4_firstBar_72 : decode cX4_firstBar 72 = .ok (.aload_n 0, 1) := by decide +kernel
theorem dX4_firstBar_73 : decode cX4_firstBar 73 = .ok (.iload_n 2, 1) := by decide +kernel
theorem dX4_firstBar_74 : decode cX4_firstBar 74 = .ok (.aload_n 0, 1) := by decide +kernel
theorem dX4_firstBar_75 : decode cX4_firstBar 75 = .ok (.getfield 25, 3) := by decide +kernel
theorem dX4_firstBar_78 : decode cX4_firstBar 78 = .ok (.iload_n 1, 1) := by decide +kernel
theorem dX4_firstBar_79 : decode cX4_firstBar 79 = .ok (.iaload, 1) := by decide +kernel
theorem dX4_firstBar_80 : decode cX4_firstBar 80 = .ok (.invokevirtual 192, 3) := by decide +kernel
theorem dX4_firstBar_83 : decode cX4_firstBar 83 = .ok (.aload_n 0, 1) := by decide +kernel
theorem dX4_firstBar_84 : decode cX4_firstBar 84 = .ok (.iload_n 3, 1) := by decide +kernel
theorem dX4_firstBar_85 : decode cX4_firstBar 85 = .ok (.aload_n 0, 1) := by decide +kernel
theorem dX4_firstBar_86 : decode cX4_firstBar 86 = .ok (.getfield 25, 3) := by decide +kernel
theorem dX4_firstBar_89 : decode cX4_firstBar 89 = .ok (.iload_n 1, 1) := by decide +kernel
theorem dX4_firstBar_90 : decode cX4_firstBar 90 = .ok (.iaload, 1) := by decide +kernel
theorem dX4_firstBar_91 : decode cX4_firstBar 91 = .ok (.invokevirtual 192, 3) := by decide +kernel
theorem dX4_firstBar_94 : decode cX4_firstBar 94 = .ok (.iadd, 1) := by decide +kernel
theorem dX4_firstBar_95 : decode cX4_firstBar 95 = .ok (.iastore, 1) := by decide +kernel
theorem dX4_firstBar_96 : decode cX4_firstBar 96 = .ok (.aload 4, 2) := by decide +kernel
theorem dX4_firstBar_98 : decode cX4_firstBar 98 = .ok (.bipush 8, 2) := by decide +kernel
theorem dX4_firstBar_100 : decode cX4_firstBar 100 = .ok (.aload_n 0, 1) := by decide +kernel
theorem dX4_firstBar_101 : decode cX4_firstBar 101 = .ok (.getfield 61, 3) := by decide +kernel
theorem dX4_firstBar_104 : decode cX4_firstBar 104 = .ok (.iload_n 2, 1) := by decide +kernel
theorem dX4_firstBar_105 : decode cX4_firstBar 105 = .ok (.iload_n 3, 1) := by decide +kernel
theorem dX4_firstBar_106 : decode cX4_firstBar 106 = .ok (.invokevirtual 195, 3) := by decide +kernel
theorem dX4_firstBar_109 : decode cX4_firstBar 109 = .ok (.aload_n 0, 1) := by decide +kernel
theorem dX4_firstBar_110 : decode cX4_firstBar 110 = .ok (.getfield 25, 3) := by decide +kernel
theorem dX4_firstBar_113 : decode cX4_firstBar 113 = .ok (.iload_n 1, 1) := by decide +kernel
theorem dX4_firstBar_114 : decode cX4_firstBar 114 = .ok (.iaload, 1) := by decide +kernel
theorem dX4_firstBar_115 : decode cX4_firstBar 115 = .ok (.if_icmp .gt 7, 3) := by decide +kernel
theorem dX4_firstBar_118 : decode cX4_firstBar 118 = .ok (.iconst 1, 1) := by decide +kernel
theorem dX4_firstBar_119 : decode cX4_firstBar 119 = .ok (.goto 4, 3) := by decide +kernel
theorem dX4_firstBar_122 : decode cX4_firstBar 122 = .ok (.iconst 0, 1) := by decide +kernel
theorem dX4_firstBar_123 : decode cX4_firstBar 123 = .ok (.iastore, 1) := by decide +kernel
theorem dX4_firstBar_124 : decode cX4_firstBar 124 = .ok (.aload_n 0, 1) := by decide +kernel
theorem dX4_firstBar_125 : decode cX4_firstBar 125 = .ok (.getfield 25, 3) := by decide +kernel
theorem dX4_firstBar_128 : decode cX4_firstBar 128 = .ok (.iload_n 1, 1) := by decide +kernel
theorem dX4_firstBar_129 : decode cX4_firstBar 129 = .ok (.iaload, 1) := by decide +kernel
theorem dX4_firstBar_130 : decode cX4_firstBar 130 = .ok (.aload_n 0, 1) := by decide +kernel
theorem dX4_firstBar_131 : decode cX4_firstBar 131 = .ok (.getfield 53, 3) := by decide +kernel
theorem dX4_firstBar_134 : decode cX4_firstBar 134 = .ok (.getfield 198, 3) := by decide +kernel
theorem dX4_firstBar_137 : decode cX4_firstBar 137 = .ok (.iload_n 2, 1) := by decide +kernel
theorem dX4_firstBar_138 : decode cX4_firstBar 138 = .ok (.iaload, 1) := by decide +kernel
theorem dX4_firstBar_139 : decode cX4_firstBar 139 = .ok (.aload_n 0, 1) := by decide +kernel
theorem dX4_firstBar_140 : decode cX4_firstBar 140 = .ok (.getfield 53, 3) := by decide +kernel
theorem dX4_firstBar_143 : decode cX4_firstBar 143 = .ok (.getfield 198, 3) := by decide +kernel
theorem dX4_firstBar_146 : decode cX4_firstBar 146 = .ok (.iload_n 3, 1) := by decide +kernel
theorem dX4_firstBar_147 : decode cX4_firstBar 147 = .ok (.iaload, 1) := by decide +kernel
theorem dX4_firstBar_148 : decode cX4_firstBar 148 = .ok (.invokestatic 143, 3) := by decide +kernel
theorem dX4_firstBar_151 : decode cX4_firstBar 151 = .ok (.isub, 1) := by decide +kernel
theorem dX4_firstBar_152 : decode cX4_firstBar 152 = .ok (.istore 5, 2) := by decide +kernel
theorem dX4_firstBar_154 : decode cX4_firstBar 154 = .ok (.aload 4, 2) := by decide +kernel
theorem dX4_firstBar_156 : decode cX4_firstBar 156 = .ok (.iconst 5, 1) := by decide +kernel
theorem dX4_firstBar_157 : decode cX4_firstBar 157 = .ok (.iconst 0, 1) := by decide +kernel
theorem dX4_firstBar_158 : decode cX4_firstBar 158 = .ok (.iload 5, 2) := by decide +kernel
theorem dX4_firstBar_160 : decode cX4_firstBar 160 = .ok (.invokestatic 143, 3) := by decide +kernel
theorem dX4_firstBar_163 : decode cX4_firstBar 163 = .ok (.sipush 365, 3) := by decide +kernel
theorem dX4_firstBar_166 : decode cX4_firstBar 166 = .ok (.idiv, 1) := by decide +kernel
theorem dX4_firstBar_167 : decode cX4_firstBar 167 = .ok (.iastore, 1) := by decide +kernel
theorem dX4_firstBar_168 : decode cX4_firstBar 168 = .ok (.aload 4, 2) := by decide +kernel
theorem dX4_firstBar_170 : decode cX4_firstBar 170 = .ok (.iconst 4, 1) := by decide +kernel
theorem dX4_firstBar_171 : decode cX4_firstBar 171 = .ok (.aload_n 0, 1) := by decide +kernel
theorem dX4_firstBar_172 : decode cX4_firstBar 172 = .ok (.getfield 57, 3) := by decide +kernel
theorem dX4_firstBar_175 : decode cX4_firstBar 175 = .ok (.getfield 103, 3) := by decide +kernel
theorem dX4_firstBar_178 : decode cX4_firstBar 178 = .ok (.iload_n 1, 1) := by decide +kernel
theorem dX4_firstBar_179 : decode cX4_firstBar 179 = .ok (.iaload, 1) := by decide +kernel
theorem dX4_firstBar_180 : decode cX4_firstBar 180 = .ok (.iastore, 1) := by decide +kernel
theorem dX4_firstBar_181 : decode cX4_firstBar 181 = .ok (.aload_n 0, 1) := by decide +kernel
theorem dX4_firstBar_182 : decode cX4_firstBar 182 = .ok (.iload_n 1, 1) := by decide +kernel
theorem dX4_firstBar_183 : decode cX4_firstBar 183 = .ok (.invokevirtual 106, 3) := by decide +kernel
theorem dX4_firstBar_186 : decode cX4_firstBar 186 = .ok (.sipush 10001, 3) := by decide +kernel
theorem dX4_firstBar_189 : decode cX4_firstBar 189 = .ok (.aload_n 0, 1) := by decide +kernel
theorem dX4_firstBar_190 : decode cX4_firstBar 190 = .ok (.getfield 12, 3) := by decide +kernel
theorem dX4_firstBar_193 : decode cX4_firstBar 193 = .ok (.invokevirtual 134, 3) := by decide +kernel
theorem dX4_firstBar_196 : decode cX4_firstBar 196 = .ok (.ireturn, 1) := by decide +kernel
theorem dX4_firstOfBoth_0 : decode cX4_firstOfBoth 0 = .ok (.aload_n 0, 1) := by decide +kernel
