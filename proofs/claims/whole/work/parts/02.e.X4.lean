theorem dX4_firstOfBoth_1 : decode cX4_firstOfBoth 1 = .ok (.getfield 61, 3) := by decide +kernel
theorem dX4_firstOfBoth_4 : decode cX4_firstOfBoth 4 = .ok (.iload_n 1, 1) := by decide +kernel
theorem dX4_firstOfBoth_5 : decode cX4_firstOfBoth 5 = .ok (.aload_n 0, 1) := by decide +kernel
theorem dX4_firstOfBoth_6 : decode cX4_firstOfBoth 6 = .ok (.getfield 57, 3) := by decide +kernel
theorem dX4_firstOfBoth_9 : decode cX4_firstOfBoth 9 = .ok (.getfield 168, 3) := by decide +kernel
theorem dX4_firstOfBoth_12 : decode cX4_firstOfBoth 12 = .ok (.iload_n 2, 1) := by decide +kernel
theorem dX4_firstOfBoth_13 : decode cX4_firstOfBoth 13 = .ok (.iaload, 1) := by decide +kernel
theorem dX4_firstOfBoth_14 : decode cX4_firstOfBoth 14 = .ok (.invokevirtual 201, 3) := by decide +kernel
theorem dX4_firstOfBoth_17 : decode cX4_firstOfBoth 17 = .ok (.aload_n 0, 1) := by decide +kernel
theorem dX4_firstOfBoth_18 : decode cX4_firstOfBoth 18 = .ok (.getfield 61, 3) := by decide +kernel
theorem dX4_firstOfBoth_21 : decode cX4_firstOfBoth 21 = .ok (.iload_n 1, 1) := by decide +kernel
theorem dX4_firstOfBoth_22 : decode cX4_firstOfBoth 22 = .ok (.aload_n 0, 1) := by decide +kernel
theorem dX4_firstOfBoth_23 : decode cX4_firstOfBoth 23 = .ok (.getfield 57, 3) := by decide +kernel
theorem dX4_firstOfBoth_26 : decode cX4_firstOfBoth 26 = .ok (.getfield 174, 3) := by decide +kernel
theorem dX4_firstOfBoth_29 : decode cX4_firstOfBoth 29 = .ok (.iload_n 2, 1) := by decide +kernel
theorem dX4_firstOfBoth_30 : decode cX4_firstOfBoth 30 = .ok (.iaload, 1) := by decide +kernel
theorem dX4_firstOfBoth_31 : decode cX4_firstOfBoth 31 = .ok (.invokevirtual 201, 3) := by decide +kernel
theorem dX4_firstOfBoth_34 : decode cX4_firstOfBoth 34 = .ok (.invokestatic 204, 3) := by decide +kernel
theorem dX4_firstOfBoth_37 : decode cX4_firstOfBoth 37 = .ok (.ireturn, 1) := by decide +kernel
theorem dX4_vowed_0 : decode cX4_vowed 0 = .ok (.aload_n 0, 1) := by decide +kernel
theorem dX4_vowed_1 : decode cX4_vowed 1 = .ok (.getfield 61, 3) := by decide +kernel
theorem dX4_vowed_4 : decode cX4_vowed 4 = .ok (.iconst 1, 1) := by decide +kernel
theorem dX4_vowed_5 : decode cX4_vowed 5 = .ok (.iload_n 1, 1) := by decide +kernel
theorem dX4_vowed_6 : decode cX4_vowed 6 = .ok (.invokevirtual 201, 3) := by decide +kernel
theorem dX4_vowed_9 : decode cX4_vowed 9 = .ok (.iload_n 2, 1) := by decide +kernel
theorem dX4_vowed_10 : decode cX4_vowed 10 = .ok (.if_icmp .gt 7, 3) := by decide +kernel
theorem dX4_vowed_13 : decode cX4_vowed 13 = .ok (.iconst 1, 1) := by decide +kernel
theorem dX4_vowed_14 : decode cX4_vowed 14 = .ok (.goto 4, 3) := by decide +kernel
theorem dX4_vowed_17 : decode cX4_vowed 17 = .ok (.iconst 0, 1) := by decide +kernel
theorem dX4_vowed_18 : decode cX4_vowed 18 = .ok (.ireturn, 1) := by decide +kernel
theorem dX4_isRival_0 : decode cX4_isRival 0 = .ok (.aload_n 0, 1) := by decide +kernel
theorem dX4_isRival_1 : decode cX4_isRival 1 = .ok (.getfield 28, 3) := by decide +kernel
theorem dX4_isRival_4 : decode cX4_isRival 4 = .ok (.iload_n 1, 1) := by decide +kernel
theorem dX4_isRival_5 : decode cX4_isRival 5 = .ok (.iaload, 1) := by decide +kernel
theorem dX4_isRival_6 : decode cX4_isRival 6 = .ok (.bipush 6, 2) := by decide +kernel
theorem dX4_isRival_8 : decode cX4_isRival 8 = .ok (.if_icmp .ne 34, 3) := by decide +kernel
theorem dX4_isRival_11 : decode cX4_isRival 11 = .ok (.aload_n 0, 1) := by decide +kernel
theorem dX4_isRival_12 : decode cX4_isRival 12 = .ok (.getfield 37, 3) := by decide +kernel
theorem dX4_isRival_15 : decode cX4_isRival 15 = .ok (.iload_n 1, 1) := by decide +kernel
theorem dX4_isRival_16 : decode cX4_isRival 16 = .ok (.iaload, 1) := by decide +kernel
theorem dX4_isRival_17 : decode cX4_isRival 17 = .ok (.aload_n 0, 1) := by decide +kernel
theorem dX4_isRival_18 : decode cX4_isRival 18 = .ok (.getfield 25, 3) := by decide +kernel
theorem dX4_isRival_21 : decode cX4_isRival 21 = .ok (.iload_n 2, 1) := by decide +kernel
theorem dX4_isRival_22 : decode cX4_isRival 22 = .ok (.iaload, 1) := by decide +kernel
theorem dX4_isRival_23 : decode cX4_isRival 23 = .ok (.if_icmp .le 19, 3) := by decide +kernel
theorem dX4_isRival_26 : decode cX4_isRival 26 = .ok (.aload_n 0, 1) := by decide +kernel
theorem dX4_isRival_27 : decode cX4_isRival 27 = .ok (.getfield 57, 3) := by decide +kernel
theorem dX4_isRival_30 : decode cX4_isRival 30 = .ok (.iload_n 1, 1) := by decide +kernel
theorem dX4_isRival_31 : decode cX4_isRival 31 = .ok (.iload_n 2, 1) := by decide +kernel
theorem dX4_isRival_32 : decode cX4_isRival 32 = .ok (.invokevirtual 207, 3) := by decide +kernel
theorem dX4_isRival_35 : decode cX4_isRival 35 = .ok (.ifCond .eq 7, 3) := by decide +kernel
theorem dX4_isRival_38 : decode cX4_isRival 38 = .ok (.iconst 1, 1) := by decide +kernel
theorem dX4_isRival_39 : decode cX4_isRival 39 = .ok (.goto 4, 3) := by decide +kernel
theorem dX4_isRival_42 : decode cX4_isRival 42 = .ok (.iconst 0, 1) := by decide +kernel
theorem dX4_isRival_43 : decode cX4_isRival 43 = .ok (.ireturn, 1) := by decide +kernel
theorem dX4_firstUnyielding_0 : decode cX4_firstUnyielding 0 = .ok (.aload_n 0, 1) := by decide +kernel
theorem dX4_firstUnyielding_1 : decode cX4_firstUnyielding 1 = .ok (.iload_n 1, 1) := by decide +kernel
theorem dX4_firstUnyielding_2 : decode cX4_firstUnyielding 2 = .ok (.invokevirtual 106, 3) := by decide +kernel
theorem dX4_firstUnyielding_5 : decode cX4_firstUnyielding 5 = .ok (.astore_n 2, 1) := by decide +kernel
theorem dX4_firstUnyielding_6 : decode cX4_firstUnyielding 6 = .ok (.iconst 0, 1) := by decide +kernel
theorem dX4_firstUnyielding_7 : decode cX4_firstUnyielding 7 = .ok (.istore_n 3, 1) := by decide +kernel
theorem dX4_firstUnyielding_8 : decode cX4_firstUnyielding 8 = .ok (.iload_n 3, 1) := by decide +kernel
theorem dX4_firstUnyielding_9 : decode cX4_firstUnyielding 9 = .ok (.aload_n 0, 1) := by decide +kernel
theorem dX4_firstUnyielding_10 : decode cX4_firstUnyielding 10 = .ok (.getfield 57, 3) := by decide +kernel
theorem dX4_firstUnyielding_13 : decode cX4_firstUnyielding 13 = .ok (.getfield 71, 3) := by decide +kernel
theorem dX4_firstUnyielding_16 : decode cX4_firstUnyielding 16 = .ok (.if_icmp .ge 115, 3) := by decide +kernel
theorem dX4_firstUnyielding_19 : decode cX4_firstUnyielding 19 = .ok (.aload_n 0, 1) := by decide +kernel
theorem dX4_firstUnyielding_20 : decode cX4_firstUnyielding 20 = .ok (.iload_n 3, 1) := by decide +kernel
theorem dX4_firstUnyielding_21 : decode cX4_firstUnyielding 21 = .ok (.iload_n 1, 1) := by decide +kernel
theorem dX4_firstUnyielding_22 : decode cX4_firstUnyielding 22 = .ok (.invokevirtual 210, 3) := by decide +kernel
theorem dX4_firstUnyielding_25 : decode cX4_firstUnyielding 25 = .ok (.ifCond .eq 100, 3) := by decide +kernel
theorem dX4_firstUnyielding_28 : decode cX4_firstUnyielding 28 = .ok (.aload_n 0, 1) := by decide +kernel
theorem dX4_firstUnyielding_29 : decode cX4_firstUnyielding 29 = .ok (.getfield 57, 3) := by decide +kernel
theorem dX4_firstUnyielding_32 : decode cX4_firstUnyielding 32 = .ok (.iload_n 3, 1) := by decide +kernel
theorem dX4_firstUnyielding_33 : decode cX4_firstUnyielding 33 = .ok (.iload_n 1, 1) := by decide +kernel
theorem dX4_firstUnyielding_34 : decode cX4_firstUnyielding 34 = .ok (.invokevirtual 207, 3) := by decide +kernel
theorem dX4_firstUnyielding_37 : decode cX4_firstUnyielding 37 = .ok (.iconst 3, 1) := by decide +kernel
theorem dX4_firstUnyielding_38 : decode cX4_firstUnyielding 38 = .ok (.if_icmp .eq 87, 3) := by decide +kernel
theorem dX4_firstUnyielding_41 : decode cX4_firstUnyielding 41 = .ok (.aload_n 0, 1) := by decide +kernel
theorem dX4_firstUnyielding_42 : decode cX4_firstUnyielding 42 = .ok (.getfield 12, 3) := by decide +kernel
theorem dX4_firstUnyielding_45 : decode cX4_firstUnyielding 45 = .ok (.invokevirtual 94, 3) := by decide +kernel
theorem dX4_firstUnyielding_48 : decode cX4_firstUnyielding 48 = .ok (.aload_n 0, 1) := by decide +kernel
theorem dX4_firstUnyielding_49 : decode cX4_firstUnyielding 49 = .ok (.getfield 12, 3) := by decide +kernel
theorem dX4_firstUnyielding_52 : decode cX4_firstUnyielding 52 = .ok (.getfield 97, 3) := by decide +kernel
theorem dX4_firstUnyielding_55 : decode cX4_firstUnyielding 55 = .ok (.bipush 9, 2) := by decide +kernel
theorem dX4_firstUnyielding_57 : decode cX4_firstUnyielding 57 = .ok (.aload_n 0, 1) := by decide +kernel
theorem dX4_firstUnyielding_58 : decode cX4_firstUnyielding 58 = .ok (.getfield 57, 3) := by decide +kernel
theorem dX4_firstUnyielding_61 : decode cX4_firstUnyielding 61 = .ok (.getfield 103, 3) := by decide +kernel
theorem dX4_firstUnyielding_64 : decode cX4_firstUnyielding 64 = .ok (.iload_n 3, 1) := by decide +kernel
theorem dX4_firstUnyielding_65 : decode cX4_firstUnyielding 65 = .ok (.iaload, 1) := by decide +kernel
theorem dX4_firstUnyielding_66 : decode cX4_firstUnyielding 66 = .ok (.iastore, 1) := by decide +kernel
theorem dX4_firstUnyielding_67 : decode cX4_firstUnyielding 67 = .ok (.aload_n 0, 1) := by decide +kernel
theorem dX4_firstUnyielding_68 : decode cX4_firstUnyielding 68 = .ok (.getfield 12, 3) := by decide +kernel
theorem dX4_firstUnyielding_71 : decode cX4_firstUnyielding 71 = .ok (.getfield 97, 3) := by decide +kernel
theorem dX4_firstUnyielding_74 : decode cX4_firstUnyielding 74 = .ok (.iconst 4, 1) := by decide +kernel
theorem dX4_firstUnyielding_75 : decode cX4_firstUnyielding 75 = .ok (.aload_n 0, 1) := by decide +kernel
theorem dX4_firstUnyielding_76 : decode cX4_firstUnyielding 76 = .ok (.getfield 57, 3) := by decide +kernel
theorem dX4_firstUnyielding_79 : decode cX4_firstUnyielding 79 = .ok (.getfield 103, 3) := by decide +kernel
theorem dX4_firstUnyielding_82 : decode cX4_firstUnyielding 82 = .ok (.iload_n 1, 1) := by decide +kernel
theorem dX4_firstUnyielding_83 : decode cX4_firstUnyielding 83 = .ok (.iaload, 1) := by decide +kernel
theorem dX4_firstUnyielding_84 : decode cX4_firstUnyielding 84 = .ok (.iastore, 1) := by decide +kernel
theorem dX4_firstUnyielding_85 : decode cX4_firstUnyielding 85 = .ok (.aload_n 0, 1) := by decide +kernel
theorem dX4_firstUnyielding_86 : decode cX4_firstUnyielding 86 = .ok (.getfield 12, 3) := by decide +kernel
theorem dX4_firstUnyielding_89 : decode cX4_firstUnyielding 89 = .ok (.getfield 97, 3) := by decide +kernel
theorem dX4_firstUnyielding_92 : decode cX4_firstUnyielding 92 = .ok (.bipush 11, 2) := by decide +kernel
theorem dX4_firstUnyielding_94 : decode cX4_firstUnyielding 94 = .ok (.aload_n 0, 1) := by decide +kernel
theorem dX4_firstUnyielding_95 : decode cX4_firstUnyielding 95 = .ok (.getfield 25, 3) := by decide +kernel
theorem dX4_firstUnyielding_98 : decode cX4_firstUnyielding 98 = .ok (.iload_n 1, 1) := by decide +kernel
theorem dX4_firstUnyielding_99 : decode cX4_firstUnyielding 99 = .ok (.iaload, 1) := by decide +kernel
theorem dX4_firstUnyielding_100 : decode cX4_firstUnyielding 100 = .ok (.aload_n 0, 1) := by decide +kernel
theorem dX4_firstUnyielding_101 : decode cX4_firstUnyielding 101 = .ok (.getfield 25, 3) := by decide +kernel
theorem dX4_firstUnyielding_104 : decode cX4_firstUnyielding 104 = .ok (.iload_n 3, 1) := by decide +kernel
theorem dX4_firstUnyielding_105 : decode cX4_firstUnyielding 105 = .ok (.iaload, 1) := by decide +kernel
theorem dX4_firstUnyielding_106 : decode cX4_firstUnyielding 106 = .ok (.isub, 1) := by decide +kernel
theorem dX4_firstUnyielding_107 : decode cX4_firstUnyielding 107 = .ok (.iastore, 1) := by decide +kernel
theorem dX4_firstUnyielding_108 : decode cX4_firstUnyielding 108 = .ok (.aload_n 2, 1) := by decide +kernel
theorem dX4_firstUnyielding_109 : decode cX4_firstUnyielding 109 = .ok (.sipush 10002, 3) := by decide +kernel
theorem dX4_firstUnyielding_112 : decode cX4_firstUnyielding 112 = .ok (.aload_n 0, 1) := by decide +kernel
theorem dX4_firstUnyielding_113 : decode cX4_firstUnyielding 113 = .ok (.getfield 12, 3) := by decide +kernel
theorem dX4_firstUnyielding_116 : decode cX4_firstUnyielding 116 = .ok (.invokevirtual 134, 3) := by decide +kernel
theorem dX4_firstUnyielding_119 : decode cX4_firstUnyielding 119 = .ok (.iconst (-1), 1) := by decide +kernel
theorem dX4_firstUnyielding_120 : decode cX4_firstUnyielding 120 = .ok (.if_icmp .ne 5, 3) := by decide +kernel
theorem dX4_firstUnyielding_123 : decode cX4_firstUnyielding 123 = .ok (.iload_n 3, 1) := by decide +kernel
theorem dX4_firstUnyielding_124 : decode cX4_firstUnyielding 124 = .ok (.ireturn, 1) := by decide +kernel
theorem dX4_firstUnyielding_125 : decode cX4_firstUnyielding 125 = .ok (.iinc 3 1, 3) := by decide +kernel
theorem dX4_firstUnyielding_128 : decode cX4_firstUnyielding 128 = .ok (.goto (-120), 3) := by decide +kernel
theorem dX4_firstUnyielding_131 : decode cX4_firstUnyielding 131 = .ok (.iconst (-1), 1) := by decide +kernel
theorem dX4_firstUnyielding_132 : decode cX4_firstUnyielding 132 = .ok (.ireturn, 1) := by decide +kernel
theorem dX4_endRivals_0 : decode cX4_endRivals 0 = .ok (.iconst 0, 1) := by decide +kernel
theorem dX4_endRivals_1 : decode cX4_endRivals 1 = .ok (.istore_n 2, 1) := by decide +kernel
theorem dX4_endRivals_2 : decode cX4_endRivals 2 = .ok (.iload_n 2, 1) := by decide +kernel
theorem dX4_endRivals_3 : decode cX4_endRivals 3 = .ok (.aload_n 0, 1) := by decide +kernel
theorem dX4_endRivals_4 : decode cX4_endRivals 4 = .ok (.getfield 57, 3) := by decide +kernel
theorem dX4_endRivals_7 : decode cX4_endRivals 7 = .ok (.getfield 71, 3) := by decide +kernel
theorem dX4_endRivals_10 : decode cX4_endRivals 10 = .ok (.if_icmp .ge 71, 3) := by decide +kernel
theorem dX4_endRivals_13 : decode cX4_endRivals 13 = .ok (.aload_n 0, 1) := by decide +kernel
theorem dX4_endRivals_14 : decode cX4_endRivals 14 = .ok (.iload_n 2, 1) := by decide +kernel
theorem dX4_endRivals_15 : decode cX4_endRivals 15 = .ok (.iload_n 1, 1) := by decide +kernel
theorem dX4_endRivals_16 : decode cX4_endRivals 16 = .ok (.invokevirtual 210, 3) := by decide +kernel
theorem dX4_endRivals_19 : decode cX4_endRivals 19 = .ok (.ifCond .eq 56, 3) := by decide +kernel
theorem dX4_endRivals_22 : decode cX4_endRivals 22 = .ok (.aload_n 0, 1) := by decide +kernel
theorem dX4_endRivals_23 : decode cX4_endRivals 23 = .ok (.getfield 57, 3) := by decide +kernel
theorem dX4_endRivals_26 : decode cX4_endRivals 26 = .ok (.iload_n 2, 1) := by decide +kernel
theorem dX4_endRivals_27 : decode cX4_endRivals 27 = .ok (.iload_n 1, 1) := by decide +kernel
theorem dX4_endRivals_28 : decode cX4_endRivals 28 = .ok (.invokevirtual 207, 3) := by decide +kernel
theorem dX4_endRivals_31 : decode cX4_endRivals 31 = .ok (.istore_n 3, 1) := by decide +kernel
theorem dX4_endRivals_32 : decode cX4_endRivals 32 = .ok (.aload_n 0, 1) := by decide +kernel
theorem dX4_endRivals_33 : decode cX4_endRivals 33 = .ok (.getfield 37, 3) := by decide +kernel
theorem dX4_endRivals_36 : decode cX4_endRivals 36 = .ok (.iload_n 2, 1) := by decide +kernel
theorem dX4_endRivals_37 : decode cX4_endRivals 37 = .ok (.aload_n 0, 1) := by decide +kernel
theorem dX4_endRivals_38 : decode cX4_endRivals 38 = .ok (.getfield 25, 3) := by decide +kernel
theorem dX4_endRivals_41 : decode cX4_endRivals 41 = .ok (.iload_n 1, 1) := by decide +kernel
theorem dX4_endRivals_42 : decode cX4_endRivals 42 = .ok (.iaload, 1) := by decide +kernel
theorem dX4_endRivals_43 : decode cX4_endRivals 43 = .ok (.iastore, 1) := by decide +kernel
theorem dX4_endRivals_44 : decode cX4_endRivals 44 = .ok (.aload_n 0, 1) := by decide +kernel
theorem dX4_endRivals_45 : decode cX4_endRivals 45 = .ok (.getfield 40, 3) := by decide +kernel
theorem dX4_endRivals_48 : decode cX4_endRivals 48 = .ok (.iload_n 2, 1) := by decide +kernel
theorem dX4_endRivals_49 : decode cX4_endRivals 49 = .ok (.bipush 9, 2) := by decide +kernel
theorem dX4_endRivals_51 : decode cX4_endRivals 51 = .ok (.iastore, 1) := by decide +kernel
theorem dX4_endRivals_52 : decode cX4_endRivals 52 = .ok (.aload_n 0, 1) := by decide +kernel
theorem dX4_endRivals_53 : decode cX4_endRivals 53 = .ok (.getfield 43, 3) := by decide +kernel
theorem dX4_endRivals_56 : decode cX4_endRivals 56 = .ok (.iload_n 2, 1) := by decide +kernel
theorem dX4_endRivals_57 : decode cX4_endRivals 57 = .ok (.iload_n 1, 1) := by decide +kernel
theorem dX4_endRivals_58 : decode cX4_endRivals 58 = .ok (.iastore, 1) := by decide +kernel
theorem dX4_endRivals_59 : decode cX4_endRivals 59 = .ok (.aload_n 0, 1) := by decide +kernel
theorem dX4_endRivals_60 : decode cX4_endRivals 60 = .ok (.getfield 46, 3) := by decide +kernel
theorem dX4_endRivals_63 : decode cX4_endRivals 63 = .ok (.iload_n 2, 1) := by decide +kernel
theorem dX4_endRivals_64 : decode cX4_endRivals 64 = .ok (.iload_n 3, 1) := by decide +kernel
theorem dX4_endRivals_65 : decode cX4_endRivals 65 = .ok (.iconst 3, 1) := by decide +kernel
theorem dX4_endRivals_66 : decode cX4_endRivals 66 = .ok (.if_icmp .ne 7, 3) := by decide +kernel
theorem dX4_endRivals_69 : decode cX4_endRivals 69 = .ok (.iconst 0, 1) := by decide +kernel
theorem dX4_endRivals_70 : decode cX4_endRivals 70 = .ok (.goto 4, 3) := by decide +kernel
theorem dX4_endRivals_73 : decode cX4_endRivals 73 = .ok (.iload_n 3, 1) := by decide +kernel
theorem dX4_endRivals_74 : decode cX4_endRivals 74 = .ok (.iastore, 1) := by decide +kernel
theorem dX4_endRivals_75 : decode cX4_endRivals 75 = .ok (.iinc 2 1, 3) := by decide +kernel
theorem dX4_endRivals_78 : decode cX4_endRivals 78 = .ok (.goto (-76), 3) := by decide +kernel
theorem dX4_endRivals_81 : decode cX4_endRivals 81 = .ok (.return_, 1) := by decide +kernel
theorem dX4_findEnd_0 : decode cX4_findEnd 0 = .ok (.aload_n 0, 1) := by decide +kernel
theorem dX4_findEnd_1 : decode cX4_findEnd 1 = .ok (.iconst 0, 1) := by decide +kernel
theorem dX4_findEnd_2 : decode cX4_findEnd 2 = .ok (.iload_n 1, 1) := by decide +kernel
theorem dX4_findEnd_3 : decode cX4_findEnd 3 = .ok (.invokevirtual 189, 3) := by decide +kernel
theorem dX4_findEnd_6 : decode cX4_findEnd 6 = .ok (.istore_n 2, 1) := by decide +kernel
theorem dX4_findEnd_7 : decode cX4_findEnd 7 = .ok (.iload_n 2, 1) := by decide +kernel
theorem dX4_findEnd_8 : decode cX4_findEnd 8 = .ok (.sipush 10000, 3) := by decide +kernel
theorem dX4_findEnd_11 : decode cX4_findEnd 11 = .ok (.if_icmp .ge 18, 3) := by decide +kernel
theorem dX4_findEnd_14 : decode cX4_findEnd 14 = .ok (.aload_n 0, 1) := by decide +kernel
theorem dX4_findEnd_15 : decode cX4_findEnd 15 = .ok (.getfield 37, 3) := by decide +kernel
theorem dX4_findEnd_18 : decode cX4_findEnd 18 = .ok (.iload_n 1, 1) := by decide +kernel
theorem dX4_findEnd_19 : decode cX4_findEnd 19 = .ok (.iload_n 2, 1) := by decide +kernel
theorem dX4_findEnd_20 : decode cX4_findEnd 20 = .ok (.iastore, 1) := by decide +kernel
theorem dX4_findEnd_21 : decode cX4_findEnd 21 = .ok (.aload_n 0, 1) := by decide +kernel
theorem dX4_findEnd_22 : decode cX4_findEnd 22 = .ok (.getfield 40, 3) := by decide +kernel
theorem dX4_findEnd_25 : decode cX4_findEnd 25 = .ok (.iload_n 1, 1) := by decide +kernel
theorem dX4_findEnd_26 : decode cX4_findEnd 26 = .ok (.bipush 7, 2) := by decide +kernel
theorem dX4_findEnd_28 : decode cX4_findEnd 28 = .ok (.iastore, 1) := by decide +kernel
theorem dX4_findEnd_29 : decode cX4_findEnd 29 = .ok (.aload_n 0, 1) := by decide +kernel
theorem dX4_findEnd_30 : decode cX4_findEnd 30 = .ok (.iload_n 1, 1) := by decide +kernel
theorem dX4_findEnd_31 : decode cX4_findEnd 31 = .ok (.invokevirtual 106, 3) := by decide +kernel
theorem dX4_findEnd_34 : decode cX4_findEnd 34 = .ok (.invokevirtual 213, 3) := by decide +kernel
theorem dX4_findEnd_37 : decode cX4_findEnd 37 = .ok (.istore_n 3, 1) := by decide +kernel
theorem dX4_findEnd_38 : decode cX4_findEnd 38 = .ok (.iload_n 3, 1) := by decide +kernel
theorem dX4_findEnd_39 : decode cX4_findEnd 39 = .ok (.iconst (-1), 1) := by decide +kernel
theorem dX4_findEnd_40 : decode cX4_findEnd 40 = .ok (.if_icmp .ne 4, 3) := by decide +kernel
theorem dX4_findEnd_43 : decode cX4_findEnd 43 = .ok (.return_, 1) := by decide +kernel
theorem dX4_findEnd_44 : decode cX4_findEnd 44 = .ok (.aload_n 0, 1) := by decide +kernel
theorem dX4_findEnd_45 : decode cX4_findEnd 45 = .ok (.getfield 61, 3) := by decide +kernel
theorem dX4_findEnd_48 : decode cX4_findEnd 48 = .ok (.aload_n 0, 1) := by decide +kernel
theorem dX4_findEnd_49 : decode cX4_findEnd 49 = .ok (.getfield 57, 3) := by decide +kernel
theorem dX4_findEnd_52 : decode cX4_findEnd 52 = .ok (.getfield 168, 3) := by decide +kernel
theorem dX4_findEnd_55 : decode cX4_findEnd 55 = .ok (.iload_n 1, 1) := by decide +kernel
theorem dX4_findEnd_56 : decode cX4_findEnd 56 = .ok (.iaload, 1) := by decide +kernel
theorem dX4_findEnd_57 : decode cX4_findEnd 57 = .ok (.iload_n 3, 1) := by decide +kernel
theorem dX4_findEnd_58 : decode cX4_findEnd 58 = .ok (.aload_n 0, 1) := by decide +kernel
theorem dX4_findEnd_59 : decode cX4_findEnd 59 = .ok (.getfield 25, 3) := by decide +kernel
theorem dX4_findEnd_62 : decode cX4_findEnd 62 = .ok (.iload_n 1, 1) := by decide +kernel
theorem dX4_findEnd_63 : decode cX4_findEnd 63 = .ok (.iaload, 1) := by decide +kernel
theorem dX4_findEnd_64 : decode cX4_findEnd 64 = .ok (.invokevirtual 216, 3) := by decide +kernel
theorem dX4_findEnd_67 : decode cX4_findEnd 67 = .ok (.aload_n 0, 1) := by decide +kernel
theorem dX4_findEnd_68 : decode cX4_findEnd 68 = .ok (.getfield 61, 3) := by decide +kernel
theorem dX4_findEnd_71 : decode cX4_findEnd 71 = .ok (.aload_n 0, 1) := by decide +kernel
theorem dX4_findEnd_72 : decode cX4_findEnd 72 = .ok (.getfield 57, 3) := by decide +kernel
theorem dX4_findEnd_75 : decode cX4_findEnd 75 = .ok (.getfield 174, 3) := by decide +kernel
theorem dX4_findEnd_78 : decode cX4_findEnd 78 = .ok (.iload_n 1, 1) := by decide +kernel
theorem dX4_findEnd_79 : decode cX4_findEnd 79 = .ok (.iaload, 1) := by decide +kernel
theorem dX4_findEnd_80 : decode cX4_findEnd 80 = .ok (.iload_n 3, 1) := by decide +kernel
theorem dX4_findEnd_81 : decode cX4_findEnd 81 = .ok (.aload_n 0, 1) := by decide +kernel
theorem dX4_findEnd_82 : decode cX4_findEnd 82 = .ok (.getfield 25, 3) := by decide +kernel
theorem dX4_findEnd_85 : decode cX4_findEnd 85 = .ok (.iload_n 1, 1) := by decide +kernel
theorem dX4_findEnd_86 : decode cX4_findEnd 86 = .ok (.iaload, 1) := by decide +kernel
theorem dX4_findEnd_87 : decode cX4_findEnd 87 = .ok (.invokevirtual 216, 3) := by decide +kernel
theorem dX4_findEnd_90 : decode cX4_findEnd 90 = .ok (.invokestatic 204, 3) := by decide +kernel
theorem dX4_findEnd_93 : decode cX4_findEnd 93 = .ok (.istore 4, 2) := by decide +kernel
theorem dX4_findEnd_95 : decode cX4_findEnd 95 = .ok (.iload 4, 2) := by decide +kernel
theorem dX4_findEnd_97 : decode cX4_findEnd 97 = .ok (.aload_n 0, 1) := by decide +kernel
theorem dX4_findEnd_98 : decode cX4_findEnd 98 = .ok (.getfield 37, 3) := by decide +kernel
theorem dX4_findEnd_101 : decode cX4_findEnd 101 = .ok (.iload_n 1, 1) := by decide +kernel
theorem dX4_findEnd_102 : decode cX4_findEnd 102 = .ok (.iaload, 1) := by decide +kernel
theorem dX4_findEnd_103 : decode cX4_findEnd 103 = .ok (.if_icmp .ge 19, 3) := by decide +kernel
theorem dX4_findEnd_106 : decode cX4_findEnd 106 = .ok (.aload_n 0, 1) := by decide +kernel
theorem dX4_findEnd_107 : decode cX4_findEnd 107 = .ok (.getfield 37, 3) := by decide +kernel
theorem dX4_findEnd_110 : decode cX4_findEnd 110 = .ok (.iload_n 1, 1) := by decide +kernel
theorem dX4_findEnd_111 : decode cX4_findEnd 111 = .ok (.iload 4, 2) := by decide +kernel
theorem dX4_findEnd_113 : decode cX4_findEnd 113 = .ok (.iastore, 1) := by decide +kernel
theorem dX4_findEnd_114 : decode cX4_findEnd 114 = .ok (.aload_n 0, 1) := by decide +kernel
theorem dX4_findEnd_115 : decode cX4_findEnd 115 = .ok (.getfield 40, 3) := by decide +kernel
theorem dX4_findEnd_118 : decode cX4_findEnd 118 = .ok (.iload_n 1, 1) := by decide +kernel
theorem dX4_findEnd_119 : decode cX4_findEnd 119 = .ok (.bipush 8, 2) := by decide +kernel
theorem dX4_findEnd_121 : decode cX4_findEnd 121 = .ok (.iastore, 1) := by decide +kernel
theorem dX4_findEnd_122 : decode cX4_findEnd 122 = .ok (.return_, 1) := by decide +kernel
theorem dX5_init_0 : decode cX5_init 0 = .ok (.aload_n 0, 1) := by decide +kernel
theorem dX5_init_1 : decode cX5_init 1 = .ok (.invokespecial 3, 3) := by decide +kernel
theorem dX5_init_4 : decode cX5_init 4 = .ok (.aload_n 0, 1) := by decide +kernel
theorem dX5_init_5 : decode cX5_init 5 = .ok (.iload_n 1, 1) := by decide +kernel
theorem dX5_init_6 : decode cX5_init 6 = .ok (.putfield 9, 3) := by decide +kernel
theorem dX5_init_9 : decode cX5_init 9 = .ok (.aload_n 0, 1) := by decide +kernel
theorem dX5_init_10 : decode cX5_init 10 = .ok (.iload_n 2, 1) := by decide +kernel
theorem dX5_init_11 : decode cX5_init 11 = .ok (.putfield 15, 3) := by decide +kernel
theorem dX5_init_14 : decode cX5_init 14 = .ok (.aload_n 0, 1) := by decide +kernel
theorem dX5_init_15 : decode cX5_init 15 = .ok (.aload_n 3, 1) := by decide +kernel
theorem dX5_init_16 : decode cX5_init 16 = .ok (.putfield 18, 3) := by decide +kernel
theorem dX5_init_19 : decode cX5_init 19 = .ok (.aload_n 0, 1) := by decide +kernel
theorem dX5_init_20 : decode cX5_init 20 = .ok (.aload 4, 2) := by decide +kernel
theorem dX5_init_22 : decode cX5_init 22 = .ok (.putfield 22, 3) := by decide +kernel
theorem dX5_init_25 : decode cX5_init 25 = .ok (.return_, 1) := by decide +kernel
theorem dX5_tokenAt_0 : decode cX5_tokenAt 0 = .ok (.iload_n 1, 1) := by decide +kernel
theorem dX5_tokenAt_1 : decode cX5_tokenAt 1 = .ok (.ifCond .lt 21, 3) := by decide +kernel
theorem dX5_tokenAt_4 : decode cX5_tokenAt 4 = .ok (.iload_n 1, 1) := by decide +kernel
theorem dX5_tokenAt_5 : decode cX5_tokenAt 5 = .ok (.aload_n 0, 1) := by decide +kernel
theorem dX5_tokenAt_6 : decode cX5_tokenAt 6 = .ok (.getfield 18, 3) := by decide +kernel
theorem dX5_tokenAt_9 : decode cX5_tokenAt 9 = .ok (.arraylength, 1) := by decide +kernel
theorem dX5_tokenAt_10 : decode cX5_tokenAt 10 = .ok (.if_icmp .ge 12, 3) := by decide +kernel
theorem dX5_tokenAt_13 : decode cX5_tokenAt 13 = .ok (.aload_n 0, 1) := by decide +kernel
theorem dX5_tokenAt_14 : decode cX5_tokenAt 14 = .ok (.getfield 18, 3) := by decide +kernel
theorem dX5_tokenAt_17 : decode cX5_tokenAt 17 = .ok (.iload_n 1, 1) := by decide +kernel
theorem dX5_tokenAt_18 : decode cX5_tokenAt 18 = .ok (.iaload, 1) := by decide +kernel
theorem dX5_tokenAt_19 : decode cX5_tokenAt 19 = .ok (.goto 4, 3) := by decide +kernel
theorem dX5_tokenAt_22 : decode cX5_tokenAt 22 = .ok (.iconst (-1), 1) := by decide +kernel
theorem dX5_tokenAt_23 : decode cX5_tokenAt 23 = .ok (.ireturn, 1) := by decide +kernel
theorem dX5_firstHolding_0 : decode cX5_firstHolding 0 = .ok (.iconst 0, 1) := by decide +kernel
theorem dX5_firstHolding_1 : decode cX5_firstHolding 1 = .ok (.istore_n 3, 1) := by decide +kernel
theorem dX5_firstHolding_2 : decode cX5_firstHolding 2 = .ok (.iload_n 3, 1) := by decide +kernel
theorem dX5_firstHolding_3 : decode cX5_firstHolding 3 = .ok (.aload_n 0, 1) := by decide +kernel
theorem dX5_firstHolding_4 : decode cX5_firstHolding 4 = .ok (.getfield 22, 3) := by decide +kernel
theorem dX5_firstHolding_7 : decode cX5_firstHolding 7 = .ok (.arraylength, 1) := by decide +kernel
theorem dX5_firstHolding_8 : decode cX5_firstHolding 8 = .ok (.if_icmp .ge 41, 3) := by decide +kernel
theorem dX5_firstHolding_11 : decode cX5_firstHolding 11 = .ok (.aload_n 0, 1) := by decide +kernel
theorem dX5_firstHolding_12 : decode cX5_firstHolding 12 = .ok (.aload_n 0, 1) := by decide +kernel
theorem dX5_firstHolding_13 : decode cX5_firstHolding 13 = .ok (.getfield 22, 3) := by decide +kernel
theorem dX5_firstHolding_16 : decode cX5_firstHolding 16 = .ok (.iload_n 3, 1) := by decide +kernel
theorem dX5_firstHolding_17 : decode cX5_firstHolding 17 = .ok (.iaload, 1) := by decide +kernel
theorem dX5_firstHolding_18 : decode cX5_firstHolding 18 = .ok (.invokevirtual 25, 3) := by decide +kernel
theorem dX5_firstHolding_21 : decode cX5_firstHolding 21 = .ok (.iload_n 1, 1) := by decide +kernel
theorem dX5_firstHolding_22 : decode cX5_firstHolding 22 = .ok (.if_icmp .ne 21, 3) := by decide +kernel
theorem dX5_firstHolding_25 : decode cX5_firstHolding 25 = .ok (.aload_n 2, 1) := by decide +kernel
theorem dX5_firstHolding_26 : decode cX5_firstHolding 26 = .ok (.aload_n 0, 1) := by decide +kernel
theorem dX5_firstHolding_27 : decode cX5_firstHolding 27 = .ok (.aload_n 0, 1) := by decide +kernel
theorem dX5_firstHolding_28 : decode cX5_firstHolding 28 = .ok (.getfield 22, 3) := by decide +kernel
theorem dX5_firstHolding_31 : decode cX5_firstHolding 31 = .ok (.iload_n 3, 1) := by decide +kernel
theorem dX5_firstHolding_32 : decode cX5_firstHolding 32 = .ok (.iaload, 1) := by decide +kernel
theorem dX5_firstHolding_33 : decode cX5_firstHolding 33 = .ok (.iconst 2, 1) := by decide +kernel
theorem dX5_firstHolding_34 : decode cX5_firstHolding 34 = .ok (.iadd, 1) := by decide +kernel
theorem dX5_firstHolding_35 : decode cX5_firstHolding 35 = .ok (.invokevirtual 29, 3) := by decide +kernel
theorem dX5_firstHolding_38 : decode cX5_firstHolding 38 = .ok (.ifCond .eq 5, 3) := by decide +kernel
theorem dX5_firstHolding_41 : decode cX5_firstHolding 41 = .ok (.iload_n 3, 1) := by decide +kernel
theorem dX5_firstHolding_42 : decode cX5_firstHolding 42 = .ok (.ireturn, 1) := by decide +kernel
theorem dX5_firstHolding_43 : decode cX5_firstHolding 43 = .ok (.iinc 3 1, 3) := by decide +kernel
theorem dX5_firstHolding_46 : decode cX5_firstHolding 46 = .ok (.goto (-44), 3) := by decide +kernel
theorem dX5_firstHolding_49 : decode cX5_firstHolding 49 = .ok (.iconst (-1), 1) := by decide +kernel
theorem dX5_firstHolding_50 : decode cX5_firstHolding 50 = .ok (.ireturn, 1) := by decide +kernel
theorem dX5_lapseDays_0 : decode cX5_lapseDays 0 = .ok (.iconst 0, 1) := by decide +kernel
theorem dX5_lapseDays_1 : decode cX5_lapseDays 1 = .ok (.istore_n 1, 1) := by decide +kernel
theorem dX5_lapseDays_2 : decode cX5_lapseDays 2 = .ok (.iload_n 1, 1) := by decide +kernel
theorem dX5_lapseDays_3 : decode cX5_lapseDays 3 = .ok (.aload_n 0, 1) := by decide +kernel
theorem dX5_lapseDays_4 : decode cX5_lapseDays 4 = .ok (.getfield 22, 3) := by decide +kernel
theorem dX5_lapseDays_7 : decode cX5_lapseDays 7 = .ok (.arraylength, 1) := by decide +kernel
theorem dX5_lapseDays_8 : decode cX5_lapseDays 8 = .ok (.if_icmp .ge 38, 3) := by decide +kernel
theorem dX5_lapseDays_11 : decode cX5_lapseDays 11 = .ok (.aload_n 0, 1) := by decide +kernel
theorem dX5_lapseDays_12 : decode cX5_lapseDays 12 = .ok (.aload_n 0, 1) := by decide +kernel
theorem dX5_lapseDays_13 : decode cX5_lapseDays 13 = .ok (.getfield 22, 3) := by decide +kernel
theorem dX5_lapseDays_16 : decode cX5_lapseDays 16 = .ok (.iload_n 1, 1) := by decide +kernel
theorem dX5_lapseDays_17 : decode cX5_lapseDays 17 = .ok (.iaload, 1) := by decide +kernel
theorem dX5_lapseDays_18 : decode cX5_lapseDays 18 = .ok (.invokevirtual 25, 3) := by decide +kernel
theorem dX5_lapseDays_21 : decode cX5_lapseDays 21 = .ok (.sipush 10003, 3) := by decide +kernel
theorem dX5_lapseDays_24 : decode cX5_lapseDays 24 = .ok (.if_icmp .ne 16, 3) := by decide +kernel
theorem dX5_lapseDays_27 : decode cX5_lapseDays 27 = .ok (.aload_n 0, 1) := by decide +kernel
theorem dX5_lapseDays_28 : decode cX5_lapseDays 28 = .ok (.aload_n 0, 1) := by decide +kernel
theorem dX5_lapseDays_29 : decode cX5_lapseDays 29 = .ok (.getfield 22, 3) := by decide +kernel
theorem dX5_lapseDays_32 : decode cX5_lapseDays 32 = .ok (.iload_n 1, 1) := by decide +kernel
theorem dX5_lapseDays_33 : decode cX5_lapseDays 33 = .ok (.iaload, 1) := by decide +kernel
theorem dX5_lapseDays_34 : decode cX5_lapseDays 34 = .ok (.iconst 1, 1) := by decide +kernel
theorem dX5_lapseDays_35 : decode cX5_lapseDays 35 = .ok (.iadd, 1) := by decide +kernel
theorem dX5_lapseDays_36 : decode cX5_lapseDays 36 = .ok (.invokevirtual 25, 3) := by decide +kernel
theorem dX5_lapseDays_39 : decode cX5_lapseDays 39 = .ok (.ireturn, 1) := by decide +kernel
theorem dX5_lapseDays_40 : decode cX5_lapseDays 40 = .ok (.iinc 1 1, 3) := by decide +kernel
theorem dX5_lapseDays_43 : decode cX5_lapseDays 43 = .ok (.goto (-41), 3) := by decide +kernel
theorem dX5_lapseDays_46 : decode cX5_lapseDays 46 = .ok (.iconst (-1), 1) := by decide +kernel
theorem dX5_lapseDays_47 : decode cX5_lapseDays 47 = .ok (.ireturn, 1) := by decide +kernel
theorem dX5_share_0 : decode cX5_share 0 = .ok (.iconst 0, 1) := by decide +kernel
theorem dX5_share_1 : decode cX5_share 1 = .ok (.istore_n 2, 1) := by decide +kernel
theorem dX5_share_2 : decode cX5_share 2 = .ok (.iload_n 2, 1) := by decide +kernel
theorem dX5_share_3 : decode cX5_share 3 = .ok (.aload_n 0, 1) := by decide +kernel
theorem dX5_share_4 : decode cX5_share 4 = .ok (.getfield 22, 3) := by decide +kernel
theorem dX5_share_7 : decode cX5_share 7 = .ok (.arraylength, 1) := by decide +kernel
theorem dX5_share_8 : decode cX5_share 8 = .ok (.if_icmp .ge 80, 3) := by decide +kernel
theorem dX5_share_11 : decode cX5_share 11 = .ok (.aload_n 0, 1) := by decide +kernel
theorem dX5_share_12 : decode cX5_share 12 = .ok (.aload_n 0, 1) := by decide +kernel
theorem dX5_share_13 : decode cX5_share 13 = .ok (.getfield 22, 3) := by decide +kernel
theorem dX5_share_16 : decode cX5_share 16 = .ok (.iload_n 2, 1) := by decide +kernel
theorem dX5_share_17 : decode cX5_share 17 = .ok (.iaload, 1) := by decide +kernel
theorem dX5_share_18 : decode cX5_share 18 = .ok (.invokevirtual 25, 3) := by decide +kernel
theorem dX5_share_21 : decode cX5_share 21 = .ok (.sipush 10004, 3) := by decide +kernel
theorem dX5_share_24 : decode cX5_share 24 = .ok (.if_icmp .ne 58, 3) := by decide +kernel
theorem dX5_share_27 : decode cX5_share 27 = .ok (.aload_n 1, 1) := by decide +kernel
theorem dX5_share_28 : decode cX5_share 28 = .ok (.aload_n 0, 1) := by decide +kernel
theorem dX5_share_29 : decode cX5_share 29 = .ok (.aload_n 0, 1) := by decide +kernel
theorem dX5_share_30 : decode cX5_share 30 = .ok (.getfield 22, 3) := by decide +kernel
theorem dX5_share_33 : decode cX5_share 33 = .ok (.iload_n 2, 1) := by decide +kernel
theorem dX5_share_34 : decode cX5_share 34 = .ok (.iaload, 1) := by decide +kernel
theorem dX5_share_35 : decode cX5_share 35 = .ok (.iconst 1, 1) := by decide +kernel
theorem dX5_share_36 : decode cX5_share 36 = .ok (.iadd, 1) := by decide +kernel
theorem dX5_share_37 : decode cX5_share 37 = .ok (.invokevirtual 35, 3) := by decide +kernel
theorem dX5_share_40 : decode cX5_share 40 = .ok (.istore_n 3, 1) := by decide +kernel
theorem dX5_share_41 : decode cX5_share 41 = .ok (.aload_n 1, 1) := by decide +kernel
theorem dX5_share_42 : decode cX5_share 42 = .ok (.getfield 39, 3) := by decide +kernel
theorem dX5_share_45 : decode cX5_share 45 = .ok (.istore 4, 2) := by decide +kernel
theorem dX5_share_47 : decode cX5_share 47 = .ok (.aload_n 0, 1) := by decide +kernel
theorem dX5_share_48 : decode cX5_share 48 = .ok (.iload 4, 2) := by decide +kernel
theorem dX5_share_50 : decode cX5_share 50 = .ok (.invokevirtual 25, 3) := by decide +kernel
theorem dX5_share_53 : decode cX5_share 53 = .ok (.sipush 10005, 3) := by decide +kernel
theorem dX5_share_56 : decode cX5_share 56 = .ok (.if_icmp .ne 15, 3) := by decide +kernel
theorem dX5_share_59 : decode cX5_share 59 = .ok (.aload_n 1, 1) := by decide +kernel
theorem dX5_share_60 : decode cX5_share 60 = .ok (.aload_n 0, 1) := by decide +kernel
theorem dX5_share_61 : decode cX5_share 61 = .ok (.iload 4, 2) := by decide +kernel
theorem dX5_share_63 : decode cX5_share 63 = .ok (.iconst 1, 1) := by decide +kernel
theorem dX5_share_64 : decode cX5_share 64 = .ok (.iadd, 1) := by decide +kernel
theorem dX5_share_65 : decode cX5_share 65 = .ok (.invokevirtual 29, 3) := by decide +kernel
theorem dX5_share_68 : decode cX5_share 68 = .ok (.ifCond .eq 14, 3) := by decide +kernel
theorem dX5_share_71 : decode cX5_share 71 = .ok (.iconst 0, 1) := by decide +kernel
theorem dX5_share_72 : decode cX5_share 72 = .ok (.bipush 100, 2) := by decide +kernel
theorem dX5_share_74 : decode cX5_share 74 = .ok (.iload_n 3, 1) := by decide +kernel
theorem dX5_share_75 : decode cX5_share 75 = .ok (.invokestatic 42, 3) := by decide +kernel
theorem dX5_share_78 : decode cX5_share 78 = .ok (.invokestatic 48, 3) := by decide +kernel
theorem dX5_share_81 : decode cX5_share 81 = .ok (.ireturn, 1) := by decide +kernel
theorem dX5_share_82 : decode cX5_share 82 = .ok (.iinc 2 1, 3) := by decide +kernel
theorem dX5_share_85 : decode cX5_share 85 = .ok (.goto (-83), 3) := by decide +kernel
theorem dX5_share_88 : decode cX5_share 88 = .ok (.iconst 0, 1) := by decide +kernel
theorem dX5_share_89 : decode cX5_share 89 = .ok (.ireturn, 1) := by decide +kernel
