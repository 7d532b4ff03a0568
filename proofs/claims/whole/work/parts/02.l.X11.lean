theorem dX11_says_1 : decode cX11_says 1 = .ok (.getfield 313, 3) := by decide +kernel
theorem dX11_says_4 : decode cX11_says 4 = .ok (.sipush 200, 3) := by decide +kernel
theorem dX11_says_7 : decode cX11_says 7 = .ok (.if_icmp .eq 51, 3) := by decide +kernel
theorem dX11_says_10 : decode cX11_says 10 = .ok (.aload_n 0, 1) := by decide +kernel
theorem dX11_says_11 : decode cX11_says 11 = .ok (.iload_n 1, 1) := by decide +kernel
theorem dX11_says_12 : decode cX11_says 12 = .ok (.invokevirtual 303, 3) := by decide +kernel
theorem dX11_says_15 : decode cX11_says 15 = .ok (.ifCond .ne 15, 3) := by decide +kernel
theorem dX11_says_18 : decode cX11_says 18 = .ok (.iload_n 1, 1) := by decide +kernel
theorem dX11_says_19 : decode cX11_says 19 = .ok (.bipush 100, 2) := by decide +kernel
theorem dX11_says_21 : decode cX11_says 21 = .ok (.if_icmp .lt 37, 3) := by decide +kernel
theorem dX11_says_24 : decode cX11_says 24 = .ok (.iload_n 1, 1) := by decide +kernel
theorem dX11_says_25 : decode cX11_says 25 = .ok (.bipush 119, 2) := by decide +kernel
theorem dX11_says_27 : decode cX11_says 27 = .ok (.if_icmp .gt 31, 3) := by decide +kernel
theorem dX11_says_30 : decode cX11_says 30 = .ok (.aload_n 0, 1) := by decide +kernel
theorem dX11_says_31 : decode cX11_says 31 = .ok (.iload_n 2, 1) := by decide +kernel
theorem dX11_says_32 : decode cX11_says 32 = .ok (.invokevirtual 319, 3) := by decide +kernel
theorem dX11_says_35 : decode cX11_says 35 = .ok (.ifCond .eq 23, 3) := by decide +kernel
theorem dX11_says_38 : decode cX11_says 38 = .ok (.iload_n 1, 1) := by decide +kernel
theorem dX11_says_39 : decode cX11_says 39 = .ok (.aload_n 0, 1) := by decide +kernel
theorem dX11_says_40 : decode cX11_says 40 = .ok (.getfield 110, 3) := by decide +kernel
theorem dX11_says_43 : decode cX11_says 43 = .ok (.iload_n 2, 1) := by decide +kernel
theorem dX11_says_44 : decode cX11_says 44 = .ok (.iaload, 1) := by decide +kernel
theorem dX11_says_45 : decode cX11_says 45 = .ok (.if_icmp .eq 13, 3) := by decide +kernel
theorem dX11_says_48 : decode cX11_says 48 = .ok (.iload_n 1, 1) := by decide +kernel
theorem dX11_says_49 : decode cX11_says 49 = .ok (.aload_n 0, 1) := by decide +kernel
theorem dX11_says_50 : decode cX11_says 50 = .ok (.getfield 113, 3) := by decide +kernel
theorem dX11_says_53 : decode cX11_says 53 = .ok (.iload_n 2, 1) := by decide +kernel
theorem dX11_says_54 : decode cX11_says 54 = .ok (.iaload, 1) := by decide +kernel
theorem dX11_says_55 : decode cX11_says 55 = .ok (.if_icmp .ne 5, 3) := by decide +kernel
theorem dX11_says_58 : decode cX11_says 58 = .ok (.iconst (-1), 1) := by decide +kernel
theorem dX11_says_59 : decode cX11_says 59 = .ok (.ireturn, 1) := by decide +kernel
theorem dX11_says_60 : decode cX11_says 60 = .ok (.aload_n 0, 1) := by decide +kernel
theorem dX11_says_61 : decode cX11_says 61 = .ok (.iload_n 3, 1) := by decide +kernel
theorem dX11_says_62 : decode cX11_says 62 = .ok (.ifCond .eq 7, 3) := by decide +kernel
theorem dX11_says_65 : decode cX11_says 65 = .ok (.iconst 4, 1) := by decide +kernel
theorem dX11_says_66 : decode cX11_says 66 = .ok (.goto 4, 3) := by decide +kernel
theorem dX11_says_69 : decode cX11_says 69 = .ok (.iconst 5, 1) := by decide +kernel
theorem dX11_says_70 : decode cX11_says 70 = .ok (.iload_n 1, 1) := by decide +kernel
theorem dX11_says_71 : decode cX11_says 71 = .ok (.iload_n 2, 1) := by decide +kernel
theorem dX11_says_72 : decode cX11_says 72 = .ok (.iconst 0, 1) := by decide +kernel
theorem dX11_says_73 : decode cX11_says 73 = .ok (.invokevirtual 322, 3) := by decide +kernel
theorem dX11_says_76 : decode cX11_says 76 = .ok (.ireturn, 1) := by decide +kernel
theorem dX11_fame_0 : decode cX11_fame 0 = .ok (.aload_n 0, 1) := by decide +kernel
theorem dX11_fame_1 : decode cX11_fame 1 = .ok (.getfield 313, 3) := by decide +kernel
theorem dX11_fame_4 : decode cX11_fame 4 = .ok (.sipush 200, 3) := by decide +kernel
theorem dX11_fame_7 : decode cX11_fame 7 = .ok (.if_icmp .eq 11, 3) := by decide +kernel
theorem dX11_fame_10 : decode cX11_fame 10 = .ok (.aload_n 0, 1) := by decide +kernel
theorem dX11_fame_11 : decode cX11_fame 11 = .ok (.iload_n 1, 1) := by decide +kernel
theorem dX11_fame_12 : decode cX11_fame 12 = .ok (.invokevirtual 319, 3) := by decide +kernel
theorem dX11_fame_15 : decode cX11_fame 15 = .ok (.ifCond .ne 7, 3) := by decide +kernel
theorem dX11_fame_18 : decode cX11_fame 18 = .ok (.iconst (-1), 1) := by decide +kernel
theorem dX11_fame_19 : decode cX11_fame 19 = .ok (.goto 12, 3) := by decide +kernel
theorem dX11_fame_22 : decode cX11_fame 22 = .ok (.aload_n 0, 1) := by decide +kernel
theorem dX11_fame_23 : decode cX11_fame 23 = .ok (.bipush 6, 2) := by decide +kernel
theorem dX11_fame_25 : decode cX11_fame 25 = .ok (.iload_n 1, 1) := by decide +kernel
theorem dX11_fame_26 : decode cX11_fame 26 = .ok (.iload_n 1, 1) := by decide +kernel
theorem dX11_fame_27 : decode cX11_fame 27 = .ok (.iconst 0, 1) := by decide +kernel
theorem dX11_fame_28 : decode cX11_fame 28 = .ok (.invokevirtual 322, 3) := by decide +kernel
theorem dX11_fame_31 : decode cX11_fame 31 = .ok (.ireturn, 1) := by decide +kernel
theorem dX11_comes_0 : decode cX11_comes 0 = .ok (.aload_n 0, 1) := by decide +kernel
theorem dX11_comes_1 : decode cX11_comes 1 = .ok (.getfield 313, 3) := by decide +kernel
theorem dX11_comes_4 : decode cX11_comes 4 = .ok (.sipush 200, 3) := by decide +kernel
theorem dX11_comes_7 : decode cX11_comes 7 = .ok (.if_icmp .eq 19, 3) := by decide +kernel
theorem dX11_comes_10 : decode cX11_comes 10 = .ok (.iload_n 1, 1) := by decide +kernel
theorem dX11_comes_11 : decode cX11_comes 11 = .ok (.ifCond .lt 15, 3) := by decide +kernel
theorem dX11_comes_14 : decode cX11_comes 14 = .ok (.iload_n 1, 1) := by decide +kernel
theorem dX11_comes_15 : decode cX11_comes 15 = .ok (.iconst 5, 1) := by decide +kernel
theorem dX11_comes_16 : decode cX11_comes 16 = .ok (.if_icmp .gt 10, 3) := by decide +kernel
theorem dX11_comes_19 : decode cX11_comes 19 = .ok (.iload_n 2, 1) := by decide +kernel
theorem dX11_comes_20 : decode cX11_comes 20 = .ok (.invokestatic 259, 3) := by decide +kernel
theorem dX11_comes_23 : decode cX11_comes 23 = .ok (.ifCond .ne 7, 3) := by decide +kernel
theorem dX11_comes_26 : decode cX11_comes 26 = .ok (.iconst (-1), 1) := by decide +kernel
theorem dX11_comes_27 : decode cX11_comes 27 = .ok (.goto 21, 3) := by decide +kernel
theorem dX11_comes_30 : decode cX11_comes 30 = .ok (.aload_n 0, 1) := by decide +kernel
theorem dX11_comes_31 : decode cX11_comes 31 = .ok (.iload_n 3, 1) := by decide +kernel
theorem dX11_comes_32 : decode cX11_comes 32 = .ok (.ifCond .eq 8, 3) := by decide +kernel
theorem dX11_comes_35 : decode cX11_comes 35 = .ok (.bipush 7, 2) := by decide +kernel
theorem dX11_comes_37 : decode cX11_comes 37 = .ok (.goto 5, 3) := by decide +kernel
theorem dX11_comes_40 : decode cX11_comes 40 = .ok (.bipush 8, 2) := by decide +kernel
theorem dX11_comes_42 : decode cX11_comes 42 = .ok (.iload_n 1, 1) := by decide +kernel
theorem dX11_comes_43 : decode cX11_comes 43 = .ok (.iload_n 1, 1) := by decide +kernel
theorem dX11_comes_44 : decode cX11_comes 44 = .ok (.iload_n 2, 1) := by decide +kernel
theorem dX11_comes_45 : decode cX11_comes 45 = .ok (.invokevirtual 322, 3) := by decide +kernel
theorem dX11_comes_48 : decode cX11_comes 48 = .ok (.ireturn, 1) := by decide +kernel
theorem dX11_fate_0 : decode cX11_fate 0 = .ok (.aload_n 0, 1) := by decide +kernel
theorem dX11_fate_1 : decode cX11_fate 1 = .ok (.getfield 313, 3) := by decide +kernel
theorem dX11_fate_4 : decode cX11_fate 4 = .ok (.sipush 200, 3) := by decide +kernel
theorem dX11_fate_7 : decode cX11_fate 7 = .ok (.if_icmp .eq 27, 3) := by decide +kernel
theorem dX11_fate_10 : decode cX11_fate 10 = .ok (.iload_n 1, 1) := by decide +kernel
theorem dX11_fate_11 : decode cX11_fate 11 = .ok (.ifCond .lt 23, 3) := by decide +kernel
theorem dX11_fate_14 : decode cX11_fate 14 = .ok (.iload_n 1, 1) := by decide +kernel
theorem dX11_fate_15 : decode cX11_fate 15 = .ok (.iconst 3, 1) := by decide +kernel
theorem dX11_fate_16 : decode cX11_fate 16 = .ok (.if_icmp .gt 18, 3) := by decide +kernel
theorem dX11_fate_19 : decode cX11_fate 19 = .ok (.aload_n 0, 1) := by decide +kernel
theorem dX11_fate_20 : decode cX11_fate 20 = .ok (.iload_n 2, 1) := by decide +kernel
theorem dX11_fate_21 : decode cX11_fate 21 = .ok (.invokevirtual 303, 3) := by decide +kernel
theorem dX11_fate_24 : decode cX11_fate 24 = .ok (.ifCond .eq 10, 3) := by decide +kernel
theorem dX11_fate_27 : decode cX11_fate 27 = .ok (.iload_n 3, 1) := by decide +kernel
theorem dX11_fate_28 : decode cX11_fate 28 = .ok (.invokestatic 259, 3) := by decide +kernel
theorem dX11_fate_31 : decode cX11_fate 31 = .ok (.ifCond .ne 7, 3) := by decide +kernel
theorem dX11_fate_34 : decode cX11_fate 34 = .ok (.iconst (-1), 1) := by decide +kernel
theorem dX11_fate_35 : decode cX11_fate 35 = .ok (.goto 11, 3) := by decide +kernel
theorem dX11_fate_38 : decode cX11_fate 38 = .ok (.aload_n 0, 1) := by decide +kernel
theorem dX11_fate_39 : decode cX11_fate 39 = .ok (.iload_n 1, 1) := by decide +kernel
theorem dX11_fate_40 : decode cX11_fate 40 = .ok (.iload_n 2, 1) := by decide +kernel
theorem dX11_fate_41 : decode cX11_fate 41 = .ok (.iload_n 2, 1) := by decide +kernel
theorem dX11_fate_42 : decode cX11_fate 42 = .ok (.iload_n 3, 1) := by decide +kernel
theorem dX11_fate_43 : decode cX11_fate 43 = .ok (.invokevirtual 322, 3) := by decide +kernel
theorem dX11_fate_46 : decode cX11_fate 46 = .ok (.ireturn, 1) := by decide +kernel
theorem dX11_leave_0 : decode cX11_leave 0 = .ok (.aload_n 0, 1) := by decide +kernel
theorem dX11_leave_1 : decode cX11_leave 1 = .ok (.getfield 313, 3) := by decide +kernel
theorem dX11_leave_4 : decode cX11_leave 4 = .ok (.sipush 200, 3) := by decide +kernel
theorem dX11_leave_7 : decode cX11_leave 7 = .ok (.if_icmp .eq 31, 3) := by decide +kernel
theorem dX11_leave_10 : decode cX11_leave 10 = .ok (.aload_n 0, 1) := by decide +kernel
theorem dX11_leave_11 : decode cX11_leave 11 = .ok (.iload_n 1, 1) := by decide +kernel
theorem dX11_leave_12 : decode cX11_leave 12 = .ok (.invokevirtual 303, 3) := by decide +kernel
theorem dX11_leave_15 : decode cX11_leave 15 = .ok (.ifCond .eq 23, 3) := by decide +kernel
theorem dX11_leave_18 : decode cX11_leave 18 = .ok (.aload_n 0, 1) := by decide +kernel
theorem dX11_leave_19 : decode cX11_leave 19 = .ok (.iload_n 2, 1) := by decide +kernel
theorem dX11_leave_20 : decode cX11_leave 20 = .ok (.invokevirtual 303, 3) := by decide +kernel
theorem dX11_leave_23 : decode cX11_leave 23 = .ok (.ifCond .eq 15, 3) := by decide +kernel
theorem dX11_leave_26 : decode cX11_leave 26 = .ok (.iload_n 1, 1) := by decide +kernel
theorem dX11_leave_27 : decode cX11_leave 27 = .ok (.iload_n 2, 1) := by decide +kernel
theorem dX11_leave_28 : decode cX11_leave 28 = .ok (.if_icmp .eq 10, 3) := by decide +kernel
theorem dX11_leave_31 : decode cX11_leave 31 = .ok (.iload_n 3, 1) := by decide +kernel
theorem dX11_leave_32 : decode cX11_leave 32 = .ok (.invokestatic 259, 3) := by decide +kernel
theorem dX11_leave_35 : decode cX11_leave 35 = .ok (.ifCond .ne 7, 3) := by decide +kernel
theorem dX11_leave_38 : decode cX11_leave 38 = .ok (.iconst (-1), 1) := by decide +kernel
theorem dX11_leave_39 : decode cX11_leave 39 = .ok (.goto 12, 3) := by decide +kernel
theorem dX11_leave_42 : decode cX11_leave 42 = .ok (.aload_n 0, 1) := by decide +kernel
theorem dX11_leave_43 : decode cX11_leave 43 = .ok (.bipush 9, 2) := by decide +kernel
theorem dX11_leave_45 : decode cX11_leave 45 = .ok (.iload_n 1, 1) := by decide +kernel
theorem dX11_leave_46 : decode cX11_leave 46 = .ok (.iload_n 2, 1) := by decide +kernel
theorem dX11_leave_47 : decode cX11_leave 47 = .ok (.iload_n 3, 1) := by decide +kernel
theorem dX11_leave_48 : decode cX11_leave 48 = .ok (.invokevirtual 322, 3) := by decide +kernel
theorem dX11_leave_51 : decode cX11_leave 51 = .ok (.ireturn, 1) := by decide +kernel
theorem dX11_lawOf_0 : decode cX11_lawOf 0 = .ok (.iconst (-1), 1) := by decide +kernel
theorem dX11_lawOf_1 : decode cX11_lawOf 1 = .ok (.istore_n 2, 1) := by decide +kernel
theorem dX11_lawOf_2 : decode cX11_lawOf 2 = .ok (.iconst 0, 1) := by decide +kernel
theorem dX11_lawOf_3 : decode cX11_lawOf 3 = .ok (.istore_n 3, 1) := by decide +kernel
theorem dX11_lawOf_4 : decode cX11_lawOf 4 = .ok (.iload_n 3, 1) := by decide +kernel
theorem dX11_lawOf_5 : decode cX11_lawOf 5 = .ok (.aload_n 0, 1) := by decide +kernel
theorem dX11_lawOf_6 : decode cX11_lawOf 6 = .ok (.getfield 262, 3) := by decide +kernel
theorem dX11_lawOf_9 : decode cX11_lawOf 9 = .ok (.if_icmp .ge 61, 3) := by decide +kernel
theorem dX11_lawOf_12 : decode cX11_lawOf 12 = .ok (.aload_n 0, 1) := by decide +kernel
theorem dX11_lawOf_13 : decode cX11_lawOf 13 = .ok (.getfield 40, 3) := by decide +kernel
theorem dX11_lawOf_16 : decode cX11_lawOf 16 = .ok (.iload_n 3, 1) := by decide +kernel
theorem dX11_lawOf_17 : decode cX11_lawOf 17 = .ok (.iaload, 1) := by decide +kernel
theorem dX11_lawOf_18 : decode cX11_lawOf 18 = .ok (.aload_n 0, 1) := by decide +kernel
theorem dX11_lawOf_19 : decode cX11_lawOf 19 = .ok (.getfield 116, 3) := by decide +kernel
theorem dX11_lawOf_22 : decode cX11_lawOf 22 = .ok (.iload_n 1, 1) := by decide +kernel
theorem dX11_lawOf_23 : decode cX11_lawOf 23 = .ok (.iaload, 1) := by decide +kernel
theorem dX11_lawOf_24 : decode cX11_lawOf 24 = .ok (.if_icmp .ne 40, 3) := by decide +kernel
theorem dX11_lawOf_27 : decode cX11_lawOf 27 = .ok (.aload_n 0, 1) := by decide +kernel
theorem dX11_lawOf_28 : decode cX11_lawOf 28 = .ok (.getfield 43, 3) := by decide +kernel
theorem dX11_lawOf_31 : decode cX11_lawOf 31 = .ok (.iload_n 3, 1) := by decide +kernel
theorem dX11_lawOf_32 : decode cX11_lawOf 32 = .ok (.iaload, 1) := by decide +kernel
theorem dX11_lawOf_33 : decode cX11_lawOf 33 = .ok (.aload_n 0, 1) := by decide +kernel
theorem dX11_lawOf_34 : decode cX11_lawOf 34 = .ok (.getfield 119, 3) := by decide +kernel
theorem dX11_lawOf_37 : decode cX11_lawOf 37 = .ok (.iload_n 1, 1) := by decide +kernel
theorem dX11_lawOf_38 : decode cX11_lawOf 38 = .ok (.iaload, 1) := by decide +kernel
theorem dX11_lawOf_39 : decode cX11_lawOf 39 = .ok (.if_icmp .gt 25, 3) := by decide +kernel
theorem dX11_lawOf_42 : decode cX11_lawOf 42 = .ok (.iload_n 2, 1) := by decide +kernel
theorem dX11_lawOf_43 : decode cX11_lawOf 43 = .ok (.iconst (-1), 1) := by decide +kernel
theorem dX11_lawOf_44 : decode cX11_lawOf 44 = .ok (.if_icmp .eq 18, 3) := by decide +kernel
theorem dX11_lawOf_47 : decode cX11_lawOf 47 = .ok (.aload_n 0, 1) := by decide +kernel
theorem dX11_lawOf_48 : decode cX11_lawOf 48 = .ok (.getfield 43, 3) := by decide +kernel
theorem dX11_lawOf_51 : decode cX11_lawOf 51 = .ok (.iload_n 3, 1) := by decide +kernel
theorem dX11_lawOf_52 : decode cX11_lawOf 52 = .ok (.iaload, 1) := by decide +kernel
theorem dX11_lawOf_53 : decode cX11_lawOf 53 = .ok (.aload_n 0, 1) := by decide +kernel
theorem dX11_lawOf_54 : decode cX11_lawOf 54 = .ok (.getfield 43, 3) := by decide +kernel
theorem dX11_lawOf_57 : decode cX11_lawOf 57 = .ok (.iload_n 2, 1) := by decide +kernel
theorem dX11_lawOf_58 : decode cX11_lawOf 58 = .ok (.iaload, 1) := by decide +kernel
theorem dX11_lawOf_59 : decode cX11_lawOf 59 = .ok (.if_icmp .lt 5, 3) := by decide +kernel
theorem dX11_lawOf_62 : decode cX11_lawOf 62 = .ok (.iload_n 3, 1) := by decide +kernel
theorem dX11_lawOf_63 : decode cX11_lawOf 63 = .ok (.istore_n 2, 1) := by decide +kernel
theorem dX11_lawOf_64 : decode cX11_lawOf 64 = .ok (.iinc 3 1, 3) := by decide +kernel
theorem dX11_lawOf_67 : decode cX11_lawOf 67 = .ok (.goto (-63), 3) := by decide +kernel
theorem dX11_lawOf_70 : decode cX11_lawOf 70 = .ok (.iload_n 2, 1) := by decide +kernel
theorem dX11_lawOf_71 : decode cX11_lawOf 71 = .ok (.ireturn, 1) := by decide +kernel
theorem dX11_law_0 : decode cX11_law 0 = .ok (.aload_n 0, 1) := by decide +kernel
theorem dX11_law_1 : decode cX11_law 1 = .ok (.iload_n 1, 1) := by decide +kernel
theorem dX11_law_2 : decode cX11_law 2 = .ok (.invokevirtual 319, 3) := by decide +kernel
theorem dX11_law_5 : decode cX11_law 5 = .ok (.ifCond .eq 11, 3) := by decide +kernel
theorem dX11_law_8 : decode cX11_law 8 = .ok (.aload_n 0, 1) := by decide +kernel
theorem dX11_law_9 : decode cX11_law 9 = .ok (.iload_n 1, 1) := by decide +kernel
theorem dX11_law_10 : decode cX11_law 10 = .ok (.invokevirtual 326, 3) := by decide +kernel
theorem dX11_law_13 : decode cX11_law 13 = .ok (.goto 4, 3) := by decide +kernel
theorem dX11_law_16 : decode cX11_law 16 = .ok (.iconst (-1), 1) := by decide +kernel
theorem dX11_law_17 : decode cX11_law 17 = .ok (.ireturn, 1) := by decide +kernel
theorem dX11_value_0 : decode cX11_value 0 = .ok (.iconst 0, 1) := by decide +kernel
theorem dX11_value_1 : decode cX11_value 1 = .ok (.istore_n 3, 1) := by decide +kernel
theorem dX11_value_2 : decode cX11_value 2 = .ok (.iload_n 1, 1) := by decide +kernel
theorem dX11_value_3 : decode cX11_value 3 = .ok (.istore 4, 2) := by decide +kernel
theorem dX11_value_5 : decode cX11_value 5 = .ok (.iload 4, 2) := by decide +kernel
theorem dX11_value_7 : decode cX11_value 7 = .ok (.iload_n 2, 1) := by decide +kernel
theorem dX11_value_8 : decode cX11_value 8 = .ok (.if_icmp .ge 136, 3) := by decide +kernel
theorem dX11_value_11 : decode cX11_value 11 = .ok (.aload_n 0, 1) := by decide +kernel
theorem dX11_value_12 : decode cX11_value 12 = .ok (.getfield 86, 3) := by decide +kernel
theorem dX11_value_15 : decode cX11_value 15 = .ok (.iload 4, 2) := by decide +kernel
theorem dX11_value_17 : decode cX11_value 17 = .ok (.iaload, 1) := by decide +kernel
theorem dX11_value_18 : decode cX11_value 18 = .ok (.iconst 2, 1) := by decide +kernel
theorem dX11_value_19 : decode cX11_value 19 = .ok (.if_icmp .ge 47, 3) := by decide +kernel
theorem dX11_value_22 : decode cX11_value 22 = .ok (.aload_n 0, 1) := by decide +kernel
theorem dX11_value_23 : decode cX11_value 23 = .ok (.getfield 152, 3) := by decide +kernel
theorem dX11_value_26 : decode cX11_value 26 = .ok (.iload_n 3, 1) := by decide +kernel
theorem dX11_value_27 : decode cX11_value 27 = .ok (.aload_n 0, 1) := by decide +kernel
theorem dX11_value_28 : decode cX11_value 28 = .ok (.getfield 86, 3) := by decide +kernel
theorem dX11_value_31 : decode cX11_value 31 = .ok (.iload 4, 2) := by decide +kernel
theorem dX11_value_33 : decode cX11_value 33 = .ok (.iaload, 1) := by decide +kernel
theorem dX11_value_34 : decode cX11_value 34 = .ok (.ifCond .ne 13, 3) := by decide +kernel
theorem dX11_value_37 : decode cX11_value 37 = .ok (.aload_n 0, 1) := by decide +kernel
theorem dX11_value_38 : decode cX11_value 38 = .ok (.getfield 89, 3) := by decide +kernel
theorem dX11_value_41 : decode cX11_value 41 = .ok (.iload 4, 2) := by decide +kernel
theorem dX11_value_43 : decode cX11_value 43 = .ok (.iaload, 1) := by decide +kernel
theorem dX11_value_44 : decode cX11_value 44 = .ok (.goto 15, 3) := by decide +kernel
theorem dX11_value_47 : decode cX11_value 47 = .ok (.aload_n 0, 1) := by decide +kernel
theorem dX11_value_48 : decode cX11_value 48 = .ok (.getfield 149, 3) := by decide +kernel
theorem dX11_value_51 : decode cX11_value 51 = .ok (.aload_n 0, 1) := by decide +kernel
theorem dX11_value_52 : decode cX11_value 52 = .ok (.getfield 89, 3) := by decide +kernel
theorem dX11_value_55 : decode cX11_value 55 = .ok (.iload 4, 2) := by decide +kernel
theorem dX11_value_57 : decode cX11_value 57 = .ok (.iaload, 1) := by decide +kernel
theorem dX11_value_58 : decode cX11_value 58 = .ok (.iaload, 1) := by decide +kernel
theorem dX11_value_59 : decode cX11_value 59 = .ok (.iastore, 1) := by decide +kernel
theorem dX11_value_60 : decode cX11_value 60 = .ok (.iinc 3 1, 3) := by decide +kernel
theorem dX11_value_63 : decode cX11_value 63 = .ok (.goto 75, 3) := by decide +kernel
theorem dX11_value_66 : decode cX11_value 66 = .ok (.iinc 3 (-1), 3) := by decide +kernel
theorem dX11_value_69 : decode cX11_value 69 = .ok (.aload_n 0, 1) := by decide +kernel
theorem dX11_value_70 : decode cX11_value 70 = .ok (.getfield 152, 3) := by decide +kernel
theorem dX11_value_73 : decode cX11_value 73 = .ok (.iload_n 3, 1) := by decide +kernel
theorem dX11_value_74 : decode cX11_value 74 = .ok (.iconst 1, 1) := by decide +kernel
theorem dX11_value_75 : decode cX11_value 75 = .ok (.isub, 1) := by decide +kernel
theorem dX11_value_76 : decode cX11_value 76 = .ok (.iaload, 1) := by decide +kernel
theorem dX11_value_77 : decode cX11_value 77 = .ok (.istore 5, 2) := by decide +kernel
theorem dX11_value_79 : decode cX11_value 79 = .ok (.aload_n 0, 1) := by decide +kernel
theorem dX11_value_80 : decode cX11_value 80 = .ok (.getfield 152, 3) := by decide +kernel
theorem dX11_value_83 : decode cX11_value 83 = .ok (.iload_n 3, 1) := by decide +kernel
theorem dX11_value_84 : decode cX11_value 84 = .ok (.iaload, 1) := by decide +kernel
theorem dX11_value_85 : decode cX11_value 85 = .ok (.istore 6, 2) := by decide +kernel
theorem dX11_value_87 : decode cX11_value 87 = .ok (.aload_n 0, 1) := by decide +kernel
theorem dX11_value_88 : decode cX11_value 88 = .ok (.getfield 152, 3) := by decide +kernel
theorem dX11_value_91 : decode cX11_value 91 = .ok (.iload_n 3, 1) := by decide +kernel
theorem dX11_value_92 : decode cX11_value 92 = .ok (.iconst 1, 1) := by decide +kernel
theorem dX11_value_93 : decode cX11_value 93 = .ok (.isub, 1) := by decide +kernel
theorem dX11_value_94 : decode cX11_value 94 = .ok (.aload_n 0, 1) := by decide +kernel
theorem dX11_value_95 : decode cX11_value 95 = .ok (.getfield 86, 3) := by decide +kernel
theorem dX11_value_98 : decode cX11_value 98 = .ok (.iload 4, 2) := by decide +kernel
theorem dX11_value_100 : decode cX11_value 100 = .ok (.iaload, 1) := by decide +kernel
theorem dX11_value_101 : decode cX11_value 101 = .ok (.iconst 2, 1) := by decide +kernel
theorem dX11_value_102 : decode cX11_value 102 = .ok (.if_icmp .ne 11, 3) := by decide +kernel
theorem dX11_value_105 : decode cX11_value 105 = .ok (.iload 5, 2) := by decide +kernel
theorem dX11_value_107 : decode cX11_value 107 = .ok (.iload 6, 2) := by decide +kernel
theorem dX11_value_109 : decode cX11_value 109 = .ok (.iadd, 1) := by decide +kernel
theorem dX11_value_110 : decode cX11_value 110 = .ok (.goto 27, 3) := by decide +kernel
theorem dX11_value_113 : decode cX11_value 113 = .ok (.aload_n 0, 1) := by decide +kernel
theorem dX11_value_114 : decode cX11_value 114 = .ok (.getfield 86, 3) := by decide +kernel
theorem dX11_value_117 : decode cX11_value 117 = .ok (.iload 4, 2) := by decide +kernel
theorem dX11_value_119 : decode cX11_value 119 = .ok (.iaload, 1) := by decide +kernel
theorem dX11_value_120 : decode cX11_value 120 = .ok (.iconst 3, 1) := by decide +kernel
theorem dX11_value_121 : decode cX11_value 121 = .ok (.if_icmp .ne 11, 3) := by decide +kernel
theorem dX11_value_124 : decode cX11_value 124 = .ok (.iload 5, 2) := by decide +kernel
theorem dX11_value_126 : decode cX11_value 126 = .ok (.iload 6, 2) := by decide +kernel
theorem dX11_value_128 : decode cX11_value 128 = .ok (.isub, 1) := by decide +kernel
theorem dX11_value_129 : decode cX11_value 129 = .ok (.goto 8, 3) := by decide +kernel
theorem dX11_value_132 : decode cX11_value 132 = .ok (.iload 5, 2) := by decide +kernel
theorem dX11_value_134 : decode cX11_value 134 = .ok (.iload 6, 2) := by decide +kernel
theorem dX11_value_136 : decode cX11_value 136 = .ok (.imul, 1) := by decide +kernel
theorem dX11_value_137 : decode cX11_value 137 = .ok (.iastore, 1) := by decide +kernel
theorem dX11_value_138 : decode cX11_value 138 = .ok (.iinc 4 1, 3) := by decide +kernel
theorem dX11_value_141 : decode cX11_value 141 = .ok (.goto (-136), 3) := by decide +kernel
theorem dX11_value_144 : decode cX11_value 144 = .ok (.aload_n 0, 1) := by decide +kernel
theorem dX11_value_145 : decode cX11_value 145 = .ok (.getfield 152, 3) := by decide +kernel
theorem dX11_value_148 : decode cX11_value 148 = .ok (.iconst 0, 1) := by decide +kernel
theorem dX11_value_149 : decode cX11_value 149 = .ok (.iaload, 1) := by decide +kernel
theorem dX11_value_150 : decode cX11_value 150 = .ok (.ireturn, 1) := by decide +kernel
theorem dX11_holds_0 : decode cX11_holds 0 = .ok (.aload_n 0, 1) := by decide +kernel
theorem dX11_holds_1 : decode cX11_holds 1 = .ok (.getfield 61, 3) := by decide +kernel
theorem dX11_holds_4 : decode cX11_holds 4 = .ok (.iload_n 1, 1) := by decide +kernel
theorem dX11_holds_5 : decode cX11_holds 5 = .ok (.iaload, 1) := by decide +kernel
theorem dX11_holds_6 : decode cX11_holds 6 = .ok (.aload_n 0, 1) := by decide +kernel
theorem dX11_holds_7 : decode cX11_holds 7 = .ok (.getfield 64, 3) := by decide +kernel
theorem dX11_holds_10 : decode cX11_holds 10 = .ok (.iload_n 1, 1) := by decide +kernel
theorem dX11_holds_11 : decode cX11_holds 11 = .ok (.iaload, 1) := by decide +kernel
theorem dX11_holds_12 : decode cX11_holds 12 = .ok (.if_icmp .ne 5, 3) := by decide +kernel
theorem dX11_holds_15 : decode cX11_holds 15 = .ok (.iconst 1, 1) := by decide +kernel
theorem dX11_holds_16 : decode cX11_holds 16 = .ok (.ireturn, 1) := by decide +kernel
theorem dX11_holds_17 : decode cX11_holds 17 = .ok (.iconst 0, 1) := by decide +kernel
theorem dX11_holds_18 : decode cX11_holds 18 = .ok (.istore_n 3, 1) := by decide +kernel
theorem dX11_holds_19 : decode cX11_holds 19 = .ok (.aload_n 0, 1) := by decide +kernel
theorem dX11_holds_20 : decode cX11_holds 20 = .ok (.getfield 61, 3) := by decide +kernel
theorem dX11_holds_23 : decode cX11_holds 23 = .ok (.iload_n 1, 1) := by decide +kernel
theorem dX11_holds_24 : decode cX11_holds 24 = .ok (.iaload, 1) := by decide +kernel
theorem dX11_holds_25 : decode cX11_holds 25 = .ok (.istore 4, 2) := by decide +kernel
theorem dX11_holds_27 : decode cX11_holds 27 = .ok (.iload 4, 2) := by decide +kernel
theorem dX11_holds_29 : decode cX11_holds 29 = .ok (.aload_n 0, 1) := by decide +kernel
theorem dX11_holds_30 : decode cX11_holds 30 = .ok (.getfield 64, 3) := by decide +kernel
theorem dX11_holds_33 : decode cX11_holds 33 = .ok (.iload_n 1, 1) := by decide +kernel
theorem dX11_holds_34 : decode cX11_holds 34 = .ok (.iaload, 1) := by decide +kernel
theorem dX11_holds_35 : decode cX11_holds 35 = .ok (.if_icmp .ge 184, 3) := by decide +kernel
theorem dX11_holds_38 : decode cX11_holds 38 = .ok (.sipush 200, 3) := by decide +kernel
theorem dX11_holds_41 : decode cX11_holds 41 = .ok (.iload_n 2, 1) := by decide +kernel
theorem dX11_holds_42 : decode cX11_holds 42 = .ok (.imul, 1) := by decide +kernel
theorem dX11_holds_43 : decode cX11_holds 43 = .ok (.iload 4, 2) := by decide +kernel
theorem dX11_holds_45 : decode cX11_holds 45 = .ok (.iadd, 1) := by decide +kernel
theorem dX11_holds_46 : decode cX11_holds 46 = .ok (.istore 5, 2) := by decide +kernel
theorem dX11_holds_48 : decode cX11_holds 48 = .ok (.aload_n 0, 1) := by decide +kernel
theorem dX11_holds_49 : decode cX11_holds 49 = .ok (.getfield 82, 3) := by decide +kernel
theorem dX11_holds_52 : decode cX11_holds 52 = .ok (.iload 5, 2) := by decide +kernel
theorem dX11_holds_54 : decode cX11_holds 54 = .ok (.baload, 1) := by decide +kernel
theorem dX11_holds_55 : decode cX11_holds 55 = .ok (.ifCond .eq 9, 3) := by decide +kernel
theorem dX11_holds_58 : decode cX11_holds 58 = .ok (.iload_n 3, 1) := by decide +kernel
theorem dX11_holds_59 : decode cX11_holds 59 = .ok (.ifCond .eq 5, 3) := by decide +kernel
theorem dX11_holds_62 : decode cX11_holds 62 = .ok (.iconst 1, 1) := by decide +kernel
theorem dX11_holds_63 : decode cX11_holds 63 = .ok (.ireturn, 1) := by decide +kernel
theorem dX11_holds_64 : decode cX11_holds 64 = .ok (.aload_n 0, 1) := by decide +kernel
theorem dX11_holds_65 : decode cX11_holds 65 = .ok (.getfield 82, 3) := by decide +kernel
theorem dX11_holds_68 : decode cX11_holds 68 = .ok (.iload 5, 2) := by decide +kernel
theorem dX11_holds_70 : decode cX11_holds 70 = .ok (.baload, 1) := by decide +kernel
theorem dX11_holds_71 : decode cX11_holds 71 = .ok (.ifCond .eq 5, 3) := by decide +kernel
theorem dX11_holds_74 : decode cX11_holds 74 = .ok (.iconst 1, 1) := by decide +kernel
theorem dX11_holds_75 : decode cX11_holds 75 = .ok (.istore_n 3, 1) := by decide +kernel
theorem dX11_holds_76 : decode cX11_holds 76 = .ok (.iload_n 3, 1) := by decide +kernel
theorem dX11_holds_77 : decode cX11_holds 77 = .ok (.ifCond .ne 6, 3) := by decide +kernel
theorem dX11_holds_80 : decode cX11_holds 80 = .ok (.goto 133, 3) := by decide +kernel
theorem dX11_holds_83 : decode cX11_holds 83 = .ok (.aload_n 0, 1) := by decide +kernel
theorem dX11_holds_84 : decode cX11_holds 84 = .ok (.aload_n 0, 1) := by decide +kernel
theorem dX11_holds_85 : decode cX11_holds 85 = .ok (.getfield 73, 3) := by decide +kernel
theorem dX11_holds_88 : decode cX11_holds 88 = .ok (.iload 5, 2) := by decide +kernel
theorem dX11_holds_90 : decode cX11_holds 90 = .ok (.iaload, 1) := by decide +kernel
theorem dX11_holds_91 : decode cX11_holds 91 = .ok (.aload_n 0, 1) := by decide +kernel
theorem dX11_holds_92 : decode cX11_holds 92 = .ok (.getfield 76, 3) := by decide +kernel
theorem dX11_holds_95 : decode cX11_holds 95 = .ok (.iload 5, 2) := by decide +kernel
theorem dX11_holds_97 : decode cX11_holds 97 = .ok (.iaload, 1) := by decide +kernel
theorem dX11_holds_98 : decode cX11_holds 98 = .ok (.invokevirtual 329, 3) := by decide +kernel
theorem dX11_holds_101 : decode cX11_holds 101 = .ok (.istore 6, 2) := by decide +kernel
theorem dX11_holds_103 : decode cX11_holds 103 = .ok (.aload_n 0, 1) := by decide +kernel
theorem dX11_holds_104 : decode cX11_holds 104 = .ok (.aload_n 0, 1) := by decide +kernel
theorem dX11_holds_105 : decode cX11_holds 105 = .ok (.getfield 76, 3) := by decide +kernel
theorem dX11_holds_108 : decode cX11_holds 108 = .ok (.iload 5, 2) := by decide +kernel
theorem dX11_holds_110 : decode cX11_holds 110 = .ok (.iaload, 1) := by decide +kernel
theorem dX11_holds_111 : decode cX11_holds 111 = .ok (.aload_n 0, 1) := by decide +kernel
theorem dX11_holds_112 : decode cX11_holds 112 = .ok (.getfield 79, 3) := by decide +kernel
theorem dX11_holds_115 : decode cX11_holds 115 = .ok (.iload 5, 2) := by decide +kernel
theorem dX11_holds_117 : decode cX11_holds 117 = .ok (.iaload, 1) := by decide +kernel
theorem dX11_holds_118 : decode cX11_holds 118 = .ok (.invokevirtual 329, 3) := by decide +kernel
theorem dX11_holds_121 : decode cX11_holds 121 = .ok (.istore 7, 2) := by decide +kernel
theorem dX11_holds_123 : decode cX11_holds 123 = .ok (.aload_n 0, 1) := by decide +kernel
theorem dX11_holds_124 : decode cX11_holds 124 = .ok (.getfield 70, 3) := by decide +kernel
theorem dX11_holds_127 : decode cX11_holds 127 = .ok (.iload 5, 2) := by decide +kernel
theorem dX11_holds_129 : decode cX11_holds 129 = .ok (.iaload, 1) := by decide +kernel
theorem dX11_holds_130 : decode cX11_holds 130 = .ok (.ifCond .ne 18, 3) := by decide +kernel
theorem dX11_holds_133 : decode cX11_holds 133 = .ok (.iload 6, 2) := by decide +kernel
theorem dX11_holds_135 : decode cX11_holds 135 = .ok (.iload 7, 2) := by decide +kernel
theorem dX11_holds_137 : decode cX11_holds 137 = .ok (.if_icmp .ne 7, 3) := by decide +kernel
theorem dX11_holds_140 : decode cX11_holds 140 = .ok (.iconst 1, 1) := by decide +kernel
theorem dX11_holds_141 : decode cX11_holds 141 = .ok (.goto 71, 3) := by decide +kernel
theorem dX11_holds_144 : decode cX11_holds 144 = .ok (.iconst 0, 1) := by decide +kernel
theorem dX11_holds_145 : decode cX11_holds 145 = .ok (.goto 67, 3) := by decide +kernel
theorem dX11_holds_148 : decode cX11_holds 148 = .ok (.aload_n 0, 1) := by decide +kernel
theorem dX11_holds_149 : decode cX11_holds 149 = .ok (.getfield 70, 3) := by decide +kernel
theorem dX11_holds_152 : decode cX11_holds 152 = .ok (.iload 5, 2) := by decide +kernel
theorem dX11_holds_154 : decode cX11_holds 154 = .ok (.iaload, 1) := by decide +kernel
theorem dX11_holds_155 : decode cX11_holds 155 = .ok (.iconst 1, 1) := by decide +kernel
theorem dX11_holds_156 : decode cX11_holds 156 = .ok (.if_icmp .ne 18, 3) := by decide +kernel
theorem dX11_holds_159 : decode cX11_holds 159 = .ok (.iload 6, 2) := by decide +kernel
theorem dX11_holds_161 : decode cX11_holds 161 = .ok (.iload 7, 2) := by decide +kernel
theorem dX11_holds_163 : decode cX11_holds 163 = .ok (.if_icmp .eq 7, 3) := by decide +kernel
theorem dX11_holds_166 : decode cX11_holds 166 = .ok (.iconst 1, 1) := by decide +kernel
theorem dX11_holds_167 : decode cX11_holds 167 = .ok (.goto 45, 3) := by decide +kernel
theorem dX11_holds_170 : decode cX11_holds 170 = .ok (.iconst 0, 1) := by decide +kernel
theorem dX11_holds_171 : decode cX11_holds 171 = .ok (.goto 41, 3) := by decide +kernel
theorem dX11_holds_174 : decode cX11_holds 174 = .ok (.aload_n 0, 1) := by decide +kernel
theorem dX11_holds_175 : decode cX11_holds 175 = .ok (.getfield 70, 3) := by decide +kernel
theorem dX11_holds_178 : decode cX11_holds 178 = .ok (.iload 5, 2) := by decide +kernel
theorem dX11_holds_180 : decode cX11_holds 180 = .ok (.iaload, 1) := by decide +kernel
theorem dX11_holds_181 : decode cX11_holds 181 = .ok (.iconst 2, 1) := by decide +kernel
theorem dX11_holds_182 : decode cX11_holds 182 = .ok (.if_icmp .ne 18, 3) := by decide +kernel
theorem dX11_holds_185 : decode cX11_holds 185 = .ok (.iload 6, 2) := by decide +kernel
theorem dX11_holds_187 : decode cX11_holds 187 = .ok (.iload 7, 2) := by decide +kernel
theorem dX11_holds_189 : decode cX11_holds 189 = .ok (.if_icmp .ge 7, 3) := by decide +kernel
theorem dX11_holds_192 : decode cX11_holds 192 = .ok (.iconst 1, 1) := by decide +kernel
theorem dX11_holds_193 : decode cX11_holds 193 = .ok (.goto 19, 3) := by decide +kernel
theorem dX11_holds_196 : decode cX11_holds 196 = .ok (.iconst 0, 1) := by decide +kernel
theorem dX11_holds_197 : decode cX11_holds 197 = .ok (.goto 15, 3) := by decide +kernel
theorem dX11_holds_200 : decode cX11_holds 200 = .ok (.iload 6, 2) := by decide +kernel
theorem dX11_holds_202 : decode cX11_holds 202 = .ok (.iload 7, 2) := by decide +kernel
theorem dX11_holds_204 : decode cX11_holds 204 = .ok (.if_icmp .gt 7, 3) := by decide +kernel
theorem dX11_holds_207 : decode cX11_holds 207 = .ok (.iconst 1, 1) := by decide +kernel
theorem dX11_holds_208 : decode cX11_holds 208 = .ok (.goto 4, 3) := by decide +kernel
theorem dX11_holds_211 : decode cX11_holds 211 = .ok (.iconst 0, 1) := by decide +kernel
theorem dX11_holds_212 : decode cX11_holds 212 = .ok (.istore_n 3, 1) := by decide +kernel
theorem dX11_holds_213 : decode cX11_holds 213 = .ok (.iinc 4 1, 3) := by decide +kernel
theorem dX11_holds_216 : decode cX11_holds 216 = .ok (.goto (-189), 3) := by decide +kernel
theorem dX11_holds_219 : decode cX11_holds 219 = .ok (.iload_n 3, 1) := by decide +kernel
theorem dX11_holds_220 : decode cX11_holds 220 = .ok (.ireturn, 1) := by decide +kernel
theorem dX11_nothing_0 : decode cX11_nothing 0 = .ok (.iconst 0, 1) := by decide +kernel
theorem dX11_nothing_1 : decode cX11_nothing 1 = .ok (.istore_n 2, 1) := by decide +kernel
theorem dX11_nothing_2 : decode cX11_nothing 2 = .ok (.iload_n 2, 1) := by decide +kernel
theorem dX11_nothing_3 : decode cX11_nothing 3 = .ok (.bipush 12, 2) := by decide +kernel
theorem dX11_nothing_5 : decode cX11_nothing 5 = .ok (.if_icmp .ge 16, 3) := by decide +kernel
theorem dX11_nothing_8 : decode cX11_nothing 8 = .ok (.aload_n 0, 1) := by decide +kernel
theorem dX11_nothing_9 : decode cX11_nothing 9 = .ok (.getfield 149, 3) := by decide +kernel
theorem dX11_nothing_12 : decode cX11_nothing 12 = .ok (.iload_n 2, 1) := by decide +kernel
theorem dX11_nothing_13 : decode cX11_nothing 13 = .ok (.iconst 0, 1) := by decide +kernel
theorem dX11_nothing_14 : decode cX11_nothing 14 = .ok (.iastore, 1) := by decide +kernel
theorem dX11_nothing_15 : decode cX11_nothing 15 = .ok (.iinc 2 1, 3) := by decide +kernel
theorem dX11_nothing_18 : decode cX11_nothing 18 = .ok (.goto (-16), 3) := by decide +kernel
theorem dX11_nothing_21 : decode cX11_nothing 21 = .ok (.aload_n 0, 1) := by decide +kernel
theorem dX11_nothing_22 : decode cX11_nothing 22 = .ok (.getfield 149, 3) := by decide +kernel
theorem dX11_nothing_25 : decode cX11_nothing 25 = .ok (.iconst 4, 1) := by decide +kernel
theorem dX11_nothing_26 : decode cX11_nothing 26 = .ok (.aload_n 0, 1) := by decide +kernel
theorem dX11_nothing_27 : decode cX11_nothing 27 = .ok (.getfield 122, 3) := by decide +kernel
theorem dX11_nothing_30 : decode cX11_nothing 30 = .ok (.iload_n 1, 1) := by decide +kernel
theorem dX11_nothing_31 : decode cX11_nothing 31 = .ok (.iaload, 1) := by decide +kernel
theorem dX11_nothing_32 : decode cX11_nothing 32 = .ok (.iastore, 1) := by decide +kernel
theorem dX11_nothing_33 : decode cX11_nothing 33 = .ok (.return_, 1) := by decide +kernel
theorem dX11_ruleOf_0 : decode cX11_ruleOf 0 = .ok (.aload_n 0, 1) := by decide +kernel
theorem dX11_ruleOf_1 : decode cX11_ruleOf 1 = .ok (.iload_n 1, 1) := by decide +kernel
theorem dX11_ruleOf_2 : decode cX11_ruleOf 2 = .ok (.invokevirtual 326, 3) := by decide +kernel
theorem dX11_ruleOf_5 : decode cX11_ruleOf 5 = .ok (.istore_n 3, 1) := by decide +kernel
theorem dX11_ruleOf_6 : decode cX11_ruleOf 6 = .ok (.iload_n 3, 1) := by decide +kernel
theorem dX11_ruleOf_7 : decode cX11_ruleOf 7 = .ok (.iconst (-1), 1) := by decide +kernel
theorem dX11_ruleOf_8 : decode cX11_ruleOf 8 = .ok (.if_icmp .ne 5, 3) := by decide +kernel
theorem dX11_ruleOf_11 : decode cX11_ruleOf 11 = .ok (.iconst (-1), 1) := by decide +kernel
theorem dX11_ruleOf_12 : decode cX11_ruleOf 12 = .ok (.ireturn, 1) := by decide +kernel
theorem dX11_ruleOf_13 : decode cX11_ruleOf 13 = .ok (.iconst 0, 1) := by decide +kernel
theorem dX11_ruleOf_14 : decode cX11_ruleOf 14 = .ok (.istore 4, 2) := by decide +kernel
theorem dX11_ruleOf_16 : decode cX11_ruleOf 16 = .ok (.iload 4, 2) := by decide +kernel
theorem dX11_ruleOf_18 : decode cX11_ruleOf 18 = .ok (.aload_n 0, 1) := by decide +kernel
theorem dX11_ruleOf_19 : decode cX11_ruleOf 19 = .ok (.getfield 46, 3) := by decide +kernel
theorem dX11_ruleOf_22 : decode cX11_ruleOf 22 = .ok (.iload_n 3, 1) := by decide +kernel
theorem dX11_ruleOf_23 : decode cX11_ruleOf 23 = .ok (.iaload, 1) := by decide +kernel
theorem dX11_ruleOf_24 : decode cX11_ruleOf 24 = .ok (.if_icmp .ge 43, 3) := by decide +kernel
theorem dX11_ruleOf_27 : decode cX11_ruleOf 27 = .ok (.aload_n 0, 1) := by decide +kernel
theorem dX11_ruleOf_28 : decode cX11_ruleOf 28 = .ok (.getfield 49, 3) := by decide +kernel
theorem dX11_ruleOf_31 : decode cX11_ruleOf 31 = .ok (.bipush 16, 2) := by decide +kernel
theorem dX11_ruleOf_33 : decode cX11_ruleOf 33 = .ok (.iload_n 3, 1) := by decide +kernel
theorem dX11_ruleOf_34 : decode cX11_ruleOf 34 = .ok (.imul, 1) := by decide +kernel
theorem dX11_ruleOf_35 : decode cX11_ruleOf 35 = .ok (.iload 4, 2) := by decide +kernel
theorem dX11_ruleOf_37 : decode cX11_ruleOf 37 = .ok (.iadd, 1) := by decide +kernel
theorem dX11_ruleOf_38 : decode cX11_ruleOf 38 = .ok (.iaload, 1) := by decide +kernel
theorem dX11_ruleOf_39 : decode cX11_ruleOf 39 = .ok (.iload_n 2, 1) := by decide +kernel
theorem dX11_ruleOf_40 : decode cX11_ruleOf 40 = .ok (.if_icmp .ne 21, 3) := by decide +kernel
theorem dX11_ruleOf_43 : decode cX11_ruleOf 43 = .ok (.aload_n 0, 1) := by decide +kernel
theorem dX11_ruleOf_44 : decode cX11_ruleOf 44 = .ok (.bipush 16, 2) := by decide +kernel
theorem dX11_ruleOf_46 : decode cX11_ruleOf 46 = .ok (.iload_n 3, 1) := by decide +kernel
theorem dX11_ruleOf_47 : decode cX11_ruleOf 47 = .ok (.imul, 1) := by decide +kernel
theorem dX11_ruleOf_48 : decode cX11_ruleOf 48 = .ok (.iload 4, 2) := by decide +kernel
theorem dX11_ruleOf_50 : decode cX11_ruleOf 50 = .ok (.iadd, 1) := by decide +kernel
theorem dX11_ruleOf_51 : decode cX11_ruleOf 51 = .ok (.iload_n 3, 1) := by decide +kernel
theorem dX11_ruleOf_52 : decode cX11_ruleOf 52 = .ok (.invokevirtual 332, 3) := by decide +kernel
theorem dX11_ruleOf_55 : decode cX11_ruleOf 55 = .ok (.ifCond .eq 6, 3) := by decide +kernel
theorem dX11_ruleOf_58 : decode cX11_ruleOf 58 = .ok (.iload 4, 2) := by decide +kernel
theorem dX11_ruleOf_60 : decode cX11_ruleOf 60 = .ok (.ireturn, 1) := by decide +kernel
theorem dX11_ruleOf_61 : decode cX11_ruleOf 61 = .ok (.iinc 4 1, 3) := by decide +kernel
theorem dX11_ruleOf_64 : decode cX11_ruleOf 64 = .ok (.goto (-48), 3) := by decide +kernel
theorem dX11_ruleOf_67 : decode cX11_ruleOf 67 = .ok (.iconst (-1), 1) := by decide +kernel
theorem dX11_ruleOf_68 : decode cX11_ruleOf 68 = .ok (.ireturn, 1) := by decide +kernel
theorem dX11_isKin_0 : decode cX11_isKin 0 = .ok (.aload_n 0, 1) := by decide +kernel
theorem dX11_isKin_1 : decode cX11_isKin 1 = .ok (.iload_n 2, 1) := by decide +kernel
theorem dX11_isKin_2 : decode cX11_isKin 2 = .ok (.aload_n 0, 1) := by decide +kernel
theorem dX11_isKin_3 : decode cX11_isKin 3 = .ok (.getfield 110, 3) := by decide +kernel
theorem dX11_isKin_6 : decode cX11_isKin 6 = .ok (.iload_n 1, 1) := by decide +kernel
theorem dX11_isKin_7 : decode cX11_isKin 7 = .ok (.iaload, 1) := by decide +kernel
theorem dX11_isKin_8 : decode cX11_isKin 8 = .ok (.invokevirtual 306, 3) := by decide +kernel
theorem dX11_isKin_11 : decode cX11_isKin 11 = .ok (.iconst 4, 1) := by decide +kernel
theorem dX11_isKin_12 : decode cX11_isKin 12 = .ok (.if_icmp .le 18, 3) := by decide +kernel
theorem dX11_isKin_15 : decode cX11_isKin 15 = .ok (.aload_n 0, 1) := by decide +kernel
theorem dX11_isKin_16 : decode cX11_isKin 16 = .ok (.iload_n 2, 1) := by decide +kernel
theorem dX11_isKin_17 : decode cX11_isKin 17 = .ok (.aload_n 0, 1) := by decide +kernel
theorem dX11_isKin_18 : decode cX11_isKin 18 = .ok (.getfield 113, 3) := by decide +kernel
theorem dX11_isKin_21 : decode cX11_isKin 21 = .ok (.iload_n 1, 1) := by decide +kernel
theorem dX11_isKin_22 : decode cX11_isKin 22 = .ok (.iaload, 1) := by decide +kernel
theorem dX11_isKin_23 : decode cX11_isKin 23 = .ok (.invokevirtual 306, 3) := by decide +kernel
theorem dX11_isKin_26 : decode cX11_isKin 26 = .ok (.iconst 4, 1) := by decide +kernel
theorem dX11_isKin_27 : decode cX11_isKin 27 = .ok (.if_icmp .gt 7, 3) := by decide +kernel
theorem dX11_isKin_30 : decode cX11_isKin 30 = .ok (.iconst 1, 1) := by decide +kernel
theorem dX11_isKin_31 : decode cX11_isKin 31 = .ok (.goto 4, 3) := by decide +kernel
theorem dX11_isKin_34 : decode cX11_isKin 34 = .ok (.iconst 0, 1) := by decide +kernel
theorem dX11_isKin_35 : decode cX11_isKin 35 = .ok (.ireturn, 1) := by decide +kernel
theorem dX11_proofOf_0 : decode cX11_proofOf 0 = .ok (.aload_n 0, 1) := by decide +kernel
theorem dX11_proofOf_1 : decode cX11_proofOf 1 = .ok (.iload_n 1, 1) := by decide +kernel
theorem dX11_proofOf_2 : decode cX11_proofOf 2 = .ok (.invokevirtual 336, 3) := by decide +kernel
theorem dX11_proofOf_5 : decode cX11_proofOf 5 = .ok (.iconst 0, 1) := by decide +kernel
theorem dX11_proofOf_6 : decode cX11_proofOf 6 = .ok (.istore_n 3, 1) := by decide +kernel
theorem dX11_proofOf_7 : decode cX11_proofOf 7 = .ok (.iload_n 3, 1) := by decide +kernel
theorem dX11_proofOf_8 : decode cX11_proofOf 8 = .ok (.bipush 120, 2) := by decide +kernel
theorem dX11_proofOf_10 : decode cX11_proofOf 10 = .ok (.if_icmp .ge 158, 3) := by decide +kernel
theorem dX11_proofOf_13 : decode cX11_proofOf 13 = .ok (.iconst (-1), 1) := by decide +kernel
theorem dX11_proofOf_14 : decode cX11_proofOf 14 = .ok (.istore 4, 2) := by decide +kernel
theorem dX11_proofOf_16 : decode cX11_proofOf 16 = .ok (.iconst 0, 1) := by decide +kernel
theorem dX11_proofOf_17 : decode cX11_proofOf 17 = .ok (.istore 5, 2) := by decide +kernel
theorem dX11_proofOf_19 : decode cX11_proofOf 19 = .ok (.iload 5, 2) := by decide +kernel
theorem dX11_proofOf_21 : decode cX11_proofOf 21 = .ok (.iload_n 2, 1) := by decide +kernel
theorem dX11_proofOf_22 : decode cX11_proofOf 22 = .ok (.if_icmp .ge 57, 3) := by decide +kernel
theorem dX11_proofOf_25 : decode cX11_proofOf 25 = .ok (.aload_n 0, 1) := by decide +kernel
theorem dX11_proofOf_26 : decode cX11_proofOf 26 = .ok (.getfield 137, 3) := by decide +kernel
theorem dX11_proofOf_29 : decode cX11_proofOf 29 = .ok (.iload 5, 2) := by decide +kernel
theorem dX11_proofOf_31 : decode cX11_proofOf 31 = .ok (.iaload, 1) := by decide +kernel
theorem dX11_proofOf_32 : decode cX11_proofOf 32 = .ok (.iconst 4, 1) := by decide +kernel
theorem dX11_proofOf_33 : decode cX11_proofOf 33 = .ok (.if_icmp .eq 14, 3) := by decide +kernel
theorem dX11_proofOf_36 : decode cX11_proofOf 36 = .ok (.aload_n 0, 1) := by decide +kernel
theorem dX11_proofOf_37 : decode cX11_proofOf 37 = .ok (.getfield 137, 3) := by decide +kernel
theorem dX11_proofOf_40 : decode cX11_proofOf 40 = .ok (.iload 5, 2) := by decide +kernel
theorem dX11_proofOf_42 : decode cX11_proofOf 42 = .ok (.iaload, 1) := by decide +kernel
theorem dX11_proofOf_43 : decode cX11_proofOf 43 = .ok (.iconst 5, 1) := by decide +kernel
theorem dX11_proofOf_44 : decode cX11_proofOf 44 = .ok (.if_icmp .ne 29, 3) := by decide +kernel
theorem dX11_proofOf_47 : decode cX11_proofOf 47 = .ok (.aload_n 0, 1) := by decide +kernel
theorem dX11_proofOf_48 : decode cX11_proofOf 48 = .ok (.getfield 140, 3) := by decide +kernel
theorem dX11_proofOf_51 : decode cX11_proofOf 51 = .ok (.iload 5, 2) := by decide +kernel
theorem dX11_proofOf_53 : decode cX11_proofOf 53 = .ok (.iaload, 1) := by decide +kernel
theorem dX11_proofOf_54 : decode cX11_proofOf 54 = .ok (.iload_n 3, 1) := by decide +kernel
theorem dX11_proofOf_55 : decode cX11_proofOf 55 = .ok (.if_icmp .ne 18, 3) := by decide +kernel
theorem dX11_proofOf_58 : decode cX11_proofOf 58 = .ok (.aload_n 0, 1) := by decide +kernel
theorem dX11_proofOf_59 : decode cX11_proofOf 59 = .ok (.getfield 143, 3) := by decide +kernel
theorem dX11_proofOf_62 : decode cX11_proofOf 62 = .ok (.iload 5, 2) := by decide +kernel
theorem dX11_proofOf_64 : decode cX11_proofOf 64 = .ok (.iaload, 1) := by decide +kernel
theorem dX11_proofOf_65 : decode cX11_proofOf 65 = .ok (.iload_n 1, 1) := by decide +kernel
theorem dX11_proofOf_66 : decode cX11_proofOf 66 = .ok (.if_icmp .ne 7, 3) := by decide +kernel
theorem dX11_proofOf_69 : decode cX11_proofOf 69 = .ok (.iload 5, 2) := by decide +kernel
theorem dX11_proofOf_71 : decode cX11_proofOf 71 = .ok (.istore 4, 2) := by decide +kernel
theorem dX11_proofOf_73 : decode cX11_proofOf 73 = .ok (.iinc 5 1, 3) := by decide +kernel
theorem dX11_proofOf_76 : decode cX11_proofOf 76 = .ok (.goto (-57), 3) := by decide +kernel
theorem dX11_proofOf_79 : decode cX11_proofOf 79 = .ok (.iload 4, 2) := by decide +kernel
theorem dX11_proofOf_81 : decode cX11_proofOf 81 = .ok (.iconst (-1), 1) := by decide +kernel
theorem dX11_proofOf_82 : decode cX11_proofOf 82 = .ok (.if_icmp .ne 6, 3) := by decide +kernel
theorem dX11_proofOf_85 : decode cX11_proofOf 85 = .ok (.goto 77, 3) := by decide +kernel
theorem dX11_proofOf_88 : decode cX11_proofOf 88 = .ok (.aload_n 0, 1) := by decide +kernel
theorem dX11_proofOf_89 : decode cX11_proofOf 89 = .ok (.getfield 137, 3) := by decide +kernel
theorem dX11_proofOf_92 : decode cX11_proofOf 92 = .ok (.iload 4, 2) := by decide +kernel
theorem dX11_proofOf_94 : decode cX11_proofOf 94 = .ok (.iaload, 1) := by decide +kernel
theorem dX11_proofOf_95 : decode cX11_proofOf 95 = .ok (.iconst 4, 1) := by decide +kernel
theorem dX11_proofOf_96 : decode cX11_proofOf 96 = .ok (.if_icmp .ne 7, 3) := by decide +kernel
theorem dX11_proofOf_99 : decode cX11_proofOf 99 = .ok (.iconst 1, 1) := by decide +kernel
theorem dX11_proofOf_100 : decode cX11_proofOf 100 = .ok (.goto 4, 3) := by decide +kernel
theorem dX11_proofOf_103 : decode cX11_proofOf 103 = .ok (.iconst 0, 1) := by decide +kernel
theorem dX11_proofOf_104 : decode cX11_proofOf 104 = .ok (.istore 5, 2) := by decide +kernel
theorem dX11_proofOf_106 : decode cX11_proofOf 106 = .ok (.iload_n 3, 1) := by decide +kernel
theorem dX11_proofOf_107 : decode cX11_proofOf 107 = .ok (.bipush 100, 2) := by decide +kernel
theorem dX11_proofOf_109 : decode cX11_proofOf 109 = .ok (.if_icmp .ge 34, 3) := by decide +kernel
theorem dX11_proofOf_112 : decode cX11_proofOf 112 = .ok (.aload_n 0, 1) := by decide +kernel
theorem dX11_proofOf_113 : decode cX11_proofOf 113 = .ok (.iload_n 1, 1) := by decide +kernel
theorem dX11_proofOf_114 : decode cX11_proofOf 114 = .ok (.iload_n 3, 1) := by decide +kernel
theorem dX11_proofOf_115 : decode cX11_proofOf 115 = .ok (.invokevirtual 339, 3) := by decide +kernel
theorem dX11_proofOf_118 : decode cX11_proofOf 118 = .ok (.ifCond .eq 25, 3) := by decide +kernel
theorem dX11_proofOf_121 : decode cX11_proofOf 121 = .ok (.aload_n 0, 1) := by decide +kernel
theorem dX11_proofOf_122 : decode cX11_proofOf 122 = .ok (.getfield 149, 3) := by decide +kernel
theorem dX11_proofOf_125 : decode cX11_proofOf 125 = .ok (.iconst 2, 1) := by decide +kernel
theorem dX11_proofOf_126 : decode cX11_proofOf 126 = .ok (.dup2, 1) := by decide +kernel
theorem dX11_proofOf_127 : decode cX11_proofOf 127 = .ok (.iaload, 1) := by decide +kernel
theorem dX11_proofOf_128 : decode cX11_proofOf 128 = .ok (.iload 5, 2) := by decide +kernel
theorem dX11_proofOf_130 : decode cX11_proofOf 130 = .ok (.ifCond .eq 7, 3) := by decide +kernel
theorem dX11_proofOf_133 : decode cX11_proofOf 133 = .ok (.iconst 1, 1) := by decide +kernel
theorem dX11_proofOf_134 : decode cX11_proofOf 134 = .ok (.goto 4, 3) := by decide +kernel
theorem dX11_proofOf_137 : decode cX11_proofOf 137 = .ok (.iconst 0, 1) := by decide +kernel
theorem dX11_proofOf_138 : decode cX11_proofOf 138 = .ok (.iadd, 1) := by decide +kernel
theorem dX11_proofOf_139 : decode cX11_proofOf 139 = .ok (.iastore, 1) := by decide +kernel
theorem dX11_proofOf_140 : decode cX11_proofOf 140 = .ok (.goto 22, 3) := by decide +kernel
theorem dX11_proofOf_143 : decode cX11_proofOf 143 = .ok (.aload_n 0, 1) := by decide +kernel
theorem dX11_proofOf_144 : decode cX11_proofOf 144 = .ok (.getfield 149, 3) := by decide +kernel
theorem dX11_proofOf_147 : decode cX11_proofOf 147 = .ok (.iload 5, 2) := by decide +kernel
theorem dX11_proofOf_149 : decode cX11_proofOf 149 = .ok (.ifCond .eq 7, 3) := by decide +kernel
theorem dX11_proofOf_152 : decode cX11_proofOf 152 = .ok (.iconst 0, 1) := by decide +kernel
theorem dX11_proofOf_153 : decode cX11_proofOf 153 = .ok (.goto 4, 3) := by decide +kernel
theorem dX11_proofOf_156 : decode cX11_proofOf 156 = .ok (.iconst 1, 1) := by decide +kernel
theorem dX11_proofOf_157 : decode cX11_proofOf 157 = .ok (.dup2, 1) := by decide +kernel
theorem dX11_proofOf_158 : decode cX11_proofOf 158 = .ok (.iaload, 1) := by decide +kernel
theorem dX11_proofOf_159 : decode cX11_proofOf 159 = .ok (.iconst 1, 1) := by decide +kernel
theorem dX11_proofOf_160 : decode cX11_proofOf 160 = .ok (.iadd, 1) := by decide +kernel
theorem dX11_proofOf_161 : decode cX11_proofOf 161 = .ok (.iastore, 1) := by decide +kernel
theorem dX11_proofOf_162 : decode cX11_proofOf 162 = .ok (.iinc 3 1, 3) := by decide +kernel
theorem dX11_proofOf_165 : decode cX11_proofOf 165 = .ok (.goto (-158), 3) := by decide +kernel
theorem dX11_proofOf_168 : decode cX11_proofOf 168 = .ok (.iconst 0, 1) := by decide +kernel
theorem dX11_proofOf_169 : decode cX11_proofOf 169 = .ok (.istore_n 3, 1) := by decide +kernel
theorem dX11_proofOf_170 : decode cX11_proofOf 170 = .ok (.iload_n 3, 1) := by decide +kernel
theorem dX11_proofOf_171 : decode cX11_proofOf 171 = .ok (.iload_n 2, 1) := by decide +kernel
theorem dX11_proofOf_172 : decode cX11_proofOf 172 = .ok (.if_icmp .ge 40, 3) := by decide +kernel
theorem dX11_proofOf_175 : decode cX11_proofOf 175 = .ok (.aload_n 0, 1) := by decide +kernel
theorem dX11_proofOf_176 : decode cX11_proofOf 176 = .ok (.getfield 137, 3) := by decide +kernel
theorem dX11_proofOf_179 : decode cX11_proofOf 179 = .ok (.iload_n 3, 1) := by decide +kernel
theorem dX11_proofOf_180 : decode cX11_proofOf 180 = .ok (.iaload, 1) := by decide +kernel
theorem dX11_proofOf_181 : decode cX11_proofOf 181 = .ok (.bipush 6, 2) := by decide +kernel
theorem dX11_proofOf_183 : decode cX11_proofOf 183 = .ok (.if_icmp .ne 23, 3) := by decide +kernel
theorem dX11_proofOf_186 : decode cX11_proofOf 186 = .ok (.aload_n 0, 1) := by decide +kernel
theorem dX11_proofOf_187 : decode cX11_proofOf 187 = .ok (.getfield 140, 3) := by decide +kernel
theorem dX11_proofOf_190 : decode cX11_proofOf 190 = .ok (.iload_n 3, 1) := by decide +kernel
theorem dX11_proofOf_191 : decode cX11_proofOf 191 = .ok (.iaload, 1) := by decide +kernel
theorem dX11_proofOf_192 : decode cX11_proofOf 192 = .ok (.iload_n 1, 1) := by decide +kernel
theorem dX11_proofOf_193 : decode cX11_proofOf 193 = .ok (.if_icmp .ne 13, 3) := by decide +kernel
theorem dX11_proofOf_196 : decode cX11_proofOf 196 = .ok (.aload_n 0, 1) := by decide +kernel
theorem dX11_proofOf_197 : decode cX11_proofOf 197 = .ok (.getfield 149, 3) := by decide +kernel
theorem dX11_proofOf_200 : decode cX11_proofOf 200 = .ok (.iconst 3, 1) := by decide +kernel
theorem dX11_proofOf_201 : decode cX11_proofOf 201 = .ok (.dup2, 1) := by decide +kernel
theorem dX11_proofOf_202 : decode cX11_proofOf 202 = .ok (.iaload, 1) := by decide +kernel
theorem dX11_proofOf_203 : decode cX11_proofOf 203 = .ok (.iconst 1, 1) := by decide +kernel
theorem dX11_proofOf_204 : decode cX11_proofOf 204 = .ok (.iadd, 1) := by decide +kernel
theorem dX11_proofOf_205 : decode cX11_proofOf 205 = .ok (.iastore, 1) := by decide +kernel
theorem dX11_proofOf_206 : decode cX11_proofOf 206 = .ok (.iinc 3 1, 3) := by decide +kernel
theorem dX11_proofOf_209 : decode cX11_proofOf 209 = .ok (.goto (-39), 3) := by decide +kernel
theorem dX11_proofOf_212 : decode cX11_proofOf 212 = .ok (.aload_n 0, 1) := by decide +kernel
theorem dX11_proofOf_213 : decode cX11_proofOf 213 = .ok (.iload_n 1, 1) := by decide +kernel
theorem dX11_proofOf_214 : decode cX11_proofOf 214 = .ok (.iconst 0, 1) := by decide +kernel
theorem dX11_proofOf_215 : decode cX11_proofOf 215 = .ok (.invokevirtual 342, 3) := by decide +kernel
theorem dX11_proofOf_218 : decode cX11_proofOf 218 = .ok (.ireturn, 1) := by decide +kernel
theorem dX11_effects_0 : decode cX11_effects 0 = .ok (.aload_n 0, 1) := by decide +kernel
theorem dX11_effects_1 : decode cX11_effects 1 = .ok (.getfield 161, 3) := by decide +kernel
theorem dX11_effects_4 : decode cX11_effects 4 = .ok (.iload_n 1, 1) := by decide +kernel
theorem dX11_effects_5 : decode cX11_effects 5 = .ok (.aload_n 0, 1) := by decide +kernel
theorem dX11_effects_6 : decode cX11_effects 6 = .ok (.getfield 119, 3) := by decide +kernel
theorem dX11_effects_9 : decode cX11_effects 9 = .ok (.iload_n 1, 1) := by decide +kernel
theorem dX11_effects_10 : decode cX11_effects 10 = .ok (.iaload, 1) := by decide +kernel
theorem dX11_effects_11 : decode cX11_effects 11 = .ok (.iastore, 1) := by decide +kernel
theorem dX11_effects_12 : decode cX11_effects 12 = .ok (.aload_n 0, 1) := by decide +kernel
theorem dX11_effects_13 : decode cX11_effects 13 = .ok (.getfield 164, 3) := by decide +kernel
theorem dX11_effects_16 : decode cX11_effects 16 = .ok (.iload_n 1, 1) := by decide +kernel
theorem dX11_effects_17 : decode cX11_effects 17 = .ok (.iconst 1, 1) := by decide +kernel
theorem dX11_effects_18 : decode cX11_effects 18 = .ok (.iastore, 1) := by decide +kernel
theorem dX11_effects_19 : decode cX11_effects 19 = .ok (.aload_n 0, 1) := by decide +kernel
theorem dX11_effects_20 : decode cX11_effects 20 = .ok (.getfield 125, 3) := by decide +kernel
theorem dX11_effects_23 : decode cX11_effects 23 = .ok (.iload_n 1, 1) := by decide +kernel
theorem dX11_effects_24 : decode cX11_effects 24 = .ok (.iaload, 1) := by decide +kernel
theorem dX11_effects_25 : decode cX11_effects 25 = .ok (.iconst (-1), 1) := by decide +kernel
theorem dX11_effects_26 : decode cX11_effects 26 = .ok (.if_icmp .ne 4, 3) := by decide +kernel
theorem dX11_effects_29 : decode cX11_effects 29 = .ok (.return_, 1) := by decide +kernel
theorem dX11_effects_30 : decode cX11_effects 30 = .ok (.iconst (-1), 1) := by decide +kernel
theorem dX11_effects_31 : decode cX11_effects 31 = .ok (.istore_n 3, 1) := by decide +kernel
theorem dX11_effects_32 : decode cX11_effects 32 = .ok (.iconst 0, 1) := by decide +kernel
theorem dX11_effects_33 : decode cX11_effects 33 = .ok (.istore 4, 2) := by decide +kernel
theorem dX11_effects_35 : decode cX11_effects 35 = .ok (.iload 4, 2) := by decide +kernel
theorem dX11_effects_37 : decode cX11_effects 37 = .ok (.iload_n 2, 1) := by decide +kernel
theorem dX11_effects_38 : decode cX11_effects 38 = .ok (.if_icmp .ge 73, 3) := by decide +kernel
theorem dX11_effects_41 : decode cX11_effects 41 = .ok (.aload_n 0, 1) := by decide +kernel
theorem dX11_effects_42 : decode cX11_effects 42 = .ok (.getfield 137, 3) := by decide +kernel
theorem dX11_effects_45 : decode cX11_effects 45 = .ok (.iload 4, 2) := by decide +kernel
theorem dX11_effects_47 : decode cX11_effects 47 = .ok (.iaload, 1) := by decide +kernel
theorem dX11_effects_48 : decode cX11_effects 48 = .ok (.bipush 7, 2) := by decide +kernel
theorem dX11_effects_50 : decode cX11_effects 50 = .ok (.if_icmp .eq 15, 3) := by decide +kernel
theorem dX11_effects_53 : decode cX11_effects 53 = .ok (.aload_n 0, 1) := by decide +kernel
theorem dX11_effects_54 : decode cX11_effects 54 = .ok (.getfield 137, 3) := by decide +kernel
theorem dX11_effects_57 : decode cX11_effects 57 = .ok (.iload 4, 2) := by decide +kernel
theorem dX11_effects_59 : decode cX11_effects 59 = .ok (.iaload, 1) := by decide +kernel
theorem dX11_effects_60 : decode cX11_effects 60 = .ok (.bipush 8, 2) := by decide +kernel
theorem dX11_effects_62 : decode cX11_effects 62 = .ok (.if_icmp .ne 43, 3) := by decide +kernel
theorem dX11_effects_65 : decode cX11_effects 65 = .ok (.aload_n 0, 1) := by decide +kernel
theorem dX11_effects_66 : decode cX11_effects 66 = .ok (.getfield 140, 3) := by decide +kernel
theorem dX11_effects_69 : decode cX11_effects 69 = .ok (.iload 4, 2) := by decide +kernel
theorem dX11_effects_71 : decode cX11_effects 71 = .ok (.iaload, 1) := by decide +kernel
theorem dX11_effects_72 : decode cX11_effects 72 = .ok (.aload_n 0, 1) := by decide +kernel
theorem dX11_effects_73 : decode cX11_effects 73 = .ok (.getfield 125, 3) := by decide +kernel
theorem dX11_effects_76 : decode cX11_effects 76 = .ok (.iload_n 1, 1) := by decide +kernel
theorem dX11_effects_77 : decode cX11_effects 77 = .ok (.iaload, 1) := by decide +kernel
theorem dX11_effects_78 : decode cX11_effects 78 = .ok (.if_icmp .ne 27, 3) := by decide +kernel
theorem dX11_effects_81 : decode cX11_effects 81 = .ok (.iload_n 3, 1) := by decide +kernel
theorem dX11_effects_82 : decode cX11_effects 82 = .ok (.iconst (-1), 1) := by decide +kernel
theorem dX11_effects_83 : decode cX11_effects 83 = .ok (.if_icmp .eq 19, 3) := by decide +kernel
theorem dX11_effects_86 : decode cX11_effects 86 = .ok (.aload_n 0, 1) := by decide +kernel
theorem dX11_effects_87 : decode cX11_effects 87 = .ok (.getfield 146, 3) := by decide +kernel
theorem dX11_effects_90 : decode cX11_effects 90 = .ok (.iload 4, 2) := by decide +kernel
theorem dX11_effects_92 : decode cX11_effects 92 = .ok (.iaload, 1) := by decide +kernel
theorem dX11_effects_93 : decode cX11_effects 93 = .ok (.aload_n 0, 1) := by decide +kernel
theorem dX11_effects_94 : decode cX11_effects 94 = .ok (.getfield 146, 3) := by decide +kernel
theorem dX11_effects_97 : decode cX11_effects 97 = .ok (.iload_n 3, 1) := by decide +kernel
theorem dX11_effects_98 : decode cX11_effects 98 = .ok (.iaload, 1) := by decide +kernel
theorem dX11_effects_99 : decode cX11_effects 99 = .ok (.if_icmp .ge 6, 3) := by decide +kernel
theorem dX11_effects_102 : decode cX11_effects 102 = .ok (.iload 4, 2) := by decide +kernel
theorem dX11_effects_104 : decode cX11_effects 104 = .ok (.istore_n 3, 1) := by decide +kernel
theorem dX11_effects_105 : decode cX11_effects 105 = .ok (.iinc 4 1, 3) := by decide +kernel
theorem dX11_effects_108 : decode cX11_effects 108 = .ok (.goto (-73), 3) := by decide +kernel
theorem dX11_effects_111 : decode cX11_effects 111 = .ok (.aload_n 0, 1) := by decide +kernel
theorem dX11_effects_112 : decode cX11_effects 112 = .ok (.getfield 164, 3) := by decide +kernel
theorem dX11_effects_115 : decode cX11_effects 115 = .ok (.iload_n 1, 1) := by decide +kernel
theorem dX11_effects_116 : decode cX11_effects 116 = .ok (.iload_n 3, 1) := by decide +kernel
theorem dX11_effects_117 : decode cX11_effects 117 = .ok (.iconst (-1), 1) := by decide +kernel
theorem dX11_effects_118 : decode cX11_effects 118 = .ok (.if_icmp .ne 7, 3) := by decide +kernel
theorem dX11_effects_121 : decode cX11_effects 121 = .ok (.iconst 0, 1) := by decide +kernel
theorem dX11_effects_122 : decode cX11_effects 122 = .ok (.goto 19, 3) := by decide +kernel
theorem dX11_effects_125 : decode cX11_effects 125 = .ok (.aload_n 0, 1) := by decide +kernel
theorem dX11_effects_126 : decode cX11_effects 126 = .ok (.getfield 137, 3) := by decide +kernel
theorem dX11_effects_129 : decode cX11_effects 129 = .ok (.iload_n 3, 1) := by decide +kernel
theorem dX11_effects_130 : decode cX11_effects 130 = .ok (.iaload, 1) := by decide +kernel
theorem dX11_effects_131 : decode cX11_effects 131 = .ok (.bipush 7, 2) := by decide +kernel
theorem dX11_effects_133 : decode cX11_effects 133 = .ok (.if_icmp .ne 7, 3) := by decide +kernel
theorem dX11_effects_136 : decode cX11_effects 136 = .ok (.iconst 1, 1) := by decide +kernel
theorem dX11_effects_137 : decode cX11_effects 137 = .ok (.goto 4, 3) := by decide +kernel
theorem dX11_effects_140 : decode cX11_effects 140 = .ok (.iconst 2, 1) := by decide +kernel
theorem dX11_effects_141 : decode cX11_effects 141 = .ok (.iastore, 1) := by decide +kernel
theorem dX11_effects_142 : decode cX11_effects 142 = .ok (.iload_n 3, 1) := by decide +kernel
theorem dX11_effects_143 : decode cX11_effects 143 = .ok (.iconst (-1), 1) := by decide +kernel
theorem dX11_effects_144 : decode cX11_effects 144 = .ok (.if_icmp .ne 15, 3) := by decide +kernel
theorem dX11_effects_147 : decode cX11_effects 147 = .ok (.aload_n 0, 1) := by decide +kernel
theorem dX11_effects_148 : decode cX11_effects 148 = .ok (.getfield 161, 3) := by decide +kernel
theorem dX11_effects_151 : decode cX11_effects 151 = .ok (.iload_n 1, 1) := by decide +kernel
theorem dX11_effects_152 : decode cX11_effects 152 = .ok (.ldc_w 345, 3) := by decide +kernel
theorem dX11_effects_155 : decode cX11_effects 155 = .ok (.iastore, 1) := by decide +kernel
theorem dX11_effects_156 : decode cX11_effects 156 = .ok (.goto 30, 3) := by decide +kernel
theorem dX11_effects_159 : decode cX11_effects 159 = .ok (.aload_n 0, 1) := by decide +kernel
theorem dX11_effects_160 : decode cX11_effects 160 = .ok (.getfield 146, 3) := by decide +kernel
theorem dX11_effects_163 : decode cX11_effects 163 = .ok (.iload_n 3, 1) := by decide +kernel
theorem dX11_effects_164 : decode cX11_effects 164 = .ok (.iaload, 1) := by decide +kernel
theorem dX11_effects_165 : decode cX11_effects 165 = .ok (.aload_n 0, 1) := by decide +kernel
