theorem dX10_leave_2 : decode cX10_leave 2 = .ok (.iload_n 2, 1) := by decide +kernel
theorem dX10_leave_3 : decode cX10_leave 3 = .ok (.invokevirtual 114, 3) := by decide +kernel
theorem dX10_leave_6 : decode cX10_leave 6 = .ok (.ifCond .eq 10, 3) := by decide +kernel
theorem dX10_leave_9 : decode cX10_leave 9 = .ok (.iload_n 3, 1) := by decide +kernel
theorem dX10_leave_10 : decode cX10_leave 10 = .ok (.invokestatic 86, 3) := by decide +kernel
theorem dX10_leave_13 : decode cX10_leave 13 = .ok (.ifCond .ne 5, 3) := by decide +kernel
theorem dX10_leave_16 : decode cX10_leave 16 = .ok (.iconst (-1), 1) := by decide +kernel
theorem dX10_leave_17 : decode cX10_leave 17 = .ok (.ireturn, 1) := by decide +kernel
theorem dX10_leave_18 : decode cX10_leave 18 = .ok (.aload_n 0, 1) := by decide +kernel
theorem dX10_leave_19 : decode cX10_leave 19 = .ok (.getfield 54, 3) := by decide +kernel
theorem dX10_leave_22 : decode cX10_leave 22 = .ok (.iconst 4, 1) := by decide +kernel
theorem dX10_leave_23 : decode cX10_leave 23 = .ok (.iload_n 1, 1) := by decide +kernel
theorem dX10_leave_24 : decode cX10_leave 24 = .ok (.iload_n 2, 1) := by decide +kernel
theorem dX10_leave_25 : decode cX10_leave 25 = .ok (.iload_n 3, 1) := by decide +kernel
theorem dX10_leave_26 : decode cX10_leave 26 = .ok (.invokevirtual 133, 3) := by decide +kernel
theorem dX10_leave_29 : decode cX10_leave 29 = .ok (.ireturn, 1) := by decide +kernel
theorem dX10_degree_0 : decode cX10_degree 0 = .ok (.aload_n 0, 1) := by decide +kernel
theorem dX10_degree_1 : decode cX10_degree 1 = .ok (.getfield 33, 3) := by decide +kernel
theorem dX10_degree_4 : decode cX10_degree 4 = .ok (.iload_n 1, 1) := by decide +kernel
theorem dX10_degree_5 : decode cX10_degree 5 = .ok (.invokevirtual 127, 3) := by decide +kernel
theorem dX10_degree_8 : decode cX10_degree 8 = .ok (.ifCond .eq 14, 3) := by decide +kernel
theorem dX10_degree_11 : decode cX10_degree 11 = .ok (.aload_n 0, 1) := by decide +kernel
theorem dX10_degree_12 : decode cX10_degree 12 = .ok (.getfield 33, 3) := by decide +kernel
theorem dX10_degree_15 : decode cX10_degree 15 = .ok (.iload_n 2, 1) := by decide +kernel
theorem dX10_degree_16 : decode cX10_degree 16 = .ok (.invokevirtual 127, 3) := by decide +kernel
theorem dX10_degree_19 : decode cX10_degree 19 = .ok (.ifCond .ne 5, 3) := by decide +kernel
theorem dX10_degree_22 : decode cX10_degree 22 = .ok (.iconst (-1), 1) := by decide +kernel
theorem dX10_degree_23 : decode cX10_degree 23 = .ok (.ireturn, 1) := by decide +kernel
theorem dX10_degree_24 : decode cX10_degree 24 = .ok (.aload_n 0, 1) := by decide +kernel
theorem dX10_degree_25 : decode cX10_degree 25 = .ok (.getfield 33, 3) := by decide +kernel
theorem dX10_degree_28 : decode cX10_degree 28 = .ok (.iload_n 1, 1) := by decide +kernel
theorem dX10_degree_29 : decode cX10_degree 29 = .ok (.iload_n 2, 1) := by decide +kernel
theorem dX10_degree_30 : decode cX10_degree 30 = .ok (.invokevirtual 136, 3) := by decide +kernel
theorem dX10_degree_33 : decode cX10_degree 33 = .ok (.ireturn, 1) := by decide +kernel
theorem dX10_gaps_0 : decode cX10_gaps 0 = .ok (.aload_n 0, 1) := by decide +kernel
theorem dX10_gaps_1 : decode cX10_gaps 1 = .ok (.getfield 33, 3) := by decide +kernel
theorem dX10_gaps_4 : decode cX10_gaps 4 = .ok (.iload_n 1, 1) := by decide +kernel
theorem dX10_gaps_5 : decode cX10_gaps 5 = .ok (.invokevirtual 127, 3) := by decide +kernel
theorem dX10_gaps_8 : decode cX10_gaps 8 = .ok (.ifCond .ne 5, 3) := by decide +kernel
theorem dX10_gaps_11 : decode cX10_gaps 11 = .ok (.iconst (-1), 1) := by decide +kernel
theorem dX10_gaps_12 : decode cX10_gaps 12 = .ok (.ireturn, 1) := by decide +kernel
theorem dX10_gaps_13 : decode cX10_gaps 13 = .ok (.aload_n 0, 1) := by decide +kernel
theorem dX10_gaps_14 : decode cX10_gaps 14 = .ok (.getfield 33, 3) := by decide +kernel
theorem dX10_gaps_17 : decode cX10_gaps 17 = .ok (.iload_n 1, 1) := by decide +kernel
theorem dX10_gaps_18 : decode cX10_gaps 18 = .ok (.invokevirtual 140, 3) := by decide +kernel
theorem dX10_gaps_21 : decode cX10_gaps 21 = .ok (.ireturn, 1) := by decide +kernel
theorem dX10_law_0 : decode cX10_law 0 = .ok (.aload_n 0, 1) := by decide +kernel
theorem dX10_law_1 : decode cX10_law 1 = .ok (.iload_n 1, 1) := by decide +kernel
theorem dX10_law_2 : decode cX10_law 2 = .ok (.invokevirtual 123, 3) := by decide +kernel
theorem dX10_law_5 : decode cX10_law 5 = .ok (.ifCond .ne 5, 3) := by decide +kernel
theorem dX10_law_8 : decode cX10_law 8 = .ok (.iconst (-1), 1) := by decide +kernel
theorem dX10_law_9 : decode cX10_law 9 = .ok (.ireturn, 1) := by decide +kernel
theorem dX10_law_10 : decode cX10_law 10 = .ok (.aload_n 0, 1) := by decide +kernel
theorem dX10_law_11 : decode cX10_law 11 = .ok (.getfield 26, 3) := by decide +kernel
theorem dX10_law_14 : decode cX10_law 14 = .ok (.aload_n 0, 1) := by decide +kernel
theorem dX10_law_15 : decode cX10_law 15 = .ok (.getfield 40, 3) := by decide +kernel
theorem dX10_law_18 : decode cX10_law 18 = .ok (.getfield 144, 3) := by decide +kernel
theorem dX10_law_21 : decode cX10_law 21 = .ok (.iload_n 1, 1) := by decide +kernel
theorem dX10_law_22 : decode cX10_law 22 = .ok (.iaload, 1) := by decide +kernel
theorem dX10_law_23 : decode cX10_law 23 = .ok (.aload_n 0, 1) := by decide +kernel
theorem dX10_law_24 : decode cX10_law 24 = .ok (.getfield 40, 3) := by decide +kernel
theorem dX10_law_27 : decode cX10_law 27 = .ok (.getfield 147, 3) := by decide +kernel
theorem dX10_law_30 : decode cX10_law 30 = .ok (.iload_n 1, 1) := by decide +kernel
theorem dX10_law_31 : decode cX10_law 31 = .ok (.iaload, 1) := by decide +kernel
theorem dX10_law_32 : decode cX10_law 32 = .ok (.invokevirtual 150, 3) := by decide +kernel
theorem dX10_law_35 : decode cX10_law 35 = .ok (.ireturn, 1) := by decide +kernel
theorem dX10_proved_0 : decode cX10_proved 0 = .ok (.aload_n 0, 1) := by decide +kernel
theorem dX10_proved_1 : decode cX10_proved 1 = .ok (.iload_n 1, 1) := by decide +kernel
theorem dX10_proved_2 : decode cX10_proved 2 = .ok (.invokevirtual 123, 3) := by decide +kernel
theorem dX10_proved_5 : decode cX10_proved 5 = .ok (.ifCond .eq 11, 3) := by decide +kernel
theorem dX10_proved_8 : decode cX10_proved 8 = .ok (.aload_n 0, 1) := by decide +kernel
theorem dX10_proved_9 : decode cX10_proved 9 = .ok (.iload_n 2, 1) := by decide +kernel
theorem dX10_proved_10 : decode cX10_proved 10 = .ok (.invokevirtual 153, 3) := by decide +kernel
theorem dX10_proved_13 : decode cX10_proved 13 = .ok (.ifCond .ne 5, 3) := by decide +kernel
theorem dX10_proved_16 : decode cX10_proved 16 = .ok (.iconst (-1), 1) := by decide +kernel
theorem dX10_proved_17 : decode cX10_proved 17 = .ok (.ireturn, 1) := by decide +kernel
theorem dX10_proved_18 : decode cX10_proved 18 = .ok (.aload_n 0, 1) := by decide +kernel
theorem dX10_proved_19 : decode cX10_proved 19 = .ok (.getfield 63, 3) := by decide +kernel
theorem dX10_proved_22 : decode cX10_proved 22 = .ok (.iload_n 2, 1) := by decide +kernel
theorem dX10_proved_23 : decode cX10_proved 23 = .ok (.invokevirtual 156, 3) := by decide +kernel
theorem dX10_proved_26 : decode cX10_proved 26 = .ok (.aload_n 0, 1) := by decide +kernel
theorem dX10_proved_27 : decode cX10_proved 27 = .ok (.getfield 63, 3) := by decide +kernel
theorem dX10_proved_30 : decode cX10_proved 30 = .ok (.getfield 159, 3) := by decide +kernel
theorem dX10_proved_33 : decode cX10_proved 33 = .ok (.iload_n 1, 1) := by decide +kernel
theorem dX10_proved_34 : decode cX10_proved 34 = .ok (.iaload, 1) := by decide +kernel
theorem dX10_proved_35 : decode cX10_proved 35 = .ok (.ireturn, 1) := by decide +kernel
theorem dX10_barred_0 : decode cX10_barred 0 = .ok (.aload_n 0, 1) := by decide +kernel
theorem dX10_barred_1 : decode cX10_barred 1 = .ok (.iload_n 1, 1) := by decide +kernel
theorem dX10_barred_2 : decode cX10_barred 2 = .ok (.invokevirtual 123, 3) := by decide +kernel
theorem dX10_barred_5 : decode cX10_barred 5 = .ok (.ifCond .eq 11, 3) := by decide +kernel
theorem dX10_barred_8 : decode cX10_barred 8 = .ok (.aload_n 0, 1) := by decide +kernel
theorem dX10_barred_9 : decode cX10_barred 9 = .ok (.iload_n 2, 1) := by decide +kernel
theorem dX10_barred_10 : decode cX10_barred 10 = .ok (.invokevirtual 153, 3) := by decide +kernel
theorem dX10_barred_13 : decode cX10_barred 13 = .ok (.ifCond .ne 5, 3) := by decide +kernel
theorem dX10_barred_16 : decode cX10_barred 16 = .ok (.iconst (-1), 1) := by decide +kernel
theorem dX10_barred_17 : decode cX10_barred 17 = .ok (.ireturn, 1) := by decide +kernel
theorem dX10_barred_18 : decode cX10_barred 18 = .ok (.aload_n 0, 1) := by decide +kernel
theorem dX10_barred_19 : decode cX10_barred 19 = .ok (.getfield 63, 3) := by decide +kernel
theorem dX10_barred_22 : decode cX10_barred 22 = .ok (.iload_n 2, 1) := by decide +kernel
theorem dX10_barred_23 : decode cX10_barred 23 = .ok (.invokevirtual 156, 3) := by decide +kernel
theorem dX10_barred_26 : decode cX10_barred 26 = .ok (.aload_n 0, 1) := by decide +kernel
theorem dX10_barred_27 : decode cX10_barred 27 = .ok (.getfield 63, 3) := by decide +kernel
theorem dX10_barred_30 : decode cX10_barred 30 = .ok (.getfield 162, 3) := by decide +kernel
theorem dX10_barred_33 : decode cX10_barred 33 = .ok (.iload_n 1, 1) := by decide +kernel
theorem dX10_barred_34 : decode cX10_barred 34 = .ok (.iaload, 1) := by decide +kernel
theorem dX10_barred_35 : decode cX10_barred 35 = .ok (.ireturn, 1) := by decide +kernel
theorem dX10_state_0 : decode cX10_state 0 = .ok (.aload_n 0, 1) := by decide +kernel
theorem dX10_state_1 : decode cX10_state 1 = .ok (.iload_n 1, 1) := by decide +kernel
theorem dX10_state_2 : decode cX10_state 2 = .ok (.invokevirtual 123, 3) := by decide +kernel
theorem dX10_state_5 : decode cX10_state 5 = .ok (.ifCond .eq 18, 3) := by decide +kernel
theorem dX10_state_8 : decode cX10_state 8 = .ok (.iload_n 2, 1) := by decide +kernel
theorem dX10_state_9 : decode cX10_state 9 = .ok (.invokestatic 86, 3) := by decide +kernel
theorem dX10_state_12 : decode cX10_state 12 = .ok (.ifCond .eq 11, 3) := by decide +kernel
theorem dX10_state_15 : decode cX10_state 15 = .ok (.aload_n 0, 1) := by decide +kernel
theorem dX10_state_16 : decode cX10_state 16 = .ok (.iload_n 3, 1) := by decide +kernel
theorem dX10_state_17 : decode cX10_state 17 = .ok (.invokevirtual 153, 3) := by decide +kernel
theorem dX10_state_20 : decode cX10_state 20 = .ok (.ifCond .ne 5, 3) := by decide +kernel
theorem dX10_state_23 : decode cX10_state 23 = .ok (.iconst (-1), 1) := by decide +kernel
theorem dX10_state_24 : decode cX10_state 24 = .ok (.ireturn, 1) := by decide +kernel
theorem dX10_state_25 : decode cX10_state 25 = .ok (.aload_n 0, 1) := by decide +kernel
theorem dX10_state_26 : decode cX10_state 26 = .ok (.getfield 63, 3) := by decide +kernel
theorem dX10_state_29 : decode cX10_state 29 = .ok (.iload_n 3, 1) := by decide +kernel
theorem dX10_state_30 : decode cX10_state 30 = .ok (.invokevirtual 156, 3) := by decide +kernel
theorem dX10_state_33 : decode cX10_state 33 = .ok (.aload_n 0, 1) := by decide +kernel
theorem dX10_state_34 : decode cX10_state 34 = .ok (.getfield 63, 3) := by decide +kernel
theorem dX10_state_37 : decode cX10_state 37 = .ok (.iload_n 1, 1) := by decide +kernel
theorem dX10_state_38 : decode cX10_state 38 = .ok (.iload_n 2, 1) := by decide +kernel
theorem dX10_state_39 : decode cX10_state 39 = .ok (.invokevirtual 165, 3) := by decide +kernel
theorem dX10_state_42 : decode cX10_state 42 = .ok (.ireturn, 1) := by decide +kernel
theorem dX10_force_0 : decode cX10_force 0 = .ok (.aload_n 0, 1) := by decide +kernel
theorem dX10_force_1 : decode cX10_force 1 = .ok (.iload_n 1, 1) := by decide +kernel
theorem dX10_force_2 : decode cX10_force 2 = .ok (.invokevirtual 123, 3) := by decide +kernel
theorem dX10_force_5 : decode cX10_force 5 = .ok (.ifCond .eq 20, 3) := by decide +kernel
theorem dX10_force_8 : decode cX10_force 8 = .ok (.aload_n 0, 1) := by decide +kernel
theorem dX10_force_9 : decode cX10_force 9 = .ok (.iload_n 2, 1) := by decide +kernel
theorem dX10_force_10 : decode cX10_force 10 = .ok (.invokevirtual 153, 3) := by decide +kernel
theorem dX10_force_13 : decode cX10_force 13 = .ok (.ifCond .eq 12, 3) := by decide +kernel
theorem dX10_force_16 : decode cX10_force 16 = .ok (.iload_n 3, 1) := by decide +kernel
theorem dX10_force_17 : decode cX10_force 17 = .ok (.ifCond .lt 8, 3) := by decide +kernel
theorem dX10_force_20 : decode cX10_force 20 = .ok (.iload_n 3, 1) := by decide +kernel
theorem dX10_force_21 : decode cX10_force 21 = .ok (.iconst 5, 1) := by decide +kernel
theorem dX10_force_22 : decode cX10_force 22 = .ok (.if_icmp .le 6, 3) := by decide +kernel
theorem dX10_force_25 : decode cX10_force 25 = .ok (.bipush (-3), 2) := by decide +kernel
theorem dX10_force_27 : decode cX10_force 27 = .ok (.ireturn, 1) := by decide +kernel
theorem dX10_force_28 : decode cX10_force 28 = .ok (.aload_n 0, 1) := by decide +kernel
theorem dX10_force_29 : decode cX10_force 29 = .ok (.getfield 63, 3) := by decide +kernel
theorem dX10_force_32 : decode cX10_force 32 = .ok (.iload_n 2, 1) := by decide +kernel
theorem dX10_force_33 : decode cX10_force 33 = .ok (.invokevirtual 156, 3) := by decide +kernel
theorem dX10_force_36 : decode cX10_force 36 = .ok (.iload_n 3, 1) := by decide +kernel
theorem dX10_force_37 : decode cX10_force 37 = .ok (.iconst 5, 1) := by decide +kernel
theorem dX10_force_38 : decode cX10_force 38 = .ok (.if_icmp .ne 13, 3) := by decide +kernel
theorem dX10_force_41 : decode cX10_force 41 = .ok (.aload_n 0, 1) := by decide +kernel
theorem dX10_force_42 : decode cX10_force 42 = .ok (.getfield 63, 3) := by decide +kernel
theorem dX10_force_45 : decode cX10_force 45 = .ok (.getfield 168, 3) := by decide +kernel
theorem dX10_force_48 : decode cX10_force 48 = .ok (.iload_n 1, 1) := by decide +kernel
theorem dX10_force_49 : decode cX10_force 49 = .ok (.iaload, 1) := by decide +kernel
theorem dX10_force_50 : decode cX10_force 50 = .ok (.ireturn, 1) := by decide +kernel
theorem dX10_force_51 : decode cX10_force 51 = .ok (.aload_n 0, 1) := by decide +kernel
theorem dX10_force_52 : decode cX10_force 52 = .ok (.getfield 63, 3) := by decide +kernel
theorem dX10_force_55 : decode cX10_force 55 = .ok (.iload_n 1, 1) := by decide +kernel
theorem dX10_force_56 : decode cX10_force 56 = .ok (.invokevirtual 171, 3) := by decide +kernel
theorem dX10_force_59 : decode cX10_force 59 = .ok (.ifCond .ne 6, 3) := by decide +kernel
theorem dX10_force_62 : decode cX10_force 62 = .ok (.bipush (-2), 2) := by decide +kernel
theorem dX10_force_64 : decode cX10_force 64 = .ok (.ireturn, 1) := by decide +kernel
theorem dX10_force_65 : decode cX10_force 65 = .ok (.iload_n 3, 1) := by decide +kernel
theorem dX10_force_66 : decode cX10_force 66 = .ok (.tableswitch 89 0 3 #[30, 40, 69, 79], 30) := by decide +kernel
theorem dX10_force_96 : decode cX10_force 96 = .ok (.aload_n 0, 1) := by decide +kernel
theorem dX10_force_97 : decode cX10_force 97 = .ok (.getfield 63, 3) := by decide +kernel
theorem dX10_force_100 : decode cX10_force 100 = .ok (.getfield 174, 3) := by decide +kernel
theorem dX10_force_103 : decode cX10_force 103 = .ok (.iload_n 1, 1) := by decide +kernel
theorem dX10_force_104 : decode cX10_force 104 = .ok (.iaload, 1) := by decide +kernel
theorem dX10_force_105 : decode cX10_force 105 = .ok (.ireturn, 1) := by decide +kernel
theorem dX10_force_106 : decode cX10_force 106 = .ok (.aload_n 0, 1) := by decide +kernel
theorem dX10_force_107 : decode cX10_force 107 = .ok (.getfield 63, 3) := by decide +kernel
theorem dX10_force_110 : decode cX10_force 110 = .ok (.getfield 177, 3) := by decide +kernel
theorem dX10_force_113 : decode cX10_force 113 = .ok (.iload_n 1, 1) := by decide +kernel
theorem dX10_force_114 : decode cX10_force 114 = .ok (.iaload, 1) := by decide +kernel
theorem dX10_force_115 : decode cX10_force 115 = .ok (.sipush 10000, 3) := by decide +kernel
theorem dX10_force_118 : decode cX10_force 118 = .ok (.if_icmp .ne 7, 3) := by decide +kernel
theorem dX10_force_121 : decode cX10_force 121 = .ok (.iconst (-1), 1) := by decide +kernel
theorem dX10_force_122 : decode cX10_force 122 = .ok (.goto 12, 3) := by decide +kernel
theorem dX10_force_125 : decode cX10_force 125 = .ok (.aload_n 0, 1) := by decide +kernel
theorem dX10_force_126 : decode cX10_force 126 = .ok (.getfield 63, 3) := by decide +kernel
theorem dX10_force_129 : decode cX10_force 129 = .ok (.getfield 177, 3) := by decide +kernel
theorem dX10_force_132 : decode cX10_force 132 = .ok (.iload_n 1, 1) := by decide +kernel
theorem dX10_force_133 : decode cX10_force 133 = .ok (.iaload, 1) := by decide +kernel
theorem dX10_force_134 : decode cX10_force 134 = .ok (.ireturn, 1) := by decide +kernel
theorem dX10_force_135 : decode cX10_force 135 = .ok (.aload_n 0, 1) := by decide +kernel
theorem dX10_force_136 : decode cX10_force 136 = .ok (.getfield 63, 3) := by decide +kernel
theorem dX10_force_139 : decode cX10_force 139 = .ok (.getfield 180, 3) := by decide +kernel
theorem dX10_force_142 : decode cX10_force 142 = .ok (.iload_n 1, 1) := by decide +kernel
theorem dX10_force_143 : decode cX10_force 143 = .ok (.iaload, 1) := by decide +kernel
theorem dX10_force_144 : decode cX10_force 144 = .ok (.ireturn, 1) := by decide +kernel
theorem dX10_force_145 : decode cX10_force 145 = .ok (.aload_n 0, 1) := by decide +kernel
theorem dX10_force_146 : decode cX10_force 146 = .ok (.getfield 63, 3) := by decide +kernel
theorem dX10_force_149 : decode cX10_force 149 = .ok (.getfield 183, 3) := by decide +kernel
theorem dX10_force_152 : decode cX10_force 152 = .ok (.iload_n 1, 1) := by decide +kernel
theorem dX10_force_153 : decode cX10_force 153 = .ok (.iaload, 1) := by decide +kernel
theorem dX10_force_154 : decode cX10_force 154 = .ok (.ireturn, 1) := by decide +kernel
theorem dX10_force_155 : decode cX10_force 155 = .ok (.aload_n 0, 1) := by decide +kernel
theorem dX10_force_156 : decode cX10_force 156 = .ok (.getfield 63, 3) := by decide +kernel
theorem dX10_force_159 : decode cX10_force 159 = .ok (.getfield 186, 3) := by decide +kernel
theorem dX10_force_162 : decode cX10_force 162 = .ok (.iload_n 1, 1) := by decide +kernel
theorem dX10_force_163 : decode cX10_force 163 = .ok (.iaload, 1) := by decide +kernel
theorem dX10_force_164 : decode cX10_force 164 = .ok (.ireturn, 1) := by decide +kernel
theorem dX10_bound_0 : decode cX10_bound 0 = .ok (.aload_n 0, 1) := by decide +kernel
theorem dX10_bound_1 : decode cX10_bound 1 = .ok (.getfield 33, 3) := by decide +kernel
theorem dX10_bound_4 : decode cX10_bound 4 = .ok (.iload_n 1, 1) := by decide +kernel
theorem dX10_bound_5 : decode cX10_bound 5 = .ok (.invokevirtual 127, 3) := by decide +kernel
theorem dX10_bound_8 : decode cX10_bound 8 = .ok (.ifCond .eq 18, 3) := by decide +kernel
theorem dX10_bound_11 : decode cX10_bound 11 = .ok (.iload_n 2, 1) := by decide +kernel
theorem dX10_bound_12 : decode cX10_bound 12 = .ok (.invokestatic 86, 3) := by decide +kernel
theorem dX10_bound_15 : decode cX10_bound 15 = .ok (.ifCond .eq 11, 3) := by decide +kernel
theorem dX10_bound_18 : decode cX10_bound 18 = .ok (.aload_n 0, 1) := by decide +kernel
theorem dX10_bound_19 : decode cX10_bound 19 = .ok (.iload_n 3, 1) := by decide +kernel
theorem dX10_bound_20 : decode cX10_bound 20 = .ok (.invokevirtual 153, 3) := by decide +kernel
theorem dX10_bound_23 : decode cX10_bound 23 = .ok (.ifCond .ne 5, 3) := by decide +kernel
theorem dX10_bound_26 : decode cX10_bound 26 = .ok (.iconst (-1), 1) := by decide +kernel
theorem dX10_bound_27 : decode cX10_bound 27 = .ok (.ireturn, 1) := by decide +kernel
theorem dX10_bound_28 : decode cX10_bound 28 = .ok (.aload_n 0, 1) := by decide +kernel
theorem dX10_bound_29 : decode cX10_bound 29 = .ok (.getfield 63, 3) := by decide +kernel
theorem dX10_bound_32 : decode cX10_bound 32 = .ok (.iload_n 3, 1) := by decide +kernel
theorem dX10_bound_33 : decode cX10_bound 33 = .ok (.invokevirtual 156, 3) := by decide +kernel
theorem dX10_bound_36 : decode cX10_bound 36 = .ok (.iconst 0, 1) := by decide +kernel
theorem dX10_bound_37 : decode cX10_bound 37 = .ok (.istore 4, 2) := by decide +kernel
theorem dX10_bound_39 : decode cX10_bound 39 = .ok (.iload 4, 2) := by decide +kernel
theorem dX10_bound_41 : decode cX10_bound 41 = .ok (.aload_n 0, 1) := by decide +kernel
theorem dX10_bound_42 : decode cX10_bound 42 = .ok (.getfield 40, 3) := by decide +kernel
theorem dX10_bound_45 : decode cX10_bound 45 = .ok (.getfield 189, 3) := by decide +kernel
theorem dX10_bound_48 : decode cX10_bound 48 = .ok (.if_icmp .ge 48, 3) := by decide +kernel
theorem dX10_bound_51 : decode cX10_bound 51 = .ok (.aload_n 0, 1) := by decide +kernel
theorem dX10_bound_52 : decode cX10_bound 52 = .ok (.getfield 40, 3) := by decide +kernel
theorem dX10_bound_55 : decode cX10_bound 55 = .ok (.iload 4, 2) := by decide +kernel
theorem dX10_bound_57 : decode cX10_bound 57 = .ok (.iload_n 1, 1) := by decide +kernel
theorem dX10_bound_58 : decode cX10_bound 58 = .ok (.invokevirtual 130, 3) := by decide +kernel
theorem dX10_bound_61 : decode cX10_bound 61 = .ok (.ifCond .eq 29, 3) := by decide +kernel
theorem dX10_bound_64 : decode cX10_bound 64 = .ok (.aload_n 0, 1) := by decide +kernel
theorem dX10_bound_65 : decode cX10_bound 65 = .ok (.getfield 63, 3) := by decide +kernel
theorem dX10_bound_68 : decode cX10_bound 68 = .ok (.iload 4, 2) := by decide +kernel
theorem dX10_bound_70 : decode cX10_bound 70 = .ok (.iload_n 2, 1) := by decide +kernel
theorem dX10_bound_71 : decode cX10_bound 71 = .ok (.invokevirtual 165, 3) := by decide +kernel
theorem dX10_bound_74 : decode cX10_bound 74 = .ok (.bipush 6, 2) := by decide +kernel
theorem dX10_bound_76 : decode cX10_bound 76 = .ok (.if_icmp .ne 14, 3) := by decide +kernel
theorem dX10_bound_79 : decode cX10_bound 79 = .ok (.aload_n 0, 1) := by decide +kernel
theorem dX10_bound_80 : decode cX10_bound 80 = .ok (.getfield 40, 3) := by decide +kernel
theorem dX10_bound_83 : decode cX10_bound 83 = .ok (.iload 4, 2) := by decide +kernel
theorem dX10_bound_85 : decode cX10_bound 85 = .ok (.iload_n 1, 1) := by decide +kernel
theorem dX10_bound_86 : decode cX10_bound 86 = .ok (.invokevirtual 190, 3) := by decide +kernel
theorem dX10_bound_89 : decode cX10_bound 89 = .ok (.ireturn, 1) := by decide +kernel
theorem dX10_bound_90 : decode cX10_bound 90 = .ok (.iinc 4 1, 3) := by decide +kernel
theorem dX10_bound_93 : decode cX10_bound 93 = .ok (.goto (-54), 3) := by decide +kernel
theorem dX10_bound_96 : decode cX10_bound 96 = .ok (.iconst (-1), 1) := by decide +kernel
theorem dX10_bound_97 : decode cX10_bound 97 = .ok (.ireturn, 1) := by decide +kernel
theorem dX10_goes_0 : decode cX10_goes 0 = .ok (.iload_n 1, 1) := by decide +kernel
theorem dX10_goes_1 : decode cX10_goes 1 = .ok (.ifCond .lt 29, 3) := by decide +kernel
theorem dX10_goes_4 : decode cX10_goes 4 = .ok (.iload_n 1, 1) := by decide +kernel
theorem dX10_goes_5 : decode cX10_goes 5 = .ok (.aload_n 0, 1) := by decide +kernel
theorem dX10_goes_6 : decode cX10_goes 6 = .ok (.getfield 47, 3) := by decide +kernel
theorem dX10_goes_9 : decode cX10_goes 9 = .ok (.getfield 193, 3) := by decide +kernel
theorem dX10_goes_12 : decode cX10_goes 12 = .ok (.if_icmp .ge 18, 3) := by decide +kernel
theorem dX10_goes_15 : decode cX10_goes 15 = .ok (.iload_n 2, 1) := by decide +kernel
theorem dX10_goes_16 : decode cX10_goes 16 = .ok (.invokestatic 86, 3) := by decide +kernel
theorem dX10_goes_19 : decode cX10_goes 19 = .ok (.ifCond .eq 11, 3) := by decide +kernel
theorem dX10_goes_22 : decode cX10_goes 22 = .ok (.aload_n 0, 1) := by decide +kernel
theorem dX10_goes_23 : decode cX10_goes 23 = .ok (.iload_n 3, 1) := by decide +kernel
theorem dX10_goes_24 : decode cX10_goes 24 = .ok (.invokevirtual 153, 3) := by decide +kernel
theorem dX10_goes_27 : decode cX10_goes 27 = .ok (.ifCond .ne 5, 3) := by decide +kernel
theorem dX10_goes_30 : decode cX10_goes 30 = .ok (.iconst (-1), 1) := by decide +kernel
theorem dX10_goes_31 : decode cX10_goes 31 = .ok (.ireturn, 1) := by decide +kernel
theorem dX10_goes_32 : decode cX10_goes 32 = .ok (.aload_n 0, 1) := by decide +kernel
theorem dX10_goes_33 : decode cX10_goes 33 = .ok (.getfield 63, 3) := by decide +kernel
theorem dX10_goes_36 : decode cX10_goes 36 = .ok (.iload_n 3, 1) := by decide +kernel
theorem dX10_goes_37 : decode cX10_goes 37 = .ok (.invokevirtual 156, 3) := by decide +kernel
theorem dX10_goes_40 : decode cX10_goes 40 = .ok (.aload_n 0, 1) := by decide +kernel
theorem dX10_goes_41 : decode cX10_goes 41 = .ok (.iload_n 1, 1) := by decide +kernel
theorem dX10_goes_42 : decode cX10_goes 42 = .ok (.iload_n 2, 1) := by decide +kernel
theorem dX10_goes_43 : decode cX10_goes 43 = .ok (.invokevirtual 194, 3) := by decide +kernel
theorem dX10_goes_46 : decode cX10_goes 46 = .ok (.ireturn, 1) := by decide +kernel
theorem dX10_owes_0 : decode cX10_owes 0 = .ok (.aload_n 0, 1) := by decide +kernel
theorem dX10_owes_1 : decode cX10_owes 1 = .ok (.getfield 33, 3) := by decide +kernel
theorem dX10_owes_4 : decode cX10_owes 4 = .ok (.iload_n 1, 1) := by decide +kernel
theorem dX10_owes_5 : decode cX10_owes 5 = .ok (.invokevirtual 127, 3) := by decide +kernel
theorem dX10_owes_8 : decode cX10_owes 8 = .ok (.ifCond .eq 18, 3) := by decide +kernel
theorem dX10_owes_11 : decode cX10_owes 11 = .ok (.iload_n 2, 1) := by decide +kernel
theorem dX10_owes_12 : decode cX10_owes 12 = .ok (.invokestatic 86, 3) := by decide +kernel
theorem dX10_owes_15 : decode cX10_owes 15 = .ok (.ifCond .eq 11, 3) := by decide +kernel
theorem dX10_owes_18 : decode cX10_owes 18 = .ok (.aload_n 0, 1) := by decide +kernel
theorem dX10_owes_19 : decode cX10_owes 19 = .ok (.iload_n 3, 1) := by decide +kernel
theorem dX10_owes_20 : decode cX10_owes 20 = .ok (.invokevirtual 153, 3) := by decide +kernel
theorem dX10_owes_23 : decode cX10_owes 23 = .ok (.ifCond .ne 5, 3) := by decide +kernel
theorem dX10_owes_26 : decode cX10_owes 26 = .ok (.iconst 0, 1) := by decide +kernel
theorem dX10_owes_27 : decode cX10_owes 27 = .ok (.ireturn, 1) := by decide +kernel
theorem dX10_owes_28 : decode cX10_owes 28 = .ok (.aload_n 0, 1) := by decide +kernel
theorem dX10_owes_29 : decode cX10_owes 29 = .ok (.getfield 63, 3) := by decide +kernel
theorem dX10_owes_32 : decode cX10_owes 32 = .ok (.iload_n 3, 1) := by decide +kernel
theorem dX10_owes_33 : decode cX10_owes 33 = .ok (.invokevirtual 156, 3) := by decide +kernel
theorem dX10_owes_36 : decode cX10_owes 36 = .ok (.iconst 0, 1) := by decide +kernel
theorem dX10_owes_37 : decode cX10_owes 37 = .ok (.istore 4, 2) := by decide +kernel
theorem dX10_owes_39 : decode cX10_owes 39 = .ok (.iconst 0, 1) := by decide +kernel
theorem dX10_owes_40 : decode cX10_owes 40 = .ok (.istore 5, 2) := by decide +kernel
theorem dX10_owes_42 : decode cX10_owes 42 = .ok (.iload 5, 2) := by decide +kernel
theorem dX10_owes_44 : decode cX10_owes 44 = .ok (.aload_n 0, 1) := by decide +kernel
theorem dX10_owes_45 : decode cX10_owes 45 = .ok (.getfield 47, 3) := by decide +kernel
theorem dX10_owes_48 : decode cX10_owes 48 = .ok (.getfield 193, 3) := by decide +kernel
theorem dX10_owes_51 : decode cX10_owes 51 = .ok (.if_icmp .ge 79, 3) := by decide +kernel
theorem dX10_owes_54 : decode cX10_owes 54 = .ok (.aload_n 0, 1) := by decide +kernel
theorem dX10_owes_55 : decode cX10_owes 55 = .ok (.getfield 47, 3) := by decide +kernel
theorem dX10_owes_58 : decode cX10_owes 58 = .ok (.getfield 197, 3) := by decide +kernel
theorem dX10_owes_61 : decode cX10_owes 61 = .ok (.iload 5, 2) := by decide +kernel
theorem dX10_owes_63 : decode cX10_owes 63 = .ok (.iaload, 1) := by decide +kernel
theorem dX10_owes_64 : decode cX10_owes 64 = .ok (.istore 6, 2) := by decide +kernel
theorem dX10_owes_66 : decode cX10_owes 66 = .ok (.aload_n 0, 1) := by decide +kernel
theorem dX10_owes_67 : decode cX10_owes 67 = .ok (.getfield 40, 3) := by decide +kernel
theorem dX10_owes_70 : decode cX10_owes 70 = .ok (.iload 6, 2) := by decide +kernel
theorem dX10_owes_72 : decode cX10_owes 72 = .ok (.iload_n 1, 1) := by decide +kernel
theorem dX10_owes_73 : decode cX10_owes 73 = .ok (.invokevirtual 130, 3) := by decide +kernel
theorem dX10_owes_76 : decode cX10_owes 76 = .ok (.ifCond .eq 48, 3) := by decide +kernel
theorem dX10_owes_79 : decode cX10_owes 79 = .ok (.aload_n 0, 1) := by decide +kernel
theorem dX10_owes_80 : decode cX10_owes 80 = .ok (.iload 5, 2) := by decide +kernel
theorem dX10_owes_82 : decode cX10_owes 82 = .ok (.iload_n 2, 1) := by decide +kernel
theorem dX10_owes_83 : decode cX10_owes 83 = .ok (.invokevirtual 194, 3) := by decide +kernel
theorem dX10_owes_86 : decode cX10_owes 86 = .ok (.istore 7, 2) := by decide +kernel
theorem dX10_owes_88 : decode cX10_owes 88 = .ok (.iload 4, 2) := by decide +kernel
theorem dX10_owes_90 : decode cX10_owes 90 = .ok (.aload_n 0, 1) := by decide +kernel
theorem dX10_owes_91 : decode cX10_owes 91 = .ok (.getfield 40, 3) := by decide +kernel
theorem dX10_owes_94 : decode cX10_owes 94 = .ok (.iload 6, 2) := by decide +kernel
theorem dX10_owes_96 : decode cX10_owes 96 = .ok (.iload_n 1, 1) := by decide +kernel
theorem dX10_owes_97 : decode cX10_owes 97 = .ok (.invokevirtual 200, 3) := by decide +kernel
theorem dX10_owes_100 : decode cX10_owes 100 = .ok (.aload_n 0, 1) := by decide +kernel
theorem dX10_owes_101 : decode cX10_owes 101 = .ok (.getfield 47, 3) := by decide +kernel
theorem dX10_owes_104 : decode cX10_owes 104 = .ok (.getfield 203, 3) := by decide +kernel
theorem dX10_owes_107 : decode cX10_owes 107 = .ok (.iload 5, 2) := by decide +kernel
theorem dX10_owes_109 : decode cX10_owes 109 = .ok (.iaload, 1) := by decide +kernel
theorem dX10_owes_110 : decode cX10_owes 110 = .ok (.if_icmp .ne 9, 3) := by decide +kernel
theorem dX10_owes_113 : decode cX10_owes 113 = .ok (.iload 7, 2) := by decide +kernel
theorem dX10_owes_115 : decode cX10_owes 115 = .ok (.ineg, 1) := by decide +kernel
theorem dX10_owes_116 : decode cX10_owes 116 = .ok (.goto 5, 3) := by decide +kernel
theorem dX10_owes_119 : decode cX10_owes 119 = .ok (.iload 7, 2) := by decide +kernel
theorem dX10_owes_121 : decode cX10_owes 121 = .ok (.iadd, 1) := by decide +kernel
theorem dX10_owes_122 : decode cX10_owes 122 = .ok (.istore 4, 2) := by decide +kernel
theorem dX10_owes_124 : decode cX10_owes 124 = .ok (.iinc 5 1, 3) := by decide +kernel
theorem dX10_owes_127 : decode cX10_owes 127 = .ok (.goto (-85), 3) := by decide +kernel
theorem dX10_owes_130 : decode cX10_owes 130 = .ok (.iload 4, 2) := by decide +kernel
theorem dX10_owes_132 : decode cX10_owes 132 = .ok (.ireturn, 1) := by decide +kernel
theorem dX10_changed_0 : decode cX10_changed 0 = .ok (.iload_n 1, 1) := by decide +kernel
theorem dX10_changed_1 : decode cX10_changed 1 = .ok (.invokestatic 86, 3) := by decide +kernel
theorem dX10_changed_4 : decode cX10_changed 4 = .ok (.ifCond .eq 19, 3) := by decide +kernel
theorem dX10_changed_7 : decode cX10_changed 7 = .ok (.aload_n 0, 1) := by decide +kernel
theorem dX10_changed_8 : decode cX10_changed 8 = .ok (.iload_n 2, 1) := by decide +kernel
theorem dX10_changed_9 : decode cX10_changed 9 = .ok (.invokevirtual 153, 3) := by decide +kernel
theorem dX10_changed_12 : decode cX10_changed 12 = .ok (.ifCond .eq 11, 3) := by decide +kernel
theorem dX10_changed_15 : decode cX10_changed 15 = .ok (.aload_n 0, 1) := by decide +kernel
theorem dX10_changed_16 : decode cX10_changed 16 = .ok (.iload_n 3, 1) := by decide +kernel
theorem dX10_changed_17 : decode cX10_changed 17 = .ok (.invokevirtual 153, 3) := by decide +kernel
theorem dX10_changed_20 : decode cX10_changed 20 = .ok (.ifCond .ne 5, 3) := by decide +kernel
theorem dX10_changed_23 : decode cX10_changed 23 = .ok (.iconst (-1), 1) := by decide +kernel
theorem dX10_changed_24 : decode cX10_changed 24 = .ok (.ireturn, 1) := by decide +kernel
theorem dX10_changed_25 : decode cX10_changed 25 = .ok (.aload_n 0, 1) := by decide +kernel
theorem dX10_changed_26 : decode cX10_changed 26 = .ok (.getfield 63, 3) := by decide +kernel
theorem dX10_changed_29 : decode cX10_changed 29 = .ok (.iload_n 2, 1) := by decide +kernel
theorem dX10_changed_30 : decode cX10_changed 30 = .ok (.invokevirtual 156, 3) := by decide +kernel
theorem dX10_changed_33 : decode cX10_changed 33 = .ok (.iconst 0, 1) := by decide +kernel
theorem dX10_changed_34 : decode cX10_changed 34 = .ok (.istore 4, 2) := by decide +kernel
theorem dX10_changed_36 : decode cX10_changed 36 = .ok (.iload 4, 2) := by decide +kernel
theorem dX10_changed_38 : decode cX10_changed 38 = .ok (.aload_n 0, 1) := by decide +kernel
theorem dX10_changed_39 : decode cX10_changed 39 = .ok (.getfield 40, 3) := by decide +kernel
theorem dX10_changed_42 : decode cX10_changed 42 = .ok (.getfield 189, 3) := by decide +kernel
theorem dX10_changed_45 : decode cX10_changed 45 = .ok (.if_icmp .ge 26, 3) := by decide +kernel
theorem dX10_changed_48 : decode cX10_changed 48 = .ok (.aload_n 0, 1) := by decide +kernel
theorem dX10_changed_49 : decode cX10_changed 49 = .ok (.getfield 67, 3) := by decide +kernel
theorem dX10_changed_52 : decode cX10_changed 52 = .ok (.iload 4, 2) := by decide +kernel
theorem dX10_changed_54 : decode cX10_changed 54 = .ok (.aload_n 0, 1) := by decide +kernel
theorem dX10_changed_55 : decode cX10_changed 55 = .ok (.getfield 63, 3) := by decide +kernel
theorem dX10_changed_58 : decode cX10_changed 58 = .ok (.iload 4, 2) := by decide +kernel
theorem dX10_changed_60 : decode cX10_changed 60 = .ok (.iload_n 1, 1) := by decide +kernel
theorem dX10_changed_61 : decode cX10_changed 61 = .ok (.invokevirtual 165, 3) := by decide +kernel
theorem dX10_changed_64 : decode cX10_changed 64 = .ok (.iastore, 1) := by decide +kernel
theorem dX10_changed_65 : decode cX10_changed 65 = .ok (.iinc 4 1, 3) := by decide +kernel
theorem dX10_changed_68 : decode cX10_changed 68 = .ok (.goto (-32), 3) := by decide +kernel
theorem dX10_changed_71 : decode cX10_changed 71 = .ok (.aload_n 0, 1) := by decide +kernel
theorem dX10_changed_72 : decode cX10_changed 72 = .ok (.getfield 63, 3) := by decide +kernel
theorem dX10_changed_75 : decode cX10_changed 75 = .ok (.iload_n 3, 1) := by decide +kernel
theorem dX10_changed_76 : decode cX10_changed 76 = .ok (.invokevirtual 156, 3) := by decide +kernel
theorem dX10_changed_79 : decode cX10_changed 79 = .ok (.iconst 0, 1) := by decide +kernel
theorem dX10_changed_80 : decode cX10_changed 80 = .ok (.istore 4, 2) := by decide +kernel
theorem dX10_changed_82 : decode cX10_changed 82 = .ok (.iload 4, 2) := by decide +kernel
theorem dX10_changed_84 : decode cX10_changed 84 = .ok (.aload_n 0, 1) := by decide +kernel
theorem dX10_changed_85 : decode cX10_changed 85 = .ok (.getfield 40, 3) := by decide +kernel
theorem dX10_changed_88 : decode cX10_changed 88 = .ok (.getfield 189, 3) := by decide +kernel
theorem dX10_changed_91 : decode cX10_changed 91 = .ok (.if_icmp .ge 32, 3) := by decide +kernel
theorem dX10_changed_94 : decode cX10_changed 94 = .ok (.aload_n 0, 1) := by decide +kernel
theorem dX10_changed_95 : decode cX10_changed 95 = .ok (.getfield 63, 3) := by decide +kernel
theorem dX10_changed_98 : decode cX10_changed 98 = .ok (.iload 4, 2) := by decide +kernel
theorem dX10_changed_100 : decode cX10_changed 100 = .ok (.iload_n 1, 1) := by decide +kernel
theorem dX10_changed_101 : decode cX10_changed 101 = .ok (.invokevirtual 165, 3) := by decide +kernel
theorem dX10_changed_104 : decode cX10_changed 104 = .ok (.aload_n 0, 1) := by decide +kernel
theorem dX10_changed_105 : decode cX10_changed 105 = .ok (.getfield 67, 3) := by decide +kernel
theorem dX10_changed_108 : decode cX10_changed 108 = .ok (.iload 4, 2) := by decide +kernel
theorem dX10_changed_110 : decode cX10_changed 110 = .ok (.iaload, 1) := by decide +kernel
theorem dX10_changed_111 : decode cX10_changed 111 = .ok (.if_icmp .eq 6, 3) := by decide +kernel
theorem dX10_changed_114 : decode cX10_changed 114 = .ok (.iload 4, 2) := by decide +kernel
theorem dX10_changed_116 : decode cX10_changed 116 = .ok (.ireturn, 1) := by decide +kernel
theorem dX10_changed_117 : decode cX10_changed 117 = .ok (.iinc 4 1, 3) := by decide +kernel
theorem dX10_changed_120 : decode cX10_changed 120 = .ok (.goto (-38), 3) := by decide +kernel
theorem dX10_changed_123 : decode cX10_changed 123 = .ok (.iconst (-1), 1) := by decide +kernel
theorem dX10_changed_124 : decode cX10_changed 124 = .ok (.ireturn, 1) := by decide +kernel
theorem dX10_count_0 : decode cX10_count 0 = .ok (.iload_n 1, 1) := by decide +kernel
theorem dX10_count_1 : decode cX10_count 1 = .ok (.tableswitch 87 0 5 #[39, 47, 55, 63, 71, 79], 39) := by decide +kernel
theorem dX10_count_40 : decode cX10_count 40 = .ok (.aload_n 0, 1) := by decide +kernel
theorem dX10_count_41 : decode cX10_count 41 = .ok (.getfield 33, 3) := by decide +kernel
theorem dX10_count_44 : decode cX10_count 44 = .ok (.getfield 206, 3) := by decide +kernel
theorem dX10_count_47 : decode cX10_count 47 = .ok (.ireturn, 1) := by decide +kernel
theorem dX10_count_48 : decode cX10_count 48 = .ok (.aload_n 0, 1) := by decide +kernel
theorem dX10_count_49 : decode cX10_count 49 = .ok (.getfield 40, 3) := by decide +kernel
theorem dX10_count_52 : decode cX10_count 52 = .ok (.getfield 189, 3) := by decide +kernel
theorem dX10_count_55 : decode cX10_count 55 = .ok (.ireturn, 1) := by decide +kernel
theorem dX10_count_56 : decode cX10_count 56 = .ok (.aload_n 0, 1) := by decide +kernel
theorem dX10_count_57 : decode cX10_count 57 = .ok (.getfield 47, 3) := by decide +kernel
theorem dX10_count_60 : decode cX10_count 60 = .ok (.getfield 193, 3) := by decide +kernel
theorem dX10_count_63 : decode cX10_count 63 = .ok (.ireturn, 1) := by decide +kernel
theorem dX10_count_64 : decode cX10_count 64 = .ok (.aload_n 0, 1) := by decide +kernel
theorem dX10_count_65 : decode cX10_count 65 = .ok (.getfield 54, 3) := by decide +kernel
theorem dX10_count_68 : decode cX10_count 68 = .ok (.getfield 207, 3) := by decide +kernel
theorem dX10_count_71 : decode cX10_count 71 = .ok (.ireturn, 1) := by decide +kernel
theorem dX10_count_72 : decode cX10_count 72 = .ok (.aload_n 0, 1) := by decide +kernel
theorem dX10_count_73 : decode cX10_count 73 = .ok (.getfield 26, 3) := by decide +kernel
theorem dX10_count_76 : decode cX10_count 76 = .ok (.getfield 89, 3) := by decide +kernel
theorem dX10_count_79 : decode cX10_count 79 = .ok (.ireturn, 1) := by decide +kernel
theorem dX10_count_80 : decode cX10_count 80 = .ok (.aload_n 0, 1) := by decide +kernel
theorem dX10_count_81 : decode cX10_count 81 = .ok (.getfield 12, 3) := by decide +kernel
theorem dX10_count_84 : decode cX10_count 84 = .ok (.getfield 75, 3) := by decide +kernel
theorem dX10_count_87 : decode cX10_count 87 = .ok (.ireturn, 1) := by decide +kernel
theorem dX10_count_88 : decode cX10_count 88 = .ok (.iconst (-1), 1) := by decide +kernel
theorem dX10_count_89 : decode cX10_count 89 = .ok (.ireturn, 1) := by decide +kernel
theorem dX10_goingBack_0 : decode cX10_goingBack 0 = .ok (.aload_n 0, 1) := by decide +kernel
theorem dX10_goingBack_1 : decode cX10_goingBack 1 = .ok (.getfield 63, 3) := by decide +kernel
theorem dX10_goingBack_4 : decode cX10_goingBack 4 = .ok (.aload_n 0, 1) := by decide +kernel
theorem dX10_goingBack_5 : decode cX10_goingBack 5 = .ok (.getfield 47, 3) := by decide +kernel
theorem dX10_goingBack_8 : decode cX10_goingBack 8 = .ok (.getfield 197, 3) := by decide +kernel
theorem dX10_goingBack_11 : decode cX10_goingBack 11 = .ok (.iload_n 1, 1) := by decide +kernel
theorem dX10_goingBack_12 : decode cX10_goingBack 12 = .ok (.iaload, 1) := by decide +kernel
theorem dX10_goingBack_13 : decode cX10_goingBack 13 = .ok (.aload_n 0, 1) := by decide +kernel
theorem dX10_goingBack_14 : decode cX10_goingBack 14 = .ok (.getfield 47, 3) := by decide +kernel
theorem dX10_goingBack_17 : decode cX10_goingBack 17 = .ok (.getfield 203, 3) := by decide +kernel
theorem dX10_goingBack_20 : decode cX10_goingBack 20 = .ok (.iload_n 1, 1) := by decide +kernel
theorem dX10_goingBack_21 : decode cX10_goingBack 21 = .ok (.iaload, 1) := by decide +kernel
theorem dX10_goingBack_22 : decode cX10_goingBack 22 = .ok (.iload_n 2, 1) := by decide +kernel
theorem dX10_goingBack_23 : decode cX10_goingBack 23 = .ok (.invokevirtual 208, 3) := by decide +kernel
theorem dX10_goingBack_26 : decode cX10_goingBack 26 = .ok (.istore_n 3, 1) := by decide +kernel
theorem dX10_goingBack_27 : decode cX10_goingBack 27 = .ok (.aload_n 0, 1) := by decide +kernel
theorem dX10_goingBack_28 : decode cX10_goingBack 28 = .ok (.getfield 47, 3) := by decide +kernel
theorem dX10_goingBack_31 : decode cX10_goingBack 31 = .ok (.getfield 211, 3) := by decide +kernel
theorem dX10_goingBack_34 : decode cX10_goingBack 34 = .ok (.iload_n 1, 1) := by decide +kernel
theorem dX10_goingBack_35 : decode cX10_goingBack 35 = .ok (.iaload, 1) := by decide +kernel
theorem dX10_goingBack_36 : decode cX10_goingBack 36 = .ok (.iload_n 3, 1) := by decide +kernel
theorem dX10_goingBack_37 : decode cX10_goingBack 37 = .ok (.imul, 1) := by decide +kernel
theorem dX10_goingBack_38 : decode cX10_goingBack 38 = .ok (.bipush 100, 2) := by decide +kernel
theorem dX10_goingBack_40 : decode cX10_goingBack 40 = .ok (.idiv, 1) := by decide +kernel
theorem dX10_goingBack_41 : decode cX10_goingBack 41 = .ok (.ireturn, 1) := by decide +kernel
theorem dX10_areTwoPersons_0 : decode cX10_areTwoPersons 0 = .ok (.aload_n 0, 1) := by decide +kernel
theorem dX10_areTwoPersons_1 : decode cX10_areTwoPersons 1 = .ok (.getfield 33, 3) := by decide +kernel
theorem dX10_areTwoPersons_4 : decode cX10_areTwoPersons 4 = .ok (.iload_n 1, 1) := by decide +kernel
theorem dX10_areTwoPersons_5 : decode cX10_areTwoPersons 5 = .ok (.invokevirtual 127, 3) := by decide +kernel
theorem dX10_areTwoPersons_8 : decode cX10_areTwoPersons 8 = .ok (.ifCond .eq 23, 3) := by decide +kernel
theorem dX10_areTwoPersons_11 : decode cX10_areTwoPersons 11 = .ok (.aload_n 0, 1) := by decide +kernel
theorem dX10_areTwoPersons_12 : decode cX10_areTwoPersons 12 = .ok (.getfield 33, 3) := by decide +kernel
theorem dX10_areTwoPersons_15 : decode cX10_areTwoPersons 15 = .ok (.iload_n 2, 1) := by decide +kernel
theorem dX10_areTwoPersons_16 : decode cX10_areTwoPersons 16 = .ok (.invokevirtual 127, 3) := by decide +kernel
theorem dX10_areTwoPersons_19 : decode cX10_areTwoPersons 19 = .ok (.ifCond .eq 12, 3) := by decide +kernel
theorem dX10_areTwoPersons_22 : decode cX10_areTwoPersons 22 = .ok (.iload_n 1, 1) := by decide +kernel
theorem dX10_areTwoPersons_23 : decode cX10_areTwoPersons 23 = .ok (.iload_n 2, 1) := by decide +kernel
theorem dX10_areTwoPersons_24 : decode cX10_areTwoPersons 24 = .ok (.if_icmp .eq 7, 3) := by decide +kernel
theorem dX10_areTwoPersons_27 : decode cX10_areTwoPersons 27 = .ok (.iconst 1, 1) := by decide +kernel
theorem dX10_areTwoPersons_28 : decode cX10_areTwoPersons 28 = .ok (.goto 4, 3) := by decide +kernel
theorem dX10_areTwoPersons_31 : decode cX10_areTwoPersons 31 = .ok (.iconst 0, 1) := by decide +kernel
theorem dX10_areTwoPersons_32 : decode cX10_areTwoPersons 32 = .ok (.ireturn, 1) := by decide +kernel
theorem dX10_isPromise_0 : decode cX10_isPromise 0 = .ok (.iload_n 1, 1) := by decide +kernel
theorem dX10_isPromise_1 : decode cX10_isPromise 1 = .ok (.ifCond .lt 18, 3) := by decide +kernel
theorem dX10_isPromise_4 : decode cX10_isPromise 4 = .ok (.iload_n 1, 1) := by decide +kernel
theorem dX10_isPromise_5 : decode cX10_isPromise 5 = .ok (.aload_n 0, 1) := by decide +kernel
theorem dX10_isPromise_6 : decode cX10_isPromise 6 = .ok (.getfield 40, 3) := by decide +kernel
theorem dX10_isPromise_9 : decode cX10_isPromise 9 = .ok (.getfield 189, 3) := by decide +kernel
theorem dX10_isPromise_12 : decode cX10_isPromise 12 = .ok (.if_icmp .ge 7, 3) := by decide +kernel
theorem dX10_isPromise_15 : decode cX10_isPromise 15 = .ok (.iconst 1, 1) := by decide +kernel
theorem dX10_isPromise_16 : decode cX10_isPromise 16 = .ok (.goto 4, 3) := by decide +kernel
theorem dX10_isPromise_19 : decode cX10_isPromise 19 = .ok (.iconst 0, 1) := by decide +kernel
theorem dX10_isPromise_20 : decode cX10_isPromise 20 = .ok (.ireturn, 1) := by decide +kernel
theorem dX10_isKnown_0 : decode cX10_isKnown 0 = .ok (.iload_n 1, 1) := by decide +kernel
theorem dX10_isKnown_1 : decode cX10_isKnown 1 = .ok (.ifCond .lt 18, 3) := by decide +kernel
theorem dX10_isKnown_4 : decode cX10_isKnown 4 = .ok (.iload_n 1, 1) := by decide +kernel
theorem dX10_isKnown_5 : decode cX10_isKnown 5 = .ok (.aload_n 0, 1) := by decide +kernel
theorem dX10_isKnown_6 : decode cX10_isKnown 6 = .ok (.getfield 54, 3) := by decide +kernel
theorem dX10_isKnown_9 : decode cX10_isKnown 9 = .ok (.getfield 207, 3) := by decide +kernel
theorem dX10_isKnown_12 : decode cX10_isKnown 12 = .ok (.if_icmp .gt 7, 3) := by decide +kernel
theorem dX10_isKnown_15 : decode cX10_isKnown 15 = .ok (.iconst 1, 1) := by decide +kernel
theorem dX10_isKnown_16 : decode cX10_isKnown 16 = .ok (.goto 4, 3) := by decide +kernel
theorem dX10_isKnown_19 : decode cX10_isKnown 19 = .ok (.iconst 0, 1) := by decide +kernel
theorem dX10_isKnown_20 : decode cX10_isKnown 20 = .ok (.ireturn, 1) := by decide +kernel
theorem dX10_isPlace_0 : decode cX10_isPlace 0 = .ok (.iload_n 0, 1) := by decide +kernel
theorem dX10_isPlace_1 : decode cX10_isPlace 1 = .ok (.ifCond .lt 12, 3) := by decide +kernel
theorem dX10_isPlace_4 : decode cX10_isPlace 4 = .ok (.iload_n 0, 1) := by decide +kernel
theorem dX10_isPlace_5 : decode cX10_isPlace 5 = .ok (.iconst 4, 1) := by decide +kernel
theorem dX10_isPlace_6 : decode cX10_isPlace 6 = .ok (.if_icmp .ge 7, 3) := by decide +kernel
theorem dX10_isPlace_9 : decode cX10_isPlace 9 = .ok (.iconst 1, 1) := by decide +kernel
theorem dX10_isPlace_10 : decode cX10_isPlace 10 = .ok (.goto 4, 3) := by decide +kernel
theorem dX10_isPlace_13 : decode cX10_isPlace 13 = .ok (.iconst 0, 1) := by decide +kernel
theorem dX10_isPlace_14 : decode cX10_isPlace 14 = .ok (.ireturn, 1) := by decide +kernel
theorem dX10_isDay_0 : decode cX10_isDay 0 = .ok (.iload_n 0, 1) := by decide +kernel
theorem dX10_isDay_1 : decode cX10_isDay 1 = .ok (.ifCond .lt 14, 3) := by decide +kernel
theorem dX10_isDay_4 : decode cX10_isDay 4 = .ok (.iload_n 0, 1) := by decide +kernel
theorem dX10_isDay_5 : decode cX10_isDay 5 = .ok (.sipush 9999, 3) := by decide +kernel
theorem dX10_isDay_8 : decode cX10_isDay 8 = .ok (.if_icmp .gt 7, 3) := by decide +kernel
theorem dX10_isDay_11 : decode cX10_isDay 11 = .ok (.iconst 1, 1) := by decide +kernel
theorem dX10_isDay_12 : decode cX10_isDay 12 = .ok (.goto 4, 3) := by decide +kernel
theorem dX10_isDay_15 : decode cX10_isDay 15 = .ok (.iconst 0, 1) := by decide +kernel
theorem dX10_isDay_16 : decode cX10_isDay 16 = .ok (.ireturn, 1) := by decide +kernel
theorem dX10_isCondition_0 : decode cX10_isCondition 0 = .ok (.iload_n 0, 1) := by decide +kernel
theorem dX10_isCondition_1 : decode cX10_isCondition 1 = .ok (.ifCond .lt 13, 3) := by decide +kernel
theorem dX10_isCondition_4 : decode cX10_isCondition 4 = .ok (.iload_n 0, 1) := by decide +kernel
theorem dX10_isCondition_5 : decode cX10_isCondition 5 = .ok (.bipush 6, 2) := by decide +kernel
theorem dX10_isCondition_7 : decode cX10_isCondition 7 = .ok (.if_icmp .ge 7, 3) := by decide +kernel
theorem dX10_isCondition_10 : decode cX10_isCondition 10 = .ok (.iconst 1, 1) := by decide +kernel
theorem dX10_isCondition_11 : decode cX10_isCondition 11 = .ok (.goto 4, 3) := by decide +kernel
theorem dX10_isCondition_14 : decode cX10_isCondition 14 = .ok (.iconst 0, 1) := by decide +kernel
theorem dX10_isCondition_15 : decode cX10_isCondition 15 = .ok (.ireturn, 1) := by decide +kernel
theorem dX10_isInt_0 : decode cX10_isInt 0 = .ok (.iload_n 0, 1) := by decide +kernel
theorem dX10_isInt_1 : decode cX10_isInt 1 = .ok (.ifCond .lt 14, 3) := by decide +kernel
theorem dX10_isInt_4 : decode cX10_isInt 4 = .ok (.iload_n 0, 1) := by decide +kernel
theorem dX10_isInt_5 : decode cX10_isInt 5 = .ok (.sipush 10000, 3) := by decide +kernel
theorem dX10_isInt_8 : decode cX10_isInt 8 = .ok (.if_icmp .ge 7, 3) := by decide +kernel
theorem dX10_isInt_11 : decode cX10_isInt 11 = .ok (.iconst 1, 1) := by decide +kernel
theorem dX10_isInt_12 : decode cX10_isInt 12 = .ok (.goto 4, 3) := by decide +kernel
theorem dX10_isInt_15 : decode cX10_isInt 15 = .ok (.iconst 0, 1) := by decide +kernel
theorem dX10_isInt_16 : decode cX10_isInt 16 = .ok (.ireturn, 1) := by decide +kernel
theorem dX10_isVar_0 : decode cX10_isVar 0 = .ok (.iload_n 0, 1) := by decide +kernel
theorem dX10_isVar_1 : decode cX10_isVar 1 = .ok (.sipush 10008, 3) := by decide +kernel
theorem dX10_isVar_4 : decode cX10_isVar 4 = .ok (.if_icmp .lt 14, 3) := by decide +kernel
theorem dX10_isVar_7 : decode cX10_isVar 7 = .ok (.iload_n 0, 1) := by decide +kernel
theorem dX10_isVar_8 : decode cX10_isVar 8 = .ok (.sipush 10020, 3) := by decide +kernel
theorem dX10_isVar_11 : decode cX10_isVar 11 = .ok (.if_icmp .ge 7, 3) := by decide +kernel
theorem dX10_isVar_14 : decode cX10_isVar 14 = .ok (.iconst 1, 1) := by decide +kernel
theorem dX10_isVar_15 : decode cX10_isVar 15 = .ok (.goto 4, 3) := by decide +kernel
theorem dX10_isVar_18 : decode cX10_isVar 18 = .ok (.iconst 0, 1) := by decide +kernel
theorem dX10_isVar_19 : decode cX10_isVar 19 = .ok (.ireturn, 1) := by decide +kernel
