theorem q0_0 : c_q 0 0 = some (.aload_n 0, 0, 0, 0) := by decide +kernel
theorem q0_1 : c_q 0 1 = some (.invokespecial 1, 0, 0, 6) := by decide +kernel
theorem q0_4 : c_q 0 4 = some (.aload_n 0, 0, 0, 0) := by decide +kernel
theorem q0_5 : c_q 0 5 = some (.new 7, 6, 0, 0) := by decide +kernel
theorem q0_8 : c_q 0 8 = some (.dup, 0, 0, 0) := by decide +kernel
theorem q0_9 : c_q 0 9 = some (.invokespecial 9, 49, 0, 5) := by decide +kernel
theorem q0_12 : c_q 0 12 = some (.putfield 10, 10, 0, 0) := by decide +kernel
theorem q0_15 : c_q 0 15 = some (.aload_n 0, 0, 0, 0) := by decide +kernel
theorem q0_16 : c_q 0 16 = some (.new 16, 4, 0, 0) := by decide +kernel
theorem q0_19 : c_q 0 19 = some (.dup, 0, 0, 0) := by decide +kernel
theorem q0_20 : c_q 0 20 = some (.invokespecial 18, 38, 0, 5) := by decide +kernel
theorem q0_23 : c_q 0 23 = some (.putfield 19, 10, 1, 0) := by decide +kernel
theorem q0_26 : c_q 0 26 = some (.aload_n 0, 0, 0, 0) := by decide +kernel
theorem q0_27 : c_q 0 27 = some (.new 23, 0, 0, 0) := by decide +kernel
theorem q0_30 : c_q 0 30 = some (.dup, 0, 0, 0) := by decide +kernel
theorem q0_31 : c_q 0 31 = some (.invokespecial 25, 24, 0, 5) := by decide +kernel
theorem q0_34 : c_q 0 34 = some (.putfield 26, 10, 2, 0) := by decide +kernel
theorem q0_37 : c_q 0 37 = some (.aload_n 0, 0, 0, 0) := by decide +kernel
theorem q0_38 : c_q 0 38 = some (.new 30, 3, 0, 0) := by decide +kernel
theorem q0_41 : c_q 0 41 = some (.dup, 0, 0, 0) := by decide +kernel
theorem q0_42 : c_q 0 42 = some (.invokespecial 32, 30, 0, 5) := by decide +kernel
theorem q0_45 : c_q 0 45 = some (.putfield 33, 10, 3, 0) := by decide +kernel
theorem q0_48 : c_q 0 48 = some (.aload_n 0, 0, 0, 0) := by decide +kernel
theorem q0_49 : c_q 0 49 = some (.new 37, 7, 0, 0) := by decide +kernel
theorem q0_52 : c_q 0 52 = some (.dup, 0, 0, 0) := by decide +kernel
theorem q0_53 : c_q 0 53 = some (.invokespecial 39, 58, 0, 5) := by decide +kernel
theorem q0_56 : c_q 0 56 = some (.putfield 40, 10, 4, 0) := by decide +kernel
theorem q0_59 : c_q 0 59 = some (.aload_n 0, 0, 0, 0) := by decide +kernel
theorem q0_60 : c_q 0 60 = some (.new 44, 8, 0, 0) := by decide +kernel
theorem q0_63 : c_q 0 63 = some (.dup, 0, 0, 0) := by decide +kernel
theorem q0_64 : c_q 0 64 = some (.invokespecial 46, 66, 0, 5) := by decide +kernel
theorem q0_67 : c_q 0 67 = some (.putfield 47, 10, 5, 0) := by decide +kernel
theorem q0_70 : c_q 0 70 = some (.aload_n 0, 0, 0, 0) := by decide +kernel
theorem q0_71 : c_q 0 71 = some (.new 51, 1, 0, 0) := by decide +kernel
theorem q0_74 : c_q 0 74 = some (.dup, 0, 0, 0) := by decide +kernel
theorem q0_75 : c_q 0 75 = some (.invokespecial 53, 28, 0, 5) := by decide +kernel
theorem q0_78 : c_q 0 78 = some (.putfield 54, 10, 6, 0) := by decide +kernel
theorem q0_81 : c_q 0 81 = some (.aload_n 0, 0, 0, 0) := by decide +kernel
theorem q0_82 : c_q 0 82 = some (.new 58, 9, 0, 0) := by decide +kernel
theorem q0_85 : c_q 0 85 = some (.dup, 0, 0, 0) := by decide +kernel
theorem q0_86 : c_q 0 86 = some (.invokespecial 60, 67, 0, 5) := by decide +kernel
theorem q0_89 : c_q 0 89 = some (.putfield 61, 10, 7, 0) := by decide +kernel
theorem q0_92 : c_q 0 92 = some (.aload_n 0, 0, 0, 0) := by decide +kernel
theorem q0_93 : c_q 0 93 = some (.new 65, 2, 0, 0) := by decide +kernel
theorem q0_96 : c_q 0 96 = some (.dup, 0, 0, 0) := by decide +kernel
theorem q0_97 : c_q 0 97 = some (.invokespecial 67, 29, 0, 5) := by decide +kernel
theorem q0_100 : c_q 0 100 = some (.putfield 68, 10, 8, 0) := by decide +kernel
theorem q0_103 : c_q 0 103 = some (.aload_n 0, 0, 0, 0) := by decide +kernel
theorem q0_104 : c_q 0 104 = some (.new 72, 5, 0, 0) := by decide +kernel
theorem q0_107 : c_q 0 107 = some (.dup, 0, 0, 0) := by decide +kernel
theorem q0_108 : c_q 0 108 = some (.invokespecial 74, 45, 0, 5) := by decide +kernel
theorem q0_111 : c_q 0 111 = some (.putfield 75, 10, 9, 0) := by decide +kernel
theorem q0_114 : c_q 0 114 = some (.aload_n 0, 0, 0, 0) := by decide +kernel
theorem q0_115 : c_q 0 115 = some (.new 7, 6, 0, 0) := by decide +kernel
theorem q0_118 : c_q 0 118 = some (.dup, 0, 0, 0) := by decide +kernel
theorem q0_119 : c_q 0 119 = some (.invokespecial 9, 49, 0, 5) := by decide +kernel
theorem q0_122 : c_q 0 122 = some (.putfield 79, 10, 10, 0) := by decide +kernel
theorem q0_125 : c_q 0 125 = some (.aload_n 0, 0, 0, 0) := by decide +kernel
theorem q0_126 : c_q 0 126 = some (.new 7, 6, 0, 0) := by decide +kernel
theorem q0_129 : c_q 0 129 = some (.dup, 0, 0, 0) := by decide +kernel
theorem q0_130 : c_q 0 130 = some (.invokespecial 9, 49, 0, 5) := by decide +kernel
theorem q0_133 : c_q 0 133 = some (.putfield 82, 10, 11, 0) := by decide +kernel
theorem q0_136 : c_q 0 136 = some (.aload_n 0, 0, 0, 0) := by decide +kernel
theorem q0_137 : c_q 0 137 = some (.getfield 10, 10, 0, 0) := by decide +kernel
theorem q0_140 : c_q 0 140 = some (.bipush (10), 0, 0, 0) := by decide +kernel
theorem q0_142 : c_q 0 142 = some (.iconst 1, 0, 0, 0) := by decide +kernel
theorem q0_143 : c_q 0 143 = some (.iconst 0, 0, 0, 0) := by decide +kernel
theorem q0_144 : c_q 0 144 = some (.invokevirtual 85, 50, 3, 3) := by decide +kernel
theorem q0_147 : c_q 0 147 = some (.return_, 0, 0, 0) := by decide +kernel
theorem q1_0 : c_q 1 0 = some (.iload_n 1, 0, 0, 0) := by decide +kernel
theorem q1_1 : c_q 1 1 = some (.iconst 1, 0, 0, 0) := by decide +kernel
theorem q1_2 : c_q 1 2 = some (.bipush (60), 0, 0, 0) := by decide +kernel
theorem q1_4 : c_q 1 4 = some (.invokestatic 89, 14, 3, 0) := by decide +kernel
theorem q1_7 : c_q 1 7 = some (.iload_n 2, 0, 0, 0) := by decide +kernel
theorem q1_8 : c_q 1 8 = some (.iconst 1, 0, 0, 0) := by decide +kernel
theorem q1_9 : c_q 1 9 = some (.iconst 4, 0, 0, 0) := by decide +kernel
theorem q1_10 : c_q 1 10 = some (.invokestatic 89, 14, 3, 0) := by decide +kernel
theorem q1_13 : c_q 1 13 = some (.aload_n 0, 0, 0, 0) := by decide +kernel
theorem q1_14 : c_q 1 14 = some (.getfield 10, 10, 0, 0) := by decide +kernel
theorem q1_17 : c_q 1 17 = some (.getfield 93, 6, 2, 1) := by decide +kernel
theorem q1_20 : c_q 1 20 = some (.istore 4, 0, 0, 0) := by decide +kernel
theorem q1_22 : c_q 1 22 = some (.aload_n 0, 0, 0, 0) := by decide +kernel
theorem q1_23 : c_q 1 23 = some (.getfield 10, 10, 0, 0) := by decide +kernel
theorem q1_26 : c_q 1 26 = some (.iload_n 1, 0, 0, 0) := by decide +kernel
theorem q1_27 : c_q 1 27 = some (.iload_n 2, 0, 0, 0) := by decide +kernel
theorem q1_28 : c_q 1 28 = some (.iload_n 3, 0, 0, 0) := by decide +kernel
theorem q1_29 : c_q 1 29 = some (.invokevirtual 85, 50, 3, 3) := by decide +kernel
theorem q1_32 : c_q 1 32 = some (.aload_n 0, 0, 0, 0) := by decide +kernel
theorem q1_33 : c_q 1 33 = some (.getfield 19, 10, 1, 0) := by decide +kernel
theorem q1_36 : c_q 1 36 = some (.invokevirtual 97, 39, 0, 3) := by decide +kernel
theorem q1_39 : c_q 1 39 = some (.iload 4, 0, 0, 0) := by decide +kernel
theorem q1_41 : c_q 1 41 = some (.ireturn, 0, 0, 0) := by decide +kernel
theorem q2_0 : c_q 2 0 = some (.aload_n 0, 0, 0, 0) := by decide +kernel
theorem q2_1 : c_q 2 1 = some (.iload_n 1, 0, 0, 0) := by decide +kernel
theorem q2_2 : c_q 2 2 = some (.invokevirtual 100, 15, 1, 2) := by decide +kernel
theorem q2_5 : c_q 2 5 = some (.iload_n 2, 0, 0, 0) := by decide +kernel
theorem q2_6 : c_q 2 6 = some (.iconst 1, 0, 0, 0) := by decide +kernel
theorem q2_7 : c_q 2 7 = some (.iconst 4, 0, 0, 0) := by decide +kernel
theorem q2_8 : c_q 2 8 = some (.invokestatic 89, 14, 3, 0) := by decide +kernel
theorem q2_11 : c_q 2 11 = some (.aload_n 0, 0, 0, 0) := by decide +kernel
theorem q2_12 : c_q 2 12 = some (.getfield 10, 10, 0, 0) := by decide +kernel
theorem q2_15 : c_q 2 15 = some (.getfield 104, 6, 0, 1) := by decide +kernel
theorem q2_18 : c_q 2 18 = some (.iload_n 1, 0, 0, 0) := by decide +kernel
theorem q2_19 : c_q 2 19 = some (.iaload, 0, 0, 0) := by decide +kernel
theorem q2_20 : c_q 2 20 = some (.istore_n 3, 0, 0, 0) := by decide +kernel
theorem q2_21 : c_q 2 21 = some (.aload_n 0, 0, 0, 0) := by decide +kernel
theorem q2_22 : c_q 2 22 = some (.getfield 10, 10, 0, 0) := by decide +kernel
theorem q2_25 : c_q 2 25 = some (.getfield 104, 6, 0, 1) := by decide +kernel
theorem q2_28 : c_q 2 28 = some (.iload_n 1, 0, 0, 0) := by decide +kernel
theorem q2_29 : c_q 2 29 = some (.iload_n 2, 0, 0, 0) := by decide +kernel
theorem q2_30 : c_q 2 30 = some (.iastore, 0, 0, 0) := by decide +kernel
theorem q2_31 : c_q 2 31 = some (.aload_n 0, 0, 0, 0) := by decide +kernel
theorem q2_32 : c_q 2 32 = some (.getfield 10, 10, 0, 0) := by decide +kernel
theorem q2_35 : c_q 2 35 = some (.getfield 108, 6, 1, 1) := by decide +kernel
theorem q2_38 : c_q 2 38 = some (.iload_n 1, 0, 0, 0) := by decide +kernel
theorem q2_39 : c_q 2 39 = some (.aload_n 0, 0, 0, 0) := by decide +kernel
theorem q2_40 : c_q 2 40 = some (.getfield 10, 10, 0, 0) := by decide +kernel
theorem q2_43 : c_q 2 43 = some (.getfield 108, 6, 1, 1) := by decide +kernel
theorem q2_46 : c_q 2 46 = some (.iload_n 1, 0, 0, 0) := by decide +kernel
theorem q2_47 : c_q 2 47 = some (.iaload, 0, 0, 0) := by decide +kernel
theorem q2_48 : c_q 2 48 = some (.iload_n 2, 0, 0, 0) := by decide +kernel
theorem q2_49 : c_q 2 49 = some (.invokestatic 111, 0, 0, 8) := by decide +kernel
theorem q2_52 : c_q 2 52 = some (.iastore, 0, 0, 0) := by decide +kernel
theorem q2_53 : c_q 2 53 = some (.iload_n 3, 0, 0, 0) := by decide +kernel
theorem q2_54 : c_q 2 54 = some (.ireturn, 0, 0, 0) := by decide +kernel
theorem q3_0 : c_q 3 0 = some (.aload_n 0, 0, 0, 0) := by decide +kernel
theorem q3_1 : c_q 3 1 = some (.iload_n 1, 0, 0, 0) := by decide +kernel
theorem q3_2 : c_q 3 2 = some (.invokevirtual 100, 15, 1, 2) := by decide +kernel
theorem q3_5 : c_q 3 5 = some (.iload_n 2, 0, 0, 0) := by decide +kernel
theorem q3_6 : c_q 3 6 = some (.iconst 0, 0, 0, 0) := by decide +kernel
theorem q3_7 : c_q 3 7 = some (.aload_n 0, 0, 0, 0) := by decide +kernel
theorem q3_8 : c_q 3 8 = some (.getfield 10, 10, 0, 0) := by decide +kernel
theorem q3_11 : c_q 3 11 = some (.getfield 104, 6, 0, 1) := by decide +kernel
theorem q3_14 : c_q 3 14 = some (.iload_n 1, 0, 0, 0) := by decide +kernel
theorem q3_15 : c_q 3 15 = some (.iaload, 0, 0, 0) := by decide +kernel
theorem q3_16 : c_q 3 16 = some (.invokestatic 89, 14, 3, 0) := by decide +kernel
theorem q3_19 : c_q 3 19 = some (.aload_n 0, 0, 0, 0) := by decide +kernel
theorem q3_20 : c_q 3 20 = some (.getfield 10, 10, 0, 0) := by decide +kernel
theorem q3_23 : c_q 3 23 = some (.getfield 108, 6, 1, 1) := by decide +kernel
theorem q3_26 : c_q 3 26 = some (.iload_n 1, 0, 0, 0) := by decide +kernel
theorem q3_27 : c_q 3 27 = some (.iaload, 0, 0, 0) := by decide +kernel
theorem q3_28 : c_q 3 28 = some (.istore_n 3, 0, 0, 0) := by decide +kernel
theorem q3_29 : c_q 3 29 = some (.aload_n 0, 0, 0, 0) := by decide +kernel
theorem q3_30 : c_q 3 30 = some (.getfield 10, 10, 0, 0) := by decide +kernel
theorem q3_33 : c_q 3 33 = some (.getfield 108, 6, 1, 1) := by decide +kernel
theorem q3_36 : c_q 3 36 = some (.iload_n 1, 0, 0, 0) := by decide +kernel
theorem q3_37 : c_q 3 37 = some (.iload_n 2, 0, 0, 0) := by decide +kernel
theorem q3_38 : c_q 3 38 = some (.iastore, 0, 0, 0) := by decide +kernel
theorem q3_39 : c_q 3 39 = some (.iload_n 3, 0, 0, 0) := by decide +kernel
theorem q3_40 : c_q 3 40 = some (.ireturn, 0, 0, 0) := by decide +kernel
theorem q4_0 : c_q 4 0 = some (.aload_n 0, 0, 0, 0) := by decide +kernel
theorem q4_1 : c_q 4 1 = some (.iload_n 1, 0, 0, 0) := by decide +kernel
theorem q4_2 : c_q 4 2 = some (.invokevirtual 100, 15, 1, 2) := by decide +kernel
theorem q4_5 : c_q 4 5 = some (.aload_n 0, 0, 0, 0) := by decide +kernel
theorem q4_6 : c_q 4 6 = some (.getfield 10, 10, 0, 0) := by decide +kernel
theorem q4_9 : c_q 4 9 = some (.getfield 108, 6, 1, 1) := by decide +kernel
theorem q4_12 : c_q 4 12 = some (.iload_n 1, 0, 0, 0) := by decide +kernel
theorem q4_13 : c_q 4 13 = some (.iaload, 0, 0, 0) := by decide +kernel
theorem q4_14 : c_q 4 14 = some (.ireturn, 0, 0, 0) := by decide +kernel
theorem q5_0 : c_q 5 0 = some (.aload_n 0, 0, 0, 0) := by decide +kernel
theorem q5_1 : c_q 5 1 = some (.getfield 10, 10, 0, 0) := by decide +kernel
theorem q5_4 : c_q 5 4 = some (.invokevirtual 117, 56, 0, 3) := by decide +kernel
theorem q5_7 : c_q 5 7 = some (.ireturn, 0, 0, 0) := by decide +kernel
theorem q6_0 : c_q 6 0 = some (.aload_n 0, 0, 0, 0) := by decide +kernel
theorem q6_1 : c_q 6 1 = some (.iload_n 1, 0, 0, 0) := by decide +kernel
theorem q6_2 : c_q 6 2 = some (.iconst 1, 0, 0, 0) := by decide +kernel
theorem q6_3 : c_q 6 3 = some (.invokevirtual 121, 16, 2, 2) := by decide +kernel
theorem q6_6 : c_q 6 6 = some (.ireturn, 0, 0, 0) := by decide +kernel
theorem q7_0 : c_q 7 0 = some (.aload_n 0, 0, 0, 0) := by decide +kernel
theorem q7_1 : c_q 7 1 = some (.iload_n 1, 0, 0, 0) := by decide +kernel
theorem q7_2 : c_q 7 2 = some (.iconst 0, 0, 0, 0) := by decide +kernel
theorem q7_3 : c_q 7 3 = some (.invokevirtual 121, 16, 2, 2) := by decide +kernel
theorem q7_6 : c_q 7 6 = some (.ireturn, 0, 0, 0) := by decide +kernel
theorem q8_0 : c_q 8 0 = some (.iload_n 1, 0, 0, 0) := by decide +kernel
theorem q8_1 : c_q 8 1 = some (.iconst 1, 0, 0, 0) := by decide +kernel
theorem q8_2 : c_q 8 2 = some (.bipush (99), 0, 0, 0) := by decide +kernel
theorem q8_4 : c_q 8 4 = some (.invokestatic 89, 14, 3, 0) := by decide +kernel
theorem q8_7 : c_q 8 7 = some (.iload_n 2, 0, 0, 0) := by decide +kernel
theorem q8_8 : c_q 8 8 = some (.iconst 1, 0, 0, 0) := by decide +kernel
theorem q8_9 : c_q 8 9 = some (.bipush (99), 0, 0, 0) := by decide +kernel
theorem q8_11 : c_q 8 11 = some (.invokestatic 89, 14, 3, 0) := by decide +kernel
theorem q8_14 : c_q 8 14 = some (.iconst 0, 0, 0, 0) := by decide +kernel
theorem q8_15 : c_q 8 15 = some (.istore_n 3, 0, 0, 0) := by decide +kernel
theorem q8_16 : c_q 8 16 = some (.iload_n 3, 0, 0, 0) := by decide +kernel
theorem q8_17 : c_q 8 17 = some (.iload_n 1, 0, 0, 0) := by decide +kernel
theorem q8_18 : c_q 8 18 = some (.if_icmp .ge (29), 47, 0, 0) := by decide +kernel
theorem q8_21 : c_q 8 21 = some (.aload_n 0, 0, 0, 0) := by decide +kernel
theorem q8_22 : c_q 8 22 = some (.getfield 26, 10, 2, 0) := by decide +kernel
theorem q8_25 : c_q 8 25 = some (.aload_n 0, 0, 0, 0) := by decide +kernel
theorem q8_26 : c_q 8 26 = some (.getfield 10, 10, 0, 0) := by decide +kernel
theorem q8_29 : c_q 8 29 = some (.iload_n 2, 0, 0, 0) := by decide +kernel
theorem q8_30 : c_q 8 30 = some (.iconst 1, 0, 0, 0) := by decide +kernel
theorem q8_31 : c_q 8 31 = some (.invokevirtual 125, 25, 3, 3) := by decide +kernel
theorem q8_34 : c_q 8 34 = some (.ifCond .eq (13), 47, 0, 0) := by decide +kernel
theorem q8_37 : c_q 8 37 = some (.aload_n 0, 0, 0, 0) := by decide +kernel
theorem q8_38 : c_q 8 38 = some (.invokevirtual 129, 17, 0, 2) := by decide +kernel
theorem q8_41 : c_q 8 41 = some (.iinc 3 (1), 0, 0, 0) := by decide +kernel
theorem q8_44 : c_q 8 44 = some (.goto (-28), 16, 0, 0) := by decide +kernel
theorem q8_47 : c_q 8 47 = some (.iload_n 3, 0, 0, 0) := by decide +kernel
theorem q8_48 : c_q 8 48 = some (.ireturn, 0, 0, 0) := by decide +kernel
theorem q9_0 : c_q 9 0 = some (.aload_n 0, 0, 0, 0) := by decide +kernel
theorem q9_1 : c_q 9 1 = some (.getfield 19, 10, 1, 0) := by decide +kernel
theorem q9_4 : c_q 9 4 = some (.getfield 132, 4, 2, 1) := by decide +kernel
theorem q9_7 : c_q 9 7 = some (.ireturn, 0, 0, 0) := by decide +kernel
theorem q10_0 : c_q 10 0 = some (.aload_n 0, 0, 0, 0) := by decide +kernel
theorem q10_1 : c_q 10 1 = some (.getfield 19, 10, 1, 0) := by decide +kernel
theorem q10_4 : c_q 10 4 = some (.iload_n 1, 0, 0, 0) := by decide +kernel
theorem q10_5 : c_q 10 5 = some (.invokevirtual 135, 40, 1, 3) := by decide +kernel
theorem q10_8 : c_q 10 8 = some (.ifCond .ne (13), 21, 0, 0) := by decide +kernel
theorem q10_11 : c_q 10 11 = some (.new 139, 3, 0, 1) := by decide +kernel
theorem q10_21 : c_q 10 21 = some (.aload_n 0, 0, 0, 0) := by decide +kernel
theorem q10_22 : c_q 10 22 = some (.iload_n 2, 0, 0, 0) := by decide +kernel
theorem q10_23 : c_q 10 23 = some (.invokevirtual 100, 15, 1, 2) := by decide +kernel
theorem q10_26 : c_q 10 26 = some (.aload_n 0, 0, 0, 0) := by decide +kernel
theorem q10_27 : c_q 10 27 = some (.getfield 19, 10, 1, 0) := by decide +kernel
theorem q10_30 : c_q 10 30 = some (.iload_n 1, 0, 0, 0) := by decide +kernel
theorem q10_31 : c_q 10 31 = some (.iload_n 2, 0, 0, 0) := by decide +kernel
theorem q10_32 : c_q 10 32 = some (.invokevirtual 146, 42, 2, 3) := by decide +kernel
theorem q10_35 : c_q 10 35 = some (.ireturn, 0, 0, 0) := by decide +kernel
theorem q11_0 : c_q 11 0 = some (.aload_n 0, 0, 0, 0) := by decide +kernel
theorem q11_1 : c_q 11 1 = some (.getfield 19, 10, 1, 0) := by decide +kernel
theorem q11_4 : c_q 11 4 = some (.iconst 1, 0, 0, 0) := by decide +kernel
theorem q11_5 : c_q 11 5 = some (.invokevirtual 135, 40, 1, 3) := by decide +kernel
theorem q11_8 : c_q 11 8 = some (.ifCond .ne (13), 21, 0, 0) := by decide +kernel
theorem q11_11 : c_q 11 11 = some (.new 139, 3, 0, 1) := by decide +kernel
theorem q11_21 : c_q 11 21 = some (.aload_n 0, 0, 0, 0) := by decide +kernel
theorem q11_22 : c_q 11 22 = some (.getfield 19, 10, 1, 0) := by decide +kernel
theorem q11_25 : c_q 11 25 = some (.aload_n 0, 0, 0, 0) := by decide +kernel
theorem q11_26 : c_q 11 26 = some (.getfield 10, 10, 0, 0) := by decide +kernel
theorem q11_29 : c_q 11 29 = some (.invokevirtual 151, 44, 1, 3) := by decide +kernel
theorem q11_32 : c_q 11 32 = some (.aload_n 0, 0, 0, 0) := by decide +kernel
theorem q11_33 : c_q 11 33 = some (.getfield 19, 10, 1, 0) := by decide +kernel
theorem q11_36 : c_q 11 36 = some (.getfield 132, 4, 2, 1) := by decide +kernel
theorem q11_39 : c_q 11 39 = some (.ireturn, 0, 0, 0) := by decide +kernel
theorem q12_0 : c_q 12 0 = some (.aload_n 0, 0, 0, 0) := by decide +kernel
theorem q12_1 : c_q 12 1 = some (.getfield 10, 10, 0, 0) := by decide +kernel
theorem q12_4 : c_q 12 4 = some (.invokevirtual 316, 57, 0, 3) := by decide +kernel
theorem q12_7 : c_q 12 7 = some (.i2f, 0, 0, 0) := by decide +kernel
theorem q12_8 : c_q 12 8 = some (.aload_n 0, 0, 0, 0) := by decide +kernel
theorem q12_9 : c_q 12 9 = some (.getfield 10, 10, 0, 0) := by decide +kernel
theorem q12_12 : c_q 12 12 = some (.getfield 93, 6, 2, 1) := by decide +kernel
theorem q12_15 : c_q 12 15 = some (.i2f, 0, 0, 0) := by decide +kernel
theorem q12_16 : c_q 12 16 = some (.fdiv, 0, 0, 0) := by decide +kernel
theorem q12_17 : c_q 12 17 = some (.fstore_n 1, 0, 0, 0) := by decide +kernel
theorem q12_18 : c_q 12 18 = some (.fload_n 1, 0, 0, 0) := by decide +kernel
theorem q12_19 : c_q 12 19 = some (.invokestatic 319, 23, 1, 0) := by decide +kernel
theorem q12_22 : c_q 12 22 = some (.ireturn, 0, 0, 0) := by decide +kernel
theorem q13_0 : c_q 13 0 = some (.aload_n 0, 0, 0, 0) := by decide +kernel
theorem q13_1 : c_q 13 1 = some (.invokevirtual 335, 18, 0, 2) := by decide +kernel
theorem q13_4 : c_q 13 4 = some (.ifCond .eq (24), 28, 0, 0) := by decide +kernel
theorem q13_7 : c_q 13 7 = some (.aload_n 0, 0, 0, 0) := by decide +kernel
theorem q13_8 : c_q 13 8 = some (.invokevirtual 338, 19, 0, 2) := by decide +kernel
theorem q13_11 : c_q 13 11 = some (.ifCond .eq (17), 28, 0, 0) := by decide +kernel
theorem q13_14 : c_q 13 14 = some (.aload_n 0, 0, 0, 0) := by decide +kernel
theorem q13_15 : c_q 13 15 = some (.getfield 75, 10, 9, 0) := by decide +kernel
theorem q13_18 : c_q 13 18 = some (.invokevirtual 341, 47, 0, 3) := by decide +kernel
theorem q13_21 : c_q 13 21 = some (.ifCond .eq (7), 28, 0, 0) := by decide +kernel
theorem q13_24 : c_q 13 24 = some (.iconst 1, 0, 0, 0) := by decide +kernel
theorem q13_25 : c_q 13 25 = some (.goto (4), 29, 0, 0) := by decide +kernel
theorem q13_28 : c_q 13 28 = some (.iconst 0, 0, 0, 0) := by decide +kernel
theorem q13_29 : c_q 13 29 = some (.ireturn, 0, 0, 0) := by decide +kernel
theorem q14_0 : c_q 14 0 = some (.iload_n 0, 0, 0, 0) := by decide +kernel
theorem q14_1 : c_q 14 1 = some (.iload_n 1, 0, 0, 0) := by decide +kernel
theorem q14_2 : c_q 14 2 = some (.if_icmp .lt (8), 10, 0, 0) := by decide +kernel
theorem q14_5 : c_q 14 5 = some (.iload_n 0, 0, 0, 0) := by decide +kernel
theorem q14_6 : c_q 14 6 = some (.iload_n 2, 0, 0, 0) := by decide +kernel
theorem q14_7 : c_q 14 7 = some (.if_icmp .le (14), 21, 0, 0) := by decide +kernel
theorem q14_10 : c_q 14 10 = some (.new 177, 0, 0, 1) := by decide +kernel
theorem q14_21 : c_q 14 21 = some (.return_, 0, 0, 0) := by decide +kernel
theorem q15_0 : c_q 15 0 = some (.iload_n 1, 0, 0, 0) := by decide +kernel
theorem q15_1 : c_q 15 1 = some (.ifCond .lt (14), 15, 0, 0) := by decide +kernel
theorem q15_4 : c_q 15 4 = some (.iload_n 1, 0, 0, 0) := by decide +kernel
theorem q15_5 : c_q 15 5 = some (.aload_n 0, 0, 0, 0) := by decide +kernel
theorem q15_6 : c_q 15 6 = some (.getfield 10, 10, 0, 0) := by decide +kernel
theorem q15_9 : c_q 15 9 = some (.getfield 93, 6, 2, 1) := by decide +kernel
theorem q15_12 : c_q 15 12 = some (.if_icmp .lt (14), 26, 0, 0) := by decide +kernel
theorem q15_15 : c_q 15 15 = some (.new 346, 1, 0, 1) := by decide +kernel
theorem q15_26 : c_q 15 26 = some (.return_, 0, 0, 0) := by decide +kernel
theorem q16_0 : c_q 16 0 = some (.iload_n 1, 0, 0, 0) := by decide +kernel
theorem q16_1 : c_q 16 1 = some (.iconst 1, 0, 0, 0) := by decide +kernel
theorem q16_2 : c_q 16 2 = some (.bipush (99), 0, 0, 0) := by decide +kernel
theorem q16_4 : c_q 16 4 = some (.invokestatic 89, 14, 3, 0) := by decide +kernel
theorem q16_7 : c_q 16 7 = some (.aload_n 0, 0, 0, 0) := by decide +kernel
theorem q16_8 : c_q 16 8 = some (.getfield 26, 10, 2, 0) := by decide +kernel
theorem q16_11 : c_q 16 11 = some (.aload_n 0, 0, 0, 0) := by decide +kernel
theorem q16_12 : c_q 16 12 = some (.getfield 10, 10, 0, 0) := by decide +kernel
theorem q16_15 : c_q 16 15 = some (.iload_n 1, 0, 0, 0) := by decide +kernel
theorem q16_16 : c_q 16 16 = some (.iload_n 2, 0, 0, 0) := by decide +kernel
theorem q16_17 : c_q 16 17 = some (.invokevirtual 125, 25, 3, 3) := by decide +kernel
theorem q16_20 : c_q 16 20 = some (.ifCond .ne (14), 34, 0, 0) := by decide +kernel
theorem q16_23 : c_q 16 23 = some (.new 170, 2, 0, 1) := by decide +kernel
theorem q16_34 : c_q 16 34 = some (.aload_n 0, 0, 0, 0) := by decide +kernel
theorem q16_35 : c_q 16 35 = some (.invokevirtual 129, 17, 0, 2) := by decide +kernel
theorem q16_38 : c_q 16 38 = some (.aload_n 0, 0, 0, 0) := by decide +kernel
theorem q16_39 : c_q 16 39 = some (.getfield 26, 10, 2, 0) := by decide +kernel
theorem q16_42 : c_q 16 42 = some (.getfield 357, 0, 1, 1) := by decide +kernel
theorem q16_45 : c_q 16 45 = some (.ireturn, 0, 0, 0) := by decide +kernel
theorem q17_0 : c_q 17 0 = some (.aload_n 0, 0, 0, 0) := by decide +kernel
theorem q17_1 : c_q 17 1 = some (.getfield 19, 10, 1, 0) := by decide +kernel
theorem q17_4 : c_q 17 4 = some (.aload_n 0, 0, 0, 0) := by decide +kernel
theorem q17_5 : c_q 17 5 = some (.getfield 10, 10, 0, 0) := by decide +kernel
theorem q17_8 : c_q 17 8 = some (.invokevirtual 360, 43, 1, 3) := by decide +kernel
theorem q17_11 : c_q 17 11 = some (.aload_n 0, 0, 0, 0) := by decide +kernel
theorem q17_12 : c_q 17 12 = some (.getfield 10, 10, 0, 0) := by decide +kernel
theorem q17_15 : c_q 17 15 = some (.aload_n 0, 0, 0, 0) := by decide +kernel
theorem q17_16 : c_q 17 16 = some (.getfield 26, 10, 2, 0) := by decide +kernel
theorem q17_19 : c_q 17 19 = some (.getfield 363, 0, 0, 1) := by decide +kernel
theorem q17_22 : c_q 17 22 = some (.invokevirtual 366, 53, 1, 3) := by decide +kernel
theorem q17_25 : c_q 17 25 = some (.return_, 0, 0, 0) := by decide +kernel
theorem q18_0 : c_q 18 0 = some (.aload_n 0, 0, 0, 0) := by decide +kernel
theorem q18_1 : c_q 18 1 = some (.getfield 10, 10, 0, 0) := by decide +kernel
theorem q18_4 : c_q 18 4 = some (.getfield 166, 6, 3, 1) := by decide +kernel
theorem q18_7 : c_q 18 7 = some (.ifCond .ne (19), 26, 0, 0) := by decide +kernel
theorem q18_10 : c_q 18 10 = some (.aload_n 0, 0, 0, 0) := by decide +kernel
theorem q18_11 : c_q 18 11 = some (.getfield 26, 10, 2, 0) := by decide +kernel
theorem q18_14 : c_q 18 14 = some (.aload_n 0, 0, 0, 0) := by decide +kernel
theorem q18_15 : c_q 18 15 = some (.getfield 10, 10, 0, 0) := by decide +kernel
theorem q18_18 : c_q 18 18 = some (.iconst 3, 0, 0, 0) := by decide +kernel
theorem q18_19 : c_q 18 19 = some (.iconst 1, 0, 0, 0) := by decide +kernel
theorem q18_20 : c_q 18 20 = some (.invokevirtual 125, 25, 3, 3) := by decide +kernel
theorem q18_23 : c_q 18 23 = some (.ifCond .ne (5), 28, 0, 0) := by decide +kernel
theorem q18_26 : c_q 18 26 = some (.iconst 1, 0, 0, 0) := by decide +kernel
theorem q18_27 : c_q 18 27 = some (.ireturn, 0, 0, 0) := by decide +kernel
theorem q18_28 : c_q 18 28 = some (.aload_n 0, 0, 0, 0) := by decide +kernel
theorem q18_29 : c_q 18 29 = some (.getfield 79, 10, 10, 0) := by decide +kernel
theorem q18_32 : c_q 18 32 = some (.aload_n 0, 0, 0, 0) := by decide +kernel
theorem q18_33 : c_q 18 33 = some (.getfield 10, 10, 0, 0) := by decide +kernel
theorem q18_36 : c_q 18 36 = some (.invokevirtual 155, 51, 1, 3) := by decide +kernel
theorem q18_39 : c_q 18 39 = some (.aload_n 0, 0, 0, 0) := by decide +kernel
theorem q18_40 : c_q 18 40 = some (.getfield 79, 10, 10, 0) := by decide +kernel
theorem q18_43 : c_q 18 43 = some (.aload_n 0, 0, 0, 0) := by decide +kernel
theorem q18_44 : c_q 18 44 = some (.getfield 26, 10, 2, 0) := by decide +kernel
theorem q18_47 : c_q 18 47 = some (.getfield 363, 0, 0, 1) := by decide +kernel
theorem q18_50 : c_q 18 50 = some (.invokevirtual 366, 53, 1, 3) := by decide +kernel
theorem q18_53 : c_q 18 53 = some (.aload_n 0, 0, 0, 0) := by decide +kernel
theorem q18_54 : c_q 18 54 = some (.getfield 26, 10, 2, 0) := by decide +kernel
theorem q18_57 : c_q 18 57 = some (.aload_n 0, 0, 0, 0) := by decide +kernel
theorem q18_58 : c_q 18 58 = some (.getfield 79, 10, 10, 0) := by decide +kernel
theorem q18_61 : c_q 18 61 = some (.iconst 3, 0, 0, 0) := by decide +kernel
theorem q18_62 : c_q 18 62 = some (.iconst 0, 0, 0, 0) := by decide +kernel
theorem q18_63 : c_q 18 63 = some (.invokevirtual 125, 25, 3, 3) := by decide +kernel
theorem q18_66 : c_q 18 66 = some (.ifCond .ne (5), 71, 0, 0) := by decide +kernel
theorem q18_69 : c_q 18 69 = some (.iconst 0, 0, 0, 0) := by decide +kernel
theorem q18_70 : c_q 18 70 = some (.ireturn, 0, 0, 0) := by decide +kernel
theorem q18_71 : c_q 18 71 = some (.aload_n 0, 0, 0, 0) := by decide +kernel
theorem q18_72 : c_q 18 72 = some (.getfield 79, 10, 10, 0) := by decide +kernel
theorem q18_75 : c_q 18 75 = some (.aload_n 0, 0, 0, 0) := by decide +kernel
theorem q18_76 : c_q 18 76 = some (.getfield 26, 10, 2, 0) := by decide +kernel
theorem q18_79 : c_q 18 79 = some (.getfield 363, 0, 0, 1) := by decide +kernel
theorem q18_82 : c_q 18 82 = some (.invokevirtual 366, 53, 1, 3) := by decide +kernel
theorem q18_85 : c_q 18 85 = some (.aload_n 0, 0, 0, 0) := by decide +kernel
theorem q18_86 : c_q 18 86 = some (.getfield 79, 10, 10, 0) := by decide +kernel
theorem q18_89 : c_q 18 89 = some (.aload_n 0, 0, 0, 0) := by decide +kernel
theorem q18_90 : c_q 18 90 = some (.getfield 10, 10, 0, 0) := by decide +kernel
theorem q18_93 : c_q 18 93 = some (.invokevirtual 162, 54, 1, 3) := by decide +kernel
theorem q18_96 : c_q 18 96 = some (.ireturn, 0, 0, 0) := by decide +kernel
theorem q19_0 : c_q 19 0 = some (.aload_n 0, 0, 0, 0) := by decide +kernel
theorem q19_1 : c_q 19 1 = some (.getfield 10, 10, 0, 0) := by decide +kernel
theorem q19_4 : c_q 19 4 = some (.getfield 166, 6, 3, 1) := by decide +kernel
theorem q19_7 : c_q 19 7 = some (.ifCond .ne (13), 20, 0, 0) := by decide +kernel
theorem q19_10 : c_q 19 10 = some (.aload_n 0, 0, 0, 0) := by decide +kernel
theorem q19_11 : c_q 19 11 = some (.getfield 10, 10, 0, 0) := by decide +kernel
theorem q19_14 : c_q 19 14 = some (.invokevirtual 271, 55, 0, 3) := by decide +kernel
theorem q19_17 : c_q 19 17 = some (.ifCond .ne (5), 22, 0, 0) := by decide +kernel
theorem q19_20 : c_q 19 20 = some (.iconst 1, 0, 0, 0) := by decide +kernel
theorem q19_21 : c_q 19 21 = some (.ireturn, 0, 0, 0) := by decide +kernel
theorem q19_22 : c_q 19 22 = some (.aload_n 0, 0, 0, 0) := by decide +kernel
theorem q19_23 : c_q 19 23 = some (.getfield 33, 10, 3, 0) := by decide +kernel
theorem q19_26 : c_q 19 26 = some (.aload_n 0, 0, 0, 0) := by decide +kernel
theorem q19_27 : c_q 19 27 = some (.getfield 10, 10, 0, 0) := by decide +kernel
theorem q19_30 : c_q 19 30 = some (.invokevirtual 372, 31, 1, 3) := by decide +kernel
theorem q19_33 : c_q 19 33 = some (.aload_n 0, 0, 0, 0) := by decide +kernel
theorem q19_34 : c_q 19 34 = some (.invokevirtual 388, 20, 0, 2) := by decide +kernel
theorem q19_37 : c_q 19 37 = some (.ifCond .eq (14), 51, 0, 0) := by decide +kernel
theorem q19_40 : c_q 19 40 = some (.aload_n 0, 0, 0, 0) := by decide +kernel
theorem q19_41 : c_q 19 41 = some (.invokevirtual 391, 21, 0, 2) := by decide +kernel
theorem q19_44 : c_q 19 44 = some (.ifCond .eq (7), 51, 0, 0) := by decide +kernel
theorem q19_47 : c_q 19 47 = some (.iconst 1, 0, 0, 0) := by decide +kernel
theorem q19_48 : c_q 19 48 = some (.goto (4), 52, 0, 0) := by decide +kernel
theorem q19_51 : c_q 19 51 = some (.iconst 0, 0, 0, 0) := by decide +kernel
theorem q19_52 : c_q 19 52 = some (.ireturn, 0, 0, 0) := by decide +kernel
theorem q20_0 : c_q 20 0 = some (.iconst 1, 0, 0, 0) := by decide +kernel
theorem q20_1 : c_q 20 1 = some (.istore_n 1, 0, 0, 0) := by decide +kernel
theorem q20_2 : c_q 20 2 = some (.iload_n 1, 0, 0, 0) := by decide +kernel
theorem q20_3 : c_q 20 3 = some (.bipush (99), 0, 0, 0) := by decide +kernel
theorem q20_5 : c_q 20 5 = some (.if_icmp .gt (34), 39, 0, 0) := by decide +kernel
theorem q20_8 : c_q 20 8 = some (.aload_n 0, 0, 0, 0) := by decide +kernel
theorem q20_9 : c_q 20 9 = some (.getfield 26, 10, 2, 0) := by decide +kernel
theorem q20_12 : c_q 20 12 = some (.aload_n 0, 0, 0, 0) := by decide +kernel
theorem q20_13 : c_q 20 13 = some (.getfield 10, 10, 0, 0) := by decide +kernel
theorem q20_16 : c_q 20 16 = some (.iload_n 1, 0, 0, 0) := by decide +kernel
theorem q20_17 : c_q 20 17 = some (.invokevirtual 200, 27, 2, 3) := by decide +kernel
theorem q20_20 : c_q 20 20 = some (.aload_n 0, 0, 0, 0) := by decide +kernel
theorem q20_21 : c_q 20 21 = some (.getfield 33, 10, 3, 0) := by decide +kernel
theorem q20_24 : c_q 20 24 = some (.iload_n 1, 0, 0, 0) := by decide +kernel
theorem q20_25 : c_q 20 25 = some (.invokevirtual 328, 37, 1, 3) := by decide +kernel
theorem q20_28 : c_q 20 28 = some (.if_icmp .eq (5), 33, 0, 0) := by decide +kernel
theorem q20_31 : c_q 20 31 = some (.iconst 0, 0, 0, 0) := by decide +kernel
theorem q20_32 : c_q 20 32 = some (.ireturn, 0, 0, 0) := by decide +kernel
theorem q20_33 : c_q 20 33 = some (.iinc 1 (1), 0, 0, 0) := by decide +kernel
theorem q20_36 : c_q 20 36 = some (.goto (-34), 2, 0, 0) := by decide +kernel
theorem q20_39 : c_q 20 39 = some (.iconst 1, 0, 0, 0) := by decide +kernel
theorem q20_40 : c_q 20 40 = some (.ireturn, 0, 0, 0) := by decide +kernel
theorem q21_0 : c_q 21 0 = some (.aload_n 0, 0, 0, 0) := by decide +kernel
theorem q21_1 : c_q 21 1 = some (.getfield 40, 10, 4, 0) := by decide +kernel
theorem q21_4 : c_q 21 4 = some (.aload_n 0, 0, 0, 0) := by decide +kernel
theorem q21_5 : c_q 21 5 = some (.getfield 10, 10, 0, 0) := by decide +kernel
theorem q21_8 : c_q 21 8 = some (.bipush (90), 0, 0, 0) := by decide +kernel
theorem q21_10 : c_q 21 10 = some (.invokevirtual 375, 59, 2, 3) := by decide +kernel
theorem q21_13 : c_q 21 13 = some (.aload_n 0, 0, 0, 0) := by decide +kernel
theorem q21_14 : c_q 21 14 = some (.getfield 33, 10, 3, 0) := by decide +kernel
theorem q21_17 : c_q 21 17 = some (.invokevirtual 189, 35, 0, 3) := by decide +kernel
theorem q21_20 : c_q 21 20 = some (.istore_n 1, 0, 0, 0) := by decide +kernel
theorem q21_21 : c_q 21 21 = some (.aload_n 0, 0, 0, 0) := by decide +kernel
theorem q21_22 : c_q 21 22 = some (.getfield 40, 10, 4, 0) := by decide +kernel
theorem q21_25 : c_q 21 25 = some (.invokevirtual 207, 63, 0, 3) := by decide +kernel
theorem q21_28 : c_q 21 28 = some (.iload_n 1, 0, 0, 0) := by decide +kernel
theorem q21_29 : c_q 21 29 = some (.if_icmp .eq (5), 34, 0, 0) := by decide +kernel
theorem q21_32 : c_q 21 32 = some (.iconst 0, 0, 0, 0) := by decide +kernel
theorem q21_33 : c_q 21 33 = some (.ireturn, 0, 0, 0) := by decide +kernel
theorem q21_34 : c_q 21 34 = some (.iconst 0, 0, 0, 0) := by decide +kernel
theorem q21_35 : c_q 21 35 = some (.istore_n 2, 0, 0, 0) := by decide +kernel
theorem q21_36 : c_q 21 36 = some (.iload_n 2, 0, 0, 0) := by decide +kernel
theorem q21_37 : c_q 21 37 = some (.iload_n 1, 0, 0, 0) := by decide +kernel
theorem q21_38 : c_q 21 38 = some (.if_icmp .ge (41), 79, 0, 0) := by decide +kernel
theorem q21_41 : c_q 21 41 = some (.aload_n 0, 0, 0, 0) := by decide +kernel
theorem q21_42 : c_q 21 42 = some (.getfield 40, 10, 4, 0) := by decide +kernel
theorem q21_45 : c_q 21 45 = some (.aload_n 0, 0, 0, 0) := by decide +kernel
theorem q21_46 : c_q 21 46 = some (.getfield 40, 10, 4, 0) := by decide +kernel
theorem q21_49 : c_q 21 49 = some (.iload_n 2, 0, 0, 0) := by decide +kernel
theorem q21_50 : c_q 21 50 = some (.invokevirtual 378, 64, 1, 3) := by decide +kernel
theorem q21_53 : c_q 21 53 = some (.invokevirtual 211, 65, 1, 3) := by decide +kernel
theorem q21_56 : c_q 21 56 = some (.aload_n 0, 0, 0, 0) := by decide +kernel
theorem q21_57 : c_q 21 57 = some (.getfield 33, 10, 3, 0) := by decide +kernel
theorem q21_60 : c_q 21 60 = some (.iload_n 1, 0, 0, 0) := by decide +kernel
theorem q21_61 : c_q 21 61 = some (.iconst 1, 0, 0, 0) := by decide +kernel
theorem q21_62 : c_q 21 62 = some (.isub, 0, 0, 0) := by decide +kernel
theorem q21_63 : c_q 21 63 = some (.iload_n 2, 0, 0, 0) := by decide +kernel
theorem q21_64 : c_q 21 64 = some (.isub, 0, 0, 0) := by decide +kernel
theorem q21_65 : c_q 21 65 = some (.invokevirtual 194, 36, 1, 3) := by decide +kernel
theorem q21_68 : c_q 21 68 = some (.if_icmp .eq (5), 73, 0, 0) := by decide +kernel
theorem q21_71 : c_q 21 71 = some (.iconst 0, 0, 0, 0) := by decide +kernel
theorem q21_72 : c_q 21 72 = some (.ireturn, 0, 0, 0) := by decide +kernel
theorem q21_73 : c_q 21 73 = some (.iinc 2 (1), 0, 0, 0) := by decide +kernel
theorem q21_76 : c_q 21 76 = some (.goto (-40), 36, 0, 0) := by decide +kernel
theorem q21_79 : c_q 21 79 = some (.iconst 1, 0, 0, 0) := by decide +kernel
theorem q21_80 : c_q 21 80 = some (.ireturn, 0, 0, 0) := by decide +kernel
theorem q22_0 : c_q 22 0 = some (.iload_n 1, 0, 0, 0) := by decide +kernel
theorem q22_1 : c_q 22 1 = some (.iload_n 2, 0, 0, 0) := by decide +kernel
theorem q22_2 : c_q 22 2 = some (.iload_n 3, 0, 0, 0) := by decide +kernel
theorem q22_3 : c_q 22 3 = some (.isub, 0, 0, 0) := by decide +kernel
theorem q22_4 : c_q 22 4 = some (.invokestatic 111, 0, 0, 8) := by decide +kernel
theorem q22_7 : c_q 22 7 = some (.iconst 0, 0, 0, 0) := by decide +kernel
theorem q22_8 : c_q 22 8 = some (.iload_n 1, 0, 0, 0) := by decide +kernel
theorem q22_9 : c_q 22 9 = some (.iload_n 3, 0, 0, 0) := by decide +kernel
theorem q22_10 : c_q 22 10 = some (.iadd, 0, 0, 0) := by decide +kernel
theorem q22_11 : c_q 22 11 = some (.iload_n 0, 0, 0, 0) := by decide +kernel
theorem q22_12 : c_q 22 12 = some (.isub, 0, 0, 0) := by decide +kernel
theorem q22_13 : c_q 22 13 = some (.invokestatic 394, 0, 0, 7) := by decide +kernel
theorem q22_16 : c_q 22 16 = some (.iadd, 0, 0, 0) := by decide +kernel
theorem q22_17 : c_q 22 17 = some (.ireturn, 0, 0, 0) := by decide +kernel
theorem q23_0 : c_q 23 0 = some (.fload_n 0, 0, 0, 0) := by decide +kernel
theorem q23_1 : c_q 23 1 = some (.fconst 0, 0, 0, 0) := by decide +kernel
theorem q23_2 : c_q 23 2 = some (.fcmp .g, 0, 0, 0) := by decide +kernel
theorem q23_3 : c_q 23 3 = some (.ifCond .gt (5), 8, 0, 0) := by decide +kernel
theorem q23_6 : c_q 23 6 = some (.iconst 0, 0, 0, 0) := by decide +kernel
theorem q23_7 : c_q 23 7 = some (.ireturn, 0, 0, 0) := by decide +kernel
theorem q23_8 : c_q 23 8 = some (.bipush (127), 0, 0, 0) := by decide +kernel
theorem q23_10 : c_q 23 10 = some (.istore_n 1, 0, 0, 0) := by decide +kernel
theorem q23_11 : c_q 23 11 = some (.fload_n 0, 0, 0, 0) := by decide +kernel
theorem q23_12 : c_q 23 12 = some (.fstore_n 2, 0, 0, 0) := by decide +kernel
theorem q23_13 : c_q 23 13 = some (.fload_n 2, 0, 0, 0) := by decide +kernel
theorem q23_14 : c_q 23 14 = some (.fconst 1, 0, 0, 0) := by decide +kernel
theorem q23_15 : c_q 23 15 = some (.fcmp .g, 0, 0, 0) := by decide +kernel
theorem q23_16 : c_q 23 16 = some (.ifCond .ge (18), 34, 0, 0) := by decide +kernel
theorem q23_19 : c_q 23 19 = some (.iload_n 1, 0, 0, 0) := by decide +kernel
theorem q23_20 : c_q 23 20 = some (.iconst 1, 0, 0, 0) := by decide +kernel
theorem q23_21 : c_q 23 21 = some (.if_icmp .le (13), 34, 0, 0) := by decide +kernel
theorem q23_24 : c_q 23 24 = some (.fload_n 2, 0, 0, 0) := by decide +kernel
theorem q23_25 : c_q 23 25 = some (.fconst 2, 0, 0, 0) := by decide +kernel
theorem q23_26 : c_q 23 26 = some (.fmul, 0, 0, 0) := by decide +kernel
theorem q23_27 : c_q 23 27 = some (.fstore_n 2, 0, 0, 0) := by decide +kernel
theorem q23_28 : c_q 23 28 = some (.iinc 1 (-1), 0, 0, 0) := by decide +kernel
theorem q23_31 : c_q 23 31 = some (.goto (-18), 13, 0, 0) := by decide +kernel
theorem q23_34 : c_q 23 34 = some (.iload_n 1, 0, 0, 0) := by decide +kernel
theorem q23_35 : c_q 23 35 = some (.bipush (23), 0, 0, 0) := by decide +kernel
theorem q23_37 : c_q 23 37 = some (.ishl, 0, 0, 0) := by decide +kernel
theorem q23_38 : c_q 23 38 = some (.fload_n 2, 0, 0, 0) := by decide +kernel
theorem q23_39 : c_q 23 39 = some (.fconst 1, 0, 0, 0) := by decide +kernel
theorem q23_40 : c_q 23 40 = some (.fsub, 0, 0, 0) := by decide +kernel
theorem q23_41 : c_q 23 41 = some (.ldc_w 397, 1258291200, 0, 1) := by decide +kernel
theorem q23_44 : c_q 23 44 = some (.fmul, 0, 0, 0) := by decide +kernel
theorem q23_45 : c_q 23 45 = some (.f2i, 0, 0, 0) := by decide +kernel
theorem q23_46 : c_q 23 46 = some (.ior, 0, 0, 0) := by decide +kernel
theorem q23_47 : c_q 23 47 = some (.ireturn, 0, 0, 0) := by decide +kernel
theorem q24_0 : c_q 24 0 = some (.aload_n 0, 0, 0, 0) := by decide +kernel
theorem q24_1 : c_q 24 1 = some (.invokespecial 3, 0, 0, 6) := by decide +kernel
theorem q24_4 : c_q 24 4 = some (.aload_n 0, 0, 0, 0) := by decide +kernel
theorem q24_5 : c_q 24 5 = some (.bipush (60), 0, 0, 0) := by decide +kernel
theorem q24_7 : c_q 24 7 = some (.newarray .int, 0, 0, 0) := by decide +kernel
theorem q24_9 : c_q 24 9 = some (.putfield 9, 0, 0, 0) := by decide +kernel
theorem q24_12 : c_q 24 12 = some (.return_, 0, 0, 0) := by decide +kernel
theorem q25_0 : c_q 25 0 = some (.aload_n 1, 0, 0, 0) := by decide +kernel
theorem q25_1 : c_q 25 1 = some (.getfield 15, 6, 3, 1) := by decide +kernel
theorem q25_4 : c_q 25 4 = some (.ifCond .eq (14), 18, 0, 0) := by decide +kernel
theorem q25_7 : c_q 25 7 = some (.aload_n 0, 0, 0, 0) := by decide +kernel
theorem q25_8 : c_q 25 8 = some (.aload_n 1, 0, 0, 0) := by decide +kernel
theorem q25_9 : c_q 25 9 = some (.iload_n 2, 0, 0, 0) := by decide +kernel
theorem q25_10 : c_q 25 10 = some (.iconst 0, 0, 0, 0) := by decide +kernel
theorem q25_11 : c_q 25 11 = some (.iload_n 3, 0, 0, 0) := by decide +kernel
theorem q25_12 : c_q 25 12 = some (.invokevirtual 21, 26, 4, 2) := by decide +kernel
theorem q25_15 : c_q 25 15 = some (.goto (4), 19, 0, 0) := by decide +kernel
theorem q25_18 : c_q 25 18 = some (.iconst 0, 0, 0, 0) := by decide +kernel
theorem q25_19 : c_q 25 19 = some (.istore 4, 0, 0, 0) := by decide +kernel
theorem q25_21 : c_q 25 21 = some (.aload_n 0, 0, 0, 0) := by decide +kernel
theorem q25_22 : c_q 25 22 = some (.aload_n 1, 0, 0, 0) := by decide +kernel
theorem q25_23 : c_q 25 23 = some (.iload_n 2, 0, 0, 0) := by decide +kernel
theorem q25_24 : c_q 25 24 = some (.iload 4, 0, 0, 0) := by decide +kernel
theorem q25_26 : c_q 25 26 = some (.iload_n 3, 0, 0, 0) := by decide +kernel
theorem q25_27 : c_q 25 27 = some (.invokevirtual 21, 26, 4, 2) := by decide +kernel
theorem q25_30 : c_q 25 30 = some (.iload 4, 0, 0, 0) := by decide +kernel
theorem q25_32 : c_q 25 32 = some (.if_icmp .ne (7), 39, 0, 0) := by decide +kernel
theorem q25_35 : c_q 25 35 = some (.iconst 1, 0, 0, 0) := by decide +kernel
theorem q25_36 : c_q 25 36 = some (.goto (4), 40, 0, 0) := by decide +kernel
theorem q25_39 : c_q 25 39 = some (.iconst 0, 0, 0, 0) := by decide +kernel
theorem q25_40 : c_q 25 40 = some (.ireturn, 0, 0, 0) := by decide +kernel
theorem q26_0 : c_q 26 0 = some (.iload_n 3, 0, 0, 0) := by decide +kernel
theorem q26_1 : c_q 26 1 = some (.istore 5, 0, 0, 0) := by decide +kernel
theorem q26_3 : c_q 26 3 = some (.aload_n 0, 0, 0, 0) := by decide +kernel
theorem q26_4 : c_q 26 4 = some (.iload_n 3, 0, 0, 0) := by decide +kernel
theorem q26_5 : c_q 26 5 = some (.putfield 25, 0, 1, 0) := by decide +kernel
theorem q26_8 : c_q 26 8 = some (.iconst 0, 0, 0, 0) := by decide +kernel
theorem q26_9 : c_q 26 9 = some (.istore 6, 0, 0, 0) := by decide +kernel
theorem q26_11 : c_q 26 11 = some (.iload 6, 0, 0, 0) := by decide +kernel
theorem q26_13 : c_q 26 13 = some (.aload_n 1, 0, 0, 0) := by decide +kernel
theorem q26_14 : c_q 26 14 = some (.getfield 29, 6, 2, 1) := by decide +kernel
theorem q26_17 : c_q 26 17 = some (.if_icmp .ge (90), 107, 0, 0) := by decide +kernel
theorem q26_20 : c_q 26 20 = some (.iload 4, 0, 0, 0) := by decide +kernel
theorem q26_22 : c_q 26 22 = some (.ifCond .eq (8), 30, 0, 0) := by decide +kernel
theorem q26_25 : c_q 26 25 = some (.iload 6, 0, 0, 0) := by decide +kernel
theorem q26_27 : c_q 26 27 = some (.goto (12), 39, 0, 0) := by decide +kernel
theorem q26_30 : c_q 26 30 = some (.aload_n 1, 0, 0, 0) := by decide +kernel
theorem q26_31 : c_q 26 31 = some (.getfield 29, 6, 2, 1) := by decide +kernel
theorem q26_34 : c_q 26 34 = some (.iconst 1, 0, 0, 0) := by decide +kernel
theorem q26_35 : c_q 26 35 = some (.isub, 0, 0, 0) := by decide +kernel
theorem q26_36 : c_q 26 36 = some (.iload 6, 0, 0, 0) := by decide +kernel
theorem q26_38 : c_q 26 38 = some (.isub, 0, 0, 0) := by decide +kernel
theorem q26_39 : c_q 26 39 = some (.istore 7, 0, 0, 0) := by decide +kernel
theorem q26_41 : c_q 26 41 = some (.aload_n 0, 0, 0, 0) := by decide +kernel
theorem q26_42 : c_q 26 42 = some (.getfield 9, 0, 0, 0) := by decide +kernel
theorem q26_45 : c_q 26 45 = some (.iload 7, 0, 0, 0) := by decide +kernel
theorem q26_47 : c_q 26 47 = some (.iload_n 2, 0, 0, 0) := by decide +kernel
theorem q26_48 : c_q 26 48 = some (.iload 5, 0, 0, 0) := by decide +kernel
theorem q26_50 : c_q 26 50 = some (.aload_n 1, 0, 0, 0) := by decide +kernel
theorem q26_51 : c_q 26 51 = some (.getfield 32, 6, 0, 1) := by decide +kernel
theorem q26_54 : c_q 26 54 = some (.iload 7, 0, 0, 0) := by decide +kernel
theorem q26_56 : c_q 26 56 = some (.iaload, 0, 0, 0) := by decide +kernel
theorem q26_57 : c_q 26 57 = some (.aload_n 1, 0, 0, 0) := by decide +kernel
theorem q26_58 : c_q 26 58 = some (.getfield 35, 6, 1, 1) := by decide +kernel
theorem q26_61 : c_q 26 61 = some (.iload 7, 0, 0, 0) := by decide +kernel
theorem q26_63 : c_q 26 63 = some (.iaload, 0, 0, 0) := by decide +kernel
theorem q26_64 : c_q 26 64 = some (.invokestatic 38, 22, 4, 1) := by decide +kernel
theorem q26_67 : c_q 26 67 = some (.iastore, 0, 0, 0) := by decide +kernel
theorem q26_68 : c_q 26 68 = some (.iload 5, 0, 0, 0) := by decide +kernel
theorem q26_70 : c_q 26 70 = some (.aload_n 1, 0, 0, 0) := by decide +kernel
theorem q26_71 : c_q 26 71 = some (.getfield 35, 6, 1, 1) := by decide +kernel
theorem q26_74 : c_q 26 74 = some (.iload 7, 0, 0, 0) := by decide +kernel
theorem q26_76 : c_q 26 76 = some (.iaload, 0, 0, 0) := by decide +kernel
theorem q26_77 : c_q 26 77 = some (.aload_n 0, 0, 0, 0) := by decide +kernel
theorem q26_78 : c_q 26 78 = some (.getfield 9, 0, 0, 0) := by decide +kernel
theorem q26_81 : c_q 26 81 = some (.iload 7, 0, 0, 0) := by decide +kernel
theorem q26_83 : c_q 26 83 = some (.iaload, 0, 0, 0) := by decide +kernel
theorem q26_84 : c_q 26 84 = some (.isub, 0, 0, 0) := by decide +kernel
theorem q26_85 : c_q 26 85 = some (.iadd, 0, 0, 0) := by decide +kernel
theorem q26_86 : c_q 26 86 = some (.istore 5, 0, 0, 0) := by decide +kernel
theorem q26_88 : c_q 26 88 = some (.aload_n 0, 0, 0, 0) := by decide +kernel
theorem q26_89 : c_q 26 89 = some (.aload_n 0, 0, 0, 0) := by decide +kernel
theorem q26_90 : c_q 26 90 = some (.getfield 25, 0, 1, 0) := by decide +kernel
theorem q26_93 : c_q 26 93 = some (.iload 5, 0, 0, 0) := by decide +kernel
theorem q26_95 : c_q 26 95 = some (.invokestatic 42, 0, 0, 7) := by decide +kernel
theorem q26_98 : c_q 26 98 = some (.putfield 25, 0, 1, 0) := by decide +kernel
theorem q26_101 : c_q 26 101 = some (.iinc 6 (1), 0, 0, 0) := by decide +kernel
theorem q26_104 : c_q 26 104 = some (.goto (-93), 11, 0, 0) := by decide +kernel
theorem q26_107 : c_q 26 107 = some (.iload 5, 0, 0, 0) := by decide +kernel
theorem q26_109 : c_q 26 109 = some (.ireturn, 0, 0, 0) := by decide +kernel
theorem q27_0 : c_q 27 0 = some (.aload_n 0, 0, 0, 0) := by decide +kernel
theorem q27_1 : c_q 27 1 = some (.aload_n 1, 0, 0, 0) := by decide +kernel
theorem q27_2 : c_q 27 2 = some (.iload_n 2, 0, 0, 0) := by decide +kernel
theorem q27_3 : c_q 27 3 = some (.iconst 0, 0, 0, 0) := by decide +kernel
theorem q27_4 : c_q 27 4 = some (.iconst 1, 0, 0, 0) := by decide +kernel
theorem q27_5 : c_q 27 5 = some (.invokevirtual 21, 26, 4, 2) := by decide +kernel
theorem q27_8 : c_q 27 8 = some (.pop, 0, 0, 0) := by decide +kernel
theorem q27_9 : c_q 27 9 = some (.iconst 0, 0, 0, 0) := by decide +kernel
theorem q27_10 : c_q 27 10 = some (.istore_n 3, 0, 0, 0) := by decide +kernel
theorem q27_11 : c_q 27 11 = some (.iconst 0, 0, 0, 0) := by decide +kernel
theorem q27_12 : c_q 27 12 = some (.istore 4, 0, 0, 0) := by decide +kernel
theorem q27_14 : c_q 27 14 = some (.iload 4, 0, 0, 0) := by decide +kernel
theorem q27_16 : c_q 27 16 = some (.aload_n 1, 0, 0, 0) := by decide +kernel
theorem q27_17 : c_q 27 17 = some (.getfield 29, 6, 2, 1) := by decide +kernel
theorem q27_20 : c_q 27 20 = some (.if_icmp .ge (32), 52, 0, 0) := by decide +kernel
theorem q27_23 : c_q 27 23 = some (.aload_n 1, 0, 0, 0) := by decide +kernel
theorem q27_24 : c_q 27 24 = some (.getfield 35, 6, 1, 1) := by decide +kernel
theorem q27_27 : c_q 27 27 = some (.iload 4, 0, 0, 0) := by decide +kernel
theorem q27_29 : c_q 27 29 = some (.iaload, 0, 0, 0) := by decide +kernel
theorem q27_30 : c_q 27 30 = some (.ifCond .le (16), 46, 0, 0) := by decide +kernel
theorem q27_33 : c_q 27 33 = some (.aload_n 0, 0, 0, 0) := by decide +kernel
theorem q27_34 : c_q 27 34 = some (.getfield 9, 0, 0, 0) := by decide +kernel
theorem q27_37 : c_q 27 37 = some (.iload 4, 0, 0, 0) := by decide +kernel
theorem q27_39 : c_q 27 39 = some (.iaload, 0, 0, 0) := by decide +kernel
theorem q27_40 : c_q 27 40 = some (.ifCond .ne (6), 46, 0, 0) := by decide +kernel
theorem q27_43 : c_q 27 43 = some (.iinc 3 (1), 0, 0, 0) := by decide +kernel
theorem q27_46 : c_q 27 46 = some (.iinc 4 (1), 0, 0, 0) := by decide +kernel
theorem q27_49 : c_q 27 49 = some (.goto (-35), 14, 0, 0) := by decide +kernel
theorem q27_52 : c_q 27 52 = some (.iload_n 3, 0, 0, 0) := by decide +kernel
theorem q27_53 : c_q 27 53 = some (.ireturn, 0, 0, 0) := by decide +kernel
theorem q28_0 : c_q 28 0 = some (.aload_n 0, 0, 0, 0) := by decide +kernel
theorem q28_1 : c_q 28 1 = some (.invokespecial 3, 0, 0, 6) := by decide +kernel
theorem q28_4 : c_q 28 4 = some (.aload_n 0, 0, 0, 0) := by decide +kernel
theorem q28_5 : c_q 28 5 = some (.iconst 5, 0, 0, 0) := by decide +kernel
theorem q28_6 : c_q 28 6 = some (.newarray .int, 0, 0, 0) := by decide +kernel
theorem q28_8 : c_q 28 8 = some (.putfield 9, 1, 0, 0) := by decide +kernel
theorem q28_11 : c_q 28 11 = some (.aload_n 0, 0, 0, 0) := by decide +kernel
theorem q28_12 : c_q 28 12 = some (.iconst 5, 0, 0, 0) := by decide +kernel
theorem q28_13 : c_q 28 13 = some (.newarray .int, 0, 0, 0) := by decide +kernel
theorem q28_15 : c_q 28 15 = some (.putfield 15, 1, 1, 0) := by decide +kernel
theorem q28_18 : c_q 28 18 = some (.return_, 0, 0, 0) := by decide +kernel
theorem q29_0 : c_q 29 0 = some (.aload_n 0, 0, 0, 0) := by decide +kernel
theorem q29_1 : c_q 29 1 = some (.invokespecial 3, 0, 0, 6) := by decide +kernel
theorem q29_4 : c_q 29 4 = some (.aload_n 0, 0, 0, 0) := by decide +kernel
theorem q29_5 : c_q 29 5 = some (.bipush (64), 0, 0, 0) := by decide +kernel
theorem q29_7 : c_q 29 7 = some (.newarray .long, 1, 0, 0) := by decide +kernel
theorem q29_9 : c_q 29 9 = some (.putfield 9, 2, 0, 0) := by decide +kernel
theorem q29_12 : c_q 29 12 = some (.return_, 0, 0, 0) := by decide +kernel
theorem q30_0 : c_q 30 0 = some (.aload_n 0, 0, 0, 0) := by decide +kernel
theorem q30_1 : c_q 30 1 = some (.invokespecial 3, 0, 0, 6) := by decide +kernel
theorem q30_4 : c_q 30 4 = some (.aload_n 0, 0, 0, 0) := by decide +kernel
theorem q30_5 : c_q 30 5 = some (.bipush (120), 0, 0, 0) := by decide +kernel
theorem q30_7 : c_q 30 7 = some (.newarray .int, 0, 0, 0) := by decide +kernel
theorem q30_9 : c_q 30 9 = some (.putfield 9, 3, 0, 0) := by decide +kernel
theorem q30_12 : c_q 30 12 = some (.aload_n 0, 0, 0, 0) := by decide +kernel
theorem q30_13 : c_q 30 13 = some (.bipush (60), 0, 0, 0) := by decide +kernel
theorem q30_15 : c_q 30 15 = some (.newarray .int, 0, 0, 0) := by decide +kernel
theorem q30_17 : c_q 30 17 = some (.putfield 15, 3, 1, 0) := by decide +kernel
theorem q30_20 : c_q 30 20 = some (.return_, 0, 0, 0) := by decide +kernel
theorem q31_0 : c_q 31 0 = some (.aload_n 0, 0, 0, 0) := by decide +kernel
theorem q31_1 : c_q 31 1 = some (.aload_n 1, 0, 0, 0) := by decide +kernel
theorem q31_2 : c_q 31 2 = some (.invokevirtual 18, 32, 1, 2) := by decide +kernel
theorem q31_5 : c_q 31 5 = some (.istore_n 2, 0, 0, 0) := by decide +kernel
theorem q31_6 : c_q 31 6 = some (.aload_n 0, 0, 0, 0) := by decide +kernel
theorem q31_7 : c_q 31 7 = some (.iconst 0, 0, 0, 0) := by decide +kernel
theorem q31_8 : c_q 31 8 = some (.putfield 22, 3, 2, 0) := by decide +kernel
theorem q31_11 : c_q 31 11 = some (.aload_n 0, 0, 0, 0) := by decide +kernel
theorem q31_12 : c_q 31 12 = some (.getfield 22, 3, 2, 0) := by decide +kernel
theorem q31_15 : c_q 31 15 = some (.bipush (60), 0, 0, 0) := by decide +kernel
theorem q31_17 : c_q 31 17 = some (.if_icmp .ge (43), 60, 0, 0) := by decide +kernel
theorem q31_20 : c_q 31 20 = some (.aload_n 0, 0, 0, 0) := by decide +kernel
theorem q31_21 : c_q 31 21 = some (.iload_n 2, 0, 0, 0) := by decide +kernel
theorem q31_22 : c_q 31 22 = some (.invokevirtual 26, 33, 1, 2) := by decide +kernel
theorem q31_25 : c_q 31 25 = some (.istore_n 3, 0, 0, 0) := by decide +kernel
theorem q31_26 : c_q 31 26 = some (.iload_n 3, 0, 0, 0) := by decide +kernel
theorem q31_27 : c_q 31 27 = some (.ifCond .ne (4), 31, 0, 0) := by decide +kernel
theorem q31_30 : c_q 31 30 = some (.return_, 0, 0, 0) := by decide +kernel
theorem q31_31 : c_q 31 31 = some (.aload_n 0, 0, 0, 0) := by decide +kernel
theorem q31_32 : c_q 31 32 = some (.getfield 15, 3, 1, 0) := by decide +kernel
theorem q31_35 : c_q 31 35 = some (.aload_n 0, 0, 0, 0) := by decide +kernel
theorem q31_36 : c_q 31 36 = some (.getfield 22, 3, 2, 0) := by decide +kernel
theorem q31_39 : c_q 31 39 = some (.iload_n 3, 0, 0, 0) := by decide +kernel
theorem q31_40 : c_q 31 40 = some (.iastore, 0, 0, 0) := by decide +kernel
theorem q31_41 : c_q 31 41 = some (.aload_n 0, 0, 0, 0) := by decide +kernel
theorem q31_42 : c_q 31 42 = some (.dup, 0, 0, 0) := by decide +kernel
theorem q31_43 : c_q 31 43 = some (.getfield 22, 3, 2, 0) := by decide +kernel
theorem q31_46 : c_q 31 46 = some (.iconst 1, 0, 0, 0) := by decide +kernel
theorem q31_47 : c_q 31 47 = some (.iadd, 0, 0, 0) := by decide +kernel
theorem q31_48 : c_q 31 48 = some (.putfield 22, 3, 2, 0) := by decide +kernel
theorem q31_51 : c_q 31 51 = some (.iload_n 2, 0, 0, 0) := by decide +kernel
theorem q31_52 : c_q 31 52 = some (.iconst 2, 0, 0, 0) := by decide +kernel
theorem q31_53 : c_q 31 53 = some (.iload_n 3, 0, 0, 0) := by decide +kernel
theorem q31_54 : c_q 31 54 = some (.imul, 0, 0, 0) := by decide +kernel
theorem q31_55 : c_q 31 55 = some (.isub, 0, 0, 0) := by decide +kernel
theorem q31_56 : c_q 31 56 = some (.istore_n 2, 0, 0, 0) := by decide +kernel
theorem q31_57 : c_q 31 57 = some (.goto (-46), 11, 0, 0) := by decide +kernel
theorem q31_60 : c_q 31 60 = some (.return_, 0, 0, 0) := by decide +kernel
theorem q32_0 : c_q 32 0 = some (.aload_n 0, 0, 0, 0) := by decide +kernel
theorem q32_1 : c_q 32 1 = some (.getfield 9, 3, 0, 0) := by decide +kernel
theorem q32_4 : c_q 32 4 = some (.iconst 0, 0, 0, 0) := by decide +kernel
theorem q32_5 : c_q 32 5 = some (.invokestatic 30, 82, 2, 0) := by decide +kernel
theorem q32_8 : c_q 32 8 = some (.iconst 0, 0, 0, 0) := by decide +kernel
theorem q32_9 : c_q 32 9 = some (.istore_n 2, 0, 0, 0) := by decide +kernel
theorem q32_10 : c_q 32 10 = some (.iload_n 2, 0, 0, 0) := by decide +kernel
theorem q32_11 : c_q 32 11 = some (.aload_n 1, 0, 0, 0) := by decide +kernel
theorem q32_12 : c_q 32 12 = some (.getfield 36, 6, 2, 1) := by decide +kernel
theorem q32_15 : c_q 32 15 = some (.if_icmp .ge (21), 36, 0, 0) := by decide +kernel
theorem q32_18 : c_q 32 18 = some (.aload_n 0, 0, 0, 0) := by decide +kernel
theorem q32_19 : c_q 32 19 = some (.getfield 9, 3, 0, 0) := by decide +kernel
theorem q32_22 : c_q 32 22 = some (.iload_n 2, 0, 0, 0) := by decide +kernel
theorem q32_23 : c_q 32 23 = some (.aload_n 1, 0, 0, 0) := by decide +kernel
theorem q32_24 : c_q 32 24 = some (.getfield 41, 6, 1, 1) := by decide +kernel
theorem q32_27 : c_q 32 27 = some (.iload_n 2, 0, 0, 0) := by decide +kernel
theorem q32_28 : c_q 32 28 = some (.iaload, 0, 0, 0) := by decide +kernel
theorem q32_29 : c_q 32 29 = some (.iastore, 0, 0, 0) := by decide +kernel
theorem q32_30 : c_q 32 30 = some (.iinc 2 (1), 0, 0, 0) := by decide +kernel
theorem q32_33 : c_q 32 33 = some (.goto (-23), 10, 0, 0) := by decide +kernel
theorem q32_36 : c_q 32 36 = some (.aload_n 1, 0, 0, 0) := by decide +kernel
theorem q32_37 : c_q 32 37 = some (.getfield 36, 6, 2, 1) := by decide +kernel
theorem q32_40 : c_q 32 40 = some (.aload_n 1, 0, 0, 0) := by decide +kernel
theorem q32_41 : c_q 32 41 = some (.invokevirtual 44, 56, 0, 3) := by decide +kernel
theorem q32_44 : c_q 32 44 = some (.iadd, 0, 0, 0) := by decide +kernel
theorem q32_45 : c_q 32 45 = some (.ireturn, 0, 0, 0) := by decide +kernel
theorem q33_0 : c_q 33 0 = some (.iconst 0, 0, 0, 0) := by decide +kernel
theorem q33_1 : c_q 33 1 = some (.istore_n 2, 0, 0, 0) := by decide +kernel
theorem q33_2 : c_q 33 2 = some (.iconst 0, 0, 0, 0) := by decide +kernel
theorem q33_3 : c_q 33 3 = some (.istore_n 3, 0, 0, 0) := by decide +kernel
theorem q33_4 : c_q 33 4 = some (.iconst 0, 0, 0, 0) := by decide +kernel
theorem q33_5 : c_q 33 5 = some (.istore 4, 0, 0, 0) := by decide +kernel
theorem q33_7 : c_q 33 7 = some (.iload 4, 0, 0, 0) := by decide +kernel
theorem q33_9 : c_q 33 9 = some (.iload_n 1, 0, 0, 0) := by decide +kernel
theorem q33_10 : c_q 33 10 = some (.if_icmp .ge (99), 109, 0, 0) := by decide +kernel
theorem q33_13 : c_q 33 13 = some (.iload 4, 0, 0, 0) := by decide +kernel
theorem q33_15 : c_q 33 15 = some (.aload_n 0, 0, 0, 0) := by decide +kernel
theorem q33_16 : c_q 33 16 = some (.getfield 9, 3, 0, 0) := by decide +kernel
theorem q33_19 : c_q 33 19 = some (.arraylength, 0, 0, 0) := by decide +kernel
theorem q33_20 : c_q 33 20 = some (.if_icmp .ge (89), 109, 0, 0) := by decide +kernel
theorem q33_23 : c_q 33 23 = some (.iload 4, 0, 0, 0) := by decide +kernel
theorem q33_25 : c_q 33 25 = some (.iconst 1, 0, 0, 0) := by decide +kernel
theorem q33_26 : c_q 33 26 = some (.iadd, 0, 0, 0) := by decide +kernel
theorem q33_27 : c_q 33 27 = some (.iload_n 1, 0, 0, 0) := by decide +kernel
theorem q33_28 : c_q 33 28 = some (.if_icmp .ge (19), 47, 0, 0) := by decide +kernel
theorem q33_31 : c_q 33 31 = some (.iload 4, 0, 0, 0) := by decide +kernel
theorem q33_33 : c_q 33 33 = some (.iconst 1, 0, 0, 0) := by decide +kernel
theorem q33_34 : c_q 33 34 = some (.iadd, 0, 0, 0) := by decide +kernel
theorem q33_35 : c_q 33 35 = some (.aload_n 0, 0, 0, 0) := by decide +kernel
theorem q33_36 : c_q 33 36 = some (.getfield 9, 3, 0, 0) := by decide +kernel
theorem q33_39 : c_q 33 39 = some (.arraylength, 0, 0, 0) := by decide +kernel
theorem q33_40 : c_q 33 40 = some (.if_icmp .ge (7), 47, 0, 0) := by decide +kernel
theorem q33_43 : c_q 33 43 = some (.iconst 1, 0, 0, 0) := by decide +kernel
theorem q33_44 : c_q 33 44 = some (.goto (4), 48, 0, 0) := by decide +kernel
theorem q33_47 : c_q 33 47 = some (.iconst 0, 0, 0, 0) := by decide +kernel
theorem q33_48 : c_q 33 48 = some (.istore 5, 0, 0, 0) := by decide +kernel
theorem q33_50 : c_q 33 50 = some (.iload 5, 0, 0, 0) := by decide +kernel
theorem q33_52 : c_q 33 52 = some (.ifCond .eq (35), 87, 0, 0) := by decide +kernel
theorem q33_55 : c_q 33 55 = some (.aload_n 0, 0, 0, 0) := by decide +kernel
theorem q33_56 : c_q 33 56 = some (.getfield 9, 3, 0, 0) := by decide +kernel
theorem q33_59 : c_q 33 59 = some (.iload 4, 0, 0, 0) := by decide +kernel
theorem q33_61 : c_q 33 61 = some (.iaload, 0, 0, 0) := by decide +kernel
theorem q33_62 : c_q 33 62 = some (.iconst 1, 0, 0, 0) := by decide +kernel
theorem q33_63 : c_q 33 63 = some (.if_icmp .ne (24), 87, 0, 0) := by decide +kernel
theorem q33_66 : c_q 33 66 = some (.aload_n 0, 0, 0, 0) := by decide +kernel
theorem q33_67 : c_q 33 67 = some (.getfield 9, 3, 0, 0) := by decide +kernel
theorem q33_70 : c_q 33 70 = some (.iload 4, 0, 0, 0) := by decide +kernel
theorem q33_72 : c_q 33 72 = some (.iconst 1, 0, 0, 0) := by decide +kernel
theorem q33_73 : c_q 33 73 = some (.iadd, 0, 0, 0) := by decide +kernel
theorem q33_74 : c_q 33 74 = some (.iaload, 0, 0, 0) := by decide +kernel
theorem q33_75 : c_q 33 75 = some (.ifCond .ne (12), 87, 0, 0) := by decide +kernel
theorem q33_78 : c_q 33 78 = some (.iinc 2 (1), 0, 0, 0) := by decide +kernel
theorem q33_81 : c_q 33 81 = some (.iinc 4 (2), 0, 0, 0) := by decide +kernel
theorem q33_84 : c_q 33 84 = some (.goto (22), 106, 0, 0) := by decide +kernel
theorem q33_87 : c_q 33 87 = some (.aload_n 0, 0, 0, 0) := by decide +kernel
theorem q33_88 : c_q 33 88 = some (.getfield 9, 3, 0, 0) := by decide +kernel
theorem q33_91 : c_q 33 91 = some (.iload_n 3, 0, 0, 0) := by decide +kernel
theorem q33_92 : c_q 33 92 = some (.aload_n 0, 0, 0, 0) := by decide +kernel
theorem q33_93 : c_q 33 93 = some (.getfield 9, 3, 0, 0) := by decide +kernel
theorem q33_96 : c_q 33 96 = some (.iload 4, 0, 0, 0) := by decide +kernel
theorem q33_98 : c_q 33 98 = some (.iaload, 0, 0, 0) := by decide +kernel
theorem q33_99 : c_q 33 99 = some (.iastore, 0, 0, 0) := by decide +kernel
theorem q33_100 : c_q 33 100 = some (.iinc 3 (1), 0, 0, 0) := by decide +kernel
theorem q33_103 : c_q 33 103 = some (.iinc 4 (1), 0, 0, 0) := by decide +kernel
theorem q33_106 : c_q 33 106 = some (.goto (-99), 7, 0, 0) := by decide +kernel
theorem q33_109 : c_q 33 109 = some (.iload_n 2, 0, 0, 0) := by decide +kernel
theorem q33_110 : c_q 33 110 = some (.ireturn, 0, 0, 0) := by decide +kernel
theorem q34_0 : c_q 34 0 = some (.iload_n 1, 0, 0, 0) := by decide +kernel
theorem q34_1 : c_q 34 1 = some (.iconst 1, 0, 0, 0) := by decide +kernel
theorem q34_2 : c_q 34 2 = some (.if_icmp .lt (22), 24, 0, 0) := by decide +kernel
theorem q34_5 : c_q 34 5 = some (.iload_n 1, 0, 0, 0) := by decide +kernel
theorem q34_6 : c_q 34 6 = some (.aload_n 0, 0, 0, 0) := by decide +kernel
theorem q34_7 : c_q 34 7 = some (.getfield 22, 3, 2, 0) := by decide +kernel
theorem q34_10 : c_q 34 10 = some (.if_icmp .gt (14), 24, 0, 0) := by decide +kernel
theorem q34_13 : c_q 34 13 = some (.aload_n 0, 0, 0, 0) := by decide +kernel
theorem q34_14 : c_q 34 14 = some (.getfield 15, 3, 1, 0) := by decide +kernel
theorem q34_17 : c_q 34 17 = some (.iload_n 1, 0, 0, 0) := by decide +kernel
theorem q34_18 : c_q 34 18 = some (.iconst 1, 0, 0, 0) := by decide +kernel
theorem q34_19 : c_q 34 19 = some (.isub, 0, 0, 0) := by decide +kernel
theorem q34_20 : c_q 34 20 = some (.iaload, 0, 0, 0) := by decide +kernel
theorem q34_21 : c_q 34 21 = some (.goto (4), 25, 0, 0) := by decide +kernel
theorem q34_24 : c_q 34 24 = some (.iconst 0, 0, 0, 0) := by decide +kernel
theorem q34_25 : c_q 34 25 = some (.ireturn, 0, 0, 0) := by decide +kernel
theorem q35_0 : c_q 35 0 = some (.aload_n 0, 0, 0, 0) := by decide +kernel
theorem q35_1 : c_q 35 1 = some (.iconst 1, 0, 0, 0) := by decide +kernel
theorem q35_2 : c_q 35 2 = some (.invokevirtual 48, 34, 1, 2) := by decide +kernel
theorem q35_5 : c_q 35 5 = some (.ireturn, 0, 0, 0) := by decide +kernel
theorem q36_0 : c_q 36 0 = some (.iconst 0, 0, 0, 0) := by decide +kernel
theorem q36_1 : c_q 36 1 = some (.istore_n 2, 0, 0, 0) := by decide +kernel
theorem q36_2 : c_q 36 2 = some (.iconst 0, 0, 0, 0) := by decide +kernel
theorem q36_3 : c_q 36 3 = some (.istore_n 3, 0, 0, 0) := by decide +kernel
theorem q36_4 : c_q 36 4 = some (.iload_n 3, 0, 0, 0) := by decide +kernel
theorem q36_5 : c_q 36 5 = some (.aload_n 0, 0, 0, 0) := by decide +kernel
theorem q36_6 : c_q 36 6 = some (.getfield 22, 3, 2, 0) := by decide +kernel
theorem q36_9 : c_q 36 9 = some (.if_icmp .ge (22), 31, 0, 0) := by decide +kernel
theorem q36_12 : c_q 36 12 = some (.aload_n 0, 0, 0, 0) := by decide +kernel
theorem q36_13 : c_q 36 13 = some (.getfield 15, 3, 1, 0) := by decide +kernel
theorem q36_16 : c_q 36 16 = some (.iload_n 3, 0, 0, 0) := by decide +kernel
theorem q36_17 : c_q 36 17 = some (.iaload, 0, 0, 0) := by decide +kernel
theorem q36_18 : c_q 36 18 = some (.iload_n 1, 0, 0, 0) := by decide +kernel
theorem q36_19 : c_q 36 19 = some (.if_icmp .le (6), 25, 0, 0) := by decide +kernel
theorem q36_22 : c_q 36 22 = some (.iinc 2 (1), 0, 0, 0) := by decide +kernel
theorem q36_25 : c_q 36 25 = some (.iinc 3 (1), 0, 0, 0) := by decide +kernel
theorem q36_28 : c_q 36 28 = some (.goto (-24), 4, 0, 0) := by decide +kernel
theorem q36_31 : c_q 36 31 = some (.iload_n 2, 0, 0, 0) := by decide +kernel
theorem q36_32 : c_q 36 32 = some (.ireturn, 0, 0, 0) := by decide +kernel
theorem q37_0 : c_q 37 0 = some (.iconst 0, 0, 0, 0) := by decide +kernel
theorem q37_1 : c_q 37 1 = some (.istore_n 2, 0, 0, 0) := by decide +kernel
theorem q37_2 : c_q 37 2 = some (.iconst 0, 0, 0, 0) := by decide +kernel
theorem q37_3 : c_q 37 3 = some (.istore_n 3, 0, 0, 0) := by decide +kernel
theorem q37_4 : c_q 37 4 = some (.iload_n 3, 0, 0, 0) := by decide +kernel
theorem q37_5 : c_q 37 5 = some (.aload_n 0, 0, 0, 0) := by decide +kernel
theorem q37_6 : c_q 37 6 = some (.invokevirtual 51, 35, 0, 2) := by decide +kernel
theorem q37_9 : c_q 37 9 = some (.if_icmp .ge (21), 30, 0, 0) := by decide +kernel
theorem q37_12 : c_q 37 12 = some (.iload_n 2, 0, 0, 0) := by decide +kernel
theorem q37_13 : c_q 37 13 = some (.aload_n 0, 0, 0, 0) := by decide +kernel
theorem q37_14 : c_q 37 14 = some (.iload_n 3, 0, 0, 0) := by decide +kernel
theorem q37_15 : c_q 37 15 = some (.invokevirtual 54, 36, 1, 2) := by decide +kernel
theorem q37_18 : c_q 37 18 = some (.iload_n 1, 0, 0, 0) := by decide +kernel
theorem q37_19 : c_q 37 19 = some (.invokestatic 57, 0, 0, 8) := by decide +kernel
theorem q37_22 : c_q 37 22 = some (.iadd, 0, 0, 0) := by decide +kernel
theorem q37_23 : c_q 37 23 = some (.istore_n 2, 0, 0, 0) := by decide +kernel
theorem q37_24 : c_q 37 24 = some (.iinc 3 (1), 0, 0, 0) := by decide +kernel
theorem q37_27 : c_q 37 27 = some (.goto (-23), 4, 0, 0) := by decide +kernel
theorem q37_30 : c_q 37 30 = some (.iload_n 2, 0, 0, 0) := by decide +kernel
theorem q37_31 : c_q 37 31 = some (.ireturn, 0, 0, 0) := by decide +kernel
theorem q38_0 : c_q 38 0 = some (.aload_n 0, 0, 0, 0) := by decide +kernel
theorem q38_1 : c_q 38 1 = some (.invokespecial 3, 0, 0, 6) := by decide +kernel
theorem q38_4 : c_q 38 4 = some (.aload_n 0, 0, 0, 0) := by decide +kernel
theorem q38_5 : c_q 38 5 = some (.bipush (8), 0, 0, 0) := by decide +kernel
theorem q38_7 : c_q 38 7 = some (.bipush (60), 0, 0, 0) := by decide +kernel
theorem q38_9 : c_q 38 9 = some (.multianewarray 9 2, 0, 0, 0) := by decide +kernel
theorem q38_13 : c_q 38 13 = some (.putfield 11, 4, 0, 0) := by decide +kernel
theorem q38_16 : c_q 38 16 = some (.aload_n 0, 0, 0, 0) := by decide +kernel
theorem q38_17 : c_q 38 17 = some (.bipush (8), 0, 0, 0) := by decide +kernel
theorem q38_19 : c_q 38 19 = some (.bipush (60), 0, 0, 0) := by decide +kernel
theorem q38_21 : c_q 38 21 = some (.multianewarray 9 2, 0, 0, 0) := by decide +kernel
theorem q38_25 : c_q 38 25 = some (.putfield 16, 4, 1, 0) := by decide +kernel
theorem q38_28 : c_q 38 28 = some (.return_, 0, 0, 0) := by decide +kernel
theorem q39_0 : c_q 39 0 = some (.aload_n 0, 0, 0, 0) := by decide +kernel
theorem q39_1 : c_q 39 1 = some (.iconst 0, 0, 0, 0) := by decide +kernel
theorem q39_2 : c_q 39 2 = some (.putfield 19, 4, 2, 0) := by decide +kernel
theorem q39_5 : c_q 39 5 = some (.return_, 0, 0, 0) := by decide +kernel
theorem q40_0 : c_q 40 0 = some (.iload_n 1, 0, 0, 0) := by decide +kernel
theorem q40_1 : c_q 40 1 = some (.iconst 1, 0, 0, 0) := by decide +kernel
theorem q40_2 : c_q 40 2 = some (.if_icmp .lt (15), 17, 0, 0) := by decide +kernel
theorem q40_5 : c_q 40 5 = some (.iload_n 1, 0, 0, 0) := by decide +kernel
theorem q40_6 : c_q 40 6 = some (.aload_n 0, 0, 0, 0) := by decide +kernel
theorem q40_7 : c_q 40 7 = some (.getfield 19, 4, 2, 0) := by decide +kernel
theorem q40_10 : c_q 40 10 = some (.if_icmp .gt (7), 17, 0, 0) := by decide +kernel
theorem q40_13 : c_q 40 13 = some (.iconst 1, 0, 0, 0) := by decide +kernel
theorem q40_14 : c_q 40 14 = some (.goto (4), 18, 0, 0) := by decide +kernel
theorem q40_17 : c_q 40 17 = some (.iconst 0, 0, 0, 0) := by decide +kernel
theorem q40_18 : c_q 40 18 = some (.ireturn, 0, 0, 0) := by decide +kernel
theorem q41_0 : c_q 41 0 = some (.aload_n 0, 0, 0, 0) := by decide +kernel
theorem q41_1 : c_q 41 1 = some (.getfield 23, 4, 3, 0) := by decide +kernel
theorem q41_4 : c_q 41 4 = some (.iload_n 1, 0, 0, 0) := by decide +kernel
theorem q41_5 : c_q 41 5 = some (.isub, 0, 0, 0) := by decide +kernel
theorem q41_6 : c_q 41 6 = some (.bipush (8), 0, 0, 0) := by decide +kernel
theorem q41_8 : c_q 41 8 = some (.invokestatic 26, 81, 2, 0) := by decide +kernel
theorem q41_11 : c_q 41 11 = some (.ireturn, 0, 0, 0) := by decide +kernel
theorem q42_0 : c_q 42 0 = some (.aload_n 0, 0, 0, 0) := by decide +kernel
theorem q42_1 : c_q 42 1 = some (.getfield 16, 4, 1, 0) := by decide +kernel
theorem q42_4 : c_q 42 4 = some (.aload_n 0, 0, 0, 0) := by decide +kernel
theorem q42_5 : c_q 42 5 = some (.iload_n 1, 0, 0, 0) := by decide +kernel
theorem q42_6 : c_q 42 6 = some (.invokevirtual 32, 41, 1, 2) := by decide +kernel
theorem q42_9 : c_q 42 9 = some (.aaload, 0, 0, 0) := by decide +kernel
theorem q42_10 : c_q 42 10 = some (.iload_n 2, 0, 0, 0) := by decide +kernel
theorem q42_11 : c_q 42 11 = some (.iaload, 0, 0, 0) := by decide +kernel
theorem q42_12 : c_q 42 12 = some (.ireturn, 0, 0, 0) := by decide +kernel
theorem q43_0 : c_q 43 0 = some (.iconst 0, 0, 0, 0) := by decide +kernel
theorem q43_1 : c_q 43 1 = some (.istore_n 2, 0, 0, 0) := by decide +kernel
theorem q43_2 : c_q 43 2 = some (.iload_n 2, 0, 0, 0) := by decide +kernel
theorem q43_3 : c_q 43 3 = some (.aload_n 1, 0, 0, 0) := by decide +kernel
theorem q43_4 : c_q 43 4 = some (.getfield 36, 6, 2, 1) := by decide +kernel
theorem q43_7 : c_q 43 7 = some (.if_icmp .ge (43), 50, 0, 0) := by decide +kernel
theorem q43_10 : c_q 43 10 = some (.aload_n 0, 0, 0, 0) := by decide +kernel
theorem q43_11 : c_q 43 11 = some (.getfield 11, 4, 0, 0) := by decide +kernel
theorem q43_14 : c_q 43 14 = some (.aload_n 0, 0, 0, 0) := by decide +kernel
theorem q43_15 : c_q 43 15 = some (.getfield 23, 4, 3, 0) := by decide +kernel
theorem q43_18 : c_q 43 18 = some (.aaload, 0, 0, 0) := by decide +kernel
theorem q43_19 : c_q 43 19 = some (.iload_n 2, 0, 0, 0) := by decide +kernel
theorem q43_20 : c_q 43 20 = some (.aload_n 1, 0, 0, 0) := by decide +kernel
theorem q43_21 : c_q 43 21 = some (.getfield 41, 6, 0, 1) := by decide +kernel
theorem q43_24 : c_q 43 24 = some (.iload_n 2, 0, 0, 0) := by decide +kernel
theorem q43_25 : c_q 43 25 = some (.iaload, 0, 0, 0) := by decide +kernel
theorem q43_26 : c_q 43 26 = some (.iastore, 0, 0, 0) := by decide +kernel
theorem q43_27 : c_q 43 27 = some (.aload_n 0, 0, 0, 0) := by decide +kernel
theorem q43_28 : c_q 43 28 = some (.getfield 16, 4, 1, 0) := by decide +kernel
theorem q43_31 : c_q 43 31 = some (.aload_n 0, 0, 0, 0) := by decide +kernel
theorem q43_32 : c_q 43 32 = some (.getfield 23, 4, 3, 0) := by decide +kernel
theorem q43_35 : c_q 43 35 = some (.aaload, 0, 0, 0) := by decide +kernel
theorem q43_36 : c_q 43 36 = some (.iload_n 2, 0, 0, 0) := by decide +kernel
theorem q43_37 : c_q 43 37 = some (.aload_n 1, 0, 0, 0) := by decide +kernel
theorem q43_38 : c_q 43 38 = some (.getfield 44, 6, 1, 1) := by decide +kernel
theorem q43_41 : c_q 43 41 = some (.iload_n 2, 0, 0, 0) := by decide +kernel
theorem q43_42 : c_q 43 42 = some (.iaload, 0, 0, 0) := by decide +kernel
theorem q43_43 : c_q 43 43 = some (.iastore, 0, 0, 0) := by decide +kernel
theorem q43_44 : c_q 43 44 = some (.iinc 2 (1), 0, 0, 0) := by decide +kernel
theorem q43_47 : c_q 43 47 = some (.goto (-45), 2, 0, 0) := by decide +kernel
theorem q43_50 : c_q 43 50 = some (.aload_n 0, 0, 0, 0) := by decide +kernel
theorem q43_51 : c_q 43 51 = some (.aload_n 0, 0, 0, 0) := by decide +kernel
theorem q43_52 : c_q 43 52 = some (.iconst (-1), 0, 0, 0) := by decide +kernel
theorem q43_53 : c_q 43 53 = some (.invokevirtual 32, 41, 1, 2) := by decide +kernel
theorem q43_56 : c_q 43 56 = some (.putfield 23, 4, 3, 0) := by decide +kernel
theorem q43_59 : c_q 43 59 = some (.aload_n 0, 0, 0, 0) := by decide +kernel
theorem q43_60 : c_q 43 60 = some (.aload_n 0, 0, 0, 0) := by decide +kernel
theorem q43_61 : c_q 43 61 = some (.getfield 19, 4, 2, 0) := by decide +kernel
theorem q43_64 : c_q 43 64 = some (.iconst 1, 0, 0, 0) := by decide +kernel
theorem q43_65 : c_q 43 65 = some (.iadd, 0, 0, 0) := by decide +kernel
theorem q43_66 : c_q 43 66 = some (.bipush (8), 0, 0, 0) := by decide +kernel
theorem q43_68 : c_q 43 68 = some (.invokestatic 46, 0, 0, 8) := by decide +kernel
theorem q43_71 : c_q 43 71 = some (.putfield 19, 4, 2, 0) := by decide +kernel
theorem q43_74 : c_q 43 74 = some (.return_, 0, 0, 0) := by decide +kernel
theorem q44_0 : c_q 44 0 = some (.aload_n 0, 0, 0, 0) := by decide +kernel
theorem q44_1 : c_q 44 1 = some (.aload_n 0, 0, 0, 0) := by decide +kernel
theorem q44_2 : c_q 44 2 = some (.iconst 1, 0, 0, 0) := by decide +kernel
theorem q44_3 : c_q 44 3 = some (.invokevirtual 32, 41, 1, 2) := by decide +kernel
theorem q44_6 : c_q 44 6 = some (.putfield 23, 4, 3, 0) := by decide +kernel
theorem q44_9 : c_q 44 9 = some (.aload_n 0, 0, 0, 0) := by decide +kernel
theorem q44_10 : c_q 44 10 = some (.aload_n 0, 0, 0, 0) := by decide +kernel
theorem q44_11 : c_q 44 11 = some (.getfield 19, 4, 2, 0) := by decide +kernel
theorem q44_14 : c_q 44 14 = some (.iconst 1, 0, 0, 0) := by decide +kernel
theorem q44_15 : c_q 44 15 = some (.isub, 0, 0, 0) := by decide +kernel
theorem q44_16 : c_q 44 16 = some (.iconst 0, 0, 0, 0) := by decide +kernel
theorem q44_17 : c_q 44 17 = some (.invokestatic 49, 0, 0, 7) := by decide +kernel
theorem q44_20 : c_q 44 20 = some (.putfield 19, 4, 2, 0) := by decide +kernel
theorem q44_23 : c_q 44 23 = some (.aload_n 1, 0, 0, 0) := by decide +kernel
theorem q44_24 : c_q 44 24 = some (.aload_n 0, 0, 0, 0) := by decide +kernel
theorem q44_25 : c_q 44 25 = some (.getfield 11, 4, 0, 0) := by decide +kernel
theorem q44_28 : c_q 44 28 = some (.aload_n 0, 0, 0, 0) := by decide +kernel
theorem q44_29 : c_q 44 29 = some (.getfield 23, 4, 3, 0) := by decide +kernel
theorem q44_32 : c_q 44 32 = some (.aaload, 0, 0, 0) := by decide +kernel
theorem q44_33 : c_q 44 33 = some (.invokevirtual 52, 52, 1, 3) := by decide +kernel
theorem q44_36 : c_q 44 36 = some (.aload_n 1, 0, 0, 0) := by decide +kernel
theorem q44_37 : c_q 44 37 = some (.aload_n 0, 0, 0, 0) := by decide +kernel
theorem q44_38 : c_q 44 38 = some (.getfield 16, 4, 1, 0) := by decide +kernel
theorem q44_41 : c_q 44 41 = some (.aload_n 0, 0, 0, 0) := by decide +kernel
theorem q44_42 : c_q 44 42 = some (.getfield 23, 4, 3, 0) := by decide +kernel
theorem q44_45 : c_q 44 45 = some (.aaload, 0, 0, 0) := by decide +kernel
theorem q44_46 : c_q 44 46 = some (.invokevirtual 56, 53, 1, 3) := by decide +kernel
theorem q44_49 : c_q 44 49 = some (.return_, 0, 0, 0) := by decide +kernel
theorem q45_0 : c_q 45 0 = some (.aload_n 0, 0, 0, 0) := by decide +kernel
theorem q45_1 : c_q 45 1 = some (.invokespecial 3, 0, 0, 6) := by decide +kernel
theorem q45_4 : c_q 45 4 = some (.aload_n 0, 0, 0, 0) := by decide +kernel
theorem q45_5 : c_q 45 5 = some (.bipush (8), 0, 0, 0) := by decide +kernel
theorem q45_7 : c_q 45 7 = some (.bipush (6), 0, 0, 0) := by decide +kernel
theorem q45_9 : c_q 45 9 = some (.multianewarray 9 2, 0, 0, 0) := by decide +kernel
theorem q45_13 : c_q 45 13 = some (.putfield 11, 5, 0, 0) := by decide +kernel
theorem q45_16 : c_q 45 16 = some (.aload_n 0, 0, 0, 0) := by decide +kernel
theorem q45_17 : c_q 45 17 = some (.bipush (6), 0, 0, 0) := by decide +kernel
theorem q45_19 : c_q 45 19 = some (.newarray .int, 0, 0, 0) := by decide +kernel
theorem q45_21 : c_q 45 21 = some (.putfield 16, 5, 1, 0) := by decide +kernel
theorem q45_24 : c_q 45 24 = some (.return_, 0, 0, 0) := by decide +kernel
theorem q46_0 : c_q 46 0 = some (.aload_n 0, 0, 0, 0) := by decide +kernel
theorem q46_1 : c_q 46 1 = some (.getfield 16, 5, 1, 0) := by decide +kernel
theorem q46_4 : c_q 46 4 = some (.iconst 0, 0, 0, 0) := by decide +kernel
theorem q46_5 : c_q 46 5 = some (.invokestatic 20, 82, 2, 0) := by decide +kernel
theorem q46_8 : c_q 46 8 = some (.iconst 0, 0, 0, 0) := by decide +kernel
theorem q46_9 : c_q 46 9 = some (.istore_n 3, 0, 0, 0) := by decide +kernel
theorem q46_10 : c_q 46 10 = some (.iload_n 3, 0, 0, 0) := by decide +kernel
theorem q46_11 : c_q 46 11 = some (.iload_n 1, 0, 0, 0) := by decide +kernel
theorem q46_12 : c_q 46 12 = some (.if_icmp .gt (92), 104, 0, 0) := by decide +kernel
theorem q46_15 : c_q 46 15 = some (.iload_n 3, 0, 0, 0) := by decide +kernel
theorem q46_16 : c_q 46 16 = some (.bipush (8), 0, 0, 0) := by decide +kernel
theorem q46_18 : c_q 46 18 = some (.if_icmp .ge (86), 104, 0, 0) := by decide +kernel
theorem q46_21 : c_q 46 21 = some (.iconst 0, 0, 0, 0) := by decide +kernel
theorem q46_22 : c_q 46 22 = some (.istore 4, 0, 0, 0) := by decide +kernel
theorem q46_24 : c_q 46 24 = some (.iload 4, 0, 0, 0) := by decide +kernel
theorem q46_26 : c_q 46 26 = some (.iload_n 2, 0, 0, 0) := by decide +kernel
theorem q46_27 : c_q 46 27 = some (.if_icmp .gt (71), 98, 0, 0) := by decide +kernel
theorem q46_30 : c_q 46 30 = some (.iload 4, 0, 0, 0) := by decide +kernel
theorem q46_32 : c_q 46 32 = some (.bipush (6), 0, 0, 0) := by decide +kernel
theorem q46_34 : c_q 46 34 = some (.if_icmp .ge (64), 98, 0, 0) := by decide +kernel
theorem q46_37 : c_q 46 37 = some (.iload 4, 0, 0, 0) := by decide +kernel
theorem q46_39 : c_q 46 39 = some (.ifCond .le (25), 64, 0, 0) := by decide +kernel
theorem q46_42 : c_q 46 42 = some (.aload_n 0, 0, 0, 0) := by decide +kernel
theorem q46_43 : c_q 46 43 = some (.getfield 16, 5, 1, 0) := by decide +kernel
theorem q46_46 : c_q 46 46 = some (.iload 4, 0, 0, 0) := by decide +kernel
theorem q46_48 : c_q 46 48 = some (.iaload, 0, 0, 0) := by decide +kernel
theorem q46_49 : c_q 46 49 = some (.aload_n 0, 0, 0, 0) := by decide +kernel
theorem q46_50 : c_q 46 50 = some (.getfield 16, 5, 1, 0) := by decide +kernel
theorem q46_53 : c_q 46 53 = some (.iload 4, 0, 0, 0) := by decide +kernel
theorem q46_55 : c_q 46 55 = some (.iconst 1, 0, 0, 0) := by decide +kernel
theorem q46_56 : c_q 46 56 = some (.isub, 0, 0, 0) := by decide +kernel
theorem q46_57 : c_q 46 57 = some (.iaload, 0, 0, 0) := by decide +kernel
theorem q46_58 : c_q 46 58 = some (.invokestatic 26, 0, 0, 7) := by decide +kernel
theorem q46_61 : c_q 46 61 = some (.goto (10), 71, 0, 0) := by decide +kernel
theorem q46_64 : c_q 46 64 = some (.aload_n 0, 0, 0, 0) := by decide +kernel
theorem q46_65 : c_q 46 65 = some (.getfield 16, 5, 1, 0) := by decide +kernel
theorem q46_68 : c_q 46 68 = some (.iload 4, 0, 0, 0) := by decide +kernel
theorem q46_70 : c_q 46 70 = some (.iaload, 0, 0, 0) := by decide +kernel
theorem q46_71 : c_q 46 71 = some (.istore 5, 0, 0, 0) := by decide +kernel
theorem q46_73 : c_q 46 73 = some (.aload_n 0, 0, 0, 0) := by decide +kernel
theorem q46_74 : c_q 46 74 = some (.getfield 16, 5, 1, 0) := by decide +kernel
theorem q46_77 : c_q 46 77 = some (.iload 4, 0, 0, 0) := by decide +kernel
theorem q46_79 : c_q 46 79 = some (.iload 5, 0, 0, 0) := by decide +kernel
theorem q46_81 : c_q 46 81 = some (.aload_n 0, 0, 0, 0) := by decide +kernel
theorem q46_82 : c_q 46 82 = some (.getfield 11, 5, 0, 0) := by decide +kernel
theorem q46_85 : c_q 46 85 = some (.iload_n 3, 0, 0, 0) := by decide +kernel
theorem q46_86 : c_q 46 86 = some (.aaload, 0, 0, 0) := by decide +kernel
theorem q46_87 : c_q 46 87 = some (.iload 4, 0, 0, 0) := by decide +kernel
theorem q46_89 : c_q 46 89 = some (.iaload, 0, 0, 0) := by decide +kernel
theorem q46_90 : c_q 46 90 = some (.iadd, 0, 0, 0) := by decide +kernel
theorem q46_91 : c_q 46 91 = some (.iastore, 0, 0, 0) := by decide +kernel
theorem q46_92 : c_q 46 92 = some (.iinc 4 (1), 0, 0, 0) := by decide +kernel
theorem q46_95 : c_q 46 95 = some (.goto (-71), 24, 0, 0) := by decide +kernel
theorem q46_98 : c_q 46 98 = some (.iinc 3 (1), 0, 0, 0) := by decide +kernel
theorem q46_101 : c_q 46 101 = some (.goto (-91), 10, 0, 0) := by decide +kernel
theorem q46_104 : c_q 46 104 = some (.aload_n 0, 0, 0, 0) := by decide +kernel
theorem q46_105 : c_q 46 105 = some (.getfield 16, 5, 1, 0) := by decide +kernel
theorem q46_108 : c_q 46 108 = some (.iload_n 2, 0, 0, 0) := by decide +kernel
theorem q46_109 : c_q 46 109 = some (.iaload, 0, 0, 0) := by decide +kernel
theorem q46_110 : c_q 46 110 = some (.ireturn, 0, 0, 0) := by decide +kernel
theorem q47_0 : c_q 47 0 = some (.iconst 0, 0, 0, 0) := by decide +kernel
theorem q47_1 : c_q 47 1 = some (.istore_n 1, 0, 0, 0) := by decide +kernel
theorem q47_2 : c_q 47 2 = some (.iload_n 1, 0, 0, 0) := by decide +kernel
theorem q47_3 : c_q 47 3 = some (.bipush (8), 0, 0, 0) := by decide +kernel
theorem q47_5 : c_q 47 5 = some (.if_icmp .ge (40), 45, 0, 0) := by decide +kernel
theorem q47_8 : c_q 47 8 = some (.iconst 0, 0, 0, 0) := by decide +kernel
theorem q47_9 : c_q 47 9 = some (.istore_n 2, 0, 0, 0) := by decide +kernel
theorem q47_10 : c_q 47 10 = some (.iload_n 2, 0, 0, 0) := by decide +kernel
theorem q47_11 : c_q 47 11 = some (.bipush (6), 0, 0, 0) := by decide +kernel
theorem q47_13 : c_q 47 13 = some (.if_icmp .ge (26), 39, 0, 0) := by decide +kernel
theorem q47_16 : c_q 47 16 = some (.aload_n 0, 0, 0, 0) := by decide +kernel
theorem q47_17 : c_q 47 17 = some (.iload_n 1, 0, 0, 0) := by decide +kernel
theorem q47_18 : c_q 47 18 = some (.iload_n 2, 0, 0, 0) := by decide +kernel
theorem q47_19 : c_q 47 19 = some (.invokevirtual 32, 46, 2, 2) := by decide +kernel
theorem q47_22 : c_q 47 22 = some (.aload_n 0, 0, 0, 0) := by decide +kernel
theorem q47_23 : c_q 47 23 = some (.iload_n 1, 0, 0, 0) := by decide +kernel
theorem q47_24 : c_q 47 24 = some (.iload_n 2, 0, 0, 0) := by decide +kernel
theorem q47_25 : c_q 47 25 = some (.invokevirtual 35, 48, 2, 2) := by decide +kernel
theorem q47_28 : c_q 47 28 = some (.if_icmp .eq (5), 33, 0, 0) := by decide +kernel
theorem q47_31 : c_q 47 31 = some (.iconst 0, 0, 0, 0) := by decide +kernel
theorem q47_32 : c_q 47 32 = some (.ireturn, 0, 0, 0) := by decide +kernel
theorem q47_33 : c_q 47 33 = some (.iinc 2 (1), 0, 0, 0) := by decide +kernel
theorem q47_36 : c_q 47 36 = some (.goto (-26), 10, 0, 0) := by decide +kernel
theorem q47_39 : c_q 47 39 = some (.iinc 1 (1), 0, 0, 0) := by decide +kernel
theorem q47_42 : c_q 47 42 = some (.goto (-40), 2, 0, 0) := by decide +kernel
theorem q47_45 : c_q 47 45 = some (.iconst 1, 0, 0, 0) := by decide +kernel
theorem q47_46 : c_q 47 46 = some (.ireturn, 0, 0, 0) := by decide +kernel
theorem q48_0 : c_q 48 0 = some (.aload_n 0, 0, 0, 0) := by decide +kernel
theorem q48_1 : c_q 48 1 = some (.getfield 16, 5, 1, 0) := by decide +kernel
theorem q48_4 : c_q 48 4 = some (.iconst 0, 0, 0, 0) := by decide +kernel
theorem q48_5 : c_q 48 5 = some (.invokestatic 20, 82, 2, 0) := by decide +kernel
theorem q48_8 : c_q 48 8 = some (.iload_n 1, 0, 0, 0) := by decide +kernel
theorem q48_9 : c_q 48 9 = some (.istore_n 3, 0, 0, 0) := by decide +kernel
theorem q48_10 : c_q 48 10 = some (.iload_n 3, 0, 0, 0) := by decide +kernel
theorem q48_11 : c_q 48 11 = some (.ifCond .lt (79), 90, 0, 0) := by decide +kernel
theorem q48_14 : c_q 48 14 = some (.iload_n 2, 0, 0, 0) := by decide +kernel
theorem q48_15 : c_q 48 15 = some (.istore 4, 0, 0, 0) := by decide +kernel
theorem q48_17 : c_q 48 17 = some (.iload 4, 0, 0, 0) := by decide +kernel
theorem q48_19 : c_q 48 19 = some (.ifCond .lt (65), 84, 0, 0) := by decide +kernel
theorem q48_22 : c_q 48 22 = some (.iload 4, 0, 0, 0) := by decide +kernel
theorem q48_24 : c_q 48 24 = some (.iload_n 2, 0, 0, 0) := by decide +kernel
theorem q48_25 : c_q 48 25 = some (.if_icmp .ge (25), 50, 0, 0) := by decide +kernel
theorem q48_28 : c_q 48 28 = some (.aload_n 0, 0, 0, 0) := by decide +kernel
theorem q48_29 : c_q 48 29 = some (.getfield 16, 5, 1, 0) := by decide +kernel
theorem q48_32 : c_q 48 32 = some (.iload 4, 0, 0, 0) := by decide +kernel
theorem q48_34 : c_q 48 34 = some (.iaload, 0, 0, 0) := by decide +kernel
theorem q48_35 : c_q 48 35 = some (.aload_n 0, 0, 0, 0) := by decide +kernel
theorem q48_36 : c_q 48 36 = some (.getfield 16, 5, 1, 0) := by decide +kernel
theorem q48_39 : c_q 48 39 = some (.iload 4, 0, 0, 0) := by decide +kernel
theorem q48_41 : c_q 48 41 = some (.iconst 1, 0, 0, 0) := by decide +kernel
theorem q48_42 : c_q 48 42 = some (.iadd, 0, 0, 0) := by decide +kernel
theorem q48_43 : c_q 48 43 = some (.iaload, 0, 0, 0) := by decide +kernel
theorem q48_44 : c_q 48 44 = some (.invokestatic 26, 0, 0, 7) := by decide +kernel
theorem q48_47 : c_q 48 47 = some (.goto (10), 57, 0, 0) := by decide +kernel
theorem q48_50 : c_q 48 50 = some (.aload_n 0, 0, 0, 0) := by decide +kernel
theorem q48_51 : c_q 48 51 = some (.getfield 16, 5, 1, 0) := by decide +kernel
theorem q48_54 : c_q 48 54 = some (.iload 4, 0, 0, 0) := by decide +kernel
theorem q48_56 : c_q 48 56 = some (.iaload, 0, 0, 0) := by decide +kernel
theorem q48_57 : c_q 48 57 = some (.istore 5, 0, 0, 0) := by decide +kernel
theorem q48_59 : c_q 48 59 = some (.aload_n 0, 0, 0, 0) := by decide +kernel
theorem q48_60 : c_q 48 60 = some (.getfield 16, 5, 1, 0) := by decide +kernel
theorem q48_63 : c_q 48 63 = some (.iload 4, 0, 0, 0) := by decide +kernel
theorem q48_65 : c_q 48 65 = some (.iload 5, 0, 0, 0) := by decide +kernel
theorem q48_67 : c_q 48 67 = some (.aload_n 0, 0, 0, 0) := by decide +kernel
theorem q48_68 : c_q 48 68 = some (.getfield 11, 5, 0, 0) := by decide +kernel
theorem q48_71 : c_q 48 71 = some (.iload_n 3, 0, 0, 0) := by decide +kernel
theorem q48_72 : c_q 48 72 = some (.aaload, 0, 0, 0) := by decide +kernel
theorem q48_73 : c_q 48 73 = some (.iload 4, 0, 0, 0) := by decide +kernel
theorem q48_75 : c_q 48 75 = some (.iaload, 0, 0, 0) := by decide +kernel
theorem q48_76 : c_q 48 76 = some (.iadd, 0, 0, 0) := by decide +kernel
theorem q48_77 : c_q 48 77 = some (.iastore, 0, 0, 0) := by decide +kernel
theorem q48_78 : c_q 48 78 = some (.iinc 4 (-1), 0, 0, 0) := by decide +kernel
theorem q48_81 : c_q 48 81 = some (.goto (-64), 17, 0, 0) := by decide +kernel
theorem q48_84 : c_q 48 84 = some (.iinc 3 (-1), 0, 0, 0) := by decide +kernel
theorem q48_87 : c_q 48 87 = some (.goto (-77), 10, 0, 0) := by decide +kernel
theorem q48_90 : c_q 48 90 = some (.aload_n 0, 0, 0, 0) := by decide +kernel
theorem q48_91 : c_q 48 91 = some (.getfield 16, 5, 1, 0) := by decide +kernel
theorem q48_94 : c_q 48 94 = some (.iconst 0, 0, 0, 0) := by decide +kernel
theorem q48_95 : c_q 48 95 = some (.iaload, 0, 0, 0) := by decide +kernel
theorem q48_96 : c_q 48 96 = some (.ireturn, 0, 0, 0) := by decide +kernel
theorem q49_0 : c_q 49 0 = some (.aload_n 0, 0, 0, 0) := by decide +kernel
theorem q49_1 : c_q 49 1 = some (.invokespecial 3, 0, 0, 6) := by decide +kernel
theorem q49_4 : c_q 49 4 = some (.aload_n 0, 0, 0, 0) := by decide +kernel
theorem q49_5 : c_q 49 5 = some (.bipush (60), 0, 0, 0) := by decide +kernel
theorem q49_7 : c_q 49 7 = some (.newarray .int, 0, 0, 0) := by decide +kernel
theorem q49_9 : c_q 49 9 = some (.putfield 9, 6, 0, 0) := by decide +kernel
theorem q49_12 : c_q 49 12 = some (.aload_n 0, 0, 0, 0) := by decide +kernel
theorem q49_13 : c_q 49 13 = some (.bipush (60), 0, 0, 0) := by decide +kernel
theorem q49_15 : c_q 49 15 = some (.newarray .int, 0, 0, 0) := by decide +kernel
theorem q49_17 : c_q 49 17 = some (.putfield 15, 6, 1, 0) := by decide +kernel
theorem q49_20 : c_q 49 20 = some (.aload_n 0, 0, 0, 0) := by decide +kernel
theorem q49_21 : c_q 49 21 = some (.iconst 1, 0, 0, 0) := by decide +kernel
theorem q49_22 : c_q 49 22 = some (.putfield 18, 6, 2, 0) := by decide +kernel
theorem q49_25 : c_q 49 25 = some (.return_, 0, 0, 0) := by decide +kernel
theorem q50_0 : c_q 50 0 = some (.aload_n 0, 0, 0, 0) := by decide +kernel
theorem q50_1 : c_q 50 1 = some (.iconst 1, 0, 0, 0) := by decide +kernel
theorem q50_2 : c_q 50 2 = some (.iload_n 1, 0, 0, 0) := by decide +kernel
theorem q50_3 : c_q 50 3 = some (.bipush (60), 0, 0, 0) := by decide +kernel
theorem q50_5 : c_q 50 5 = some (.invokestatic 22, 0, 0, 8) := by decide +kernel
theorem q50_8 : c_q 50 8 = some (.invokestatic 28, 0, 0, 7) := by decide +kernel
theorem q50_11 : c_q 50 11 = some (.putfield 18, 6, 2, 0) := by decide +kernel
theorem q50_14 : c_q 50 14 = some (.aload_n 0, 0, 0, 0) := by decide +kernel
theorem q50_15 : c_q 50 15 = some (.iload_n 3, 0, 0, 0) := by decide +kernel
theorem q50_16 : c_q 50 16 = some (.putfield 31, 6, 3, 0) := by decide +kernel
theorem q50_19 : c_q 50 19 = some (.aload_n 0, 0, 0, 0) := by decide +kernel
theorem q50_20 : c_q 50 20 = some (.getfield 9, 6, 0, 0) := by decide +kernel
theorem q50_23 : c_q 50 23 = some (.iload_n 2, 0, 0, 0) := by decide +kernel
theorem q50_24 : c_q 50 24 = some (.invokestatic 35, 82, 2, 0) := by decide +kernel
theorem q50_27 : c_q 50 27 = some (.aload_n 0, 0, 0, 0) := by decide +kernel
theorem q50_28 : c_q 50 28 = some (.getfield 15, 6, 1, 0) := by decide +kernel
theorem q50_31 : c_q 50 31 = some (.iconst 0, 0, 0, 0) := by decide +kernel
theorem q50_32 : c_q 50 32 = some (.invokestatic 35, 82, 2, 0) := by decide +kernel
theorem q50_35 : c_q 50 35 = some (.return_, 0, 0, 0) := by decide +kernel
theorem q51_0 : c_q 51 0 = some (.aload_n 0, 0, 0, 0) := by decide +kernel
theorem q51_1 : c_q 51 1 = some (.aload_n 1, 0, 0, 0) := by decide +kernel
theorem q51_2 : c_q 51 2 = some (.getfield 18, 6, 2, 0) := by decide +kernel
theorem q51_5 : c_q 51 5 = some (.putfield 18, 6, 2, 0) := by decide +kernel
theorem q51_8 : c_q 51 8 = some (.aload_n 0, 0, 0, 0) := by decide +kernel
theorem q51_9 : c_q 51 9 = some (.aload_n 1, 0, 0, 0) := by decide +kernel
theorem q51_10 : c_q 51 10 = some (.getfield 31, 6, 3, 0) := by decide +kernel
theorem q51_13 : c_q 51 13 = some (.putfield 31, 6, 3, 0) := by decide +kernel
theorem q51_16 : c_q 51 16 = some (.aload_n 0, 0, 0, 0) := by decide +kernel
theorem q51_17 : c_q 51 17 = some (.aload_n 1, 0, 0, 0) := by decide +kernel
theorem q51_18 : c_q 51 18 = some (.getfield 9, 6, 0, 0) := by decide +kernel
theorem q51_21 : c_q 51 21 = some (.invokevirtual 41, 52, 1, 2) := by decide +kernel
theorem q51_24 : c_q 51 24 = some (.aload_n 0, 0, 0, 0) := by decide +kernel
theorem q51_25 : c_q 51 25 = some (.aload_n 1, 0, 0, 0) := by decide +kernel
theorem q51_26 : c_q 51 26 = some (.getfield 15, 6, 1, 0) := by decide +kernel
theorem q51_29 : c_q 51 29 = some (.invokevirtual 45, 53, 1, 2) := by decide +kernel
theorem q51_32 : c_q 51 32 = some (.return_, 0, 0, 0) := by decide +kernel
theorem q52_0 : c_q 52 0 = some (.iconst 0, 0, 0, 0) := by decide +kernel
theorem q52_1 : c_q 52 1 = some (.istore_n 2, 0, 0, 0) := by decide +kernel
theorem q52_2 : c_q 52 2 = some (.iload_n 2, 0, 0, 0) := by decide +kernel
theorem q52_3 : c_q 52 3 = some (.aload_n 0, 0, 0, 0) := by decide +kernel
theorem q52_4 : c_q 52 4 = some (.getfield 18, 6, 2, 0) := by decide +kernel
theorem q52_7 : c_q 52 7 = some (.if_icmp .ge (24), 31, 0, 0) := by decide +kernel
theorem q52_10 : c_q 52 10 = some (.iload_n 2, 0, 0, 0) := by decide +kernel
theorem q52_11 : c_q 52 11 = some (.aload_n 1, 0, 0, 0) := by decide +kernel
theorem q52_12 : c_q 52 12 = some (.arraylength, 0, 0, 0) := by decide +kernel
theorem q52_13 : c_q 52 13 = some (.if_icmp .ge (18), 31, 0, 0) := by decide +kernel
theorem q52_16 : c_q 52 16 = some (.aload_n 0, 0, 0, 0) := by decide +kernel
theorem q52_17 : c_q 52 17 = some (.getfield 9, 6, 0, 0) := by decide +kernel
theorem q52_20 : c_q 52 20 = some (.iload_n 2, 0, 0, 0) := by decide +kernel
theorem q52_21 : c_q 52 21 = some (.aload_n 1, 0, 0, 0) := by decide +kernel
theorem q52_22 : c_q 52 22 = some (.iload_n 2, 0, 0, 0) := by decide +kernel
theorem q52_23 : c_q 52 23 = some (.iaload, 0, 0, 0) := by decide +kernel
theorem q52_24 : c_q 52 24 = some (.iastore, 0, 0, 0) := by decide +kernel
theorem q52_25 : c_q 52 25 = some (.iinc 2 (1), 0, 0, 0) := by decide +kernel
theorem q52_28 : c_q 52 28 = some (.goto (-26), 2, 0, 0) := by decide +kernel
theorem q52_31 : c_q 52 31 = some (.return_, 0, 0, 0) := by decide +kernel
theorem q53_0 : c_q 53 0 = some (.iconst 0, 0, 0, 0) := by decide +kernel
theorem q53_1 : c_q 53 1 = some (.istore_n 2, 0, 0, 0) := by decide +kernel
theorem q53_2 : c_q 53 2 = some (.iload_n 2, 0, 0, 0) := by decide +kernel
theorem q53_3 : c_q 53 3 = some (.aload_n 0, 0, 0, 0) := by decide +kernel
theorem q53_4 : c_q 53 4 = some (.getfield 18, 6, 2, 0) := by decide +kernel
theorem q53_7 : c_q 53 7 = some (.if_icmp .ge (24), 31, 0, 0) := by decide +kernel
theorem q53_10 : c_q 53 10 = some (.iload_n 2, 0, 0, 0) := by decide +kernel
theorem q53_11 : c_q 53 11 = some (.aload_n 1, 0, 0, 0) := by decide +kernel
theorem q53_12 : c_q 53 12 = some (.arraylength, 0, 0, 0) := by decide +kernel
theorem q53_13 : c_q 53 13 = some (.if_icmp .ge (18), 31, 0, 0) := by decide +kernel
theorem q53_16 : c_q 53 16 = some (.aload_n 0, 0, 0, 0) := by decide +kernel
theorem q53_17 : c_q 53 17 = some (.getfield 15, 6, 1, 0) := by decide +kernel
theorem q53_20 : c_q 53 20 = some (.iload_n 2, 0, 0, 0) := by decide +kernel
theorem q53_21 : c_q 53 21 = some (.aload_n 1, 0, 0, 0) := by decide +kernel
theorem q53_22 : c_q 53 22 = some (.iload_n 2, 0, 0, 0) := by decide +kernel
theorem q53_23 : c_q 53 23 = some (.iaload, 0, 0, 0) := by decide +kernel
theorem q53_24 : c_q 53 24 = some (.iastore, 0, 0, 0) := by decide +kernel
theorem q53_25 : c_q 53 25 = some (.iinc 2 (1), 0, 0, 0) := by decide +kernel
theorem q53_28 : c_q 53 28 = some (.goto (-26), 2, 0, 0) := by decide +kernel
theorem q53_31 : c_q 53 31 = some (.return_, 0, 0, 0) := by decide +kernel
theorem q54_0 : c_q 54 0 = some (.iconst 0, 0, 0, 0) := by decide +kernel
theorem q54_1 : c_q 54 1 = some (.istore_n 2, 0, 0, 0) := by decide +kernel
theorem q54_2 : c_q 54 2 = some (.iload_n 2, 0, 0, 0) := by decide +kernel
theorem q54_3 : c_q 54 3 = some (.aload_n 0, 0, 0, 0) := by decide +kernel
theorem q54_4 : c_q 54 4 = some (.getfield 18, 6, 2, 0) := by decide +kernel
theorem q54_7 : c_q 54 7 = some (.if_icmp .ge (26), 33, 0, 0) := by decide +kernel
theorem q54_10 : c_q 54 10 = some (.aload_n 0, 0, 0, 0) := by decide +kernel
theorem q54_11 : c_q 54 11 = some (.getfield 15, 6, 1, 0) := by decide +kernel
theorem q54_14 : c_q 54 14 = some (.iload_n 2, 0, 0, 0) := by decide +kernel
theorem q54_15 : c_q 54 15 = some (.iaload, 0, 0, 0) := by decide +kernel
theorem q54_16 : c_q 54 16 = some (.aload_n 1, 0, 0, 0) := by decide +kernel
theorem q54_17 : c_q 54 17 = some (.getfield 15, 6, 1, 0) := by decide +kernel
theorem q54_20 : c_q 54 20 = some (.iload_n 2, 0, 0, 0) := by decide +kernel
theorem q54_21 : c_q 54 21 = some (.iaload, 0, 0, 0) := by decide +kernel
theorem q54_22 : c_q 54 22 = some (.if_icmp .eq (5), 27, 0, 0) := by decide +kernel
theorem q54_25 : c_q 54 25 = some (.iconst 0, 0, 0, 0) := by decide +kernel
theorem q54_26 : c_q 54 26 = some (.ireturn, 0, 0, 0) := by decide +kernel
theorem q54_27 : c_q 54 27 = some (.iinc 2 (1), 0, 0, 0) := by decide +kernel
theorem q54_30 : c_q 54 30 = some (.goto (-28), 2, 0, 0) := by decide +kernel
theorem q54_33 : c_q 54 33 = some (.iconst 1, 0, 0, 0) := by decide +kernel
theorem q54_34 : c_q 54 34 = some (.ireturn, 0, 0, 0) := by decide +kernel
theorem q55_0 : c_q 55 0 = some (.iconst 0, 0, 0, 0) := by decide +kernel
theorem q55_1 : c_q 55 1 = some (.istore_n 1, 0, 0, 0) := by decide +kernel
theorem q55_2 : c_q 55 2 = some (.iload_n 1, 0, 0, 0) := by decide +kernel
theorem q55_3 : c_q 55 3 = some (.aload_n 0, 0, 0, 0) := by decide +kernel
theorem q55_4 : c_q 55 4 = some (.getfield 18, 6, 2, 0) := by decide +kernel
theorem q55_7 : c_q 55 7 = some (.if_icmp .ge (21), 28, 0, 0) := by decide +kernel
theorem q55_10 : c_q 55 10 = some (.aload_n 0, 0, 0, 0) := by decide +kernel
theorem q55_11 : c_q 55 11 = some (.getfield 9, 6, 0, 0) := by decide +kernel
theorem q55_14 : c_q 55 14 = some (.iload_n 1, 0, 0, 0) := by decide +kernel
theorem q55_15 : c_q 55 15 = some (.iaload, 0, 0, 0) := by decide +kernel
theorem q55_16 : c_q 55 16 = some (.iconst 1, 0, 0, 0) := by decide +kernel
theorem q55_17 : c_q 55 17 = some (.if_icmp .eq (5), 22, 0, 0) := by decide +kernel
theorem q55_20 : c_q 55 20 = some (.iconst 0, 0, 0, 0) := by decide +kernel
theorem q55_21 : c_q 55 21 = some (.ireturn, 0, 0, 0) := by decide +kernel
theorem q55_22 : c_q 55 22 = some (.iinc 1 (1), 0, 0, 0) := by decide +kernel
theorem q55_25 : c_q 55 25 = some (.goto (-23), 2, 0, 0) := by decide +kernel
theorem q55_28 : c_q 55 28 = some (.iconst 1, 0, 0, 0) := by decide +kernel
theorem q55_29 : c_q 55 29 = some (.ireturn, 0, 0, 0) := by decide +kernel
theorem q56_0 : c_q 56 0 = some (.iconst 0, 0, 0, 0) := by decide +kernel
theorem q56_1 : c_q 56 1 = some (.istore_n 1, 0, 0, 0) := by decide +kernel
theorem q56_2 : c_q 56 2 = some (.iconst 0, 0, 0, 0) := by decide +kernel
theorem q56_3 : c_q 56 3 = some (.istore_n 2, 0, 0, 0) := by decide +kernel
theorem q56_4 : c_q 56 4 = some (.iload_n 2, 0, 0, 0) := by decide +kernel
theorem q56_5 : c_q 56 5 = some (.aload_n 0, 0, 0, 0) := by decide +kernel
theorem q56_6 : c_q 56 6 = some (.getfield 18, 6, 2, 0) := by decide +kernel
theorem q56_9 : c_q 56 9 = some (.if_icmp .ge (18), 27, 0, 0) := by decide +kernel
theorem q56_12 : c_q 56 12 = some (.iload_n 1, 0, 0, 0) := by decide +kernel
theorem q56_13 : c_q 56 13 = some (.aload_n 0, 0, 0, 0) := by decide +kernel
theorem q56_14 : c_q 56 14 = some (.getfield 15, 6, 1, 0) := by decide +kernel
theorem q56_17 : c_q 56 17 = some (.iload_n 2, 0, 0, 0) := by decide +kernel
theorem q56_18 : c_q 56 18 = some (.iaload, 0, 0, 0) := by decide +kernel
theorem q56_19 : c_q 56 19 = some (.iadd, 0, 0, 0) := by decide +kernel
theorem q56_20 : c_q 56 20 = some (.istore_n 1, 0, 0, 0) := by decide +kernel
theorem q56_21 : c_q 56 21 = some (.iinc 2 (1), 0, 0, 0) := by decide +kernel
theorem q56_24 : c_q 56 24 = some (.goto (-20), 4, 0, 0) := by decide +kernel
theorem q56_27 : c_q 56 27 = some (.iload_n 1, 0, 0, 0) := by decide +kernel
theorem q56_28 : c_q 56 28 = some (.ireturn, 0, 0, 0) := by decide +kernel
theorem q57_0 : c_q 57 0 = some (.iconst 0, 0, 0, 0) := by decide +kernel
theorem q57_1 : c_q 57 1 = some (.istore_n 1, 0, 0, 0) := by decide +kernel
theorem q57_2 : c_q 57 2 = some (.iconst 0, 0, 0, 0) := by decide +kernel
theorem q57_3 : c_q 57 3 = some (.istore_n 2, 0, 0, 0) := by decide +kernel
theorem q57_4 : c_q 57 4 = some (.iload_n 2, 0, 0, 0) := by decide +kernel
theorem q57_5 : c_q 57 5 = some (.aload_n 0, 0, 0, 0) := by decide +kernel
theorem q57_6 : c_q 57 6 = some (.getfield 18, 6, 2, 0) := by decide +kernel
theorem q57_9 : c_q 57 9 = some (.if_icmp .ge (21), 30, 0, 0) := by decide +kernel
theorem q57_12 : c_q 57 12 = some (.aload_n 0, 0, 0, 0) := by decide +kernel
theorem q57_13 : c_q 57 13 = some (.getfield 15, 6, 1, 0) := by decide +kernel
theorem q57_16 : c_q 57 16 = some (.iload_n 2, 0, 0, 0) := by decide +kernel
theorem q57_17 : c_q 57 17 = some (.iaload, 0, 0, 0) := by decide +kernel
theorem q57_18 : c_q 57 18 = some (.ifCond .le (6), 24, 0, 0) := by decide +kernel
theorem q57_21 : c_q 57 21 = some (.iinc 1 (1), 0, 0, 0) := by decide +kernel
theorem q57_24 : c_q 57 24 = some (.iinc 2 (1), 0, 0, 0) := by decide +kernel
theorem q57_27 : c_q 57 27 = some (.goto (-23), 4, 0, 0) := by decide +kernel
theorem q57_30 : c_q 57 30 = some (.iload_n 1, 0, 0, 0) := by decide +kernel
theorem q57_31 : c_q 57 31 = some (.ireturn, 0, 0, 0) := by decide +kernel
theorem q58_0 : c_q 58 0 = some (.aload_n 0, 0, 0, 0) := by decide +kernel
theorem q58_1 : c_q 58 1 = some (.invokespecial 3, 0, 0, 6) := by decide +kernel
theorem q58_4 : c_q 58 4 = some (.aload_n 0, 0, 0, 0) := by decide +kernel
theorem q58_5 : c_q 58 5 = some (.bipush (60), 0, 0, 0) := by decide +kernel
theorem q58_7 : c_q 58 7 = some (.newarray .int, 0, 0, 0) := by decide +kernel
theorem q58_9 : c_q 58 9 = some (.putfield 9, 7, 0, 0) := by decide +kernel
theorem q58_12 : c_q 58 12 = some (.aload_n 0, 0, 0, 0) := by decide +kernel
theorem q58_13 : c_q 58 13 = some (.bipush (60), 0, 0, 0) := by decide +kernel
theorem q58_15 : c_q 58 15 = some (.newarray .int, 0, 0, 0) := by decide +kernel
theorem q58_17 : c_q 58 17 = some (.putfield 15, 7, 1, 0) := by decide +kernel
theorem q58_20 : c_q 58 20 = some (.return_, 0, 0, 0) := by decide +kernel
theorem q59_0 : c_q 59 0 = some (.aload_n 0, 0, 0, 0) := by decide +kernel
theorem q59_1 : c_q 59 1 = some (.iconst 0, 0, 0, 0) := by decide +kernel
theorem q59_2 : c_q 59 2 = some (.putfield 18, 7, 2, 0) := by decide +kernel
theorem q59_5 : c_q 59 5 = some (.iconst 0, 0, 0, 0) := by decide +kernel
theorem q59_6 : c_q 59 6 = some (.istore_n 3, 0, 0, 0) := by decide +kernel
theorem q59_7 : c_q 59 7 = some (.iload_n 3, 0, 0, 0) := by decide +kernel
theorem q59_8 : c_q 59 8 = some (.aload_n 1, 0, 0, 0) := by decide +kernel
theorem q59_9 : c_q 59 9 = some (.getfield 22, 6, 2, 1) := by decide +kernel
theorem q59_12 : c_q 59 12 = some (.if_icmp .ge (38), 50, 0, 0) := by decide +kernel
theorem q59_15 : c_q 59 15 = some (.aload_n 1, 0, 0, 0) := by decide +kernel
theorem q59_16 : c_q 59 16 = some (.getfield 27, 6, 1, 1) := by decide +kernel
theorem q59_19 : c_q 59 19 = some (.iload_n 3, 0, 0, 0) := by decide +kernel
theorem q59_20 : c_q 59 20 = some (.iaload, 0, 0, 0) := by decide +kernel
theorem q59_21 : c_q 59 21 = some (.ifCond .le (23), 44, 0, 0) := by decide +kernel
theorem q59_24 : c_q 59 24 = some (.aload_n 0, 0, 0, 0) := by decide +kernel
theorem q59_25 : c_q 59 25 = some (.getfield 9, 7, 0, 0) := by decide +kernel
theorem q59_28 : c_q 59 28 = some (.aload_n 0, 0, 0, 0) := by decide +kernel
theorem q59_29 : c_q 59 29 = some (.getfield 18, 7, 2, 0) := by decide +kernel
theorem q59_32 : c_q 59 32 = some (.iload_n 3, 0, 0, 0) := by decide +kernel
theorem q59_33 : c_q 59 33 = some (.iastore, 0, 0, 0) := by decide +kernel
theorem q59_34 : c_q 59 34 = some (.aload_n 0, 0, 0, 0) := by decide +kernel
theorem q59_35 : c_q 59 35 = some (.dup, 0, 0, 0) := by decide +kernel
theorem q59_36 : c_q 59 36 = some (.getfield 18, 7, 2, 0) := by decide +kernel
theorem q59_39 : c_q 59 39 = some (.iconst 1, 0, 0, 0) := by decide +kernel
theorem q59_40 : c_q 59 40 = some (.iadd, 0, 0, 0) := by decide +kernel
theorem q59_41 : c_q 59 41 = some (.putfield 18, 7, 2, 0) := by decide +kernel
theorem q59_44 : c_q 59 44 = some (.iinc 3 (1), 0, 0, 0) := by decide +kernel
theorem q59_47 : c_q 59 47 = some (.goto (-40), 7, 0, 0) := by decide +kernel
theorem q59_50 : c_q 59 50 = some (.iconst 0, 0, 0, 0) := by decide +kernel
theorem q59_51 : c_q 59 51 = some (.istore_n 3, 0, 0, 0) := by decide +kernel
theorem q59_52 : c_q 59 52 = some (.iload_n 3, 0, 0, 0) := by decide +kernel
theorem q59_53 : c_q 59 53 = some (.iload_n 2, 0, 0, 0) := by decide +kernel
theorem q59_54 : c_q 59 54 = some (.if_icmp .ge (13), 67, 0, 0) := by decide +kernel
theorem q59_57 : c_q 59 57 = some (.aload_n 0, 0, 0, 0) := by decide +kernel
theorem q59_58 : c_q 59 58 = some (.invokevirtual 29, 60, 0, 2) := by decide +kernel
theorem q59_61 : c_q 59 61 = some (.iinc 3 (1), 0, 0, 0) := by decide +kernel
theorem q59_64 : c_q 59 64 = some (.goto (-12), 52, 0, 0) := by decide +kernel
theorem q59_67 : c_q 59 67 = some (.return_, 0, 0, 0) := by decide +kernel
theorem q60_0 : c_q 60 0 = some (.aload_n 0, 0, 0, 0) := by decide +kernel
theorem q60_1 : c_q 60 1 = some (.iconst 0, 0, 0, 0) := by decide +kernel
theorem q60_2 : c_q 60 2 = some (.putfield 32, 7, 3, 0) := by decide +kernel
theorem q60_5 : c_q 60 5 = some (.iconst 0, 0, 0, 0) := by decide +kernel
theorem q60_6 : c_q 60 6 = some (.istore_n 1, 0, 0, 0) := by decide +kernel
theorem q60_7 : c_q 60 7 = some (.iload_n 1, 0, 0, 0) := by decide +kernel
theorem q60_8 : c_q 60 8 = some (.aload_n 0, 0, 0, 0) := by decide +kernel
theorem q60_9 : c_q 60 9 = some (.getfield 18, 7, 2, 0) := by decide +kernel
theorem q60_12 : c_q 60 12 = some (.if_icmp .ge (80), 92, 0, 0) := by decide +kernel
theorem q60_15 : c_q 60 15 = some (.iload_n 1, 0, 0, 0) := by decide +kernel
theorem q60_16 : c_q 60 16 = some (.aload_n 0, 0, 0, 0) := by decide +kernel
theorem q60_17 : c_q 60 17 = some (.getfield 18, 7, 2, 0) := by decide +kernel
theorem q60_20 : c_q 60 20 = some (.iconst 1, 0, 0, 0) := by decide +kernel
theorem q60_21 : c_q 60 21 = some (.isub, 0, 0, 0) := by decide +kernel
theorem q60_22 : c_q 60 22 = some (.if_icmp .ne (7), 29, 0, 0) := by decide +kernel
theorem q60_25 : c_q 60 25 = some (.iconst 1, 0, 0, 0) := by decide +kernel
theorem q60_26 : c_q 60 26 = some (.goto (4), 30, 0, 0) := by decide +kernel
theorem q60_29 : c_q 60 29 = some (.iconst 0, 0, 0, 0) := by decide +kernel
theorem q60_30 : c_q 60 30 = some (.istore_n 2, 0, 0, 0) := by decide +kernel
theorem q60_31 : c_q 60 31 = some (.iload_n 2, 0, 0, 0) := by decide +kernel
theorem q60_32 : c_q 60 32 = some (.ifCond .eq (8), 40, 0, 0) := by decide +kernel
theorem q60_35 : c_q 60 35 = some (.bipush (60), 0, 0, 0) := by decide +kernel
theorem q60_37 : c_q 60 37 = some (.goto (20), 57, 0, 0) := by decide +kernel
theorem q60_40 : c_q 60 40 = some (.aload_n 0, 0, 0, 0) := by decide +kernel
theorem q60_41 : c_q 60 41 = some (.getfield 9, 7, 0, 0) := by decide +kernel
theorem q60_44 : c_q 60 44 = some (.iload_n 1, 0, 0, 0) := by decide +kernel
theorem q60_45 : c_q 60 45 = some (.iconst 1, 0, 0, 0) := by decide +kernel
theorem q60_46 : c_q 60 46 = some (.iadd, 0, 0, 0) := by decide +kernel
theorem q60_47 : c_q 60 47 = some (.iaload, 0, 0, 0) := by decide +kernel
theorem q60_48 : c_q 60 48 = some (.aload_n 0, 0, 0, 0) := by decide +kernel
theorem q60_49 : c_q 60 49 = some (.getfield 9, 7, 0, 0) := by decide +kernel
theorem q60_52 : c_q 60 52 = some (.iload_n 1, 0, 0, 0) := by decide +kernel
theorem q60_53 : c_q 60 53 = some (.iaload, 0, 0, 0) := by decide +kernel
theorem q60_54 : c_q 60 54 = some (.isub, 0, 0, 0) := by decide +kernel
theorem q60_55 : c_q 60 55 = some (.iconst 1, 0, 0, 0) := by decide +kernel
theorem q60_56 : c_q 60 56 = some (.isub, 0, 0, 0) := by decide +kernel
theorem q60_57 : c_q 60 57 = some (.istore_n 3, 0, 0, 0) := by decide +kernel
theorem q60_58 : c_q 60 58 = some (.iload_n 1, 0, 0, 0) := by decide +kernel
theorem q60_59 : c_q 60 59 = some (.iconst 1, 0, 0, 0) := by decide +kernel
theorem q60_60 : c_q 60 60 = some (.iadd, 0, 0, 0) := by decide +kernel
theorem q60_61 : c_q 60 61 = some (.aload_n 0, 0, 0, 0) := by decide +kernel
theorem q60_62 : c_q 60 62 = some (.getfield 32, 7, 3, 0) := by decide +kernel
theorem q60_65 : c_q 60 65 = some (.isub, 0, 0, 0) := by decide +kernel
theorem q60_66 : c_q 60 66 = some (.istore 4, 0, 0, 0) := by decide +kernel
theorem q60_68 : c_q 60 68 = some (.aload_n 0, 0, 0, 0) := by decide +kernel
theorem q60_69 : c_q 60 69 = some (.aload_n 0, 0, 0, 0) := by decide +kernel
theorem q60_70 : c_q 60 70 = some (.getfield 9, 7, 0, 0) := by decide +kernel
theorem q60_73 : c_q 60 73 = some (.iload_n 1, 0, 0, 0) := by decide +kernel
theorem q60_74 : c_q 60 74 = some (.iaload, 0, 0, 0) := by decide +kernel
theorem q60_75 : c_q 60 75 = some (.iconst 1, 0, 0, 0) := by decide +kernel
theorem q60_76 : c_q 60 76 = some (.iadd, 0, 0, 0) := by decide +kernel
theorem q60_77 : c_q 60 77 = some (.iload 4, 0, 0, 0) := by decide +kernel
theorem q60_79 : c_q 60 79 = some (.iload_n 3, 0, 0, 0) := by decide +kernel
theorem q60_80 : c_q 60 80 = some (.invokestatic 35, 0, 0, 8) := by decide +kernel
theorem q60_83 : c_q 60 83 = some (.invokevirtual 41, 61, 2, 2) := by decide +kernel
theorem q60_86 : c_q 60 86 = some (.iinc 1 (1), 0, 0, 0) := by decide +kernel
theorem q60_89 : c_q 60 89 = some (.goto (-82), 7, 0, 0) := by decide +kernel
theorem q60_92 : c_q 60 92 = some (.iconst 0, 0, 0, 0) := by decide +kernel
theorem q60_93 : c_q 60 93 = some (.istore_n 1, 0, 0, 0) := by decide +kernel
theorem q60_94 : c_q 60 94 = some (.iload_n 1, 0, 0, 0) := by decide +kernel
theorem q60_95 : c_q 60 95 = some (.aload_n 0, 0, 0, 0) := by decide +kernel
theorem q60_96 : c_q 60 96 = some (.getfield 18, 7, 2, 0) := by decide +kernel
theorem q60_99 : c_q 60 99 = some (.if_icmp .ge (21), 120, 0, 0) := by decide +kernel
theorem q60_102 : c_q 60 102 = some (.aload_n 0, 0, 0, 0) := by decide +kernel
theorem q60_103 : c_q 60 103 = some (.getfield 9, 7, 0, 0) := by decide +kernel
theorem q60_106 : c_q 60 106 = some (.iload_n 1, 0, 0, 0) := by decide +kernel
theorem q60_107 : c_q 60 107 = some (.aload_n 0, 0, 0, 0) := by decide +kernel
theorem q60_108 : c_q 60 108 = some (.getfield 15, 7, 1, 0) := by decide +kernel
theorem q60_111 : c_q 60 111 = some (.iload_n 1, 0, 0, 0) := by decide +kernel
theorem q60_112 : c_q 60 112 = some (.iaload, 0, 0, 0) := by decide +kernel
theorem q60_113 : c_q 60 113 = some (.iastore, 0, 0, 0) := by decide +kernel
theorem q60_114 : c_q 60 114 = some (.iinc 1 (1), 0, 0, 0) := by decide +kernel
theorem q60_117 : c_q 60 117 = some (.goto (-23), 94, 0, 0) := by decide +kernel
theorem q60_120 : c_q 60 120 = some (.return_, 0, 0, 0) := by decide +kernel
theorem q61_0 : c_q 61 0 = some (.iconst 0, 0, 0, 0) := by decide +kernel
theorem q61_1 : c_q 61 1 = some (.istore_n 3, 0, 0, 0) := by decide +kernel
theorem q61_2 : c_q 61 2 = some (.iload_n 3, 0, 0, 0) := by decide +kernel
theorem q61_3 : c_q 61 3 = some (.iload_n 2, 0, 0, 0) := by decide +kernel
theorem q61_4 : c_q 61 4 = some (.if_icmp .ge (40), 44, 0, 0) := by decide +kernel
theorem q61_7 : c_q 61 7 = some (.aload_n 0, 0, 0, 0) := by decide +kernel
theorem q61_8 : c_q 61 8 = some (.getfield 32, 7, 3, 0) := by decide +kernel
theorem q61_11 : c_q 61 11 = some (.bipush (60), 0, 0, 0) := by decide +kernel
theorem q61_13 : c_q 61 13 = some (.if_icmp .ge (31), 44, 0, 0) := by decide +kernel
theorem q61_16 : c_q 61 16 = some (.aload_n 0, 0, 0, 0) := by decide +kernel
theorem q61_17 : c_q 61 17 = some (.getfield 15, 7, 1, 0) := by decide +kernel
theorem q61_20 : c_q 61 20 = some (.aload_n 0, 0, 0, 0) := by decide +kernel
theorem q61_21 : c_q 61 21 = some (.getfield 32, 7, 3, 0) := by decide +kernel
theorem q61_24 : c_q 61 24 = some (.iload_n 1, 0, 0, 0) := by decide +kernel
theorem q61_25 : c_q 61 25 = some (.iload_n 3, 0, 0, 0) := by decide +kernel
theorem q61_26 : c_q 61 26 = some (.iadd, 0, 0, 0) := by decide +kernel
theorem q61_27 : c_q 61 27 = some (.iastore, 0, 0, 0) := by decide +kernel
theorem q61_28 : c_q 61 28 = some (.aload_n 0, 0, 0, 0) := by decide +kernel
theorem q61_29 : c_q 61 29 = some (.dup, 0, 0, 0) := by decide +kernel
theorem q61_30 : c_q 61 30 = some (.getfield 32, 7, 3, 0) := by decide +kernel
theorem q61_33 : c_q 61 33 = some (.iconst 1, 0, 0, 0) := by decide +kernel
theorem q61_34 : c_q 61 34 = some (.iadd, 0, 0, 0) := by decide +kernel
theorem q61_35 : c_q 61 35 = some (.putfield 32, 7, 3, 0) := by decide +kernel
theorem q61_38 : c_q 61 38 = some (.iinc 3 (1), 0, 0, 0) := by decide +kernel
theorem q61_41 : c_q 61 41 = some (.goto (-39), 2, 0, 0) := by decide +kernel
theorem q61_44 : c_q 61 44 = some (.return_, 0, 0, 0) := by decide +kernel
theorem q62_0 : c_q 62 0 = some (.iload_n 1, 0, 0, 0) := by decide +kernel
theorem q62_1 : c_q 62 1 = some (.ifCond .eq (22), 23, 0, 0) := by decide +kernel
theorem q62_4 : c_q 62 4 = some (.aload_n 0, 0, 0, 0) := by decide +kernel
theorem q62_5 : c_q 62 5 = some (.getfield 9, 7, 0, 0) := by decide +kernel
theorem q62_8 : c_q 62 8 = some (.iload_n 1, 0, 0, 0) := by decide +kernel
theorem q62_9 : c_q 62 9 = some (.iaload, 0, 0, 0) := by decide +kernel
theorem q62_10 : c_q 62 10 = some (.aload_n 0, 0, 0, 0) := by decide +kernel
theorem q62_11 : c_q 62 11 = some (.getfield 9, 7, 0, 0) := by decide +kernel
theorem q62_14 : c_q 62 14 = some (.iload_n 1, 0, 0, 0) := by decide +kernel
theorem q62_15 : c_q 62 15 = some (.iconst 1, 0, 0, 0) := by decide +kernel
theorem q62_16 : c_q 62 16 = some (.isub, 0, 0, 0) := by decide +kernel
theorem q62_17 : c_q 62 17 = some (.iaload, 0, 0, 0) := by decide +kernel
theorem q62_18 : c_q 62 18 = some (.iconst 1, 0, 0, 0) := by decide +kernel
theorem q62_19 : c_q 62 19 = some (.iadd, 0, 0, 0) := by decide +kernel
theorem q62_20 : c_q 62 20 = some (.if_icmp .le (7), 27, 0, 0) := by decide +kernel
theorem q62_23 : c_q 62 23 = some (.iconst 1, 0, 0, 0) := by decide +kernel
theorem q62_24 : c_q 62 24 = some (.goto (4), 28, 0, 0) := by decide +kernel
theorem q62_27 : c_q 62 27 = some (.iconst 0, 0, 0, 0) := by decide +kernel
theorem q62_28 : c_q 62 28 = some (.ireturn, 0, 0, 0) := by decide +kernel
theorem q63_0 : c_q 63 0 = some (.iconst 0, 0, 0, 0) := by decide +kernel
theorem q63_1 : c_q 63 1 = some (.istore_n 1, 0, 0, 0) := by decide +kernel
theorem q63_2 : c_q 63 2 = some (.iconst 0, 0, 0, 0) := by decide +kernel
theorem q63_3 : c_q 63 3 = some (.istore_n 2, 0, 0, 0) := by decide +kernel
theorem q63_4 : c_q 63 4 = some (.iload_n 2, 0, 0, 0) := by decide +kernel
theorem q63_5 : c_q 63 5 = some (.aload_n 0, 0, 0, 0) := by decide +kernel
theorem q63_6 : c_q 63 6 = some (.getfield 18, 7, 2, 0) := by decide +kernel
theorem q63_9 : c_q 63 9 = some (.if_icmp .ge (20), 29, 0, 0) := by decide +kernel
theorem q63_12 : c_q 63 12 = some (.aload_n 0, 0, 0, 0) := by decide +kernel
theorem q63_13 : c_q 63 13 = some (.iload_n 2, 0, 0, 0) := by decide +kernel
theorem q63_14 : c_q 63 14 = some (.invokevirtual 45, 62, 1, 2) := by decide +kernel
theorem q63_17 : c_q 63 17 = some (.ifCond .eq (6), 23, 0, 0) := by decide +kernel
theorem q63_20 : c_q 63 20 = some (.iinc 1 (1), 0, 0, 0) := by decide +kernel
theorem q63_23 : c_q 63 23 = some (.iinc 2 (1), 0, 0, 0) := by decide +kernel
theorem q63_26 : c_q 63 26 = some (.goto (-22), 4, 0, 0) := by decide +kernel
theorem q63_29 : c_q 63 29 = some (.iload_n 1, 0, 0, 0) := by decide +kernel
theorem q63_30 : c_q 63 30 = some (.ireturn, 0, 0, 0) := by decide +kernel
theorem q64_0 : c_q 64 0 = some (.iconst 0, 0, 0, 0) := by decide +kernel
theorem q64_1 : c_q 64 1 = some (.istore_n 2, 0, 0, 0) := by decide +kernel
theorem q64_2 : c_q 64 2 = some (.iconst 0, 0, 0, 0) := by decide +kernel
theorem q64_3 : c_q 64 3 = some (.istore_n 3, 0, 0, 0) := by decide +kernel
theorem q64_4 : c_q 64 4 = some (.iload_n 3, 0, 0, 0) := by decide +kernel
theorem q64_5 : c_q 64 5 = some (.aload_n 0, 0, 0, 0) := by decide +kernel
theorem q64_6 : c_q 64 6 = some (.getfield 18, 7, 2, 0) := by decide +kernel
theorem q64_9 : c_q 64 9 = some (.if_icmp .ge (27), 36, 0, 0) := by decide +kernel
theorem q64_12 : c_q 64 12 = some (.aload_n 0, 0, 0, 0) := by decide +kernel
theorem q64_13 : c_q 64 13 = some (.iload_n 3, 0, 0, 0) := by decide +kernel
theorem q64_14 : c_q 64 14 = some (.invokevirtual 45, 62, 1, 2) := by decide +kernel
theorem q64_17 : c_q 64 17 = some (.ifCond .eq (13), 30, 0, 0) := by decide +kernel
theorem q64_20 : c_q 64 20 = some (.iload_n 2, 0, 0, 0) := by decide +kernel
theorem q64_21 : c_q 64 21 = some (.iload_n 1, 0, 0, 0) := by decide +kernel
theorem q64_22 : c_q 64 22 = some (.if_icmp .ne (5), 27, 0, 0) := by decide +kernel
theorem q64_25 : c_q 64 25 = some (.iload_n 3, 0, 0, 0) := by decide +kernel
theorem q64_26 : c_q 64 26 = some (.ireturn, 0, 0, 0) := by decide +kernel
theorem q64_27 : c_q 64 27 = some (.iinc 2 (1), 0, 0, 0) := by decide +kernel
theorem q64_30 : c_q 64 30 = some (.iinc 3 (1), 0, 0, 0) := by decide +kernel
theorem q64_33 : c_q 64 33 = some (.goto (-29), 4, 0, 0) := by decide +kernel
theorem q64_36 : c_q 64 36 = some (.iconst (-1), 0, 0, 0) := by decide +kernel
theorem q64_37 : c_q 64 37 = some (.ireturn, 0, 0, 0) := by decide +kernel
theorem q65_0 : c_q 65 0 = some (.iload_n 1, 0, 0, 0) := by decide +kernel
theorem q65_1 : c_q 65 1 = some (.iconst 1, 0, 0, 0) := by decide +kernel
theorem q65_2 : c_q 65 2 = some (.iadd, 0, 0, 0) := by decide +kernel
theorem q65_3 : c_q 65 3 = some (.istore_n 2, 0, 0, 0) := by decide +kernel
theorem q65_4 : c_q 65 4 = some (.iload_n 2, 0, 0, 0) := by decide +kernel
theorem q65_5 : c_q 65 5 = some (.aload_n 0, 0, 0, 0) := by decide +kernel
theorem q65_6 : c_q 65 6 = some (.getfield 18, 7, 2, 0) := by decide +kernel
theorem q65_9 : c_q 65 9 = some (.if_icmp .ge (17), 26, 0, 0) := by decide +kernel
theorem q65_12 : c_q 65 12 = some (.aload_n 0, 0, 0, 0) := by decide +kernel
theorem q65_13 : c_q 65 13 = some (.iload_n 2, 0, 0, 0) := by decide +kernel
theorem q65_14 : c_q 65 14 = some (.invokevirtual 45, 62, 1, 2) := by decide +kernel
theorem q65_17 : c_q 65 17 = some (.ifCond .ne (9), 26, 0, 0) := by decide +kernel
theorem q65_20 : c_q 65 20 = some (.iinc 2 (1), 0, 0, 0) := by decide +kernel
theorem q65_23 : c_q 65 23 = some (.goto (-19), 4, 0, 0) := by decide +kernel
theorem q65_26 : c_q 65 26 = some (.iload_n 2, 0, 0, 0) := by decide +kernel
theorem q65_27 : c_q 65 27 = some (.iload_n 1, 0, 0, 0) := by decide +kernel
theorem q65_28 : c_q 65 28 = some (.isub, 0, 0, 0) := by decide +kernel
theorem q65_29 : c_q 65 29 = some (.ireturn, 0, 0, 0) := by decide +kernel
theorem q66_0 : c_q 66 0 = some (.aload_n 0, 0, 0, 0) := by decide +kernel
theorem q66_1 : c_q 66 1 = some (.invokespecial 1, 0, 0, 6) := by decide +kernel
theorem q66_4 : c_q 66 4 = some (.aload_n 0, 0, 0, 0) := by decide +kernel
theorem q66_5 : c_q 66 5 = some (.iconst 3, 0, 0, 0) := by decide +kernel
theorem q66_6 : c_q 66 6 = some (.newarray .int, 0, 0, 0) := by decide +kernel
theorem q66_8 : c_q 66 8 = some (.putfield 7, 8, 0, 0) := by decide +kernel
theorem q66_11 : c_q 66 11 = some (.aload_n 0, 0, 0, 0) := by decide +kernel
theorem q66_12 : c_q 66 12 = some (.iconst 3, 0, 0, 0) := by decide +kernel
theorem q66_13 : c_q 66 13 = some (.newarray .int, 0, 0, 0) := by decide +kernel
theorem q66_15 : c_q 66 15 = some (.putfield 13, 8, 1, 0) := by decide +kernel
theorem q66_18 : c_q 66 18 = some (.return_, 0, 0, 0) := by decide +kernel
theorem q67_0 : c_q 67 0 = some (.aload_n 0, 0, 0, 0) := by decide +kernel
theorem q67_1 : c_q 67 1 = some (.invokespecial 3, 0, 0, 6) := by decide +kernel
theorem q67_4 : c_q 67 4 = some (.aload_n 0, 0, 0, 0) := by decide +kernel
theorem q67_5 : c_q 67 5 = some (.bipush (6), 0, 0, 0) := by decide +kernel
theorem q67_7 : c_q 67 7 = some (.newarray .int, 0, 0, 0) := by decide +kernel
theorem q67_9 : c_q 67 9 = some (.putfield 9, 9, 0, 0) := by decide +kernel
theorem q67_12 : c_q 67 12 = some (.return_, 0, 0, 0) := by decide +kernel
theorem q68_0 : c_q 68 0 = some (.ldc 7, 69069, 0, 0) := by decide +kernel
theorem q68_2 : c_q 68 2 = some (.iload_n 1, 0, 0, 0) := by decide +kernel
theorem q68_3 : c_q 68 3 = some (.aload_n 0, 0, 0, 0) := by decide +kernel
theorem q68_4 : c_q 68 4 = some (.arraylength, 0, 0, 0) := by decide +kernel
theorem q68_5 : c_q 68 5 = some (.if_icmp .ge (9), 14, 0, 0) := by decide +kernel
theorem q68_8 : c_q 68 8 = some (.aload_n 0, 0, 0, 0) := by decide +kernel
theorem q68_9 : c_q 68 9 = some (.iload_n 1, 0, 0, 0) := by decide +kernel
theorem q68_10 : c_q 68 10 = some (.iaload, 0, 0, 0) := by decide +kernel
theorem q68_11 : c_q 68 11 = some (.goto (4), 15, 0, 0) := by decide +kernel
theorem q68_14 : c_q 68 14 = some (.iconst 0, 0, 0, 0) := by decide +kernel
theorem q68_15 : c_q 68 15 = some (.sipush (1009), 0, 0, 0) := by decide +kernel
theorem q68_18 : c_q 68 18 = some (.iload_n 1, 0, 0, 0) := by decide +kernel
theorem q68_19 : c_q 68 19 = some (.imul, 0, 0, 0) := by decide +kernel
theorem q68_20 : c_q 68 20 = some (.iadd, 0, 0, 0) := by decide +kernel
theorem q68_21 : c_q 68 21 = some (.imul, 0, 0, 0) := by decide +kernel
theorem q68_22 : c_q 68 22 = some (.sipush (12345), 0, 0, 0) := by decide +kernel
theorem q68_25 : c_q 68 25 = some (.iadd, 0, 0, 0) := by decide +kernel
theorem q68_26 : c_q 68 26 = some (.istore_n 2, 0, 0, 0) := by decide +kernel
theorem q68_27 : c_q 68 27 = some (.iload_n 2, 0, 0, 0) := by decide +kernel
theorem q68_28 : c_q 68 28 = some (.iload_n 2, 0, 0, 0) := by decide +kernel
theorem q68_29 : c_q 68 29 = some (.bipush (13), 0, 0, 0) := by decide +kernel
theorem q68_31 : c_q 68 31 = some (.iushr, 0, 0, 0) := by decide +kernel
theorem q68_32 : c_q 68 32 = some (.ixor, 0, 0, 0) := by decide +kernel
theorem q68_33 : c_q 68 33 = some (.ldc 8, 1103515245, 0, 0) := by decide +kernel
theorem q68_35 : c_q 68 35 = some (.imul, 0, 0, 0) := by decide +kernel
theorem q68_36 : c_q 68 36 = some (.istore_n 2, 0, 0, 0) := by decide +kernel
theorem q68_37 : c_q 68 37 = some (.iload_n 2, 0, 0, 0) := by decide +kernel
theorem q68_38 : c_q 68 38 = some (.iload_n 2, 0, 0, 0) := by decide +kernel
theorem q68_39 : c_q 68 39 = some (.bipush (16), 0, 0, 0) := by decide +kernel
theorem q68_41 : c_q 68 41 = some (.iushr, 0, 0, 0) := by decide +kernel
theorem q68_42 : c_q 68 42 = some (.ixor, 0, 0, 0) := by decide +kernel
theorem q68_43 : c_q 68 43 = some (.ireturn, 0, 0, 0) := by decide +kernel
theorem q69_0 : c_q 69 0 = some (.aload_n 0, 0, 0, 0) := by decide +kernel
theorem q69_1 : c_q 69 1 = some (.iload_n 1, 0, 0, 0) := by decide +kernel
theorem q69_2 : c_q 69 2 = some (.iload_n 2, 0, 0, 0) := by decide +kernel
theorem q69_3 : c_q 69 3 = some (.iload_n 3, 0, 0, 0) := by decide +kernel
theorem q69_4 : c_q 69 4 = some (.invokevirtual 9, 1, 3, 2) := by decide +kernel
theorem q69_7 : c_q 69 7 = some (.ireturn, 0, 0, 0) := by decide +kernel
theorem q69_10 : c_q 69 10 = some (.ldc 17, 4294067295, 0, 0) := by decide +kernel
theorem q69_12 : c_q 69 12 = some (.ireturn, 0, 0, 0) := by decide +kernel
theorem q70_0 : c_q 70 0 = some (.aload_n 0, 0, 0, 0) := by decide +kernel
theorem q70_1 : c_q 70 1 = some (.iload_n 1, 0, 0, 0) := by decide +kernel
theorem q70_2 : c_q 70 2 = some (.iload_n 2, 0, 0, 0) := by decide +kernel
theorem q70_3 : c_q 70 3 = some (.invokevirtual 18, 2, 2, 2) := by decide +kernel
theorem q70_6 : c_q 70 6 = some (.ireturn, 0, 0, 0) := by decide +kernel
theorem q70_8 : c_q 70 8 = some (.ldc 17, 4294067295, 0, 0) := by decide +kernel
theorem q70_10 : c_q 70 10 = some (.ireturn, 0, 0, 0) := by decide +kernel
theorem q70_12 : c_q 70 12 = some (.ldc 24, 4294067294, 0, 0) := by decide +kernel
theorem q70_14 : c_q 70 14 = some (.ireturn, 0, 0, 0) := by decide +kernel
theorem q71_0 : c_q 71 0 = some (.aload_n 0, 0, 0, 0) := by decide +kernel
theorem q71_1 : c_q 71 1 = some (.iload_n 1, 0, 0, 0) := by decide +kernel
theorem q71_2 : c_q 71 2 = some (.iload_n 2, 0, 0, 0) := by decide +kernel
theorem q71_3 : c_q 71 3 = some (.invokevirtual 25, 3, 2, 2) := by decide +kernel
theorem q71_6 : c_q 71 6 = some (.ireturn, 0, 0, 0) := by decide +kernel
theorem q71_8 : c_q 71 8 = some (.ldc 17, 4294067295, 0, 0) := by decide +kernel
theorem q71_10 : c_q 71 10 = some (.ireturn, 0, 0, 0) := by decide +kernel
theorem q71_12 : c_q 71 12 = some (.ldc 24, 4294067294, 0, 0) := by decide +kernel
theorem q71_14 : c_q 71 14 = some (.ireturn, 0, 0, 0) := by decide +kernel
theorem q72_0 : c_q 72 0 = some (.aload_n 0, 0, 0, 0) := by decide +kernel
theorem q72_1 : c_q 72 1 = some (.iload_n 1, 0, 0, 0) := by decide +kernel
theorem q72_2 : c_q 72 2 = some (.invokevirtual 28, 4, 1, 2) := by decide +kernel
theorem q72_5 : c_q 72 5 = some (.ireturn, 0, 0, 0) := by decide +kernel
theorem q72_7 : c_q 72 7 = some (.ldc 17, 4294067295, 0, 0) := by decide +kernel
theorem q72_9 : c_q 72 9 = some (.ireturn, 0, 0, 0) := by decide +kernel
theorem q73_0 : c_q 73 0 = some (.aload_n 0, 0, 0, 0) := by decide +kernel
theorem q73_1 : c_q 73 1 = some (.iload_n 1, 0, 0, 0) := by decide +kernel
theorem q73_2 : c_q 73 2 = some (.invokevirtual 32, 6, 1, 2) := by decide +kernel
theorem q73_5 : c_q 73 5 = some (.ireturn, 0, 0, 0) := by decide +kernel
theorem q73_7 : c_q 73 7 = some (.ldc 17, 4294067295, 0, 0) := by decide +kernel
theorem q73_9 : c_q 73 9 = some (.ireturn, 0, 0, 0) := by decide +kernel
theorem q73_11 : c_q 73 11 = some (.ldc 24, 4294067294, 0, 0) := by decide +kernel
theorem q73_13 : c_q 73 13 = some (.ireturn, 0, 0, 0) := by decide +kernel
theorem q74_0 : c_q 74 0 = some (.aload_n 0, 0, 0, 0) := by decide +kernel
theorem q74_1 : c_q 74 1 = some (.iload_n 1, 0, 0, 0) := by decide +kernel
theorem q74_2 : c_q 74 2 = some (.invokevirtual 37, 7, 1, 2) := by decide +kernel
theorem q74_5 : c_q 74 5 = some (.ireturn, 0, 0, 0) := by decide +kernel
theorem q74_7 : c_q 74 7 = some (.ldc 17, 4294067295, 0, 0) := by decide +kernel
theorem q74_9 : c_q 74 9 = some (.ireturn, 0, 0, 0) := by decide +kernel
theorem q74_11 : c_q 74 11 = some (.ldc 24, 4294067294, 0, 0) := by decide +kernel
theorem q74_13 : c_q 74 13 = some (.ireturn, 0, 0, 0) := by decide +kernel
theorem q75_0 : c_q 75 0 = some (.aload_n 0, 0, 0, 0) := by decide +kernel
theorem q75_1 : c_q 75 1 = some (.iload_n 1, 0, 0, 0) := by decide +kernel
theorem q75_2 : c_q 75 2 = some (.iload_n 2, 0, 0, 0) := by decide +kernel
theorem q75_3 : c_q 75 3 = some (.invokevirtual 40, 8, 2, 2) := by decide +kernel
theorem q75_6 : c_q 75 6 = some (.ireturn, 0, 0, 0) := by decide +kernel
theorem q75_8 : c_q 75 8 = some (.ldc 17, 4294067295, 0, 0) := by decide +kernel
theorem q75_10 : c_q 75 10 = some (.ireturn, 0, 0, 0) := by decide +kernel
theorem q76_0 : c_q 76 0 = some (.aload_n 0, 0, 0, 0) := by decide +kernel
theorem q76_1 : c_q 76 1 = some (.iload_n 1, 0, 0, 0) := by decide +kernel
theorem q76_2 : c_q 76 2 = some (.iload_n 2, 0, 0, 0) := by decide +kernel
theorem q76_3 : c_q 76 3 = some (.invokevirtual 43, 10, 2, 2) := by decide +kernel
theorem q76_6 : c_q 76 6 = some (.ireturn, 0, 0, 0) := by decide +kernel
theorem q76_8 : c_q 76 8 = some (.ldc 17, 4294067295, 0, 0) := by decide +kernel
theorem q76_10 : c_q 76 10 = some (.ireturn, 0, 0, 0) := by decide +kernel
theorem q76_12 : c_q 76 12 = some (.ldc 24, 4294067294, 0, 0) := by decide +kernel
theorem q76_14 : c_q 76 14 = some (.ireturn, 0, 0, 0) := by decide +kernel
theorem q77_0 : c_q 77 0 = some (.aload_n 0, 0, 0, 0) := by decide +kernel
theorem q77_1 : c_q 77 1 = some (.invokevirtual 48, 11, 0, 2) := by decide +kernel
theorem q77_4 : c_q 77 4 = some (.ireturn, 0, 0, 0) := by decide +kernel
theorem q77_6 : c_q 77 6 = some (.ldc 17, 4294067295, 0, 0) := by decide +kernel
theorem q77_8 : c_q 77 8 = some (.ireturn, 0, 0, 0) := by decide +kernel
theorem q78_0 : c_q 78 0 = some (.aload_n 0, 0, 0, 0) := by decide +kernel
theorem q78_1 : c_q 78 1 = some (.iload_n 1, 0, 0, 0) := by decide +kernel
theorem q78_2 : c_q 78 2 = some (.invokestatic 52, 68, 2, 0) := by decide +kernel
theorem q78_5 : c_q 78 5 = some (.ldc 58, 2147483647, 0, 0) := by decide +kernel
theorem q78_7 : c_q 78 7 = some (.iand, 0, 0, 0) := by decide +kernel
theorem q78_8 : c_q 78 8 = some (.iload_n 2, 0, 0, 0) := by decide +kernel
theorem q78_9 : c_q 78 9 = some (.irem, 0, 0, 0) := by decide +kernel
theorem q78_10 : c_q 78 10 = some (.ireturn, 0, 0, 0) := by decide +kernel
theorem q79_0 : c_q 79 0 = some (.fload_n 0, 0, 0, 0) := by decide +kernel
theorem q79_1 : c_q 79 1 = some (.invokestatic 59, 80, 1, 0) := by decide +kernel
theorem q79_4 : c_q 79 4 = some (.ifCond .ne (8), 12, 0, 0) := by decide +kernel
theorem q79_7 : c_q 79 7 = some (.fload_n 0, 0, 0, 0) := by decide +kernel
theorem q79_8 : c_q 79 8 = some (.invokestatic 74, 0, 0, 10) := by decide +kernel
theorem q79_11 : c_q 79 11 = some (.ireturn, 0, 0, 0) := by decide +kernel
theorem q79_12 : c_q 79 12 = some (.ldc 77, 2143289344, 0, 0) := by decide +kernel
theorem q79_14 : c_q 79 14 = some (.ireturn, 0, 0, 0) := by decide +kernel
theorem q80_0 : c_q 80 0 = some (.fload_n 0, 0, 0, 0) := by decide +kernel
theorem q80_1 : c_q 80 1 = some (.fload_n 0, 0, 0, 0) := by decide +kernel
theorem q80_2 : c_q 80 2 = some (.fcmp .l, 0, 0, 0) := by decide +kernel
theorem q80_3 : c_q 80 3 = some (.ifCond .eq (7), 10, 0, 0) := by decide +kernel
theorem q80_6 : c_q 80 6 = some (.iconst 1, 0, 0, 0) := by decide +kernel
theorem q80_7 : c_q 80 7 = some (.goto (4), 11, 0, 0) := by decide +kernel
theorem q80_10 : c_q 80 10 = some (.iconst 0, 0, 0, 0) := by decide +kernel
theorem q80_11 : c_q 80 11 = some (.ireturn, 0, 0, 0) := by decide +kernel
theorem q81_0 : c_q 81 0 = some (.iload_n 0, 0, 0, 0) := by decide +kernel
theorem q81_1 : c_q 81 1 = some (.iload_n 1, 0, 0, 0) := by decide +kernel
theorem q81_2 : c_q 81 2 = some (.irem, 0, 0, 0) := by decide +kernel
theorem q81_3 : c_q 81 3 = some (.istore_n 2, 0, 0, 0) := by decide +kernel
theorem q81_4 : c_q 81 4 = some (.iload_n 0, 0, 0, 0) := by decide +kernel
theorem q81_5 : c_q 81 5 = some (.iload_n 1, 0, 0, 0) := by decide +kernel
theorem q81_6 : c_q 81 6 = some (.ixor, 0, 0, 0) := by decide +kernel
theorem q81_7 : c_q 81 7 = some (.ifCond .ge (11), 18, 0, 0) := by decide +kernel
theorem q81_10 : c_q 81 10 = some (.iload_n 2, 0, 0, 0) := by decide +kernel
theorem q81_11 : c_q 81 11 = some (.ifCond .eq (7), 18, 0, 0) := by decide +kernel
theorem q81_14 : c_q 81 14 = some (.iload_n 2, 0, 0, 0) := by decide +kernel
theorem q81_15 : c_q 81 15 = some (.iload_n 1, 0, 0, 0) := by decide +kernel
theorem q81_16 : c_q 81 16 = some (.iadd, 0, 0, 0) := by decide +kernel
theorem q81_17 : c_q 81 17 = some (.ireturn, 0, 0, 0) := by decide +kernel
theorem q81_18 : c_q 81 18 = some (.iload_n 2, 0, 0, 0) := by decide +kernel
theorem q81_19 : c_q 81 19 = some (.ireturn, 0, 0, 0) := by decide +kernel
theorem q82_0 : c_q 82 0 = some (.iconst 0, 0, 0, 0) := by decide +kernel
theorem q82_1 : c_q 82 1 = some (.istore_n 2, 0, 0, 0) := by decide +kernel
theorem q82_2 : c_q 82 2 = some (.aload_n 0, 0, 0, 0) := by decide +kernel
theorem q82_3 : c_q 82 3 = some (.arraylength, 0, 0, 0) := by decide +kernel
theorem q82_4 : c_q 82 4 = some (.istore_n 3, 0, 0, 0) := by decide +kernel
theorem q82_5 : c_q 82 5 = some (.iload_n 2, 0, 0, 0) := by decide +kernel
theorem q82_6 : c_q 82 6 = some (.iload_n 3, 0, 0, 0) := by decide +kernel
theorem q82_7 : c_q 82 7 = some (.if_icmp .ge (13), 20, 0, 0) := by decide +kernel
theorem q82_10 : c_q 82 10 = some (.aload_n 0, 0, 0, 0) := by decide +kernel
theorem q82_11 : c_q 82 11 = some (.iload_n 2, 0, 0, 0) := by decide +kernel
theorem q82_12 : c_q 82 12 = some (.iload_n 1, 0, 0, 0) := by decide +kernel
theorem q82_13 : c_q 82 13 = some (.iastore, 0, 0, 0) := by decide +kernel
theorem q82_14 : c_q 82 14 = some (.iinc 2 (1), 0, 0, 0) := by decide +kernel
theorem q82_17 : c_q 82 17 = some (.goto (-12), 5, 0, 0) := by decide +kernel
theorem q82_20 : c_q 82 20 = some (.return_, 0, 0, 0) := by decide +kernel
theorem q83_0 : c_q 83 0 = some (.new 10, 10, 0, 0) := by decide +kernel
theorem q83_3 : c_q 83 3 = some (.dup, 0, 0, 0) := by decide +kernel
theorem q83_4 : c_q 83 4 = some (.invokespecial 59, 0, 0, 4) := by decide +kernel
theorem q83_7 : c_q 83 7 = some (.astore_n 1, 0, 0, 0) := by decide +kernel
theorem q83_8 : c_q 83 8 = some (.iconst 1, 0, 0, 0) := by decide +kernel
theorem q83_9 : c_q 83 9 = some (.aload_n 0, 0, 0, 0) := by decide +kernel
theorem q83_10 : c_q 83 10 = some (.iconst 0, 0, 0, 0) := by decide +kernel
theorem q83_11 : c_q 83 11 = some (.bipush (24), 0, 0, 0) := by decide +kernel
theorem q83_13 : c_q 83 13 = some (.invokestatic 60, 78, 3, 0) := by decide +kernel
theorem q83_16 : c_q 83 16 = some (.iadd, 0, 0, 0) := by decide +kernel
theorem q83_17 : c_q 83 17 = some (.istore_n 2, 0, 0, 0) := by decide +kernel
theorem q83_18 : c_q 83 18 = some (.aload_n 0, 0, 0, 0) := by decide +kernel
theorem q83_19 : c_q 83 19 = some (.iconst 1, 0, 0, 0) := by decide +kernel
theorem q83_20 : c_q 83 20 = some (.iconst 2, 0, 0, 0) := by decide +kernel
theorem q83_21 : c_q 83 21 = some (.invokestatic 60, 78, 3, 0) := by decide +kernel
theorem q83_24 : c_q 83 24 = some (.ifCond .ne (7), 31, 0, 0) := by decide +kernel
theorem q83_27 : c_q 83 27 = some (.iconst 1, 0, 0, 0) := by decide +kernel
theorem q83_28 : c_q 83 28 = some (.goto (4), 32, 0, 0) := by decide +kernel
theorem q83_31 : c_q 83 31 = some (.iconst 0, 0, 0, 0) := by decide +kernel
theorem q83_32 : c_q 83 32 = some (.istore_n 3, 0, 0, 0) := by decide +kernel
theorem q83_33 : c_q 83 33 = some (.aload_n 1, 0, 0, 0) := by decide +kernel
theorem q83_34 : c_q 83 34 = some (.bipush (61), 0, 0, 0) := by decide +kernel
theorem q83_36 : c_q 83 36 = some (.iconst 1, 0, 0, 0) := by decide +kernel
theorem q83_37 : c_q 83 37 = some (.iconst 0, 0, 0, 0) := by decide +kernel
theorem q83_38 : c_q 83 38 = some (.invokestatic 64, 69, 4, 0) := by decide +kernel
theorem q83_41 : c_q 83 41 = some (.ldc 17, 4294067295, 0, 0) := by decide +kernel
theorem q83_43 : c_q 83 43 = some (.if_icmp .ne (61), 104, 0, 0) := by decide +kernel
theorem q83_46 : c_q 83 46 = some (.aload_n 1, 0, 0, 0) := by decide +kernel
theorem q83_47 : c_q 83 47 = some (.iconst 1, 0, 0, 0) := by decide +kernel
theorem q83_48 : c_q 83 48 = some (.iconst 5, 0, 0, 0) := by decide +kernel
theorem q83_49 : c_q 83 49 = some (.iconst 0, 0, 0, 0) := by decide +kernel
theorem q83_50 : c_q 83 50 = some (.invokestatic 64, 69, 4, 0) := by decide +kernel
theorem q83_53 : c_q 83 53 = some (.ldc 17, 4294067295, 0, 0) := by decide +kernel
theorem q83_55 : c_q 83 55 = some (.if_icmp .ne (49), 104, 0, 0) := by decide +kernel
theorem q83_58 : c_q 83 58 = some (.aload_n 1, 0, 0, 0) := by decide +kernel
theorem q83_59 : c_q 83 59 = some (.iload_n 2, 0, 0, 0) := by decide +kernel
theorem q83_60 : c_q 83 60 = some (.iconst 1, 0, 0, 0) := by decide +kernel
theorem q83_61 : c_q 83 61 = some (.iload_n 3, 0, 0, 0) := by decide +kernel
theorem q83_62 : c_q 83 62 = some (.invokestatic 64, 69, 4, 0) := by decide +kernel
theorem q83_65 : c_q 83 65 = some (.bipush (10), 0, 0, 0) := by decide +kernel
theorem q83_67 : c_q 83 67 = some (.if_icmp .ne (37), 104, 0, 0) := by decide +kernel
theorem q83_70 : c_q 83 70 = some (.aload_n 1, 0, 0, 0) := by decide +kernel
theorem q83_71 : c_q 83 71 = some (.iload_n 2, 0, 0, 0) := by decide +kernel
theorem q83_72 : c_q 83 72 = some (.invokestatic 67, 72, 2, 0) := by decide +kernel
theorem q83_75 : c_q 83 75 = some (.ldc 17, 4294067295, 0, 0) := by decide +kernel
theorem q83_77 : c_q 83 77 = some (.if_icmp .ne (27), 104, 0, 0) := by decide +kernel
theorem q83_80 : c_q 83 80 = some (.aload_n 1, 0, 0, 0) := by decide +kernel
theorem q83_81 : c_q 83 81 = some (.invokestatic 70, 77, 1, 0) := by decide +kernel
theorem q83_84 : c_q 83 84 = some (.ldc 17, 4294067295, 0, 0) := by decide +kernel
theorem q83_86 : c_q 83 86 = some (.if_icmp .ne (18), 104, 0, 0) := by decide +kernel
theorem q83_89 : c_q 83 89 = some (.aload_n 1, 0, 0, 0) := by decide +kernel
theorem q83_90 : c_q 83 90 = some (.iconst 1, 0, 0, 0) := by decide +kernel
theorem q83_91 : c_q 83 91 = some (.iconst 0, 0, 0, 0) := by decide +kernel
theorem q83_92 : c_q 83 92 = some (.invokestatic 73, 76, 3, 0) := by decide +kernel
theorem q83_95 : c_q 83 95 = some (.ldc 17, 4294067295, 0, 0) := by decide +kernel
theorem q83_97 : c_q 83 97 = some (.if_icmp .ne (7), 104, 0, 0) := by decide +kernel
theorem q83_100 : c_q 83 100 = some (.iconst 1, 0, 0, 0) := by decide +kernel
theorem q83_101 : c_q 83 101 = some (.goto (4), 105, 0, 0) := by decide +kernel
theorem q83_104 : c_q 83 104 = some (.iconst 0, 0, 0, 0) := by decide +kernel
theorem q83_105 : c_q 83 105 = some (.istore 4, 0, 0, 0) := by decide +kernel
theorem q83_107 : c_q 83 107 = some (.iload_n 2, 0, 0, 0) := by decide +kernel
theorem q83_108 : c_q 83 108 = some (.newarray .int, 0, 0, 0) := by decide +kernel
theorem q83_110 : c_q 83 110 = some (.astore 5, 0, 0, 0) := by decide +kernel
theorem q83_112 : c_q 83 112 = some (.iload_n 2, 0, 0, 0) := by decide +kernel
theorem q83_113 : c_q 83 113 = some (.newarray .int, 0, 0, 0) := by decide +kernel
theorem q83_115 : c_q 83 115 = some (.astore 6, 0, 0, 0) := by decide +kernel
theorem q83_117 : c_q 83 117 = some (.iconst 0, 0, 0, 0) := by decide +kernel
theorem q83_118 : c_q 83 118 = some (.istore 7, 0, 0, 0) := by decide +kernel
theorem q83_120 : c_q 83 120 = some (.iload 7, 0, 0, 0) := by decide +kernel
theorem q83_122 : c_q 83 122 = some (.iload_n 2, 0, 0, 0) := by decide +kernel
theorem q83_123 : c_q 83 123 = some (.if_icmp .ge (158), 281, 0, 0) := by decide +kernel
theorem q83_126 : c_q 83 126 = some (.aload 5, 0, 0, 0) := by decide +kernel
theorem q83_128 : c_q 83 128 = some (.iload 7, 0, 0, 0) := by decide +kernel
theorem q83_130 : c_q 83 130 = some (.aload_n 0, 0, 0, 0) := by decide +kernel
theorem q83_131 : c_q 83 131 = some (.iconst 2, 0, 0, 0) := by decide +kernel
theorem q83_132 : c_q 83 132 = some (.iconst 3, 0, 0, 0) := by decide +kernel
theorem q83_133 : c_q 83 133 = some (.invokestatic 60, 78, 3, 0) := by decide +kernel
theorem q83_136 : c_q 83 136 = some (.ifCond .ne (18), 154, 0, 0) := by decide +kernel
theorem q83_139 : c_q 83 139 = some (.iconst 1, 0, 0, 0) := by decide +kernel
theorem q83_140 : c_q 83 140 = some (.aload_n 0, 0, 0, 0) := by decide +kernel
theorem q83_141 : c_q 83 141 = some (.bipush (10), 0, 0, 0) := by decide +kernel
theorem q83_143 : c_q 83 143 = some (.iload 7, 0, 0, 0) := by decide +kernel
theorem q83_145 : c_q 83 145 = some (.iadd, 0, 0, 0) := by decide +kernel
theorem q83_146 : c_q 83 146 = some (.iconst 4, 0, 0, 0) := by decide +kernel
theorem q83_147 : c_q 83 147 = some (.invokestatic 60, 78, 3, 0) := by decide +kernel
theorem q83_150 : c_q 83 150 = some (.iadd, 0, 0, 0) := by decide +kernel
theorem q83_151 : c_q 83 151 = some (.goto (4), 155, 0, 0) := by decide +kernel
theorem q83_154 : c_q 83 154 = some (.iconst 1, 0, 0, 0) := by decide +kernel
theorem q83_155 : c_q 83 155 = some (.iastore, 0, 0, 0) := by decide +kernel
theorem q83_156 : c_q 83 156 = some (.aload_n 0, 0, 0, 0) := by decide +kernel
theorem q83_157 : c_q 83 157 = some (.bipush (40), 0, 0, 0) := by decide +kernel
theorem q83_159 : c_q 83 159 = some (.iload 7, 0, 0, 0) := by decide +kernel
theorem q83_161 : c_q 83 161 = some (.iadd, 0, 0, 0) := by decide +kernel
theorem q83_162 : c_q 83 162 = some (.iconst 4, 0, 0, 0) := by decide +kernel
theorem q83_163 : c_q 83 163 = some (.invokestatic 60, 78, 3, 0) := by decide +kernel
theorem q83_166 : c_q 83 166 = some (.istore 8, 0, 0, 0) := by decide +kernel
theorem q83_168 : c_q 83 168 = some (.aload 6, 0, 0, 0) := by decide +kernel
theorem q83_170 : c_q 83 170 = some (.iload 7, 0, 0, 0) := by decide +kernel
theorem q83_172 : c_q 83 172 = some (.iload 8, 0, 0, 0) := by decide +kernel
theorem q83_174 : c_q 83 174 = some (.aload 5, 0, 0, 0) := by decide +kernel
theorem q83_176 : c_q 83 176 = some (.iload 7, 0, 0, 0) := by decide +kernel
theorem q83_178 : c_q 83 178 = some (.iaload, 0, 0, 0) := by decide +kernel
theorem q83_179 : c_q 83 179 = some (.if_icmp .le (7), 186, 0, 0) := by decide +kernel
theorem q83_182 : c_q 83 182 = some (.iconst 0, 0, 0, 0) := by decide +kernel
theorem q83_183 : c_q 83 183 = some (.goto (7), 190, 0, 0) := by decide +kernel
theorem q83_186 : c_q 83 186 = some (.iload 8, 0, 0, 0) := by decide +kernel
theorem q83_188 : c_q 83 188 = some (.iconst 3, 0, 0, 0) := by decide +kernel
theorem q83_189 : c_q 83 189 = some (.irem, 0, 0, 0) := by decide +kernel
theorem q83_190 : c_q 83 190 = some (.iastore, 0, 0, 0) := by decide +kernel
theorem q83_191 : c_q 83 191 = some (.aload 6, 0, 0, 0) := by decide +kernel
theorem q83_193 : c_q 83 193 = some (.iload 7, 0, 0, 0) := by decide +kernel
theorem q83_195 : c_q 83 195 = some (.aload 6, 0, 0, 0) := by decide +kernel
theorem q83_197 : c_q 83 197 = some (.iload 7, 0, 0, 0) := by decide +kernel
theorem q83_199 : c_q 83 199 = some (.iaload, 0, 0, 0) := by decide +kernel
theorem q83_200 : c_q 83 200 = some (.aload 5, 0, 0, 0) := by decide +kernel
theorem q83_202 : c_q 83 202 = some (.iload 7, 0, 0, 0) := by decide +kernel
theorem q83_204 : c_q 83 204 = some (.iaload, 0, 0, 0) := by decide +kernel
theorem q83_205 : c_q 83 205 = some (.if_icmp .le (7), 212, 0, 0) := by decide +kernel
theorem q83_208 : c_q 83 208 = some (.iconst 0, 0, 0, 0) := by decide +kernel
theorem q83_209 : c_q 83 209 = some (.goto (8), 217, 0, 0) := by decide +kernel
theorem q83_212 : c_q 83 212 = some (.aload 6, 0, 0, 0) := by decide +kernel
theorem q83_214 : c_q 83 214 = some (.iload 7, 0, 0, 0) := by decide +kernel
theorem q83_216 : c_q 83 216 = some (.iaload, 0, 0, 0) := by decide +kernel
theorem q83_217 : c_q 83 217 = some (.iastore, 0, 0, 0) := by decide +kernel
theorem q83_218 : c_q 83 218 = some (.iload 4, 0, 0, 0) := by decide +kernel
theorem q83_220 : c_q 83 220 = some (.aload_n 1, 0, 0, 0) := by decide +kernel
theorem q83_221 : c_q 83 221 = some (.iload 7, 0, 0, 0) := by decide +kernel
theorem q83_223 : c_q 83 223 = some (.aload 5, 0, 0, 0) := by decide +kernel
theorem q83_225 : c_q 83 225 = some (.iload 7, 0, 0, 0) := by decide +kernel
theorem q83_227 : c_q 83 227 = some (.iaload, 0, 0, 0) := by decide +kernel
theorem q83_228 : c_q 83 228 = some (.invokestatic 76, 70, 3, 0) := by decide +kernel
theorem q83_231 : c_q 83 231 = some (.iconst 1, 0, 0, 0) := by decide +kernel
theorem q83_232 : c_q 83 232 = some (.if_icmp .ne (39), 271, 0, 0) := by decide +kernel
theorem q83_235 : c_q 83 235 = some (.aload_n 1, 0, 0, 0) := by decide +kernel
theorem q83_236 : c_q 83 236 = some (.iload 7, 0, 0, 0) := by decide +kernel
theorem q83_238 : c_q 83 238 = some (.aload 6, 0, 0, 0) := by decide +kernel
theorem q83_240 : c_q 83 240 = some (.iload 7, 0, 0, 0) := by decide +kernel
theorem q83_242 : c_q 83 242 = some (.iaload, 0, 0, 0) := by decide +kernel
theorem q83_243 : c_q 83 243 = some (.invokestatic 78, 71, 3, 0) := by decide +kernel
theorem q83_246 : c_q 83 246 = some (.ifCond .ne (25), 271, 0, 0) := by decide +kernel
theorem q83_249 : c_q 83 249 = some (.aload_n 1, 0, 0, 0) := by decide +kernel
theorem q83_250 : c_q 83 250 = some (.iload 7, 0, 0, 0) := by decide +kernel
theorem q83_252 : c_q 83 252 = some (.aload 5, 0, 0, 0) := by decide +kernel
theorem q83_254 : c_q 83 254 = some (.iload 7, 0, 0, 0) := by decide +kernel
theorem q83_256 : c_q 83 256 = some (.iaload, 0, 0, 0) := by decide +kernel
theorem q83_257 : c_q 83 257 = some (.iconst 1, 0, 0, 0) := by decide +kernel
theorem q83_258 : c_q 83 258 = some (.iadd, 0, 0, 0) := by decide +kernel
theorem q83_259 : c_q 83 259 = some (.invokestatic 78, 71, 3, 0) := by decide +kernel
theorem q83_262 : c_q 83 262 = some (.ldc 24, 4294067294, 0, 0) := by decide +kernel
theorem q83_264 : c_q 83 264 = some (.if_icmp .ne (7), 271, 0, 0) := by decide +kernel
theorem q83_267 : c_q 83 267 = some (.iconst 1, 0, 0, 0) := by decide +kernel
theorem q83_268 : c_q 83 268 = some (.goto (4), 272, 0, 0) := by decide +kernel
theorem q83_271 : c_q 83 271 = some (.iconst 0, 0, 0, 0) := by decide +kernel
theorem q83_272 : c_q 83 272 = some (.iand, 0, 0, 0) := by decide +kernel
theorem q83_273 : c_q 83 273 = some (.istore 4, 0, 0, 0) := by decide +kernel
theorem q83_275 : c_q 83 275 = some (.iinc 7 (1), 0, 0, 0) := by decide +kernel
theorem q83_278 : c_q 83 278 = some (.goto (-158), 120, 0, 0) := by decide +kernel
theorem q83_281 : c_q 83 281 = some (.bipush (8), 0, 0, 0) := by decide +kernel
theorem q83_283 : c_q 83 283 = some (.iload_n 2, 0, 0, 0) := by decide +kernel
theorem q83_284 : c_q 83 284 = some (.multianewarray 80 2, 0, 0, 0) := by decide +kernel
theorem q83_288 : c_q 83 288 = some (.astore 7, 0, 0, 0) := by decide +kernel
theorem q83_290 : c_q 83 290 = some (.iconst 0, 0, 0, 0) := by decide +kernel
theorem q83_291 : c_q 83 291 = some (.istore 8, 0, 0, 0) := by decide +kernel
theorem q83_293 : c_q 83 293 = some (.iconst 0, 0, 0, 0) := by decide +kernel
theorem q83_294 : c_q 83 294 = some (.istore 9, 0, 0, 0) := by decide +kernel
theorem q83_296 : c_q 83 296 = some (.iload 9, 0, 0, 0) := by decide +kernel
theorem q83_298 : c_q 83 298 = some (.bipush (12), 0, 0, 0) := by decide +kernel
theorem q83_300 : c_q 83 300 = some (.if_icmp .ge (676), 976, 0, 0) := by decide +kernel
theorem q83_303 : c_q 83 303 = some (.aload_n 0, 0, 0, 0) := by decide +kernel
theorem q83_304 : c_q 83 304 = some (.bipush (70), 0, 0, 0) := by decide +kernel
theorem q83_306 : c_q 83 306 = some (.iload 9, 0, 0, 0) := by decide +kernel
theorem q83_308 : c_q 83 308 = some (.iadd, 0, 0, 0) := by decide +kernel
theorem q83_309 : c_q 83 309 = some (.bipush (6), 0, 0, 0) := by decide +kernel
theorem q83_311 : c_q 83 311 = some (.invokestatic 60, 78, 3, 0) := by decide +kernel
theorem q83_314 : c_q 83 314 = some (.istore 10, 0, 0, 0) := by decide +kernel
theorem q83_316 : c_q 83 316 = some (.iconst 1, 0, 0, 0) := by decide +kernel
theorem q83_317 : c_q 83 317 = some (.aload_n 0, 0, 0, 0) := by decide +kernel
theorem q83_318 : c_q 83 318 = some (.bipush (90), 0, 0, 0) := by decide +kernel
theorem q83_320 : c_q 83 320 = some (.iload 9, 0, 0, 0) := by decide +kernel
theorem q83_322 : c_q 83 322 = some (.iadd, 0, 0, 0) := by decide +kernel
theorem q83_323 : c_q 83 323 = some (.aload_n 0, 0, 0, 0) := by decide +kernel
theorem q83_324 : c_q 83 324 = some (.bipush (110), 0, 0, 0) := by decide +kernel
theorem q83_326 : c_q 83 326 = some (.iload 9, 0, 0, 0) := by decide +kernel
theorem q83_328 : c_q 83 328 = some (.iadd, 0, 0, 0) := by decide +kernel
theorem q83_329 : c_q 83 329 = some (.iconst 2, 0, 0, 0) := by decide +kernel
theorem q83_330 : c_q 83 330 = some (.invokestatic 60, 78, 3, 0) := by decide +kernel
theorem q83_333 : c_q 83 333 = some (.ifCond .ne (7), 340, 0, 0) := by decide +kernel
theorem q83_336 : c_q 83 336 = some (.iconst 4, 0, 0, 0) := by decide +kernel
theorem q83_337 : c_q 83 337 = some (.goto (5), 342, 0, 0) := by decide +kernel
theorem q83_340 : c_q 83 340 = some (.bipush (99), 0, 0, 0) := by decide +kernel
theorem q83_342 : c_q 83 342 = some (.invokestatic 60, 78, 3, 0) := by decide +kernel
theorem q83_345 : c_q 83 345 = some (.iadd, 0, 0, 0) := by decide +kernel
theorem q83_346 : c_q 83 346 = some (.istore 11, 0, 0, 0) := by decide +kernel
theorem q83_348 : c_q 83 348 = some (.iload 10, 0, 0, 0) := by decide +kernel
theorem q83_350 : c_q 83 350 = some (.iconst 5, 0, 0, 0) := by decide +kernel
theorem q83_351 : c_q 83 351 = some (.if_icmp .ne (73), 424, 0, 0) := by decide +kernel
theorem q83_354 : c_q 83 354 = some (.iload 4, 0, 0, 0) := by decide +kernel
theorem q83_356 : c_q 83 356 = some (.aload_n 1, 0, 0, 0) := by decide +kernel
theorem q83_357 : c_q 83 357 = some (.invokestatic 70, 77, 1, 0) := by decide +kernel
theorem q83_360 : c_q 83 360 = some (.iload 8, 0, 0, 0) := by decide +kernel
theorem q83_362 : c_q 83 362 = some (.ifCond .ne (8), 370, 0, 0) := by decide +kernel
theorem q83_365 : c_q 83 365 = some (.ldc 17, 4294067295, 0, 0) := by decide +kernel
theorem q83_367 : c_q 83 367 = some (.goto (7), 374, 0, 0) := by decide +kernel
theorem q83_370 : c_q 83 370 = some (.iload 8, 0, 0, 0) := by decide +kernel
theorem q83_372 : c_q 83 372 = some (.iconst 1, 0, 0, 0) := by decide +kernel
theorem q83_373 : c_q 83 373 = some (.isub, 0, 0, 0) := by decide +kernel
theorem q83_374 : c_q 83 374 = some (.if_icmp .ne (7), 381, 0, 0) := by decide +kernel
theorem q83_377 : c_q 83 377 = some (.iconst 1, 0, 0, 0) := by decide +kernel
theorem q83_378 : c_q 83 378 = some (.goto (4), 382, 0, 0) := by decide +kernel
theorem q83_381 : c_q 83 381 = some (.iconst 0, 0, 0, 0) := by decide +kernel
theorem q83_382 : c_q 83 382 = some (.iand, 0, 0, 0) := by decide +kernel
theorem q83_383 : c_q 83 383 = some (.istore 4, 0, 0, 0) := by decide +kernel
theorem q83_385 : c_q 83 385 = some (.iload 8, 0, 0, 0) := by decide +kernel
theorem q83_387 : c_q 83 387 = some (.ifCond .le (368), 755, 0, 0) := by decide +kernel
theorem q83_390 : c_q 83 390 = some (.iinc 8 (-1), 0, 0, 0) := by decide +kernel
theorem q83_393 : c_q 83 393 = some (.iconst 0, 0, 0, 0) := by decide +kernel
theorem q83_394 : c_q 83 394 = some (.istore 12, 0, 0, 0) := by decide +kernel
theorem q83_396 : c_q 83 396 = some (.iload 12, 0, 0, 0) := by decide +kernel
theorem q83_398 : c_q 83 398 = some (.iload_n 2, 0, 0, 0) := by decide +kernel
theorem q83_399 : c_q 83 399 = some (.if_icmp .ge (22), 421, 0, 0) := by decide +kernel
theorem q83_402 : c_q 83 402 = some (.aload 6, 0, 0, 0) := by decide +kernel
theorem q83_404 : c_q 83 404 = some (.iload 12, 0, 0, 0) := by decide +kernel
theorem q83_406 : c_q 83 406 = some (.aload 7, 0, 0, 0) := by decide +kernel
theorem q83_408 : c_q 83 408 = some (.iload 8, 0, 0, 0) := by decide +kernel
theorem q83_410 : c_q 83 410 = some (.aaload, 0, 0, 0) := by decide +kernel
theorem q83_411 : c_q 83 411 = some (.iload 12, 0, 0, 0) := by decide +kernel
theorem q83_413 : c_q 83 413 = some (.iaload, 0, 0, 0) := by decide +kernel
theorem q83_414 : c_q 83 414 = some (.iastore, 0, 0, 0) := by decide +kernel
theorem q83_415 : c_q 83 415 = some (.iinc 12 (1), 0, 0, 0) := by decide +kernel
theorem q83_418 : c_q 83 418 = some (.goto (-22), 396, 0, 0) := by decide +kernel
theorem q83_421 : c_q 83 421 = some (.goto (334), 755, 0, 0) := by decide +kernel
theorem q83_424 : c_q 83 424 = some (.iload 10, 0, 0, 0) := by decide +kernel
theorem q83_426 : c_q 83 426 = some (.iconst 4, 0, 0, 0) := by decide +kernel
theorem q83_427 : c_q 83 427 = some (.if_icmp .ne (7), 434, 0, 0) := by decide +kernel
theorem q83_430 : c_q 83 430 = some (.iconst 1, 0, 0, 0) := by decide +kernel
theorem q83_431 : c_q 83 431 = some (.goto (4), 435, 0, 0) := by decide +kernel
theorem q83_434 : c_q 83 434 = some (.iconst 0, 0, 0, 0) := by decide +kernel
theorem q83_435 : c_q 83 435 = some (.istore 12, 0, 0, 0) := by decide +kernel
theorem q83_437 : c_q 83 437 = some (.iconst 0, 0, 0, 0) := by decide +kernel
theorem q83_438 : c_q 83 438 = some (.istore 13, 0, 0, 0) := by decide +kernel
theorem q83_440 : c_q 83 440 = some (.iconst 0, 0, 0, 0) := by decide +kernel
theorem q83_441 : c_q 83 441 = some (.istore 14, 0, 0, 0) := by decide +kernel
theorem q83_443 : c_q 83 443 = some (.iconst 0, 0, 0, 0) := by decide +kernel
theorem q83_444 : c_q 83 444 = some (.istore 15, 0, 0, 0) := by decide +kernel
theorem q83_446 : c_q 83 446 = some (.iload_n 2, 0, 0, 0) := by decide +kernel
theorem q83_447 : c_q 83 447 = some (.newarray .int, 0, 0, 0) := by decide +kernel
theorem q83_449 : c_q 83 449 = some (.astore 16, 0, 0, 0) := by decide +kernel
theorem q83_451 : c_q 83 451 = some (.iload_n 3, 0, 0, 0) := by decide +kernel
theorem q83_452 : c_q 83 452 = some (.ifCond .eq (7), 459, 0, 0) := by decide +kernel
theorem q83_455 : c_q 83 455 = some (.iconst 0, 0, 0, 0) := by decide +kernel
theorem q83_456 : c_q 83 456 = some (.goto (4), 460, 0, 0) := by decide +kernel
theorem q83_459 : c_q 83 459 = some (.iconst 1, 0, 0, 0) := by decide +kernel
theorem q83_460 : c_q 83 460 = some (.istore 17, 0, 0, 0) := by decide +kernel
theorem q83_462 : c_q 83 462 = some (.iload 17, 0, 0, 0) := by decide +kernel
theorem q83_464 : c_q 83 464 = some (.iconst 2, 0, 0, 0) := by decide +kernel
theorem q83_465 : c_q 83 465 = some (.if_icmp .ge (161), 626, 0, 0) := by decide +kernel
theorem q83_468 : c_q 83 468 = some (.iload 17, 0, 0, 0) := by decide +kernel
theorem q83_470 : c_q 83 470 = some (.iconst 1, 0, 0, 0) := by decide +kernel
theorem q83_471 : c_q 83 471 = some (.if_icmp .ne (12), 483, 0, 0) := by decide +kernel
theorem q83_474 : c_q 83 474 = some (.iload_n 3, 0, 0, 0) := by decide +kernel
theorem q83_475 : c_q 83 475 = some (.ifCond .eq (8), 483, 0, 0) := by decide +kernel
theorem q83_478 : c_q 83 478 = some (.iload 15, 0, 0, 0) := by decide +kernel
theorem q83_480 : c_q 83 480 = some (.goto (4), 484, 0, 0) := by decide +kernel
theorem q83_483 : c_q 83 483 = some (.iconst 0, 0, 0, 0) := by decide +kernel
theorem q83_484 : c_q 83 484 = some (.istore 13, 0, 0, 0) := by decide +kernel
theorem q83_486 : c_q 83 486 = some (.iload 13, 0, 0, 0) := by decide +kernel
theorem q83_488 : c_q 83 488 = some (.istore 18, 0, 0, 0) := by decide +kernel
theorem q83_490 : c_q 83 490 = some (.iload 18, 0, 0, 0) := by decide +kernel
theorem q83_492 : c_q 83 492 = some (.istore 14, 0, 0, 0) := by decide +kernel
theorem q83_494 : c_q 83 494 = some (.iconst 0, 0, 0, 0) := by decide +kernel
theorem q83_495 : c_q 83 495 = some (.istore 19, 0, 0, 0) := by decide +kernel
theorem q83_497 : c_q 83 497 = some (.iload 19, 0, 0, 0) := by decide +kernel
theorem q83_499 : c_q 83 499 = some (.iload_n 2, 0, 0, 0) := by decide +kernel
theorem q83_500 : c_q 83 500 = some (.if_icmp .ge (116), 616, 0, 0) := by decide +kernel
theorem q83_503 : c_q 83 503 = some (.iload 12, 0, 0, 0) := by decide +kernel
theorem q83_505 : c_q 83 505 = some (.ifCond .eq (12), 517, 0, 0) := by decide +kernel
theorem q83_508 : c_q 83 508 = some (.iload_n 2, 0, 0, 0) := by decide +kernel
theorem q83_509 : c_q 83 509 = some (.iconst 1, 0, 0, 0) := by decide +kernel
theorem q83_510 : c_q 83 510 = some (.isub, 0, 0, 0) := by decide +kernel
theorem q83_511 : c_q 83 511 = some (.iload 19, 0, 0, 0) := by decide +kernel
theorem q83_513 : c_q 83 513 = some (.isub, 0, 0, 0) := by decide +kernel
theorem q83_514 : c_q 83 514 = some (.goto (5), 519, 0, 0) := by decide +kernel
theorem q83_517 : c_q 83 517 = some (.iload 19, 0, 0, 0) := by decide +kernel
theorem q83_519 : c_q 83 519 = some (.istore 20, 0, 0, 0) := by decide +kernel
theorem q83_521 : c_q 83 521 = some (.aload 5, 0, 0, 0) := by decide +kernel
theorem q83_523 : c_q 83 523 = some (.iload 20, 0, 0, 0) := by decide +kernel
theorem q83_525 : c_q 83 525 = some (.iaload, 0, 0, 0) := by decide +kernel
theorem q83_526 : c_q 83 526 = some (.aload 6, 0, 0, 0) := by decide +kernel
theorem q83_528 : c_q 83 528 = some (.iload 20, 0, 0, 0) := by decide +kernel
theorem q83_530 : c_q 83 530 = some (.iaload, 0, 0, 0) := by decide +kernel
theorem q83_531 : c_q 83 531 = some (.isub, 0, 0, 0) := by decide +kernel
theorem q83_532 : c_q 83 532 = some (.istore 21, 0, 0, 0) := by decide +kernel
theorem q83_534 : c_q 83 534 = some (.iload 18, 0, 0, 0) := by decide +kernel
theorem q83_536 : c_q 83 536 = some (.aload 6, 0, 0, 0) := by decide +kernel
theorem q83_538 : c_q 83 538 = some (.iload 20, 0, 0, 0) := by decide +kernel
theorem q83_540 : c_q 83 540 = some (.iaload, 0, 0, 0) := by decide +kernel
theorem q83_541 : c_q 83 541 = some (.iadd, 0, 0, 0) := by decide +kernel
theorem q83_542 : c_q 83 542 = some (.iload 11, 0, 0, 0) := by decide +kernel
theorem q83_544 : c_q 83 544 = some (.isub, 0, 0, 0) := by decide +kernel
theorem q83_545 : c_q 83 545 = some (.istore 22, 0, 0, 0) := by decide +kernel
theorem q83_547 : c_q 83 547 = some (.aload 16, 0, 0, 0) := by decide +kernel
theorem q83_549 : c_q 83 549 = some (.iload 20, 0, 0, 0) := by decide +kernel
theorem q83_551 : c_q 83 551 = some (.iload 18, 0, 0, 0) := by decide +kernel
theorem q83_553 : c_q 83 553 = some (.iload 21, 0, 0, 0) := by decide +kernel
theorem q83_555 : c_q 83 555 = some (.if_icmp .ge (8), 563, 0, 0) := by decide +kernel
theorem q83_558 : c_q 83 558 = some (.iload 18, 0, 0, 0) := by decide +kernel
theorem q83_560 : c_q 83 560 = some (.goto (5), 565, 0, 0) := by decide +kernel
theorem q83_563 : c_q 83 563 = some (.iload 21, 0, 0, 0) := by decide +kernel
theorem q83_565 : c_q 83 565 = some (.iload 22, 0, 0, 0) := by decide +kernel
theorem q83_567 : c_q 83 567 = some (.ifCond .le (8), 575, 0, 0) := by decide +kernel
theorem q83_570 : c_q 83 570 = some (.iload 22, 0, 0, 0) := by decide +kernel
theorem q83_572 : c_q 83 572 = some (.goto (4), 576, 0, 0) := by decide +kernel
theorem q83_575 : c_q 83 575 = some (.iconst 0, 0, 0, 0) := by decide +kernel
theorem q83_576 : c_q 83 576 = some (.iadd, 0, 0, 0) := by decide +kernel
theorem q83_577 : c_q 83 577 = some (.iastore, 0, 0, 0) := by decide +kernel
theorem q83_578 : c_q 83 578 = some (.iload 18, 0, 0, 0) := by decide +kernel
theorem q83_580 : c_q 83 580 = some (.aload 6, 0, 0, 0) := by decide +kernel
theorem q83_582 : c_q 83 582 = some (.iload 20, 0, 0, 0) := by decide +kernel
theorem q83_584 : c_q 83 584 = some (.iaload, 0, 0, 0) := by decide +kernel
theorem q83_585 : c_q 83 585 = some (.aload 16, 0, 0, 0) := by decide +kernel
theorem q83_587 : c_q 83 587 = some (.iload 20, 0, 0, 0) := by decide +kernel
theorem q83_589 : c_q 83 589 = some (.iaload, 0, 0, 0) := by decide +kernel
theorem q83_590 : c_q 83 590 = some (.isub, 0, 0, 0) := by decide +kernel
theorem q83_591 : c_q 83 591 = some (.iadd, 0, 0, 0) := by decide +kernel
theorem q83_592 : c_q 83 592 = some (.istore 18, 0, 0, 0) := by decide +kernel
theorem q83_594 : c_q 83 594 = some (.iload 18, 0, 0, 0) := by decide +kernel
theorem q83_596 : c_q 83 596 = some (.iload 14, 0, 0, 0) := by decide +kernel
theorem q83_598 : c_q 83 598 = some (.if_icmp .le (8), 606, 0, 0) := by decide +kernel
theorem q83_601 : c_q 83 601 = some (.iload 18, 0, 0, 0) := by decide +kernel
theorem q83_603 : c_q 83 603 = some (.goto (5), 608, 0, 0) := by decide +kernel
theorem q83_606 : c_q 83 606 = some (.iload 14, 0, 0, 0) := by decide +kernel
theorem q83_608 : c_q 83 608 = some (.istore 14, 0, 0, 0) := by decide +kernel
theorem q83_610 : c_q 83 610 = some (.iinc 19 (1), 0, 0, 0) := by decide +kernel
theorem q83_613 : c_q 83 613 = some (.goto (-116), 497, 0, 0) := by decide +kernel
theorem q83_616 : c_q 83 616 = some (.iload 18, 0, 0, 0) := by decide +kernel
theorem q83_618 : c_q 83 618 = some (.istore 15, 0, 0, 0) := by decide +kernel
theorem q83_620 : c_q 83 620 = some (.iinc 17 (1), 0, 0, 0) := by decide +kernel
theorem q83_623 : c_q 83 623 = some (.goto (-161), 462, 0, 0) := by decide +kernel
theorem q83_626 : c_q 83 626 = some (.iload 15, 0, 0, 0) := by decide +kernel
theorem q83_628 : c_q 83 628 = some (.iload 13, 0, 0, 0) := by decide +kernel
theorem q83_630 : c_q 83 630 = some (.if_icmp .ne (7), 637, 0, 0) := by decide +kernel
theorem q83_633 : c_q 83 633 = some (.iconst 1, 0, 0, 0) := by decide +kernel
theorem q83_634 : c_q 83 634 = some (.goto (4), 638, 0, 0) := by decide +kernel
theorem q83_637 : c_q 83 637 = some (.iconst 0, 0, 0, 0) := by decide +kernel
theorem q83_638 : c_q 83 638 = some (.istore 17, 0, 0, 0) := by decide +kernel
theorem q83_640 : c_q 83 640 = some (.iload 4, 0, 0, 0) := by decide +kernel
theorem q83_642 : c_q 83 642 = some (.iload 12, 0, 0, 0) := by decide +kernel
theorem q83_644 : c_q 83 644 = some (.ifCond .eq (12), 656, 0, 0) := by decide +kernel
theorem q83_647 : c_q 83 647 = some (.aload_n 1, 0, 0, 0) := by decide +kernel
theorem q83_648 : c_q 83 648 = some (.iload 11, 0, 0, 0) := by decide +kernel
theorem q83_650 : c_q 83 650 = some (.invokestatic 82, 74, 2, 0) := by decide +kernel
theorem q83_653 : c_q 83 653 = some (.goto (9), 662, 0, 0) := by decide +kernel
theorem q83_656 : c_q 83 656 = some (.aload_n 1, 0, 0, 0) := by decide +kernel
theorem q83_657 : c_q 83 657 = some (.iload 11, 0, 0, 0) := by decide +kernel
theorem q83_659 : c_q 83 659 = some (.invokestatic 84, 73, 2, 0) := by decide +kernel
theorem q83_662 : c_q 83 662 = some (.iload 17, 0, 0, 0) := by decide +kernel
theorem q83_664 : c_q 83 664 = some (.ifCond .eq (8), 672, 0, 0) := by decide +kernel
theorem q83_667 : c_q 83 667 = some (.iload 14, 0, 0, 0) := by decide +kernel
theorem q83_669 : c_q 83 669 = some (.goto (5), 674, 0, 0) := by decide +kernel
theorem q83_672 : c_q 83 672 = some (.ldc 24, 4294067294, 0, 0) := by decide +kernel
theorem q83_674 : c_q 83 674 = some (.if_icmp .ne (7), 681, 0, 0) := by decide +kernel
theorem q83_677 : c_q 83 677 = some (.iconst 1, 0, 0, 0) := by decide +kernel
theorem q83_678 : c_q 83 678 = some (.goto (4), 682, 0, 0) := by decide +kernel
theorem q83_681 : c_q 83 681 = some (.iconst 0, 0, 0, 0) := by decide +kernel
theorem q83_682 : c_q 83 682 = some (.iand, 0, 0, 0) := by decide +kernel
theorem q83_683 : c_q 83 683 = some (.istore 4, 0, 0, 0) := by decide +kernel
theorem q83_685 : c_q 83 685 = some (.iload 17, 0, 0, 0) := by decide +kernel
theorem q83_687 : c_q 83 687 = some (.ifCond .eq (68), 755, 0, 0) := by decide +kernel
theorem q83_690 : c_q 83 690 = some (.iload 8, 0, 0, 0) := by decide +kernel
theorem q83_692 : c_q 83 692 = some (.bipush (8), 0, 0, 0) := by decide +kernel
theorem q83_694 : c_q 83 694 = some (.if_icmp .ne (41), 735, 0, 0) := by decide +kernel
theorem q83_697 : c_q 83 697 = some (.iconst 0, 0, 0, 0) := by decide +kernel
theorem q83_698 : c_q 83 698 = some (.istore 18, 0, 0, 0) := by decide +kernel
theorem q83_700 : c_q 83 700 = some (.iload 18, 0, 0, 0) := by decide +kernel
theorem q83_702 : c_q 83 702 = some (.bipush (7), 0, 0, 0) := by decide +kernel
theorem q83_704 : c_q 83 704 = some (.if_icmp .ge (27), 731, 0, 0) := by decide +kernel
theorem q83_707 : c_q 83 707 = some (.aload 7, 0, 0, 0) := by decide +kernel
theorem q83_709 : c_q 83 709 = some (.iload 18, 0, 0, 0) := by decide +kernel
theorem q83_711 : c_q 83 711 = some (.aload 7, 0, 0, 0) := by decide +kernel
theorem q83_713 : c_q 83 713 = some (.iload 18, 0, 0, 0) := by decide +kernel
theorem q83_715 : c_q 83 715 = some (.iconst 1, 0, 0, 0) := by decide +kernel
theorem q83_716 : c_q 83 716 = some (.iadd, 0, 0, 0) := by decide +kernel
theorem q83_717 : c_q 83 717 = some (.aaload, 0, 0, 0) := by decide +kernel
theorem q83_718 : c_q 83 718 = some (.invokevirtual 86, 0, 0, 9) := by decide +kernel
theorem q83_721 : c_q 83 721 = some (.checkcast 87, 0, 0, 0) := by decide +kernel
theorem q83_724 : c_q 83 724 = some (.aastore, 0, 0, 0) := by decide +kernel
theorem q83_725 : c_q 83 725 = some (.iinc 18 (1), 0, 0, 0) := by decide +kernel
theorem q83_728 : c_q 83 728 = some (.goto (-28), 700, 0, 0) := by decide +kernel
theorem q83_731 : c_q 83 731 = some (.bipush (7), 0, 0, 0) := by decide +kernel
theorem q83_733 : c_q 83 733 = some (.istore 8, 0, 0, 0) := by decide +kernel
theorem q83_735 : c_q 83 735 = some (.aload 7, 0, 0, 0) := by decide +kernel
theorem q83_737 : c_q 83 737 = some (.iload 8, 0, 0, 0) := by decide +kernel
theorem q83_739 : c_q 83 739 = some (.aload 6, 0, 0, 0) := by decide +kernel
theorem q83_741 : c_q 83 741 = some (.invokevirtual 86, 0, 0, 9) := by decide +kernel
theorem q83_744 : c_q 83 744 = some (.checkcast 87, 0, 0, 0) := by decide +kernel
theorem q83_747 : c_q 83 747 = some (.aastore, 0, 0, 0) := by decide +kernel
theorem q83_748 : c_q 83 748 = some (.iinc 8 (1), 0, 0, 0) := by decide +kernel
theorem q83_751 : c_q 83 751 = some (.aload 16, 0, 0, 0) := by decide +kernel
theorem q83_753 : c_q 83 753 = some (.astore 6, 0, 0, 0) := by decide +kernel
theorem q83_755 : c_q 83 755 = some (.iconst 0, 0, 0, 0) := by decide +kernel
theorem q83_756 : c_q 83 756 = some (.istore 12, 0, 0, 0) := by decide +kernel
theorem q83_758 : c_q 83 758 = some (.iconst 0, 0, 0, 0) := by decide +kernel
theorem q83_759 : c_q 83 759 = some (.istore 13, 0, 0, 0) := by decide +kernel
theorem q83_761 : c_q 83 761 = some (.iconst 0, 0, 0, 0) := by decide +kernel
theorem q83_762 : c_q 83 762 = some (.istore 14, 0, 0, 0) := by decide +kernel
theorem q83_764 : c_q 83 764 = some (.iload 14, 0, 0, 0) := by decide +kernel
theorem q83_766 : c_q 83 766 = some (.iload_n 2, 0, 0, 0) := by decide +kernel
theorem q83_767 : c_q 83 767 = some (.if_icmp .ge (61), 828, 0, 0) := by decide +kernel
theorem q83_770 : c_q 83 770 = some (.iload 4, 0, 0, 0) := by decide +kernel
theorem q83_772 : c_q 83 772 = some (.aload_n 1, 0, 0, 0) := by decide +kernel
theorem q83_773 : c_q 83 773 = some (.iload 14, 0, 0, 0) := by decide +kernel
theorem q83_775 : c_q 83 775 = some (.invokestatic 67, 72, 2, 0) := by decide +kernel
theorem q83_778 : c_q 83 778 = some (.aload 6, 0, 0, 0) := by decide +kernel
theorem q83_780 : c_q 83 780 = some (.iload 14, 0, 0, 0) := by decide +kernel
theorem q83_782 : c_q 83 782 = some (.iaload, 0, 0, 0) := by decide +kernel
theorem q83_783 : c_q 83 783 = some (.if_icmp .ne (7), 790, 0, 0) := by decide +kernel
theorem q83_786 : c_q 83 786 = some (.iconst 1, 0, 0, 0) := by decide +kernel
theorem q83_787 : c_q 83 787 = some (.goto (4), 791, 0, 0) := by decide +kernel
theorem q83_790 : c_q 83 790 = some (.iconst 0, 0, 0, 0) := by decide +kernel
theorem q83_791 : c_q 83 791 = some (.iand, 0, 0, 0) := by decide +kernel
theorem q83_792 : c_q 83 792 = some (.istore 4, 0, 0, 0) := by decide +kernel
theorem q83_794 : c_q 83 794 = some (.iload 12, 0, 0, 0) := by decide +kernel
theorem q83_796 : c_q 83 796 = some (.aload 6, 0, 0, 0) := by decide +kernel
theorem q83_798 : c_q 83 798 = some (.iload 14, 0, 0, 0) := by decide +kernel
theorem q83_800 : c_q 83 800 = some (.iaload, 0, 0, 0) := by decide +kernel
theorem q83_801 : c_q 83 801 = some (.iadd, 0, 0, 0) := by decide +kernel
theorem q83_802 : c_q 83 802 = some (.istore 12, 0, 0, 0) := by decide +kernel
theorem q83_804 : c_q 83 804 = some (.iload 13, 0, 0, 0) := by decide +kernel
theorem q83_806 : c_q 83 806 = some (.aload 6, 0, 0, 0) := by decide +kernel
theorem q83_808 : c_q 83 808 = some (.iload 14, 0, 0, 0) := by decide +kernel
theorem q83_810 : c_q 83 810 = some (.iaload, 0, 0, 0) := by decide +kernel
theorem q83_811 : c_q 83 811 = some (.ifCond .le (7), 818, 0, 0) := by decide +kernel
theorem q83_814 : c_q 83 814 = some (.iconst 1, 0, 0, 0) := by decide +kernel
theorem q83_815 : c_q 83 815 = some (.goto (4), 819, 0, 0) := by decide +kernel
theorem q83_818 : c_q 83 818 = some (.iconst 0, 0, 0, 0) := by decide +kernel
theorem q83_819 : c_q 83 819 = some (.iadd, 0, 0, 0) := by decide +kernel
theorem q83_820 : c_q 83 820 = some (.istore 13, 0, 0, 0) := by decide +kernel
theorem q83_822 : c_q 83 822 = some (.iinc 14 (1), 0, 0, 0) := by decide +kernel
theorem q83_825 : c_q 83 825 = some (.goto (-61), 764, 0, 0) := by decide +kernel
theorem q83_828 : c_q 83 828 = some (.iload 4, 0, 0, 0) := by decide +kernel
theorem q83_830 : c_q 83 830 = some (.aload_n 1, 0, 0, 0) := by decide +kernel
theorem q83_831 : c_q 83 831 = some (.invokevirtual 92, 5, 0, 2) := by decide +kernel
theorem q83_834 : c_q 83 834 = some (.iload 12, 0, 0, 0) := by decide +kernel
theorem q83_836 : c_q 83 836 = some (.if_icmp .ne (57), 893, 0, 0) := by decide +kernel
theorem q83_839 : c_q 83 839 = some (.aload_n 1, 0, 0, 0) := by decide +kernel
theorem q83_840 : c_q 83 840 = some (.invokevirtual 95, 9, 0, 2) := by decide +kernel
theorem q83_843 : c_q 83 843 = some (.iload 8, 0, 0, 0) := by decide +kernel
theorem q83_845 : c_q 83 845 = some (.if_icmp .ne (48), 893, 0, 0) := by decide +kernel
theorem q83_848 : c_q 83 848 = some (.aload_n 1, 0, 0, 0) := by decide +kernel
theorem q83_849 : c_q 83 849 = some (.invokevirtual 98, 12, 0, 2) := by decide +kernel
theorem q83_852 : c_q 83 852 = some (.iload 13, 0, 0, 0) := by decide +kernel
theorem q83_854 : c_q 83 854 = some (.i2f, 0, 0, 0) := by decide +kernel
theorem q83_855 : c_q 83 855 = some (.iload_n 2, 0, 0, 0) := by decide +kernel
theorem q83_856 : c_q 83 856 = some (.i2f, 0, 0, 0) := by decide +kernel
theorem q83_857 : c_q 83 857 = some (.fdiv, 0, 0, 0) := by decide +kernel
theorem q83_858 : c_q 83 858 = some (.invokestatic 101, 79, 1, 0) := by decide +kernel
theorem q83_861 : c_q 83 861 = some (.if_icmp .ne (32), 893, 0, 0) := by decide +kernel
theorem q83_864 : c_q 83 864 = some (.aload_n 1, 0, 0, 0) := by decide +kernel
theorem q83_865 : c_q 83 865 = some (.iload 8, 0, 0, 0) := by decide +kernel
theorem q83_867 : c_q 83 867 = some (.iconst 1, 0, 0, 0) := by decide +kernel
theorem q83_868 : c_q 83 868 = some (.iadd, 0, 0, 0) := by decide +kernel
theorem q83_869 : c_q 83 869 = some (.iconst 0, 0, 0, 0) := by decide +kernel
theorem q83_870 : c_q 83 870 = some (.invokestatic 73, 76, 3, 0) := by decide +kernel
theorem q83_873 : c_q 83 873 = some (.ldc 17, 4294067295, 0, 0) := by decide +kernel
theorem q83_875 : c_q 83 875 = some (.if_icmp .ne (18), 893, 0, 0) := by decide +kernel
theorem q83_878 : c_q 83 878 = some (.aload_n 1, 0, 0, 0) := by decide +kernel
theorem q83_879 : c_q 83 879 = some (.iconst 0, 0, 0, 0) := by decide +kernel
theorem q83_880 : c_q 83 880 = some (.iconst 0, 0, 0, 0) := by decide +kernel
theorem q83_881 : c_q 83 881 = some (.invokestatic 73, 76, 3, 0) := by decide +kernel
theorem q83_884 : c_q 83 884 = some (.ldc 17, 4294067295, 0, 0) := by decide +kernel
theorem q83_886 : c_q 83 886 = some (.if_icmp .ne (7), 893, 0, 0) := by decide +kernel
theorem q83_889 : c_q 83 889 = some (.iconst 1, 0, 0, 0) := by decide +kernel
theorem q83_890 : c_q 83 890 = some (.goto (4), 894, 0, 0) := by decide +kernel
theorem q83_893 : c_q 83 893 = some (.iconst 0, 0, 0, 0) := by decide +kernel
theorem q83_894 : c_q 83 894 = some (.iand, 0, 0, 0) := by decide +kernel
theorem q83_895 : c_q 83 895 = some (.istore 4, 0, 0, 0) := by decide +kernel
theorem q83_897 : c_q 83 897 = some (.iconst 1, 0, 0, 0) := by decide +kernel
theorem q83_898 : c_q 83 898 = some (.istore 14, 0, 0, 0) := by decide +kernel
theorem q83_900 : c_q 83 900 = some (.iload 14, 0, 0, 0) := by decide +kernel
theorem q83_902 : c_q 83 902 = some (.iload 8, 0, 0, 0) := by decide +kernel
theorem q83_904 : c_q 83 904 = some (.if_icmp .gt (66), 970, 0, 0) := by decide +kernel
theorem q83_907 : c_q 83 907 = some (.aload_n 0, 0, 0, 0) := by decide +kernel
theorem q83_908 : c_q 83 908 = some (.sipush (130), 0, 0, 0) := by decide +kernel
theorem q83_911 : c_q 83 911 = some (.iload 9, 0, 0, 0) := by decide +kernel
theorem q83_913 : c_q 83 913 = some (.iadd, 0, 0, 0) := by decide +kernel
theorem q83_914 : c_q 83 914 = some (.iload_n 2, 0, 0, 0) := by decide +kernel
theorem q83_915 : c_q 83 915 = some (.invokestatic 60, 78, 3, 0) := by decide +kernel
theorem q83_918 : c_q 83 918 = some (.istore 15, 0, 0, 0) := by decide +kernel
theorem q83_920 : c_q 83 920 = some (.iload 4, 0, 0, 0) := by decide +kernel
theorem q83_922 : c_q 83 922 = some (.aload_n 1, 0, 0, 0) := by decide +kernel
theorem q83_923 : c_q 83 923 = some (.iload 14, 0, 0, 0) := by decide +kernel
theorem q83_925 : c_q 83 925 = some (.iload 15, 0, 0, 0) := by decide +kernel
theorem q83_927 : c_q 83 927 = some (.invokestatic 73, 76, 3, 0) := by decide +kernel
theorem q83_930 : c_q 83 930 = some (.aload 7, 0, 0, 0) := by decide +kernel
theorem q83_932 : c_q 83 932 = some (.iload 8, 0, 0, 0) := by decide +kernel
theorem q83_934 : c_q 83 934 = some (.iload 14, 0, 0, 0) := by decide +kernel
theorem q83_936 : c_q 83 936 = some (.isub, 0, 0, 0) := by decide +kernel
theorem q83_937 : c_q 83 937 = some (.aaload, 0, 0, 0) := by decide +kernel
theorem q83_938 : c_q 83 938 = some (.iload 15, 0, 0, 0) := by decide +kernel
theorem q83_940 : c_q 83 940 = some (.iaload, 0, 0, 0) := by decide +kernel
theorem q83_941 : c_q 83 941 = some (.if_icmp .ne (19), 960, 0, 0) := by decide +kernel
theorem q83_944 : c_q 83 944 = some (.aload_n 1, 0, 0, 0) := by decide +kernel
theorem q83_945 : c_q 83 945 = some (.iload 14, 0, 0, 0) := by decide +kernel
theorem q83_947 : c_q 83 947 = some (.iload_n 2, 0, 0, 0) := by decide +kernel
theorem q83_948 : c_q 83 948 = some (.invokestatic 73, 76, 3, 0) := by decide +kernel
theorem q83_951 : c_q 83 951 = some (.ldc 24, 4294067294, 0, 0) := by decide +kernel
theorem q83_953 : c_q 83 953 = some (.if_icmp .ne (7), 960, 0, 0) := by decide +kernel
theorem q83_956 : c_q 83 956 = some (.iconst 1, 0, 0, 0) := by decide +kernel
theorem q83_957 : c_q 83 957 = some (.goto (4), 961, 0, 0) := by decide +kernel
theorem q83_960 : c_q 83 960 = some (.iconst 0, 0, 0, 0) := by decide +kernel
theorem q83_961 : c_q 83 961 = some (.iand, 0, 0, 0) := by decide +kernel
theorem q83_962 : c_q 83 962 = some (.istore 4, 0, 0, 0) := by decide +kernel
theorem q83_964 : c_q 83 964 = some (.iinc 14 (1), 0, 0, 0) := by decide +kernel
theorem q83_967 : c_q 83 967 = some (.goto (-67), 900, 0, 0) := by decide +kernel
theorem q83_970 : c_q 83 970 = some (.iinc 9 (1), 0, 0, 0) := by decide +kernel
theorem q83_973 : c_q 83 973 = some (.goto (-677), 296, 0, 0) := by decide +kernel
theorem q83_976 : c_q 83 976 = some (.iload 4, 0, 0, 0) := by decide +kernel
theorem q83_978 : c_q 83 978 = some (.ifCond .eq (46), 1024, 0, 0) := by decide +kernel
theorem q83_981 : c_q 83 981 = some (.aload_n 1, 0, 0, 0) := by decide +kernel
theorem q83_982 : c_q 83 982 = some (.iconst 0, 0, 0, 0) := by decide +kernel
theorem q83_983 : c_q 83 983 = some (.invokestatic 84, 73, 2, 0) := by decide +kernel
theorem q83_986 : c_q 83 986 = some (.ldc 17, 4294067295, 0, 0) := by decide +kernel
theorem q83_988 : c_q 83 988 = some (.if_icmp .ne (36), 1024, 0, 0) := by decide +kernel
theorem q83_991 : c_q 83 991 = some (.aload_n 1, 0, 0, 0) := by decide +kernel
theorem q83_992 : c_q 83 992 = some (.bipush (100), 0, 0, 0) := by decide +kernel
theorem q83_994 : c_q 83 994 = some (.invokestatic 82, 74, 2, 0) := by decide +kernel
theorem q83_997 : c_q 83 997 = some (.ldc 17, 4294067295, 0, 0) := by decide +kernel
theorem q83_999 : c_q 83 999 = some (.if_icmp .ne (25), 1024, 0, 0) := by decide +kernel
theorem q83_1002 : c_q 83 1002 = some (.aload_n 1, 0, 0, 0) := by decide +kernel
theorem q83_1003 : c_q 83 1003 = some (.iconst 0, 0, 0, 0) := by decide +kernel
theorem q83_1004 : c_q 83 1004 = some (.iconst 1, 0, 0, 0) := by decide +kernel
theorem q83_1005 : c_q 83 1005 = some (.invokestatic 107, 75, 3, 0) := by decide +kernel
theorem q83_1008 : c_q 83 1008 = some (.ldc 17, 4294067295, 0, 0) := by decide +kernel
theorem q83_1010 : c_q 83 1010 = some (.if_icmp .ne (14), 1024, 0, 0) := by decide +kernel
theorem q83_1013 : c_q 83 1013 = some (.aload_n 1, 0, 0, 0) := by decide +kernel
theorem q83_1014 : c_q 83 1014 = some (.invokevirtual 109, 13, 0, 2) := by decide +kernel
theorem q83_1017 : c_q 83 1017 = some (.ifCond .eq (7), 1024, 0, 0) := by decide +kernel
theorem q83_1020 : c_q 83 1020 = some (.iconst 1, 0, 0, 0) := by decide +kernel
theorem q83_1021 : c_q 83 1021 = some (.goto (4), 1025, 0, 0) := by decide +kernel
theorem q83_1024 : c_q 83 1024 = some (.iconst 0, 0, 0, 0) := by decide +kernel
theorem q83_1025 : c_q 83 1025 = some (.ireturn, 0, 0, 0) := by decide +kernel
