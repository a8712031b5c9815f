theorem dM_init_0 : decode prog_6_method_1_code 0 = .ok (.aload_n 0, 1) := by decide +kernel
theorem dM_init_1 : decode prog_6_method_1_code 1 = .ok (.invokespecial 1, 3) := by decide +kernel
theorem dM_init_4 : decode prog_6_method_1_code 4 = .ok (.aload_n 0, 1) := by decide +kernel
theorem dM_init_5 : decode prog_6_method_1_code 5 = .ok (.bipush 15, 2) := by decide +kernel
theorem dM_init_7 : decode prog_6_method_1_code 7 = .ok (.newarray .int, 2) := by decide +kernel
theorem dM_init_9 : decode prog_6_method_1_code 9 = .ok (.dup, 1) := by decide +kernel
theorem dM_init_10 : decode prog_6_method_1_code 10 = .ok (.iconst 0, 1) := by decide +kernel
theorem dM_init_11 : decode prog_6_method_1_code 11 = .ok (.iconst 0, 1) := by decide +kernel
theorem dM_init_12 : decode prog_6_method_1_code 12 = .ok (.iastore, 1) := by decide +kernel
theorem dM_init_13 : decode prog_6_method_1_code 13 = .ok (.dup, 1) := by decide +kernel
theorem dM_init_14 : decode prog_6_method_1_code 14 = .ok (.iconst 1, 1) := by decide +kernel
theorem dM_init_15 : decode prog_6_method_1_code 15 = .ok (.bipush 110, 2) := by decide +kernel
theorem dM_init_17 : decode prog_6_method_1_code 17 = .ok (.iastore, 1) := by decide +kernel
theorem dM_init_18 : decode prog_6_method_1_code 18 = .ok (.dup, 1) := by decide +kernel
theorem dM_init_19 : decode prog_6_method_1_code 19 = .ok (.iconst 2, 1) := by decide +kernel
theorem dM_init_20 : decode prog_6_method_1_code 20 = .ok (.sipush 211, 3) := by decide +kernel
theorem dM_init_23 : decode prog_6_method_1_code 23 = .ok (.iastore, 1) := by decide +kernel
theorem dM_init_24 : decode prog_6_method_1_code 24 = .ok (.dup, 1) := by decide +kernel
theorem dM_init_25 : decode prog_6_method_1_code 25 = .ok (.iconst 3, 1) := by decide +kernel
theorem dM_init_26 : decode prog_6_method_1_code 26 = .ok (.sipush 222, 3) := by decide +kernel
theorem dM_init_29 : decode prog_6_method_1_code 29 = .ok (.iastore, 1) := by decide +kernel
theorem dM_init_30 : decode prog_6_method_1_code 30 = .ok (.dup, 1) := by decide +kernel
theorem dM_init_31 : decode prog_6_method_1_code 31 = .ok (.iconst 4, 1) := by decide +kernel
theorem dM_init_32 : decode prog_6_method_1_code 32 = .ok (.iconst 0, 1) := by decide +kernel
theorem dM_init_33 : decode prog_6_method_1_code 33 = .ok (.iastore, 1) := by decide +kernel
theorem dM_init_34 : decode prog_6_method_1_code 34 = .ok (.dup, 1) := by decide +kernel
theorem dM_init_35 : decode prog_6_method_1_code 35 = .ok (.iconst 5, 1) := by decide +kernel
theorem dM_init_36 : decode prog_6_method_1_code 36 = .ok (.sipush 1100, 3) := by decide +kernel
theorem dM_init_39 : decode prog_6_method_1_code 39 = .ok (.iastore, 1) := by decide +kernel
theorem dM_init_40 : decode prog_6_method_1_code 40 = .ok (.dup, 1) := by decide +kernel
theorem dM_init_41 : decode prog_6_method_1_code 41 = .ok (.bipush 6, 2) := by decide +kernel
theorem dM_init_43 : decode prog_6_method_1_code 43 = .ok (.sipush 1111, 3) := by decide +kernel
theorem dM_init_46 : decode prog_6_method_1_code 46 = .ok (.iastore, 1) := by decide +kernel
theorem dM_init_47 : decode prog_6_method_1_code 47 = .ok (.dup, 1) := by decide +kernel
theorem dM_init_48 : decode prog_6_method_1_code 48 = .ok (.bipush 7, 2) := by decide +kernel
theorem dM_init_50 : decode prog_6_method_1_code 50 = .ok (.sipush 2110, 3) := by decide +kernel
theorem dM_init_53 : decode prog_6_method_1_code 53 = .ok (.iastore, 1) := by decide +kernel
theorem dM_init_54 : decode prog_6_method_1_code 54 = .ok (.dup, 1) := by decide +kernel
theorem dM_init_55 : decode prog_6_method_1_code 55 = .ok (.bipush 8, 2) := by decide +kernel
theorem dM_init_57 : decode prog_6_method_1_code 57 = .ok (.sipush 2211, 3) := by decide +kernel
theorem dM_init_60 : decode prog_6_method_1_code 60 = .ok (.iastore, 1) := by decide +kernel
theorem dM_init_61 : decode prog_6_method_1_code 61 = .ok (.dup, 1) := by decide +kernel
theorem dM_init_62 : decode prog_6_method_1_code 62 = .ok (.bipush 9, 2) := by decide +kernel
theorem dM_init_64 : decode prog_6_method_1_code 64 = .ok (.sipush 2220, 3) := by decide +kernel
theorem dM_init_67 : decode prog_6_method_1_code 67 = .ok (.iastore, 1) := by decide +kernel
theorem dM_init_68 : decode prog_6_method_1_code 68 = .ok (.dup, 1) := by decide +kernel
theorem dM_init_69 : decode prog_6_method_1_code 69 = .ok (.bipush 10, 2) := by decide +kernel
theorem dM_init_71 : decode prog_6_method_1_code 71 = .ok (.sipush 2222, 3) := by decide +kernel
theorem dM_init_74 : decode prog_6_method_1_code 74 = .ok (.iastore, 1) := by decide +kernel
theorem dM_init_75 : decode prog_6_method_1_code 75 = .ok (.dup, 1) := by decide +kernel
theorem dM_init_76 : decode prog_6_method_1_code 76 = .ok (.bipush 11, 2) := by decide +kernel
theorem dM_init_78 : decode prog_6_method_1_code 78 = .ok (.sipush 3111, 3) := by decide +kernel
theorem dM_init_81 : decode prog_6_method_1_code 81 = .ok (.iastore, 1) := by decide +kernel
theorem dM_init_82 : decode prog_6_method_1_code 82 = .ok (.dup, 1) := by decide +kernel
theorem dM_init_83 : decode prog_6_method_1_code 83 = .ok (.bipush 12, 2) := by decide +kernel
theorem dM_init_85 : decode prog_6_method_1_code 85 = .ok (.sipush 3221, 3) := by decide +kernel
theorem dM_init_88 : decode prog_6_method_1_code 88 = .ok (.iastore, 1) := by decide +kernel
theorem dM_init_89 : decode prog_6_method_1_code 89 = .ok (.dup, 1) := by decide +kernel
theorem dM_init_90 : decode prog_6_method_1_code 90 = .ok (.bipush 13, 2) := by decide +kernel
theorem dM_init_92 : decode prog_6_method_1_code 92 = .ok (.sipush 3322, 3) := by decide +kernel
theorem dM_init_95 : decode prog_6_method_1_code 95 = .ok (.iastore, 1) := by decide +kernel
theorem dM_init_96 : decode prog_6_method_1_code 96 = .ok (.dup, 1) := by decide +kernel
theorem dM_init_97 : decode prog_6_method_1_code 97 = .ok (.bipush 14, 2) := by decide +kernel
theorem dM_init_99 : decode prog_6_method_1_code 99 = .ok (.sipush 3333, 3) := by decide +kernel
theorem dM_init_102 : decode prog_6_method_1_code 102 = .ok (.iastore, 1) := by decide +kernel
theorem dM_init_103 : decode prog_6_method_1_code 103 = .ok (.putfield 7, 3) := by decide +kernel
theorem dM_init_106 : decode prog_6_method_1_code 106 = .ok (.aload_n 0, 1) := by decide +kernel
theorem dM_init_107 : decode prog_6_method_1_code 107 = .ok (.bipush 14, 2) := by decide +kernel
theorem dM_init_109 : decode prog_6_method_1_code 109 = .ok (.newarray .int, 2) := by decide +kernel
theorem dM_init_111 : decode prog_6_method_1_code 111 = .ok (.putfield 13, 3) := by decide +kernel
theorem dM_init_114 : decode prog_6_method_1_code 114 = .ok (.aload_n 0, 1) := by decide +kernel
theorem dM_init_115 : decode prog_6_method_1_code 115 = .ok (.sipush 196, 3) := by decide +kernel
theorem dM_init_118 : decode prog_6_method_1_code 118 = .ok (.newarray .boolean, 2) := by decide +kernel
theorem dM_init_120 : decode prog_6_method_1_code 120 = .ok (.putfield 16, 3) := by decide +kernel
theorem dM_init_123 : decode prog_6_method_1_code 123 = .ok (.aload_n 0, 1) := by decide +kernel
theorem dM_init_124 : decode prog_6_method_1_code 124 = .ok (.bipush 15, 2) := by decide +kernel
theorem dM_init_126 : decode prog_6_method_1_code 126 = .ok (.newarray .int, 2) := by decide +kernel
theorem dM_init_128 : decode prog_6_method_1_code 128 = .ok (.putfield 20, 3) := by decide +kernel
theorem dM_init_131 : decode prog_6_method_1_code 131 = .ok (.aload_n 0, 1) := by decide +kernel
theorem dM_init_132 : decode prog_6_method_1_code 132 = .ok (.bipush 15, 2) := by decide +kernel
theorem dM_init_134 : decode prog_6_method_1_code 134 = .ok (.newarray .int, 2) := by decide +kernel
theorem dM_init_136 : decode prog_6_method_1_code 136 = .ok (.putfield 23, 3) := by decide +kernel
theorem dM_init_139 : decode prog_6_method_1_code 139 = .ok (.aload_n 0, 1) := by decide +kernel
theorem dM_init_140 : decode prog_6_method_1_code 140 = .ok (.iconst 4, 1) := by decide +kernel
theorem dM_init_141 : decode prog_6_method_1_code 141 = .ok (.newarray .int, 2) := by decide +kernel
theorem dM_init_143 : decode prog_6_method_1_code 143 = .ok (.putfield 26, 3) := by decide +kernel
theorem dM_init_146 : decode prog_6_method_1_code 146 = .ok (.aload_n 0, 1) := by decide +kernel
theorem dM_init_147 : decode prog_6_method_1_code 147 = .ok (.iconst 4, 1) := by decide +kernel
theorem dM_init_148 : decode prog_6_method_1_code 148 = .ok (.newarray .int, 2) := by decide +kernel
theorem dM_init_150 : decode prog_6_method_1_code 150 = .ok (.putfield 29, 3) := by decide +kernel
theorem dM_init_153 : decode prog_6_method_1_code 153 = .ok (.aload_n 0, 1) := by decide +kernel
theorem dM_init_154 : decode prog_6_method_1_code 154 = .ok (.iconst 4, 1) := by decide +kernel
theorem dM_init_155 : decode prog_6_method_1_code 155 = .ok (.newarray .int, 2) := by decide +kernel
theorem dM_init_157 : decode prog_6_method_1_code 157 = .ok (.putfield 32, 3) := by decide +kernel
theorem dM_init_160 : decode prog_6_method_1_code 160 = .ok (.aload_n 0, 1) := by decide +kernel
theorem dM_init_161 : decode prog_6_method_1_code 161 = .ok (.bipush 60, 2) := by decide +kernel
theorem dM_init_163 : decode prog_6_method_1_code 163 = .ok (.newarray .int, 2) := by decide +kernel
theorem dM_init_165 : decode prog_6_method_1_code 165 = .ok (.putfield 35, 3) := by decide +kernel
theorem dM_init_168 : decode prog_6_method_1_code 168 = .ok (.aload_n 0, 1) := by decide +kernel
theorem dM_init_169 : decode prog_6_method_1_code 169 = .ok (.bipush 60, 2) := by decide +kernel
theorem dM_init_171 : decode prog_6_method_1_code 171 = .ok (.newarray .int, 2) := by decide +kernel
theorem dM_init_173 : decode prog_6_method_1_code 173 = .ok (.putfield 38, 3) := by decide +kernel
theorem dM_init_176 : decode prog_6_method_1_code 176 = .ok (.aload_n 0, 1) := by decide +kernel
theorem dM_init_177 : decode prog_6_method_1_code 177 = .ok (.bipush 7, 2) := by decide +kernel
theorem dM_init_179 : decode prog_6_method_1_code 179 = .ok (.newarray .int, 2) := by decide +kernel
theorem dM_init_181 : decode prog_6_method_1_code 181 = .ok (.putfield 41, 3) := by decide +kernel
theorem dM_init_184 : decode prog_6_method_1_code 184 = .ok (.aload_n 0, 1) := by decide +kernel
theorem dM_init_185 : decode prog_6_method_1_code 185 = .ok (.bipush 7, 2) := by decide +kernel
theorem dM_init_187 : decode prog_6_method_1_code 187 = .ok (.newarray .int, 2) := by decide +kernel
theorem dM_init_189 : decode prog_6_method_1_code 189 = .ok (.putfield 44, 3) := by decide +kernel
theorem dM_init_192 : decode prog_6_method_1_code 192 = .ok (.aload_n 0, 1) := by decide +kernel
theorem dM_init_193 : decode prog_6_method_1_code 193 = .ok (.iconst 0, 1) := by decide +kernel
theorem dM_init_194 : decode prog_6_method_1_code 194 = .ok (.putfield 47, 3) := by decide +kernel
theorem dM_init_197 : decode prog_6_method_1_code 197 = .ok (.return_, 1) := by decide +kernel
theorem dM_within_0 : decode prog_6_method_3_code 0 = .ok (.iload_n 0, 1) := by decide +kernel
theorem dM_within_1 : decode prog_6_method_3_code 1 = .ok (.iload_n 1, 1) := by decide +kernel
theorem dM_within_2 : decode prog_6_method_3_code 2 = .ok (.if_icmp .lt 12, 3) := by decide +kernel
theorem dM_within_5 : decode prog_6_method_3_code 5 = .ok (.iload_n 0, 1) := by decide +kernel
theorem dM_within_6 : decode prog_6_method_3_code 6 = .ok (.iload_n 2, 1) := by decide +kernel
theorem dM_within_7 : decode prog_6_method_3_code 7 = .ok (.if_icmp .gt 7, 3) := by decide +kernel
theorem dM_within_10 : decode prog_6_method_3_code 10 = .ok (.iconst 1, 1) := by decide +kernel
theorem dM_within_11 : decode prog_6_method_3_code 11 = .ok (.goto 4, 3) := by decide +kernel
theorem dM_within_14 : decode prog_6_method_3_code 14 = .ok (.iconst 0, 1) := by decide +kernel
theorem dM_within_15 : decode prog_6_method_3_code 15 = .ok (.ireturn, 1) := by decide +kernel
theorem dM_isNode_0 : decode prog_6_method_4_code 0 = .ok (.iload_n 1, 1) := by decide +kernel
theorem dM_isNode_1 : decode prog_6_method_4_code 1 = .ok (.iconst 0, 1) := by decide +kernel
theorem dM_isNode_2 : decode prog_6_method_4_code 2 = .ok (.aload_n 0, 1) := by decide +kernel
theorem dM_isNode_3 : decode prog_6_method_4_code 3 = .ok (.getfield 47, 3) := by decide +kernel
theorem dM_isNode_6 : decode prog_6_method_4_code 6 = .ok (.iconst 1, 1) := by decide +kernel
theorem dM_isNode_7 : decode prog_6_method_4_code 7 = .ok (.isub, 1) := by decide +kernel
theorem dM_isNode_8 : decode prog_6_method_4_code 8 = .ok (.invokestatic 51, 3) := by decide +kernel
theorem dM_isNode_11 : decode prog_6_method_4_code 11 = .ok (.ireturn, 1) := by decide +kernel
theorem dM_areTwo_0 : decode prog_6_method_5_code 0 = .ok (.aload_n 0, 1) := by decide +kernel
theorem dM_areTwo_1 : decode prog_6_method_5_code 1 = .ok (.iload_n 1, 1) := by decide +kernel
theorem dM_areTwo_2 : decode prog_6_method_5_code 2 = .ok (.invokevirtual 55, 3) := by decide +kernel
theorem dM_areTwo_5 : decode prog_6_method_5_code 5 = .ok (.ifCond .eq 20, 3) := by decide +kernel
theorem dM_areTwo_8 : decode prog_6_method_5_code 8 = .ok (.aload_n 0, 1) := by decide +kernel
theorem dM_areTwo_9 : decode prog_6_method_5_code 9 = .ok (.iload_n 2, 1) := by decide +kernel
theorem dM_areTwo_10 : decode prog_6_method_5_code 10 = .ok (.invokevirtual 55, 3) := by decide +kernel
theorem dM_areTwo_13 : decode prog_6_method_5_code 13 = .ok (.ifCond .eq 12, 3) := by decide +kernel
theorem dM_areTwo_16 : decode prog_6_method_5_code 16 = .ok (.iload_n 1, 1) := by decide +kernel
theorem dM_areTwo_17 : decode prog_6_method_5_code 17 = .ok (.iload_n 2, 1) := by decide +kernel
theorem dM_areTwo_18 : decode prog_6_method_5_code 18 = .ok (.if_icmp .eq 7, 3) := by decide +kernel
theorem dM_areTwo_21 : decode prog_6_method_5_code 21 = .ok (.iconst 1, 1) := by decide +kernel
theorem dM_areTwo_22 : decode prog_6_method_5_code 22 = .ok (.goto 4, 3) := by decide +kernel
theorem dM_areTwo_25 : decode prog_6_method_5_code 25 = .ok (.iconst 0, 1) := by decide +kernel
theorem dM_areTwo_26 : decode prog_6_method_5_code 26 = .ok (.ireturn, 1) := by decide +kernel
theorem dM_placeOf_0 : decode prog_6_method_6_code 0 = .ok (.iload_n 1, 1) := by decide +kernel
theorem dM_placeOf_1 : decode prog_6_method_6_code 1 = .ok (.iconst 3, 1) := by decide +kernel
theorem dM_placeOf_2 : decode prog_6_method_6_code 2 = .ok (.if_icmp .ne 7, 3) := by decide +kernel
theorem dM_placeOf_5 : decode prog_6_method_6_code 5 = .ok (.iconst 0, 1) := by decide +kernel
theorem dM_placeOf_6 : decode prog_6_method_6_code 6 = .ok (.goto 4, 3) := by decide +kernel
theorem dM_placeOf_9 : decode prog_6_method_6_code 9 = .ok (.iconst 4, 1) := by decide +kernel
theorem dM_placeOf_10 : decode prog_6_method_6_code 10 = .ok (.istore_n 3, 1) := by decide +kernel
theorem dM_placeOf_11 : decode prog_6_method_6_code 11 = .ok (.iload_n 1, 1) := by decide +kernel
theorem dM_placeOf_12 : decode prog_6_method_6_code 12 = .ok (.iconst 3, 1) := by decide +kernel
theorem dM_placeOf_13 : decode prog_6_method_6_code 13 = .ok (.if_icmp .ne 7, 3) := by decide +kernel
theorem dM_placeOf_16 : decode prog_6_method_6_code 16 = .ok (.iconst 4, 1) := by decide +kernel
theorem dM_placeOf_17 : decode prog_6_method_6_code 17 = .ok (.goto 14, 3) := by decide +kernel
theorem dM_placeOf_20 : decode prog_6_method_6_code 20 = .ok (.iload_n 1, 1) := by decide +kernel
theorem dM_placeOf_21 : decode prog_6_method_6_code 21 = .ok (.iconst 4, 1) := by decide +kernel
theorem dM_placeOf_22 : decode prog_6_method_6_code 22 = .ok (.if_icmp .ne 8, 3) := by decide +kernel
theorem dM_placeOf_25 : decode prog_6_method_6_code 25 = .ok (.bipush 15, 2) := by decide +kernel
theorem dM_placeOf_27 : decode prog_6_method_6_code 27 = .ok (.goto 4, 3) := by decide +kernel
theorem dM_placeOf_30 : decode prog_6_method_6_code 30 = .ok (.iconst 0, 1) := by decide +kernel
theorem dM_placeOf_31 : decode prog_6_method_6_code 31 = .ok (.istore 4, 2) := by decide +kernel
theorem dM_placeOf_33 : decode prog_6_method_6_code 33 = .ok (.iload_n 3, 1) := by decide +kernel
theorem dM_placeOf_34 : decode prog_6_method_6_code 34 = .ok (.istore 5, 2) := by decide +kernel
theorem dM_placeOf_36 : decode prog_6_method_6_code 36 = .ok (.iload 5, 2) := by decide +kernel
theorem dM_placeOf_38 : decode prog_6_method_6_code 38 = .ok (.iload 4, 2) := by decide +kernel
theorem dM_placeOf_40 : decode prog_6_method_6_code 40 = .ok (.if_icmp .ge 23, 3) := by decide +kernel
theorem dM_placeOf_43 : decode prog_6_method_6_code 43 = .ok (.aload_n 0, 1) := by decide +kernel
theorem dM_placeOf_44 : decode prog_6_method_6_code 44 = .ok (.getfield 7, 3) := by decide +kernel
theorem dM_placeOf_47 : decode prog_6_method_6_code 47 = .ok (.iload 5, 2) := by decide +kernel
theorem dM_placeOf_49 : decode prog_6_method_6_code 49 = .ok (.iaload, 1) := by decide +kernel
theorem dM_placeOf_50 : decode prog_6_method_6_code 50 = .ok (.iload_n 2, 1) := by decide +kernel
theorem dM_placeOf_51 : decode prog_6_method_6_code 51 = .ok (.if_icmp .ne 6, 3) := by decide +kernel
theorem dM_placeOf_54 : decode prog_6_method_6_code 54 = .ok (.iload 5, 2) := by decide +kernel
theorem dM_placeOf_56 : decode prog_6_method_6_code 56 = .ok (.ireturn, 1) := by decide +kernel
theorem dM_placeOf_57 : decode prog_6_method_6_code 57 = .ok (.iinc 5 1, 3) := by decide +kernel
theorem dM_placeOf_60 : decode prog_6_method_6_code 60 = .ok (.goto (-24), 3) := by decide +kernel
theorem dM_placeOf_63 : decode prog_6_method_6_code 63 = .ok (.iconst (-1), 1) := by decide +kernel
theorem dM_placeOf_64 : decode prog_6_method_6_code 64 = .ok (.ireturn, 1) := by decide +kernel
theorem dM_isSort_0 : decode prog_6_method_7_code 0 = .ok (.aload_n 0, 1) := by decide +kernel
theorem dM_isSort_1 : decode prog_6_method_7_code 1 = .ok (.iload_n 1, 1) := by decide +kernel
theorem dM_isSort_2 : decode prog_6_method_7_code 2 = .ok (.iload_n 2, 1) := by decide +kernel
theorem dM_isSort_3 : decode prog_6_method_7_code 3 = .ok (.invokevirtual 59, 3) := by decide +kernel
theorem dM_isSort_6 : decode prog_6_method_7_code 6 = .ok (.iconst (-1), 1) := by decide +kernel
theorem dM_isSort_7 : decode prog_6_method_7_code 7 = .ok (.if_icmp .eq 7, 3) := by decide +kernel
theorem dM_isSort_10 : decode prog_6_method_7_code 10 = .ok (.iconst 1, 1) := by decide +kernel
theorem dM_isSort_11 : decode prog_6_method_7_code 11 = .ok (.goto 4, 3) := by decide +kernel
theorem dM_isSort_14 : decode prog_6_method_7_code 14 = .ok (.iconst 0, 1) := by decide +kernel
theorem dM_isSort_15 : decode prog_6_method_7_code 15 = .ok (.ireturn, 1) := by decide +kernel
theorem dM_node_0 : decode prog_6_method_8_code 0 = .ok (.iload_n 1, 1) := by decide +kernel
theorem dM_node_1 : decode prog_6_method_8_code 1 = .ok (.iconst 0, 1) := by decide +kernel
theorem dM_node_2 : decode prog_6_method_8_code 2 = .ok (.iconst 3, 1) := by decide +kernel
theorem dM_node_3 : decode prog_6_method_8_code 3 = .ok (.invokestatic 51, 3) := by decide +kernel
theorem dM_node_6 : decode prog_6_method_8_code 6 = .ok (.ifCond .ne 6, 3) := by decide +kernel
theorem dM_node_9 : decode prog_6_method_8_code 9 = .ok (.bipush (-2), 2) := by decide +kernel
theorem dM_node_11 : decode prog_6_method_8_code 11 = .ok (.ireturn, 1) := by decide +kernel
theorem dM_node_12 : decode prog_6_method_8_code 12 = .ok (.aload_n 0, 1) := by decide +kernel
theorem dM_node_13 : decode prog_6_method_8_code 13 = .ok (.getfield 47, 3) := by decide +kernel
theorem dM_node_16 : decode prog_6_method_8_code 16 = .ok (.bipush 14, 2) := by decide +kernel
theorem dM_node_18 : decode prog_6_method_8_code 18 = .ok (.if_icmp .ne 6, 3) := by decide +kernel
theorem dM_node_21 : decode prog_6_method_8_code 21 = .ok (.bipush (-4), 2) := by decide +kernel
theorem dM_node_23 : decode prog_6_method_8_code 23 = .ok (.ireturn, 1) := by decide +kernel
theorem dM_node_24 : decode prog_6_method_8_code 24 = .ok (.aload_n 0, 1) := by decide +kernel
theorem dM_node_25 : decode prog_6_method_8_code 25 = .ok (.getfield 13, 3) := by decide +kernel
theorem dM_node_28 : decode prog_6_method_8_code 28 = .ok (.aload_n 0, 1) := by decide +kernel
theorem dM_node_29 : decode prog_6_method_8_code 29 = .ok (.getfield 47, 3) := by decide +kernel
theorem dM_node_32 : decode prog_6_method_8_code 32 = .ok (.iload_n 1, 1) := by decide +kernel
theorem dM_node_33 : decode prog_6_method_8_code 33 = .ok (.iastore, 1) := by decide +kernel
theorem dM_node_34 : decode prog_6_method_8_code 34 = .ok (.iconst 0, 1) := by decide +kernel
theorem dM_node_35 : decode prog_6_method_8_code 35 = .ok (.istore_n 2, 1) := by decide +kernel
theorem dM_node_36 : decode prog_6_method_8_code 36 = .ok (.iload_n 2, 1) := by decide +kernel
theorem dM_node_37 : decode prog_6_method_8_code 37 = .ok (.aload_n 0, 1) := by decide +kernel
theorem dM_node_38 : decode prog_6_method_8_code 38 = .ok (.getfield 47, 3) := by decide +kernel
theorem dM_node_41 : decode prog_6_method_8_code 41 = .ok (.if_icmp .gt 39, 3) := by decide +kernel
theorem dM_node_44 : decode prog_6_method_8_code 44 = .ok (.aload_n 0, 1) := by decide +kernel
theorem dM_node_45 : decode prog_6_method_8_code 45 = .ok (.getfield 16, 3) := by decide +kernel
theorem dM_node_48 : decode prog_6_method_8_code 48 = .ok (.bipush 14, 2) := by decide +kernel
theorem dM_node_50 : decode prog_6_method_8_code 50 = .ok (.aload_n 0, 1) := by decide +kernel
theorem dM_node_51 : decode prog_6_method_8_code 51 = .ok (.getfield 47, 3) := by decide +kernel
theorem dM_node_54 : decode prog_6_method_8_code 54 = .ok (.imul, 1) := by decide +kernel
theorem dM_node_55 : decode prog_6_method_8_code 55 = .ok (.iload_n 2, 1) := by decide +kernel
theorem dM_node_56 : decode prog_6_method_8_code 56 = .ok (.iadd, 1) := by decide +kernel
theorem dM_node_57 : decode prog_6_method_8_code 57 = .ok (.iconst 0, 1) := by decide +kernel
theorem dM_node_58 : decode prog_6_method_8_code 58 = .ok (.bastore, 1) := by decide +kernel
theorem dM_node_59 : decode prog_6_method_8_code 59 = .ok (.aload_n 0, 1) := by decide +kernel
theorem dM_node_60 : decode prog_6_method_8_code 60 = .ok (.getfield 16, 3) := by decide +kernel
theorem dM_node_63 : decode prog_6_method_8_code 63 = .ok (.bipush 14, 2) := by decide +kernel
theorem dM_node_65 : decode prog_6_method_8_code 65 = .ok (.iload_n 2, 1) := by decide +kernel
theorem dM_node_66 : decode prog_6_method_8_code 66 = .ok (.imul, 1) := by decide +kernel
theorem dM_node_67 : decode prog_6_method_8_code 67 = .ok (.aload_n 0, 1) := by decide +kernel
theorem dM_node_68 : decode prog_6_method_8_code 68 = .ok (.getfield 47, 3) := by decide +kernel
theorem dM_node_71 : decode prog_6_method_8_code 71 = .ok (.iadd, 1) := by decide +kernel
theorem dM_node_72 : decode prog_6_method_8_code 72 = .ok (.iconst 0, 1) := by decide +kernel
theorem dM_node_73 : decode prog_6_method_8_code 73 = .ok (.bastore, 1) := by decide +kernel
theorem dM_node_74 : decode prog_6_method_8_code 74 = .ok (.iinc 2 1, 3) := by decide +kernel
theorem dM_node_77 : decode prog_6_method_8_code 77 = .ok (.goto (-41), 3) := by decide +kernel
theorem dM_node_80 : decode prog_6_method_8_code 80 = .ok (.aload_n 0, 1) := by decide +kernel
theorem dM_node_81 : decode prog_6_method_8_code 81 = .ok (.dup, 1) := by decide +kernel
theorem dM_node_82 : decode prog_6_method_8_code 82 = .ok (.getfield 47, 3) := by decide +kernel
theorem dM_node_85 : decode prog_6_method_8_code 85 = .ok (.iconst 1, 1) := by decide +kernel
theorem dM_node_86 : decode prog_6_method_8_code 86 = .ok (.iadd, 1) := by decide +kernel
theorem dM_node_87 : decode prog_6_method_8_code 87 = .ok (.putfield 47, 3) := by decide +kernel
theorem dM_node_90 : decode prog_6_method_8_code 90 = .ok (.aload_n 0, 1) := by decide +kernel
theorem dM_node_91 : decode prog_6_method_8_code 91 = .ok (.iconst 0, 1) := by decide +kernel
theorem dM_node_92 : decode prog_6_method_8_code 92 = .ok (.putfield 63, 3) := by decide +kernel
theorem dM_node_95 : decode prog_6_method_8_code 95 = .ok (.aload_n 0, 1) := by decide +kernel
theorem dM_node_96 : decode prog_6_method_8_code 96 = .ok (.getfield 47, 3) := by decide +kernel
theorem dM_node_99 : decode prog_6_method_8_code 99 = .ok (.iconst 1, 1) := by decide +kernel
theorem dM_node_100 : decode prog_6_method_8_code 100 = .ok (.isub, 1) := by decide +kernel
theorem dM_node_101 : decode prog_6_method_8_code 101 = .ok (.ireturn, 1) := by decide +kernel
theorem dM_clear_0 : decode prog_6_method_9_code 0 = .ok (.aload_n 0, 1) := by decide +kernel
theorem dM_clear_1 : decode prog_6_method_9_code 1 = .ok (.getfield 47, 3) := by decide +kernel
theorem dM_clear_4 : decode prog_6_method_9_code 4 = .ok (.istore_n 1, 1) := by decide +kernel
theorem dM_clear_5 : decode prog_6_method_9_code 5 = .ok (.aload_n 0, 1) := by decide +kernel
theorem dM_clear_6 : decode prog_6_method_9_code 6 = .ok (.iconst 0, 1) := by decide +kernel
theorem dM_clear_7 : decode prog_6_method_9_code 7 = .ok (.putfield 47, 3) := by decide +kernel
theorem dM_clear_10 : decode prog_6_method_9_code 10 = .ok (.aload_n 0, 1) := by decide +kernel
theorem dM_clear_11 : decode prog_6_method_9_code 11 = .ok (.iconst 0, 1) := by decide +kernel
theorem dM_clear_12 : decode prog_6_method_9_code 12 = .ok (.putfield 63, 3) := by decide +kernel
theorem dM_clear_15 : decode prog_6_method_9_code 15 = .ok (.iload_n 1, 1) := by decide +kernel
theorem dM_clear_16 : decode prog_6_method_9_code 16 = .ok (.ireturn, 1) := by decide +kernel
theorem dM_turn_0 : decode prog_6_method_10_code 0 = .ok (.aload_n 0, 1) := by decide +kernel
theorem dM_turn_1 : decode prog_6_method_10_code 1 = .ok (.getfield 16, 3) := by decide +kernel
theorem dM_turn_4 : decode prog_6_method_10_code 4 = .ok (.bipush 14, 2) := by decide +kernel
theorem dM_turn_6 : decode prog_6_method_10_code 6 = .ok (.iload_n 1, 1) := by decide +kernel
theorem dM_turn_7 : decode prog_6_method_10_code 7 = .ok (.imul, 1) := by decide +kernel
theorem dM_turn_8 : decode prog_6_method_10_code 8 = .ok (.iload_n 2, 1) := by decide +kernel
theorem dM_turn_9 : decode prog_6_method_10_code 9 = .ok (.iadd, 1) := by decide +kernel
theorem dM_turn_10 : decode prog_6_method_10_code 10 = .ok (.baload, 1) := by decide +kernel
theorem dM_turn_11 : decode prog_6_method_10_code 11 = .ok (.ifCond .ne 7, 3) := by decide +kernel
theorem dM_turn_14 : decode prog_6_method_10_code 14 = .ok (.iconst 1, 1) := by decide +kernel
theorem dM_turn_15 : decode prog_6_method_10_code 15 = .ok (.goto 4, 3) := by decide +kernel
theorem dM_turn_18 : decode prog_6_method_10_code 18 = .ok (.iconst 0, 1) := by decide +kernel
theorem dM_turn_19 : decode prog_6_method_10_code 19 = .ok (.istore_n 3, 1) := by decide +kernel
theorem dM_turn_20 : decode prog_6_method_10_code 20 = .ok (.aload_n 0, 1) := by decide +kernel
theorem dM_turn_21 : decode prog_6_method_10_code 21 = .ok (.getfield 16, 3) := by decide +kernel
theorem dM_turn_24 : decode prog_6_method_10_code 24 = .ok (.bipush 14, 2) := by decide +kernel
theorem dM_turn_26 : decode prog_6_method_10_code 26 = .ok (.iload_n 1, 1) := by decide +kernel
theorem dM_turn_27 : decode prog_6_method_10_code 27 = .ok (.imul, 1) := by decide +kernel
theorem dM_turn_28 : decode prog_6_method_10_code 28 = .ok (.iload_n 2, 1) := by decide +kernel
theorem dM_turn_29 : decode prog_6_method_10_code 29 = .ok (.iadd, 1) := by decide +kernel
theorem dM_turn_30 : decode prog_6_method_10_code 30 = .ok (.iload_n 3, 1) := by decide +kernel
theorem dM_turn_31 : decode prog_6_method_10_code 31 = .ok (.bastore, 1) := by decide +kernel
theorem dM_turn_32 : decode prog_6_method_10_code 32 = .ok (.aload_n 0, 1) := by decide +kernel
theorem dM_turn_33 : decode prog_6_method_10_code 33 = .ok (.getfield 16, 3) := by decide +kernel
theorem dM_turn_36 : decode prog_6_method_10_code 36 = .ok (.bipush 14, 2) := by decide +kernel
theorem dM_turn_38 : decode prog_6_method_10_code 38 = .ok (.iload_n 2, 1) := by decide +kernel
theorem dM_turn_39 : decode prog_6_method_10_code 39 = .ok (.imul, 1) := by decide +kernel
theorem dM_turn_40 : decode prog_6_method_10_code 40 = .ok (.iload_n 1, 1) := by decide +kernel
theorem dM_turn_41 : decode prog_6_method_10_code 41 = .ok (.iadd, 1) := by decide +kernel
theorem dM_turn_42 : decode prog_6_method_10_code 42 = .ok (.iload_n 3, 1) := by decide +kernel
theorem dM_turn_43 : decode prog_6_method_10_code 43 = .ok (.bastore, 1) := by decide +kernel
theorem dM_turn_44 : decode prog_6_method_10_code 44 = .ok (.return_, 1) := by decide +kernel
theorem dM_edge_0 : decode prog_6_method_11_code 0 = .ok (.aload_n 0, 1) := by decide +kernel
theorem dM_edge_1 : decode prog_6_method_11_code 1 = .ok (.iload_n 1, 1) := by decide +kernel
theorem dM_edge_2 : decode prog_6_method_11_code 2 = .ok (.iload_n 2, 1) := by decide +kernel
theorem dM_edge_3 : decode prog_6_method_11_code 3 = .ok (.invokevirtual 67, 3) := by decide +kernel
theorem dM_edge_6 : decode prog_6_method_11_code 6 = .ok (.ifCond .ne 6, 3) := by decide +kernel
theorem dM_edge_9 : decode prog_6_method_11_code 9 = .ok (.bipush (-3), 2) := by decide +kernel
theorem dM_edge_11 : decode prog_6_method_11_code 11 = .ok (.ireturn, 1) := by decide +kernel
theorem dM_edge_12 : decode prog_6_method_11_code 12 = .ok (.aload_n 0, 1) := by decide +kernel
theorem dM_edge_13 : decode prog_6_method_11_code 13 = .ok (.invokevirtual 71, 3) := by decide +kernel
theorem dM_edge_16 : decode prog_6_method_11_code 16 = .ok (.iconst 0, 1) := by decide +kernel
theorem dM_edge_17 : decode prog_6_method_11_code 17 = .ok (.istore_n 3, 1) := by decide +kernel
theorem dM_edge_18 : decode prog_6_method_11_code 18 = .ok (.iload_n 3, 1) := by decide +kernel
theorem dM_edge_19 : decode prog_6_method_11_code 19 = .ok (.bipush 15, 2) := by decide +kernel
theorem dM_edge_21 : decode prog_6_method_11_code 21 = .ok (.if_icmp .ge 21, 3) := by decide +kernel
theorem dM_edge_24 : decode prog_6_method_11_code 24 = .ok (.aload_n 0, 1) := by decide +kernel
theorem dM_edge_25 : decode prog_6_method_11_code 25 = .ok (.getfield 20, 3) := by decide +kernel
theorem dM_edge_28 : decode prog_6_method_11_code 28 = .ok (.iload_n 3, 1) := by decide +kernel
theorem dM_edge_29 : decode prog_6_method_11_code 29 = .ok (.aload_n 0, 1) := by decide +kernel
theorem dM_edge_30 : decode prog_6_method_11_code 30 = .ok (.getfield 23, 3) := by decide +kernel
theorem dM_edge_33 : decode prog_6_method_11_code 33 = .ok (.iload_n 3, 1) := by decide +kernel
theorem dM_edge_34 : decode prog_6_method_11_code 34 = .ok (.iaload, 1) := by decide +kernel
theorem dM_edge_35 : decode prog_6_method_11_code 35 = .ok (.iastore, 1) := by decide +kernel
theorem dM_edge_36 : decode prog_6_method_11_code 36 = .ok (.iinc 3 1, 3) := by decide +kernel
theorem dM_edge_39 : decode prog_6_method_11_code 39 = .ok (.goto (-21), 3) := by decide +kernel
theorem dM_edge_42 : decode prog_6_method_11_code 42 = .ok (.aload_n 0, 1) := by decide +kernel
theorem dM_edge_43 : decode prog_6_method_11_code 43 = .ok (.iconst 1, 1) := by decide +kernel
theorem dM_edge_44 : decode prog_6_method_11_code 44 = .ok (.putfield 63, 3) := by decide +kernel
theorem dM_edge_47 : decode prog_6_method_11_code 47 = .ok (.aload_n 0, 1) := by decide +kernel
theorem dM_edge_48 : decode prog_6_method_11_code 48 = .ok (.iload_n 1, 1) := by decide +kernel
theorem dM_edge_49 : decode prog_6_method_11_code 49 = .ok (.iload_n 2, 1) := by decide +kernel
theorem dM_edge_50 : decode prog_6_method_11_code 50 = .ok (.invokevirtual 74, 3) := by decide +kernel
theorem dM_edge_53 : decode prog_6_method_11_code 53 = .ok (.aload_n 0, 1) := by decide +kernel
theorem dM_edge_54 : decode prog_6_method_11_code 54 = .ok (.getfield 16, 3) := by decide +kernel
theorem dM_edge_57 : decode prog_6_method_11_code 57 = .ok (.bipush 14, 2) := by decide +kernel
theorem dM_edge_59 : decode prog_6_method_11_code 59 = .ok (.iload_n 1, 1) := by decide +kernel
theorem dM_edge_60 : decode prog_6_method_11_code 60 = .ok (.imul, 1) := by decide +kernel
theorem dM_edge_61 : decode prog_6_method_11_code 61 = .ok (.iload_n 2, 1) := by decide +kernel
theorem dM_edge_62 : decode prog_6_method_11_code 62 = .ok (.iadd, 1) := by decide +kernel
theorem dM_edge_63 : decode prog_6_method_11_code 63 = .ok (.baload, 1) := by decide +kernel
theorem dM_edge_64 : decode prog_6_method_11_code 64 = .ok (.ifCond .eq 7, 3) := by decide +kernel
theorem dM_edge_67 : decode prog_6_method_11_code 67 = .ok (.iconst 1, 1) := by decide +kernel
theorem dM_edge_68 : decode prog_6_method_11_code 68 = .ok (.goto 4, 3) := by decide +kernel
theorem dM_edge_71 : decode prog_6_method_11_code 71 = .ok (.iconst 0, 1) := by decide +kernel
theorem dM_edge_72 : decode prog_6_method_11_code 72 = .ok (.ireturn, 1) := by decide +kernel
theorem dM_colour_0 : decode prog_6_method_12_code 0 = .ok (.iload_n 2, 1) := by decide +kernel
theorem dM_colour_1 : decode prog_6_method_12_code 1 = .ok (.iconst 0, 1) := by decide +kernel
theorem dM_colour_2 : decode prog_6_method_12_code 2 = .ok (.iconst 3, 1) := by decide +kernel
theorem dM_colour_3 : decode prog_6_method_12_code 3 = .ok (.invokestatic 51, 3) := by decide +kernel
theorem dM_colour_6 : decode prog_6_method_12_code 6 = .ok (.ifCond .ne 6, 3) := by decide +kernel
theorem dM_colour_9 : decode prog_6_method_12_code 9 = .ok (.bipush (-2), 2) := by decide +kernel
theorem dM_colour_11 : decode prog_6_method_12_code 11 = .ok (.ireturn, 1) := by decide +kernel
theorem dM_colour_12 : decode prog_6_method_12_code 12 = .ok (.aload_n 0, 1) := by decide +kernel
theorem dM_colour_13 : decode prog_6_method_12_code 13 = .ok (.iload_n 1, 1) := by decide +kernel
theorem dM_colour_14 : decode prog_6_method_12_code 14 = .ok (.invokevirtual 55, 3) := by decide +kernel
theorem dM_colour_17 : decode prog_6_method_12_code 17 = .ok (.ifCond .ne 6, 3) := by decide +kernel
theorem dM_colour_20 : decode prog_6_method_12_code 20 = .ok (.bipush (-3), 2) := by decide +kernel
theorem dM_colour_22 : decode prog_6_method_12_code 22 = .ok (.ireturn, 1) := by decide +kernel
theorem dM_colour_23 : decode prog_6_method_12_code 23 = .ok (.aload_n 0, 1) := by decide +kernel
theorem dM_colour_24 : decode prog_6_method_12_code 24 = .ok (.getfield 13, 3) := by decide +kernel
theorem dM_colour_27 : decode prog_6_method_12_code 27 = .ok (.iload_n 1, 1) := by decide +kernel
theorem dM_colour_28 : decode prog_6_method_12_code 28 = .ok (.iaload, 1) := by decide +kernel
theorem dM_colour_29 : decode prog_6_method_12_code 29 = .ok (.istore_n 3, 1) := by decide +kernel
theorem dM_colour_30 : decode prog_6_method_12_code 30 = .ok (.aload_n 0, 1) := by decide +kernel
theorem dM_colour_31 : decode prog_6_method_12_code 31 = .ok (.getfield 13, 3) := by decide +kernel
theorem dM_colour_34 : decode prog_6_method_12_code 34 = .ok (.iload_n 1, 1) := by decide +kernel
theorem dM_colour_35 : decode prog_6_method_12_code 35 = .ok (.iload_n 2, 1) := by decide +kernel
theorem dM_colour_36 : decode prog_6_method_12_code 36 = .ok (.iastore, 1) := by decide +kernel
theorem dM_colour_37 : decode prog_6_method_12_code 37 = .ok (.iload_n 3, 1) := by decide +kernel
theorem dM_colour_38 : decode prog_6_method_12_code 38 = .ok (.ireturn, 1) := by decide +kernel
theorem dM_told_0 : decode prog_6_method_13_code 0 = .ok (.iload_n 1, 1) := by decide +kernel
theorem dM_told_1 : decode prog_6_method_13_code 1 = .ok (.ifCond .ne 8, 3) := by decide +kernel
theorem dM_told_4 : decode prog_6_method_13_code 4 = .ok (.aload_n 0, 1) := by decide +kernel
theorem dM_told_5 : decode prog_6_method_13_code 5 = .ok (.getfield 47, 3) := by decide +kernel
theorem dM_told_8 : decode prog_6_method_13_code 8 = .ok (.ireturn, 1) := by decide +kernel
theorem dM_told_9 : decode prog_6_method_13_code 9 = .ok (.iload_n 1, 1) := by decide +kernel
theorem dM_told_10 : decode prog_6_method_13_code 10 = .ok (.iconst 1, 1) := by decide +kernel
theorem dM_told_11 : decode prog_6_method_13_code 11 = .ok (.if_icmp .eq 6, 3) := by decide +kernel
theorem dM_told_14 : decode prog_6_method_13_code 14 = .ok (.bipush (-2), 2) := by decide +kernel
theorem dM_told_16 : decode prog_6_method_13_code 16 = .ok (.ireturn, 1) := by decide +kernel
theorem dM_told_17 : decode prog_6_method_13_code 17 = .ok (.iconst 0, 1) := by decide +kernel
theorem dM_told_18 : decode prog_6_method_13_code 18 = .ok (.istore_n 2, 1) := by decide +kernel
theorem dM_told_19 : decode prog_6_method_13_code 19 = .ok (.iconst 0, 1) := by decide +kernel
theorem dM_told_20 : decode prog_6_method_13_code 20 = .ok (.istore_n 3, 1) := by decide +kernel
theorem dM_told_21 : decode prog_6_method_13_code 21 = .ok (.iload_n 3, 1) := by decide +kernel
theorem dM_told_22 : decode prog_6_method_13_code 22 = .ok (.aload_n 0, 1) := by decide +kernel
theorem dM_told_23 : decode prog_6_method_13_code 23 = .ok (.getfield 47, 3) := by decide +kernel
theorem dM_told_26 : decode prog_6_method_13_code 26 = .ok (.if_icmp .ge 47, 3) := by decide +kernel
theorem dM_told_29 : decode prog_6_method_13_code 29 = .ok (.iconst 0, 1) := by decide +kernel
theorem dM_told_30 : decode prog_6_method_13_code 30 = .ok (.istore 4, 2) := by decide +kernel
theorem dM_told_32 : decode prog_6_method_13_code 32 = .ok (.iload 4, 2) := by decide +kernel
theorem dM_told_34 : decode prog_6_method_13_code 34 = .ok (.iload_n 3, 1) := by decide +kernel
theorem dM_told_35 : decode prog_6_method_13_code 35 = .ok (.if_icmp .ge 32, 3) := by decide +kernel
theorem dM_told_38 : decode prog_6_method_13_code 38 = .ok (.iload_n 2, 1) := by decide +kernel
theorem dM_told_39 : decode prog_6_method_13_code 39 = .ok (.aload_n 0, 1) := by decide +kernel
theorem dM_told_40 : decode prog_6_method_13_code 40 = .ok (.getfield 16, 3) := by decide +kernel
theorem dM_told_43 : decode prog_6_method_13_code 43 = .ok (.bipush 14, 2) := by decide +kernel
theorem dM_told_45 : decode prog_6_method_13_code 45 = .ok (.iload_n 3, 1) := by decide +kernel
theorem dM_told_46 : decode prog_6_method_13_code 46 = .ok (.imul, 1) := by decide +kernel
theorem dM_told_47 : decode prog_6_method_13_code 47 = .ok (.iload 4, 2) := by decide +kernel
theorem dM_told_49 : decode prog_6_method_13_code 49 = .ok (.iadd, 1) := by decide +kernel
theorem dM_told_50 : decode prog_6_method_13_code 50 = .ok (.baload, 1) := by decide +kernel
theorem dM_told_51 : decode prog_6_method_13_code 51 = .ok (.ifCond .eq 7, 3) := by decide +kernel
theorem dM_told_54 : decode prog_6_method_13_code 54 = .ok (.iconst 1, 1) := by decide +kernel
theorem dM_told_55 : decode prog_6_method_13_code 55 = .ok (.goto 4, 3) := by decide +kernel
theorem dM_told_58 : decode prog_6_method_13_code 58 = .ok (.iconst 0, 1) := by decide +kernel
theorem dM_told_59 : decode prog_6_method_13_code 59 = .ok (.iadd, 1) := by decide +kernel
theorem dM_told_60 : decode prog_6_method_13_code 60 = .ok (.istore_n 2, 1) := by decide +kernel
theorem dM_told_61 : decode prog_6_method_13_code 61 = .ok (.iinc 4 1, 3) := by decide +kernel
theorem dM_told_64 : decode prog_6_method_13_code 64 = .ok (.goto (-32), 3) := by decide +kernel
theorem dM_told_67 : decode prog_6_method_13_code 67 = .ok (.iinc 3 1, 3) := by decide +kernel
theorem dM_told_70 : decode prog_6_method_13_code 70 = .ok (.goto (-49), 3) := by decide +kernel
theorem dM_told_73 : decode prog_6_method_13_code 73 = .ok (.iload_n 2, 1) := by decide +kernel
theorem dM_told_74 : decode prog_6_method_13_code 74 = .ok (.ireturn, 1) := by decide +kernel
theorem dM_degree_0 : decode prog_6_method_14_code 0 = .ok (.aload_n 0, 1) := by decide +kernel
theorem dM_degree_1 : decode prog_6_method_14_code 1 = .ok (.iload_n 1, 1) := by decide +kernel
theorem dM_degree_2 : decode prog_6_method_14_code 2 = .ok (.invokevirtual 55, 3) := by decide +kernel
theorem dM_degree_5 : decode prog_6_method_14_code 5 = .ok (.ifCond .ne 6, 3) := by decide +kernel
theorem dM_degree_8 : decode prog_6_method_14_code 8 = .ok (.bipush (-3), 2) := by decide +kernel
theorem dM_degree_10 : decode prog_6_method_14_code 10 = .ok (.ireturn, 1) := by decide +kernel
theorem dM_degree_11 : decode prog_6_method_14_code 11 = .ok (.iconst 0, 1) := by decide +kernel
theorem dM_degree_12 : decode prog_6_method_14_code 12 = .ok (.istore_n 2, 1) := by decide +kernel
theorem dM_degree_13 : decode prog_6_method_14_code 13 = .ok (.iconst 0, 1) := by decide +kernel
theorem dM_degree_14 : decode prog_6_method_14_code 14 = .ok (.istore_n 3, 1) := by decide +kernel
theorem dM_degree_15 : decode prog_6_method_14_code 15 = .ok (.iload_n 3, 1) := by decide +kernel
theorem dM_degree_16 : decode prog_6_method_14_code 16 = .ok (.aload_n 0, 1) := by decide +kernel
theorem dM_degree_17 : decode prog_6_method_14_code 17 = .ok (.getfield 47, 3) := by decide +kernel
theorem dM_degree_20 : decode prog_6_method_14_code 20 = .ok (.if_icmp .ge 31, 3) := by decide +kernel
theorem dM_degree_23 : decode prog_6_method_14_code 23 = .ok (.iload_n 2, 1) := by decide +kernel
theorem dM_degree_24 : decode prog_6_method_14_code 24 = .ok (.aload_n 0, 1) := by decide +kernel
theorem dM_degree_25 : decode prog_6_method_14_code 25 = .ok (.getfield 16, 3) := by decide +kernel
theorem dM_degree_28 : decode prog_6_method_14_code 28 = .ok (.bipush 14, 2) := by decide +kernel
theorem dM_degree_30 : decode prog_6_method_14_code 30 = .ok (.iload_n 1, 1) := by decide +kernel
theorem dM_degree_31 : decode prog_6_method_14_code 31 = .ok (.imul, 1) := by decide +kernel
theorem dM_degree_32 : decode prog_6_method_14_code 32 = .ok (.iload_n 3, 1) := by decide +kernel
theorem dM_degree_33 : decode prog_6_method_14_code 33 = .ok (.iadd, 1) := by decide +kernel
theorem dM_degree_34 : decode prog_6_method_14_code 34 = .ok (.baload, 1) := by decide +kernel
theorem dM_degree_35 : decode prog_6_method_14_code 35 = .ok (.ifCond .eq 7, 3) := by decide +kernel
theorem dM_degree_38 : decode prog_6_method_14_code 38 = .ok (.iconst 1, 1) := by decide +kernel
theorem dM_degree_39 : decode prog_6_method_14_code 39 = .ok (.goto 4, 3) := by decide +kernel
theorem dM_degree_42 : decode prog_6_method_14_code 42 = .ok (.iconst 0, 1) := by decide +kernel
theorem dM_degree_43 : decode prog_6_method_14_code 43 = .ok (.iadd, 1) := by decide +kernel
theorem dM_degree_44 : decode prog_6_method_14_code 44 = .ok (.istore_n 2, 1) := by decide +kernel
theorem dM_degree_45 : decode prog_6_method_14_code 45 = .ok (.iinc 3 1, 3) := by decide +kernel
theorem dM_degree_48 : decode prog_6_method_14_code 48 = .ok (.goto (-33), 3) := by decide +kernel
theorem dM_degree_51 : decode prog_6_method_14_code 51 = .ok (.iload_n 2, 1) := by decide +kernel
theorem dM_degree_52 : decode prog_6_method_14_code 52 = .ok (.ireturn, 1) := by decide +kernel
theorem dM_both_0 : decode prog_6_method_15_code 0 = .ok (.aload_n 0, 1) := by decide +kernel
theorem dM_both_1 : decode prog_6_method_15_code 1 = .ok (.iload_n 1, 1) := by decide +kernel
theorem dM_both_2 : decode prog_6_method_15_code 2 = .ok (.iload_n 2, 1) := by decide +kernel
theorem dM_both_3 : decode prog_6_method_15_code 3 = .ok (.invokevirtual 67, 3) := by decide +kernel
theorem dM_both_6 : decode prog_6_method_15_code 6 = .ok (.ifCond .ne 6, 3) := by decide +kernel
theorem dM_both_9 : decode prog_6_method_15_code 9 = .ok (.bipush (-3), 2) := by decide +kernel
theorem dM_both_11 : decode prog_6_method_15_code 11 = .ok (.ireturn, 1) := by decide +kernel
theorem dM_both_12 : decode prog_6_method_15_code 12 = .ok (.iconst 0, 1) := by decide +kernel
theorem dM_both_13 : decode prog_6_method_15_code 13 = .ok (.istore_n 3, 1) := by decide +kernel
theorem dM_both_14 : decode prog_6_method_15_code 14 = .ok (.iconst 0, 1) := by decide +kernel
theorem dM_both_15 : decode prog_6_method_15_code 15 = .ok (.istore 4, 2) := by decide +kernel
theorem dM_both_17 : decode prog_6_method_15_code 17 = .ok (.iload 4, 2) := by decide +kernel
theorem dM_both_19 : decode prog_6_method_15_code 19 = .ok (.aload_n 0, 1) := by decide +kernel
theorem dM_both_20 : decode prog_6_method_15_code 20 = .ok (.getfield 47, 3) := by decide +kernel
theorem dM_both_23 : decode prog_6_method_15_code 23 = .ok (.if_icmp .ge 47, 3) := by decide +kernel
theorem dM_both_26 : decode prog_6_method_15_code 26 = .ok (.iload_n 3, 1) := by decide +kernel
theorem dM_both_27 : decode prog_6_method_15_code 27 = .ok (.aload_n 0, 1) := by decide +kernel
theorem dM_both_28 : decode prog_6_method_15_code 28 = .ok (.getfield 16, 3) := by decide +kernel
theorem dM_both_31 : decode prog_6_method_15_code 31 = .ok (.bipush 14, 2) := by decide +kernel
theorem dM_both_33 : decode prog_6_method_15_code 33 = .ok (.iload_n 1, 1) := by decide +kernel
theorem dM_both_34 : decode prog_6_method_15_code 34 = .ok (.imul, 1) := by decide +kernel
theorem dM_both_35 : decode prog_6_method_15_code 35 = .ok (.iload 4, 2) := by decide +kernel
theorem dM_both_37 : decode prog_6_method_15_code 37 = .ok (.iadd, 1) := by decide +kernel
theorem dM_both_38 : decode prog_6_method_15_code 38 = .ok (.baload, 1) := by decide +kernel
theorem dM_both_39 : decode prog_6_method_15_code 39 = .ok (.ifCond .eq 22, 3) := by decide +kernel
theorem dM_both_42 : decode prog_6_method_15_code 42 = .ok (.aload_n 0, 1) := by decide +kernel
theorem dM_both_43 : decode prog_6_method_15_code 43 = .ok (.getfield 16, 3) := by decide +kernel
theorem dM_both_46 : decode prog_6_method_15_code 46 = .ok (.bipush 14, 2) := by decide +kernel
theorem dM_both_48 : decode prog_6_method_15_code 48 = .ok (.iload_n 2, 1) := by decide +kernel
theorem dM_both_49 : decode prog_6_method_15_code 49 = .ok (.imul, 1) := by decide +kernel
theorem dM_both_50 : decode prog_6_method_15_code 50 = .ok (.iload 4, 2) := by decide +kernel
theorem dM_both_52 : decode prog_6_method_15_code 52 = .ok (.iadd, 1) := by decide +kernel
theorem dM_both_53 : decode prog_6_method_15_code 53 = .ok (.baload, 1) := by decide +kernel
theorem dM_both_54 : decode prog_6_method_15_code 54 = .ok (.ifCond .eq 7, 3) := by decide +kernel
theorem dM_both_57 : decode prog_6_method_15_code 57 = .ok (.iconst 1, 1) := by decide +kernel
theorem dM_both_58 : decode prog_6_method_15_code 58 = .ok (.goto 4, 3) := by decide +kernel
theorem dM_both_61 : decode prog_6_method_15_code 61 = .ok (.iconst 0, 1) := by decide +kernel
theorem dM_both_62 : decode prog_6_method_15_code 62 = .ok (.iadd, 1) := by decide +kernel
theorem dM_both_63 : decode prog_6_method_15_code 63 = .ok (.istore_n 3, 1) := by decide +kernel
theorem dM_both_64 : decode prog_6_method_15_code 64 = .ok (.iinc 4 1, 3) := by decide +kernel
theorem dM_both_67 : decode prog_6_method_15_code 67 = .ok (.goto (-50), 3) := by decide +kernel
theorem dM_both_70 : decode prog_6_method_15_code 70 = .ok (.iload_n 3, 1) := by decide +kernel
theorem dM_both_71 : decode prog_6_method_15_code 71 = .ok (.ireturn, 1) := by decide +kernel
theorem dM_begins_0 : decode prog_6_method_16_code 0 = .ok (.aload_n 0, 1) := by decide +kernel
theorem dM_begins_1 : decode prog_6_method_16_code 1 = .ok (.iload_n 1, 1) := by decide +kernel
theorem dM_begins_2 : decode prog_6_method_16_code 2 = .ok (.putfield 78, 3) := by decide +kernel
theorem dM_begins_5 : decode prog_6_method_16_code 5 = .ok (.iconst 0, 1) := by decide +kernel
theorem dM_begins_6 : decode prog_6_method_16_code 6 = .ok (.istore_n 2, 1) := by decide +kernel
theorem dM_begins_7 : decode prog_6_method_16_code 7 = .ok (.iload_n 2, 1) := by decide +kernel
theorem dM_begins_8 : decode prog_6_method_16_code 8 = .ok (.aload_n 0, 1) := by decide +kernel
theorem dM_begins_9 : decode prog_6_method_16_code 9 = .ok (.getfield 78, 3) := by decide +kernel
theorem dM_begins_12 : decode prog_6_method_16_code 12 = .ok (.if_icmp .ge 16, 3) := by decide +kernel
theorem dM_begins_15 : decode prog_6_method_16_code 15 = .ok (.aload_n 0, 1) := by decide +kernel
theorem dM_begins_16 : decode prog_6_method_16_code 16 = .ok (.getfield 26, 3) := by decide +kernel
theorem dM_begins_19 : decode prog_6_method_16_code 19 = .ok (.iload_n 2, 1) := by decide +kernel
theorem dM_begins_20 : decode prog_6_method_16_code 20 = .ok (.iload_n 2, 1) := by decide +kernel
theorem dM_begins_21 : decode prog_6_method_16_code 21 = .ok (.iastore, 1) := by decide +kernel
theorem dM_begins_22 : decode prog_6_method_16_code 22 = .ok (.iinc 2 1, 3) := by decide +kernel
theorem dM_begins_25 : decode prog_6_method_16_code 25 = .ok (.goto (-18), 3) := by decide +kernel
theorem dM_begins_28 : decode prog_6_method_16_code 28 = .ok (.aload_n 0, 1) := by decide +kernel
theorem dM_begins_29 : decode prog_6_method_16_code 29 = .ok (.getfield 47, 3) := by decide +kernel
theorem dM_begins_32 : decode prog_6_method_16_code 32 = .ok (.aload_n 0, 1) := by decide +kernel
theorem dM_begins_33 : decode prog_6_method_16_code 33 = .ok (.getfield 78, 3) := by decide +kernel
theorem dM_begins_36 : decode prog_6_method_16_code 36 = .ok (.if_icmp .lt 7, 3) := by decide +kernel
theorem dM_begins_39 : decode prog_6_method_16_code 39 = .ok (.iconst 1, 1) := by decide +kernel
theorem dM_begins_40 : decode prog_6_method_16_code 40 = .ok (.goto 4, 3) := by decide +kernel
theorem dM_begins_43 : decode prog_6_method_16_code 43 = .ok (.iconst 0, 1) := by decide +kernel
theorem dM_begins_44 : decode prog_6_method_16_code 44 = .ok (.ireturn, 1) := by decide +kernel
theorem dM_goesOn_0 : decode prog_6_method_17_code 0 = .ok (.aload_n 0, 1) := by decide +kernel
theorem dM_goesOn_1 : decode prog_6_method_17_code 1 = .ok (.getfield 78, 3) := by decide +kernel
theorem dM_goesOn_4 : decode prog_6_method_17_code 4 = .ok (.iconst 1, 1) := by decide +kernel
theorem dM_goesOn_5 : decode prog_6_method_17_code 5 = .ok (.isub, 1) := by decide +kernel
theorem dM_goesOn_6 : decode prog_6_method_17_code 6 = .ok (.istore_n 1, 1) := by decide +kernel
theorem dM_goesOn_7 : decode prog_6_method_17_code 7 = .ok (.iload_n 1, 1) := by decide +kernel
theorem dM_goesOn_8 : decode prog_6_method_17_code 8 = .ok (.ifCond .lt 29, 3) := by decide +kernel
theorem dM_goesOn_11 : decode prog_6_method_17_code 11 = .ok (.aload_n 0, 1) := by decide +kernel
theorem dM_goesOn_12 : decode prog_6_method_17_code 12 = .ok (.getfield 26, 3) := by decide +kernel
theorem dM_goesOn_15 : decode prog_6_method_17_code 15 = .ok (.iload_n 1, 1) := by decide +kernel
theorem dM_goesOn_16 : decode prog_6_method_17_code 16 = .ok (.iaload, 1) := by decide +kernel
theorem dM_goesOn_17 : decode prog_6_method_17_code 17 = .ok (.aload_n 0, 1) := by decide +kernel
theorem dM_goesOn_18 : decode prog_6_method_17_code 18 = .ok (.getfield 47, 3) := by decide +kernel
theorem dM_goesOn_21 : decode prog_6_method_17_code 21 = .ok (.aload_n 0, 1) := by decide +kernel
theorem dM_goesOn_22 : decode prog_6_method_17_code 22 = .ok (.getfield 78, 3) := by decide +kernel
theorem dM_goesOn_25 : decode prog_6_method_17_code 25 = .ok (.isub, 1) := by decide +kernel
theorem dM_goesOn_26 : decode prog_6_method_17_code 26 = .ok (.iload_n 1, 1) := by decide +kernel
theorem dM_goesOn_27 : decode prog_6_method_17_code 27 = .ok (.iadd, 1) := by decide +kernel
theorem dM_goesOn_28 : decode prog_6_method_17_code 28 = .ok (.if_icmp .ne 9, 3) := by decide +kernel
theorem dM_goesOn_31 : decode prog_6_method_17_code 31 = .ok (.iinc 1 (-1), 3) := by decide +kernel
theorem dM_goesOn_34 : decode prog_6_method_17_code 34 = .ok (.goto (-27), 3) := by decide +kernel
theorem dM_goesOn_37 : decode prog_6_method_17_code 37 = .ok (.iload_n 1, 1) := by decide +kernel
theorem dM_goesOn_38 : decode prog_6_method_17_code 38 = .ok (.ifCond .ge 5, 3) := by decide +kernel
theorem dM_goesOn_41 : decode prog_6_method_17_code 41 = .ok (.iconst 0, 1) := by decide +kernel
theorem dM_goesOn_42 : decode prog_6_method_17_code 42 = .ok (.ireturn, 1) := by decide +kernel
theorem dM_goesOn_43 : decode prog_6_method_17_code 43 = .ok (.aload_n 0, 1) := by decide +kernel
theorem dM_goesOn_44 : decode prog_6_method_17_code 44 = .ok (.getfield 26, 3) := by decide +kernel
theorem dM_goesOn_47 : decode prog_6_method_17_code 47 = .ok (.iload_n 1, 1) := by decide +kernel
theorem dM_goesOn_48 : decode prog_6_method_17_code 48 = .ok (.dup2, 1) := by decide +kernel
theorem dM_goesOn_49 : decode prog_6_method_17_code 49 = .ok (.iaload, 1) := by decide +kernel
theorem dM_goesOn_50 : decode prog_6_method_17_code 50 = .ok (.iconst 1, 1) := by decide +kernel
theorem dM_goesOn_51 : decode prog_6_method_17_code 51 = .ok (.iadd, 1) := by decide +kernel
theorem dM_goesOn_52 : decode prog_6_method_17_code 52 = .ok (.iastore, 1) := by decide +kernel
theorem dM_goesOn_53 : decode prog_6_method_17_code 53 = .ok (.iload_n 1, 1) := by decide +kernel
theorem dM_goesOn_54 : decode prog_6_method_17_code 54 = .ok (.iconst 1, 1) := by decide +kernel
theorem dM_goesOn_55 : decode prog_6_method_17_code 55 = .ok (.iadd, 1) := by decide +kernel
theorem dM_goesOn_56 : decode prog_6_method_17_code 56 = .ok (.istore_n 2, 1) := by decide +kernel
theorem dM_goesOn_57 : decode prog_6_method_17_code 57 = .ok (.iload_n 2, 1) := by decide +kernel
theorem dM_goesOn_58 : decode prog_6_method_17_code 58 = .ok (.aload_n 0, 1) := by decide +kernel
theorem dM_goesOn_59 : decode prog_6_method_17_code 59 = .ok (.getfield 78, 3) := by decide +kernel
theorem dM_goesOn_62 : decode prog_6_method_17_code 62 = .ok (.if_icmp .ge 25, 3) := by decide +kernel
theorem dM_goesOn_65 : decode prog_6_method_17_code 65 = .ok (.aload_n 0, 1) := by decide +kernel
theorem dM_goesOn_66 : decode prog_6_method_17_code 66 = .ok (.getfield 26, 3) := by decide +kernel
theorem dM_goesOn_69 : decode prog_6_method_17_code 69 = .ok (.iload_n 2, 1) := by decide +kernel
theorem dM_goesOn_70 : decode prog_6_method_17_code 70 = .ok (.aload_n 0, 1) := by decide +kernel
theorem dM_goesOn_71 : decode prog_6_method_17_code 71 = .ok (.getfield 26, 3) := by decide +kernel
theorem dM_goesOn_74 : decode prog_6_method_17_code 74 = .ok (.iload_n 2, 1) := by decide +kernel
theorem dM_goesOn_75 : decode prog_6_method_17_code 75 = .ok (.iconst 1, 1) := by decide +kernel
theorem dM_goesOn_76 : decode prog_6_method_17_code 76 = .ok (.isub, 1) := by decide +kernel
theorem dM_goesOn_77 : decode prog_6_method_17_code 77 = .ok (.iaload, 1) := by decide +kernel
theorem dM_goesOn_78 : decode prog_6_method_17_code 78 = .ok (.iconst 1, 1) := by decide +kernel
theorem dM_goesOn_79 : decode prog_6_method_17_code 79 = .ok (.iadd, 1) := by decide +kernel
theorem dM_goesOn_80 : decode prog_6_method_17_code 80 = .ok (.iastore, 1) := by decide +kernel
theorem dM_goesOn_81 : decode prog_6_method_17_code 81 = .ok (.iinc 2 1, 3) := by decide +kernel
theorem dM_goesOn_84 : decode prog_6_method_17_code 84 = .ok (.goto (-27), 3) := by decide +kernel
theorem dM_goesOn_87 : decode prog_6_method_17_code 87 = .ok (.iconst 1, 1) := by decide +kernel
theorem dM_goesOn_88 : decode prog_6_method_17_code 88 = .ok (.ireturn, 1) := by decide +kernel
theorem dM_degreeIn_0 : decode prog_6_method_18_code 0 = .ok (.iconst 0, 1) := by decide +kernel
theorem dM_degreeIn_1 : decode prog_6_method_18_code 1 = .ok (.istore_n 2, 1) := by decide +kernel
theorem dM_degreeIn_2 : decode prog_6_method_18_code 2 = .ok (.iconst 0, 1) := by decide +kernel
theorem dM_degreeIn_3 : decode prog_6_method_18_code 3 = .ok (.istore_n 3, 1) := by decide +kernel
theorem dM_degreeIn_4 : decode prog_6_method_18_code 4 = .ok (.iload_n 3, 1) := by decide +kernel
theorem dM_degreeIn_5 : decode prog_6_method_18_code 5 = .ok (.aload_n 0, 1) := by decide +kernel
theorem dM_degreeIn_6 : decode prog_6_method_18_code 6 = .ok (.getfield 78, 3) := by decide +kernel
theorem dM_degreeIn_9 : decode prog_6_method_18_code 9 = .ok (.if_icmp .ge 36, 3) := by decide +kernel
theorem dM_degreeIn_12 : decode prog_6_method_18_code 12 = .ok (.iload_n 2, 1) := by decide +kernel
theorem dM_degreeIn_13 : decode prog_6_method_18_code 13 = .ok (.aload_n 0, 1) := by decide +kernel
theorem dM_degreeIn_14 : decode prog_6_method_18_code 14 = .ok (.getfield 16, 3) := by decide +kernel
theorem dM_degreeIn_17 : decode prog_6_method_18_code 17 = .ok (.bipush 14, 2) := by decide +kernel
theorem dM_degreeIn_19 : decode prog_6_method_18_code 19 = .ok (.iload_n 1, 1) := by decide +kernel
theorem dM_degreeIn_20 : decode prog_6_method_18_code 20 = .ok (.imul, 1) := by decide +kernel
theorem dM_degreeIn_21 : decode prog_6_method_18_code 21 = .ok (.aload_n 0, 1) := by decide +kernel
theorem dM_degreeIn_22 : decode prog_6_method_18_code 22 = .ok (.getfield 26, 3) := by decide +kernel
theorem dM_degreeIn_25 : decode prog_6_method_18_code 25 = .ok (.iload_n 3, 1) := by decide +kernel
theorem dM_degreeIn_26 : decode prog_6_method_18_code 26 = .ok (.iaload, 1) := by decide +kernel
theorem dM_degreeIn_27 : decode prog_6_method_18_code 27 = .ok (.iadd, 1) := by decide +kernel
theorem dM_degreeIn_28 : decode prog_6_method_18_code 28 = .ok (.baload, 1) := by decide +kernel
theorem dM_degreeIn_29 : decode prog_6_method_18_code 29 = .ok (.ifCond .eq 7, 3) := by decide +kernel
theorem dM_degreeIn_32 : decode prog_6_method_18_code 32 = .ok (.iconst 1, 1) := by decide +kernel
theorem dM_degreeIn_33 : decode prog_6_method_18_code 33 = .ok (.goto 4, 3) := by decide +kernel
theorem dM_degreeIn_36 : decode prog_6_method_18_code 36 = .ok (.iconst 0, 1) := by decide +kernel
theorem dM_degreeIn_37 : decode prog_6_method_18_code 37 = .ok (.iadd, 1) := by decide +kernel
theorem dM_degreeIn_38 : decode prog_6_method_18_code 38 = .ok (.istore_n 2, 1) := by decide +kernel
theorem dM_degreeIn_39 : decode prog_6_method_18_code 39 = .ok (.iinc 3 1, 3) := by decide +kernel
theorem dM_degreeIn_42 : decode prog_6_method_18_code 42 = .ok (.goto (-38), 3) := by decide +kernel
theorem dM_degreeIn_45 : decode prog_6_method_18_code 45 = .ok (.iload_n 2, 1) := by decide +kernel
theorem dM_degreeIn_46 : decode prog_6_method_18_code 46 = .ok (.ireturn, 1) := by decide +kernel
theorem dM_sortAtHand_0 : decode prog_6_method_19_code 0 = .ok (.iconst 0, 1) := by decide +kernel
theorem dM_sortAtHand_1 : decode prog_6_method_19_code 1 = .ok (.istore_n 1, 1) := by decide +kernel
theorem dM_sortAtHand_2 : decode prog_6_method_19_code 2 = .ok (.iload_n 1, 1) := by decide +kernel
theorem dM_sortAtHand_3 : decode prog_6_method_19_code 3 = .ok (.iconst 4, 1) := by decide +kernel
theorem dM_sortAtHand_4 : decode prog_6_method_19_code 4 = .ok (.if_icmp .ge 16, 3) := by decide +kernel
theorem dM_sortAtHand_7 : decode prog_6_method_19_code 7 = .ok (.aload_n 0, 1) := by decide +kernel
theorem dM_sortAtHand_8 : decode prog_6_method_19_code 8 = .ok (.getfield 29, 3) := by decide +kernel
theorem dM_sortAtHand_11 : decode prog_6_method_19_code 11 = .ok (.iload_n 1, 1) := by decide +kernel
theorem dM_sortAtHand_12 : decode prog_6_method_19_code 12 = .ok (.iconst 0, 1) := by decide +kernel
theorem dM_sortAtHand_13 : decode prog_6_method_19_code 13 = .ok (.iastore, 1) := by decide +kernel
theorem dM_sortAtHand_14 : decode prog_6_method_19_code 14 = .ok (.iinc 1 1, 3) := by decide +kernel
theorem dM_sortAtHand_17 : decode prog_6_method_19_code 17 = .ok (.goto (-15), 3) := by decide +kernel
theorem dM_sortAtHand_20 : decode prog_6_method_19_code 20 = .ok (.iconst 0, 1) := by decide +kernel
theorem dM_sortAtHand_21 : decode prog_6_method_19_code 21 = .ok (.istore_n 1, 1) := by decide +kernel
theorem dM_sortAtHand_22 : decode prog_6_method_19_code 22 = .ok (.iload_n 1, 1) := by decide +kernel
theorem dM_sortAtHand_23 : decode prog_6_method_19_code 23 = .ok (.aload_n 0, 1) := by decide +kernel
theorem dM_sortAtHand_24 : decode prog_6_method_19_code 24 = .ok (.getfield 78, 3) := by decide +kernel
theorem dM_sortAtHand_27 : decode prog_6_method_19_code 27 = .ok (.if_icmp .ge 28, 3) := by decide +kernel
theorem dM_sortAtHand_30 : decode prog_6_method_19_code 30 = .ok (.aload_n 0, 1) := by decide +kernel
theorem dM_sortAtHand_31 : decode prog_6_method_19_code 31 = .ok (.getfield 29, 3) := by decide +kernel
theorem dM_sortAtHand_34 : decode prog_6_method_19_code 34 = .ok (.aload_n 0, 1) := by decide +kernel
theorem dM_sortAtHand_35 : decode prog_6_method_19_code 35 = .ok (.aload_n 0, 1) := by decide +kernel
theorem dM_sortAtHand_36 : decode prog_6_method_19_code 36 = .ok (.getfield 26, 3) := by decide +kernel
theorem dM_sortAtHand_39 : decode prog_6_method_19_code 39 = .ok (.iload_n 1, 1) := by decide +kernel
theorem dM_sortAtHand_40 : decode prog_6_method_19_code 40 = .ok (.iaload, 1) := by decide +kernel
theorem dM_sortAtHand_41 : decode prog_6_method_19_code 41 = .ok (.invokevirtual 81, 3) := by decide +kernel
theorem dM_sortAtHand_44 : decode prog_6_method_19_code 44 = .ok (.dup2, 1) := by decide +kernel
theorem dM_sortAtHand_45 : decode prog_6_method_19_code 45 = .ok (.iaload, 1) := by decide +kernel
theorem dM_sortAtHand_46 : decode prog_6_method_19_code 46 = .ok (.iconst 1, 1) := by decide +kernel
theorem dM_sortAtHand_47 : decode prog_6_method_19_code 47 = .ok (.iadd, 1) := by decide +kernel
theorem dM_sortAtHand_48 : decode prog_6_method_19_code 48 = .ok (.iastore, 1) := by decide +kernel
theorem dM_sortAtHand_49 : decode prog_6_method_19_code 49 = .ok (.iinc 1 1, 3) := by decide +kernel
theorem dM_sortAtHand_52 : decode prog_6_method_19_code 52 = .ok (.goto (-30), 3) := by decide +kernel
theorem dM_sortAtHand_55 : decode prog_6_method_19_code 55 = .ok (.iconst 0, 1) := by decide +kernel
theorem dM_sortAtHand_56 : decode prog_6_method_19_code 56 = .ok (.istore_n 1, 1) := by decide +kernel
theorem dM_sortAtHand_57 : decode prog_6_method_19_code 57 = .ok (.iconst 3, 1) := by decide +kernel
theorem dM_sortAtHand_58 : decode prog_6_method_19_code 58 = .ok (.istore_n 2, 1) := by decide +kernel
theorem dM_sortAtHand_59 : decode prog_6_method_19_code 59 = .ok (.iload_n 2, 1) := by decide +kernel
theorem dM_sortAtHand_60 : decode prog_6_method_19_code 60 = .ok (.ifCond .lt 34, 3) := by decide +kernel
theorem dM_sortAtHand_63 : decode prog_6_method_19_code 63 = .ok (.iconst 0, 1) := by decide +kernel
theorem dM_sortAtHand_64 : decode prog_6_method_19_code 64 = .ok (.istore_n 3, 1) := by decide +kernel
theorem dM_sortAtHand_65 : decode prog_6_method_19_code 65 = .ok (.iload_n 3, 1) := by decide +kernel
theorem dM_sortAtHand_66 : decode prog_6_method_19_code 66 = .ok (.aload_n 0, 1) := by decide +kernel
theorem dM_sortAtHand_67 : decode prog_6_method_19_code 67 = .ok (.getfield 29, 3) := by decide +kernel
theorem dM_sortAtHand_70 : decode prog_6_method_19_code 70 = .ok (.iload_n 2, 1) := by decide +kernel
theorem dM_sortAtHand_71 : decode prog_6_method_19_code 71 = .ok (.iaload, 1) := by decide +kernel
theorem dM_sortAtHand_72 : decode prog_6_method_19_code 72 = .ok (.if_icmp .ge 16, 3) := by decide +kernel
theorem dM_sortAtHand_75 : decode prog_6_method_19_code 75 = .ok (.bipush 10, 2) := by decide +kernel
theorem dM_sortAtHand_77 : decode prog_6_method_19_code 77 = .ok (.iload_n 1, 1) := by decide +kernel
theorem dM_sortAtHand_78 : decode prog_6_method_19_code 78 = .ok (.imul, 1) := by decide +kernel
theorem dM_sortAtHand_79 : decode prog_6_method_19_code 79 = .ok (.iload_n 2, 1) := by decide +kernel
theorem dM_sortAtHand_80 : decode prog_6_method_19_code 80 = .ok (.iadd, 1) := by decide +kernel
theorem dM_sortAtHand_81 : decode prog_6_method_19_code 81 = .ok (.istore_n 1, 1) := by decide +kernel
theorem dM_sortAtHand_82 : decode prog_6_method_19_code 82 = .ok (.iinc 3 1, 3) := by decide +kernel
theorem dM_sortAtHand_85 : decode prog_6_method_19_code 85 = .ok (.goto (-20), 3) := by decide +kernel
theorem dM_sortAtHand_88 : decode prog_6_method_19_code 88 = .ok (.iinc 2 (-1), 3) := by decide +kernel
theorem dM_sortAtHand_91 : decode prog_6_method_19_code 91 = .ok (.goto (-32), 3) := by decide +kernel
theorem dM_sortAtHand_94 : decode prog_6_method_19_code 94 = .ok (.iload_n 1, 1) := by decide +kernel
theorem dM_sortAtHand_95 : decode prog_6_method_19_code 95 = .ok (.ireturn, 1) := by decide +kernel
theorem dM_isInSet_0 : decode prog_6_method_20_code 0 = .ok (.iconst 0, 1) := by decide +kernel
theorem dM_isInSet_1 : decode prog_6_method_20_code 1 = .ok (.istore_n 2, 1) := by decide +kernel
theorem dM_isInSet_2 : decode prog_6_method_20_code 2 = .ok (.iconst 0, 1) := by decide +kernel
theorem dM_isInSet_3 : decode prog_6_method_20_code 3 = .ok (.istore_n 3, 1) := by decide +kernel
theorem dM_isInSet_4 : decode prog_6_method_20_code 4 = .ok (.iload_n 3, 1) := by decide +kernel
theorem dM_isInSet_5 : decode prog_6_method_20_code 5 = .ok (.aload_n 0, 1) := by decide +kernel
theorem dM_isInSet_6 : decode prog_6_method_20_code 6 = .ok (.getfield 78, 3) := by decide +kernel
theorem dM_isInSet_9 : decode prog_6_method_20_code 9 = .ok (.if_icmp .ge 29, 3) := by decide +kernel
theorem dM_isInSet_12 : decode prog_6_method_20_code 12 = .ok (.iload_n 2, 1) := by decide +kernel
theorem dM_isInSet_13 : decode prog_6_method_20_code 13 = .ok (.ifCond .ne 13, 3) := by decide +kernel
theorem dM_isInSet_16 : decode prog_6_method_20_code 16 = .ok (.aload_n 0, 1) := by decide +kernel
theorem dM_isInSet_17 : decode prog_6_method_20_code 17 = .ok (.getfield 26, 3) := by decide +kernel
theorem dM_isInSet_20 : decode prog_6_method_20_code 20 = .ok (.iload_n 3, 1) := by decide +kernel
theorem dM_isInSet_21 : decode prog_6_method_20_code 21 = .ok (.iaload, 1) := by decide +kernel
theorem dM_isInSet_22 : decode prog_6_method_20_code 22 = .ok (.iload_n 1, 1) := by decide +kernel
theorem dM_isInSet_23 : decode prog_6_method_20_code 23 = .ok (.if_icmp .ne 7, 3) := by decide +kernel
theorem dM_isInSet_26 : decode prog_6_method_20_code 26 = .ok (.iconst 1, 1) := by decide +kernel
theorem dM_isInSet_27 : decode prog_6_method_20_code 27 = .ok (.goto 4, 3) := by decide +kernel
theorem dM_isInSet_30 : decode prog_6_method_20_code 30 = .ok (.iconst 0, 1) := by decide +kernel
theorem dM_isInSet_31 : decode prog_6_method_20_code 31 = .ok (.istore_n 2, 1) := by decide +kernel
theorem dM_isInSet_32 : decode prog_6_method_20_code 32 = .ok (.iinc 3 1, 3) := by decide +kernel
theorem dM_isInSet_35 : decode prog_6_method_20_code 35 = .ok (.goto (-31), 3) := by decide +kernel
theorem dM_isInSet_38 : decode prog_6_method_20_code 38 = .ok (.iload_n 2, 1) := by decide +kernel
theorem dM_isInSet_39 : decode prog_6_method_20_code 39 = .ok (.ireturn, 1) := by decide +kernel
theorem dM_countAll_0 : decode prog_6_method_21_code 0 = .ok (.iconst 0, 1) := by decide +kernel
theorem dM_countAll_1 : decode prog_6_method_21_code 1 = .ok (.istore_n 1, 1) := by decide +kernel
theorem dM_countAll_2 : decode prog_6_method_21_code 2 = .ok (.iload_n 1, 1) := by decide +kernel
theorem dM_countAll_3 : decode prog_6_method_21_code 3 = .ok (.bipush 15, 2) := by decide +kernel
theorem dM_countAll_5 : decode prog_6_method_21_code 5 = .ok (.if_icmp .ge 16, 3) := by decide +kernel
theorem dM_countAll_8 : decode prog_6_method_21_code 8 = .ok (.aload_n 0, 1) := by decide +kernel
theorem dM_countAll_9 : decode prog_6_method_21_code 9 = .ok (.getfield 23, 3) := by decide +kernel
theorem dM_countAll_12 : decode prog_6_method_21_code 12 = .ok (.iload_n 1, 1) := by decide +kernel
theorem dM_countAll_13 : decode prog_6_method_21_code 13 = .ok (.iconst 0, 1) := by decide +kernel
theorem dM_countAll_14 : decode prog_6_method_21_code 14 = .ok (.iastore, 1) := by decide +kernel
theorem dM_countAll_15 : decode prog_6_method_21_code 15 = .ok (.iinc 1 1, 3) := by decide +kernel
theorem dM_countAll_18 : decode prog_6_method_21_code 18 = .ok (.goto (-16), 3) := by decide +kernel
theorem dM_countAll_21 : decode prog_6_method_21_code 21 = .ok (.iconst 3, 1) := by decide +kernel
theorem dM_countAll_22 : decode prog_6_method_21_code 22 = .ok (.istore_n 1, 1) := by decide +kernel
theorem dM_countAll_23 : decode prog_6_method_21_code 23 = .ok (.iload_n 1, 1) := by decide +kernel
theorem dM_countAll_24 : decode prog_6_method_21_code 24 = .ok (.iconst 4, 1) := by decide +kernel
theorem dM_countAll_25 : decode prog_6_method_21_code 25 = .ok (.if_icmp .gt 45, 3) := by decide +kernel
theorem dM_countAll_28 : decode prog_6_method_21_code 28 = .ok (.aload_n 0, 1) := by decide +kernel
theorem dM_countAll_29 : decode prog_6_method_21_code 29 = .ok (.iload_n 1, 1) := by decide +kernel
theorem dM_countAll_30 : decode prog_6_method_21_code 30 = .ok (.invokevirtual 85, 3) := by decide +kernel
theorem dM_countAll_33 : decode prog_6_method_21_code 33 = .ok (.istore_n 2, 1) := by decide +kernel
theorem dM_countAll_34 : decode prog_6_method_21_code 34 = .ok (.iload_n 2, 1) := by decide +kernel
theorem dM_countAll_35 : decode prog_6_method_21_code 35 = .ok (.ifCond .eq 29, 3) := by decide +kernel
theorem dM_countAll_38 : decode prog_6_method_21_code 38 = .ok (.aload_n 0, 1) := by decide +kernel
theorem dM_countAll_39 : decode prog_6_method_21_code 39 = .ok (.getfield 23, 3) := by decide +kernel
theorem dM_countAll_42 : decode prog_6_method_21_code 42 = .ok (.aload_n 0, 1) := by decide +kernel
theorem dM_countAll_43 : decode prog_6_method_21_code 43 = .ok (.iload_n 1, 1) := by decide +kernel
theorem dM_countAll_44 : decode prog_6_method_21_code 44 = .ok (.aload_n 0, 1) := by decide +kernel
theorem dM_countAll_45 : decode prog_6_method_21_code 45 = .ok (.invokevirtual 88, 3) := by decide +kernel
theorem dM_countAll_48 : decode prog_6_method_21_code 48 = .ok (.invokevirtual 59, 3) := by decide +kernel
theorem dM_countAll_51 : decode prog_6_method_21_code 51 = .ok (.dup2, 1) := by decide +kernel
theorem dM_countAll_52 : decode prog_6_method_21_code 52 = .ok (.iaload, 1) := by decide +kernel
theorem dM_countAll_53 : decode prog_6_method_21_code 53 = .ok (.iconst 1, 1) := by decide +kernel
theorem dM_countAll_54 : decode prog_6_method_21_code 54 = .ok (.iadd, 1) := by decide +kernel
theorem dM_countAll_55 : decode prog_6_method_21_code 55 = .ok (.iastore, 1) := by decide +kernel
theorem dM_countAll_56 : decode prog_6_method_21_code 56 = .ok (.aload_n 0, 1) := by decide +kernel
theorem dM_countAll_57 : decode prog_6_method_21_code 57 = .ok (.invokevirtual 92, 3) := by decide +kernel
theorem dM_countAll_60 : decode prog_6_method_21_code 60 = .ok (.istore_n 2, 1) := by decide +kernel
theorem dM_countAll_61 : decode prog_6_method_21_code 61 = .ok (.goto (-27), 3) := by decide +kernel
theorem dM_countAll_64 : decode prog_6_method_21_code 64 = .ok (.iinc 1 1, 3) := by decide +kernel
theorem dM_countAll_67 : decode prog_6_method_21_code 67 = .ok (.goto (-44), 3) := by decide +kernel
theorem dM_countAll_70 : decode prog_6_method_21_code 70 = .ok (.return_, 1) := by decide +kernel
theorem dM_count_0 : decode prog_6_method_22_code 0 = .ok (.aload_n 0, 1) := by decide +kernel
theorem dM_count_1 : decode prog_6_method_22_code 1 = .ok (.iload_n 1, 1) := by decide +kernel
theorem dM_count_2 : decode prog_6_method_22_code 2 = .ok (.iload_n 2, 1) := by decide +kernel
theorem dM_count_3 : decode prog_6_method_22_code 3 = .ok (.invokevirtual 96, 3) := by decide +kernel
theorem dM_count_6 : decode prog_6_method_22_code 6 = .ok (.ifCond .ne 6, 3) := by decide +kernel
theorem dM_count_9 : decode prog_6_method_22_code 9 = .ok (.bipush (-2), 2) := by decide +kernel
theorem dM_count_11 : decode prog_6_method_22_code 11 = .ok (.ireturn, 1) := by decide +kernel
theorem dM_count_12 : decode prog_6_method_22_code 12 = .ok (.aload_n 0, 1) := by decide +kernel
theorem dM_count_13 : decode prog_6_method_22_code 13 = .ok (.invokevirtual 71, 3) := by decide +kernel
theorem dM_count_16 : decode prog_6_method_22_code 16 = .ok (.aload_n 0, 1) := by decide +kernel
theorem dM_count_17 : decode prog_6_method_22_code 17 = .ok (.getfield 23, 3) := by decide +kernel
theorem dM_count_20 : decode prog_6_method_22_code 20 = .ok (.aload_n 0, 1) := by decide +kernel
theorem dM_count_21 : decode prog_6_method_22_code 21 = .ok (.iload_n 1, 1) := by decide +kernel
theorem dM_count_22 : decode prog_6_method_22_code 22 = .ok (.iload_n 2, 1) := by decide +kernel
theorem dM_count_23 : decode prog_6_method_22_code 23 = .ok (.invokevirtual 59, 3) := by decide +kernel
theorem dM_count_26 : decode prog_6_method_22_code 26 = .ok (.iaload, 1) := by decide +kernel
theorem dM_count_27 : decode prog_6_method_22_code 27 = .ok (.ireturn, 1) := by decide +kernel
theorem dM_placed_0 : decode prog_6_method_23_code 0 = .ok (.aload_n 0, 1) := by decide +kernel
theorem dM_placed_1 : decode prog_6_method_23_code 1 = .ok (.iload_n 1, 1) := by decide +kernel
theorem dM_placed_2 : decode prog_6_method_23_code 2 = .ok (.iload_n 2, 1) := by decide +kernel
theorem dM_placed_3 : decode prog_6_method_23_code 3 = .ok (.invokevirtual 96, 3) := by decide +kernel
theorem dM_placed_6 : decode prog_6_method_23_code 6 = .ok (.ifCond .eq 12, 3) := by decide +kernel
theorem dM_placed_9 : decode prog_6_method_23_code 9 = .ok (.iload_n 3, 1) := by decide +kernel
theorem dM_placed_10 : decode prog_6_method_23_code 10 = .ok (.iconst 0, 1) := by decide +kernel
theorem dM_placed_11 : decode prog_6_method_23_code 11 = .ok (.iconst 3, 1) := by decide +kernel
theorem dM_placed_12 : decode prog_6_method_23_code 12 = .ok (.invokestatic 51, 3) := by decide +kernel
theorem dM_placed_15 : decode prog_6_method_23_code 15 = .ok (.ifCond .ne 6, 3) := by decide +kernel
theorem dM_placed_18 : decode prog_6_method_23_code 18 = .ok (.bipush (-2), 2) := by decide +kernel
theorem dM_placed_20 : decode prog_6_method_23_code 20 = .ok (.ireturn, 1) := by decide +kernel
theorem dM_placed_21 : decode prog_6_method_23_code 21 = .ok (.aload_n 0, 1) := by decide +kernel
theorem dM_placed_22 : decode prog_6_method_23_code 22 = .ok (.iload 4, 2) := by decide +kernel
theorem dM_placed_24 : decode prog_6_method_23_code 24 = .ok (.invokevirtual 55, 3) := by decide +kernel
theorem dM_placed_27 : decode prog_6_method_23_code 27 = .ok (.ifCond .ne 6, 3) := by decide +kernel
theorem dM_placed_30 : decode prog_6_method_23_code 30 = .ok (.bipush (-3), 2) := by decide +kernel
theorem dM_placed_32 : decode prog_6_method_23_code 32 = .ok (.ireturn, 1) := by decide +kernel
theorem dM_placed_33 : decode prog_6_method_23_code 33 = .ok (.iconst 0, 1) := by decide +kernel
theorem dM_placed_34 : decode prog_6_method_23_code 34 = .ok (.istore 5, 2) := by decide +kernel
theorem dM_placed_36 : decode prog_6_method_23_code 36 = .ok (.aload_n 0, 1) := by decide +kernel
theorem dM_placed_37 : decode prog_6_method_23_code 37 = .ok (.iload_n 1, 1) := by decide +kernel
theorem dM_placed_38 : decode prog_6_method_23_code 38 = .ok (.invokevirtual 85, 3) := by decide +kernel
theorem dM_placed_41 : decode prog_6_method_23_code 41 = .ok (.istore 6, 2) := by decide +kernel
theorem dM_placed_43 : decode prog_6_method_23_code 43 = .ok (.iload 6, 2) := by decide +kernel
theorem dM_placed_45 : decode prog_6_method_23_code 45 = .ok (.ifCond .eq 49, 3) := by decide +kernel
theorem dM_placed_48 : decode prog_6_method_23_code 48 = .ok (.iload 5, 2) := by decide +kernel
theorem dM_placed_50 : decode prog_6_method_23_code 50 = .ok (.aload_n 0, 1) := by decide +kernel
theorem dM_placed_51 : decode prog_6_method_23_code 51 = .ok (.iload 4, 2) := by decide +kernel
theorem dM_placed_53 : decode prog_6_method_23_code 53 = .ok (.invokevirtual 99, 3) := by decide +kernel
theorem dM_placed_56 : decode prog_6_method_23_code 56 = .ok (.ifCond .eq 25, 3) := by decide +kernel
theorem dM_placed_59 : decode prog_6_method_23_code 59 = .ok (.aload_n 0, 1) := by decide +kernel
theorem dM_placed_60 : decode prog_6_method_23_code 60 = .ok (.invokevirtual 88, 3) := by decide +kernel
theorem dM_placed_63 : decode prog_6_method_23_code 63 = .ok (.iload_n 2, 1) := by decide +kernel
theorem dM_placed_64 : decode prog_6_method_23_code 64 = .ok (.if_icmp .ne 17, 3) := by decide +kernel
theorem dM_placed_67 : decode prog_6_method_23_code 67 = .ok (.aload_n 0, 1) := by decide +kernel
theorem dM_placed_68 : decode prog_6_method_23_code 68 = .ok (.iload 4, 2) := by decide +kernel
theorem dM_placed_70 : decode prog_6_method_23_code 70 = .ok (.invokevirtual 81, 3) := by decide +kernel
theorem dM_placed_73 : decode prog_6_method_23_code 73 = .ok (.iload_n 3, 1) := by decide +kernel
theorem dM_placed_74 : decode prog_6_method_23_code 74 = .ok (.if_icmp .ne 7, 3) := by decide +kernel
theorem dM_placed_77 : decode prog_6_method_23_code 77 = .ok (.iconst 1, 1) := by decide +kernel
theorem dM_placed_78 : decode prog_6_method_23_code 78 = .ok (.goto 4, 3) := by decide +kernel
theorem dM_placed_81 : decode prog_6_method_23_code 81 = .ok (.iconst 0, 1) := by decide +kernel
theorem dM_placed_82 : decode prog_6_method_23_code 82 = .ok (.iadd, 1) := by decide +kernel
theorem dM_placed_83 : decode prog_6_method_23_code 83 = .ok (.istore 5, 2) := by decide +kernel
theorem dM_placed_85 : decode prog_6_method_23_code 85 = .ok (.aload_n 0, 1) := by decide +kernel
theorem dM_placed_86 : decode prog_6_method_23_code 86 = .ok (.invokevirtual 92, 3) := by decide +kernel
theorem dM_placed_89 : decode prog_6_method_23_code 89 = .ok (.istore 6, 2) := by decide +kernel
theorem dM_placed_91 : decode prog_6_method_23_code 91 = .ok (.goto (-48), 3) := by decide +kernel
theorem dM_placed_94 : decode prog_6_method_23_code 94 = .ok (.iload 5, 2) := by decide +kernel
theorem dM_placed_96 : decode prog_6_method_23_code 96 = .ok (.ireturn, 1) := by decide +kernel
theorem dM_pair_0 : decode prog_6_method_24_code 0 = .ok (.aload_n 0, 1) := by decide +kernel
theorem dM_pair_1 : decode prog_6_method_24_code 1 = .ok (.iload_n 1, 1) := by decide +kernel
theorem dM_pair_2 : decode prog_6_method_24_code 2 = .ok (.iload_n 2, 1) := by decide +kernel
theorem dM_pair_3 : decode prog_6_method_24_code 3 = .ok (.invokevirtual 96, 3) := by decide +kernel
theorem dM_pair_6 : decode prog_6_method_24_code 6 = .ok (.ifCond .ne 6, 3) := by decide +kernel
theorem dM_pair_9 : decode prog_6_method_24_code 9 = .ok (.bipush (-2), 2) := by decide +kernel
theorem dM_pair_11 : decode prog_6_method_24_code 11 = .ok (.ireturn, 1) := by decide +kernel
theorem dM_pair_12 : decode prog_6_method_24_code 12 = .ok (.aload_n 0, 1) := by decide +kernel
theorem dM_pair_13 : decode prog_6_method_24_code 13 = .ok (.iload_n 3, 1) := by decide +kernel
theorem dM_pair_14 : decode prog_6_method_24_code 14 = .ok (.iload 4, 2) := by decide +kernel
theorem dM_pair_16 : decode prog_6_method_24_code 16 = .ok (.invokevirtual 67, 3) := by decide +kernel
theorem dM_pair_19 : decode prog_6_method_24_code 19 = .ok (.ifCond .ne 6, 3) := by decide +kernel
theorem dM_pair_22 : decode prog_6_method_24_code 22 = .ok (.bipush (-3), 2) := by decide +kernel
theorem dM_pair_24 : decode prog_6_method_24_code 24 = .ok (.ireturn, 1) := by decide +kernel
theorem dM_pair_25 : decode prog_6_method_24_code 25 = .ok (.iconst 0, 1) := by decide +kernel
theorem dM_pair_26 : decode prog_6_method_24_code 26 = .ok (.istore 5, 2) := by decide +kernel
theorem dM_pair_28 : decode prog_6_method_24_code 28 = .ok (.aload_n 0, 1) := by decide +kernel
theorem dM_pair_29 : decode prog_6_method_24_code 29 = .ok (.iload_n 1, 1) := by decide +kernel
theorem dM_pair_30 : decode prog_6_method_24_code 30 = .ok (.invokevirtual 85, 3) := by decide +kernel
theorem dM_pair_33 : decode prog_6_method_24_code 33 = .ok (.istore 6, 2) := by decide +kernel
theorem dM_pair_35 : decode prog_6_method_24_code 35 = .ok (.iload 6, 2) := by decide +kernel
theorem dM_pair_37 : decode prog_6_method_24_code 37 = .ok (.ifCond .eq 47, 3) := by decide +kernel
theorem dM_pair_40 : decode prog_6_method_24_code 40 = .ok (.iload 5, 2) := by decide +kernel
theorem dM_pair_42 : decode prog_6_method_24_code 42 = .ok (.aload_n 0, 1) := by decide +kernel
theorem dM_pair_43 : decode prog_6_method_24_code 43 = .ok (.iload_n 3, 1) := by decide +kernel
theorem dM_pair_44 : decode prog_6_method_24_code 44 = .ok (.invokevirtual 99, 3) := by decide +kernel
theorem dM_pair_47 : decode prog_6_method_24_code 47 = .ok (.ifCond .eq 24, 3) := by decide +kernel
theorem dM_pair_50 : decode prog_6_method_24_code 50 = .ok (.aload_n 0, 1) := by decide +kernel
theorem dM_pair_51 : decode prog_6_method_24_code 51 = .ok (.iload 4, 2) := by decide +kernel
theorem dM_pair_53 : decode prog_6_method_24_code 53 = .ok (.invokevirtual 99, 3) := by decide +kernel
theorem dM_pair_56 : decode prog_6_method_24_code 56 = .ok (.ifCond .eq 15, 3) := by decide +kernel
theorem dM_pair_59 : decode prog_6_method_24_code 59 = .ok (.aload_n 0, 1) := by decide +kernel
theorem dM_pair_60 : decode prog_6_method_24_code 60 = .ok (.invokevirtual 88, 3) := by decide +kernel
theorem dM_pair_63 : decode prog_6_method_24_code 63 = .ok (.iload_n 2, 1) := by decide +kernel
theorem dM_pair_64 : decode prog_6_method_24_code 64 = .ok (.if_icmp .ne 7, 3) := by decide +kernel
theorem dM_pair_67 : decode prog_6_method_24_code 67 = .ok (.iconst 1, 1) := by decide +kernel
theorem dM_pair_68 : decode prog_6_method_24_code 68 = .ok (.goto 4, 3) := by decide +kernel
theorem dM_pair_71 : decode prog_6_method_24_code 71 = .ok (.iconst 0, 1) := by decide +kernel
theorem dM_pair_72 : decode prog_6_method_24_code 72 = .ok (.iadd, 1) := by decide +kernel
theorem dM_pair_73 : decode prog_6_method_24_code 73 = .ok (.istore 5, 2) := by decide +kernel
theorem dM_pair_75 : decode prog_6_method_24_code 75 = .ok (.aload_n 0, 1) := by decide +kernel
theorem dM_pair_76 : decode prog_6_method_24_code 76 = .ok (.invokevirtual 92, 3) := by decide +kernel
theorem dM_pair_79 : decode prog_6_method_24_code 79 = .ok (.istore 6, 2) := by decide +kernel
theorem dM_pair_81 : decode prog_6_method_24_code 81 = .ok (.goto (-46), 3) := by decide +kernel
theorem dM_pair_84 : decode prog_6_method_24_code 84 = .ok (.iload 5, 2) := by decide +kernel
theorem dM_pair_86 : decode prog_6_method_24_code 86 = .ok (.ireturn, 1) := by decide +kernel
theorem dM_coloured_0 : decode prog_6_method_25_code 0 = .ok (.aload_n 0, 1) := by decide +kernel
theorem dM_coloured_1 : decode prog_6_method_25_code 1 = .ok (.iload_n 1, 1) := by decide +kernel
theorem dM_coloured_2 : decode prog_6_method_25_code 2 = .ok (.iload_n 2, 1) := by decide +kernel
theorem dM_coloured_3 : decode prog_6_method_25_code 3 = .ok (.invokevirtual 96, 3) := by decide +kernel
theorem dM_coloured_6 : decode prog_6_method_25_code 6 = .ok (.ifCond .eq 13, 3) := by decide +kernel
theorem dM_coloured_9 : decode prog_6_method_25_code 9 = .ok (.iload_n 3, 1) := by decide +kernel
theorem dM_coloured_10 : decode prog_6_method_25_code 10 = .ok (.iconst 0, 1) := by decide +kernel
theorem dM_coloured_11 : decode prog_6_method_25_code 11 = .ok (.bipush 15, 2) := by decide +kernel
theorem dM_coloured_13 : decode prog_6_method_25_code 13 = .ok (.invokestatic 51, 3) := by decide +kernel
theorem dM_coloured_16 : decode prog_6_method_25_code 16 = .ok (.ifCond .ne 6, 3) := by decide +kernel
theorem dM_coloured_19 : decode prog_6_method_25_code 19 = .ok (.bipush (-2), 2) := by decide +kernel
theorem dM_coloured_21 : decode prog_6_method_25_code 21 = .ok (.ireturn, 1) := by decide +kernel
theorem dM_coloured_22 : decode prog_6_method_25_code 22 = .ok (.iconst 0, 1) := by decide +kernel
theorem dM_coloured_23 : decode prog_6_method_25_code 23 = .ok (.istore 4, 2) := by decide +kernel
theorem dM_coloured_25 : decode prog_6_method_25_code 25 = .ok (.aload_n 0, 1) := by decide +kernel
theorem dM_coloured_26 : decode prog_6_method_25_code 26 = .ok (.iload_n 1, 1) := by decide +kernel
theorem dM_coloured_27 : decode prog_6_method_25_code 27 = .ok (.invokevirtual 85, 3) := by decide +kernel
theorem dM_coloured_30 : decode prog_6_method_25_code 30 = .ok (.istore 5, 2) := by decide +kernel
theorem dM_coloured_32 : decode prog_6_method_25_code 32 = .ok (.iload 5, 2) := by decide +kernel
theorem dM_coloured_34 : decode prog_6_method_25_code 34 = .ok (.ifCond .eq 88, 3) := by decide +kernel
theorem dM_coloured_37 : decode prog_6_method_25_code 37 = .ok (.iconst 1, 1) := by decide +kernel
theorem dM_coloured_38 : decode prog_6_method_25_code 38 = .ok (.istore 6, 2) := by decide +kernel
theorem dM_coloured_40 : decode prog_6_method_25_code 40 = .ok (.iconst 0, 1) := by decide +kernel
theorem dM_coloured_41 : decode prog_6_method_25_code 41 = .ok (.istore 7, 2) := by decide +kernel
theorem dM_coloured_43 : decode prog_6_method_25_code 43 = .ok (.iload 7, 2) := by decide +kernel
theorem dM_coloured_45 : decode prog_6_method_25_code 45 = .ok (.aload_n 0, 1) := by decide +kernel
theorem dM_coloured_46 : decode prog_6_method_25_code 46 = .ok (.getfield 78, 3) := by decide +kernel
theorem dM_coloured_49 : decode prog_6_method_25_code 49 = .ok (.if_icmp .ge 41, 3) := by decide +kernel
theorem dM_coloured_52 : decode prog_6_method_25_code 52 = .ok (.iload 6, 2) := by decide +kernel
theorem dM_coloured_54 : decode prog_6_method_25_code 54 = .ok (.ifCond .eq 27, 3) := by decide +kernel
theorem dM_coloured_57 : decode prog_6_method_25_code 57 = .ok (.iload_n 3, 1) := by decide +kernel
theorem dM_coloured_58 : decode prog_6_method_25_code 58 = .ok (.aload_n 0, 1) := by decide +kernel
theorem dM_coloured_59 : decode prog_6_method_25_code 59 = .ok (.getfield 13, 3) := by decide +kernel
theorem dM_coloured_62 : decode prog_6_method_25_code 62 = .ok (.aload_n 0, 1) := by decide +kernel
theorem dM_coloured_63 : decode prog_6_method_25_code 63 = .ok (.getfield 26, 3) := by decide +kernel
theorem dM_coloured_66 : decode prog_6_method_25_code 66 = .ok (.iload 7, 2) := by decide +kernel
theorem dM_coloured_68 : decode prog_6_method_25_code 68 = .ok (.iaload, 1) := by decide +kernel
theorem dM_coloured_69 : decode prog_6_method_25_code 69 = .ok (.iaload, 1) := by decide +kernel
theorem dM_coloured_70 : decode prog_6_method_25_code 70 = .ok (.ishr, 1) := by decide +kernel
theorem dM_coloured_71 : decode prog_6_method_25_code 71 = .ok (.iconst 1, 1) := by decide +kernel
theorem dM_coloured_72 : decode prog_6_method_25_code 72 = .ok (.iand, 1) := by decide +kernel
theorem dM_coloured_73 : decode prog_6_method_25_code 73 = .ok (.iconst 1, 1) := by decide +kernel
theorem dM_coloured_74 : decode prog_6_method_25_code 74 = .ok (.if_icmp .ne 7, 3) := by decide +kernel
theorem dM_coloured_77 : decode prog_6_method_25_code 77 = .ok (.iconst 1, 1) := by decide +kernel
theorem dM_coloured_78 : decode prog_6_method_25_code 78 = .ok (.goto 4, 3) := by decide +kernel
theorem dM_coloured_81 : decode prog_6_method_25_code 81 = .ok (.iconst 0, 1) := by decide +kernel
theorem dM_coloured_82 : decode prog_6_method_25_code 82 = .ok (.istore 6, 2) := by decide +kernel
theorem dM_coloured_84 : decode prog_6_method_25_code 84 = .ok (.iinc 7 1, 3) := by decide +kernel
theorem dM_coloured_87 : decode prog_6_method_25_code 87 = .ok (.goto (-44), 3) := by decide +kernel
theorem dM_coloured_90 : decode prog_6_method_25_code 90 = .ok (.iload 4, 2) := by decide +kernel
theorem dM_coloured_92 : decode prog_6_method_25_code 92 = .ok (.iload 6, 2) := by decide +kernel
theorem dM_coloured_94 : decode prog_6_method_25_code 94 = .ok (.ifCond .eq 15, 3) := by decide +kernel
theorem dM_coloured_97 : decode prog_6_method_25_code 97 = .ok (.aload_n 0, 1) := by decide +kernel
theorem dM_coloured_98 : decode prog_6_method_25_code 98 = .ok (.invokevirtual 88, 3) := by decide +kernel
theorem dM_coloured_101 : decode prog_6_method_25_code 101 = .ok (.iload_n 2, 1) := by decide +kernel
theorem dM_coloured_102 : decode prog_6_method_25_code 102 = .ok (.if_icmp .ne 7, 3) := by decide +kernel
theorem dM_coloured_105 : decode prog_6_method_25_code 105 = .ok (.iconst 1, 1) := by decide +kernel
theorem dM_coloured_106 : decode prog_6_method_25_code 106 = .ok (.goto 4, 3) := by decide +kernel
theorem dM_coloured_109 : decode prog_6_method_25_code 109 = .ok (.iconst 0, 1) := by decide +kernel
theorem dM_coloured_110 : decode prog_6_method_25_code 110 = .ok (.iadd, 1) := by decide +kernel
theorem dM_coloured_111 : decode prog_6_method_25_code 111 = .ok (.istore 4, 2) := by decide +kernel
theorem dM_coloured_113 : decode prog_6_method_25_code 113 = .ok (.aload_n 0, 1) := by decide +kernel
theorem dM_coloured_114 : decode prog_6_method_25_code 114 = .ok (.invokevirtual 92, 3) := by decide +kernel
theorem dM_coloured_117 : decode prog_6_method_25_code 117 = .ok (.istore 5, 2) := by decide +kernel
theorem dM_coloured_119 : decode prog_6_method_25_code 119 = .ok (.goto (-87), 3) := by decide +kernel
theorem dM_coloured_122 : decode prog_6_method_25_code 122 = .ok (.iload 4, 2) := by decide +kernel
theorem dM_coloured_124 : decode prog_6_method_25_code 124 = .ok (.ireturn, 1) := by decide +kernel
theorem dM_mixed_0 : decode prog_6_method_26_code 0 = .ok (.aload_n 0, 1) := by decide +kernel
theorem dM_mixed_1 : decode prog_6_method_26_code 1 = .ok (.iload_n 1, 1) := by decide +kernel
theorem dM_mixed_2 : decode prog_6_method_26_code 2 = .ok (.iload_n 2, 1) := by decide +kernel
theorem dM_mixed_3 : decode prog_6_method_26_code 3 = .ok (.invokevirtual 96, 3) := by decide +kernel
theorem dM_mixed_6 : decode prog_6_method_26_code 6 = .ok (.ifCond .ne 6, 3) := by decide +kernel
theorem dM_mixed_9 : decode prog_6_method_26_code 9 = .ok (.bipush (-2), 2) := by decide +kernel
theorem dM_mixed_11 : decode prog_6_method_26_code 11 = .ok (.ireturn, 1) := by decide +kernel
theorem dM_mixed_12 : decode prog_6_method_26_code 12 = .ok (.iconst 0, 1) := by decide +kernel
theorem dM_mixed_13 : decode prog_6_method_26_code 13 = .ok (.istore_n 3, 1) := by decide +kernel
theorem dM_mixed_14 : decode prog_6_method_26_code 14 = .ok (.aload_n 0, 1) := by decide +kernel
theorem dM_mixed_15 : decode prog_6_method_26_code 15 = .ok (.iload_n 1, 1) := by decide +kernel
theorem dM_mixed_16 : decode prog_6_method_26_code 16 = .ok (.invokevirtual 85, 3) := by decide +kernel
theorem dM_mixed_19 : decode prog_6_method_26_code 19 = .ok (.istore 4, 2) := by decide +kernel
theorem dM_mixed_21 : decode prog_6_method_26_code 21 = .ok (.iload 4, 2) := by decide +kernel
theorem dM_mixed_23 : decode prog_6_method_26_code 23 = .ok (.ifCond .eq 109, 3) := by decide +kernel
theorem dM_mixed_26 : decode prog_6_method_26_code 26 = .ok (.iconst 1, 1) := by decide +kernel
theorem dM_mixed_27 : decode prog_6_method_26_code 27 = .ok (.istore 5, 2) := by decide +kernel
theorem dM_mixed_29 : decode prog_6_method_26_code 29 = .ok (.iconst 0, 1) := by decide +kernel
theorem dM_mixed_30 : decode prog_6_method_26_code 30 = .ok (.istore 6, 2) := by decide +kernel
theorem dM_mixed_32 : decode prog_6_method_26_code 32 = .ok (.iload 6, 2) := by decide +kernel
theorem dM_mixed_34 : decode prog_6_method_26_code 34 = .ok (.aload_n 0, 1) := by decide +kernel
theorem dM_mixed_35 : decode prog_6_method_26_code 35 = .ok (.getfield 78, 3) := by decide +kernel
theorem dM_mixed_38 : decode prog_6_method_26_code 38 = .ok (.if_icmp .ge 64, 3) := by decide +kernel
theorem dM_mixed_41 : decode prog_6_method_26_code 41 = .ok (.iconst 0, 1) := by decide +kernel
theorem dM_mixed_42 : decode prog_6_method_26_code 42 = .ok (.istore 7, 2) := by decide +kernel
theorem dM_mixed_44 : decode prog_6_method_26_code 44 = .ok (.iload 7, 2) := by decide +kernel
theorem dM_mixed_46 : decode prog_6_method_26_code 46 = .ok (.iload 6, 2) := by decide +kernel
theorem dM_mixed_48 : decode prog_6_method_26_code 48 = .ok (.if_icmp .ge 48, 3) := by decide +kernel
theorem dM_mixed_51 : decode prog_6_method_26_code 51 = .ok (.iload 5, 2) := by decide +kernel
theorem dM_mixed_53 : decode prog_6_method_26_code 53 = .ok (.ifCond .eq 34, 3) := by decide +kernel
theorem dM_mixed_56 : decode prog_6_method_26_code 56 = .ok (.aload_n 0, 1) := by decide +kernel
theorem dM_mixed_57 : decode prog_6_method_26_code 57 = .ok (.getfield 13, 3) := by decide +kernel
theorem dM_mixed_60 : decode prog_6_method_26_code 60 = .ok (.aload_n 0, 1) := by decide +kernel
theorem dM_mixed_61 : decode prog_6_method_26_code 61 = .ok (.getfield 26, 3) := by decide +kernel
theorem dM_mixed_64 : decode prog_6_method_26_code 64 = .ok (.iload 6, 2) := by decide +kernel
theorem dM_mixed_66 : decode prog_6_method_26_code 66 = .ok (.iaload, 1) := by decide +kernel
theorem dM_mixed_67 : decode prog_6_method_26_code 67 = .ok (.iaload, 1) := by decide +kernel
theorem dM_mixed_68 : decode prog_6_method_26_code 68 = .ok (.aload_n 0, 1) := by decide +kernel
theorem dM_mixed_69 : decode prog_6_method_26_code 69 = .ok (.getfield 13, 3) := by decide +kernel
theorem dM_mixed_72 : decode prog_6_method_26_code 72 = .ok (.aload_n 0, 1) := by decide +kernel
theorem dM_mixed_73 : decode prog_6_method_26_code 73 = .ok (.getfield 26, 3) := by decide +kernel
theorem dM_mixed_76 : decode prog_6_method_26_code 76 = .ok (.iload 7, 2) := by decide +kernel
theorem dM_mixed_78 : decode prog_6_method_26_code 78 = .ok (.iaload, 1) := by decide +kernel
theorem dM_mixed_79 : decode prog_6_method_26_code 79 = .ok (.iaload, 1) := by decide +kernel
theorem dM_mixed_80 : decode prog_6_method_26_code 80 = .ok (.if_icmp .eq 7, 3) := by decide +kernel
theorem dM_mixed_83 : decode prog_6_method_26_code 83 = .ok (.iconst 1, 1) := by decide +kernel
theorem dM_mixed_84 : decode prog_6_method_26_code 84 = .ok (.goto 4, 3) := by decide +kernel
theorem dM_mixed_87 : decode prog_6_method_26_code 87 = .ok (.iconst 0, 1) := by decide +kernel
theorem dM_mixed_88 : decode prog_6_method_26_code 88 = .ok (.istore 5, 2) := by decide +kernel
theorem dM_mixed_90 : decode prog_6_method_26_code 90 = .ok (.iinc 7 1, 3) := by decide +kernel
theorem dM_mixed_93 : decode prog_6_method_26_code 93 = .ok (.goto (-49), 3) := by decide +kernel
theorem dM_mixed_96 : decode prog_6_method_26_code 96 = .ok (.iinc 6 1, 3) := by decide +kernel
theorem dM_mixed_99 : decode prog_6_method_26_code 99 = .ok (.goto (-67), 3) := by decide +kernel
theorem dM_mixed_102 : decode prog_6_method_26_code 102 = .ok (.iload_n 3, 1) := by decide +kernel
theorem dM_mixed_103 : decode prog_6_method_26_code 103 = .ok (.iload 5, 2) := by decide +kernel
theorem dM_mixed_105 : decode prog_6_method_26_code 105 = .ok (.ifCond .eq 15, 3) := by decide +kernel
theorem dM_mixed_108 : decode prog_6_method_26_code 108 = .ok (.aload_n 0, 1) := by decide +kernel
theorem dM_mixed_109 : decode prog_6_method_26_code 109 = .ok (.invokevirtual 88, 3) := by decide +kernel
theorem dM_mixed_112 : decode prog_6_method_26_code 112 = .ok (.iload_n 2, 1) := by decide +kernel
theorem dM_mixed_113 : decode prog_6_method_26_code 113 = .ok (.if_icmp .ne 7, 3) := by decide +kernel
theorem dM_mixed_116 : decode prog_6_method_26_code 116 = .ok (.iconst 1, 1) := by decide +kernel
theorem dM_mixed_117 : decode prog_6_method_26_code 117 = .ok (.goto 4, 3) := by decide +kernel
theorem dM_mixed_120 : decode prog_6_method_26_code 120 = .ok (.iconst 0, 1) := by decide +kernel
theorem dM_mixed_121 : decode prog_6_method_26_code 121 = .ok (.iadd, 1) := by decide +kernel
theorem dM_mixed_122 : decode prog_6_method_26_code 122 = .ok (.istore_n 3, 1) := by decide +kernel
theorem dM_mixed_123 : decode prog_6_method_26_code 123 = .ok (.aload_n 0, 1) := by decide +kernel
theorem dM_mixed_124 : decode prog_6_method_26_code 124 = .ok (.invokevirtual 92, 3) := by decide +kernel
theorem dM_mixed_127 : decode prog_6_method_26_code 127 = .ok (.istore 4, 2) := by decide +kernel
theorem dM_mixed_129 : decode prog_6_method_26_code 129 = .ok (.goto (-108), 3) := by decide +kernel
theorem dM_mixed_132 : decode prog_6_method_26_code 132 = .ok (.iload_n 3, 1) := by decide +kernel
theorem dM_mixed_133 : decode prog_6_method_26_code 133 = .ok (.ireturn, 1) := by decide +kernel
theorem dM_change_0 : decode prog_6_method_27_code 0 = .ok (.aload_n 0, 1) := by decide +kernel
theorem dM_change_1 : decode prog_6_method_27_code 1 = .ok (.iload_n 1, 1) := by decide +kernel
theorem dM_change_2 : decode prog_6_method_27_code 2 = .ok (.iload_n 2, 1) := by decide +kernel
theorem dM_change_3 : decode prog_6_method_27_code 3 = .ok (.invokevirtual 96, 3) := by decide +kernel
theorem dM_change_6 : decode prog_6_method_27_code 6 = .ok (.ifCond .ne 6, 3) := by decide +kernel
theorem dM_change_9 : decode prog_6_method_27_code 9 = .ok (.bipush (-2), 2) := by decide +kernel
theorem dM_change_11 : decode prog_6_method_27_code 11 = .ok (.ireturn, 1) := by decide +kernel
theorem dM_change_12 : decode prog_6_method_27_code 12 = .ok (.aload_n 0, 1) := by decide +kernel
theorem dM_change_13 : decode prog_6_method_27_code 13 = .ok (.getfield 63, 3) := by decide +kernel
theorem dM_change_16 : decode prog_6_method_27_code 16 = .ok (.ifCond .ne 5, 3) := by decide +kernel
theorem dM_change_19 : decode prog_6_method_27_code 19 = .ok (.iconst 0, 1) := by decide +kernel
theorem dM_change_20 : decode prog_6_method_27_code 20 = .ok (.ireturn, 1) := by decide +kernel
theorem dM_change_21 : decode prog_6_method_27_code 21 = .ok (.aload_n 0, 1) := by decide +kernel
theorem dM_change_22 : decode prog_6_method_27_code 22 = .ok (.invokevirtual 71, 3) := by decide +kernel
theorem dM_change_25 : decode prog_6_method_27_code 25 = .ok (.aload_n 0, 1) := by decide +kernel
theorem dM_change_26 : decode prog_6_method_27_code 26 = .ok (.getfield 23, 3) := by decide +kernel
theorem dM_change_29 : decode prog_6_method_27_code 29 = .ok (.aload_n 0, 1) := by decide +kernel
theorem dM_change_30 : decode prog_6_method_27_code 30 = .ok (.iload_n 1, 1) := by decide +kernel
theorem dM_change_31 : decode prog_6_method_27_code 31 = .ok (.iload_n 2, 1) := by decide +kernel
theorem dM_change_32 : decode prog_6_method_27_code 32 = .ok (.invokevirtual 59, 3) := by decide +kernel
theorem dM_change_35 : decode prog_6_method_27_code 35 = .ok (.iaload, 1) := by decide +kernel
theorem dM_change_36 : decode prog_6_method_27_code 36 = .ok (.aload_n 0, 1) := by decide +kernel
theorem dM_change_37 : decode prog_6_method_27_code 37 = .ok (.getfield 20, 3) := by decide +kernel
theorem dM_change_40 : decode prog_6_method_27_code 40 = .ok (.aload_n 0, 1) := by decide +kernel
theorem dM_change_41 : decode prog_6_method_27_code 41 = .ok (.iload_n 1, 1) := by decide +kernel
theorem dM_change_42 : decode prog_6_method_27_code 42 = .ok (.iload_n 2, 1) := by decide +kernel
theorem dM_change_43 : decode prog_6_method_27_code 43 = .ok (.invokevirtual 59, 3) := by decide +kernel
theorem dM_change_46 : decode prog_6_method_27_code 46 = .ok (.iaload, 1) := by decide +kernel
theorem dM_change_47 : decode prog_6_method_27_code 47 = .ok (.isub, 1) := by decide +kernel
theorem dM_change_48 : decode prog_6_method_27_code 48 = .ok (.ireturn, 1) := by decide +kernel
theorem dM_after_0 : decode prog_6_method_28_code 0 = .ok (.aload_n 0, 1) := by decide +kernel
theorem dM_after_1 : decode prog_6_method_28_code 1 = .ok (.iload_n 1, 1) := by decide +kernel
theorem dM_after_2 : decode prog_6_method_28_code 2 = .ok (.iload_n 2, 1) := by decide +kernel
theorem dM_after_3 : decode prog_6_method_28_code 3 = .ok (.invokevirtual 96, 3) := by decide +kernel
theorem dM_after_6 : decode prog_6_method_28_code 6 = .ok (.ifCond .ne 6, 3) := by decide +kernel
theorem dM_after_9 : decode prog_6_method_28_code 9 = .ok (.bipush (-2), 2) := by decide +kernel
theorem dM_after_11 : decode prog_6_method_28_code 11 = .ok (.ireturn, 1) := by decide +kernel
theorem dM_after_12 : decode prog_6_method_28_code 12 = .ok (.aload_n 0, 1) := by decide +kernel
theorem dM_after_13 : decode prog_6_method_28_code 13 = .ok (.iload_n 3, 1) := by decide +kernel
theorem dM_after_14 : decode prog_6_method_28_code 14 = .ok (.iload 4, 2) := by decide +kernel
theorem dM_after_16 : decode prog_6_method_28_code 16 = .ok (.invokevirtual 67, 3) := by decide +kernel
theorem dM_after_19 : decode prog_6_method_28_code 19 = .ok (.ifCond .ne 6, 3) := by decide +kernel
theorem dM_after_22 : decode prog_6_method_28_code 22 = .ok (.bipush (-3), 2) := by decide +kernel
theorem dM_after_24 : decode prog_6_method_28_code 24 = .ok (.ireturn, 1) := by decide +kernel
theorem dM_after_25 : decode prog_6_method_28_code 25 = .ok (.aload_n 0, 1) := by decide +kernel
theorem dM_after_26 : decode prog_6_method_28_code 26 = .ok (.iload_n 1, 1) := by decide +kernel
theorem dM_after_27 : decode prog_6_method_28_code 27 = .ok (.iload_n 2, 1) := by decide +kernel
theorem dM_after_28 : decode prog_6_method_28_code 28 = .ok (.invokevirtual 59, 3) := by decide +kernel
theorem dM_after_31 : decode prog_6_method_28_code 31 = .ok (.istore 5, 2) := by decide +kernel
theorem dM_after_33 : decode prog_6_method_28_code 33 = .ok (.aload_n 0, 1) := by decide +kernel
theorem dM_after_34 : decode prog_6_method_28_code 34 = .ok (.invokevirtual 71, 3) := by decide +kernel
theorem dM_after_37 : decode prog_6_method_28_code 37 = .ok (.aload_n 0, 1) := by decide +kernel
theorem dM_after_38 : decode prog_6_method_28_code 38 = .ok (.getfield 23, 3) := by decide +kernel
theorem dM_after_41 : decode prog_6_method_28_code 41 = .ok (.iload 5, 2) := by decide +kernel
theorem dM_after_43 : decode prog_6_method_28_code 43 = .ok (.iaload, 1) := by decide +kernel
theorem dM_after_44 : decode prog_6_method_28_code 44 = .ok (.istore 6, 2) := by decide +kernel
theorem dM_after_46 : decode prog_6_method_28_code 46 = .ok (.aload_n 0, 1) := by decide +kernel
theorem dM_after_47 : decode prog_6_method_28_code 47 = .ok (.iload_n 3, 1) := by decide +kernel
theorem dM_after_48 : decode prog_6_method_28_code 48 = .ok (.iload 4, 2) := by decide +kernel
theorem dM_after_50 : decode prog_6_method_28_code 50 = .ok (.invokevirtual 74, 3) := by decide +kernel
theorem dM_after_53 : decode prog_6_method_28_code 53 = .ok (.aload_n 0, 1) := by decide +kernel
theorem dM_after_54 : decode prog_6_method_28_code 54 = .ok (.invokevirtual 71, 3) := by decide +kernel
theorem dM_after_57 : decode prog_6_method_28_code 57 = .ok (.aload_n 0, 1) := by decide +kernel
theorem dM_after_58 : decode prog_6_method_28_code 58 = .ok (.iload_n 3, 1) := by decide +kernel
theorem dM_after_59 : decode prog_6_method_28_code 59 = .ok (.iload 4, 2) := by decide +kernel
theorem dM_after_61 : decode prog_6_method_28_code 61 = .ok (.invokevirtual 74, 3) := by decide +kernel
theorem dM_after_64 : decode prog_6_method_28_code 64 = .ok (.aload_n 0, 1) := by decide +kernel
theorem dM_after_65 : decode prog_6_method_28_code 65 = .ok (.getfield 23, 3) := by decide +kernel
theorem dM_after_68 : decode prog_6_method_28_code 68 = .ok (.iload 5, 2) := by decide +kernel
theorem dM_after_70 : decode prog_6_method_28_code 70 = .ok (.iaload, 1) := by decide +kernel
theorem dM_after_71 : decode prog_6_method_28_code 71 = .ok (.iload 6, 2) := by decide +kernel
theorem dM_after_73 : decode prog_6_method_28_code 73 = .ok (.isub, 1) := by decide +kernel
theorem dM_after_74 : decode prog_6_method_28_code 74 = .ok (.ireturn, 1) := by decide +kernel
theorem dM_nth_0 : decode prog_6_method_29_code 0 = .ok (.aload_n 0, 1) := by decide +kernel
theorem dM_nth_1 : decode prog_6_method_29_code 1 = .ok (.iload_n 1, 1) := by decide +kernel
theorem dM_nth_2 : decode prog_6_method_29_code 2 = .ok (.iload_n 2, 1) := by decide +kernel
theorem dM_nth_3 : decode prog_6_method_29_code 3 = .ok (.invokevirtual 96, 3) := by decide +kernel
theorem dM_nth_6 : decode prog_6_method_29_code 6 = .ok (.ifCond .ne 6, 3) := by decide +kernel
theorem dM_nth_9 : decode prog_6_method_29_code 9 = .ok (.bipush (-2), 2) := by decide +kernel
theorem dM_nth_11 : decode prog_6_method_29_code 11 = .ok (.ireturn, 1) := by decide +kernel
theorem dM_nth_12 : decode prog_6_method_29_code 12 = .ok (.iload_n 3, 1) := by decide +kernel
theorem dM_nth_13 : decode prog_6_method_29_code 13 = .ok (.ifCond .lt 15, 3) := by decide +kernel
theorem dM_nth_16 : decode prog_6_method_29_code 16 = .ok (.iload 4, 2) := by decide +kernel
theorem dM_nth_18 : decode prog_6_method_29_code 18 = .ok (.iconst 0, 1) := by decide +kernel
theorem dM_nth_19 : decode prog_6_method_29_code 19 = .ok (.iload_n 1, 1) := by decide +kernel
theorem dM_nth_20 : decode prog_6_method_29_code 20 = .ok (.iconst 1, 1) := by decide +kernel
theorem dM_nth_21 : decode prog_6_method_29_code 21 = .ok (.isub, 1) := by decide +kernel
theorem dM_nth_22 : decode prog_6_method_29_code 22 = .ok (.invokestatic 51, 3) := by decide +kernel
theorem dM_nth_25 : decode prog_6_method_29_code 25 = .ok (.ifCond .ne 5, 3) := by decide +kernel
theorem dM_nth_28 : decode prog_6_method_29_code 28 = .ok (.iconst (-1), 1) := by decide +kernel
theorem dM_nth_29 : decode prog_6_method_29_code 29 = .ok (.ireturn, 1) := by decide +kernel
theorem dM_nth_30 : decode prog_6_method_29_code 30 = .ok (.iload_n 3, 1) := by decide +kernel
theorem dM_nth_31 : decode prog_6_method_29_code 31 = .ok (.istore 5, 2) := by decide +kernel
theorem dM_nth_33 : decode prog_6_method_29_code 33 = .ok (.aload_n 0, 1) := by decide +kernel
theorem dM_nth_34 : decode prog_6_method_29_code 34 = .ok (.iload_n 1, 1) := by decide +kernel
theorem dM_nth_35 : decode prog_6_method_29_code 35 = .ok (.invokevirtual 85, 3) := by decide +kernel
theorem dM_nth_38 : decode prog_6_method_29_code 38 = .ok (.istore 6, 2) := by decide +kernel
theorem dM_nth_40 : decode prog_6_method_29_code 40 = .ok (.iload 6, 2) := by decide +kernel
theorem dM_nth_42 : decode prog_6_method_29_code 42 = .ok (.ifCond .eq 36, 3) := by decide +kernel
theorem dM_nth_45 : decode prog_6_method_29_code 45 = .ok (.aload_n 0, 1) := by decide +kernel
theorem dM_nth_46 : decode prog_6_method_29_code 46 = .ok (.invokevirtual 88, 3) := by decide +kernel
theorem dM_nth_49 : decode prog_6_method_29_code 49 = .ok (.iload_n 2, 1) := by decide +kernel
theorem dM_nth_50 : decode prog_6_method_29_code 50 = .ok (.if_icmp .ne 19, 3) := by decide +kernel
theorem dM_nth_53 : decode prog_6_method_29_code 53 = .ok (.iload 5, 2) := by decide +kernel
theorem dM_nth_55 : decode prog_6_method_29_code 55 = .ok (.ifCond .ne 11, 3) := by decide +kernel
theorem dM_nth_58 : decode prog_6_method_29_code 58 = .ok (.aload_n 0, 1) := by decide +kernel
theorem dM_nth_59 : decode prog_6_method_29_code 59 = .ok (.getfield 26, 3) := by decide +kernel
theorem dM_nth_62 : decode prog_6_method_29_code 62 = .ok (.iload 4, 2) := by decide +kernel
theorem dM_nth_64 : decode prog_6_method_29_code 64 = .ok (.iaload, 1) := by decide +kernel
theorem dM_nth_65 : decode prog_6_method_29_code 65 = .ok (.ireturn, 1) := by decide +kernel
theorem dM_nth_66 : decode prog_6_method_29_code 66 = .ok (.iinc 5 (-1), 3) := by decide +kernel
theorem dM_nth_69 : decode prog_6_method_29_code 69 = .ok (.aload_n 0, 1) := by decide +kernel
theorem dM_nth_70 : decode prog_6_method_29_code 70 = .ok (.invokevirtual 92, 3) := by decide +kernel
theorem dM_nth_73 : decode prog_6_method_29_code 73 = .ok (.istore 6, 2) := by decide +kernel
theorem dM_nth_75 : decode prog_6_method_29_code 75 = .ok (.goto (-35), 3) := by decide +kernel
theorem dM_nth_78 : decode prog_6_method_29_code 78 = .ok (.iconst (-1), 1) := by decide +kernel
theorem dM_nth_79 : decode prog_6_method_29_code 79 = .ok (.ireturn, 1) := by decide +kernel
theorem dM_takes_0 : decode prog_6_method_30_code 0 = .ok (.aload_n 0, 1) := by decide +kernel
theorem dM_takes_1 : decode prog_6_method_30_code 1 = .ok (.getfield 32, 3) := by decide +kernel
theorem dM_takes_4 : decode prog_6_method_30_code 4 = .ok (.iconst 0, 1) := by decide +kernel
theorem dM_takes_5 : decode prog_6_method_30_code 5 = .ok (.iload_n 1, 1) := by decide +kernel
theorem dM_takes_6 : decode prog_6_method_30_code 6 = .ok (.iastore, 1) := by decide +kernel
theorem dM_takes_7 : decode prog_6_method_30_code 7 = .ok (.aload_n 0, 1) := by decide +kernel
theorem dM_takes_8 : decode prog_6_method_30_code 8 = .ok (.getfield 32, 3) := by decide +kernel
theorem dM_takes_11 : decode prog_6_method_30_code 11 = .ok (.iconst 1, 1) := by decide +kernel
theorem dM_takes_12 : decode prog_6_method_30_code 12 = .ok (.iload_n 2, 1) := by decide +kernel
theorem dM_takes_13 : decode prog_6_method_30_code 13 = .ok (.iastore, 1) := by decide +kernel
theorem dM_takes_14 : decode prog_6_method_30_code 14 = .ok (.aload_n 0, 1) := by decide +kernel
theorem dM_takes_15 : decode prog_6_method_30_code 15 = .ok (.getfield 32, 3) := by decide +kernel
theorem dM_takes_18 : decode prog_6_method_30_code 18 = .ok (.iconst 2, 1) := by decide +kernel
theorem dM_takes_19 : decode prog_6_method_30_code 19 = .ok (.iload_n 3, 1) := by decide +kernel
theorem dM_takes_20 : decode prog_6_method_30_code 20 = .ok (.iastore, 1) := by decide +kernel
theorem dM_takes_21 : decode prog_6_method_30_code 21 = .ok (.aload_n 0, 1) := by decide +kernel
theorem dM_takes_22 : decode prog_6_method_30_code 22 = .ok (.getfield 32, 3) := by decide +kernel
theorem dM_takes_25 : decode prog_6_method_30_code 25 = .ok (.iconst 3, 1) := by decide +kernel
theorem dM_takes_26 : decode prog_6_method_30_code 26 = .ok (.iload 4, 2) := by decide +kernel
theorem dM_takes_28 : decode prog_6_method_30_code 28 = .ok (.iastore, 1) := by decide +kernel
theorem dM_takes_29 : decode prog_6_method_30_code 29 = .ok (.aload_n 0, 1) := by decide +kernel
theorem dM_takes_30 : decode prog_6_method_30_code 30 = .ok (.iload 4, 2) := by decide +kernel
theorem dM_takes_32 : decode prog_6_method_30_code 32 = .ok (.iconst (-1), 1) := by decide +kernel
theorem dM_takes_33 : decode prog_6_method_30_code 33 = .ok (.if_icmp .ne 7, 3) := by decide +kernel
theorem dM_takes_36 : decode prog_6_method_30_code 36 = .ok (.iconst 3, 1) := by decide +kernel
theorem dM_takes_37 : decode prog_6_method_30_code 37 = .ok (.goto 4, 3) := by decide +kernel
theorem dM_takes_40 : decode prog_6_method_30_code 40 = .ok (.iconst 4, 1) := by decide +kernel
theorem dM_takes_41 : decode prog_6_method_30_code 41 = .ok (.putfield 78, 3) := by decide +kernel
theorem dM_takes_44 : decode prog_6_method_30_code 44 = .ok (.iconst 1, 1) := by decide +kernel
theorem dM_takes_45 : decode prog_6_method_30_code 45 = .ok (.istore 5, 2) := by decide +kernel
theorem dM_takes_47 : decode prog_6_method_30_code 47 = .ok (.iconst 0, 1) := by decide +kernel
theorem dM_takes_48 : decode prog_6_method_30_code 48 = .ok (.istore 6, 2) := by decide +kernel
theorem dM_takes_50 : decode prog_6_method_30_code 50 = .ok (.iload 6, 2) := by decide +kernel
theorem dM_takes_52 : decode prog_6_method_30_code 52 = .ok (.aload_n 0, 1) := by decide +kernel
theorem dM_takes_53 : decode prog_6_method_30_code 53 = .ok (.getfield 78, 3) := by decide +kernel
theorem dM_takes_56 : decode prog_6_method_30_code 56 = .ok (.if_icmp .ge 80, 3) := by decide +kernel
theorem dM_takes_59 : decode prog_6_method_30_code 59 = .ok (.iload 5, 2) := by decide +kernel
theorem dM_takes_61 : decode prog_6_method_30_code 61 = .ok (.ifCond .eq 21, 3) := by decide +kernel
theorem dM_takes_64 : decode prog_6_method_30_code 64 = .ok (.aload_n 0, 1) := by decide +kernel
theorem dM_takes_65 : decode prog_6_method_30_code 65 = .ok (.aload_n 0, 1) := by decide +kernel
theorem dM_takes_66 : decode prog_6_method_30_code 66 = .ok (.getfield 32, 3) := by decide +kernel
theorem dM_takes_69 : decode prog_6_method_30_code 69 = .ok (.iload 6, 2) := by decide +kernel
theorem dM_takes_71 : decode prog_6_method_30_code 71 = .ok (.iaload, 1) := by decide +kernel
theorem dM_takes_72 : decode prog_6_method_30_code 72 = .ok (.invokevirtual 55, 3) := by decide +kernel
theorem dM_takes_75 : decode prog_6_method_30_code 75 = .ok (.ifCond .eq 7, 3) := by decide +kernel
theorem dM_takes_78 : decode prog_6_method_30_code 78 = .ok (.iconst 1, 1) := by decide +kernel
theorem dM_takes_79 : decode prog_6_method_30_code 79 = .ok (.goto 4, 3) := by decide +kernel
theorem dM_takes_82 : decode prog_6_method_30_code 82 = .ok (.iconst 0, 1) := by decide +kernel
theorem dM_takes_83 : decode prog_6_method_30_code 83 = .ok (.istore 5, 2) := by decide +kernel
theorem dM_takes_85 : decode prog_6_method_30_code 85 = .ok (.iconst 0, 1) := by decide +kernel
theorem dM_takes_86 : decode prog_6_method_30_code 86 = .ok (.istore 7, 2) := by decide +kernel
theorem dM_takes_88 : decode prog_6_method_30_code 88 = .ok (.iload 7, 2) := by decide +kernel
theorem dM_takes_90 : decode prog_6_method_30_code 90 = .ok (.iload 6, 2) := by decide +kernel
theorem dM_takes_92 : decode prog_6_method_30_code 92 = .ok (.if_icmp .ge 38, 3) := by decide +kernel
theorem dM_takes_95 : decode prog_6_method_30_code 95 = .ok (.iload 5, 2) := by decide +kernel
theorem dM_takes_97 : decode prog_6_method_30_code 97 = .ok (.ifCond .eq 24, 3) := by decide +kernel
theorem dM_takes_100 : decode prog_6_method_30_code 100 = .ok (.aload_n 0, 1) := by decide +kernel
theorem dM_takes_101 : decode prog_6_method_30_code 101 = .ok (.getfield 32, 3) := by decide +kernel
theorem dM_takes_104 : decode prog_6_method_30_code 104 = .ok (.iload 6, 2) := by decide +kernel
theorem dM_takes_106 : decode prog_6_method_30_code 106 = .ok (.iaload, 1) := by decide +kernel
theorem dM_takes_107 : decode prog_6_method_30_code 107 = .ok (.aload_n 0, 1) := by decide +kernel
theorem dM_takes_108 : decode prog_6_method_30_code 108 = .ok (.getfield 32, 3) := by decide +kernel
theorem dM_takes_111 : decode prog_6_method_30_code 111 = .ok (.iload 7, 2) := by decide +kernel
theorem dM_takes_113 : decode prog_6_method_30_code 113 = .ok (.iaload, 1) := by decide +kernel
theorem dM_takes_114 : decode prog_6_method_30_code 114 = .ok (.if_icmp .eq 7, 3) := by decide +kernel
theorem dM_takes_117 : decode prog_6_method_30_code 117 = .ok (.iconst 1, 1) := by decide +kernel
theorem dM_takes_118 : decode prog_6_method_30_code 118 = .ok (.goto 4, 3) := by decide +kernel
theorem dM_takes_121 : decode prog_6_method_30_code 121 = .ok (.iconst 0, 1) := by decide +kernel
theorem dM_takes_122 : decode prog_6_method_30_code 122 = .ok (.istore 5, 2) := by decide +kernel
theorem dM_takes_124 : decode prog_6_method_30_code 124 = .ok (.iinc 7 1, 3) := by decide +kernel
theorem dM_takes_127 : decode prog_6_method_30_code 127 = .ok (.goto (-39), 3) := by decide +kernel
theorem dM_takes_130 : decode prog_6_method_30_code 130 = .ok (.iinc 6 1, 3) := by decide +kernel
theorem dM_takes_133 : decode prog_6_method_30_code 133 = .ok (.goto (-83), 3) := by decide +kernel
theorem dM_takes_136 : decode prog_6_method_30_code 136 = .ok (.iconst 0, 1) := by decide +kernel
theorem dM_takes_137 : decode prog_6_method_30_code 137 = .ok (.istore 6, 2) := by decide +kernel
theorem dM_takes_139 : decode prog_6_method_30_code 139 = .ok (.iconst 0, 1) := by decide +kernel
theorem dM_takes_140 : decode prog_6_method_30_code 140 = .ok (.istore 7, 2) := by decide +kernel
theorem dM_takes_142 : decode prog_6_method_30_code 142 = .ok (.iload 7, 2) := by decide +kernel
theorem dM_takes_144 : decode prog_6_method_30_code 144 = .ok (.aload_n 0, 1) := by decide +kernel
theorem dM_takes_145 : decode prog_6_method_30_code 145 = .ok (.getfield 47, 3) := by decide +kernel
theorem dM_takes_148 : decode prog_6_method_30_code 148 = .ok (.if_icmp .ge 76, 3) := by decide +kernel
theorem dM_takes_151 : decode prog_6_method_30_code 151 = .ok (.iload 5, 2) := by decide +kernel
theorem dM_takes_153 : decode prog_6_method_30_code 153 = .ok (.ifCond .eq 71, 3) := by decide +kernel
theorem dM_takes_156 : decode prog_6_method_30_code 156 = .ok (.iconst 0, 1) := by decide +kernel
theorem dM_takes_157 : decode prog_6_method_30_code 157 = .ok (.istore 8, 2) := by decide +kernel
theorem dM_takes_159 : decode prog_6_method_30_code 159 = .ok (.iconst 0, 1) := by decide +kernel
theorem dM_takes_160 : decode prog_6_method_30_code 160 = .ok (.istore 9, 2) := by decide +kernel
theorem dM_takes_162 : decode prog_6_method_30_code 162 = .ok (.iload 9, 2) := by decide +kernel
theorem dM_takes_164 : decode prog_6_method_30_code 164 = .ok (.aload_n 0, 1) := by decide +kernel
theorem dM_takes_165 : decode prog_6_method_30_code 165 = .ok (.getfield 78, 3) := by decide +kernel
theorem dM_takes_168 : decode prog_6_method_30_code 168 = .ok (.if_icmp .ge 33, 3) := by decide +kernel
theorem dM_takes_171 : decode prog_6_method_30_code 171 = .ok (.iload 8, 2) := by decide +kernel
theorem dM_takes_173 : decode prog_6_method_30_code 173 = .ok (.ifCond .ne 15, 3) := by decide +kernel
theorem dM_takes_176 : decode prog_6_method_30_code 176 = .ok (.aload_n 0, 1) := by decide +kernel
theorem dM_takes_177 : decode prog_6_method_30_code 177 = .ok (.getfield 32, 3) := by decide +kernel
theorem dM_takes_180 : decode prog_6_method_30_code 180 = .ok (.iload 9, 2) := by decide +kernel
theorem dM_takes_182 : decode prog_6_method_30_code 182 = .ok (.iaload, 1) := by decide +kernel
theorem dM_takes_183 : decode prog_6_method_30_code 183 = .ok (.iload 7, 2) := by decide +kernel
theorem dM_takes_185 : decode prog_6_method_30_code 185 = .ok (.if_icmp .ne 7, 3) := by decide +kernel
theorem dM_takes_188 : decode prog_6_method_30_code 188 = .ok (.iconst 1, 1) := by decide +kernel
theorem dM_takes_189 : decode prog_6_method_30_code 189 = .ok (.goto 4, 3) := by decide +kernel
theorem dM_takes_192 : decode prog_6_method_30_code 192 = .ok (.iconst 0, 1) := by decide +kernel
theorem dM_takes_193 : decode prog_6_method_30_code 193 = .ok (.istore 8, 2) := by decide +kernel
theorem dM_takes_195 : decode prog_6_method_30_code 195 = .ok (.iinc 9 1, 3) := by decide +kernel
theorem dM_takes_198 : decode prog_6_method_30_code 198 = .ok (.goto (-36), 3) := by decide +kernel
theorem dM_takes_201 : decode prog_6_method_30_code 201 = .ok (.iload 8, 2) := by decide +kernel
theorem dM_takes_203 : decode prog_6_method_30_code 203 = .ok (.ifCond .eq 15, 3) := by decide +kernel
theorem dM_takes_206 : decode prog_6_method_30_code 206 = .ok (.aload_n 0, 1) := by decide +kernel
theorem dM_takes_207 : decode prog_6_method_30_code 207 = .ok (.getfield 26, 3) := by decide +kernel
theorem dM_takes_210 : decode prog_6_method_30_code 210 = .ok (.iload 6, 2) := by decide +kernel
theorem dM_takes_212 : decode prog_6_method_30_code 212 = .ok (.iload 7, 2) := by decide +kernel
theorem dM_takes_214 : decode prog_6_method_30_code 214 = .ok (.iastore, 1) := by decide +kernel
theorem dM_takes_215 : decode prog_6_method_30_code 215 = .ok (.iinc 6 1, 3) := by decide +kernel
theorem dM_takes_218 : decode prog_6_method_30_code 218 = .ok (.iinc 7 1, 3) := by decide +kernel
theorem dM_takes_221 : decode prog_6_method_30_code 221 = .ok (.goto (-79), 3) := by decide +kernel
theorem dM_takes_224 : decode prog_6_method_30_code 224 = .ok (.iload 5, 2) := by decide +kernel
theorem dM_takes_226 : decode prog_6_method_30_code 226 = .ok (.ireturn, 1) := by decide +kernel
theorem dM_sort_0 : decode prog_6_method_31_code 0 = .ok (.aload_n 0, 1) := by decide +kernel
theorem dM_sort_1 : decode prog_6_method_31_code 1 = .ok (.iload_n 1, 1) := by decide +kernel
theorem dM_sort_2 : decode prog_6_method_31_code 2 = .ok (.iload_n 2, 1) := by decide +kernel
theorem dM_sort_3 : decode prog_6_method_31_code 3 = .ok (.iload_n 3, 1) := by decide +kernel
theorem dM_sort_4 : decode prog_6_method_31_code 4 = .ok (.iload 4, 2) := by decide +kernel
theorem dM_sort_6 : decode prog_6_method_31_code 6 = .ok (.invokevirtual 102, 3) := by decide +kernel
theorem dM_sort_9 : decode prog_6_method_31_code 9 = .ok (.ifCond .eq 10, 3) := by decide +kernel
theorem dM_sort_12 : decode prog_6_method_31_code 12 = .ok (.aload_n 0, 1) := by decide +kernel
theorem dM_sort_13 : decode prog_6_method_31_code 13 = .ok (.invokevirtual 88, 3) := by decide +kernel
theorem dM_sort_16 : decode prog_6_method_31_code 16 = .ok (.goto 5, 3) := by decide +kernel
theorem dM_sort_19 : decode prog_6_method_31_code 19 = .ok (.bipush (-3), 2) := by decide +kernel
theorem dM_sort_21 : decode prog_6_method_31_code 21 = .ok (.ireturn, 1) := by decide +kernel
theorem dM_rank_0 : decode prog_6_method_32_code 0 = .ok (.aload_n 0, 1) := by decide +kernel
theorem dM_rank_1 : decode prog_6_method_32_code 1 = .ok (.iload_n 1, 1) := by decide +kernel
theorem dM_rank_2 : decode prog_6_method_32_code 2 = .ok (.iload_n 2, 1) := by decide +kernel
theorem dM_rank_3 : decode prog_6_method_32_code 3 = .ok (.iload_n 3, 1) := by decide +kernel
theorem dM_rank_4 : decode prog_6_method_32_code 4 = .ok (.iload 4, 2) := by decide +kernel
theorem dM_rank_6 : decode prog_6_method_32_code 6 = .ok (.invokevirtual 102, 3) := by decide +kernel
theorem dM_rank_9 : decode prog_6_method_32_code 9 = .ok (.ifCond .ne 6, 3) := by decide +kernel
theorem dM_rank_12 : decode prog_6_method_32_code 12 = .ok (.bipush (-3), 2) := by decide +kernel
theorem dM_rank_14 : decode prog_6_method_32_code 14 = .ok (.ireturn, 1) := by decide +kernel
theorem dM_rank_15 : decode prog_6_method_32_code 15 = .ok (.aload_n 0, 1) := by decide +kernel
theorem dM_rank_16 : decode prog_6_method_32_code 16 = .ok (.getfield 78, 3) := by decide +kernel
theorem dM_rank_19 : decode prog_6_method_32_code 19 = .ok (.istore 5, 2) := by decide +kernel
theorem dM_rank_21 : decode prog_6_method_32_code 21 = .ok (.aload_n 0, 1) := by decide +kernel
theorem dM_rank_22 : decode prog_6_method_32_code 22 = .ok (.invokevirtual 88, 3) := by decide +kernel
theorem dM_rank_25 : decode prog_6_method_32_code 25 = .ok (.istore 6, 2) := by decide +kernel
theorem dM_rank_27 : decode prog_6_method_32_code 27 = .ok (.iconst 0, 1) := by decide +kernel
theorem dM_rank_28 : decode prog_6_method_32_code 28 = .ok (.istore 7, 2) := by decide +kernel
theorem dM_rank_30 : decode prog_6_method_32_code 30 = .ok (.iload 7, 2) := by decide +kernel
theorem dM_rank_32 : decode prog_6_method_32_code 32 = .ok (.iload 5, 2) := by decide +kernel
theorem dM_rank_34 : decode prog_6_method_32_code 34 = .ok (.if_icmp .ge 23, 3) := by decide +kernel
theorem dM_rank_37 : decode prog_6_method_32_code 37 = .ok (.aload_n 0, 1) := by decide +kernel
theorem dM_rank_38 : decode prog_6_method_32_code 38 = .ok (.getfield 32, 3) := by decide +kernel
theorem dM_rank_41 : decode prog_6_method_32_code 41 = .ok (.iload 7, 2) := by decide +kernel
theorem dM_rank_43 : decode prog_6_method_32_code 43 = .ok (.aload_n 0, 1) := by decide +kernel
theorem dM_rank_44 : decode prog_6_method_32_code 44 = .ok (.getfield 26, 3) := by decide +kernel
theorem dM_rank_47 : decode prog_6_method_32_code 47 = .ok (.iload 7, 2) := by decide +kernel
theorem dM_rank_49 : decode prog_6_method_32_code 49 = .ok (.iaload, 1) := by decide +kernel
theorem dM_rank_50 : decode prog_6_method_32_code 50 = .ok (.iastore, 1) := by decide +kernel
theorem dM_rank_51 : decode prog_6_method_32_code 51 = .ok (.iinc 7 1, 3) := by decide +kernel
theorem dM_rank_54 : decode prog_6_method_32_code 54 = .ok (.goto (-24), 3) := by decide +kernel
theorem dM_rank_57 : decode prog_6_method_32_code 57 = .ok (.iconst 0, 1) := by decide +kernel
theorem dM_rank_58 : decode prog_6_method_32_code 58 = .ok (.istore 7, 2) := by decide +kernel
theorem dM_rank_60 : decode prog_6_method_32_code 60 = .ok (.aload_n 0, 1) := by decide +kernel
theorem dM_rank_61 : decode prog_6_method_32_code 61 = .ok (.iload 5, 2) := by decide +kernel
theorem dM_rank_63 : decode prog_6_method_32_code 63 = .ok (.invokevirtual 85, 3) := by decide +kernel
theorem dM_rank_66 : decode prog_6_method_32_code 66 = .ok (.istore 8, 2) := by decide +kernel
theorem dM_rank_68 : decode prog_6_method_32_code 68 = .ok (.iconst 0, 1) := by decide +kernel
theorem dM_rank_69 : decode prog_6_method_32_code 69 = .ok (.istore 9, 2) := by decide +kernel
theorem dM_rank_71 : decode prog_6_method_32_code 71 = .ok (.iload 8, 2) := by decide +kernel
theorem dM_rank_73 : decode prog_6_method_32_code 73 = .ok (.ifCond .eq 89, 3) := by decide +kernel
theorem dM_rank_76 : decode prog_6_method_32_code 76 = .ok (.iload 9, 2) := by decide +kernel
theorem dM_rank_78 : decode prog_6_method_32_code 78 = .ok (.ifCond .ne 84, 3) := by decide +kernel
theorem dM_rank_81 : decode prog_6_method_32_code 81 = .ok (.iconst 1, 1) := by decide +kernel
theorem dM_rank_82 : decode prog_6_method_32_code 82 = .ok (.istore 9, 2) := by decide +kernel
theorem dM_rank_84 : decode prog_6_method_32_code 84 = .ok (.iconst 0, 1) := by decide +kernel
theorem dM_rank_85 : decode prog_6_method_32_code 85 = .ok (.istore 10, 2) := by decide +kernel
theorem dM_rank_87 : decode prog_6_method_32_code 87 = .ok (.iload 10, 2) := by decide +kernel
theorem dM_rank_89 : decode prog_6_method_32_code 89 = .ok (.iload 5, 2) := by decide +kernel
theorem dM_rank_91 : decode prog_6_method_32_code 91 = .ok (.if_icmp .ge 38, 3) := by decide +kernel
theorem dM_rank_94 : decode prog_6_method_32_code 94 = .ok (.iload 9, 2) := by decide +kernel
theorem dM_rank_96 : decode prog_6_method_32_code 96 = .ok (.ifCond .eq 24, 3) := by decide +kernel
theorem dM_rank_99 : decode prog_6_method_32_code 99 = .ok (.aload_n 0, 1) := by decide +kernel
theorem dM_rank_100 : decode prog_6_method_32_code 100 = .ok (.getfield 26, 3) := by decide +kernel
theorem dM_rank_103 : decode prog_6_method_32_code 103 = .ok (.iload 10, 2) := by decide +kernel
theorem dM_rank_105 : decode prog_6_method_32_code 105 = .ok (.iaload, 1) := by decide +kernel
theorem dM_rank_106 : decode prog_6_method_32_code 106 = .ok (.aload_n 0, 1) := by decide +kernel
theorem dM_rank_107 : decode prog_6_method_32_code 107 = .ok (.getfield 32, 3) := by decide +kernel
theorem dM_rank_110 : decode prog_6_method_32_code 110 = .ok (.iload 10, 2) := by decide +kernel
theorem dM_rank_112 : decode prog_6_method_32_code 112 = .ok (.iaload, 1) := by decide +kernel
theorem dM_rank_113 : decode prog_6_method_32_code 113 = .ok (.if_icmp .ne 7, 3) := by decide +kernel
theorem dM_rank_116 : decode prog_6_method_32_code 116 = .ok (.iconst 1, 1) := by decide +kernel
theorem dM_rank_117 : decode prog_6_method_32_code 117 = .ok (.goto 4, 3) := by decide +kernel
theorem dM_rank_120 : decode prog_6_method_32_code 120 = .ok (.iconst 0, 1) := by decide +kernel
theorem dM_rank_121 : decode prog_6_method_32_code 121 = .ok (.istore 9, 2) := by decide +kernel
theorem dM_rank_123 : decode prog_6_method_32_code 123 = .ok (.iinc 10 1, 3) := by decide +kernel
theorem dM_rank_126 : decode prog_6_method_32_code 126 = .ok (.goto (-39), 3) := by decide +kernel
theorem dM_rank_129 : decode prog_6_method_32_code 129 = .ok (.iload 7, 2) := by decide +kernel
theorem dM_rank_131 : decode prog_6_method_32_code 131 = .ok (.iload 9, 2) := by decide +kernel
theorem dM_rank_133 : decode prog_6_method_32_code 133 = .ok (.ifCond .ne 16, 3) := by decide +kernel
theorem dM_rank_136 : decode prog_6_method_32_code 136 = .ok (.aload_n 0, 1) := by decide +kernel
theorem dM_rank_137 : decode prog_6_method_32_code 137 = .ok (.invokevirtual 88, 3) := by decide +kernel
theorem dM_rank_140 : decode prog_6_method_32_code 140 = .ok (.iload 6, 2) := by decide +kernel
theorem dM_rank_142 : decode prog_6_method_32_code 142 = .ok (.if_icmp .ne 7, 3) := by decide +kernel
theorem dM_rank_145 : decode prog_6_method_32_code 145 = .ok (.iconst 1, 1) := by decide +kernel
theorem dM_rank_146 : decode prog_6_method_32_code 146 = .ok (.goto 4, 3) := by decide +kernel
theorem dM_rank_149 : decode prog_6_method_32_code 149 = .ok (.iconst 0, 1) := by decide +kernel
theorem dM_rank_150 : decode prog_6_method_32_code 150 = .ok (.iadd, 1) := by decide +kernel
theorem dM_rank_151 : decode prog_6_method_32_code 151 = .ok (.istore 7, 2) := by decide +kernel
theorem dM_rank_153 : decode prog_6_method_32_code 153 = .ok (.aload_n 0, 1) := by decide +kernel
theorem dM_rank_154 : decode prog_6_method_32_code 154 = .ok (.invokevirtual 92, 3) := by decide +kernel
theorem dM_rank_157 : decode prog_6_method_32_code 157 = .ok (.istore 8, 2) := by decide +kernel
theorem dM_rank_159 : decode prog_6_method_32_code 159 = .ok (.goto (-88), 3) := by decide +kernel
theorem dM_rank_162 : decode prog_6_method_32_code 162 = .ok (.iload 7, 2) := by decide +kernel
theorem dM_rank_164 : decode prog_6_method_32_code 164 = .ok (.ireturn, 1) := by decide +kernel
theorem dM_like_0 : decode prog_6_method_33_code 0 = .ok (.aload_n 0, 1) := by decide +kernel
theorem dM_like_1 : decode prog_6_method_33_code 1 = .ok (.iload_n 1, 1) := by decide +kernel
theorem dM_like_2 : decode prog_6_method_33_code 2 = .ok (.invokevirtual 55, 3) := by decide +kernel
theorem dM_like_5 : decode prog_6_method_33_code 5 = .ok (.ifCond .eq 11, 3) := by decide +kernel
theorem dM_like_8 : decode prog_6_method_33_code 8 = .ok (.aload_n 0, 1) := by decide +kernel
theorem dM_like_9 : decode prog_6_method_33_code 9 = .ok (.iload_n 2, 1) := by decide +kernel
theorem dM_like_10 : decode prog_6_method_33_code 10 = .ok (.invokevirtual 55, 3) := by decide +kernel
theorem dM_like_13 : decode prog_6_method_33_code 13 = .ok (.ifCond .ne 6, 3) := by decide +kernel
theorem dM_like_16 : decode prog_6_method_33_code 16 = .ok (.bipush (-3), 2) := by decide +kernel
theorem dM_like_18 : decode prog_6_method_33_code 18 = .ok (.ireturn, 1) := by decide +kernel
theorem dM_like_19 : decode prog_6_method_33_code 19 = .ok (.iconst 0, 1) := by decide +kernel
theorem dM_like_20 : decode prog_6_method_33_code 20 = .ok (.istore_n 3, 1) := by decide +kernel
theorem dM_like_21 : decode prog_6_method_33_code 21 = .ok (.iload_n 3, 1) := by decide +kernel
theorem dM_like_22 : decode prog_6_method_33_code 22 = .ok (.bipush 60, 2) := by decide +kernel
theorem dM_like_24 : decode prog_6_method_33_code 24 = .ok (.if_icmp .ge 23, 3) := by decide +kernel
theorem dM_like_27 : decode prog_6_method_33_code 27 = .ok (.aload_n 0, 1) := by decide +kernel
theorem dM_like_28 : decode prog_6_method_33_code 28 = .ok (.getfield 35, 3) := by decide +kernel
theorem dM_like_31 : decode prog_6_method_33_code 31 = .ok (.iload_n 3, 1) := by decide +kernel
theorem dM_like_32 : decode prog_6_method_33_code 32 = .ok (.iconst 0, 1) := by decide +kernel
theorem dM_like_33 : decode prog_6_method_33_code 33 = .ok (.iastore, 1) := by decide +kernel
theorem dM_like_34 : decode prog_6_method_33_code 34 = .ok (.aload_n 0, 1) := by decide +kernel
theorem dM_like_35 : decode prog_6_method_33_code 35 = .ok (.getfield 38, 3) := by decide +kernel
theorem dM_like_38 : decode prog_6_method_33_code 38 = .ok (.iload_n 3, 1) := by decide +kernel
theorem dM_like_39 : decode prog_6_method_33_code 39 = .ok (.iconst 0, 1) := by decide +kernel
theorem dM_like_40 : decode prog_6_method_33_code 40 = .ok (.iastore, 1) := by decide +kernel
theorem dM_like_41 : decode prog_6_method_33_code 41 = .ok (.iinc 3 1, 3) := by decide +kernel
theorem dM_like_44 : decode prog_6_method_33_code 44 = .ok (.goto (-23), 3) := by decide +kernel
theorem dM_like_47 : decode prog_6_method_33_code 47 = .ok (.iconst 3, 1) := by decide +kernel
theorem dM_like_48 : decode prog_6_method_33_code 48 = .ok (.istore_n 3, 1) := by decide +kernel
theorem dM_like_49 : decode prog_6_method_33_code 49 = .ok (.iload_n 3, 1) := by decide +kernel
theorem dM_like_50 : decode prog_6_method_33_code 50 = .ok (.iconst 4, 1) := by decide +kernel
theorem dM_like_51 : decode prog_6_method_33_code 51 = .ok (.if_icmp .gt 93, 3) := by decide +kernel
theorem dM_like_54 : decode prog_6_method_33_code 54 = .ok (.aload_n 0, 1) := by decide +kernel
theorem dM_like_55 : decode prog_6_method_33_code 55 = .ok (.iload_n 3, 1) := by decide +kernel
theorem dM_like_56 : decode prog_6_method_33_code 56 = .ok (.invokevirtual 85, 3) := by decide +kernel
theorem dM_like_59 : decode prog_6_method_33_code 59 = .ok (.istore 4, 2) := by decide +kernel
theorem dM_like_61 : decode prog_6_method_33_code 61 = .ok (.iload 4, 2) := by decide +kernel
theorem dM_like_63 : decode prog_6_method_33_code 63 = .ok (.ifCond .eq 75, 3) := by decide +kernel
theorem dM_like_66 : decode prog_6_method_33_code 66 = .ok (.iconst 4, 1) := by decide +kernel
theorem dM_like_67 : decode prog_6_method_33_code 67 = .ok (.aload_n 0, 1) := by decide +kernel
theorem dM_like_68 : decode prog_6_method_33_code 68 = .ok (.iload_n 3, 1) := by decide +kernel
theorem dM_like_69 : decode prog_6_method_33_code 69 = .ok (.aload_n 0, 1) := by decide +kernel
theorem dM_like_70 : decode prog_6_method_33_code 70 = .ok (.invokevirtual 88, 3) := by decide +kernel
theorem dM_like_73 : decode prog_6_method_33_code 73 = .ok (.invokevirtual 59, 3) := by decide +kernel
theorem dM_like_76 : decode prog_6_method_33_code 76 = .ok (.imul, 1) := by decide +kernel
theorem dM_like_77 : decode prog_6_method_33_code 77 = .ok (.istore 5, 2) := by decide +kernel
theorem dM_like_79 : decode prog_6_method_33_code 79 = .ok (.aload_n 0, 1) := by decide +kernel
theorem dM_like_80 : decode prog_6_method_33_code 80 = .ok (.iload_n 1, 1) := by decide +kernel
theorem dM_like_81 : decode prog_6_method_33_code 81 = .ok (.invokevirtual 99, 3) := by decide +kernel
theorem dM_like_84 : decode prog_6_method_33_code 84 = .ok (.ifCond .eq 20, 3) := by decide +kernel
theorem dM_like_87 : decode prog_6_method_33_code 87 = .ok (.aload_n 0, 1) := by decide +kernel
theorem dM_like_88 : decode prog_6_method_33_code 88 = .ok (.getfield 35, 3) := by decide +kernel
theorem dM_like_91 : decode prog_6_method_33_code 91 = .ok (.iload 5, 2) := by decide +kernel
theorem dM_like_93 : decode prog_6_method_33_code 93 = .ok (.aload_n 0, 1) := by decide +kernel
theorem dM_like_94 : decode prog_6_method_33_code 94 = .ok (.iload_n 1, 1) := by decide +kernel
theorem dM_like_95 : decode prog_6_method_33_code 95 = .ok (.invokevirtual 81, 3) := by decide +kernel
theorem dM_like_98 : decode prog_6_method_33_code 98 = .ok (.iadd, 1) := by decide +kernel
theorem dM_like_99 : decode prog_6_method_33_code 99 = .ok (.dup2, 1) := by decide +kernel
theorem dM_like_100 : decode prog_6_method_33_code 100 = .ok (.iaload, 1) := by decide +kernel
theorem dM_like_101 : decode prog_6_method_33_code 101 = .ok (.iconst 1, 1) := by decide +kernel
theorem dM_like_102 : decode prog_6_method_33_code 102 = .ok (.iadd, 1) := by decide +kernel
theorem dM_like_103 : decode prog_6_method_33_code 103 = .ok (.iastore, 1) := by decide +kernel
theorem dM_like_104 : decode prog_6_method_33_code 104 = .ok (.aload_n 0, 1) := by decide +kernel
theorem dM_like_105 : decode prog_6_method_33_code 105 = .ok (.iload_n 2, 1) := by decide +kernel
theorem dM_like_106 : decode prog_6_method_33_code 106 = .ok (.invokevirtual 99, 3) := by decide +kernel
theorem dM_like_109 : decode prog_6_method_33_code 109 = .ok (.ifCond .eq 20, 3) := by decide +kernel
theorem dM_like_112 : decode prog_6_method_33_code 112 = .ok (.aload_n 0, 1) := by decide +kernel
theorem dM_like_113 : decode prog_6_method_33_code 113 = .ok (.getfield 38, 3) := by decide +kernel
theorem dM_like_116 : decode prog_6_method_33_code 116 = .ok (.iload 5, 2) := by decide +kernel
theorem dM_like_118 : decode prog_6_method_33_code 118 = .ok (.aload_n 0, 1) := by decide +kernel
theorem dM_like_119 : decode prog_6_method_33_code 119 = .ok (.iload_n 2, 1) := by decide +kernel
theorem dM_like_120 : decode prog_6_method_33_code 120 = .ok (.invokevirtual 81, 3) := by decide +kernel
theorem dM_like_123 : decode prog_6_method_33_code 123 = .ok (.iadd, 1) := by decide +kernel
theorem dM_like_124 : decode prog_6_method_33_code 124 = .ok (.dup2, 1) := by decide +kernel
theorem dM_like_125 : decode prog_6_method_33_code 125 = .ok (.iaload, 1) := by decide +kernel
theorem dM_like_126 : decode prog_6_method_33_code 126 = .ok (.iconst 1, 1) := by decide +kernel
theorem dM_like_127 : decode prog_6_method_33_code 127 = .ok (.iadd, 1) := by decide +kernel
theorem dM_like_128 : decode prog_6_method_33_code 128 = .ok (.iastore, 1) := by decide +kernel
theorem dM_like_129 : decode prog_6_method_33_code 129 = .ok (.aload_n 0, 1) := by decide +kernel
theorem dM_like_130 : decode prog_6_method_33_code 130 = .ok (.invokevirtual 92, 3) := by decide +kernel
theorem dM_like_133 : decode prog_6_method_33_code 133 = .ok (.istore 4, 2) := by decide +kernel
theorem dM_like_135 : decode prog_6_method_33_code 135 = .ok (.goto (-74), 3) := by decide +kernel
theorem dM_like_138 : decode prog_6_method_33_code 138 = .ok (.iinc 3 1, 3) := by decide +kernel
theorem dM_like_141 : decode prog_6_method_33_code 141 = .ok (.goto (-92), 3) := by decide +kernel
theorem dM_like_144 : decode prog_6_method_33_code 144 = .ok (.iconst 1, 1) := by decide +kernel
theorem dM_like_145 : decode prog_6_method_33_code 145 = .ok (.istore_n 3, 1) := by decide +kernel
theorem dM_like_146 : decode prog_6_method_33_code 146 = .ok (.iconst 0, 1) := by decide +kernel
theorem dM_like_147 : decode prog_6_method_33_code 147 = .ok (.istore 4, 2) := by decide +kernel
theorem dM_like_149 : decode prog_6_method_33_code 149 = .ok (.iload 4, 2) := by decide +kernel
theorem dM_like_151 : decode prog_6_method_33_code 151 = .ok (.bipush 60, 2) := by decide +kernel
theorem dM_like_153 : decode prog_6_method_33_code 153 = .ok (.if_icmp .ge 36, 3) := by decide +kernel
theorem dM_like_156 : decode prog_6_method_33_code 156 = .ok (.iload_n 3, 1) := by decide +kernel
theorem dM_like_157 : decode prog_6_method_33_code 157 = .ok (.ifCond .eq 24, 3) := by decide +kernel
theorem dM_like_160 : decode prog_6_method_33_code 160 = .ok (.aload_n 0, 1) := by decide +kernel
theorem dM_like_161 : decode prog_6_method_33_code 161 = .ok (.getfield 35, 3) := by decide +kernel
theorem dM_like_164 : decode prog_6_method_33_code 164 = .ok (.iload 4, 2) := by decide +kernel
theorem dM_like_166 : decode prog_6_method_33_code 166 = .ok (.iaload, 1) := by decide +kernel
theorem dM_like_167 : decode prog_6_method_33_code 167 = .ok (.aload_n 0, 1) := by decide +kernel
theorem dM_like_168 : decode prog_6_method_33_code 168 = .ok (.getfield 38, 3) := by decide +kernel
theorem dM_like_171 : decode prog_6_method_33_code 171 = .ok (.iload 4, 2) := by decide +kernel
theorem dM_like_173 : decode prog_6_method_33_code 173 = .ok (.iaload, 1) := by decide +kernel
theorem dM_like_174 : decode prog_6_method_33_code 174 = .ok (.if_icmp .ne 7, 3) := by decide +kernel
theorem dM_like_177 : decode prog_6_method_33_code 177 = .ok (.iconst 1, 1) := by decide +kernel
theorem dM_like_178 : decode prog_6_method_33_code 178 = .ok (.goto 4, 3) := by decide +kernel
theorem dM_like_181 : decode prog_6_method_33_code 181 = .ok (.iconst 0, 1) := by decide +kernel
theorem dM_like_182 : decode prog_6_method_33_code 182 = .ok (.istore_n 3, 1) := by decide +kernel
theorem dM_like_183 : decode prog_6_method_33_code 183 = .ok (.iinc 4 1, 3) := by decide +kernel
theorem dM_like_186 : decode prog_6_method_33_code 186 = .ok (.goto (-37), 3) := by decide +kernel
theorem dM_like_189 : decode prog_6_method_33_code 189 = .ok (.iload_n 3, 1) := by decide +kernel
theorem dM_like_190 : decode prog_6_method_33_code 190 = .ok (.ifCond .eq 7, 3) := by decide +kernel
theorem dM_like_193 : decode prog_6_method_33_code 193 = .ok (.iconst 1, 1) := by decide +kernel
theorem dM_like_194 : decode prog_6_method_33_code 194 = .ok (.goto 4, 3) := by decide +kernel
theorem dM_like_197 : decode prog_6_method_33_code 197 = .ok (.iconst 0, 1) := by decide +kernel
theorem dM_like_198 : decode prog_6_method_33_code 198 = .ok (.ireturn, 1) := by decide +kernel
theorem dM_closed_0 : decode prog_6_method_34_code 0 = .ok (.iload_n 2, 1) := by decide +kernel
theorem dM_closed_1 : decode prog_6_method_34_code 1 = .ok (.iconst 0, 1) := by decide +kernel
theorem dM_closed_2 : decode prog_6_method_34_code 2 = .ok (.iconst 1, 1) := by decide +kernel
theorem dM_closed_3 : decode prog_6_method_34_code 3 = .ok (.invokestatic 51, 3) := by decide +kernel
theorem dM_closed_6 : decode prog_6_method_34_code 6 = .ok (.ifCond .ne 6, 3) := by decide +kernel
theorem dM_closed_9 : decode prog_6_method_34_code 9 = .ok (.bipush (-2), 2) := by decide +kernel
theorem dM_closed_11 : decode prog_6_method_34_code 11 = .ok (.ireturn, 1) := by decide +kernel
theorem dM_closed_12 : decode prog_6_method_34_code 12 = .ok (.aload_n 0, 1) := by decide +kernel
theorem dM_closed_13 : decode prog_6_method_34_code 13 = .ok (.iload_n 1, 1) := by decide +kernel
theorem dM_closed_14 : decode prog_6_method_34_code 14 = .ok (.invokevirtual 55, 3) := by decide +kernel
theorem dM_closed_17 : decode prog_6_method_34_code 17 = .ok (.ifCond .ne 6, 3) := by decide +kernel
theorem dM_closed_20 : decode prog_6_method_34_code 20 = .ok (.bipush (-3), 2) := by decide +kernel
theorem dM_closed_22 : decode prog_6_method_34_code 22 = .ok (.ireturn, 1) := by decide +kernel
theorem dM_closed_23 : decode prog_6_method_34_code 23 = .ok (.iconst 0, 1) := by decide +kernel
theorem dM_closed_24 : decode prog_6_method_34_code 24 = .ok (.istore_n 3, 1) := by decide +kernel
theorem dM_closed_25 : decode prog_6_method_34_code 25 = .ok (.iconst 0, 1) := by decide +kernel
theorem dM_closed_26 : decode prog_6_method_34_code 26 = .ok (.istore 4, 2) := by decide +kernel
theorem dM_closed_28 : decode prog_6_method_34_code 28 = .ok (.iconst 0, 1) := by decide +kernel
theorem dM_closed_29 : decode prog_6_method_34_code 29 = .ok (.istore 5, 2) := by decide +kernel
theorem dM_closed_31 : decode prog_6_method_34_code 31 = .ok (.iload 5, 2) := by decide +kernel
theorem dM_closed_33 : decode prog_6_method_34_code 33 = .ok (.aload_n 0, 1) := by decide +kernel
theorem dM_closed_34 : decode prog_6_method_34_code 34 = .ok (.getfield 47, 3) := by decide +kernel
theorem dM_closed_37 : decode prog_6_method_34_code 37 = .ok (.if_icmp .ge 106, 3) := by decide +kernel
theorem dM_closed_40 : decode prog_6_method_34_code 40 = .ok (.iconst 0, 1) := by decide +kernel
theorem dM_closed_41 : decode prog_6_method_34_code 41 = .ok (.istore 6, 2) := by decide +kernel
theorem dM_closed_43 : decode prog_6_method_34_code 43 = .ok (.iload 6, 2) := by decide +kernel
theorem dM_closed_45 : decode prog_6_method_34_code 45 = .ok (.iload 5, 2) := by decide +kernel
theorem dM_closed_47 : decode prog_6_method_34_code 47 = .ok (.if_icmp .ge 90, 3) := by decide +kernel
theorem dM_closed_50 : decode prog_6_method_34_code 50 = .ok (.aload_n 0, 1) := by decide +kernel
theorem dM_closed_51 : decode prog_6_method_34_code 51 = .ok (.getfield 16, 3) := by decide +kernel
theorem dM_closed_54 : decode prog_6_method_34_code 54 = .ok (.bipush 14, 2) := by decide +kernel
theorem dM_closed_56 : decode prog_6_method_34_code 56 = .ok (.iload_n 1, 1) := by decide +kernel
theorem dM_closed_57 : decode prog_6_method_34_code 57 = .ok (.imul, 1) := by decide +kernel
theorem dM_closed_58 : decode prog_6_method_34_code 58 = .ok (.iload 5, 2) := by decide +kernel
theorem dM_closed_60 : decode prog_6_method_34_code 60 = .ok (.iadd, 1) := by decide +kernel
theorem dM_closed_61 : decode prog_6_method_34_code 61 = .ok (.baload, 1) := by decide +kernel
theorem dM_closed_62 : decode prog_6_method_34_code 62 = .ok (.ifCond .eq 22, 3) := by decide +kernel
theorem dM_closed_65 : decode prog_6_method_34_code 65 = .ok (.aload_n 0, 1) := by decide +kernel
theorem dM_closed_66 : decode prog_6_method_34_code 66 = .ok (.getfield 16, 3) := by decide +kernel
theorem dM_closed_69 : decode prog_6_method_34_code 69 = .ok (.bipush 14, 2) := by decide +kernel
theorem dM_closed_71 : decode prog_6_method_34_code 71 = .ok (.iload_n 1, 1) := by decide +kernel
theorem dM_closed_72 : decode prog_6_method_34_code 72 = .ok (.imul, 1) := by decide +kernel
theorem dM_closed_73 : decode prog_6_method_34_code 73 = .ok (.iload 6, 2) := by decide +kernel
theorem dM_closed_75 : decode prog_6_method_34_code 75 = .ok (.iadd, 1) := by decide +kernel
theorem dM_closed_76 : decode prog_6_method_34_code 76 = .ok (.baload, 1) := by decide +kernel
theorem dM_closed_77 : decode prog_6_method_34_code 77 = .ok (.ifCond .eq 7, 3) := by decide +kernel
theorem dM_closed_80 : decode prog_6_method_34_code 80 = .ok (.iconst 1, 1) := by decide +kernel
theorem dM_closed_81 : decode prog_6_method_34_code 81 = .ok (.goto 4, 3) := by decide +kernel
theorem dM_closed_84 : decode prog_6_method_34_code 84 = .ok (.iconst 0, 1) := by decide +kernel
theorem dM_closed_85 : decode prog_6_method_34_code 85 = .ok (.istore 7, 2) := by decide +kernel
theorem dM_closed_87 : decode prog_6_method_34_code 87 = .ok (.iload_n 3, 1) := by decide +kernel
theorem dM_closed_88 : decode prog_6_method_34_code 88 = .ok (.iload 7, 2) := by decide +kernel
theorem dM_closed_90 : decode prog_6_method_34_code 90 = .ok (.ifCond .eq 7, 3) := by decide +kernel
theorem dM_closed_93 : decode prog_6_method_34_code 93 = .ok (.iconst 1, 1) := by decide +kernel
theorem dM_closed_94 : decode prog_6_method_34_code 94 = .ok (.goto 4, 3) := by decide +kernel
theorem dM_closed_97 : decode prog_6_method_34_code 97 = .ok (.iconst 0, 1) := by decide +kernel
theorem dM_closed_98 : decode prog_6_method_34_code 98 = .ok (.iadd, 1) := by decide +kernel
theorem dM_closed_99 : decode prog_6_method_34_code 99 = .ok (.istore_n 3, 1) := by decide +kernel
theorem dM_closed_100 : decode prog_6_method_34_code 100 = .ok (.iload 4, 2) := by decide +kernel
theorem dM_closed_102 : decode prog_6_method_34_code 102 = .ok (.iload 7, 2) := by decide +kernel
theorem dM_closed_104 : decode prog_6_method_34_code 104 = .ok (.ifCond .eq 23, 3) := by decide +kernel
theorem dM_closed_107 : decode prog_6_method_34_code 107 = .ok (.aload_n 0, 1) := by decide +kernel
theorem dM_closed_108 : decode prog_6_method_34_code 108 = .ok (.getfield 16, 3) := by decide +kernel
theorem dM_closed_111 : decode prog_6_method_34_code 111 = .ok (.bipush 14, 2) := by decide +kernel
theorem dM_closed_113 : decode prog_6_method_34_code 113 = .ok (.iload 5, 2) := by decide +kernel
theorem dM_closed_115 : decode prog_6_method_34_code 115 = .ok (.imul, 1) := by decide +kernel
theorem dM_closed_116 : decode prog_6_method_34_code 116 = .ok (.iload 6, 2) := by decide +kernel
theorem dM_closed_118 : decode prog_6_method_34_code 118 = .ok (.iadd, 1) := by decide +kernel
theorem dM_closed_119 : decode prog_6_method_34_code 119 = .ok (.baload, 1) := by decide +kernel
theorem dM_closed_120 : decode prog_6_method_34_code 120 = .ok (.ifCond .eq 7, 3) := by decide +kernel
theorem dM_closed_123 : decode prog_6_method_34_code 123 = .ok (.iconst 1, 1) := by decide +kernel
theorem dM_closed_124 : decode prog_6_method_34_code 124 = .ok (.goto 4, 3) := by decide +kernel
theorem dM_closed_127 : decode prog_6_method_34_code 127 = .ok (.iconst 0, 1) := by decide +kernel
theorem dM_closed_128 : decode prog_6_method_34_code 128 = .ok (.iadd, 1) := by decide +kernel
theorem dM_closed_129 : decode prog_6_method_34_code 129 = .ok (.istore 4, 2) := by decide +kernel
theorem dM_closed_131 : decode prog_6_method_34_code 131 = .ok (.iinc 6 1, 3) := by decide +kernel
theorem dM_closed_134 : decode prog_6_method_34_code 134 = .ok (.goto (-91), 3) := by decide +kernel
theorem dM_closed_137 : decode prog_6_method_34_code 137 = .ok (.iinc 5 1, 3) := by decide +kernel
theorem dM_closed_140 : decode prog_6_method_34_code 140 = .ok (.goto (-109), 3) := by decide +kernel
theorem dM_closed_143 : decode prog_6_method_34_code 143 = .ok (.iload_n 3, 1) := by decide +kernel
theorem dM_closed_144 : decode prog_6_method_34_code 144 = .ok (.istore 5, 2) := by decide +kernel
theorem dM_closed_146 : decode prog_6_method_34_code 146 = .ok (.iload 4, 2) := by decide +kernel
theorem dM_closed_148 : decode prog_6_method_34_code 148 = .ok (.istore 6, 2) := by decide +kernel
theorem dM_closed_150 : decode prog_6_method_34_code 150 = .ok (.iload 6, 2) := by decide +kernel
theorem dM_closed_152 : decode prog_6_method_34_code 152 = .ok (.ifCond .eq 21, 3) := by decide +kernel
theorem dM_closed_155 : decode prog_6_method_34_code 155 = .ok (.iload 5, 2) := by decide +kernel
theorem dM_closed_157 : decode prog_6_method_34_code 157 = .ok (.iload 6, 2) := by decide +kernel
theorem dM_closed_159 : decode prog_6_method_34_code 159 = .ok (.irem, 1) := by decide +kernel
theorem dM_closed_160 : decode prog_6_method_34_code 160 = .ok (.istore 7, 2) := by decide +kernel
theorem dM_closed_162 : decode prog_6_method_34_code 162 = .ok (.iload 6, 2) := by decide +kernel
theorem dM_closed_164 : decode prog_6_method_34_code 164 = .ok (.istore 5, 2) := by decide +kernel
theorem dM_closed_166 : decode prog_6_method_34_code 166 = .ok (.iload 7, 2) := by decide +kernel
theorem dM_closed_168 : decode prog_6_method_34_code 168 = .ok (.istore 6, 2) := by decide +kernel
theorem dM_closed_170 : decode prog_6_method_34_code 170 = .ok (.goto (-20), 3) := by decide +kernel
theorem dM_closed_173 : decode prog_6_method_34_code 173 = .ok (.iload 5, 2) := by decide +kernel
theorem dM_closed_175 : decode prog_6_method_34_code 175 = .ok (.ifCond .ne 7, 3) := by decide +kernel
theorem dM_closed_178 : decode prog_6_method_34_code 178 = .ok (.iconst 1, 1) := by decide +kernel
theorem dM_closed_179 : decode prog_6_method_34_code 179 = .ok (.goto 5, 3) := by decide +kernel
theorem dM_closed_182 : decode prog_6_method_34_code 182 = .ok (.iload 5, 2) := by decide +kernel
theorem dM_closed_184 : decode prog_6_method_34_code 184 = .ok (.istore 7, 2) := by decide +kernel
theorem dM_closed_186 : decode prog_6_method_34_code 186 = .ok (.iload_n 2, 1) := by decide +kernel
theorem dM_closed_187 : decode prog_6_method_34_code 187 = .ok (.ifCond .ne 11, 3) := by decide +kernel
theorem dM_closed_190 : decode prog_6_method_34_code 190 = .ok (.iload 4, 2) := by decide +kernel
theorem dM_closed_192 : decode prog_6_method_34_code 192 = .ok (.iload 7, 2) := by decide +kernel
theorem dM_closed_194 : decode prog_6_method_34_code 194 = .ok (.idiv, 1) := by decide +kernel
theorem dM_closed_195 : decode prog_6_method_34_code 195 = .ok (.goto 15, 3) := by decide +kernel
theorem dM_closed_198 : decode prog_6_method_34_code 198 = .ok (.iload_n 3, 1) := by decide +kernel
theorem dM_closed_199 : decode prog_6_method_34_code 199 = .ok (.ifCond .ne 7, 3) := by decide +kernel
theorem dM_closed_202 : decode prog_6_method_34_code 202 = .ok (.iconst 1, 1) := by decide +kernel
theorem dM_closed_203 : decode prog_6_method_34_code 203 = .ok (.goto 7, 3) := by decide +kernel
theorem dM_closed_206 : decode prog_6_method_34_code 206 = .ok (.iload_n 3, 1) := by decide +kernel
theorem dM_closed_207 : decode prog_6_method_34_code 207 = .ok (.iload 7, 2) := by decide +kernel
theorem dM_closed_209 : decode prog_6_method_34_code 209 = .ok (.idiv, 1) := by decide +kernel
theorem dM_closed_210 : decode prog_6_method_34_code 210 = .ok (.ireturn, 1) := by decide +kernel
theorem dM_rows_0 : decode prog_6_method_35_code 0 = .ok (.iconst 0, 1) := by decide +kernel
theorem dM_rows_1 : decode prog_6_method_35_code 1 = .ok (.istore 5, 2) := by decide +kernel
theorem dM_rows_3 : decode prog_6_method_35_code 3 = .ok (.iconst 1, 1) := by decide +kernel
theorem dM_rows_4 : decode prog_6_method_35_code 4 = .ok (.iload_n 1, 1) := by decide +kernel
theorem dM_rows_5 : decode prog_6_method_35_code 5 = .ok (.ishl, 1) := by decide +kernel
theorem dM_rows_6 : decode prog_6_method_35_code 6 = .ok (.istore 6, 2) := by decide +kernel
theorem dM_rows_8 : decode prog_6_method_35_code 8 = .ok (.iconst 0, 1) := by decide +kernel
theorem dM_rows_9 : decode prog_6_method_35_code 9 = .ok (.istore 7, 2) := by decide +kernel
theorem dM_rows_11 : decode prog_6_method_35_code 11 = .ok (.aload_n 0, 1) := by decide +kernel
theorem dM_rows_12 : decode prog_6_method_35_code 12 = .ok (.getfield 41, 3) := by decide +kernel
theorem dM_rows_15 : decode prog_6_method_35_code 15 = .ok (.iconst 0, 1) := by decide +kernel
theorem dM_rows_16 : decode prog_6_method_35_code 16 = .ok (.iload_n 1, 1) := by decide +kernel
theorem dM_rows_17 : decode prog_6_method_35_code 17 = .ok (.iastore, 1) := by decide +kernel
theorem dM_rows_18 : decode prog_6_method_35_code 18 = .ok (.aload_n 0, 1) := by decide +kernel
theorem dM_rows_19 : decode prog_6_method_35_code 19 = .ok (.getfield 44, 3) := by decide +kernel
theorem dM_rows_22 : decode prog_6_method_35_code 22 = .ok (.iconst 0, 1) := by decide +kernel
theorem dM_rows_23 : decode prog_6_method_35_code 23 = .ok (.iconst 0, 1) := by decide +kernel
theorem dM_rows_24 : decode prog_6_method_35_code 24 = .ok (.iastore, 1) := by decide +kernel
theorem dM_rows_25 : decode prog_6_method_35_code 25 = .ok (.iload 7, 2) := by decide +kernel
theorem dM_rows_27 : decode prog_6_method_35_code 27 = .ok (.ifCond .lt 204, 3) := by decide +kernel
theorem dM_rows_30 : decode prog_6_method_35_code 30 = .ok (.aload_n 0, 1) := by decide +kernel
theorem dM_rows_31 : decode prog_6_method_35_code 31 = .ok (.getfield 44, 3) := by decide +kernel
theorem dM_rows_34 : decode prog_6_method_35_code 34 = .ok (.iload 7, 2) := by decide +kernel
theorem dM_rows_36 : decode prog_6_method_35_code 36 = .ok (.iaload, 1) := by decide +kernel
theorem dM_rows_37 : decode prog_6_method_35_code 37 = .ok (.istore 8, 2) := by decide +kernel
theorem dM_rows_39 : decode prog_6_method_35_code 39 = .ok (.aload_n 0, 1) := by decide +kernel
theorem dM_rows_40 : decode prog_6_method_35_code 40 = .ok (.getfield 44, 3) := by decide +kernel
theorem dM_rows_43 : decode prog_6_method_35_code 43 = .ok (.iload 7, 2) := by decide +kernel
theorem dM_rows_45 : decode prog_6_method_35_code 45 = .ok (.dup2, 1) := by decide +kernel
theorem dM_rows_46 : decode prog_6_method_35_code 46 = .ok (.iaload, 1) := by decide +kernel
theorem dM_rows_47 : decode prog_6_method_35_code 47 = .ok (.iconst 1, 1) := by decide +kernel
theorem dM_rows_48 : decode prog_6_method_35_code 48 = .ok (.iadd, 1) := by decide +kernel
theorem dM_rows_49 : decode prog_6_method_35_code 49 = .ok (.iastore, 1) := by decide +kernel
theorem dM_rows_50 : decode prog_6_method_35_code 50 = .ok (.iload 8, 2) := by decide +kernel
theorem dM_rows_52 : decode prog_6_method_35_code 52 = .ok (.aload_n 0, 1) := by decide +kernel
theorem dM_rows_53 : decode prog_6_method_35_code 53 = .ok (.getfield 47, 3) := by decide +kernel
theorem dM_rows_56 : decode prog_6_method_35_code 56 = .ok (.if_icmp .lt 25, 3) := by decide +kernel
theorem dM_rows_59 : decode prog_6_method_35_code 59 = .ok (.iload 6, 2) := by decide +kernel
theorem dM_rows_61 : decode prog_6_method_35_code 61 = .ok (.iconst 1, 1) := by decide +kernel
theorem dM_rows_62 : decode prog_6_method_35_code 62 = .ok (.aload_n 0, 1) := by decide +kernel
theorem dM_rows_63 : decode prog_6_method_35_code 63 = .ok (.getfield 41, 3) := by decide +kernel
theorem dM_rows_66 : decode prog_6_method_35_code 66 = .ok (.iload 7, 2) := by decide +kernel
theorem dM_rows_68 : decode prog_6_method_35_code 68 = .ok (.iaload, 1) := by decide +kernel
theorem dM_rows_69 : decode prog_6_method_35_code 69 = .ok (.ishl, 1) := by decide +kernel
theorem dM_rows_70 : decode prog_6_method_35_code 70 = .ok (.iconst (-1), 1) := by decide +kernel
theorem dM_rows_71 : decode prog_6_method_35_code 71 = .ok (.ixor, 1) := by decide +kernel
theorem dM_rows_72 : decode prog_6_method_35_code 72 = .ok (.iand, 1) := by decide +kernel
theorem dM_rows_73 : decode prog_6_method_35_code 73 = .ok (.istore 6, 2) := by decide +kernel
theorem dM_rows_75 : decode prog_6_method_35_code 75 = .ok (.iinc 7 (-1), 3) := by decide +kernel
theorem dM_rows_78 : decode prog_6_method_35_code 78 = .ok (.goto 150, 3) := by decide +kernel
theorem dM_rows_81 : decode prog_6_method_35_code 81 = .ok (.aload_n 0, 1) := by decide +kernel
theorem dM_rows_82 : decode prog_6_method_35_code 82 = .ok (.getfield 16, 3) := by decide +kernel
theorem dM_rows_85 : decode prog_6_method_35_code 85 = .ok (.bipush 14, 2) := by decide +kernel
theorem dM_rows_87 : decode prog_6_method_35_code 87 = .ok (.aload_n 0, 1) := by decide +kernel
theorem dM_rows_88 : decode prog_6_method_35_code 88 = .ok (.getfield 41, 3) := by decide +kernel
theorem dM_rows_91 : decode prog_6_method_35_code 91 = .ok (.iload 7, 2) := by decide +kernel
theorem dM_rows_93 : decode prog_6_method_35_code 93 = .ok (.iaload, 1) := by decide +kernel
theorem dM_rows_94 : decode prog_6_method_35_code 94 = .ok (.imul, 1) := by decide +kernel
theorem dM_rows_95 : decode prog_6_method_35_code 95 = .ok (.iload 8, 2) := by decide +kernel
theorem dM_rows_97 : decode prog_6_method_35_code 97 = .ok (.iadd, 1) := by decide +kernel
theorem dM_rows_98 : decode prog_6_method_35_code 98 = .ok (.baload, 1) := by decide +kernel
theorem dM_rows_99 : decode prog_6_method_35_code 99 = .ok (.ifCond .eq 129, 3) := by decide +kernel
theorem dM_rows_102 : decode prog_6_method_35_code 102 = .ok (.iload 6, 2) := by decide +kernel
theorem dM_rows_104 : decode prog_6_method_35_code 104 = .ok (.iload 8, 2) := by decide +kernel
theorem dM_rows_106 : decode prog_6_method_35_code 106 = .ok (.ishr, 1) := by decide +kernel
theorem dM_rows_107 : decode prog_6_method_35_code 107 = .ok (.iconst 1, 1) := by decide +kernel
theorem dM_rows_108 : decode prog_6_method_35_code 108 = .ok (.iand, 1) := by decide +kernel
theorem dM_rows_109 : decode prog_6_method_35_code 109 = .ok (.ifCond .ne 119, 3) := by decide +kernel
theorem dM_rows_112 : decode prog_6_method_35_code 112 = .ok (.iload 4, 2) := by decide +kernel
theorem dM_rows_114 : decode prog_6_method_35_code 114 = .ok (.ifCond .eq 9, 3) := by decide +kernel
theorem dM_rows_117 : decode prog_6_method_35_code 117 = .ok (.iload 8, 2) := by decide +kernel
theorem dM_rows_119 : decode prog_6_method_35_code 119 = .ok (.iload_n 1, 1) := by decide +kernel
theorem dM_rows_120 : decode prog_6_method_35_code 120 = .ok (.if_icmp .le 108, 3) := by decide +kernel
theorem dM_rows_123 : decode prog_6_method_35_code 123 = .ok (.iload 7, 2) := by decide +kernel
theorem dM_rows_125 : decode prog_6_method_35_code 125 = .ok (.iconst 2, 1) := by decide +kernel
theorem dM_rows_126 : decode prog_6_method_35_code 126 = .ok (.iadd, 1) := by decide +kernel
theorem dM_rows_127 : decode prog_6_method_35_code 127 = .ok (.iload_n 2, 1) := by decide +kernel
theorem dM_rows_128 : decode prog_6_method_35_code 128 = .ok (.if_icmp .ne 65, 3) := by decide +kernel
theorem dM_rows_131 : decode prog_6_method_35_code 131 = .ok (.iload_n 3, 1) := by decide +kernel
theorem dM_rows_132 : decode prog_6_method_35_code 132 = .ok (.iconst (-1), 1) := by decide +kernel
theorem dM_rows_133 : decode prog_6_method_35_code 133 = .ok (.if_icmp .ne 33, 3) := by decide +kernel
theorem dM_rows_136 : decode prog_6_method_35_code 136 = .ok (.aload_n 0, 1) := by decide +kernel
theorem dM_rows_137 : decode prog_6_method_35_code 137 = .ok (.getfield 16, 3) := by decide +kernel
theorem dM_rows_140 : decode prog_6_method_35_code 140 = .ok (.bipush 14, 2) := by decide +kernel
theorem dM_rows_142 : decode prog_6_method_35_code 142 = .ok (.iload 8, 2) := by decide +kernel
theorem dM_rows_144 : decode prog_6_method_35_code 144 = .ok (.imul, 1) := by decide +kernel
theorem dM_rows_145 : decode prog_6_method_35_code 145 = .ok (.iload_n 1, 1) := by decide +kernel
theorem dM_rows_146 : decode prog_6_method_35_code 146 = .ok (.iadd, 1) := by decide +kernel
theorem dM_rows_147 : decode prog_6_method_35_code 147 = .ok (.baload, 1) := by decide +kernel
theorem dM_rows_148 : decode prog_6_method_35_code 148 = .ok (.ifCond .eq 18, 3) := by decide +kernel
theorem dM_rows_151 : decode prog_6_method_35_code 151 = .ok (.aload_n 0, 1) := by decide +kernel
theorem dM_rows_152 : decode prog_6_method_35_code 152 = .ok (.getfield 41, 3) := by decide +kernel
theorem dM_rows_155 : decode prog_6_method_35_code 155 = .ok (.iconst 1, 1) := by decide +kernel
theorem dM_rows_156 : decode prog_6_method_35_code 156 = .ok (.iaload, 1) := by decide +kernel
theorem dM_rows_157 : decode prog_6_method_35_code 157 = .ok (.iload 8, 2) := by decide +kernel
theorem dM_rows_159 : decode prog_6_method_35_code 159 = .ok (.if_icmp .ge 7, 3) := by decide +kernel
theorem dM_rows_162 : decode prog_6_method_35_code 162 = .ok (.iconst 1, 1) := by decide +kernel
theorem dM_rows_163 : decode prog_6_method_35_code 163 = .ok (.goto 4, 3) := by decide +kernel
theorem dM_rows_166 : decode prog_6_method_35_code 166 = .ok (.iconst 0, 1) := by decide +kernel
theorem dM_rows_167 : decode prog_6_method_35_code 167 = .ok (.istore 9, 2) := by decide +kernel
theorem dM_rows_169 : decode prog_6_method_35_code 169 = .ok (.iload 5, 2) := by decide +kernel
theorem dM_rows_171 : decode prog_6_method_35_code 171 = .ok (.iload 9, 2) := by decide +kernel
theorem dM_rows_173 : decode prog_6_method_35_code 173 = .ok (.ifCond .ne 9, 3) := by decide +kernel
theorem dM_rows_176 : decode prog_6_method_35_code 176 = .ok (.iload 8, 2) := by decide +kernel
theorem dM_rows_178 : decode prog_6_method_35_code 178 = .ok (.iload_n 3, 1) := by decide +kernel
theorem dM_rows_179 : decode prog_6_method_35_code 179 = .ok (.if_icmp .ne 7, 3) := by decide +kernel
theorem dM_rows_182 : decode prog_6_method_35_code 182 = .ok (.iconst 1, 1) := by decide +kernel
theorem dM_rows_183 : decode prog_6_method_35_code 183 = .ok (.goto 4, 3) := by decide +kernel
theorem dM_rows_186 : decode prog_6_method_35_code 186 = .ok (.iconst 0, 1) := by decide +kernel
theorem dM_rows_187 : decode prog_6_method_35_code 187 = .ok (.iadd, 1) := by decide +kernel
theorem dM_rows_188 : decode prog_6_method_35_code 188 = .ok (.istore 5, 2) := by decide +kernel
theorem dM_rows_190 : decode prog_6_method_35_code 190 = .ok (.goto 38, 3) := by decide +kernel
theorem dM_rows_193 : decode prog_6_method_35_code 193 = .ok (.iload 8, 2) := by decide +kernel
theorem dM_rows_195 : decode prog_6_method_35_code 195 = .ok (.iload_n 3, 1) := by decide +kernel
theorem dM_rows_196 : decode prog_6_method_35_code 196 = .ok (.if_icmp .eq 32, 3) := by decide +kernel
theorem dM_rows_199 : decode prog_6_method_35_code 199 = .ok (.iinc 7 1, 3) := by decide +kernel
theorem dM_rows_202 : decode prog_6_method_35_code 202 = .ok (.aload_n 0, 1) := by decide +kernel
theorem dM_rows_203 : decode prog_6_method_35_code 203 = .ok (.getfield 41, 3) := by decide +kernel
theorem dM_rows_206 : decode prog_6_method_35_code 206 = .ok (.iload 7, 2) := by decide +kernel
theorem dM_rows_208 : decode prog_6_method_35_code 208 = .ok (.iload 8, 2) := by decide +kernel
theorem dM_rows_210 : decode prog_6_method_35_code 210 = .ok (.iastore, 1) := by decide +kernel
theorem dM_rows_211 : decode prog_6_method_35_code 211 = .ok (.aload_n 0, 1) := by decide +kernel
theorem dM_rows_212 : decode prog_6_method_35_code 212 = .ok (.getfield 44, 3) := by decide +kernel
theorem dM_rows_215 : decode prog_6_method_35_code 215 = .ok (.iload 7, 2) := by decide +kernel
theorem dM_rows_217 : decode prog_6_method_35_code 217 = .ok (.iconst 0, 1) := by decide +kernel
theorem dM_rows_218 : decode prog_6_method_35_code 218 = .ok (.iastore, 1) := by decide +kernel
theorem dM_rows_219 : decode prog_6_method_35_code 219 = .ok (.iload 6, 2) := by decide +kernel
theorem dM_rows_221 : decode prog_6_method_35_code 221 = .ok (.iconst 1, 1) := by decide +kernel
theorem dM_rows_222 : decode prog_6_method_35_code 222 = .ok (.iload 8, 2) := by decide +kernel
theorem dM_rows_224 : decode prog_6_method_35_code 224 = .ok (.ishl, 1) := by decide +kernel
theorem dM_rows_225 : decode prog_6_method_35_code 225 = .ok (.ior, 1) := by decide +kernel
theorem dM_rows_226 : decode prog_6_method_35_code 226 = .ok (.istore 6, 2) := by decide +kernel
theorem dM_rows_228 : decode prog_6_method_35_code 228 = .ok (.goto (-203), 3) := by decide +kernel
theorem dM_rows_231 : decode prog_6_method_35_code 231 = .ok (.iload 5, 2) := by decide +kernel
theorem dM_rows_233 : decode prog_6_method_35_code 233 = .ok (.ireturn, 1) := by decide +kernel
theorem dM_rings_0 : decode prog_6_method_36_code 0 = .ok (.iload_n 1, 1) := by decide +kernel
theorem dM_rings_1 : decode prog_6_method_36_code 1 = .ok (.iconst 3, 1) := by decide +kernel
theorem dM_rings_2 : decode prog_6_method_36_code 2 = .ok (.bipush 6, 2) := by decide +kernel
theorem dM_rings_4 : decode prog_6_method_36_code 4 = .ok (.invokestatic 51, 3) := by decide +kernel
theorem dM_rings_7 : decode prog_6_method_36_code 7 = .ok (.ifCond .ne 6, 3) := by decide +kernel
theorem dM_rings_10 : decode prog_6_method_36_code 10 = .ok (.bipush (-2), 2) := by decide +kernel
theorem dM_rings_12 : decode prog_6_method_36_code 12 = .ok (.ireturn, 1) := by decide +kernel
theorem dM_rings_13 : decode prog_6_method_36_code 13 = .ok (.iconst 0, 1) := by decide +kernel
theorem dM_rings_14 : decode prog_6_method_36_code 14 = .ok (.istore_n 2, 1) := by decide +kernel
theorem dM_rings_15 : decode prog_6_method_36_code 15 = .ok (.iconst 0, 1) := by decide +kernel
theorem dM_rings_16 : decode prog_6_method_36_code 16 = .ok (.istore_n 3, 1) := by decide +kernel
theorem dM_rings_17 : decode prog_6_method_36_code 17 = .ok (.iload_n 3, 1) := by decide +kernel
theorem dM_rings_18 : decode prog_6_method_36_code 18 = .ok (.aload_n 0, 1) := by decide +kernel
theorem dM_rings_19 : decode prog_6_method_36_code 19 = .ok (.getfield 47, 3) := by decide +kernel
theorem dM_rings_22 : decode prog_6_method_36_code 22 = .ok (.if_icmp .ge 20, 3) := by decide +kernel
theorem dM_rings_25 : decode prog_6_method_36_code 25 = .ok (.iload_n 2, 1) := by decide +kernel
theorem dM_rings_26 : decode prog_6_method_36_code 26 = .ok (.aload_n 0, 1) := by decide +kernel
theorem dM_rings_27 : decode prog_6_method_36_code 27 = .ok (.iload_n 3, 1) := by decide +kernel
theorem dM_rings_28 : decode prog_6_method_36_code 28 = .ok (.iload_n 1, 1) := by decide +kernel
theorem dM_rings_29 : decode prog_6_method_36_code 29 = .ok (.iconst (-1), 1) := by decide +kernel
theorem dM_rings_30 : decode prog_6_method_36_code 30 = .ok (.iconst 1, 1) := by decide +kernel
theorem dM_rings_31 : decode prog_6_method_36_code 31 = .ok (.invokevirtual 106, 3) := by decide +kernel
theorem dM_rings_34 : decode prog_6_method_36_code 34 = .ok (.iadd, 1) := by decide +kernel
theorem dM_rings_35 : decode prog_6_method_36_code 35 = .ok (.istore_n 2, 1) := by decide +kernel
theorem dM_rings_36 : decode prog_6_method_36_code 36 = .ok (.iinc 3 1, 3) := by decide +kernel
theorem dM_rings_39 : decode prog_6_method_36_code 39 = .ok (.goto (-22), 3) := by decide +kernel
theorem dM_rings_42 : decode prog_6_method_36_code 42 = .ok (.iload_n 2, 1) := by decide +kernel
theorem dM_rings_43 : decode prog_6_method_36_code 43 = .ok (.ireturn, 1) := by decide +kernel
theorem dM_ringsBy_0 : decode prog_6_method_37_code 0 = .ok (.iload_n 1, 1) := by decide +kernel
theorem dM_ringsBy_1 : decode prog_6_method_37_code 1 = .ok (.iconst 3, 1) := by decide +kernel
theorem dM_ringsBy_2 : decode prog_6_method_37_code 2 = .ok (.bipush 6, 2) := by decide +kernel
theorem dM_ringsBy_4 : decode prog_6_method_37_code 4 = .ok (.invokestatic 51, 3) := by decide +kernel
theorem dM_ringsBy_7 : decode prog_6_method_37_code 7 = .ok (.ifCond .ne 6, 3) := by decide +kernel
theorem dM_ringsBy_10 : decode prog_6_method_37_code 10 = .ok (.bipush (-2), 2) := by decide +kernel
theorem dM_ringsBy_12 : decode prog_6_method_37_code 12 = .ok (.ireturn, 1) := by decide +kernel
theorem dM_ringsBy_13 : decode prog_6_method_37_code 13 = .ok (.aload_n 0, 1) := by decide +kernel
theorem dM_ringsBy_14 : decode prog_6_method_37_code 14 = .ok (.iload_n 2, 1) := by decide +kernel
theorem dM_ringsBy_15 : decode prog_6_method_37_code 15 = .ok (.invokevirtual 55, 3) := by decide +kernel
theorem dM_ringsBy_18 : decode prog_6_method_37_code 18 = .ok (.ifCond .eq 14, 3) := by decide +kernel
theorem dM_ringsBy_21 : decode prog_6_method_37_code 21 = .ok (.aload_n 0, 1) := by decide +kernel
theorem dM_ringsBy_22 : decode prog_6_method_37_code 22 = .ok (.iload_n 2, 1) := by decide +kernel
theorem dM_ringsBy_23 : decode prog_6_method_37_code 23 = .ok (.iload_n 1, 1) := by decide +kernel
theorem dM_ringsBy_24 : decode prog_6_method_37_code 24 = .ok (.iconst (-1), 1) := by decide +kernel
theorem dM_ringsBy_25 : decode prog_6_method_37_code 25 = .ok (.iconst 0, 1) := by decide +kernel
theorem dM_ringsBy_26 : decode prog_6_method_37_code 26 = .ok (.invokevirtual 106, 3) := by decide +kernel
theorem dM_ringsBy_29 : decode prog_6_method_37_code 29 = .ok (.goto 5, 3) := by decide +kernel
theorem dM_ringsBy_32 : decode prog_6_method_37_code 32 = .ok (.bipush (-3), 2) := by decide +kernel
theorem dM_ringsBy_34 : decode prog_6_method_37_code 34 = .ok (.ireturn, 1) := by decide +kernel
theorem dM_ways_0 : decode prog_6_method_38_code 0 = .ok (.iload_n 1, 1) := by decide +kernel
theorem dM_ways_1 : decode prog_6_method_38_code 1 = .ok (.iconst 1, 1) := by decide +kernel
theorem dM_ways_2 : decode prog_6_method_38_code 2 = .ok (.iconst 5, 1) := by decide +kernel
theorem dM_ways_3 : decode prog_6_method_38_code 3 = .ok (.invokestatic 51, 3) := by decide +kernel
theorem dM_ways_6 : decode prog_6_method_38_code 6 = .ok (.ifCond .ne 6, 3) := by decide +kernel
theorem dM_ways_9 : decode prog_6_method_38_code 9 = .ok (.bipush (-2), 2) := by decide +kernel
theorem dM_ways_11 : decode prog_6_method_38_code 11 = .ok (.ireturn, 1) := by decide +kernel
theorem dM_ways_12 : decode prog_6_method_38_code 12 = .ok (.aload_n 0, 1) := by decide +kernel
theorem dM_ways_13 : decode prog_6_method_38_code 13 = .ok (.iload_n 2, 1) := by decide +kernel
theorem dM_ways_14 : decode prog_6_method_38_code 14 = .ok (.iload_n 3, 1) := by decide +kernel
theorem dM_ways_15 : decode prog_6_method_38_code 15 = .ok (.invokevirtual 67, 3) := by decide +kernel
theorem dM_ways_18 : decode prog_6_method_38_code 18 = .ok (.ifCond .eq 16, 3) := by decide +kernel
theorem dM_ways_21 : decode prog_6_method_38_code 21 = .ok (.aload_n 0, 1) := by decide +kernel
theorem dM_ways_22 : decode prog_6_method_38_code 22 = .ok (.iload_n 2, 1) := by decide +kernel
theorem dM_ways_23 : decode prog_6_method_38_code 23 = .ok (.iload_n 1, 1) := by decide +kernel
theorem dM_ways_24 : decode prog_6_method_38_code 24 = .ok (.iconst 1, 1) := by decide +kernel
theorem dM_ways_25 : decode prog_6_method_38_code 25 = .ok (.iadd, 1) := by decide +kernel
theorem dM_ways_26 : decode prog_6_method_38_code 26 = .ok (.iload_n 3, 1) := by decide +kernel
theorem dM_ways_27 : decode prog_6_method_38_code 27 = .ok (.iconst 0, 1) := by decide +kernel
theorem dM_ways_28 : decode prog_6_method_38_code 28 = .ok (.invokevirtual 106, 3) := by decide +kernel
theorem dM_ways_31 : decode prog_6_method_38_code 31 = .ok (.goto 5, 3) := by decide +kernel
theorem dM_ways_34 : decode prog_6_method_38_code 34 = .ok (.bipush (-3), 2) := by decide +kernel
theorem dM_ways_36 : decode prog_6_method_38_code 36 = .ok (.ireturn, 1) := by decide +kernel
