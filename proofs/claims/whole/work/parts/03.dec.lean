theorem dP_init_0 : decode prog_1_method_1_code 0 = .ok (.aload_n 0, 1) := by decide +kernel
theorem dP_init_1 : decode prog_1_method_1_code 1 = .ok (.invokespecial 3, 3) := by decide +kernel
theorem dP_init_4 : decode prog_1_method_1_code 4 = .ok (.aload_n 0, 1) := by decide +kernel
theorem dP_init_5 : decode prog_1_method_1_code 5 = .ok (.new 9, 3) := by decide +kernel
theorem dP_init_8 : decode prog_1_method_1_code 8 = .ok (.dup, 1) := by decide +kernel
theorem dP_init_9 : decode prog_1_method_1_code 9 = .ok (.invokespecial 11, 3) := by decide +kernel
theorem dP_init_12 : decode prog_1_method_1_code 12 = .ok (.putfield 12, 3) := by decide +kernel
theorem dP_init_15 : decode prog_1_method_1_code 15 = .ok (.aload_n 0, 1) := by decide +kernel
theorem dP_init_16 : decode prog_1_method_1_code 16 = .ok (.new 16, 3) := by decide +kernel
theorem dP_init_19 : decode prog_1_method_1_code 19 = .ok (.dup, 1) := by decide +kernel
theorem dP_init_20 : decode prog_1_method_1_code 20 = .ok (.aload_n 0, 1) := by decide +kernel
theorem dP_init_21 : decode prog_1_method_1_code 21 = .ok (.getfield 12, 3) := by decide +kernel
theorem dP_init_24 : decode prog_1_method_1_code 24 = .ok (.iconst 3, 1) := by decide +kernel
theorem dP_init_25 : decode prog_1_method_1_code 25 = .ok (.sipush 364, 3) := by decide +kernel
theorem dP_init_28 : decode prog_1_method_1_code 28 = .ok (.getstatic 18, 3) := by decide +kernel
theorem dP_init_31 : decode prog_1_method_1_code 31 = .ok (.invokespecial 22, 3) := by decide +kernel
theorem dP_init_34 : decode prog_1_method_1_code 34 = .ok (.putfield 25, 3) := by decide +kernel
theorem dP_init_37 : decode prog_1_method_1_code 37 = .ok (.aload_n 0, 1) := by decide +kernel
theorem dP_init_38 : decode prog_1_method_1_code 38 = .ok (.new 16, 3) := by decide +kernel
theorem dP_init_41 : decode prog_1_method_1_code 41 = .ok (.dup, 1) := by decide +kernel
theorem dP_init_42 : decode prog_1_method_1_code 42 = .ok (.aload_n 0, 1) := by decide +kernel
theorem dP_init_43 : decode prog_1_method_1_code 43 = .ok (.getfield 12, 3) := by decide +kernel
theorem dP_init_46 : decode prog_1_method_1_code 46 = .ok (.iconst 4, 1) := by decide +kernel
theorem dP_init_47 : decode prog_1_method_1_code 47 = .ok (.sipush 1001, 3) := by decide +kernel
theorem dP_init_50 : decode prog_1_method_1_code 50 = .ok (.getstatic 29, 3) := by decide +kernel
theorem dP_init_53 : decode prog_1_method_1_code 53 = .ok (.invokespecial 22, 3) := by decide +kernel
theorem dP_init_56 : decode prog_1_method_1_code 56 = .ok (.putfield 32, 3) := by decide +kernel
theorem dP_init_59 : decode prog_1_method_1_code 59 = .ok (.aload_n 0, 1) := by decide +kernel
theorem dP_init_60 : decode prog_1_method_1_code 60 = .ok (.iconst (-1), 1) := by decide +kernel
theorem dP_init_61 : decode prog_1_method_1_code 61 = .ok (.putfield 35, 3) := by decide +kernel
theorem dP_init_64 : decode prog_1_method_1_code 64 = .ok (.aload_n 0, 1) := by decide +kernel
theorem dP_init_65 : decode prog_1_method_1_code 65 = .ok (.iconst (-1), 1) := by decide +kernel
theorem dP_init_66 : decode prog_1_method_1_code 66 = .ok (.putfield 39, 3) := by decide +kernel
theorem dP_init_69 : decode prog_1_method_1_code 69 = .ok (.return_, 1) := by decide +kernel
theorem dP_node_0 : decode prog_1_method_2_code 0 = .ok (.iload_n 1, 1) := by decide +kernel
theorem dP_node_1 : decode prog_1_method_2_code 1 = .ok (.invokestatic 42, 3) := by decide +kernel
theorem dP_node_4 : decode prog_1_method_2_code 4 = .ok (.ifCond .ne 6, 3) := by decide +kernel
theorem dP_node_7 : decode prog_1_method_2_code 7 = .ok (.bipush (-2), 2) := by decide +kernel
theorem dP_node_9 : decode prog_1_method_2_code 9 = .ok (.ireturn, 1) := by decide +kernel
theorem dP_node_10 : decode prog_1_method_2_code 10 = .ok (.aload_n 0, 1) := by decide +kernel
theorem dP_node_11 : decode prog_1_method_2_code 11 = .ok (.getfield 12, 3) := by decide +kernel
theorem dP_node_14 : decode prog_1_method_2_code 14 = .ok (.invokevirtual 46, 3) := by decide +kernel
theorem dP_node_17 : decode prog_1_method_2_code 17 = .ok (.ifCond .eq 6, 3) := by decide +kernel
theorem dP_node_20 : decode prog_1_method_2_code 20 = .ok (.bipush (-4), 2) := by decide +kernel
theorem dP_node_22 : decode prog_1_method_2_code 22 = .ok (.ireturn, 1) := by decide +kernel
theorem dP_node_23 : decode prog_1_method_2_code 23 = .ok (.aload_n 0, 1) := by decide +kernel
theorem dP_node_24 : decode prog_1_method_2_code 24 = .ok (.invokevirtual 50, 3) := by decide +kernel
theorem dP_node_27 : decode prog_1_method_2_code 27 = .ok (.aload_n 0, 1) := by decide +kernel
theorem dP_node_28 : decode prog_1_method_2_code 28 = .ok (.getfield 12, 3) := by decide +kernel
theorem dP_node_31 : decode prog_1_method_2_code 31 = .ok (.iload_n 1, 1) := by decide +kernel
theorem dP_node_32 : decode prog_1_method_2_code 32 = .ok (.invokevirtual 53, 3) := by decide +kernel
theorem dP_node_35 : decode prog_1_method_2_code 35 = .ok (.ireturn, 1) := by decide +kernel
theorem dP_clear_0 : decode prog_1_method_3_code 0 = .ok (.aload_n 0, 1) := by decide +kernel
theorem dP_clear_1 : decode prog_1_method_3_code 1 = .ok (.invokevirtual 50, 3) := by decide +kernel
theorem dP_clear_4 : decode prog_1_method_3_code 4 = .ok (.aload_n 0, 1) := by decide +kernel
theorem dP_clear_5 : decode prog_1_method_3_code 5 = .ok (.getfield 25, 3) := by decide +kernel
theorem dP_clear_8 : decode prog_1_method_3_code 8 = .ok (.invokevirtual 57, 3) := by decide +kernel
theorem dP_clear_11 : decode prog_1_method_3_code 11 = .ok (.aload_n 0, 1) := by decide +kernel
theorem dP_clear_12 : decode prog_1_method_3_code 12 = .ok (.getfield 32, 3) := by decide +kernel
theorem dP_clear_15 : decode prog_1_method_3_code 15 = .ok (.invokevirtual 57, 3) := by decide +kernel
theorem dP_clear_18 : decode prog_1_method_3_code 18 = .ok (.aload_n 0, 1) := by decide +kernel
theorem dP_clear_19 : decode prog_1_method_3_code 19 = .ok (.getfield 12, 3) := by decide +kernel
theorem dP_clear_22 : decode prog_1_method_3_code 22 = .ok (.invokevirtual 60, 3) := by decide +kernel
theorem dP_clear_25 : decode prog_1_method_3_code 25 = .ok (.ireturn, 1) := by decide +kernel
theorem dP_edge_0 : decode prog_1_method_4_code 0 = .ok (.aload_n 0, 1) := by decide +kernel
theorem dP_edge_1 : decode prog_1_method_4_code 1 = .ok (.getfield 12, 3) := by decide +kernel
theorem dP_edge_4 : decode prog_1_method_4_code 4 = .ok (.iload_n 1, 1) := by decide +kernel
theorem dP_edge_5 : decode prog_1_method_4_code 5 = .ok (.iload_n 2, 1) := by decide +kernel
theorem dP_edge_6 : decode prog_1_method_4_code 6 = .ok (.invokevirtual 64, 3) := by decide +kernel
theorem dP_edge_9 : decode prog_1_method_4_code 9 = .ok (.istore_n 3, 1) := by decide +kernel
theorem dP_edge_10 : decode prog_1_method_4_code 10 = .ok (.iload_n 3, 1) := by decide +kernel
theorem dP_edge_11 : decode prog_1_method_4_code 11 = .ok (.ifCond .ne 6, 3) := by decide +kernel
theorem dP_edge_14 : decode prog_1_method_4_code 14 = .ok (.bipush (-3), 2) := by decide +kernel
theorem dP_edge_16 : decode prog_1_method_4_code 16 = .ok (.ireturn, 1) := by decide +kernel
theorem dP_edge_17 : decode prog_1_method_4_code 17 = .ok (.aload_n 0, 1) := by decide +kernel
theorem dP_edge_18 : decode prog_1_method_4_code 18 = .ok (.getfield 12, 3) := by decide +kernel
theorem dP_edge_21 : decode prog_1_method_4_code 21 = .ok (.iload_n 1, 1) := by decide +kernel
theorem dP_edge_22 : decode prog_1_method_4_code 22 = .ok (.iload_n 2, 1) := by decide +kernel
theorem dP_edge_23 : decode prog_1_method_4_code 23 = .ok (.invokevirtual 68, 3) := by decide +kernel
theorem dP_edge_26 : decode prog_1_method_4_code 26 = .ok (.aload_n 0, 1) := by decide +kernel
theorem dP_edge_27 : decode prog_1_method_4_code 27 = .ok (.getfield 25, 3) := by decide +kernel
theorem dP_edge_30 : decode prog_1_method_4_code 30 = .ok (.iload_n 3, 1) := by decide +kernel
theorem dP_edge_31 : decode prog_1_method_4_code 31 = .ok (.invokevirtual 72, 3) := by decide +kernel
theorem dP_edge_34 : decode prog_1_method_4_code 34 = .ok (.aload_n 0, 1) := by decide +kernel
theorem dP_edge_35 : decode prog_1_method_4_code 35 = .ok (.getfield 32, 3) := by decide +kernel
theorem dP_edge_38 : decode prog_1_method_4_code 38 = .ok (.iload_n 3, 1) := by decide +kernel
theorem dP_edge_39 : decode prog_1_method_4_code 39 = .ok (.invokevirtual 72, 3) := by decide +kernel
theorem dP_edge_42 : decode prog_1_method_4_code 42 = .ok (.aload_n 0, 1) := by decide +kernel
theorem dP_edge_43 : decode prog_1_method_4_code 43 = .ok (.iload_n 1, 1) := by decide +kernel
theorem dP_edge_44 : decode prog_1_method_4_code 44 = .ok (.putfield 35, 3) := by decide +kernel
theorem dP_edge_47 : decode prog_1_method_4_code 47 = .ok (.aload_n 0, 1) := by decide +kernel
theorem dP_edge_48 : decode prog_1_method_4_code 48 = .ok (.iload_n 2, 1) := by decide +kernel
theorem dP_edge_49 : decode prog_1_method_4_code 49 = .ok (.putfield 39, 3) := by decide +kernel
theorem dP_edge_52 : decode prog_1_method_4_code 52 = .ok (.aload_n 0, 1) := by decide +kernel
theorem dP_edge_53 : decode prog_1_method_4_code 53 = .ok (.getfield 12, 3) := by decide +kernel
theorem dP_edge_56 : decode prog_1_method_4_code 56 = .ok (.iload_n 1, 1) := by decide +kernel
theorem dP_edge_57 : decode prog_1_method_4_code 57 = .ok (.iload_n 2, 1) := by decide +kernel
theorem dP_edge_58 : decode prog_1_method_4_code 58 = .ok (.invokevirtual 76, 3) := by decide +kernel
theorem dP_edge_61 : decode prog_1_method_4_code 61 = .ok (.ifCond .eq 7, 3) := by decide +kernel
theorem dP_edge_64 : decode prog_1_method_4_code 64 = .ok (.iconst 1, 1) := by decide +kernel
theorem dP_edge_65 : decode prog_1_method_4_code 65 = .ok (.goto 4, 3) := by decide +kernel
theorem dP_edge_68 : decode prog_1_method_4_code 68 = .ok (.iconst 0, 1) := by decide +kernel
theorem dP_edge_69 : decode prog_1_method_4_code 69 = .ok (.ireturn, 1) := by decide +kernel
theorem dP_colour_0 : decode prog_1_method_5_code 0 = .ok (.iload_n 2, 1) := by decide +kernel
theorem dP_colour_1 : decode prog_1_method_5_code 1 = .ok (.invokestatic 42, 3) := by decide +kernel
theorem dP_colour_4 : decode prog_1_method_5_code 4 = .ok (.ifCond .ne 6, 3) := by decide +kernel
theorem dP_colour_7 : decode prog_1_method_5_code 7 = .ok (.bipush (-2), 2) := by decide +kernel
theorem dP_colour_9 : decode prog_1_method_5_code 9 = .ok (.ireturn, 1) := by decide +kernel
theorem dP_colour_10 : decode prog_1_method_5_code 10 = .ok (.aload_n 0, 1) := by decide +kernel
theorem dP_colour_11 : decode prog_1_method_5_code 11 = .ok (.getfield 12, 3) := by decide +kernel
theorem dP_colour_14 : decode prog_1_method_5_code 14 = .ok (.iload_n 1, 1) := by decide +kernel
theorem dP_colour_15 : decode prog_1_method_5_code 15 = .ok (.invokevirtual 80, 3) := by decide +kernel
theorem dP_colour_18 : decode prog_1_method_5_code 18 = .ok (.ifCond .eq 15, 3) := by decide +kernel
theorem dP_colour_21 : decode prog_1_method_5_code 21 = .ok (.aload_n 0, 1) := by decide +kernel
theorem dP_colour_22 : decode prog_1_method_5_code 22 = .ok (.getfield 12, 3) := by decide +kernel
theorem dP_colour_25 : decode prog_1_method_5_code 25 = .ok (.iload_n 1, 1) := by decide +kernel
theorem dP_colour_26 : decode prog_1_method_5_code 26 = .ok (.iload_n 2, 1) := by decide +kernel
theorem dP_colour_27 : decode prog_1_method_5_code 27 = .ok (.invokevirtual 83, 3) := by decide +kernel
theorem dP_colour_30 : decode prog_1_method_5_code 30 = .ok (.goto 5, 3) := by decide +kernel
theorem dP_colour_33 : decode prog_1_method_5_code 33 = .ok (.bipush (-3), 2) := by decide +kernel
theorem dP_colour_35 : decode prog_1_method_5_code 35 = .ok (.ireturn, 1) := by decide +kernel
theorem dP_told_0 : decode prog_1_method_6_code 0 = .ok (.iload_n 1, 1) := by decide +kernel
theorem dP_told_1 : decode prog_1_method_6_code 1 = .ok (.lookupswitch 43 #[(0, 27), (1, 35)], 27) := by decide +kernel
theorem dP_told_28 : decode prog_1_method_6_code 28 = .ok (.aload_n 0, 1) := by decide +kernel
theorem dP_told_29 : decode prog_1_method_6_code 29 = .ok (.getfield 12, 3) := by decide +kernel
theorem dP_told_32 : decode prog_1_method_6_code 32 = .ok (.getfield 86, 3) := by decide +kernel
theorem dP_told_35 : decode prog_1_method_6_code 35 = .ok (.ireturn, 1) := by decide +kernel
theorem dP_told_36 : decode prog_1_method_6_code 36 = .ok (.aload_n 0, 1) := by decide +kernel
theorem dP_told_37 : decode prog_1_method_6_code 37 = .ok (.getfield 12, 3) := by decide +kernel
theorem dP_told_40 : decode prog_1_method_6_code 40 = .ok (.getfield 89, 3) := by decide +kernel
theorem dP_told_43 : decode prog_1_method_6_code 43 = .ok (.ireturn, 1) := by decide +kernel
theorem dP_told_44 : decode prog_1_method_6_code 44 = .ok (.bipush (-2), 2) := by decide +kernel
theorem dP_told_46 : decode prog_1_method_6_code 46 = .ok (.ireturn, 1) := by decide +kernel
theorem dP_degree_0 : decode prog_1_method_7_code 0 = .ok (.aload_n 0, 1) := by decide +kernel
theorem dP_degree_1 : decode prog_1_method_7_code 1 = .ok (.getfield 12, 3) := by decide +kernel
theorem dP_degree_4 : decode prog_1_method_7_code 4 = .ok (.iload_n 1, 1) := by decide +kernel
theorem dP_degree_5 : decode prog_1_method_7_code 5 = .ok (.invokevirtual 80, 3) := by decide +kernel
theorem dP_degree_8 : decode prog_1_method_7_code 8 = .ok (.ifCond .eq 17, 3) := by decide +kernel
theorem dP_degree_11 : decode prog_1_method_7_code 11 = .ok (.aload_n 0, 1) := by decide +kernel
theorem dP_degree_12 : decode prog_1_method_7_code 12 = .ok (.getfield 12, 3) := by decide +kernel
theorem dP_degree_15 : decode prog_1_method_7_code 15 = .ok (.iload_n 1, 1) := by decide +kernel
theorem dP_degree_16 : decode prog_1_method_7_code 16 = .ok (.invokevirtual 92, 3) := by decide +kernel
theorem dP_degree_19 : decode prog_1_method_7_code 19 = .ok (.invokestatic 95, 3) := by decide +kernel
theorem dP_degree_22 : decode prog_1_method_7_code 22 = .ok (.goto 5, 3) := by decide +kernel
theorem dP_degree_25 : decode prog_1_method_7_code 25 = .ok (.bipush (-3), 2) := by decide +kernel
theorem dP_degree_27 : decode prog_1_method_7_code 27 = .ok (.ireturn, 1) := by decide +kernel
theorem dP_both_0 : decode prog_1_method_8_code 0 = .ok (.aload_n 0, 1) := by decide +kernel
theorem dP_both_1 : decode prog_1_method_8_code 1 = .ok (.getfield 12, 3) := by decide +kernel
theorem dP_both_4 : decode prog_1_method_8_code 4 = .ok (.iload_n 1, 1) := by decide +kernel
theorem dP_both_5 : decode prog_1_method_8_code 5 = .ok (.iload_n 2, 1) := by decide +kernel
theorem dP_both_6 : decode prog_1_method_8_code 6 = .ok (.invokevirtual 64, 3) := by decide +kernel
theorem dP_both_9 : decode prog_1_method_8_code 9 = .ok (.ifCond .ne 8, 3) := by decide +kernel
theorem dP_both_12 : decode prog_1_method_8_code 12 = .ok (.bipush (-3), 2) := by decide +kernel
theorem dP_both_14 : decode prog_1_method_8_code 14 = .ok (.goto 23, 3) := by decide +kernel
theorem dP_both_17 : decode prog_1_method_8_code 17 = .ok (.aload_n 0, 1) := by decide +kernel
theorem dP_both_18 : decode prog_1_method_8_code 18 = .ok (.getfield 12, 3) := by decide +kernel
theorem dP_both_21 : decode prog_1_method_8_code 21 = .ok (.iload_n 1, 1) := by decide +kernel
theorem dP_both_22 : decode prog_1_method_8_code 22 = .ok (.invokevirtual 92, 3) := by decide +kernel
theorem dP_both_25 : decode prog_1_method_8_code 25 = .ok (.aload_n 0, 1) := by decide +kernel
theorem dP_both_26 : decode prog_1_method_8_code 26 = .ok (.getfield 12, 3) := by decide +kernel
theorem dP_both_29 : decode prog_1_method_8_code 29 = .ok (.iload_n 2, 1) := by decide +kernel
theorem dP_both_30 : decode prog_1_method_8_code 30 = .ok (.invokevirtual 92, 3) := by decide +kernel
theorem dP_both_33 : decode prog_1_method_8_code 33 = .ok (.iand, 1) := by decide +kernel
theorem dP_both_34 : decode prog_1_method_8_code 34 = .ok (.invokestatic 95, 3) := by decide +kernel
theorem dP_both_37 : decode prog_1_method_8_code 37 = .ok (.ireturn, 1) := by decide +kernel
theorem dP_count_0 : decode prog_1_method_9_code 0 = .ok (.aload_n 0, 1) := by decide +kernel
theorem dP_count_1 : decode prog_1_method_9_code 1 = .ok (.iload_n 1, 1) := by decide +kernel
theorem dP_count_2 : decode prog_1_method_9_code 2 = .ok (.iload_n 2, 1) := by decide +kernel
theorem dP_count_3 : decode prog_1_method_9_code 3 = .ok (.invokevirtual 100, 3) := by decide +kernel
theorem dP_count_6 : decode prog_1_method_9_code 6 = .ok (.astore_n 3, 1) := by decide +kernel
theorem dP_count_7 : decode prog_1_method_9_code 7 = .ok (.aload_n 3, 1) := by decide +kernel
theorem dP_count_8 : decode prog_1_method_9_code 8 = .ok (.ifnonnull 8, 3) := by decide +kernel
theorem dP_count_11 : decode prog_1_method_9_code 11 = .ok (.bipush (-2), 2) := by decide +kernel
theorem dP_count_13 : decode prog_1_method_9_code 13 = .ok (.goto 16, 3) := by decide +kernel
theorem dP_count_16 : decode prog_1_method_9_code 16 = .ok (.aload_n 3, 1) := by decide +kernel
theorem dP_count_17 : decode prog_1_method_9_code 17 = .ok (.iload_n 2, 1) := by decide +kernel
theorem dP_count_18 : decode prog_1_method_9_code 18 = .ok (.iconst 0, 1) := by decide +kernel
theorem dP_count_19 : decode prog_1_method_9_code 19 = .ok (.aload_n 0, 1) := by decide +kernel
theorem dP_count_20 : decode prog_1_method_9_code 20 = .ok (.getfield 12, 3) := by decide +kernel
theorem dP_count_23 : decode prog_1_method_9_code 23 = .ok (.invokevirtual 104, 3) := by decide +kernel
theorem dP_count_26 : decode prog_1_method_9_code 26 = .ok (.invokevirtual 107, 3) := by decide +kernel
theorem dP_count_29 : decode prog_1_method_9_code 29 = .ok (.ireturn, 1) := by decide +kernel
theorem dP_placed_0 : decode prog_1_method_10_code 0 = .ok (.aload_n 0, 1) := by decide +kernel
theorem dP_placed_1 : decode prog_1_method_10_code 1 = .ok (.iload_n 1, 1) := by decide +kernel
theorem dP_placed_2 : decode prog_1_method_10_code 2 = .ok (.iload_n 2, 1) := by decide +kernel
theorem dP_placed_3 : decode prog_1_method_10_code 3 = .ok (.invokevirtual 100, 3) := by decide +kernel
theorem dP_placed_6 : decode prog_1_method_10_code 6 = .ok (.astore 5, 2) := by decide +kernel
theorem dP_placed_8 : decode prog_1_method_10_code 8 = .ok (.aload 5, 2) := by decide +kernel
theorem dP_placed_10 : decode prog_1_method_10_code 10 = .ok (.ifnull 12, 3) := by decide +kernel
theorem dP_placed_13 : decode prog_1_method_10_code 13 = .ok (.iload_n 3, 1) := by decide +kernel
theorem dP_placed_14 : decode prog_1_method_10_code 14 = .ok (.ifCond .lt 8, 3) := by decide +kernel
theorem dP_placed_17 : decode prog_1_method_10_code 17 = .ok (.iload_n 3, 1) := by decide +kernel
theorem dP_placed_18 : decode prog_1_method_10_code 18 = .ok (.iconst 3, 1) := by decide +kernel
theorem dP_placed_19 : decode prog_1_method_10_code 19 = .ok (.if_icmp .le 6, 3) := by decide +kernel
theorem dP_placed_22 : decode prog_1_method_10_code 22 = .ok (.bipush (-2), 2) := by decide +kernel
theorem dP_placed_24 : decode prog_1_method_10_code 24 = .ok (.ireturn, 1) := by decide +kernel
theorem dP_placed_25 : decode prog_1_method_10_code 25 = .ok (.aload_n 0, 1) := by decide +kernel
theorem dP_placed_26 : decode prog_1_method_10_code 26 = .ok (.getfield 12, 3) := by decide +kernel
theorem dP_placed_29 : decode prog_1_method_10_code 29 = .ok (.iload 4, 2) := by decide +kernel
theorem dP_placed_31 : decode prog_1_method_10_code 31 = .ok (.invokevirtual 80, 3) := by decide +kernel
theorem dP_placed_34 : decode prog_1_method_10_code 34 = .ok (.ifCond .eq 15, 3) := by decide +kernel
theorem dP_placed_37 : decode prog_1_method_10_code 37 = .ok (.aload 5, 2) := by decide +kernel
theorem dP_placed_39 : decode prog_1_method_10_code 39 = .ok (.iload_n 2, 1) := by decide +kernel
theorem dP_placed_40 : decode prog_1_method_10_code 40 = .ok (.iload_n 3, 1) := by decide +kernel
theorem dP_placed_41 : decode prog_1_method_10_code 41 = .ok (.iload 4, 2) := by decide +kernel
theorem dP_placed_43 : decode prog_1_method_10_code 43 = .ok (.invokevirtual 111, 3) := by decide +kernel
theorem dP_placed_46 : decode prog_1_method_10_code 46 = .ok (.goto 5, 3) := by decide +kernel
theorem dP_placed_49 : decode prog_1_method_10_code 49 = .ok (.bipush (-3), 2) := by decide +kernel
theorem dP_placed_51 : decode prog_1_method_10_code 51 = .ok (.ireturn, 1) := by decide +kernel
theorem dP_pair_0 : decode prog_1_method_11_code 0 = .ok (.aload_n 0, 1) := by decide +kernel
theorem dP_pair_1 : decode prog_1_method_11_code 1 = .ok (.iload_n 1, 1) := by decide +kernel
theorem dP_pair_2 : decode prog_1_method_11_code 2 = .ok (.iload_n 2, 1) := by decide +kernel
theorem dP_pair_3 : decode prog_1_method_11_code 3 = .ok (.invokevirtual 100, 3) := by decide +kernel
theorem dP_pair_6 : decode prog_1_method_11_code 6 = .ok (.astore 5, 2) := by decide +kernel
theorem dP_pair_8 : decode prog_1_method_11_code 8 = .ok (.aload 5, 2) := by decide +kernel
theorem dP_pair_10 : decode prog_1_method_11_code 10 = .ok (.ifnonnull 6, 3) := by decide +kernel
theorem dP_pair_13 : decode prog_1_method_11_code 13 = .ok (.bipush (-2), 2) := by decide +kernel
theorem dP_pair_15 : decode prog_1_method_11_code 15 = .ok (.ireturn, 1) := by decide +kernel
theorem dP_pair_16 : decode prog_1_method_11_code 16 = .ok (.aload_n 0, 1) := by decide +kernel
theorem dP_pair_17 : decode prog_1_method_11_code 17 = .ok (.getfield 12, 3) := by decide +kernel
theorem dP_pair_20 : decode prog_1_method_11_code 20 = .ok (.iload_n 3, 1) := by decide +kernel
theorem dP_pair_21 : decode prog_1_method_11_code 21 = .ok (.iload 4, 2) := by decide +kernel
theorem dP_pair_23 : decode prog_1_method_11_code 23 = .ok (.invokevirtual 64, 3) := by decide +kernel
theorem dP_pair_26 : decode prog_1_method_11_code 26 = .ok (.istore 6, 2) := by decide +kernel
theorem dP_pair_28 : decode prog_1_method_11_code 28 = .ok (.iload 6, 2) := by decide +kernel
theorem dP_pair_30 : decode prog_1_method_11_code 30 = .ok (.ifCond .ne 8, 3) := by decide +kernel
theorem dP_pair_33 : decode prog_1_method_11_code 33 = .ok (.bipush (-3), 2) := by decide +kernel
theorem dP_pair_35 : decode prog_1_method_11_code 35 = .ok (.goto 18, 3) := by decide +kernel
theorem dP_pair_38 : decode prog_1_method_11_code 38 = .ok (.aload 5, 2) := by decide +kernel
theorem dP_pair_40 : decode prog_1_method_11_code 40 = .ok (.iload_n 2, 1) := by decide +kernel
theorem dP_pair_41 : decode prog_1_method_11_code 41 = .ok (.iload 6, 2) := by decide +kernel
theorem dP_pair_43 : decode prog_1_method_11_code 43 = .ok (.aload_n 0, 1) := by decide +kernel
theorem dP_pair_44 : decode prog_1_method_11_code 44 = .ok (.getfield 12, 3) := by decide +kernel
theorem dP_pair_47 : decode prog_1_method_11_code 47 = .ok (.invokevirtual 104, 3) := by decide +kernel
theorem dP_pair_50 : decode prog_1_method_11_code 50 = .ok (.invokevirtual 107, 3) := by decide +kernel
theorem dP_pair_53 : decode prog_1_method_11_code 53 = .ok (.ireturn, 1) := by decide +kernel
theorem dP_coloured_0 : decode prog_1_method_12_code 0 = .ok (.aload_n 0, 1) := by decide +kernel
theorem dP_coloured_1 : decode prog_1_method_12_code 1 = .ok (.iload_n 1, 1) := by decide +kernel
theorem dP_coloured_2 : decode prog_1_method_12_code 2 = .ok (.iload_n 2, 1) := by decide +kernel
theorem dP_coloured_3 : decode prog_1_method_12_code 3 = .ok (.invokevirtual 100, 3) := by decide +kernel
theorem dP_coloured_6 : decode prog_1_method_12_code 6 = .ok (.astore 4, 2) := by decide +kernel
theorem dP_coloured_8 : decode prog_1_method_12_code 8 = .ok (.aload 4, 2) := by decide +kernel
theorem dP_coloured_10 : decode prog_1_method_12_code 10 = .ok (.ifnull 13, 3) := by decide +kernel
theorem dP_coloured_13 : decode prog_1_method_12_code 13 = .ok (.iload_n 3, 1) := by decide +kernel
theorem dP_coloured_14 : decode prog_1_method_12_code 14 = .ok (.ifCond .lt 9, 3) := by decide +kernel
theorem dP_coloured_17 : decode prog_1_method_12_code 17 = .ok (.iload_n 3, 1) := by decide +kernel
theorem dP_coloured_18 : decode prog_1_method_12_code 18 = .ok (.bipush 16, 2) := by decide +kernel
theorem dP_coloured_20 : decode prog_1_method_12_code 20 = .ok (.if_icmp .lt 6, 3) := by decide +kernel
theorem dP_coloured_23 : decode prog_1_method_12_code 23 = .ok (.bipush (-2), 2) := by decide +kernel
theorem dP_coloured_25 : decode prog_1_method_12_code 25 = .ok (.ireturn, 1) := by decide +kernel
theorem dP_coloured_26 : decode prog_1_method_12_code 26 = .ok (.aload 4, 2) := by decide +kernel
theorem dP_coloured_28 : decode prog_1_method_12_code 28 = .ok (.iload_n 2, 1) := by decide +kernel
theorem dP_coloured_29 : decode prog_1_method_12_code 29 = .ok (.iconst 0, 1) := by decide +kernel
theorem dP_coloured_30 : decode prog_1_method_12_code 30 = .ok (.aload_n 0, 1) := by decide +kernel
theorem dP_coloured_31 : decode prog_1_method_12_code 31 = .ok (.getfield 12, 3) := by decide +kernel
theorem dP_coloured_34 : decode prog_1_method_12_code 34 = .ok (.iload_n 3, 1) := by decide +kernel
theorem dP_coloured_35 : decode prog_1_method_12_code 35 = .ok (.invokevirtual 114, 3) := by decide +kernel
theorem dP_coloured_38 : decode prog_1_method_12_code 38 = .ok (.invokevirtual 107, 3) := by decide +kernel
theorem dP_coloured_41 : decode prog_1_method_12_code 41 = .ok (.ireturn, 1) := by decide +kernel
theorem dP_mixed_0 : decode prog_1_method_13_code 0 = .ok (.aload_n 0, 1) := by decide +kernel
theorem dP_mixed_1 : decode prog_1_method_13_code 1 = .ok (.iload_n 1, 1) := by decide +kernel
theorem dP_mixed_2 : decode prog_1_method_13_code 2 = .ok (.iload_n 2, 1) := by decide +kernel
theorem dP_mixed_3 : decode prog_1_method_13_code 3 = .ok (.invokevirtual 100, 3) := by decide +kernel
theorem dP_mixed_6 : decode prog_1_method_13_code 6 = .ok (.astore_n 3, 1) := by decide +kernel
theorem dP_mixed_7 : decode prog_1_method_13_code 7 = .ok (.aload_n 3, 1) := by decide +kernel
theorem dP_mixed_8 : decode prog_1_method_13_code 8 = .ok (.ifnonnull 8, 3) := by decide +kernel
theorem dP_mixed_11 : decode prog_1_method_13_code 11 = .ok (.bipush (-2), 2) := by decide +kernel
theorem dP_mixed_13 : decode prog_1_method_13_code 13 = .ok (.goto 8, 3) := by decide +kernel
theorem dP_mixed_16 : decode prog_1_method_13_code 16 = .ok (.aload_n 3, 1) := by decide +kernel
theorem dP_mixed_17 : decode prog_1_method_13_code 17 = .ok (.iload_n 2, 1) := by decide +kernel
theorem dP_mixed_18 : decode prog_1_method_13_code 18 = .ok (.invokevirtual 117, 3) := by decide +kernel
theorem dP_mixed_21 : decode prog_1_method_13_code 21 = .ok (.ireturn, 1) := by decide +kernel
theorem dP_change_0 : decode prog_1_method_14_code 0 = .ok (.aload_n 0, 1) := by decide +kernel
theorem dP_change_1 : decode prog_1_method_14_code 1 = .ok (.iload_n 1, 1) := by decide +kernel
theorem dP_change_2 : decode prog_1_method_14_code 2 = .ok (.iload_n 2, 1) := by decide +kernel
theorem dP_change_3 : decode prog_1_method_14_code 3 = .ok (.invokevirtual 100, 3) := by decide +kernel
theorem dP_change_6 : decode prog_1_method_14_code 6 = .ok (.astore_n 3, 1) := by decide +kernel
theorem dP_change_7 : decode prog_1_method_14_code 7 = .ok (.aload_n 3, 1) := by decide +kernel
theorem dP_change_8 : decode prog_1_method_14_code 8 = .ok (.ifnonnull 6, 3) := by decide +kernel
theorem dP_change_11 : decode prog_1_method_14_code 11 = .ok (.bipush (-2), 2) := by decide +kernel
theorem dP_change_13 : decode prog_1_method_14_code 13 = .ok (.ireturn, 1) := by decide +kernel
theorem dP_change_14 : decode prog_1_method_14_code 14 = .ok (.aload_n 0, 1) := by decide +kernel
theorem dP_change_15 : decode prog_1_method_14_code 15 = .ok (.getfield 35, 3) := by decide +kernel
theorem dP_change_18 : decode prog_1_method_14_code 18 = .ok (.iconst (-1), 1) := by decide +kernel
theorem dP_change_19 : decode prog_1_method_14_code 19 = .ok (.if_icmp .ne 7, 3) := by decide +kernel
theorem dP_change_22 : decode prog_1_method_14_code 22 = .ok (.iconst 0, 1) := by decide +kernel
theorem dP_change_23 : decode prog_1_method_14_code 23 = .ok (.goto 17, 3) := by decide +kernel
theorem dP_change_26 : decode prog_1_method_14_code 26 = .ok (.aload_n 3, 1) := by decide +kernel
theorem dP_change_27 : decode prog_1_method_14_code 27 = .ok (.iload_n 2, 1) := by decide +kernel
theorem dP_change_28 : decode prog_1_method_14_code 28 = .ok (.aload_n 0, 1) := by decide +kernel
theorem dP_change_29 : decode prog_1_method_14_code 29 = .ok (.getfield 35, 3) := by decide +kernel
theorem dP_change_32 : decode prog_1_method_14_code 32 = .ok (.aload_n 0, 1) := by decide +kernel
theorem dP_change_33 : decode prog_1_method_14_code 33 = .ok (.getfield 39, 3) := by decide +kernel
theorem dP_change_36 : decode prog_1_method_14_code 36 = .ok (.invokevirtual 120, 3) := by decide +kernel
theorem dP_change_39 : decode prog_1_method_14_code 39 = .ok (.ineg, 1) := by decide +kernel
theorem dP_change_40 : decode prog_1_method_14_code 40 = .ok (.ireturn, 1) := by decide +kernel
theorem dP_after_0 : decode prog_1_method_15_code 0 = .ok (.aload_n 0, 1) := by decide +kernel
theorem dP_after_1 : decode prog_1_method_15_code 1 = .ok (.iload_n 1, 1) := by decide +kernel
theorem dP_after_2 : decode prog_1_method_15_code 2 = .ok (.iload_n 2, 1) := by decide +kernel
theorem dP_after_3 : decode prog_1_method_15_code 3 = .ok (.invokevirtual 100, 3) := by decide +kernel
theorem dP_after_6 : decode prog_1_method_15_code 6 = .ok (.astore 5, 2) := by decide +kernel
theorem dP_after_8 : decode prog_1_method_15_code 8 = .ok (.aload 5, 2) := by decide +kernel
theorem dP_after_10 : decode prog_1_method_15_code 10 = .ok (.ifnonnull 6, 3) := by decide +kernel
theorem dP_after_13 : decode prog_1_method_15_code 13 = .ok (.bipush (-2), 2) := by decide +kernel
theorem dP_after_15 : decode prog_1_method_15_code 15 = .ok (.ireturn, 1) := by decide +kernel
theorem dP_after_16 : decode prog_1_method_15_code 16 = .ok (.aload_n 0, 1) := by decide +kernel
theorem dP_after_17 : decode prog_1_method_15_code 17 = .ok (.getfield 12, 3) := by decide +kernel
theorem dP_after_20 : decode prog_1_method_15_code 20 = .ok (.iload_n 3, 1) := by decide +kernel
theorem dP_after_21 : decode prog_1_method_15_code 21 = .ok (.iload 4, 2) := by decide +kernel
theorem dP_after_23 : decode prog_1_method_15_code 23 = .ok (.invokevirtual 64, 3) := by decide +kernel
theorem dP_after_26 : decode prog_1_method_15_code 26 = .ok (.ifCond .ne 8, 3) := by decide +kernel
theorem dP_after_29 : decode prog_1_method_15_code 29 = .ok (.bipush (-3), 2) := by decide +kernel
theorem dP_after_31 : decode prog_1_method_15_code 31 = .ok (.goto 12, 3) := by decide +kernel
theorem dP_after_34 : decode prog_1_method_15_code 34 = .ok (.aload 5, 2) := by decide +kernel
theorem dP_after_36 : decode prog_1_method_15_code 36 = .ok (.iload_n 2, 1) := by decide +kernel
theorem dP_after_37 : decode prog_1_method_15_code 37 = .ok (.iload_n 3, 1) := by decide +kernel
theorem dP_after_38 : decode prog_1_method_15_code 38 = .ok (.iload 4, 2) := by decide +kernel
theorem dP_after_40 : decode prog_1_method_15_code 40 = .ok (.invokevirtual 120, 3) := by decide +kernel
theorem dP_after_43 : decode prog_1_method_15_code 43 = .ok (.ireturn, 1) := by decide +kernel
theorem dP_nth_0 : decode prog_1_method_16_code 0 = .ok (.aload_n 0, 1) := by decide +kernel
theorem dP_nth_1 : decode prog_1_method_16_code 1 = .ok (.iload_n 1, 1) := by decide +kernel
theorem dP_nth_2 : decode prog_1_method_16_code 2 = .ok (.iload_n 2, 1) := by decide +kernel
theorem dP_nth_3 : decode prog_1_method_16_code 3 = .ok (.invokevirtual 100, 3) := by decide +kernel
theorem dP_nth_6 : decode prog_1_method_16_code 6 = .ok (.astore 5, 2) := by decide +kernel
theorem dP_nth_8 : decode prog_1_method_16_code 8 = .ok (.aload 5, 2) := by decide +kernel
theorem dP_nth_10 : decode prog_1_method_16_code 10 = .ok (.ifnonnull 8, 3) := by decide +kernel
theorem dP_nth_13 : decode prog_1_method_16_code 13 = .ok (.bipush (-2), 2) := by decide +kernel
theorem dP_nth_15 : decode prog_1_method_16_code 15 = .ok (.goto 15, 3) := by decide +kernel
theorem dP_nth_18 : decode prog_1_method_16_code 18 = .ok (.aload 5, 2) := by decide +kernel
theorem dP_nth_20 : decode prog_1_method_16_code 20 = .ok (.iload_n 2, 1) := by decide +kernel
theorem dP_nth_21 : decode prog_1_method_16_code 21 = .ok (.iload_n 3, 1) := by decide +kernel
theorem dP_nth_22 : decode prog_1_method_16_code 22 = .ok (.invokevirtual 123, 3) := by decide +kernel
theorem dP_nth_25 : decode prog_1_method_16_code 25 = .ok (.iload 4, 2) := by decide +kernel
theorem dP_nth_27 : decode prog_1_method_16_code 27 = .ok (.invokestatic 126, 3) := by decide +kernel
theorem dP_nth_30 : decode prog_1_method_16_code 30 = .ok (.ireturn, 1) := by decide +kernel
theorem dP_sort_0 : decode prog_1_method_17_code 0 = .ok (.aload_n 0, 1) := by decide +kernel
theorem dP_sort_1 : decode prog_1_method_17_code 1 = .ok (.iload_n 1, 1) := by decide +kernel
theorem dP_sort_2 : decode prog_1_method_17_code 2 = .ok (.iload_n 2, 1) := by decide +kernel
theorem dP_sort_3 : decode prog_1_method_17_code 3 = .ok (.iload_n 3, 1) := by decide +kernel
theorem dP_sort_4 : decode prog_1_method_17_code 4 = .ok (.iload 4, 2) := by decide +kernel
theorem dP_sort_6 : decode prog_1_method_17_code 6 = .ok (.invokevirtual 129, 3) := by decide +kernel
theorem dP_sort_9 : decode prog_1_method_17_code 9 = .ok (.istore 5, 2) := by decide +kernel
theorem dP_sort_11 : decode prog_1_method_17_code 11 = .ok (.iload 5, 2) := by decide +kernel
theorem dP_sort_13 : decode prog_1_method_17_code 13 = .ok (.ifCond .ne 8, 3) := by decide +kernel
theorem dP_sort_16 : decode prog_1_method_17_code 16 = .ok (.bipush (-3), 2) := by decide +kernel
theorem dP_sort_18 : decode prog_1_method_17_code 18 = .ok (.goto 12, 3) := by decide +kernel
theorem dP_sort_21 : decode prog_1_method_17_code 21 = .ok (.aload_n 0, 1) := by decide +kernel
theorem dP_sort_22 : decode prog_1_method_17_code 22 = .ok (.getfield 12, 3) := by decide +kernel
theorem dP_sort_25 : decode prog_1_method_17_code 25 = .ok (.iload 5, 2) := by decide +kernel
theorem dP_sort_27 : decode prog_1_method_17_code 27 = .ok (.invokevirtual 133, 3) := by decide +kernel
theorem dP_sort_30 : decode prog_1_method_17_code 30 = .ok (.ireturn, 1) := by decide +kernel
theorem dP_rank_0 : decode prog_1_method_18_code 0 = .ok (.aload_n 0, 1) := by decide +kernel
theorem dP_rank_1 : decode prog_1_method_18_code 1 = .ok (.iload_n 1, 1) := by decide +kernel
theorem dP_rank_2 : decode prog_1_method_18_code 2 = .ok (.iload_n 2, 1) := by decide +kernel
theorem dP_rank_3 : decode prog_1_method_18_code 3 = .ok (.iload_n 3, 1) := by decide +kernel
theorem dP_rank_4 : decode prog_1_method_18_code 4 = .ok (.iload 4, 2) := by decide +kernel
theorem dP_rank_6 : decode prog_1_method_18_code 6 = .ok (.invokevirtual 129, 3) := by decide +kernel
theorem dP_rank_9 : decode prog_1_method_18_code 9 = .ok (.istore 5, 2) := by decide +kernel
theorem dP_rank_11 : decode prog_1_method_18_code 11 = .ok (.iload 5, 2) := by decide +kernel
theorem dP_rank_13 : decode prog_1_method_18_code 13 = .ok (.ifCond .ne 6, 3) := by decide +kernel
theorem dP_rank_16 : decode prog_1_method_18_code 16 = .ok (.bipush (-3), 2) := by decide +kernel
theorem dP_rank_18 : decode prog_1_method_18_code 18 = .ok (.ireturn, 1) := by decide +kernel
theorem dP_rank_19 : decode prog_1_method_18_code 19 = .ok (.iload 4, 2) := by decide +kernel
theorem dP_rank_21 : decode prog_1_method_18_code 21 = .ok (.iconst (-1), 1) := by decide +kernel
theorem dP_rank_22 : decode prog_1_method_18_code 22 = .ok (.if_icmp .ne 15, 3) := by decide +kernel
theorem dP_rank_25 : decode prog_1_method_18_code 25 = .ok (.aload_n 0, 1) := by decide +kernel
theorem dP_rank_26 : decode prog_1_method_18_code 26 = .ok (.getfield 25, 3) := by decide +kernel
theorem dP_rank_29 : decode prog_1_method_18_code 29 = .ok (.iload 5, 2) := by decide +kernel
theorem dP_rank_31 : decode prog_1_method_18_code 31 = .ok (.invokevirtual 136, 3) := by decide +kernel
theorem dP_rank_34 : decode prog_1_method_18_code 34 = .ok (.goto 12, 3) := by decide +kernel
theorem dP_rank_37 : decode prog_1_method_18_code 37 = .ok (.aload_n 0, 1) := by decide +kernel
theorem dP_rank_38 : decode prog_1_method_18_code 38 = .ok (.getfield 32, 3) := by decide +kernel
theorem dP_rank_41 : decode prog_1_method_18_code 41 = .ok (.iload 5, 2) := by decide +kernel
theorem dP_rank_43 : decode prog_1_method_18_code 43 = .ok (.invokevirtual 136, 3) := by decide +kernel
theorem dP_rank_46 : decode prog_1_method_18_code 46 = .ok (.ireturn, 1) := by decide +kernel
theorem dP_like_0 : decode prog_1_method_19_code 0 = .ok (.aload_n 0, 1) := by decide +kernel
theorem dP_like_1 : decode prog_1_method_19_code 1 = .ok (.getfield 12, 3) := by decide +kernel
theorem dP_like_4 : decode prog_1_method_19_code 4 = .ok (.iload_n 1, 1) := by decide +kernel
theorem dP_like_5 : decode prog_1_method_19_code 5 = .ok (.invokevirtual 80, 3) := by decide +kernel
theorem dP_like_8 : decode prog_1_method_19_code 8 = .ok (.ifCond .eq 14, 3) := by decide +kernel
theorem dP_like_11 : decode prog_1_method_19_code 11 = .ok (.aload_n 0, 1) := by decide +kernel
theorem dP_like_12 : decode prog_1_method_19_code 12 = .ok (.getfield 12, 3) := by decide +kernel
theorem dP_like_15 : decode prog_1_method_19_code 15 = .ok (.iload_n 2, 1) := by decide +kernel
theorem dP_like_16 : decode prog_1_method_19_code 16 = .ok (.invokevirtual 80, 3) := by decide +kernel
theorem dP_like_19 : decode prog_1_method_19_code 19 = .ok (.ifCond .ne 6, 3) := by decide +kernel
theorem dP_like_22 : decode prog_1_method_19_code 22 = .ok (.bipush (-3), 2) := by decide +kernel
theorem dP_like_24 : decode prog_1_method_19_code 24 = .ok (.ireturn, 1) := by decide +kernel
theorem dP_like_25 : decode prog_1_method_19_code 25 = .ok (.aload_n 0, 1) := by decide +kernel
theorem dP_like_26 : decode prog_1_method_19_code 26 = .ok (.getfield 25, 3) := by decide +kernel
theorem dP_like_29 : decode prog_1_method_19_code 29 = .ok (.iload_n 1, 1) := by decide +kernel
theorem dP_like_30 : decode prog_1_method_19_code 30 = .ok (.iload_n 2, 1) := by decide +kernel
theorem dP_like_31 : decode prog_1_method_19_code 31 = .ok (.invokevirtual 139, 3) := by decide +kernel
theorem dP_like_34 : decode prog_1_method_19_code 34 = .ok (.ifCond .eq 19, 3) := by decide +kernel
theorem dP_like_37 : decode prog_1_method_19_code 37 = .ok (.aload_n 0, 1) := by decide +kernel
theorem dP_like_38 : decode prog_1_method_19_code 38 = .ok (.getfield 32, 3) := by decide +kernel
theorem dP_like_41 : decode prog_1_method_19_code 41 = .ok (.iload_n 1, 1) := by decide +kernel
theorem dP_like_42 : decode prog_1_method_19_code 42 = .ok (.iload_n 2, 1) := by decide +kernel
theorem dP_like_43 : decode prog_1_method_19_code 43 = .ok (.invokevirtual 139, 3) := by decide +kernel
theorem dP_like_46 : decode prog_1_method_19_code 46 = .ok (.ifCond .eq 7, 3) := by decide +kernel
theorem dP_like_49 : decode prog_1_method_19_code 49 = .ok (.iconst 1, 1) := by decide +kernel
theorem dP_like_50 : decode prog_1_method_19_code 50 = .ok (.goto 4, 3) := by decide +kernel
theorem dP_like_53 : decode prog_1_method_19_code 53 = .ok (.iconst 0, 1) := by decide +kernel
theorem dP_like_54 : decode prog_1_method_19_code 54 = .ok (.ireturn, 1) := by decide +kernel
theorem dP_closed_0 : decode prog_1_method_20_code 0 = .ok (.iload_n 2, 1) := by decide +kernel
theorem dP_closed_1 : decode prog_1_method_20_code 1 = .ok (.ifCond .eq 11, 3) := by decide +kernel
theorem dP_closed_4 : decode prog_1_method_20_code 4 = .ok (.iload_n 2, 1) := by decide +kernel
theorem dP_closed_5 : decode prog_1_method_20_code 5 = .ok (.iconst 1, 1) := by decide +kernel
theorem dP_closed_6 : decode prog_1_method_20_code 6 = .ok (.if_icmp .eq 6, 3) := by decide +kernel
theorem dP_closed_9 : decode prog_1_method_20_code 9 = .ok (.bipush (-2), 2) := by decide +kernel
theorem dP_closed_11 : decode prog_1_method_20_code 11 = .ok (.ireturn, 1) := by decide +kernel
theorem dP_closed_12 : decode prog_1_method_20_code 12 = .ok (.aload_n 0, 1) := by decide +kernel
theorem dP_closed_13 : decode prog_1_method_20_code 13 = .ok (.getfield 12, 3) := by decide +kernel
theorem dP_closed_16 : decode prog_1_method_20_code 16 = .ok (.iload_n 1, 1) := by decide +kernel
theorem dP_closed_17 : decode prog_1_method_20_code 17 = .ok (.invokevirtual 80, 3) := by decide +kernel
theorem dP_closed_20 : decode prog_1_method_20_code 20 = .ok (.ifCond .ne 6, 3) := by decide +kernel
theorem dP_closed_23 : decode prog_1_method_20_code 23 = .ok (.bipush (-3), 2) := by decide +kernel
theorem dP_closed_25 : decode prog_1_method_20_code 25 = .ok (.ireturn, 1) := by decide +kernel
theorem dP_closed_26 : decode prog_1_method_20_code 26 = .ok (.aload_n 0, 1) := by decide +kernel
theorem dP_closed_27 : decode prog_1_method_20_code 27 = .ok (.getfield 12, 3) := by decide +kernel
theorem dP_closed_30 : decode prog_1_method_20_code 30 = .ok (.iload_n 1, 1) := by decide +kernel
theorem dP_closed_31 : decode prog_1_method_20_code 31 = .ok (.invokevirtual 92, 3) := by decide +kernel
theorem dP_closed_34 : decode prog_1_method_20_code 34 = .ok (.istore_n 3, 1) := by decide +kernel
theorem dP_closed_35 : decode prog_1_method_20_code 35 = .ok (.iload_n 3, 1) := by decide +kernel
theorem dP_closed_36 : decode prog_1_method_20_code 36 = .ok (.invokestatic 95, 3) := by decide +kernel
theorem dP_closed_39 : decode prog_1_method_20_code 39 = .ok (.iload_n 3, 1) := by decide +kernel
theorem dP_closed_40 : decode prog_1_method_20_code 40 = .ok (.invokestatic 95, 3) := by decide +kernel
theorem dP_closed_43 : decode prog_1_method_20_code 43 = .ok (.iconst 1, 1) := by decide +kernel
theorem dP_closed_44 : decode prog_1_method_20_code 44 = .ok (.isub, 1) := by decide +kernel
theorem dP_closed_45 : decode prog_1_method_20_code 45 = .ok (.imul, 1) := by decide +kernel
theorem dP_closed_46 : decode prog_1_method_20_code 46 = .ok (.iconst 2, 1) := by decide +kernel
theorem dP_closed_47 : decode prog_1_method_20_code 47 = .ok (.idiv, 1) := by decide +kernel
theorem dP_closed_48 : decode prog_1_method_20_code 48 = .ok (.istore 4, 2) := by decide +kernel
theorem dP_closed_50 : decode prog_1_method_20_code 50 = .ok (.iload 4, 2) := by decide +kernel
theorem dP_closed_52 : decode prog_1_method_20_code 52 = .ok (.ifCond .ne 13, 3) := by decide +kernel
theorem dP_closed_55 : decode prog_1_method_20_code 55 = .ok (.iload_n 2, 1) := by decide +kernel
theorem dP_closed_56 : decode prog_1_method_20_code 56 = .ok (.ifCond .ne 7, 3) := by decide +kernel
theorem dP_closed_59 : decode prog_1_method_20_code 59 = .ok (.iconst 0, 1) := by decide +kernel
theorem dP_closed_60 : decode prog_1_method_20_code 60 = .ok (.goto 4, 3) := by decide +kernel
theorem dP_closed_63 : decode prog_1_method_20_code 63 = .ok (.iconst 1, 1) := by decide +kernel
theorem dP_closed_64 : decode prog_1_method_20_code 64 = .ok (.ireturn, 1) := by decide +kernel
theorem dP_closed_65 : decode prog_1_method_20_code 65 = .ok (.aload_n 0, 1) := by decide +kernel
theorem dP_closed_66 : decode prog_1_method_20_code 66 = .ok (.getfield 12, 3) := by decide +kernel
theorem dP_closed_69 : decode prog_1_method_20_code 69 = .ok (.iload_n 3, 1) := by decide +kernel
theorem dP_closed_70 : decode prog_1_method_20_code 70 = .ok (.invokevirtual 142, 3) := by decide +kernel
theorem dP_closed_73 : decode prog_1_method_20_code 73 = .ok (.istore 5, 2) := by decide +kernel
theorem dP_closed_75 : decode prog_1_method_20_code 75 = .ok (.iload_n 2, 1) := by decide +kernel
theorem dP_closed_76 : decode prog_1_method_20_code 76 = .ok (.ifCond .ne 13, 3) := by decide +kernel
theorem dP_closed_79 : decode prog_1_method_20_code 79 = .ok (.iload 5, 2) := by decide +kernel
theorem dP_closed_81 : decode prog_1_method_20_code 81 = .ok (.iload 4, 2) := by decide +kernel
theorem dP_closed_83 : decode prog_1_method_20_code 83 = .ok (.invokestatic 145, 3) := by decide +kernel
theorem dP_closed_86 : decode prog_1_method_20_code 86 = .ok (.goto 10, 3) := by decide +kernel
theorem dP_closed_89 : decode prog_1_method_20_code 89 = .ok (.iload 4, 2) := by decide +kernel
theorem dP_closed_91 : decode prog_1_method_20_code 91 = .ok (.iload 5, 2) := by decide +kernel
theorem dP_closed_93 : decode prog_1_method_20_code 93 = .ok (.invokestatic 145, 3) := by decide +kernel
theorem dP_closed_96 : decode prog_1_method_20_code 96 = .ok (.ireturn, 1) := by decide +kernel
theorem dP_rings_0 : decode prog_1_method_21_code 0 = .ok (.iload_n 1, 1) := by decide +kernel
theorem dP_rings_1 : decode prog_1_method_21_code 1 = .ok (.invokestatic 148, 3) := by decide +kernel
theorem dP_rings_4 : decode prog_1_method_21_code 4 = .ok (.ifCond .ne 6, 3) := by decide +kernel
theorem dP_rings_7 : decode prog_1_method_21_code 7 = .ok (.bipush (-2), 2) := by decide +kernel
theorem dP_rings_9 : decode prog_1_method_21_code 9 = .ok (.ireturn, 1) := by decide +kernel
theorem dP_rings_10 : decode prog_1_method_21_code 10 = .ok (.iconst 0, 1) := by decide +kernel
theorem dP_rings_11 : decode prog_1_method_21_code 11 = .ok (.istore_n 2, 1) := by decide +kernel
theorem dP_rings_12 : decode prog_1_method_21_code 12 = .ok (.aload_n 0, 1) := by decide +kernel
theorem dP_rings_13 : decode prog_1_method_21_code 13 = .ok (.getfield 12, 3) := by decide +kernel
theorem dP_rings_16 : decode prog_1_method_21_code 16 = .ok (.invokevirtual 104, 3) := by decide +kernel
theorem dP_rings_19 : decode prog_1_method_21_code 19 = .ok (.istore_n 3, 1) := by decide +kernel
theorem dP_rings_20 : decode prog_1_method_21_code 20 = .ok (.iconst 0, 1) := by decide +kernel
theorem dP_rings_21 : decode prog_1_method_21_code 21 = .ok (.istore 4, 2) := by decide +kernel
theorem dP_rings_23 : decode prog_1_method_21_code 23 = .ok (.iload 4, 2) := by decide +kernel
theorem dP_rings_25 : decode prog_1_method_21_code 25 = .ok (.aload_n 0, 1) := by decide +kernel
theorem dP_rings_26 : decode prog_1_method_21_code 26 = .ok (.getfield 12, 3) := by decide +kernel
theorem dP_rings_29 : decode prog_1_method_21_code 29 = .ok (.getfield 86, 3) := by decide +kernel
theorem dP_rings_32 : decode prog_1_method_21_code 32 = .ok (.if_icmp .ge 32, 3) := by decide +kernel
theorem dP_rings_35 : decode prog_1_method_21_code 35 = .ok (.iload_n 3, 1) := by decide +kernel
theorem dP_rings_36 : decode prog_1_method_21_code 36 = .ok (.iconst 1, 1) := by decide +kernel
theorem dP_rings_37 : decode prog_1_method_21_code 37 = .ok (.iload 4, 2) := by decide +kernel
theorem dP_rings_39 : decode prog_1_method_21_code 39 = .ok (.ishl, 1) := by decide +kernel
theorem dP_rings_40 : decode prog_1_method_21_code 40 = .ok (.iconst (-1), 1) := by decide +kernel
theorem dP_rings_41 : decode prog_1_method_21_code 41 = .ok (.ixor, 1) := by decide +kernel
theorem dP_rings_42 : decode prog_1_method_21_code 42 = .ok (.iand, 1) := by decide +kernel
theorem dP_rings_43 : decode prog_1_method_21_code 43 = .ok (.istore_n 3, 1) := by decide +kernel
theorem dP_rings_44 : decode prog_1_method_21_code 44 = .ok (.iload_n 2, 1) := by decide +kernel
theorem dP_rings_45 : decode prog_1_method_21_code 45 = .ok (.aload_n 0, 1) := by decide +kernel
theorem dP_rings_46 : decode prog_1_method_21_code 46 = .ok (.getfield 12, 3) := by decide +kernel
theorem dP_rings_49 : decode prog_1_method_21_code 49 = .ok (.iload_n 1, 1) := by decide +kernel
theorem dP_rings_50 : decode prog_1_method_21_code 50 = .ok (.iload 4, 2) := by decide +kernel
theorem dP_rings_52 : decode prog_1_method_21_code 52 = .ok (.iload_n 3, 1) := by decide +kernel
theorem dP_rings_53 : decode prog_1_method_21_code 53 = .ok (.invokestatic 151, 3) := by decide +kernel
theorem dP_rings_56 : decode prog_1_method_21_code 56 = .ok (.iadd, 1) := by decide +kernel
theorem dP_rings_57 : decode prog_1_method_21_code 57 = .ok (.istore_n 2, 1) := by decide +kernel
theorem dP_rings_58 : decode prog_1_method_21_code 58 = .ok (.iinc 4 1, 3) := by decide +kernel
theorem dP_rings_61 : decode prog_1_method_21_code 61 = .ok (.goto (-38), 3) := by decide +kernel
theorem dP_rings_64 : decode prog_1_method_21_code 64 = .ok (.iload_n 2, 1) := by decide +kernel
theorem dP_rings_65 : decode prog_1_method_21_code 65 = .ok (.ireturn, 1) := by decide +kernel
theorem dP_ringsBy_0 : decode prog_1_method_22_code 0 = .ok (.iload_n 1, 1) := by decide +kernel
theorem dP_ringsBy_1 : decode prog_1_method_22_code 1 = .ok (.invokestatic 148, 3) := by decide +kernel
theorem dP_ringsBy_4 : decode prog_1_method_22_code 4 = .ok (.ifCond .ne 6, 3) := by decide +kernel
theorem dP_ringsBy_7 : decode prog_1_method_22_code 7 = .ok (.bipush (-2), 2) := by decide +kernel
theorem dP_ringsBy_9 : decode prog_1_method_22_code 9 = .ok (.ireturn, 1) := by decide +kernel
theorem dP_ringsBy_10 : decode prog_1_method_22_code 10 = .ok (.aload_n 0, 1) := by decide +kernel
theorem dP_ringsBy_11 : decode prog_1_method_22_code 11 = .ok (.getfield 12, 3) := by decide +kernel
theorem dP_ringsBy_14 : decode prog_1_method_22_code 14 = .ok (.iload_n 2, 1) := by decide +kernel
theorem dP_ringsBy_15 : decode prog_1_method_22_code 15 = .ok (.invokevirtual 80, 3) := by decide +kernel
theorem dP_ringsBy_18 : decode prog_1_method_22_code 18 = .ok (.ifCond .ne 6, 3) := by decide +kernel
theorem dP_ringsBy_21 : decode prog_1_method_22_code 21 = .ok (.bipush (-3), 2) := by decide +kernel
theorem dP_ringsBy_23 : decode prog_1_method_22_code 23 = .ok (.ireturn, 1) := by decide +kernel
theorem dP_ringsBy_24 : decode prog_1_method_22_code 24 = .ok (.aload_n 0, 1) := by decide +kernel
theorem dP_ringsBy_25 : decode prog_1_method_22_code 25 = .ok (.getfield 12, 3) := by decide +kernel
theorem dP_ringsBy_28 : decode prog_1_method_22_code 28 = .ok (.iload_n 1, 1) := by decide +kernel
theorem dP_ringsBy_29 : decode prog_1_method_22_code 29 = .ok (.iload_n 2, 1) := by decide +kernel
theorem dP_ringsBy_30 : decode prog_1_method_22_code 30 = .ok (.aload_n 0, 1) := by decide +kernel
theorem dP_ringsBy_31 : decode prog_1_method_22_code 31 = .ok (.getfield 12, 3) := by decide +kernel
theorem dP_ringsBy_34 : decode prog_1_method_22_code 34 = .ok (.invokevirtual 104, 3) := by decide +kernel
theorem dP_ringsBy_37 : decode prog_1_method_22_code 37 = .ok (.iconst 1, 1) := by decide +kernel
theorem dP_ringsBy_38 : decode prog_1_method_22_code 38 = .ok (.iload_n 2, 1) := by decide +kernel
theorem dP_ringsBy_39 : decode prog_1_method_22_code 39 = .ok (.ishl, 1) := by decide +kernel
theorem dP_ringsBy_40 : decode prog_1_method_22_code 40 = .ok (.iconst (-1), 1) := by decide +kernel
theorem dP_ringsBy_41 : decode prog_1_method_22_code 41 = .ok (.ixor, 1) := by decide +kernel
theorem dP_ringsBy_42 : decode prog_1_method_22_code 42 = .ok (.iand, 1) := by decide +kernel
theorem dP_ringsBy_43 : decode prog_1_method_22_code 43 = .ok (.invokestatic 151, 3) := by decide +kernel
theorem dP_ringsBy_46 : decode prog_1_method_22_code 46 = .ok (.ireturn, 1) := by decide +kernel
theorem dP_ways_0 : decode prog_1_method_23_code 0 = .ok (.iload_n 1, 1) := by decide +kernel
theorem dP_ways_1 : decode prog_1_method_23_code 1 = .ok (.iconst 1, 1) := by decide +kernel
theorem dP_ways_2 : decode prog_1_method_23_code 2 = .ok (.if_icmp .lt 8, 3) := by decide +kernel
theorem dP_ways_5 : decode prog_1_method_23_code 5 = .ok (.iload_n 1, 1) := by decide +kernel
theorem dP_ways_6 : decode prog_1_method_23_code 6 = .ok (.iconst 5, 1) := by decide +kernel
theorem dP_ways_7 : decode prog_1_method_23_code 7 = .ok (.if_icmp .le 6, 3) := by decide +kernel
theorem dP_ways_10 : decode prog_1_method_23_code 10 = .ok (.bipush (-2), 2) := by decide +kernel
theorem dP_ways_12 : decode prog_1_method_23_code 12 = .ok (.ireturn, 1) := by decide +kernel
theorem dP_ways_13 : decode prog_1_method_23_code 13 = .ok (.aload_n 0, 1) := by decide +kernel
theorem dP_ways_14 : decode prog_1_method_23_code 14 = .ok (.getfield 12, 3) := by decide +kernel
theorem dP_ways_17 : decode prog_1_method_23_code 17 = .ok (.iload_n 2, 1) := by decide +kernel
theorem dP_ways_18 : decode prog_1_method_23_code 18 = .ok (.iload_n 3, 1) := by decide +kernel
theorem dP_ways_19 : decode prog_1_method_23_code 19 = .ok (.invokevirtual 64, 3) := by decide +kernel
theorem dP_ways_22 : decode prog_1_method_23_code 22 = .ok (.istore 4, 2) := by decide +kernel
theorem dP_ways_24 : decode prog_1_method_23_code 24 = .ok (.iload 4, 2) := by decide +kernel
theorem dP_ways_26 : decode prog_1_method_23_code 26 = .ok (.ifCond .ne 8, 3) := by decide +kernel
theorem dP_ways_29 : decode prog_1_method_23_code 29 = .ok (.bipush (-3), 2) := by decide +kernel
theorem dP_ways_31 : decode prog_1_method_23_code 31 = .ok (.goto 25, 3) := by decide +kernel
theorem dP_ways_34 : decode prog_1_method_23_code 34 = .ok (.aload_n 0, 1) := by decide +kernel
theorem dP_ways_35 : decode prog_1_method_23_code 35 = .ok (.getfield 12, 3) := by decide +kernel
theorem dP_ways_38 : decode prog_1_method_23_code 38 = .ok (.iload_n 1, 1) := by decide +kernel
theorem dP_ways_39 : decode prog_1_method_23_code 39 = .ok (.iload_n 2, 1) := by decide +kernel
theorem dP_ways_40 : decode prog_1_method_23_code 40 = .ok (.iload_n 3, 1) := by decide +kernel
theorem dP_ways_41 : decode prog_1_method_23_code 41 = .ok (.aload_n 0, 1) := by decide +kernel
theorem dP_ways_42 : decode prog_1_method_23_code 42 = .ok (.getfield 12, 3) := by decide +kernel
theorem dP_ways_45 : decode prog_1_method_23_code 45 = .ok (.invokevirtual 104, 3) := by decide +kernel
theorem dP_ways_48 : decode prog_1_method_23_code 48 = .ok (.iload 4, 2) := by decide +kernel
theorem dP_ways_50 : decode prog_1_method_23_code 50 = .ok (.iconst (-1), 1) := by decide +kernel
theorem dP_ways_51 : decode prog_1_method_23_code 51 = .ok (.ixor, 1) := by decide +kernel
theorem dP_ways_52 : decode prog_1_method_23_code 52 = .ok (.iand, 1) := by decide +kernel
theorem dP_ways_53 : decode prog_1_method_23_code 53 = .ok (.invokestatic 157, 3) := by decide +kernel
theorem dP_ways_56 : decode prog_1_method_23_code 56 = .ok (.ireturn, 1) := by decide +kernel
theorem dP_forgetLatest_0 : decode prog_1_method_24_code 0 = .ok (.aload_n 0, 1) := by decide +kernel
theorem dP_forgetLatest_1 : decode prog_1_method_24_code 1 = .ok (.iconst (-1), 1) := by decide +kernel
theorem dP_forgetLatest_2 : decode prog_1_method_24_code 2 = .ok (.putfield 35, 3) := by decide +kernel
theorem dP_forgetLatest_5 : decode prog_1_method_24_code 5 = .ok (.aload_n 0, 1) := by decide +kernel
theorem dP_forgetLatest_6 : decode prog_1_method_24_code 6 = .ok (.iconst (-1), 1) := by decide +kernel
theorem dP_forgetLatest_7 : decode prog_1_method_24_code 7 = .ok (.putfield 39, 3) := by decide +kernel
theorem dP_forgetLatest_10 : decode prog_1_method_24_code 10 = .ok (.return_, 1) := by decide +kernel
theorem dP_setsWith_0 : decode prog_1_method_25_code 0 = .ok (.iload_n 1, 1) := by decide +kernel
theorem dP_setsWith_1 : decode prog_1_method_25_code 1 = .ok (.iconst 3, 1) := by decide +kernel
theorem dP_setsWith_2 : decode prog_1_method_25_code 2 = .ok (.if_icmp .eq 10, 3) := by decide +kernel
theorem dP_setsWith_5 : decode prog_1_method_25_code 5 = .ok (.iload_n 1, 1) := by decide +kernel
theorem dP_setsWith_6 : decode prog_1_method_25_code 6 = .ok (.iconst 4, 1) := by decide +kernel
theorem dP_setsWith_7 : decode prog_1_method_25_code 7 = .ok (.if_icmp .eq 5, 3) := by decide +kernel
theorem dP_setsWith_10 : decode prog_1_method_25_code 10 = .ok (.aconst_null, 1) := by decide +kernel
theorem dP_setsWith_11 : decode prog_1_method_25_code 11 = .ok (.areturn, 1) := by decide +kernel
theorem dP_setsWith_12 : decode prog_1_method_25_code 12 = .ok (.iload_n 1, 1) := by decide +kernel
theorem dP_setsWith_13 : decode prog_1_method_25_code 13 = .ok (.iconst 3, 1) := by decide +kernel
theorem dP_setsWith_14 : decode prog_1_method_25_code 14 = .ok (.if_icmp .ne 10, 3) := by decide +kernel
theorem dP_setsWith_17 : decode prog_1_method_25_code 17 = .ok (.aload_n 0, 1) := by decide +kernel
theorem dP_setsWith_18 : decode prog_1_method_25_code 18 = .ok (.getfield 25, 3) := by decide +kernel
theorem dP_setsWith_21 : decode prog_1_method_25_code 21 = .ok (.goto 7, 3) := by decide +kernel
theorem dP_setsWith_24 : decode prog_1_method_25_code 24 = .ok (.aload_n 0, 1) := by decide +kernel
theorem dP_setsWith_25 : decode prog_1_method_25_code 25 = .ok (.getfield 32, 3) := by decide +kernel
theorem dP_setsWith_28 : decode prog_1_method_25_code 28 = .ok (.astore_n 3, 1) := by decide +kernel
theorem dP_setsWith_29 : decode prog_1_method_25_code 29 = .ok (.aload_n 3, 1) := by decide +kernel
theorem dP_setsWith_30 : decode prog_1_method_25_code 30 = .ok (.iload_n 2, 1) := by decide +kernel
theorem dP_setsWith_31 : decode prog_1_method_25_code 31 = .ok (.invokevirtual 161, 3) := by decide +kernel
theorem dP_setsWith_34 : decode prog_1_method_25_code 34 = .ok (.iconst (-1), 1) := by decide +kernel
theorem dP_setsWith_35 : decode prog_1_method_25_code 35 = .ok (.if_icmp .ne 7, 3) := by decide +kernel
theorem dP_setsWith_38 : decode prog_1_method_25_code 38 = .ok (.aconst_null, 1) := by decide +kernel
theorem dP_setsWith_39 : decode prog_1_method_25_code 39 = .ok (.goto 4, 3) := by decide +kernel
theorem dP_setsWith_42 : decode prog_1_method_25_code 42 = .ok (.aload_n 3, 1) := by decide +kernel
theorem dP_setsWith_43 : decode prog_1_method_25_code 43 = .ok (.areturn, 1) := by decide +kernel
theorem dP_setOf_0 : decode prog_1_method_26_code 0 = .ok (.aload_n 0, 1) := by decide +kernel
theorem dP_setOf_1 : decode prog_1_method_26_code 1 = .ok (.getfield 12, 3) := by decide +kernel
theorem dP_setOf_4 : decode prog_1_method_26_code 4 = .ok (.iload_n 1, 1) := by decide +kernel
theorem dP_setOf_5 : decode prog_1_method_26_code 5 = .ok (.invokevirtual 164, 3) := by decide +kernel
theorem dP_setOf_8 : decode prog_1_method_26_code 8 = .ok (.aload_n 0, 1) := by decide +kernel
theorem dP_setOf_9 : decode prog_1_method_26_code 9 = .ok (.getfield 12, 3) := by decide +kernel
theorem dP_setOf_12 : decode prog_1_method_26_code 12 = .ok (.iload_n 2, 1) := by decide +kernel
theorem dP_setOf_13 : decode prog_1_method_26_code 13 = .ok (.invokevirtual 164, 3) := by decide +kernel
theorem dP_setOf_16 : decode prog_1_method_26_code 16 = .ok (.ior, 1) := by decide +kernel
theorem dP_setOf_17 : decode prog_1_method_26_code 17 = .ok (.aload_n 0, 1) := by decide +kernel
theorem dP_setOf_18 : decode prog_1_method_26_code 18 = .ok (.getfield 12, 3) := by decide +kernel
theorem dP_setOf_21 : decode prog_1_method_26_code 21 = .ok (.iload_n 3, 1) := by decide +kernel
theorem dP_setOf_22 : decode prog_1_method_26_code 22 = .ok (.invokevirtual 164, 3) := by decide +kernel
theorem dP_setOf_25 : decode prog_1_method_26_code 25 = .ok (.ior, 1) := by decide +kernel
theorem dP_setOf_26 : decode prog_1_method_26_code 26 = .ok (.istore 5, 2) := by decide +kernel
theorem dP_setOf_28 : decode prog_1_method_26_code 28 = .ok (.iload 4, 2) := by decide +kernel
theorem dP_setOf_30 : decode prog_1_method_26_code 30 = .ok (.iconst (-1), 1) := by decide +kernel
theorem dP_setOf_31 : decode prog_1_method_26_code 31 = .ok (.if_icmp .ne 8, 3) := by decide +kernel
theorem dP_setOf_34 : decode prog_1_method_26_code 34 = .ok (.iload 5, 2) := by decide +kernel
theorem dP_setOf_36 : decode prog_1_method_26_code 36 = .ok (.goto 15, 3) := by decide +kernel
theorem dP_setOf_39 : decode prog_1_method_26_code 39 = .ok (.iload 5, 2) := by decide +kernel
theorem dP_setOf_41 : decode prog_1_method_26_code 41 = .ok (.aload_n 0, 1) := by decide +kernel
theorem dP_setOf_42 : decode prog_1_method_26_code 42 = .ok (.getfield 12, 3) := by decide +kernel
theorem dP_setOf_45 : decode prog_1_method_26_code 45 = .ok (.iload 4, 2) := by decide +kernel
theorem dP_setOf_47 : decode prog_1_method_26_code 47 = .ok (.invokevirtual 164, 3) := by decide +kernel
theorem dP_setOf_50 : decode prog_1_method_26_code 50 = .ok (.ior, 1) := by decide +kernel
theorem dP_setOf_51 : decode prog_1_method_26_code 51 = .ok (.istore 6, 2) := by decide +kernel
theorem dP_setOf_53 : decode prog_1_method_26_code 53 = .ok (.iload 6, 2) := by decide +kernel
theorem dP_setOf_55 : decode prog_1_method_26_code 55 = .ok (.invokestatic 95, 3) := by decide +kernel
theorem dP_setOf_58 : decode prog_1_method_26_code 58 = .ok (.iload 4, 2) := by decide +kernel
theorem dP_setOf_60 : decode prog_1_method_26_code 60 = .ok (.iconst (-1), 1) := by decide +kernel
theorem dP_setOf_61 : decode prog_1_method_26_code 61 = .ok (.if_icmp .ne 7, 3) := by decide +kernel
theorem dP_setOf_64 : decode prog_1_method_26_code 64 = .ok (.iconst 3, 1) := by decide +kernel
theorem dP_setOf_65 : decode prog_1_method_26_code 65 = .ok (.goto 4, 3) := by decide +kernel
theorem dP_setOf_68 : decode prog_1_method_26_code 68 = .ok (.iconst 4, 1) := by decide +kernel
theorem dP_setOf_69 : decode prog_1_method_26_code 69 = .ok (.if_icmp .ne 8, 3) := by decide +kernel
theorem dP_setOf_72 : decode prog_1_method_26_code 72 = .ok (.iload 6, 2) := by decide +kernel
theorem dP_setOf_74 : decode prog_1_method_26_code 74 = .ok (.goto 4, 3) := by decide +kernel
theorem dP_setOf_77 : decode prog_1_method_26_code 77 = .ok (.iconst 0, 1) := by decide +kernel
theorem dP_setOf_78 : decode prog_1_method_26_code 78 = .ok (.ireturn, 1) := by decide +kernel
theorem dP_isColour_0 : decode prog_1_method_27_code 0 = .ok (.iload_n 0, 1) := by decide +kernel
theorem dP_isColour_1 : decode prog_1_method_27_code 1 = .ok (.ifCond .lt 12, 3) := by decide +kernel
theorem dP_isColour_4 : decode prog_1_method_27_code 4 = .ok (.iload_n 0, 1) := by decide +kernel
theorem dP_isColour_5 : decode prog_1_method_27_code 5 = .ok (.iconst 4, 1) := by decide +kernel
theorem dP_isColour_6 : decode prog_1_method_27_code 6 = .ok (.if_icmp .ge 7, 3) := by decide +kernel
theorem dP_isColour_9 : decode prog_1_method_27_code 9 = .ok (.iconst 1, 1) := by decide +kernel
theorem dP_isColour_10 : decode prog_1_method_27_code 10 = .ok (.goto 4, 3) := by decide +kernel
theorem dP_isColour_13 : decode prog_1_method_27_code 13 = .ok (.iconst 0, 1) := by decide +kernel
theorem dP_isColour_14 : decode prog_1_method_27_code 14 = .ok (.ireturn, 1) := by decide +kernel
theorem dP_isRingLength_0 : decode prog_1_method_28_code 0 = .ok (.iload_n 0, 1) := by decide +kernel
theorem dP_isRingLength_1 : decode prog_1_method_28_code 1 = .ok (.iconst 3, 1) := by decide +kernel
theorem dP_isRingLength_2 : decode prog_1_method_28_code 2 = .ok (.if_icmp .lt 13, 3) := by decide +kernel
theorem dP_isRingLength_5 : decode prog_1_method_28_code 5 = .ok (.iload_n 0, 1) := by decide +kernel
theorem dP_isRingLength_6 : decode prog_1_method_28_code 6 = .ok (.bipush 6, 2) := by decide +kernel
theorem dP_isRingLength_8 : decode prog_1_method_28_code 8 = .ok (.if_icmp .gt 7, 3) := by decide +kernel
theorem dP_isRingLength_11 : decode prog_1_method_28_code 11 = .ok (.iconst 1, 1) := by decide +kernel
theorem dP_isRingLength_12 : decode prog_1_method_28_code 12 = .ok (.goto 4, 3) := by decide +kernel
theorem dP_isRingLength_15 : decode prog_1_method_28_code 15 = .ok (.iconst 0, 1) := by decide +kernel
theorem dP_isRingLength_16 : decode prog_1_method_28_code 16 = .ok (.ireturn, 1) := by decide +kernel
theorem dP_holds_0 : decode prog_1_method_29_code 0 = .ok (.iload_n 0, 1) := by decide +kernel
theorem dP_holds_1 : decode prog_1_method_29_code 1 = .ok (.iload_n 1, 1) := by decide +kernel
theorem dP_holds_2 : decode prog_1_method_29_code 2 = .ok (.ishr, 1) := by decide +kernel
theorem dP_holds_3 : decode prog_1_method_29_code 3 = .ok (.iconst 1, 1) := by decide +kernel
theorem dP_holds_4 : decode prog_1_method_29_code 4 = .ok (.iand, 1) := by decide +kernel
theorem dP_holds_5 : decode prog_1_method_29_code 5 = .ok (.iconst 1, 1) := by decide +kernel
theorem dP_holds_6 : decode prog_1_method_29_code 6 = .ok (.if_icmp .ne 7, 3) := by decide +kernel
theorem dP_holds_9 : decode prog_1_method_29_code 9 = .ok (.iconst 1, 1) := by decide +kernel
theorem dP_holds_10 : decode prog_1_method_29_code 10 = .ok (.goto 4, 3) := by decide +kernel
theorem dP_holds_13 : decode prog_1_method_29_code 13 = .ok (.iconst 0, 1) := by decide +kernel
theorem dP_holds_14 : decode prog_1_method_29_code 14 = .ok (.ireturn, 1) := by decide +kernel
theorem dP_nodeAt_0 : decode prog_1_method_30_code 0 = .ok (.iconst 0, 1) := by decide +kernel
theorem dP_nodeAt_1 : decode prog_1_method_30_code 1 = .ok (.istore_n 2, 1) := by decide +kernel
theorem dP_nodeAt_2 : decode prog_1_method_30_code 2 = .ok (.iconst 0, 1) := by decide +kernel
theorem dP_nodeAt_3 : decode prog_1_method_30_code 3 = .ok (.istore_n 3, 1) := by decide +kernel
theorem dP_nodeAt_4 : decode prog_1_method_30_code 4 = .ok (.iload_n 3, 1) := by decide +kernel
theorem dP_nodeAt_5 : decode prog_1_method_30_code 5 = .ok (.bipush 14, 2) := by decide +kernel
theorem dP_nodeAt_7 : decode prog_1_method_30_code 7 = .ok (.if_icmp .ge 27, 3) := by decide +kernel
theorem dP_nodeAt_10 : decode prog_1_method_30_code 10 = .ok (.iload_n 0, 1) := by decide +kernel
theorem dP_nodeAt_11 : decode prog_1_method_30_code 11 = .ok (.iload_n 3, 1) := by decide +kernel
theorem dP_nodeAt_12 : decode prog_1_method_30_code 12 = .ok (.invokestatic 167, 3) := by decide +kernel
theorem dP_nodeAt_15 : decode prog_1_method_30_code 15 = .ok (.ifCond .eq 13, 3) := by decide +kernel
theorem dP_nodeAt_18 : decode prog_1_method_30_code 18 = .ok (.iload_n 2, 1) := by decide +kernel
theorem dP_nodeAt_19 : decode prog_1_method_30_code 19 = .ok (.iload_n 1, 1) := by decide +kernel
theorem dP_nodeAt_20 : decode prog_1_method_30_code 20 = .ok (.if_icmp .ne 5, 3) := by decide +kernel
theorem dP_nodeAt_23 : decode prog_1_method_30_code 23 = .ok (.iload_n 3, 1) := by decide +kernel
theorem dP_nodeAt_24 : decode prog_1_method_30_code 24 = .ok (.ireturn, 1) := by decide +kernel
theorem dP_nodeAt_25 : decode prog_1_method_30_code 25 = .ok (.iinc 2 1, 3) := by decide +kernel
theorem dP_nodeAt_28 : decode prog_1_method_30_code 28 = .ok (.iinc 3 1, 3) := by decide +kernel
theorem dP_nodeAt_31 : decode prog_1_method_30_code 31 = .ok (.goto (-27), 3) := by decide +kernel
theorem dP_nodeAt_34 : decode prog_1_method_30_code 34 = .ok (.iconst (-1), 1) := by decide +kernel
theorem dP_nodeAt_35 : decode prog_1_method_30_code 35 = .ok (.ireturn, 1) := by decide +kernel
theorem dP_reduced_0 : decode prog_1_method_31_code 0 = .ok (.iload_n 0, 1) := by decide +kernel
theorem dP_reduced_1 : decode prog_1_method_31_code 1 = .ok (.istore_n 2, 1) := by decide +kernel
theorem dP_reduced_2 : decode prog_1_method_31_code 2 = .ok (.iload_n 2, 1) := by decide +kernel
theorem dP_reduced_3 : decode prog_1_method_31_code 3 = .ok (.iconst 1, 1) := by decide +kernel
theorem dP_reduced_4 : decode prog_1_method_31_code 4 = .ok (.if_icmp .le 25, 3) := by decide +kernel
theorem dP_reduced_7 : decode prog_1_method_31_code 7 = .ok (.iload_n 0, 1) := by decide +kernel
theorem dP_reduced_8 : decode prog_1_method_31_code 8 = .ok (.iload_n 2, 1) := by decide +kernel
theorem dP_reduced_9 : decode prog_1_method_31_code 9 = .ok (.irem, 1) := by decide +kernel
theorem dP_reduced_10 : decode prog_1_method_31_code 10 = .ok (.ifCond .ne 13, 3) := by decide +kernel
theorem dP_reduced_13 : decode prog_1_method_31_code 13 = .ok (.iload_n 1, 1) := by decide +kernel
theorem dP_reduced_14 : decode prog_1_method_31_code 14 = .ok (.iload_n 2, 1) := by decide +kernel
theorem dP_reduced_15 : decode prog_1_method_31_code 15 = .ok (.irem, 1) := by decide +kernel
theorem dP_reduced_16 : decode prog_1_method_31_code 16 = .ok (.ifCond .ne 7, 3) := by decide +kernel
theorem dP_reduced_19 : decode prog_1_method_31_code 19 = .ok (.iload_n 0, 1) := by decide +kernel
theorem dP_reduced_20 : decode prog_1_method_31_code 20 = .ok (.iload_n 2, 1) := by decide +kernel
theorem dP_reduced_21 : decode prog_1_method_31_code 21 = .ok (.idiv, 1) := by decide +kernel
theorem dP_reduced_22 : decode prog_1_method_31_code 22 = .ok (.ireturn, 1) := by decide +kernel
theorem dP_reduced_23 : decode prog_1_method_31_code 23 = .ok (.iinc 2 (-1), 3) := by decide +kernel
theorem dP_reduced_26 : decode prog_1_method_31_code 26 = .ok (.goto (-24), 3) := by decide +kernel
theorem dP_reduced_29 : decode prog_1_method_31_code 29 = .ok (.iload_n 0, 1) := by decide +kernel
theorem dP_reduced_30 : decode prog_1_method_31_code 30 = .ok (.ireturn, 1) := by decide +kernel
