theorem dG_init_0 : decode prog_2_method_1_code 0 = .ok (.aload_n 0, 1) := by decide +kernel
theorem dG_init_1 : decode prog_2_method_1_code 1 = .ok (.invokespecial 3, 3) := by decide +kernel
theorem dG_init_4 : decode prog_2_method_1_code 4 = .ok (.aload_n 0, 1) := by decide +kernel
theorem dG_init_5 : decode prog_2_method_1_code 5 = .ok (.bipush 14, 2) := by decide +kernel
theorem dG_init_7 : decode prog_2_method_1_code 7 = .ok (.newarray .int, 2) := by decide +kernel
theorem dG_init_9 : decode prog_2_method_1_code 9 = .ok (.putfield 9, 3) := by decide +kernel
theorem dG_init_12 : decode prog_2_method_1_code 12 = .ok (.aload_n 0, 1) := by decide +kernel
theorem dG_init_13 : decode prog_2_method_1_code 13 = .ok (.iconst 4, 1) := by decide +kernel
theorem dG_init_14 : decode prog_2_method_1_code 14 = .ok (.newarray .int, 2) := by decide +kernel
theorem dG_init_16 : decode prog_2_method_1_code 16 = .ok (.putfield 15, 3) := by decide +kernel
theorem dG_init_19 : decode prog_2_method_1_code 19 = .ok (.return_, 1) := by decide +kernel
theorem dG_isFull_0 : decode prog_2_method_2_code 0 = .ok (.aload_n 0, 1) := by decide +kernel
theorem dG_isFull_1 : decode prog_2_method_2_code 1 = .ok (.getfield 18, 3) := by decide +kernel
theorem dG_isFull_4 : decode prog_2_method_2_code 4 = .ok (.bipush 14, 2) := by decide +kernel
theorem dG_isFull_6 : decode prog_2_method_2_code 6 = .ok (.if_icmp .lt 7, 3) := by decide +kernel
theorem dG_isFull_9 : decode prog_2_method_2_code 9 = .ok (.iconst 1, 1) := by decide +kernel
theorem dG_isFull_10 : decode prog_2_method_2_code 10 = .ok (.goto 4, 3) := by decide +kernel
theorem dG_isFull_13 : decode prog_2_method_2_code 13 = .ok (.iconst 0, 1) := by decide +kernel
theorem dG_isFull_14 : decode prog_2_method_2_code 14 = .ok (.ireturn, 1) := by decide +kernel
theorem dG_add_0 : decode prog_2_method_3_code 0 = .ok (.aload_n 0, 1) := by decide +kernel
theorem dG_add_1 : decode prog_2_method_3_code 1 = .ok (.getfield 18, 3) := by decide +kernel
theorem dG_add_4 : decode prog_2_method_3_code 4 = .ok (.istore_n 2, 1) := by decide +kernel
theorem dG_add_5 : decode prog_2_method_3_code 5 = .ok (.aload_n 0, 1) := by decide +kernel
theorem dG_add_6 : decode prog_2_method_3_code 6 = .ok (.dup, 1) := by decide +kernel
theorem dG_add_7 : decode prog_2_method_3_code 7 = .ok (.getfield 18, 3) := by decide +kernel
theorem dG_add_10 : decode prog_2_method_3_code 10 = .ok (.iconst 1, 1) := by decide +kernel
theorem dG_add_11 : decode prog_2_method_3_code 11 = .ok (.iadd, 1) := by decide +kernel
theorem dG_add_12 : decode prog_2_method_3_code 12 = .ok (.putfield 18, 3) := by decide +kernel
theorem dG_add_15 : decode prog_2_method_3_code 15 = .ok (.aload_n 0, 1) := by decide +kernel
theorem dG_add_16 : decode prog_2_method_3_code 16 = .ok (.iload_n 2, 1) := by decide +kernel
theorem dG_add_17 : decode prog_2_method_3_code 17 = .ok (.iload_n 1, 1) := by decide +kernel
theorem dG_add_18 : decode prog_2_method_3_code 18 = .ok (.invokevirtual 22, 3) := by decide +kernel
theorem dG_add_21 : decode prog_2_method_3_code 21 = .ok (.pop, 1) := by decide +kernel
theorem dG_add_22 : decode prog_2_method_3_code 22 = .ok (.iload_n 2, 1) := by decide +kernel
theorem dG_add_23 : decode prog_2_method_3_code 23 = .ok (.ireturn, 1) := by decide +kernel
theorem dG_empty_0 : decode prog_2_method_4_code 0 = .ok (.aload_n 0, 1) := by decide +kernel
theorem dG_empty_1 : decode prog_2_method_4_code 1 = .ok (.getfield 18, 3) := by decide +kernel
theorem dG_empty_4 : decode prog_2_method_4_code 4 = .ok (.istore_n 1, 1) := by decide +kernel
theorem dG_empty_5 : decode prog_2_method_4_code 5 = .ok (.aload_n 0, 1) := by decide +kernel
theorem dG_empty_6 : decode prog_2_method_4_code 6 = .ok (.iconst 0, 1) := by decide +kernel
theorem dG_empty_7 : decode prog_2_method_4_code 7 = .ok (.putfield 18, 3) := by decide +kernel
theorem dG_empty_10 : decode prog_2_method_4_code 10 = .ok (.aload_n 0, 1) := by decide +kernel
theorem dG_empty_11 : decode prog_2_method_4_code 11 = .ok (.iconst 0, 1) := by decide +kernel
theorem dG_empty_12 : decode prog_2_method_4_code 12 = .ok (.putfield 26, 3) := by decide +kernel
theorem dG_empty_15 : decode prog_2_method_4_code 15 = .ok (.aload_n 0, 1) := by decide +kernel
theorem dG_empty_16 : decode prog_2_method_4_code 16 = .ok (.getfield 9, 3) := by decide +kernel
theorem dG_empty_19 : decode prog_2_method_4_code 19 = .ok (.iconst 0, 1) := by decide +kernel
theorem dG_empty_20 : decode prog_2_method_4_code 20 = .ok (.invokestatic 29, 3) := by decide +kernel
theorem dG_empty_23 : decode prog_2_method_4_code 23 = .ok (.aload_n 0, 1) := by decide +kernel
theorem dG_empty_24 : decode prog_2_method_4_code 24 = .ok (.getfield 15, 3) := by decide +kernel
theorem dG_empty_27 : decode prog_2_method_4_code 27 = .ok (.iconst 0, 1) := by decide +kernel
theorem dG_empty_28 : decode prog_2_method_4_code 28 = .ok (.invokestatic 29, 3) := by decide +kernel
theorem dG_empty_31 : decode prog_2_method_4_code 31 = .ok (.iload_n 1, 1) := by decide +kernel
theorem dG_empty_32 : decode prog_2_method_4_code 32 = .ok (.ireturn, 1) := by decide +kernel
theorem dG_knows_0 : decode prog_2_method_5_code 0 = .ok (.iload_n 1, 1) := by decide +kernel
theorem dG_knows_1 : decode prog_2_method_5_code 1 = .ok (.ifCond .lt 15, 3) := by decide +kernel
theorem dG_knows_4 : decode prog_2_method_5_code 4 = .ok (.iload_n 1, 1) := by decide +kernel
theorem dG_knows_5 : decode prog_2_method_5_code 5 = .ok (.aload_n 0, 1) := by decide +kernel
theorem dG_knows_6 : decode prog_2_method_5_code 6 = .ok (.getfield 18, 3) := by decide +kernel
theorem dG_knows_9 : decode prog_2_method_5_code 9 = .ok (.if_icmp .ge 7, 3) := by decide +kernel
theorem dG_knows_12 : decode prog_2_method_5_code 12 = .ok (.iconst 1, 1) := by decide +kernel
theorem dG_knows_13 : decode prog_2_method_5_code 13 = .ok (.goto 4, 3) := by decide +kernel
theorem dG_knows_16 : decode prog_2_method_5_code 16 = .ok (.iconst 0, 1) := by decide +kernel
theorem dG_knows_17 : decode prog_2_method_5_code 17 = .ok (.ireturn, 1) := by decide +kernel
theorem dG_all_0 : decode prog_2_method_6_code 0 = .ok (.iconst 1, 1) := by decide +kernel
theorem dG_all_1 : decode prog_2_method_6_code 1 = .ok (.aload_n 0, 1) := by decide +kernel
theorem dG_all_2 : decode prog_2_method_6_code 2 = .ok (.getfield 18, 3) := by decide +kernel
theorem dG_all_5 : decode prog_2_method_6_code 5 = .ok (.ishl, 1) := by decide +kernel
theorem dG_all_6 : decode prog_2_method_6_code 6 = .ok (.iconst 1, 1) := by decide +kernel
theorem dG_all_7 : decode prog_2_method_6_code 7 = .ok (.isub, 1) := by decide +kernel
theorem dG_all_8 : decode prog_2_method_6_code 8 = .ok (.ireturn, 1) := by decide +kernel
theorem dG_bit_0 : decode prog_2_method_7_code 0 = .ok (.aload_n 0, 1) := by decide +kernel
theorem dG_bit_1 : decode prog_2_method_7_code 1 = .ok (.iload_n 1, 1) := by decide +kernel
theorem dG_bit_2 : decode prog_2_method_7_code 2 = .ok (.invokevirtual 35, 3) := by decide +kernel
theorem dG_bit_5 : decode prog_2_method_7_code 5 = .ok (.ifCond .eq 9, 3) := by decide +kernel
theorem dG_bit_8 : decode prog_2_method_7_code 8 = .ok (.iconst 1, 1) := by decide +kernel
theorem dG_bit_9 : decode prog_2_method_7_code 9 = .ok (.iload_n 1, 1) := by decide +kernel
theorem dG_bit_10 : decode prog_2_method_7_code 10 = .ok (.ishl, 1) := by decide +kernel
theorem dG_bit_11 : decode prog_2_method_7_code 11 = .ok (.goto 4, 3) := by decide +kernel
theorem dG_bit_14 : decode prog_2_method_7_code 14 = .ok (.iconst 0, 1) := by decide +kernel
theorem dG_bit_15 : decode prog_2_method_7_code 15 = .ok (.ireturn, 1) := by decide +kernel
theorem dG_twoOf_0 : decode prog_2_method_8_code 0 = .ok (.aload_n 0, 1) := by decide +kernel
theorem dG_twoOf_1 : decode prog_2_method_8_code 1 = .ok (.iload_n 1, 1) := by decide +kernel
theorem dG_twoOf_2 : decode prog_2_method_8_code 2 = .ok (.invokevirtual 39, 3) := by decide +kernel
theorem dG_twoOf_5 : decode prog_2_method_8_code 5 = .ok (.aload_n 0, 1) := by decide +kernel
theorem dG_twoOf_6 : decode prog_2_method_8_code 6 = .ok (.iload_n 2, 1) := by decide +kernel
theorem dG_twoOf_7 : decode prog_2_method_8_code 7 = .ok (.invokevirtual 39, 3) := by decide +kernel
theorem dG_twoOf_10 : decode prog_2_method_8_code 10 = .ok (.ior, 1) := by decide +kernel
theorem dG_twoOf_11 : decode prog_2_method_8_code 11 = .ok (.istore_n 3, 1) := by decide +kernel
theorem dG_twoOf_12 : decode prog_2_method_8_code 12 = .ok (.iload_n 3, 1) := by decide +kernel
theorem dG_twoOf_13 : decode prog_2_method_8_code 13 = .ok (.invokestatic 43, 3) := by decide +kernel
theorem dG_twoOf_16 : decode prog_2_method_8_code 16 = .ok (.iconst 2, 1) := by decide +kernel
theorem dG_twoOf_17 : decode prog_2_method_8_code 17 = .ok (.if_icmp .ne 7, 3) := by decide +kernel
theorem dG_twoOf_20 : decode prog_2_method_8_code 20 = .ok (.iload_n 3, 1) := by decide +kernel
theorem dG_twoOf_21 : decode prog_2_method_8_code 21 = .ok (.goto 4, 3) := by decide +kernel
theorem dG_twoOf_24 : decode prog_2_method_8_code 24 = .ok (.iconst 0, 1) := by decide +kernel
theorem dG_twoOf_25 : decode prog_2_method_8_code 25 = .ok (.ireturn, 1) := by decide +kernel
theorem dG_near_0 : decode prog_2_method_9_code 0 = .ok (.aload_n 0, 1) := by decide +kernel
theorem dG_near_1 : decode prog_2_method_9_code 1 = .ok (.iload_n 1, 1) := by decide +kernel
theorem dG_near_2 : decode prog_2_method_9_code 2 = .ok (.invokevirtual 35, 3) := by decide +kernel
theorem dG_near_5 : decode prog_2_method_9_code 5 = .ok (.ifCond .eq 12, 3) := by decide +kernel
theorem dG_near_8 : decode prog_2_method_9_code 8 = .ok (.aload_n 0, 1) := by decide +kernel
theorem dG_near_9 : decode prog_2_method_9_code 9 = .ok (.getfield 9, 3) := by decide +kernel
theorem dG_near_12 : decode prog_2_method_9_code 12 = .ok (.iload_n 1, 1) := by decide +kernel
theorem dG_near_13 : decode prog_2_method_9_code 13 = .ok (.iaload, 1) := by decide +kernel
theorem dG_near_14 : decode prog_2_method_9_code 14 = .ok (.goto 4, 3) := by decide +kernel
theorem dG_near_17 : decode prog_2_method_9_code 17 = .ok (.iconst 0, 1) := by decide +kernel
theorem dG_near_18 : decode prog_2_method_9_code 18 = .ok (.ireturn, 1) := by decide +kernel
theorem dG_joins_0 : decode prog_2_method_10_code 0 = .ok (.aload_n 0, 1) := by decide +kernel
theorem dG_joins_1 : decode prog_2_method_10_code 1 = .ok (.iload_n 1, 1) := by decide +kernel
theorem dG_joins_2 : decode prog_2_method_10_code 2 = .ok (.invokevirtual 48, 3) := by decide +kernel
theorem dG_joins_5 : decode prog_2_method_10_code 5 = .ok (.aload_n 0, 1) := by decide +kernel
theorem dG_joins_6 : decode prog_2_method_10_code 6 = .ok (.iload_n 2, 1) := by decide +kernel
theorem dG_joins_7 : decode prog_2_method_10_code 7 = .ok (.invokevirtual 39, 3) := by decide +kernel
theorem dG_joins_10 : decode prog_2_method_10_code 10 = .ok (.iand, 1) := by decide +kernel
theorem dG_joins_11 : decode prog_2_method_10_code 11 = .ok (.ifCond .eq 7, 3) := by decide +kernel
theorem dG_joins_14 : decode prog_2_method_10_code 14 = .ok (.iconst 1, 1) := by decide +kernel
theorem dG_joins_15 : decode prog_2_method_10_code 15 = .ok (.goto 4, 3) := by decide +kernel
theorem dG_joins_18 : decode prog_2_method_10_code 18 = .ok (.iconst 0, 1) := by decide +kernel
theorem dG_joins_19 : decode prog_2_method_10_code 19 = .ok (.ireturn, 1) := by decide +kernel
theorem dG_toggle_0 : decode prog_2_method_11_code 0 = .ok (.aload_n 0, 1) := by decide +kernel
theorem dG_toggle_1 : decode prog_2_method_11_code 1 = .ok (.iload_n 1, 1) := by decide +kernel
theorem dG_toggle_2 : decode prog_2_method_11_code 2 = .ok (.iload_n 2, 1) := by decide +kernel
theorem dG_toggle_3 : decode prog_2_method_11_code 3 = .ok (.invokevirtual 51, 3) := by decide +kernel
theorem dG_toggle_6 : decode prog_2_method_11_code 6 = .ok (.ifCond .ne 4, 3) := by decide +kernel
theorem dG_toggle_9 : decode prog_2_method_11_code 9 = .ok (.return_, 1) := by decide +kernel
theorem dG_toggle_10 : decode prog_2_method_11_code 10 = .ok (.aload_n 0, 1) := by decide +kernel
theorem dG_toggle_11 : decode prog_2_method_11_code 11 = .ok (.dup, 1) := by decide +kernel
theorem dG_toggle_12 : decode prog_2_method_11_code 12 = .ok (.getfield 26, 3) := by decide +kernel
theorem dG_toggle_15 : decode prog_2_method_11_code 15 = .ok (.aload_n 0, 1) := by decide +kernel
theorem dG_toggle_16 : decode prog_2_method_11_code 16 = .ok (.iload_n 1, 1) := by decide +kernel
theorem dG_toggle_17 : decode prog_2_method_11_code 17 = .ok (.iload_n 2, 1) := by decide +kernel
theorem dG_toggle_18 : decode prog_2_method_11_code 18 = .ok (.invokevirtual 54, 3) := by decide +kernel
theorem dG_toggle_21 : decode prog_2_method_11_code 21 = .ok (.ifCond .eq 7, 3) := by decide +kernel
theorem dG_toggle_24 : decode prog_2_method_11_code 24 = .ok (.iconst (-1), 1) := by decide +kernel
theorem dG_toggle_25 : decode prog_2_method_11_code 25 = .ok (.goto 4, 3) := by decide +kernel
theorem dG_toggle_28 : decode prog_2_method_11_code 28 = .ok (.iconst 1, 1) := by decide +kernel
theorem dG_toggle_29 : decode prog_2_method_11_code 29 = .ok (.iadd, 1) := by decide +kernel
theorem dG_toggle_30 : decode prog_2_method_11_code 30 = .ok (.putfield 26, 3) := by decide +kernel
theorem dG_toggle_33 : decode prog_2_method_11_code 33 = .ok (.aload_n 0, 1) := by decide +kernel
theorem dG_toggle_34 : decode prog_2_method_11_code 34 = .ok (.getfield 9, 3) := by decide +kernel
theorem dG_toggle_37 : decode prog_2_method_11_code 37 = .ok (.iload_n 1, 1) := by decide +kernel
theorem dG_toggle_38 : decode prog_2_method_11_code 38 = .ok (.dup2, 1) := by decide +kernel
theorem dG_toggle_39 : decode prog_2_method_11_code 39 = .ok (.iaload, 1) := by decide +kernel
theorem dG_toggle_40 : decode prog_2_method_11_code 40 = .ok (.iconst 1, 1) := by decide +kernel
theorem dG_toggle_41 : decode prog_2_method_11_code 41 = .ok (.iload_n 2, 1) := by decide +kernel
theorem dG_toggle_42 : decode prog_2_method_11_code 42 = .ok (.ishl, 1) := by decide +kernel
theorem dG_toggle_43 : decode prog_2_method_11_code 43 = .ok (.ixor, 1) := by decide +kernel
theorem dG_toggle_44 : decode prog_2_method_11_code 44 = .ok (.iastore, 1) := by decide +kernel
theorem dG_toggle_45 : decode prog_2_method_11_code 45 = .ok (.aload_n 0, 1) := by decide +kernel
theorem dG_toggle_46 : decode prog_2_method_11_code 46 = .ok (.getfield 9, 3) := by decide +kernel
theorem dG_toggle_49 : decode prog_2_method_11_code 49 = .ok (.iload_n 2, 1) := by decide +kernel
theorem dG_toggle_50 : decode prog_2_method_11_code 50 = .ok (.dup2, 1) := by decide +kernel
theorem dG_toggle_51 : decode prog_2_method_11_code 51 = .ok (.iaload, 1) := by decide +kernel
theorem dG_toggle_52 : decode prog_2_method_11_code 52 = .ok (.iconst 1, 1) := by decide +kernel
theorem dG_toggle_53 : decode prog_2_method_11_code 53 = .ok (.iload_n 1, 1) := by decide +kernel
theorem dG_toggle_54 : decode prog_2_method_11_code 54 = .ok (.ishl, 1) := by decide +kernel
theorem dG_toggle_55 : decode prog_2_method_11_code 55 = .ok (.ixor, 1) := by decide +kernel
theorem dG_toggle_56 : decode prog_2_method_11_code 56 = .ok (.iastore, 1) := by decide +kernel
theorem dG_toggle_57 : decode prog_2_method_11_code 57 = .ok (.return_, 1) := by decide +kernel
theorem dG_paint_0 : decode prog_2_method_12_code 0 = .ok (.iconst (-1), 1) := by decide +kernel
theorem dG_paint_1 : decode prog_2_method_12_code 1 = .ok (.istore_n 3, 1) := by decide +kernel
theorem dG_paint_2 : decode prog_2_method_12_code 2 = .ok (.iconst 0, 1) := by decide +kernel
theorem dG_paint_3 : decode prog_2_method_12_code 3 = .ok (.istore 4, 2) := by decide +kernel
theorem dG_paint_5 : decode prog_2_method_12_code 5 = .ok (.iload 4, 2) := by decide +kernel
theorem dG_paint_7 : decode prog_2_method_12_code 7 = .ok (.iconst 4, 1) := by decide +kernel
theorem dG_paint_8 : decode prog_2_method_12_code 8 = .ok (.if_icmp .ge 70, 3) := by decide +kernel
theorem dG_paint_11 : decode prog_2_method_12_code 11 = .ok (.aload_n 0, 1) := by decide +kernel
theorem dG_paint_12 : decode prog_2_method_12_code 12 = .ok (.getfield 15, 3) := by decide +kernel
theorem dG_paint_15 : decode prog_2_method_12_code 15 = .ok (.iload 4, 2) := by decide +kernel
theorem dG_paint_17 : decode prog_2_method_12_code 17 = .ok (.iaload, 1) := by decide +kernel
theorem dG_paint_18 : decode prog_2_method_12_code 18 = .ok (.iload_n 1, 1) := by decide +kernel
theorem dG_paint_19 : decode prog_2_method_12_code 19 = .ok (.invokestatic 58, 3) := by decide +kernel
theorem dG_paint_22 : decode prog_2_method_12_code 22 = .ok (.ifCond .eq 6, 3) := by decide +kernel
theorem dG_paint_25 : decode prog_2_method_12_code 25 = .ok (.iload 4, 2) := by decide +kernel
theorem dG_paint_27 : decode prog_2_method_12_code 27 = .ok (.istore_n 3, 1) := by decide +kernel
theorem dG_paint_28 : decode prog_2_method_12_code 28 = .ok (.aload_n 0, 1) := by decide +kernel
theorem dG_paint_29 : decode prog_2_method_12_code 29 = .ok (.getfield 15, 3) := by decide +kernel
theorem dG_paint_32 : decode prog_2_method_12_code 32 = .ok (.iload 4, 2) := by decide +kernel
theorem dG_paint_34 : decode prog_2_method_12_code 34 = .ok (.iload 4, 2) := by decide +kernel
theorem dG_paint_36 : decode prog_2_method_12_code 36 = .ok (.iload_n 2, 1) := by decide +kernel
theorem dG_paint_37 : decode prog_2_method_12_code 37 = .ok (.if_icmp .ne 19, 3) := by decide +kernel
theorem dG_paint_40 : decode prog_2_method_12_code 40 = .ok (.aload_n 0, 1) := by decide +kernel
theorem dG_paint_41 : decode prog_2_method_12_code 41 = .ok (.getfield 15, 3) := by decide +kernel
theorem dG_paint_44 : decode prog_2_method_12_code 44 = .ok (.iload 4, 2) := by decide +kernel
theorem dG_paint_46 : decode prog_2_method_12_code 46 = .ok (.iaload, 1) := by decide +kernel
theorem dG_paint_47 : decode prog_2_method_12_code 47 = .ok (.aload_n 0, 1) := by decide +kernel
theorem dG_paint_48 : decode prog_2_method_12_code 48 = .ok (.iload_n 1, 1) := by decide +kernel
theorem dG_paint_49 : decode prog_2_method_12_code 49 = .ok (.invokevirtual 39, 3) := by decide +kernel
theorem dG_paint_52 : decode prog_2_method_12_code 52 = .ok (.ior, 1) := by decide +kernel
theorem dG_paint_53 : decode prog_2_method_12_code 53 = .ok (.goto 18, 3) := by decide +kernel
theorem dG_paint_56 : decode prog_2_method_12_code 56 = .ok (.aload_n 0, 1) := by decide +kernel
theorem dG_paint_57 : decode prog_2_method_12_code 57 = .ok (.getfield 15, 3) := by decide +kernel
theorem dG_paint_60 : decode prog_2_method_12_code 60 = .ok (.iload 4, 2) := by decide +kernel
theorem dG_paint_62 : decode prog_2_method_12_code 62 = .ok (.iaload, 1) := by decide +kernel
theorem dG_paint_63 : decode prog_2_method_12_code 63 = .ok (.aload_n 0, 1) := by decide +kernel
theorem dG_paint_64 : decode prog_2_method_12_code 64 = .ok (.iload_n 1, 1) := by decide +kernel
theorem dG_paint_65 : decode prog_2_method_12_code 65 = .ok (.invokevirtual 39, 3) := by decide +kernel
theorem dG_paint_68 : decode prog_2_method_12_code 68 = .ok (.iconst (-1), 1) := by decide +kernel
theorem dG_paint_69 : decode prog_2_method_12_code 69 = .ok (.ixor, 1) := by decide +kernel
theorem dG_paint_70 : decode prog_2_method_12_code 70 = .ok (.iand, 1) := by decide +kernel
theorem dG_paint_71 : decode prog_2_method_12_code 71 = .ok (.iastore, 1) := by decide +kernel
theorem dG_paint_72 : decode prog_2_method_12_code 72 = .ok (.iinc 4 1, 3) := by decide +kernel
theorem dG_paint_75 : decode prog_2_method_12_code 75 = .ok (.goto (-70), 3) := by decide +kernel
theorem dG_paint_78 : decode prog_2_method_12_code 78 = .ok (.iload_n 3, 1) := by decide +kernel
theorem dG_paint_79 : decode prog_2_method_12_code 79 = .ok (.ireturn, 1) := by decide +kernel
theorem dG_ofColours_0 : decode prog_2_method_13_code 0 = .ok (.iconst 0, 1) := by decide +kernel
theorem dG_ofColours_1 : decode prog_2_method_13_code 1 = .ok (.istore_n 2, 1) := by decide +kernel
theorem dG_ofColours_2 : decode prog_2_method_13_code 2 = .ok (.iconst 0, 1) := by decide +kernel
theorem dG_ofColours_3 : decode prog_2_method_13_code 3 = .ok (.istore_n 3, 1) := by decide +kernel
theorem dG_ofColours_4 : decode prog_2_method_13_code 4 = .ok (.iload_n 3, 1) := by decide +kernel
theorem dG_ofColours_5 : decode prog_2_method_13_code 5 = .ok (.iconst 4, 1) := by decide +kernel
theorem dG_ofColours_6 : decode prog_2_method_13_code 6 = .ok (.if_icmp .ge 26, 3) := by decide +kernel
theorem dG_ofColours_9 : decode prog_2_method_13_code 9 = .ok (.iload_n 1, 1) := by decide +kernel
theorem dG_ofColours_10 : decode prog_2_method_13_code 10 = .ok (.iload_n 3, 1) := by decide +kernel
theorem dG_ofColours_11 : decode prog_2_method_13_code 11 = .ok (.invokestatic 58, 3) := by decide +kernel
theorem dG_ofColours_14 : decode prog_2_method_13_code 14 = .ok (.ifCond .eq 12, 3) := by decide +kernel
theorem dG_ofColours_17 : decode prog_2_method_13_code 17 = .ok (.iload_n 2, 1) := by decide +kernel
theorem dG_ofColours_18 : decode prog_2_method_13_code 18 = .ok (.aload_n 0, 1) := by decide +kernel
theorem dG_ofColours_19 : decode prog_2_method_13_code 19 = .ok (.getfield 15, 3) := by decide +kernel
theorem dG_ofColours_22 : decode prog_2_method_13_code 22 = .ok (.iload_n 3, 1) := by decide +kernel
theorem dG_ofColours_23 : decode prog_2_method_13_code 23 = .ok (.iaload, 1) := by decide +kernel
theorem dG_ofColours_24 : decode prog_2_method_13_code 24 = .ok (.ior, 1) := by decide +kernel
theorem dG_ofColours_25 : decode prog_2_method_13_code 25 = .ok (.istore_n 2, 1) := by decide +kernel
theorem dG_ofColours_26 : decode prog_2_method_13_code 26 = .ok (.iinc 3 1, 3) := by decide +kernel
theorem dG_ofColours_29 : decode prog_2_method_13_code 29 = .ok (.goto (-25), 3) := by decide +kernel
theorem dG_ofColours_32 : decode prog_2_method_13_code 32 = .ok (.iload_n 2, 1) := by decide +kernel
theorem dG_ofColours_33 : decode prog_2_method_13_code 33 = .ok (.ireturn, 1) := by decide +kernel
theorem dG_coloursDiffer_0 : decode prog_2_method_14_code 0 = .ok (.iconst 0, 1) := by decide +kernel
theorem dG_coloursDiffer_1 : decode prog_2_method_14_code 1 = .ok (.istore_n 2, 1) := by decide +kernel
theorem dG_coloursDiffer_2 : decode prog_2_method_14_code 2 = .ok (.iload_n 2, 1) := by decide +kernel
theorem dG_coloursDiffer_3 : decode prog_2_method_14_code 3 = .ok (.iconst 4, 1) := by decide +kernel
theorem dG_coloursDiffer_4 : decode prog_2_method_14_code 4 = .ok (.if_icmp .ge 26, 3) := by decide +kernel
theorem dG_coloursDiffer_7 : decode prog_2_method_14_code 7 = .ok (.iload_n 1, 1) := by decide +kernel
theorem dG_coloursDiffer_8 : decode prog_2_method_14_code 8 = .ok (.aload_n 0, 1) := by decide +kernel
theorem dG_coloursDiffer_9 : decode prog_2_method_14_code 9 = .ok (.getfield 15, 3) := by decide +kernel
theorem dG_coloursDiffer_12 : decode prog_2_method_14_code 12 = .ok (.iload_n 2, 1) := by decide +kernel
theorem dG_coloursDiffer_13 : decode prog_2_method_14_code 13 = .ok (.iaload, 1) := by decide +kernel
theorem dG_coloursDiffer_14 : decode prog_2_method_14_code 14 = .ok (.iand, 1) := by decide +kernel
theorem dG_coloursDiffer_15 : decode prog_2_method_14_code 15 = .ok (.invokestatic 43, 3) := by decide +kernel
theorem dG_coloursDiffer_18 : decode prog_2_method_14_code 18 = .ok (.iconst 1, 1) := by decide +kernel
theorem dG_coloursDiffer_19 : decode prog_2_method_14_code 19 = .ok (.if_icmp .le 5, 3) := by decide +kernel
theorem dG_coloursDiffer_22 : decode prog_2_method_14_code 22 = .ok (.iconst 0, 1) := by decide +kernel
theorem dG_coloursDiffer_23 : decode prog_2_method_14_code 23 = .ok (.ireturn, 1) := by decide +kernel
theorem dG_coloursDiffer_24 : decode prog_2_method_14_code 24 = .ok (.iinc 2 1, 3) := by decide +kernel
theorem dG_coloursDiffer_27 : decode prog_2_method_14_code 27 = .ok (.goto (-25), 3) := by decide +kernel
theorem dG_coloursDiffer_30 : decode prog_2_method_14_code 30 = .ok (.iconst 1, 1) := by decide +kernel
theorem dG_coloursDiffer_31 : decode prog_2_method_14_code 31 = .ok (.ireturn, 1) := by decide +kernel
theorem dG_degreeIn_0 : decode prog_2_method_15_code 0 = .ok (.aload_n 0, 1) := by decide +kernel
theorem dG_degreeIn_1 : decode prog_2_method_15_code 1 = .ok (.iload_n 1, 1) := by decide +kernel
theorem dG_degreeIn_2 : decode prog_2_method_15_code 2 = .ok (.invokevirtual 48, 3) := by decide +kernel
theorem dG_degreeIn_5 : decode prog_2_method_15_code 5 = .ok (.iload_n 2, 1) := by decide +kernel
theorem dG_degreeIn_6 : decode prog_2_method_15_code 6 = .ok (.iand, 1) := by decide +kernel
theorem dG_degreeIn_7 : decode prog_2_method_15_code 7 = .ok (.invokestatic 43, 3) := by decide +kernel
theorem dG_degreeIn_10 : decode prog_2_method_15_code 10 = .ok (.ireturn, 1) := by decide +kernel
theorem dG_edgesIn_0 : decode prog_2_method_16_code 0 = .ok (.iconst 0, 1) := by decide +kernel
theorem dG_edgesIn_1 : decode prog_2_method_16_code 1 = .ok (.istore_n 2, 1) := by decide +kernel
theorem dG_edgesIn_2 : decode prog_2_method_16_code 2 = .ok (.iconst 0, 1) := by decide +kernel
theorem dG_edgesIn_3 : decode prog_2_method_16_code 3 = .ok (.istore_n 3, 1) := by decide +kernel
theorem dG_edgesIn_4 : decode prog_2_method_16_code 4 = .ok (.iload_n 3, 1) := by decide +kernel
theorem dG_edgesIn_5 : decode prog_2_method_16_code 5 = .ok (.aload_n 0, 1) := by decide +kernel
theorem dG_edgesIn_6 : decode prog_2_method_16_code 6 = .ok (.getfield 18, 3) := by decide +kernel
theorem dG_edgesIn_9 : decode prog_2_method_16_code 9 = .ok (.if_icmp .ge 26, 3) := by decide +kernel
theorem dG_edgesIn_12 : decode prog_2_method_16_code 12 = .ok (.iload_n 1, 1) := by decide +kernel
theorem dG_edgesIn_13 : decode prog_2_method_16_code 13 = .ok (.iload_n 3, 1) := by decide +kernel
theorem dG_edgesIn_14 : decode prog_2_method_16_code 14 = .ok (.invokestatic 58, 3) := by decide +kernel
theorem dG_edgesIn_17 : decode prog_2_method_16_code 17 = .ok (.ifCond .eq 12, 3) := by decide +kernel
theorem dG_edgesIn_20 : decode prog_2_method_16_code 20 = .ok (.iload_n 2, 1) := by decide +kernel
theorem dG_edgesIn_21 : decode prog_2_method_16_code 21 = .ok (.aload_n 0, 1) := by decide +kernel
theorem dG_edgesIn_22 : decode prog_2_method_16_code 22 = .ok (.iload_n 3, 1) := by decide +kernel
theorem dG_edgesIn_23 : decode prog_2_method_16_code 23 = .ok (.iload_n 1, 1) := by decide +kernel
theorem dG_edgesIn_24 : decode prog_2_method_16_code 24 = .ok (.invokevirtual 61, 3) := by decide +kernel
theorem dG_edgesIn_27 : decode prog_2_method_16_code 27 = .ok (.iadd, 1) := by decide +kernel
theorem dG_edgesIn_28 : decode prog_2_method_16_code 28 = .ok (.istore_n 2, 1) := by decide +kernel
theorem dG_edgesIn_29 : decode prog_2_method_16_code 29 = .ok (.iinc 3 1, 3) := by decide +kernel
theorem dG_edgesIn_32 : decode prog_2_method_16_code 32 = .ok (.goto (-28), 3) := by decide +kernel
theorem dG_edgesIn_35 : decode prog_2_method_16_code 35 = .ok (.iload_n 2, 1) := by decide +kernel
theorem dG_edgesIn_36 : decode prog_2_method_16_code 36 = .ok (.iconst 2, 1) := by decide +kernel
theorem dG_edgesIn_37 : decode prog_2_method_16_code 37 = .ok (.idiv, 1) := by decide +kernel
theorem dG_edgesIn_38 : decode prog_2_method_16_code 38 = .ok (.ireturn, 1) := by decide +kernel
theorem dG_sortOf_0 : decode prog_2_method_17_code 0 = .ok (.iconst 0, 1) := by decide +kernel
theorem dG_sortOf_1 : decode prog_2_method_17_code 1 = .ok (.istore_n 2, 1) := by decide +kernel
theorem dG_sortOf_2 : decode prog_2_method_17_code 2 = .ok (.iconst 0, 1) := by decide +kernel
theorem dG_sortOf_3 : decode prog_2_method_17_code 3 = .ok (.istore_n 3, 1) := by decide +kernel
theorem dG_sortOf_4 : decode prog_2_method_17_code 4 = .ok (.iload_n 3, 1) := by decide +kernel
theorem dG_sortOf_5 : decode prog_2_method_17_code 5 = .ok (.bipush 14, 2) := by decide +kernel
theorem dG_sortOf_7 : decode prog_2_method_17_code 7 = .ok (.if_icmp .ge 30, 3) := by decide +kernel
theorem dG_sortOf_10 : decode prog_2_method_17_code 10 = .ok (.iload_n 1, 1) := by decide +kernel
theorem dG_sortOf_11 : decode prog_2_method_17_code 11 = .ok (.iload_n 3, 1) := by decide +kernel
theorem dG_sortOf_12 : decode prog_2_method_17_code 12 = .ok (.invokestatic 58, 3) := by decide +kernel
theorem dG_sortOf_15 : decode prog_2_method_17_code 15 = .ok (.ifCond .eq 16, 3) := by decide +kernel
theorem dG_sortOf_18 : decode prog_2_method_17_code 18 = .ok (.iload_n 2, 1) := by decide +kernel
theorem dG_sortOf_19 : decode prog_2_method_17_code 19 = .ok (.iconst 1, 1) := by decide +kernel
theorem dG_sortOf_20 : decode prog_2_method_17_code 20 = .ok (.iconst 4, 1) := by decide +kernel
theorem dG_sortOf_21 : decode prog_2_method_17_code 21 = .ok (.aload_n 0, 1) := by decide +kernel
theorem dG_sortOf_22 : decode prog_2_method_17_code 22 = .ok (.iload_n 3, 1) := by decide +kernel
theorem dG_sortOf_23 : decode prog_2_method_17_code 23 = .ok (.iload_n 1, 1) := by decide +kernel
theorem dG_sortOf_24 : decode prog_2_method_17_code 24 = .ok (.invokevirtual 61, 3) := by decide +kernel
theorem dG_sortOf_27 : decode prog_2_method_17_code 27 = .ok (.imul, 1) := by decide +kernel
theorem dG_sortOf_28 : decode prog_2_method_17_code 28 = .ok (.ishl, 1) := by decide +kernel
theorem dG_sortOf_29 : decode prog_2_method_17_code 29 = .ok (.iadd, 1) := by decide +kernel
theorem dG_sortOf_30 : decode prog_2_method_17_code 30 = .ok (.istore_n 2, 1) := by decide +kernel
theorem dG_sortOf_31 : decode prog_2_method_17_code 31 = .ok (.iinc 3 1, 3) := by decide +kernel
theorem dG_sortOf_34 : decode prog_2_method_17_code 34 = .ok (.goto (-30), 3) := by decide +kernel
theorem dG_sortOf_37 : decode prog_2_method_17_code 37 = .ok (.iconst 0, 1) := by decide +kernel
theorem dG_sortOf_38 : decode prog_2_method_17_code 38 = .ok (.istore_n 3, 1) := by decide +kernel
theorem dG_sortOf_39 : decode prog_2_method_17_code 39 = .ok (.iconst 3, 1) := by decide +kernel
theorem dG_sortOf_40 : decode prog_2_method_17_code 40 = .ok (.istore 4, 2) := by decide +kernel
theorem dG_sortOf_42 : decode prog_2_method_17_code 42 = .ok (.iload 4, 2) := by decide +kernel
theorem dG_sortOf_44 : decode prog_2_method_17_code 44 = .ok (.ifCond .lt 39, 3) := by decide +kernel
theorem dG_sortOf_47 : decode prog_2_method_17_code 47 = .ok (.iload_n 2, 1) := by decide +kernel
theorem dG_sortOf_48 : decode prog_2_method_17_code 48 = .ok (.iconst 4, 1) := by decide +kernel
theorem dG_sortOf_49 : decode prog_2_method_17_code 49 = .ok (.iload 4, 2) := by decide +kernel
theorem dG_sortOf_51 : decode prog_2_method_17_code 51 = .ok (.imul, 1) := by decide +kernel
theorem dG_sortOf_52 : decode prog_2_method_17_code 52 = .ok (.ishr, 1) := by decide +kernel
theorem dG_sortOf_53 : decode prog_2_method_17_code 53 = .ok (.bipush 15, 2) := by decide +kernel
theorem dG_sortOf_55 : decode prog_2_method_17_code 55 = .ok (.iand, 1) := by decide +kernel
theorem dG_sortOf_56 : decode prog_2_method_17_code 56 = .ok (.istore 5, 2) := by decide +kernel
theorem dG_sortOf_58 : decode prog_2_method_17_code 58 = .ok (.iload 5, 2) := by decide +kernel
theorem dG_sortOf_60 : decode prog_2_method_17_code 60 = .ok (.ifCond .le 17, 3) := by decide +kernel
theorem dG_sortOf_63 : decode prog_2_method_17_code 63 = .ok (.iload_n 3, 1) := by decide +kernel
theorem dG_sortOf_64 : decode prog_2_method_17_code 64 = .ok (.bipush 10, 2) := by decide +kernel
theorem dG_sortOf_66 : decode prog_2_method_17_code 66 = .ok (.imul, 1) := by decide +kernel
theorem dG_sortOf_67 : decode prog_2_method_17_code 67 = .ok (.iload 4, 2) := by decide +kernel
theorem dG_sortOf_69 : decode prog_2_method_17_code 69 = .ok (.iadd, 1) := by decide +kernel
theorem dG_sortOf_70 : decode prog_2_method_17_code 70 = .ok (.istore_n 3, 1) := by decide +kernel
theorem dG_sortOf_71 : decode prog_2_method_17_code 71 = .ok (.iinc 5 (-1), 3) := by decide +kernel
theorem dG_sortOf_74 : decode prog_2_method_17_code 74 = .ok (.goto (-16), 3) := by decide +kernel
theorem dG_sortOf_77 : decode prog_2_method_17_code 77 = .ok (.iinc 4 (-1), 3) := by decide +kernel
theorem dG_sortOf_80 : decode prog_2_method_17_code 80 = .ok (.goto (-38), 3) := by decide +kernel
theorem dG_sortOf_83 : decode prog_2_method_17_code 83 = .ok (.iload_n 3, 1) := by decide +kernel
theorem dG_sortOf_84 : decode prog_2_method_17_code 84 = .ok (.ireturn, 1) := by decide +kernel
theorem dS_init_0 : decode prog_4_method_1_code 0 = .ok (.aload_n 0, 1) := by decide +kernel
theorem dS_init_1 : decode prog_4_method_1_code 1 = .ok (.invokespecial 3, 3) := by decide +kernel
theorem dS_init_4 : decode prog_4_method_1_code 4 = .ok (.aload_n 0, 1) := by decide +kernel
theorem dS_init_5 : decode prog_4_method_1_code 5 = .ok (.aload_n 1, 1) := by decide +kernel
theorem dS_init_6 : decode prog_4_method_1_code 6 = .ok (.putfield 9, 3) := by decide +kernel
theorem dS_init_9 : decode prog_4_method_1_code 9 = .ok (.aload_n 0, 1) := by decide +kernel
theorem dS_init_10 : decode prog_4_method_1_code 10 = .ok (.aload 4, 2) := by decide +kernel
theorem dS_init_12 : decode prog_4_method_1_code 12 = .ok (.putfield 15, 3) := by decide +kernel
theorem dS_init_15 : decode prog_4_method_1_code 15 = .ok (.aload_n 0, 1) := by decide +kernel
theorem dS_init_16 : decode prog_4_method_1_code 16 = .ok (.iload_n 3, 1) := by decide +kernel
theorem dS_init_17 : decode prog_4_method_1_code 17 = .ok (.newarray .int, 2) := by decide +kernel
theorem dS_init_19 : decode prog_4_method_1_code 19 = .ok (.putfield 19, 3) := by decide +kernel
theorem dS_init_22 : decode prog_4_method_1_code 22 = .ok (.aload_n 0, 1) := by decide +kernel
theorem dS_init_23 : decode prog_4_method_1_code 23 = .ok (.iload_n 3, 1) := by decide +kernel
theorem dS_init_24 : decode prog_4_method_1_code 24 = .ok (.newarray .int, 2) := by decide +kernel
theorem dS_init_26 : decode prog_4_method_1_code 26 = .ok (.putfield 22, 3) := by decide +kernel
theorem dS_init_29 : decode prog_4_method_1_code 29 = .ok (.aload_n 0, 1) := by decide +kernel
theorem dS_init_30 : decode prog_4_method_1_code 30 = .ok (.aload 4, 2) := by decide +kernel
theorem dS_init_32 : decode prog_4_method_1_code 32 = .ok (.arraylength, 1) := by decide +kernel
theorem dS_init_33 : decode prog_4_method_1_code 33 = .ok (.iconst 4, 1) := by decide +kernel
theorem dS_init_34 : decode prog_4_method_1_code 34 = .ok (.imul, 1) := by decide +kernel
theorem dS_init_35 : decode prog_4_method_1_code 35 = .ok (.newarray .int, 2) := by decide +kernel
theorem dS_init_37 : decode prog_4_method_1_code 37 = .ok (.putfield 25, 3) := by decide +kernel
theorem dS_init_40 : decode prog_4_method_1_code 40 = .ok (.aload_n 0, 1) := by decide +kernel
theorem dS_init_41 : decode prog_4_method_1_code 41 = .ok (.getfield 19, 3) := by decide +kernel
theorem dS_init_44 : decode prog_4_method_1_code 44 = .ok (.iconst 0, 1) := by decide +kernel
theorem dS_init_45 : decode prog_4_method_1_code 45 = .ok (.iconst 0, 1) := by decide +kernel
theorem dS_init_46 : decode prog_4_method_1_code 46 = .ok (.iconst 0, 1) := by decide +kernel
theorem dS_init_47 : decode prog_4_method_1_code 47 = .ok (.iload_n 2, 1) := by decide +kernel
theorem dS_init_48 : decode prog_4_method_1_code 48 = .ok (.invokestatic 28, 3) := by decide +kernel
theorem dS_init_51 : decode prog_4_method_1_code 51 = .ok (.pop, 1) := by decide +kernel
theorem dS_init_52 : decode prog_4_method_1_code 52 = .ok (.return_, 1) := by decide +kernel
theorem dS_fill_0 : decode prog_4_method_2_code 0 = .ok (.iload 4, 2) := by decide +kernel
theorem dS_fill_2 : decode prog_4_method_2_code 2 = .ok (.ifCond .gt 17, 3) := by decide +kernel
theorem dS_fill_5 : decode prog_4_method_2_code 5 = .ok (.iload_n 1, 1) := by decide +kernel
theorem dS_fill_6 : decode prog_4_method_2_code 6 = .ok (.aload_n 0, 1) := by decide +kernel
theorem dS_fill_7 : decode prog_4_method_2_code 7 = .ok (.arraylength, 1) := by decide +kernel
theorem dS_fill_8 : decode prog_4_method_2_code 8 = .ok (.if_icmp .ge 7, 3) := by decide +kernel
theorem dS_fill_11 : decode prog_4_method_2_code 11 = .ok (.aload_n 0, 1) := by decide +kernel
theorem dS_fill_12 : decode prog_4_method_2_code 12 = .ok (.iload_n 1, 1) := by decide +kernel
theorem dS_fill_13 : decode prog_4_method_2_code 13 = .ok (.iload_n 2, 1) := by decide +kernel
theorem dS_fill_14 : decode prog_4_method_2_code 14 = .ok (.iastore, 1) := by decide +kernel
theorem dS_fill_15 : decode prog_4_method_2_code 15 = .ok (.iload_n 1, 1) := by decide +kernel
theorem dS_fill_16 : decode prog_4_method_2_code 16 = .ok (.iconst 1, 1) := by decide +kernel
theorem dS_fill_17 : decode prog_4_method_2_code 17 = .ok (.iadd, 1) := by decide +kernel
theorem dS_fill_18 : decode prog_4_method_2_code 18 = .ok (.ireturn, 1) := by decide +kernel
theorem dS_fill_19 : decode prog_4_method_2_code 19 = .ok (.iload_n 1, 1) := by decide +kernel
theorem dS_fill_20 : decode prog_4_method_2_code 20 = .ok (.istore 5, 2) := by decide +kernel
theorem dS_fill_22 : decode prog_4_method_2_code 22 = .ok (.iload_n 3, 1) := by decide +kernel
theorem dS_fill_23 : decode prog_4_method_2_code 23 = .ok (.istore 6, 2) := by decide +kernel
theorem dS_fill_25 : decode prog_4_method_2_code 25 = .ok (.iload 6, 2) := by decide +kernel
theorem dS_fill_27 : decode prog_4_method_2_code 27 = .ok (.bipush 14, 2) := by decide +kernel
theorem dS_fill_29 : decode prog_4_method_2_code 29 = .ok (.if_icmp .ge 31, 3) := by decide +kernel
theorem dS_fill_32 : decode prog_4_method_2_code 32 = .ok (.aload_n 0, 1) := by decide +kernel
theorem dS_fill_33 : decode prog_4_method_2_code 33 = .ok (.iload 5, 2) := by decide +kernel
theorem dS_fill_35 : decode prog_4_method_2_code 35 = .ok (.iload_n 2, 1) := by decide +kernel
theorem dS_fill_36 : decode prog_4_method_2_code 36 = .ok (.iconst 1, 1) := by decide +kernel
theorem dS_fill_37 : decode prog_4_method_2_code 37 = .ok (.iload 6, 2) := by decide +kernel
theorem dS_fill_39 : decode prog_4_method_2_code 39 = .ok (.ishl, 1) := by decide +kernel
theorem dS_fill_40 : decode prog_4_method_2_code 40 = .ok (.ior, 1) := by decide +kernel
theorem dS_fill_41 : decode prog_4_method_2_code 41 = .ok (.iload 6, 2) := by decide +kernel
theorem dS_fill_43 : decode prog_4_method_2_code 43 = .ok (.iconst 1, 1) := by decide +kernel
theorem dS_fill_44 : decode prog_4_method_2_code 44 = .ok (.iadd, 1) := by decide +kernel
theorem dS_fill_45 : decode prog_4_method_2_code 45 = .ok (.iload 4, 2) := by decide +kernel
theorem dS_fill_47 : decode prog_4_method_2_code 47 = .ok (.iconst 1, 1) := by decide +kernel
theorem dS_fill_48 : decode prog_4_method_2_code 48 = .ok (.isub, 1) := by decide +kernel
theorem dS_fill_49 : decode prog_4_method_2_code 49 = .ok (.invokestatic 28, 3) := by decide +kernel
theorem dS_fill_52 : decode prog_4_method_2_code 52 = .ok (.istore 5, 2) := by decide +kernel
theorem dS_fill_54 : decode prog_4_method_2_code 54 = .ok (.iinc 6 1, 3) := by decide +kernel
theorem dS_fill_57 : decode prog_4_method_2_code 57 = .ok (.goto (-32), 3) := by decide +kernel
theorem dS_fill_60 : decode prog_4_method_2_code 60 = .ok (.iload 5, 2) := by decide +kernel
theorem dS_fill_62 : decode prog_4_method_2_code 62 = .ok (.ireturn, 1) := by decide +kernel
theorem dS_placeOfSort_0 : decode prog_4_method_3_code 0 = .ok (.iconst 0, 1) := by decide +kernel
theorem dS_placeOfSort_1 : decode prog_4_method_3_code 1 = .ok (.istore_n 2, 1) := by decide +kernel
theorem dS_placeOfSort_2 : decode prog_4_method_3_code 2 = .ok (.iload_n 2, 1) := by decide +kernel
theorem dS_placeOfSort_3 : decode prog_4_method_3_code 3 = .ok (.aload_n 0, 1) := by decide +kernel
theorem dS_placeOfSort_4 : decode prog_4_method_3_code 4 = .ok (.getfield 15, 3) := by decide +kernel
theorem dS_placeOfSort_7 : decode prog_4_method_3_code 7 = .ok (.arraylength, 1) := by decide +kernel
theorem dS_placeOfSort_8 : decode prog_4_method_3_code 8 = .ok (.if_icmp .ge 21, 3) := by decide +kernel
theorem dS_placeOfSort_11 : decode prog_4_method_3_code 11 = .ok (.aload_n 0, 1) := by decide +kernel
theorem dS_placeOfSort_12 : decode prog_4_method_3_code 12 = .ok (.getfield 15, 3) := by decide +kernel
theorem dS_placeOfSort_15 : decode prog_4_method_3_code 15 = .ok (.iload_n 2, 1) := by decide +kernel
theorem dS_placeOfSort_16 : decode prog_4_method_3_code 16 = .ok (.iaload, 1) := by decide +kernel
theorem dS_placeOfSort_17 : decode prog_4_method_3_code 17 = .ok (.iload_n 1, 1) := by decide +kernel
theorem dS_placeOfSort_18 : decode prog_4_method_3_code 18 = .ok (.if_icmp .ne 5, 3) := by decide +kernel
theorem dS_placeOfSort_21 : decode prog_4_method_3_code 21 = .ok (.iload_n 2, 1) := by decide +kernel
theorem dS_placeOfSort_22 : decode prog_4_method_3_code 22 = .ok (.ireturn, 1) := by decide +kernel
theorem dS_placeOfSort_23 : decode prog_4_method_3_code 23 = .ok (.iinc 2 1, 3) := by decide +kernel
theorem dS_placeOfSort_26 : decode prog_4_method_3_code 26 = .ok (.goto (-24), 3) := by decide +kernel
theorem dS_placeOfSort_29 : decode prog_4_method_3_code 29 = .ok (.iconst (-1), 1) := by decide +kernel
theorem dS_placeOfSort_30 : decode prog_4_method_3_code 30 = .ok (.ireturn, 1) := by decide +kernel
theorem dS_forgetEdges_0 : decode prog_4_method_4_code 0 = .ok (.aload_n 0, 1) := by decide +kernel
theorem dS_forgetEdges_1 : decode prog_4_method_4_code 1 = .ok (.getfield 22, 3) := by decide +kernel
theorem dS_forgetEdges_4 : decode prog_4_method_4_code 4 = .ok (.iconst 0, 1) := by decide +kernel
theorem dS_forgetEdges_5 : decode prog_4_method_4_code 5 = .ok (.invokestatic 32, 3) := by decide +kernel
theorem dS_forgetEdges_8 : decode prog_4_method_4_code 8 = .ok (.return_, 1) := by decide +kernel
theorem dS_sortAgain_0 : decode prog_4_method_5_code 0 = .ok (.iconst 0, 1) := by decide +kernel
theorem dS_sortAgain_1 : decode prog_4_method_5_code 1 = .ok (.istore_n 2, 1) := by decide +kernel
theorem dS_sortAgain_2 : decode prog_4_method_5_code 2 = .ok (.iload_n 2, 1) := by decide +kernel
theorem dS_sortAgain_3 : decode prog_4_method_5_code 3 = .ok (.aload_n 0, 1) := by decide +kernel
theorem dS_sortAgain_4 : decode prog_4_method_5_code 4 = .ok (.getfield 19, 3) := by decide +kernel
theorem dS_sortAgain_7 : decode prog_4_method_5_code 7 = .ok (.arraylength, 1) := by decide +kernel
theorem dS_sortAgain_8 : decode prog_4_method_5_code 8 = .ok (.if_icmp .ge 40, 3) := by decide +kernel
theorem dS_sortAgain_11 : decode prog_4_method_5_code 11 = .ok (.aload_n 0, 1) := by decide +kernel
theorem dS_sortAgain_12 : decode prog_4_method_5_code 12 = .ok (.getfield 19, 3) := by decide +kernel
theorem dS_sortAgain_15 : decode prog_4_method_5_code 15 = .ok (.iload_n 2, 1) := by decide +kernel
theorem dS_sortAgain_16 : decode prog_4_method_5_code 16 = .ok (.iaload, 1) := by decide +kernel
theorem dS_sortAgain_17 : decode prog_4_method_5_code 17 = .ok (.iload_n 1, 1) := by decide +kernel
theorem dS_sortAgain_18 : decode prog_4_method_5_code 18 = .ok (.iand, 1) := by decide +kernel
theorem dS_sortAgain_19 : decode prog_4_method_5_code 19 = .ok (.iload_n 1, 1) := by decide +kernel
theorem dS_sortAgain_20 : decode prog_4_method_5_code 20 = .ok (.if_icmp .ne 22, 3) := by decide +kernel
theorem dS_sortAgain_23 : decode prog_4_method_5_code 23 = .ok (.aload_n 0, 1) := by decide +kernel
theorem dS_sortAgain_24 : decode prog_4_method_5_code 24 = .ok (.getfield 22, 3) := by decide +kernel
theorem dS_sortAgain_27 : decode prog_4_method_5_code 27 = .ok (.iload_n 2, 1) := by decide +kernel
theorem dS_sortAgain_28 : decode prog_4_method_5_code 28 = .ok (.aload_n 0, 1) := by decide +kernel
theorem dS_sortAgain_29 : decode prog_4_method_5_code 29 = .ok (.getfield 9, 3) := by decide +kernel
theorem dS_sortAgain_32 : decode prog_4_method_5_code 32 = .ok (.aload_n 0, 1) := by decide +kernel
theorem dS_sortAgain_33 : decode prog_4_method_5_code 33 = .ok (.getfield 19, 3) := by decide +kernel
theorem dS_sortAgain_36 : decode prog_4_method_5_code 36 = .ok (.iload_n 2, 1) := by decide +kernel
theorem dS_sortAgain_37 : decode prog_4_method_5_code 37 = .ok (.iaload, 1) := by decide +kernel
theorem dS_sortAgain_38 : decode prog_4_method_5_code 38 = .ok (.invokevirtual 37, 3) := by decide +kernel
theorem dS_sortAgain_41 : decode prog_4_method_5_code 41 = .ok (.iastore, 1) := by decide +kernel
theorem dS_sortAgain_42 : decode prog_4_method_5_code 42 = .ok (.iinc 2 1, 3) := by decide +kernel
theorem dS_sortAgain_45 : decode prog_4_method_5_code 45 = .ok (.goto (-43), 3) := by decide +kernel
theorem dS_sortAgain_48 : decode prog_4_method_5_code 48 = .ok (.return_, 1) := by decide +kernel
theorem dS_isAmong_0 : decode prog_4_method_6_code 0 = .ok (.iload_n 0, 1) := by decide +kernel
theorem dS_isAmong_1 : decode prog_4_method_6_code 1 = .ok (.iload_n 1, 1) := by decide +kernel
theorem dS_isAmong_2 : decode prog_4_method_6_code 2 = .ok (.iconst (-1), 1) := by decide +kernel
theorem dS_isAmong_3 : decode prog_4_method_6_code 3 = .ok (.ixor, 1) := by decide +kernel
theorem dS_isAmong_4 : decode prog_4_method_6_code 4 = .ok (.iand, 1) := by decide +kernel
theorem dS_isAmong_5 : decode prog_4_method_6_code 5 = .ok (.ifCond .ne 7, 3) := by decide +kernel
theorem dS_isAmong_8 : decode prog_4_method_6_code 8 = .ok (.iconst 1, 1) := by decide +kernel
theorem dS_isAmong_9 : decode prog_4_method_6_code 9 = .ok (.goto 4, 3) := by decide +kernel
theorem dS_isAmong_12 : decode prog_4_method_6_code 12 = .ok (.iconst 0, 1) := by decide +kernel
theorem dS_isAmong_13 : decode prog_4_method_6_code 13 = .ok (.ireturn, 1) := by decide +kernel
theorem dS_tally_0 : decode prog_4_method_7_code 0 = .ok (.iconst 0, 1) := by decide +kernel
theorem dS_tally_1 : decode prog_4_method_7_code 1 = .ok (.istore 4, 2) := by decide +kernel
theorem dS_tally_3 : decode prog_4_method_7_code 3 = .ok (.iconst 0, 1) := by decide +kernel
theorem dS_tally_4 : decode prog_4_method_7_code 4 = .ok (.istore 5, 2) := by decide +kernel
theorem dS_tally_6 : decode prog_4_method_7_code 6 = .ok (.iload 5, 2) := by decide +kernel
theorem dS_tally_8 : decode prog_4_method_7_code 8 = .ok (.aload_n 0, 1) := by decide +kernel
theorem dS_tally_9 : decode prog_4_method_7_code 9 = .ok (.getfield 19, 3) := by decide +kernel
theorem dS_tally_12 : decode prog_4_method_7_code 12 = .ok (.arraylength, 1) := by decide +kernel
theorem dS_tally_13 : decode prog_4_method_7_code 13 = .ok (.if_icmp .ge 50, 3) := by decide +kernel
theorem dS_tally_16 : decode prog_4_method_7_code 16 = .ok (.aload_n 0, 1) := by decide +kernel
theorem dS_tally_17 : decode prog_4_method_7_code 17 = .ok (.getfield 22, 3) := by decide +kernel
theorem dS_tally_20 : decode prog_4_method_7_code 20 = .ok (.iload 5, 2) := by decide +kernel
theorem dS_tally_22 : decode prog_4_method_7_code 22 = .ok (.iaload, 1) := by decide +kernel
theorem dS_tally_23 : decode prog_4_method_7_code 23 = .ok (.iload_n 1, 1) := by decide +kernel
theorem dS_tally_24 : decode prog_4_method_7_code 24 = .ok (.if_icmp .ne 33, 3) := by decide +kernel
theorem dS_tally_27 : decode prog_4_method_7_code 27 = .ok (.aload_n 0, 1) := by decide +kernel
theorem dS_tally_28 : decode prog_4_method_7_code 28 = .ok (.getfield 19, 3) := by decide +kernel
theorem dS_tally_31 : decode prog_4_method_7_code 31 = .ok (.iload 5, 2) := by decide +kernel
theorem dS_tally_33 : decode prog_4_method_7_code 33 = .ok (.iaload, 1) := by decide +kernel
theorem dS_tally_34 : decode prog_4_method_7_code 34 = .ok (.iload_n 2, 1) := by decide +kernel
theorem dS_tally_35 : decode prog_4_method_7_code 35 = .ok (.iand, 1) := by decide +kernel
theorem dS_tally_36 : decode prog_4_method_7_code 36 = .ok (.iload_n 2, 1) := by decide +kernel
theorem dS_tally_37 : decode prog_4_method_7_code 37 = .ok (.if_icmp .ne 20, 3) := by decide +kernel
theorem dS_tally_40 : decode prog_4_method_7_code 40 = .ok (.aload_n 0, 1) := by decide +kernel
theorem dS_tally_41 : decode prog_4_method_7_code 41 = .ok (.getfield 19, 3) := by decide +kernel
theorem dS_tally_44 : decode prog_4_method_7_code 44 = .ok (.iload 5, 2) := by decide +kernel
theorem dS_tally_46 : decode prog_4_method_7_code 46 = .ok (.iaload, 1) := by decide +kernel
theorem dS_tally_47 : decode prog_4_method_7_code 47 = .ok (.iload_n 3, 1) := by decide +kernel
theorem dS_tally_48 : decode prog_4_method_7_code 48 = .ok (.invokestatic 43, 3) := by decide +kernel
theorem dS_tally_51 : decode prog_4_method_7_code 51 = .ok (.ifCond .eq 6, 3) := by decide +kernel
theorem dS_tally_54 : decode prog_4_method_7_code 54 = .ok (.iinc 4 1, 3) := by decide +kernel
theorem dS_tally_57 : decode prog_4_method_7_code 57 = .ok (.iinc 5 1, 3) := by decide +kernel
theorem dS_tally_60 : decode prog_4_method_7_code 60 = .ok (.goto (-54), 3) := by decide +kernel
theorem dS_tally_63 : decode prog_4_method_7_code 63 = .ok (.iload 4, 2) := by decide +kernel
theorem dS_tally_65 : decode prog_4_method_7_code 65 = .ok (.ireturn, 1) := by decide +kernel
theorem dS_tallyPlaced_0 : decode prog_4_method_8_code 0 = .ok (.aload_n 0, 1) := by decide +kernel
theorem dS_tallyPlaced_1 : decode prog_4_method_8_code 1 = .ok (.getfield 9, 3) := by decide +kernel
theorem dS_tallyPlaced_4 : decode prog_4_method_8_code 4 = .ok (.invokevirtual 47, 3) := by decide +kernel
theorem dS_tallyPlaced_7 : decode prog_4_method_8_code 7 = .ok (.istore 4, 2) := by decide +kernel
theorem dS_tallyPlaced_9 : decode prog_4_method_8_code 9 = .ok (.iconst 0, 1) := by decide +kernel
theorem dS_tallyPlaced_10 : decode prog_4_method_8_code 10 = .ok (.istore 5, 2) := by decide +kernel
theorem dS_tallyPlaced_12 : decode prog_4_method_8_code 12 = .ok (.iconst 0, 1) := by decide +kernel
theorem dS_tallyPlaced_13 : decode prog_4_method_8_code 13 = .ok (.istore 6, 2) := by decide +kernel
theorem dS_tallyPlaced_15 : decode prog_4_method_8_code 15 = .ok (.iload 6, 2) := by decide +kernel
theorem dS_tallyPlaced_17 : decode prog_4_method_8_code 17 = .ok (.aload_n 0, 1) := by decide +kernel
theorem dS_tallyPlaced_18 : decode prog_4_method_8_code 18 = .ok (.getfield 19, 3) := by decide +kernel
theorem dS_tallyPlaced_21 : decode prog_4_method_8_code 21 = .ok (.arraylength, 1) := by decide +kernel
theorem dS_tallyPlaced_22 : decode prog_4_method_8_code 22 = .ok (.if_icmp .ge 71, 3) := by decide +kernel
theorem dS_tallyPlaced_25 : decode prog_4_method_8_code 25 = .ok (.aload_n 0, 1) := by decide +kernel
theorem dS_tallyPlaced_26 : decode prog_4_method_8_code 26 = .ok (.getfield 22, 3) := by decide +kernel
theorem dS_tallyPlaced_29 : decode prog_4_method_8_code 29 = .ok (.iload 6, 2) := by decide +kernel
theorem dS_tallyPlaced_31 : decode prog_4_method_8_code 31 = .ok (.iaload, 1) := by decide +kernel
theorem dS_tallyPlaced_32 : decode prog_4_method_8_code 32 = .ok (.iload_n 1, 1) := by decide +kernel
theorem dS_tallyPlaced_33 : decode prog_4_method_8_code 33 = .ok (.if_icmp .ne 54, 3) := by decide +kernel
theorem dS_tallyPlaced_36 : decode prog_4_method_8_code 36 = .ok (.aload_n 0, 1) := by decide +kernel
theorem dS_tallyPlaced_37 : decode prog_4_method_8_code 37 = .ok (.getfield 19, 3) := by decide +kernel
theorem dS_tallyPlaced_40 : decode prog_4_method_8_code 40 = .ok (.iload 6, 2) := by decide +kernel
theorem dS_tallyPlaced_42 : decode prog_4_method_8_code 42 = .ok (.iaload, 1) := by decide +kernel
theorem dS_tallyPlaced_43 : decode prog_4_method_8_code 43 = .ok (.iload_n 3, 1) := by decide +kernel
theorem dS_tallyPlaced_44 : decode prog_4_method_8_code 44 = .ok (.invokestatic 51, 3) := by decide +kernel
theorem dS_tallyPlaced_47 : decode prog_4_method_8_code 47 = .ok (.ifCond .eq 40, 3) := by decide +kernel
theorem dS_tallyPlaced_50 : decode prog_4_method_8_code 50 = .ok (.aload_n 0, 1) := by decide +kernel
theorem dS_tallyPlaced_51 : decode prog_4_method_8_code 51 = .ok (.getfield 19, 3) := by decide +kernel
theorem dS_tallyPlaced_54 : decode prog_4_method_8_code 54 = .ok (.iload 6, 2) := by decide +kernel
theorem dS_tallyPlaced_56 : decode prog_4_method_8_code 56 = .ok (.iaload, 1) := by decide +kernel
theorem dS_tallyPlaced_57 : decode prog_4_method_8_code 57 = .ok (.iload 4, 2) := by decide +kernel
theorem dS_tallyPlaced_59 : decode prog_4_method_8_code 59 = .ok (.invokestatic 43, 3) := by decide +kernel
theorem dS_tallyPlaced_62 : decode prog_4_method_8_code 62 = .ok (.ifCond .eq 25, 3) := by decide +kernel
theorem dS_tallyPlaced_65 : decode prog_4_method_8_code 65 = .ok (.aload_n 0, 1) := by decide +kernel
theorem dS_tallyPlaced_66 : decode prog_4_method_8_code 66 = .ok (.getfield 9, 3) := by decide +kernel
theorem dS_tallyPlaced_69 : decode prog_4_method_8_code 69 = .ok (.iload_n 3, 1) := by decide +kernel
theorem dS_tallyPlaced_70 : decode prog_4_method_8_code 70 = .ok (.aload_n 0, 1) := by decide +kernel
theorem dS_tallyPlaced_71 : decode prog_4_method_8_code 71 = .ok (.getfield 19, 3) := by decide +kernel
theorem dS_tallyPlaced_74 : decode prog_4_method_8_code 74 = .ok (.iload 6, 2) := by decide +kernel
theorem dS_tallyPlaced_76 : decode prog_4_method_8_code 76 = .ok (.iaload, 1) := by decide +kernel
theorem dS_tallyPlaced_77 : decode prog_4_method_8_code 77 = .ok (.invokevirtual 54, 3) := by decide +kernel
theorem dS_tallyPlaced_80 : decode prog_4_method_8_code 80 = .ok (.iload_n 2, 1) := by decide +kernel
theorem dS_tallyPlaced_81 : decode prog_4_method_8_code 81 = .ok (.if_icmp .ne 6, 3) := by decide +kernel
theorem dS_tallyPlaced_84 : decode prog_4_method_8_code 84 = .ok (.iinc 5 1, 3) := by decide +kernel
theorem dS_tallyPlaced_87 : decode prog_4_method_8_code 87 = .ok (.iinc 6 1, 3) := by decide +kernel
theorem dS_tallyPlaced_90 : decode prog_4_method_8_code 90 = .ok (.goto (-75), 3) := by decide +kernel
theorem dS_tallyPlaced_93 : decode prog_4_method_8_code 93 = .ok (.iload 5, 2) := by decide +kernel
theorem dS_tallyPlaced_95 : decode prog_4_method_8_code 95 = .ok (.ireturn, 1) := by decide +kernel
theorem dS_tallyMixed_0 : decode prog_4_method_9_code 0 = .ok (.aload_n 0, 1) := by decide +kernel
theorem dS_tallyMixed_1 : decode prog_4_method_9_code 1 = .ok (.getfield 9, 3) := by decide +kernel
theorem dS_tallyMixed_4 : decode prog_4_method_9_code 4 = .ok (.invokevirtual 47, 3) := by decide +kernel
theorem dS_tallyMixed_7 : decode prog_4_method_9_code 7 = .ok (.istore_n 2, 1) := by decide +kernel
theorem dS_tallyMixed_8 : decode prog_4_method_9_code 8 = .ok (.iconst 0, 1) := by decide +kernel
theorem dS_tallyMixed_9 : decode prog_4_method_9_code 9 = .ok (.istore_n 3, 1) := by decide +kernel
theorem dS_tallyMixed_10 : decode prog_4_method_9_code 10 = .ok (.iconst 0, 1) := by decide +kernel
theorem dS_tallyMixed_11 : decode prog_4_method_9_code 11 = .ok (.istore 4, 2) := by decide +kernel
theorem dS_tallyMixed_13 : decode prog_4_method_9_code 13 = .ok (.iload 4, 2) := by decide +kernel
theorem dS_tallyMixed_15 : decode prog_4_method_9_code 15 = .ok (.aload_n 0, 1) := by decide +kernel
theorem dS_tallyMixed_16 : decode prog_4_method_9_code 16 = .ok (.getfield 19, 3) := by decide +kernel
theorem dS_tallyMixed_19 : decode prog_4_method_9_code 19 = .ok (.arraylength, 1) := by decide +kernel
theorem dS_tallyMixed_20 : decode prog_4_method_9_code 20 = .ok (.if_icmp .ge 54, 3) := by decide +kernel
theorem dS_tallyMixed_23 : decode prog_4_method_9_code 23 = .ok (.aload_n 0, 1) := by decide +kernel
theorem dS_tallyMixed_24 : decode prog_4_method_9_code 24 = .ok (.getfield 22, 3) := by decide +kernel
theorem dS_tallyMixed_27 : decode prog_4_method_9_code 27 = .ok (.iload 4, 2) := by decide +kernel
theorem dS_tallyMixed_29 : decode prog_4_method_9_code 29 = .ok (.iaload, 1) := by decide +kernel
theorem dS_tallyMixed_30 : decode prog_4_method_9_code 30 = .ok (.iload_n 1, 1) := by decide +kernel
theorem dS_tallyMixed_31 : decode prog_4_method_9_code 31 = .ok (.if_icmp .ne 37, 3) := by decide +kernel
theorem dS_tallyMixed_34 : decode prog_4_method_9_code 34 = .ok (.aload_n 0, 1) := by decide +kernel
theorem dS_tallyMixed_35 : decode prog_4_method_9_code 35 = .ok (.getfield 19, 3) := by decide +kernel
theorem dS_tallyMixed_38 : decode prog_4_method_9_code 38 = .ok (.iload 4, 2) := by decide +kernel
theorem dS_tallyMixed_40 : decode prog_4_method_9_code 40 = .ok (.iaload, 1) := by decide +kernel
theorem dS_tallyMixed_41 : decode prog_4_method_9_code 41 = .ok (.iload_n 2, 1) := by decide +kernel
theorem dS_tallyMixed_42 : decode prog_4_method_9_code 42 = .ok (.invokestatic 43, 3) := by decide +kernel
theorem dS_tallyMixed_45 : decode prog_4_method_9_code 45 = .ok (.ifCond .eq 23, 3) := by decide +kernel
theorem dS_tallyMixed_48 : decode prog_4_method_9_code 48 = .ok (.aload_n 0, 1) := by decide +kernel
theorem dS_tallyMixed_49 : decode prog_4_method_9_code 49 = .ok (.getfield 9, 3) := by decide +kernel
theorem dS_tallyMixed_52 : decode prog_4_method_9_code 52 = .ok (.aload_n 0, 1) := by decide +kernel
theorem dS_tallyMixed_53 : decode prog_4_method_9_code 53 = .ok (.getfield 19, 3) := by decide +kernel
theorem dS_tallyMixed_56 : decode prog_4_method_9_code 56 = .ok (.iload 4, 2) := by decide +kernel
theorem dS_tallyMixed_58 : decode prog_4_method_9_code 58 = .ok (.iaload, 1) := by decide +kernel
theorem dS_tallyMixed_59 : decode prog_4_method_9_code 59 = .ok (.invokevirtual 58, 3) := by decide +kernel
theorem dS_tallyMixed_62 : decode prog_4_method_9_code 62 = .ok (.ifCond .eq 6, 3) := by decide +kernel
theorem dS_tallyMixed_65 : decode prog_4_method_9_code 65 = .ok (.iinc 3 1, 3) := by decide +kernel
theorem dS_tallyMixed_68 : decode prog_4_method_9_code 68 = .ok (.iinc 4 1, 3) := by decide +kernel
theorem dS_tallyMixed_71 : decode prog_4_method_9_code 71 = .ok (.goto (-58), 3) := by decide +kernel
theorem dS_tallyMixed_74 : decode prog_4_method_9_code 74 = .ok (.iload_n 3, 1) := by decide +kernel
theorem dS_tallyMixed_75 : decode prog_4_method_9_code 75 = .ok (.ireturn, 1) := by decide +kernel
theorem dS_gain_0 : decode prog_4_method_10_code 0 = .ok (.aload_n 0, 1) := by decide +kernel
theorem dS_gain_1 : decode prog_4_method_10_code 1 = .ok (.getfield 9, 3) := by decide +kernel
theorem dS_gain_4 : decode prog_4_method_10_code 4 = .ok (.iload_n 2, 1) := by decide +kernel
theorem dS_gain_5 : decode prog_4_method_10_code 5 = .ok (.iload_n 3, 1) := by decide +kernel
theorem dS_gain_6 : decode prog_4_method_10_code 6 = .ok (.invokevirtual 62, 3) := by decide +kernel
theorem dS_gain_9 : decode prog_4_method_10_code 9 = .ok (.istore 4, 2) := by decide +kernel
theorem dS_gain_11 : decode prog_4_method_10_code 11 = .ok (.aload_n 0, 1) := by decide +kernel
theorem dS_gain_12 : decode prog_4_method_10_code 12 = .ok (.getfield 9, 3) := by decide +kernel
theorem dS_gain_15 : decode prog_4_method_10_code 15 = .ok (.invokevirtual 47, 3) := by decide +kernel
theorem dS_gain_18 : decode prog_4_method_10_code 18 = .ok (.istore 5, 2) := by decide +kernel
theorem dS_gain_20 : decode prog_4_method_10_code 20 = .ok (.iconst 0, 1) := by decide +kernel
theorem dS_gain_21 : decode prog_4_method_10_code 21 = .ok (.istore 6, 2) := by decide +kernel
theorem dS_gain_23 : decode prog_4_method_10_code 23 = .ok (.aload_n 0, 1) := by decide +kernel
theorem dS_gain_24 : decode prog_4_method_10_code 24 = .ok (.getfield 9, 3) := by decide +kernel
theorem dS_gain_27 : decode prog_4_method_10_code 27 = .ok (.iload_n 2, 1) := by decide +kernel
theorem dS_gain_28 : decode prog_4_method_10_code 28 = .ok (.iload_n 3, 1) := by decide +kernel
theorem dS_gain_29 : decode prog_4_method_10_code 29 = .ok (.invokevirtual 65, 3) := by decide +kernel
theorem dS_gain_32 : decode prog_4_method_10_code 32 = .ok (.iconst 0, 1) := by decide +kernel
theorem dS_gain_33 : decode prog_4_method_10_code 33 = .ok (.istore 7, 2) := by decide +kernel
theorem dS_gain_35 : decode prog_4_method_10_code 35 = .ok (.iload 7, 2) := by decide +kernel
theorem dS_gain_37 : decode prog_4_method_10_code 37 = .ok (.aload_n 0, 1) := by decide +kernel
theorem dS_gain_38 : decode prog_4_method_10_code 38 = .ok (.getfield 19, 3) := by decide +kernel
theorem dS_gain_41 : decode prog_4_method_10_code 41 = .ok (.arraylength, 1) := by decide +kernel
theorem dS_gain_42 : decode prog_4_method_10_code 42 = .ok (.if_icmp .ge 88, 3) := by decide +kernel
theorem dS_gain_45 : decode prog_4_method_10_code 45 = .ok (.aload_n 0, 1) := by decide +kernel
theorem dS_gain_46 : decode prog_4_method_10_code 46 = .ok (.getfield 19, 3) := by decide +kernel
theorem dS_gain_49 : decode prog_4_method_10_code 49 = .ok (.iload 7, 2) := by decide +kernel
theorem dS_gain_51 : decode prog_4_method_10_code 51 = .ok (.iaload, 1) := by decide +kernel
theorem dS_gain_52 : decode prog_4_method_10_code 52 = .ok (.iload 4, 2) := by decide +kernel
theorem dS_gain_54 : decode prog_4_method_10_code 54 = .ok (.iand, 1) := by decide +kernel
theorem dS_gain_55 : decode prog_4_method_10_code 55 = .ok (.iload 4, 2) := by decide +kernel
theorem dS_gain_57 : decode prog_4_method_10_code 57 = .ok (.if_icmp .ne 67, 3) := by decide +kernel
theorem dS_gain_60 : decode prog_4_method_10_code 60 = .ok (.aload_n 0, 1) := by decide +kernel
theorem dS_gain_61 : decode prog_4_method_10_code 61 = .ok (.getfield 19, 3) := by decide +kernel
theorem dS_gain_64 : decode prog_4_method_10_code 64 = .ok (.iload 7, 2) := by decide +kernel
theorem dS_gain_66 : decode prog_4_method_10_code 66 = .ok (.iaload, 1) := by decide +kernel
theorem dS_gain_67 : decode prog_4_method_10_code 67 = .ok (.iload 5, 2) := by decide +kernel
theorem dS_gain_69 : decode prog_4_method_10_code 69 = .ok (.invokestatic 43, 3) := by decide +kernel
theorem dS_gain_72 : decode prog_4_method_10_code 72 = .ok (.ifCond .eq 52, 3) := by decide +kernel
theorem dS_gain_75 : decode prog_4_method_10_code 75 = .ok (.iload 6, 2) := by decide +kernel
theorem dS_gain_77 : decode prog_4_method_10_code 77 = .ok (.aload_n 0, 1) := by decide +kernel
theorem dS_gain_78 : decode prog_4_method_10_code 78 = .ok (.getfield 9, 3) := by decide +kernel
theorem dS_gain_81 : decode prog_4_method_10_code 81 = .ok (.aload_n 0, 1) := by decide +kernel
theorem dS_gain_82 : decode prog_4_method_10_code 82 = .ok (.getfield 19, 3) := by decide +kernel
theorem dS_gain_85 : decode prog_4_method_10_code 85 = .ok (.iload 7, 2) := by decide +kernel
theorem dS_gain_87 : decode prog_4_method_10_code 87 = .ok (.iaload, 1) := by decide +kernel
theorem dS_gain_88 : decode prog_4_method_10_code 88 = .ok (.invokevirtual 37, 3) := by decide +kernel
theorem dS_gain_91 : decode prog_4_method_10_code 91 = .ok (.iload_n 1, 1) := by decide +kernel
theorem dS_gain_92 : decode prog_4_method_10_code 92 = .ok (.if_icmp .ne 7, 3) := by decide +kernel
theorem dS_gain_95 : decode prog_4_method_10_code 95 = .ok (.iconst 1, 1) := by decide +kernel
theorem dS_gain_96 : decode prog_4_method_10_code 96 = .ok (.goto 4, 3) := by decide +kernel
theorem dS_gain_99 : decode prog_4_method_10_code 99 = .ok (.iconst 0, 1) := by decide +kernel
theorem dS_gain_100 : decode prog_4_method_10_code 100 = .ok (.iadd, 1) := by decide +kernel
theorem dS_gain_101 : decode prog_4_method_10_code 101 = .ok (.istore 6, 2) := by decide +kernel
theorem dS_gain_103 : decode prog_4_method_10_code 103 = .ok (.iload 6, 2) := by decide +kernel
theorem dS_gain_105 : decode prog_4_method_10_code 105 = .ok (.aload_n 0, 1) := by decide +kernel
theorem dS_gain_106 : decode prog_4_method_10_code 106 = .ok (.getfield 22, 3) := by decide +kernel
theorem dS_gain_109 : decode prog_4_method_10_code 109 = .ok (.iload 7, 2) := by decide +kernel
theorem dS_gain_111 : decode prog_4_method_10_code 111 = .ok (.iaload, 1) := by decide +kernel
theorem dS_gain_112 : decode prog_4_method_10_code 112 = .ok (.iload_n 1, 1) := by decide +kernel
theorem dS_gain_113 : decode prog_4_method_10_code 113 = .ok (.if_icmp .ne 7, 3) := by decide +kernel
theorem dS_gain_116 : decode prog_4_method_10_code 116 = .ok (.iconst 1, 1) := by decide +kernel
theorem dS_gain_117 : decode prog_4_method_10_code 117 = .ok (.goto 4, 3) := by decide +kernel
theorem dS_gain_120 : decode prog_4_method_10_code 120 = .ok (.iconst 0, 1) := by decide +kernel
theorem dS_gain_121 : decode prog_4_method_10_code 121 = .ok (.isub, 1) := by decide +kernel
theorem dS_gain_122 : decode prog_4_method_10_code 122 = .ok (.istore 6, 2) := by decide +kernel
theorem dS_gain_124 : decode prog_4_method_10_code 124 = .ok (.iinc 7 1, 3) := by decide +kernel
theorem dS_gain_127 : decode prog_4_method_10_code 127 = .ok (.goto (-92), 3) := by decide +kernel
theorem dS_gain_130 : decode prog_4_method_10_code 130 = .ok (.aload_n 0, 1) := by decide +kernel
theorem dS_gain_131 : decode prog_4_method_10_code 131 = .ok (.getfield 9, 3) := by decide +kernel
theorem dS_gain_134 : decode prog_4_method_10_code 134 = .ok (.iload_n 2, 1) := by decide +kernel
theorem dS_gain_135 : decode prog_4_method_10_code 135 = .ok (.iload_n 3, 1) := by decide +kernel
theorem dS_gain_136 : decode prog_4_method_10_code 136 = .ok (.invokevirtual 65, 3) := by decide +kernel
theorem dS_gain_139 : decode prog_4_method_10_code 139 = .ok (.iload 6, 2) := by decide +kernel
theorem dS_gain_141 : decode prog_4_method_10_code 141 = .ok (.ireturn, 1) := by decide +kernel
theorem dS_setAt_0 : decode prog_4_method_11_code 0 = .ok (.aload_n 0, 1) := by decide +kernel
theorem dS_setAt_1 : decode prog_4_method_11_code 1 = .ok (.getfield 9, 3) := by decide +kernel
theorem dS_setAt_4 : decode prog_4_method_11_code 4 = .ok (.invokevirtual 47, 3) := by decide +kernel
theorem dS_setAt_7 : decode prog_4_method_11_code 7 = .ok (.istore_n 3, 1) := by decide +kernel
theorem dS_setAt_8 : decode prog_4_method_11_code 8 = .ok (.iconst 0, 1) := by decide +kernel
theorem dS_setAt_9 : decode prog_4_method_11_code 9 = .ok (.istore 4, 2) := by decide +kernel
theorem dS_setAt_11 : decode prog_4_method_11_code 11 = .ok (.iconst 0, 1) := by decide +kernel
theorem dS_setAt_12 : decode prog_4_method_11_code 12 = .ok (.istore 5, 2) := by decide +kernel
theorem dS_setAt_14 : decode prog_4_method_11_code 14 = .ok (.iload 5, 2) := by decide +kernel
theorem dS_setAt_16 : decode prog_4_method_11_code 16 = .ok (.aload_n 0, 1) := by decide +kernel
theorem dS_setAt_17 : decode prog_4_method_11_code 17 = .ok (.getfield 19, 3) := by decide +kernel
theorem dS_setAt_20 : decode prog_4_method_11_code 20 = .ok (.arraylength, 1) := by decide +kernel
theorem dS_setAt_21 : decode prog_4_method_11_code 21 = .ok (.if_icmp .ge 51, 3) := by decide +kernel
theorem dS_setAt_24 : decode prog_4_method_11_code 24 = .ok (.aload_n 0, 1) := by decide +kernel
theorem dS_setAt_25 : decode prog_4_method_11_code 25 = .ok (.getfield 22, 3) := by decide +kernel
theorem dS_setAt_28 : decode prog_4_method_11_code 28 = .ok (.iload 5, 2) := by decide +kernel
theorem dS_setAt_30 : decode prog_4_method_11_code 30 = .ok (.iaload, 1) := by decide +kernel
theorem dS_setAt_31 : decode prog_4_method_11_code 31 = .ok (.iload_n 1, 1) := by decide +kernel
theorem dS_setAt_32 : decode prog_4_method_11_code 32 = .ok (.if_icmp .ne 34, 3) := by decide +kernel
theorem dS_setAt_35 : decode prog_4_method_11_code 35 = .ok (.aload_n 0, 1) := by decide +kernel
theorem dS_setAt_36 : decode prog_4_method_11_code 36 = .ok (.getfield 19, 3) := by decide +kernel
theorem dS_setAt_39 : decode prog_4_method_11_code 39 = .ok (.iload 5, 2) := by decide +kernel
theorem dS_setAt_41 : decode prog_4_method_11_code 41 = .ok (.iaload, 1) := by decide +kernel
theorem dS_setAt_42 : decode prog_4_method_11_code 42 = .ok (.iload_n 3, 1) := by decide +kernel
theorem dS_setAt_43 : decode prog_4_method_11_code 43 = .ok (.invokestatic 43, 3) := by decide +kernel
theorem dS_setAt_46 : decode prog_4_method_11_code 46 = .ok (.ifCond .eq 20, 3) := by decide +kernel
theorem dS_setAt_49 : decode prog_4_method_11_code 49 = .ok (.iload 4, 2) := by decide +kernel
theorem dS_setAt_51 : decode prog_4_method_11_code 51 = .ok (.iload_n 2, 1) := by decide +kernel
theorem dS_setAt_52 : decode prog_4_method_11_code 52 = .ok (.if_icmp .ne 11, 3) := by decide +kernel
theorem dS_setAt_55 : decode prog_4_method_11_code 55 = .ok (.aload_n 0, 1) := by decide +kernel
theorem dS_setAt_56 : decode prog_4_method_11_code 56 = .ok (.getfield 19, 3) := by decide +kernel
theorem dS_setAt_59 : decode prog_4_method_11_code 59 = .ok (.iload 5, 2) := by decide +kernel
theorem dS_setAt_61 : decode prog_4_method_11_code 61 = .ok (.iaload, 1) := by decide +kernel
theorem dS_setAt_62 : decode prog_4_method_11_code 62 = .ok (.ireturn, 1) := by decide +kernel
theorem dS_setAt_63 : decode prog_4_method_11_code 63 = .ok (.iinc 4 1, 3) := by decide +kernel
theorem dS_setAt_66 : decode prog_4_method_11_code 66 = .ok (.iinc 5 1, 3) := by decide +kernel
theorem dS_setAt_69 : decode prog_4_method_11_code 69 = .ok (.goto (-55), 3) := by decide +kernel
theorem dS_setAt_72 : decode prog_4_method_11_code 72 = .ok (.iconst 0, 1) := by decide +kernel
theorem dS_setAt_73 : decode prog_4_method_11_code 73 = .ok (.ireturn, 1) := by decide +kernel
theorem dS_ahead_0 : decode prog_4_method_12_code 0 = .ok (.aload_n 0, 1) := by decide +kernel
theorem dS_ahead_1 : decode prog_4_method_12_code 1 = .ok (.getfield 9, 3) := by decide +kernel
theorem dS_ahead_4 : decode prog_4_method_12_code 4 = .ok (.iload_n 1, 1) := by decide +kernel
theorem dS_ahead_5 : decode prog_4_method_12_code 5 = .ok (.invokevirtual 37, 3) := by decide +kernel
theorem dS_ahead_8 : decode prog_4_method_12_code 8 = .ok (.istore_n 2, 1) := by decide +kernel
theorem dS_ahead_9 : decode prog_4_method_12_code 9 = .ok (.aload_n 0, 1) := by decide +kernel
theorem dS_ahead_10 : decode prog_4_method_12_code 10 = .ok (.getfield 9, 3) := by decide +kernel
theorem dS_ahead_13 : decode prog_4_method_12_code 13 = .ok (.invokevirtual 47, 3) := by decide +kernel
theorem dS_ahead_16 : decode prog_4_method_12_code 16 = .ok (.istore_n 3, 1) := by decide +kernel
theorem dS_ahead_17 : decode prog_4_method_12_code 17 = .ok (.iconst 0, 1) := by decide +kernel
theorem dS_ahead_18 : decode prog_4_method_12_code 18 = .ok (.istore 4, 2) := by decide +kernel
theorem dS_ahead_20 : decode prog_4_method_12_code 20 = .ok (.iconst 0, 1) := by decide +kernel
theorem dS_ahead_21 : decode prog_4_method_12_code 21 = .ok (.istore 5, 2) := by decide +kernel
theorem dS_ahead_23 : decode prog_4_method_12_code 23 = .ok (.iload 5, 2) := by decide +kernel
theorem dS_ahead_25 : decode prog_4_method_12_code 25 = .ok (.aload_n 0, 1) := by decide +kernel
theorem dS_ahead_26 : decode prog_4_method_12_code 26 = .ok (.getfield 19, 3) := by decide +kernel
theorem dS_ahead_29 : decode prog_4_method_12_code 29 = .ok (.arraylength, 1) := by decide +kernel
theorem dS_ahead_30 : decode prog_4_method_12_code 30 = .ok (.if_icmp .ge 48, 3) := by decide +kernel
theorem dS_ahead_33 : decode prog_4_method_12_code 33 = .ok (.aload_n 0, 1) := by decide +kernel
theorem dS_ahead_34 : decode prog_4_method_12_code 34 = .ok (.getfield 19, 3) := by decide +kernel
theorem dS_ahead_37 : decode prog_4_method_12_code 37 = .ok (.iload 5, 2) := by decide +kernel
theorem dS_ahead_39 : decode prog_4_method_12_code 39 = .ok (.iaload, 1) := by decide +kernel
theorem dS_ahead_40 : decode prog_4_method_12_code 40 = .ok (.iload_n 1, 1) := by decide +kernel
theorem dS_ahead_41 : decode prog_4_method_12_code 41 = .ok (.if_icmp .eq 37, 3) := by decide +kernel
theorem dS_ahead_44 : decode prog_4_method_12_code 44 = .ok (.aload_n 0, 1) := by decide +kernel
theorem dS_ahead_45 : decode prog_4_method_12_code 45 = .ok (.getfield 22, 3) := by decide +kernel
theorem dS_ahead_48 : decode prog_4_method_12_code 48 = .ok (.iload 5, 2) := by decide +kernel
theorem dS_ahead_50 : decode prog_4_method_12_code 50 = .ok (.iaload, 1) := by decide +kernel
theorem dS_ahead_51 : decode prog_4_method_12_code 51 = .ok (.iload_n 2, 1) := by decide +kernel
theorem dS_ahead_52 : decode prog_4_method_12_code 52 = .ok (.if_icmp .ne 20, 3) := by decide +kernel
theorem dS_ahead_55 : decode prog_4_method_12_code 55 = .ok (.aload_n 0, 1) := by decide +kernel
theorem dS_ahead_56 : decode prog_4_method_12_code 56 = .ok (.getfield 19, 3) := by decide +kernel
theorem dS_ahead_59 : decode prog_4_method_12_code 59 = .ok (.iload 5, 2) := by decide +kernel
theorem dS_ahead_61 : decode prog_4_method_12_code 61 = .ok (.iaload, 1) := by decide +kernel
theorem dS_ahead_62 : decode prog_4_method_12_code 62 = .ok (.iload_n 3, 1) := by decide +kernel
theorem dS_ahead_63 : decode prog_4_method_12_code 63 = .ok (.invokestatic 43, 3) := by decide +kernel
theorem dS_ahead_66 : decode prog_4_method_12_code 66 = .ok (.ifCond .eq 6, 3) := by decide +kernel
theorem dS_ahead_69 : decode prog_4_method_12_code 69 = .ok (.iinc 4 1, 3) := by decide +kernel
theorem dS_ahead_72 : decode prog_4_method_12_code 72 = .ok (.iinc 5 1, 3) := by decide +kernel
theorem dS_ahead_75 : decode prog_4_method_12_code 75 = .ok (.goto (-52), 3) := by decide +kernel
theorem dS_ahead_78 : decode prog_4_method_12_code 78 = .ok (.iload 4, 2) := by decide +kernel
theorem dS_ahead_80 : decode prog_4_method_12_code 80 = .ok (.ireturn, 1) := by decide +kernel
theorem dS_placeAlike_0 : decode prog_4_method_13_code 0 = .ok (.aload_n 0, 1) := by decide +kernel
theorem dS_placeAlike_1 : decode prog_4_method_13_code 1 = .ok (.getfield 9, 3) := by decide +kernel
theorem dS_placeAlike_4 : decode prog_4_method_13_code 4 = .ok (.invokevirtual 47, 3) := by decide +kernel
theorem dS_placeAlike_7 : decode prog_4_method_13_code 7 = .ok (.istore_n 3, 1) := by decide +kernel
theorem dS_placeAlike_8 : decode prog_4_method_13_code 8 = .ok (.aload_n 0, 1) := by decide +kernel
theorem dS_placeAlike_9 : decode prog_4_method_13_code 9 = .ok (.getfield 25, 3) := by decide +kernel
theorem dS_placeAlike_12 : decode prog_4_method_13_code 12 = .ok (.iconst 0, 1) := by decide +kernel
theorem dS_placeAlike_13 : decode prog_4_method_13_code 13 = .ok (.invokestatic 32, 3) := by decide +kernel
theorem dS_placeAlike_16 : decode prog_4_method_13_code 16 = .ok (.iconst 0, 1) := by decide +kernel
theorem dS_placeAlike_17 : decode prog_4_method_13_code 17 = .ok (.istore 4, 2) := by decide +kernel
theorem dS_placeAlike_19 : decode prog_4_method_13_code 19 = .ok (.iload 4, 2) := by decide +kernel
theorem dS_placeAlike_21 : decode prog_4_method_13_code 21 = .ok (.aload_n 0, 1) := by decide +kernel
theorem dS_placeAlike_22 : decode prog_4_method_13_code 22 = .ok (.getfield 19, 3) := by decide +kernel
theorem dS_placeAlike_25 : decode prog_4_method_13_code 25 = .ok (.arraylength, 1) := by decide +kernel
theorem dS_placeAlike_26 : decode prog_4_method_13_code 26 = .ok (.if_icmp .ge 63, 3) := by decide +kernel
theorem dS_placeAlike_29 : decode prog_4_method_13_code 29 = .ok (.aload_n 0, 1) := by decide +kernel
theorem dS_placeAlike_30 : decode prog_4_method_13_code 30 = .ok (.getfield 19, 3) := by decide +kernel
theorem dS_placeAlike_33 : decode prog_4_method_13_code 33 = .ok (.iload 4, 2) := by decide +kernel
theorem dS_placeAlike_35 : decode prog_4_method_13_code 35 = .ok (.iaload, 1) := by decide +kernel
theorem dS_placeAlike_36 : decode prog_4_method_13_code 36 = .ok (.iload_n 3, 1) := by decide +kernel
theorem dS_placeAlike_37 : decode prog_4_method_13_code 37 = .ok (.invokestatic 43, 3) := by decide +kernel
theorem dS_placeAlike_40 : decode prog_4_method_13_code 40 = .ok (.ifCond .eq 43, 3) := by decide +kernel
theorem dS_placeAlike_43 : decode prog_4_method_13_code 43 = .ok (.aload_n 0, 1) := by decide +kernel
theorem dS_placeAlike_44 : decode prog_4_method_13_code 44 = .ok (.aload_n 0, 1) := by decide +kernel
theorem dS_placeAlike_45 : decode prog_4_method_13_code 45 = .ok (.getfield 19, 3) := by decide +kernel
theorem dS_placeAlike_48 : decode prog_4_method_13_code 48 = .ok (.iload 4, 2) := by decide +kernel
theorem dS_placeAlike_50 : decode prog_4_method_13_code 50 = .ok (.iaload, 1) := by decide +kernel
theorem dS_placeAlike_51 : decode prog_4_method_13_code 51 = .ok (.aload_n 0, 1) := by decide +kernel
theorem dS_placeAlike_52 : decode prog_4_method_13_code 52 = .ok (.getfield 22, 3) := by decide +kernel
theorem dS_placeAlike_55 : decode prog_4_method_13_code 55 = .ok (.iload 4, 2) := by decide +kernel
theorem dS_placeAlike_57 : decode prog_4_method_13_code 57 = .ok (.iaload, 1) := by decide +kernel
theorem dS_placeAlike_58 : decode prog_4_method_13_code 58 = .ok (.iload_n 1, 1) := by decide +kernel
theorem dS_placeAlike_59 : decode prog_4_method_13_code 59 = .ok (.iconst 1, 1) := by decide +kernel
theorem dS_placeAlike_60 : decode prog_4_method_13_code 60 = .ok (.invokevirtual 69, 3) := by decide +kernel
theorem dS_placeAlike_63 : decode prog_4_method_13_code 63 = .ok (.aload_n 0, 1) := by decide +kernel
theorem dS_placeAlike_64 : decode prog_4_method_13_code 64 = .ok (.aload_n 0, 1) := by decide +kernel
theorem dS_placeAlike_65 : decode prog_4_method_13_code 65 = .ok (.getfield 19, 3) := by decide +kernel
theorem dS_placeAlike_68 : decode prog_4_method_13_code 68 = .ok (.iload 4, 2) := by decide +kernel
theorem dS_placeAlike_70 : decode prog_4_method_13_code 70 = .ok (.iaload, 1) := by decide +kernel
theorem dS_placeAlike_71 : decode prog_4_method_13_code 71 = .ok (.aload_n 0, 1) := by decide +kernel
theorem dS_placeAlike_72 : decode prog_4_method_13_code 72 = .ok (.getfield 22, 3) := by decide +kernel
theorem dS_placeAlike_75 : decode prog_4_method_13_code 75 = .ok (.iload 4, 2) := by decide +kernel
theorem dS_placeAlike_77 : decode prog_4_method_13_code 77 = .ok (.iaload, 1) := by decide +kernel
theorem dS_placeAlike_78 : decode prog_4_method_13_code 78 = .ok (.iload_n 2, 1) := by decide +kernel
theorem dS_placeAlike_79 : decode prog_4_method_13_code 79 = .ok (.iconst (-1), 1) := by decide +kernel
theorem dS_placeAlike_80 : decode prog_4_method_13_code 80 = .ok (.invokevirtual 69, 3) := by decide +kernel
theorem dS_placeAlike_83 : decode prog_4_method_13_code 83 = .ok (.iinc 4 1, 3) := by decide +kernel
theorem dS_placeAlike_86 : decode prog_4_method_13_code 86 = .ok (.goto (-67), 3) := by decide +kernel
theorem dS_placeAlike_89 : decode prog_4_method_13_code 89 = .ok (.iconst 0, 1) := by decide +kernel
theorem dS_placeAlike_90 : decode prog_4_method_13_code 90 = .ok (.istore 4, 2) := by decide +kernel
theorem dS_placeAlike_92 : decode prog_4_method_13_code 92 = .ok (.iload 4, 2) := by decide +kernel
theorem dS_placeAlike_94 : decode prog_4_method_13_code 94 = .ok (.aload_n 0, 1) := by decide +kernel
theorem dS_placeAlike_95 : decode prog_4_method_13_code 95 = .ok (.getfield 25, 3) := by decide +kernel
theorem dS_placeAlike_98 : decode prog_4_method_13_code 98 = .ok (.arraylength, 1) := by decide +kernel
theorem dS_placeAlike_99 : decode prog_4_method_13_code 99 = .ok (.if_icmp .ge 21, 3) := by decide +kernel
theorem dS_placeAlike_102 : decode prog_4_method_13_code 102 = .ok (.aload_n 0, 1) := by decide +kernel
theorem dS_placeAlike_103 : decode prog_4_method_13_code 103 = .ok (.getfield 25, 3) := by decide +kernel
theorem dS_placeAlike_106 : decode prog_4_method_13_code 106 = .ok (.iload 4, 2) := by decide +kernel
theorem dS_placeAlike_108 : decode prog_4_method_13_code 108 = .ok (.iaload, 1) := by decide +kernel
theorem dS_placeAlike_109 : decode prog_4_method_13_code 109 = .ok (.ifCond .eq 5, 3) := by decide +kernel
theorem dS_placeAlike_112 : decode prog_4_method_13_code 112 = .ok (.iconst 0, 1) := by decide +kernel
theorem dS_placeAlike_113 : decode prog_4_method_13_code 113 = .ok (.ireturn, 1) := by decide +kernel
theorem dS_placeAlike_114 : decode prog_4_method_13_code 114 = .ok (.iinc 4 1, 3) := by decide +kernel
theorem dS_placeAlike_117 : decode prog_4_method_13_code 117 = .ok (.goto (-25), 3) := by decide +kernel
theorem dS_placeAlike_120 : decode prog_4_method_13_code 120 = .ok (.iconst 1, 1) := by decide +kernel
theorem dS_placeAlike_121 : decode prog_4_method_13_code 121 = .ok (.ireturn, 1) := by decide +kernel
theorem dS_weigh_0 : decode prog_4_method_14_code 0 = .ok (.iload_n 1, 1) := by decide +kernel
theorem dS_weigh_1 : decode prog_4_method_14_code 1 = .ok (.iload_n 3, 1) := by decide +kernel
theorem dS_weigh_2 : decode prog_4_method_14_code 2 = .ok (.invokestatic 51, 3) := by decide +kernel
theorem dS_weigh_5 : decode prog_4_method_14_code 5 = .ok (.ifCond .ne 4, 3) := by decide +kernel
theorem dS_weigh_8 : decode prog_4_method_14_code 8 = .ok (.return_, 1) := by decide +kernel
theorem dS_weigh_9 : decode prog_4_method_14_code 9 = .ok (.aload_n 0, 1) := by decide +kernel
theorem dS_weigh_10 : decode prog_4_method_14_code 10 = .ok (.iload_n 2, 1) := by decide +kernel
theorem dS_weigh_11 : decode prog_4_method_14_code 11 = .ok (.invokevirtual 73, 3) := by decide +kernel
theorem dS_weigh_14 : decode prog_4_method_14_code 14 = .ok (.iconst 4, 1) := by decide +kernel
theorem dS_weigh_15 : decode prog_4_method_14_code 15 = .ok (.imul, 1) := by decide +kernel
theorem dS_weigh_16 : decode prog_4_method_14_code 16 = .ok (.aload_n 0, 1) := by decide +kernel
theorem dS_weigh_17 : decode prog_4_method_14_code 17 = .ok (.getfield 9, 3) := by decide +kernel
theorem dS_weigh_20 : decode prog_4_method_14_code 20 = .ok (.iload_n 3, 1) := by decide +kernel
theorem dS_weigh_21 : decode prog_4_method_14_code 21 = .ok (.iload_n 1, 1) := by decide +kernel
theorem dS_weigh_22 : decode prog_4_method_14_code 22 = .ok (.invokevirtual 54, 3) := by decide +kernel
theorem dS_weigh_25 : decode prog_4_method_14_code 25 = .ok (.iadd, 1) := by decide +kernel
theorem dS_weigh_26 : decode prog_4_method_14_code 26 = .ok (.istore 5, 2) := by decide +kernel
theorem dS_weigh_28 : decode prog_4_method_14_code 28 = .ok (.iload 5, 2) := by decide +kernel
theorem dS_weigh_30 : decode prog_4_method_14_code 30 = .ok (.ifCond .lt 25, 3) := by decide +kernel
theorem dS_weigh_33 : decode prog_4_method_14_code 33 = .ok (.iload 5, 2) := by decide +kernel
theorem dS_weigh_35 : decode prog_4_method_14_code 35 = .ok (.aload_n 0, 1) := by decide +kernel
theorem dS_weigh_36 : decode prog_4_method_14_code 36 = .ok (.getfield 25, 3) := by decide +kernel
theorem dS_weigh_39 : decode prog_4_method_14_code 39 = .ok (.arraylength, 1) := by decide +kernel
theorem dS_weigh_40 : decode prog_4_method_14_code 40 = .ok (.if_icmp .ge 15, 3) := by decide +kernel
theorem dS_weigh_43 : decode prog_4_method_14_code 43 = .ok (.aload_n 0, 1) := by decide +kernel
theorem dS_weigh_44 : decode prog_4_method_14_code 44 = .ok (.getfield 25, 3) := by decide +kernel
theorem dS_weigh_47 : decode prog_4_method_14_code 47 = .ok (.iload 5, 2) := by decide +kernel
theorem dS_weigh_49 : decode prog_4_method_14_code 49 = .ok (.dup2, 1) := by decide +kernel
theorem dS_weigh_50 : decode prog_4_method_14_code 50 = .ok (.iaload, 1) := by decide +kernel
theorem dS_weigh_51 : decode prog_4_method_14_code 51 = .ok (.iload 4, 2) := by decide +kernel
theorem dS_weigh_53 : decode prog_4_method_14_code 53 = .ok (.iadd, 1) := by decide +kernel
theorem dS_weigh_54 : decode prog_4_method_14_code 54 = .ok (.iastore, 1) := by decide +kernel
theorem dS_weigh_55 : decode prog_4_method_14_code 55 = .ok (.return_, 1) := by decide +kernel
theorem dR_ringsThrough_0 : decode prog_3_method_2_code 0 = .ok (.aload_n 0, 1) := by decide +kernel
theorem dR_ringsThrough_1 : decode prog_3_method_2_code 1 = .ok (.iload_n 2, 1) := by decide +kernel
theorem dR_ringsThrough_2 : decode prog_3_method_2_code 2 = .ok (.invokevirtual 9, 3) := by decide +kernel
theorem dR_ringsThrough_5 : decode prog_3_method_2_code 5 = .ok (.iload_n 3, 1) := by decide +kernel
theorem dR_ringsThrough_6 : decode prog_3_method_2_code 6 = .ok (.iand, 1) := by decide +kernel
theorem dR_ringsThrough_7 : decode prog_3_method_2_code 7 = .ok (.istore 4, 2) := by decide +kernel
theorem dR_ringsThrough_9 : decode prog_3_method_2_code 9 = .ok (.iconst 0, 1) := by decide +kernel
theorem dR_ringsThrough_10 : decode prog_3_method_2_code 10 = .ok (.istore 5, 2) := by decide +kernel
theorem dR_ringsThrough_12 : decode prog_3_method_2_code 12 = .ok (.iconst 0, 1) := by decide +kernel
theorem dR_ringsThrough_13 : decode prog_3_method_2_code 13 = .ok (.istore 6, 2) := by decide +kernel
theorem dR_ringsThrough_15 : decode prog_3_method_2_code 15 = .ok (.iload 6, 2) := by decide +kernel
theorem dR_ringsThrough_17 : decode prog_3_method_2_code 17 = .ok (.bipush 14, 2) := by decide +kernel
theorem dR_ringsThrough_19 : decode prog_3_method_2_code 19 = .ok (.if_icmp .ge 77, 3) := by decide +kernel
theorem dR_ringsThrough_22 : decode prog_3_method_2_code 22 = .ok (.iload 6, 2) := by decide +kernel
theorem dR_ringsThrough_24 : decode prog_3_method_2_code 24 = .ok (.iconst 1, 1) := by decide +kernel
theorem dR_ringsThrough_25 : decode prog_3_method_2_code 25 = .ok (.iadd, 1) := by decide +kernel
theorem dR_ringsThrough_26 : decode prog_3_method_2_code 26 = .ok (.istore 7, 2) := by decide +kernel
theorem dR_ringsThrough_28 : decode prog_3_method_2_code 28 = .ok (.iload 7, 2) := by decide +kernel
theorem dR_ringsThrough_30 : decode prog_3_method_2_code 30 = .ok (.bipush 14, 2) := by decide +kernel
theorem dR_ringsThrough_32 : decode prog_3_method_2_code 32 = .ok (.if_icmp .ge 58, 3) := by decide +kernel
theorem dR_ringsThrough_35 : decode prog_3_method_2_code 35 = .ok (.iload 4, 2) := by decide +kernel
theorem dR_ringsThrough_37 : decode prog_3_method_2_code 37 = .ok (.iload 6, 2) := by decide +kernel
theorem dR_ringsThrough_39 : decode prog_3_method_2_code 39 = .ok (.invokestatic 15, 3) := by decide +kernel
theorem dR_ringsThrough_42 : decode prog_3_method_2_code 42 = .ok (.ifCond .eq 42, 3) := by decide +kernel
theorem dR_ringsThrough_45 : decode prog_3_method_2_code 45 = .ok (.iload 4, 2) := by decide +kernel
theorem dR_ringsThrough_47 : decode prog_3_method_2_code 47 = .ok (.iload 7, 2) := by decide +kernel
theorem dR_ringsThrough_49 : decode prog_3_method_2_code 49 = .ok (.invokestatic 15, 3) := by decide +kernel
theorem dR_ringsThrough_52 : decode prog_3_method_2_code 52 = .ok (.ifCond .eq 32, 3) := by decide +kernel
theorem dR_ringsThrough_55 : decode prog_3_method_2_code 55 = .ok (.iload 5, 2) := by decide +kernel
theorem dR_ringsThrough_57 : decode prog_3_method_2_code 57 = .ok (.aload_n 0, 1) := by decide +kernel
theorem dR_ringsThrough_58 : decode prog_3_method_2_code 58 = .ok (.iload_n 1, 1) := by decide +kernel
theorem dR_ringsThrough_59 : decode prog_3_method_2_code 59 = .ok (.iconst 2, 1) := by decide +kernel
theorem dR_ringsThrough_60 : decode prog_3_method_2_code 60 = .ok (.isub, 1) := by decide +kernel
theorem dR_ringsThrough_61 : decode prog_3_method_2_code 61 = .ok (.iload 6, 2) := by decide +kernel
theorem dR_ringsThrough_63 : decode prog_3_method_2_code 63 = .ok (.iload 7, 2) := by decide +kernel
theorem dR_ringsThrough_65 : decode prog_3_method_2_code 65 = .ok (.iload_n 3, 1) := by decide +kernel
theorem dR_ringsThrough_66 : decode prog_3_method_2_code 66 = .ok (.iconst 1, 1) := by decide +kernel
theorem dR_ringsThrough_67 : decode prog_3_method_2_code 67 = .ok (.iload 6, 2) := by decide +kernel
theorem dR_ringsThrough_69 : decode prog_3_method_2_code 69 = .ok (.ishl, 1) := by decide +kernel
theorem dR_ringsThrough_70 : decode prog_3_method_2_code 70 = .ok (.iconst 1, 1) := by decide +kernel
theorem dR_ringsThrough_71 : decode prog_3_method_2_code 71 = .ok (.iload 7, 2) := by decide +kernel
theorem dR_ringsThrough_73 : decode prog_3_method_2_code 73 = .ok (.ishl, 1) := by decide +kernel
theorem dR_ringsThrough_74 : decode prog_3_method_2_code 74 = .ok (.ior, 1) := by decide +kernel
theorem dR_ringsThrough_75 : decode prog_3_method_2_code 75 = .ok (.iconst (-1), 1) := by decide +kernel
theorem dR_ringsThrough_76 : decode prog_3_method_2_code 76 = .ok (.ixor, 1) := by decide +kernel
theorem dR_ringsThrough_77 : decode prog_3_method_2_code 77 = .ok (.iand, 1) := by decide +kernel
theorem dR_ringsThrough_78 : decode prog_3_method_2_code 78 = .ok (.invokestatic 19, 3) := by decide +kernel
theorem dR_ringsThrough_81 : decode prog_3_method_2_code 81 = .ok (.iadd, 1) := by decide +kernel
theorem dR_ringsThrough_82 : decode prog_3_method_2_code 82 = .ok (.istore 5, 2) := by decide +kernel
theorem dR_ringsThrough_84 : decode prog_3_method_2_code 84 = .ok (.iinc 7 1, 3) := by decide +kernel
theorem dR_ringsThrough_87 : decode prog_3_method_2_code 87 = .ok (.goto (-59), 3) := by decide +kernel
theorem dR_ringsThrough_90 : decode prog_3_method_2_code 90 = .ok (.iinc 6 1, 3) := by decide +kernel
theorem dR_ringsThrough_93 : decode prog_3_method_2_code 93 = .ok (.goto (-78), 3) := by decide +kernel
theorem dR_ringsThrough_96 : decode prog_3_method_2_code 96 = .ok (.iload 5, 2) := by decide +kernel
theorem dR_ringsThrough_98 : decode prog_3_method_2_code 98 = .ok (.ireturn, 1) := by decide +kernel
theorem dR_waysBetween_0 : decode prog_3_method_3_code 0 = .ok (.iload_n 1, 1) := by decide +kernel
theorem dR_waysBetween_1 : decode prog_3_method_3_code 1 = .ok (.iconst 1, 1) := by decide +kernel
theorem dR_waysBetween_2 : decode prog_3_method_3_code 2 = .ok (.if_icmp .gt 23, 3) := by decide +kernel
theorem dR_waysBetween_5 : decode prog_3_method_3_code 5 = .ok (.iload_n 1, 1) := by decide +kernel
theorem dR_waysBetween_6 : decode prog_3_method_3_code 6 = .ok (.iconst 1, 1) := by decide +kernel
theorem dR_waysBetween_7 : decode prog_3_method_3_code 7 = .ok (.if_icmp .ne 16, 3) := by decide +kernel
theorem dR_waysBetween_10 : decode prog_3_method_3_code 10 = .ok (.aload_n 0, 1) := by decide +kernel
theorem dR_waysBetween_11 : decode prog_3_method_3_code 11 = .ok (.iload_n 2, 1) := by decide +kernel
theorem dR_waysBetween_12 : decode prog_3_method_3_code 12 = .ok (.iload_n 3, 1) := by decide +kernel
theorem dR_waysBetween_13 : decode prog_3_method_3_code 13 = .ok (.invokevirtual 25, 3) := by decide +kernel
theorem dR_waysBetween_16 : decode prog_3_method_3_code 16 = .ok (.ifCond .eq 7, 3) := by decide +kernel
theorem dR_waysBetween_19 : decode prog_3_method_3_code 19 = .ok (.iconst 1, 1) := by decide +kernel
theorem dR_waysBetween_20 : decode prog_3_method_3_code 20 = .ok (.goto 4, 3) := by decide +kernel
theorem dR_waysBetween_23 : decode prog_3_method_3_code 23 = .ok (.iconst 0, 1) := by decide +kernel
theorem dR_waysBetween_24 : decode prog_3_method_3_code 24 = .ok (.ireturn, 1) := by decide +kernel
theorem dR_waysBetween_25 : decode prog_3_method_3_code 25 = .ok (.aload_n 0, 1) := by decide +kernel
theorem dR_waysBetween_26 : decode prog_3_method_3_code 26 = .ok (.iload_n 2, 1) := by decide +kernel
theorem dR_waysBetween_27 : decode prog_3_method_3_code 27 = .ok (.invokevirtual 9, 3) := by decide +kernel
theorem dR_waysBetween_30 : decode prog_3_method_3_code 30 = .ok (.iload 4, 2) := by decide +kernel
theorem dR_waysBetween_32 : decode prog_3_method_3_code 32 = .ok (.iand, 1) := by decide +kernel
theorem dR_waysBetween_33 : decode prog_3_method_3_code 33 = .ok (.istore 5, 2) := by decide +kernel
theorem dR_waysBetween_35 : decode prog_3_method_3_code 35 = .ok (.iload_n 1, 1) := by decide +kernel
theorem dR_waysBetween_36 : decode prog_3_method_3_code 36 = .ok (.iconst 2, 1) := by decide +kernel
theorem dR_waysBetween_37 : decode prog_3_method_3_code 37 = .ok (.if_icmp .ne 15, 3) := by decide +kernel
theorem dR_waysBetween_40 : decode prog_3_method_3_code 40 = .ok (.iload 5, 2) := by decide +kernel
theorem dR_waysBetween_42 : decode prog_3_method_3_code 42 = .ok (.aload_n 0, 1) := by decide +kernel
theorem dR_waysBetween_43 : decode prog_3_method_3_code 43 = .ok (.iload_n 3, 1) := by decide +kernel
theorem dR_waysBetween_44 : decode prog_3_method_3_code 44 = .ok (.invokevirtual 9, 3) := by decide +kernel
theorem dR_waysBetween_47 : decode prog_3_method_3_code 47 = .ok (.iand, 1) := by decide +kernel
theorem dR_waysBetween_48 : decode prog_3_method_3_code 48 = .ok (.invokestatic 28, 3) := by decide +kernel
theorem dR_waysBetween_51 : decode prog_3_method_3_code 51 = .ok (.ireturn, 1) := by decide +kernel
theorem dR_waysBetween_52 : decode prog_3_method_3_code 52 = .ok (.iconst 0, 1) := by decide +kernel
theorem dR_waysBetween_53 : decode prog_3_method_3_code 53 = .ok (.istore 6, 2) := by decide +kernel
theorem dR_waysBetween_55 : decode prog_3_method_3_code 55 = .ok (.iconst 0, 1) := by decide +kernel
theorem dR_waysBetween_56 : decode prog_3_method_3_code 56 = .ok (.istore 7, 2) := by decide +kernel
theorem dR_waysBetween_58 : decode prog_3_method_3_code 58 = .ok (.iload 7, 2) := by decide +kernel
theorem dR_waysBetween_60 : decode prog_3_method_3_code 60 = .ok (.bipush 14, 2) := by decide +kernel
theorem dR_waysBetween_62 : decode prog_3_method_3_code 62 = .ok (.if_icmp .ge 43, 3) := by decide +kernel
theorem dR_waysBetween_65 : decode prog_3_method_3_code 65 = .ok (.iload 5, 2) := by decide +kernel
theorem dR_waysBetween_67 : decode prog_3_method_3_code 67 = .ok (.iload 7, 2) := by decide +kernel
theorem dR_waysBetween_69 : decode prog_3_method_3_code 69 = .ok (.invokestatic 15, 3) := by decide +kernel
theorem dR_waysBetween_72 : decode prog_3_method_3_code 72 = .ok (.ifCond .eq 27, 3) := by decide +kernel
theorem dR_waysBetween_75 : decode prog_3_method_3_code 75 = .ok (.iload 6, 2) := by decide +kernel
theorem dR_waysBetween_77 : decode prog_3_method_3_code 77 = .ok (.aload_n 0, 1) := by decide +kernel
theorem dR_waysBetween_78 : decode prog_3_method_3_code 78 = .ok (.iload_n 1, 1) := by decide +kernel
theorem dR_waysBetween_79 : decode prog_3_method_3_code 79 = .ok (.iconst 1, 1) := by decide +kernel
theorem dR_waysBetween_80 : decode prog_3_method_3_code 80 = .ok (.isub, 1) := by decide +kernel
theorem dR_waysBetween_81 : decode prog_3_method_3_code 81 = .ok (.iload 7, 2) := by decide +kernel
theorem dR_waysBetween_83 : decode prog_3_method_3_code 83 = .ok (.iload_n 3, 1) := by decide +kernel
theorem dR_waysBetween_84 : decode prog_3_method_3_code 84 = .ok (.iload 4, 2) := by decide +kernel
theorem dR_waysBetween_86 : decode prog_3_method_3_code 86 = .ok (.iconst 1, 1) := by decide +kernel
theorem dR_waysBetween_87 : decode prog_3_method_3_code 87 = .ok (.iload 7, 2) := by decide +kernel
theorem dR_waysBetween_89 : decode prog_3_method_3_code 89 = .ok (.ishl, 1) := by decide +kernel
theorem dR_waysBetween_90 : decode prog_3_method_3_code 90 = .ok (.iconst (-1), 1) := by decide +kernel
theorem dR_waysBetween_91 : decode prog_3_method_3_code 91 = .ok (.ixor, 1) := by decide +kernel
theorem dR_waysBetween_92 : decode prog_3_method_3_code 92 = .ok (.iand, 1) := by decide +kernel
theorem dR_waysBetween_93 : decode prog_3_method_3_code 93 = .ok (.invokestatic 19, 3) := by decide +kernel
theorem dR_waysBetween_96 : decode prog_3_method_3_code 96 = .ok (.iadd, 1) := by decide +kernel
theorem dR_waysBetween_97 : decode prog_3_method_3_code 97 = .ok (.istore 6, 2) := by decide +kernel
theorem dR_waysBetween_99 : decode prog_3_method_3_code 99 = .ok (.iinc 7 1, 3) := by decide +kernel
theorem dR_waysBetween_102 : decode prog_3_method_3_code 102 = .ok (.goto (-44), 3) := by decide +kernel
theorem dR_waysBetween_105 : decode prog_3_method_3_code 105 = .ok (.iload 6, 2) := by decide +kernel
theorem dR_waysBetween_107 : decode prog_3_method_3_code 107 = .ok (.ireturn, 1) := by decide +kernel
theorem dI_bitCount_0 : decode prog_7_method_49_code 0 = .ok (.iload_n 0, 1) := by decide +kernel
theorem dI_bitCount_1 : decode prog_7_method_49_code 1 = .ok (.iload_n 0, 1) := by decide +kernel
theorem dI_bitCount_2 : decode prog_7_method_49_code 2 = .ok (.iconst 1, 1) := by decide +kernel
theorem dI_bitCount_3 : decode prog_7_method_49_code 3 = .ok (.iushr, 1) := by decide +kernel
theorem dI_bitCount_4 : decode prog_7_method_49_code 4 = .ok (.ldc_w 265, 3) := by decide +kernel
theorem dI_bitCount_7 : decode prog_7_method_49_code 7 = .ok (.iand, 1) := by decide +kernel
theorem dI_bitCount_8 : decode prog_7_method_49_code 8 = .ok (.isub, 1) := by decide +kernel
theorem dI_bitCount_9 : decode prog_7_method_49_code 9 = .ok (.istore_n 0, 1) := by decide +kernel
theorem dI_bitCount_10 : decode prog_7_method_49_code 10 = .ok (.iload_n 0, 1) := by decide +kernel
theorem dI_bitCount_11 : decode prog_7_method_49_code 11 = .ok (.ldc_w 266, 3) := by decide +kernel
theorem dI_bitCount_14 : decode prog_7_method_49_code 14 = .ok (.iand, 1) := by decide +kernel
theorem dI_bitCount_15 : decode prog_7_method_49_code 15 = .ok (.iload_n 0, 1) := by decide +kernel
theorem dI_bitCount_16 : decode prog_7_method_49_code 16 = .ok (.iconst 2, 1) := by decide +kernel
theorem dI_bitCount_17 : decode prog_7_method_49_code 17 = .ok (.iushr, 1) := by decide +kernel
theorem dI_bitCount_18 : decode prog_7_method_49_code 18 = .ok (.ldc_w 266, 3) := by decide +kernel
theorem dI_bitCount_21 : decode prog_7_method_49_code 21 = .ok (.iand, 1) := by decide +kernel
theorem dI_bitCount_22 : decode prog_7_method_49_code 22 = .ok (.iadd, 1) := by decide +kernel
theorem dI_bitCount_23 : decode prog_7_method_49_code 23 = .ok (.istore_n 0, 1) := by decide +kernel
theorem dI_bitCount_24 : decode prog_7_method_49_code 24 = .ok (.iload_n 0, 1) := by decide +kernel
theorem dI_bitCount_25 : decode prog_7_method_49_code 25 = .ok (.iload_n 0, 1) := by decide +kernel
theorem dI_bitCount_26 : decode prog_7_method_49_code 26 = .ok (.iconst 4, 1) := by decide +kernel
theorem dI_bitCount_27 : decode prog_7_method_49_code 27 = .ok (.iushr, 1) := by decide +kernel
theorem dI_bitCount_28 : decode prog_7_method_49_code 28 = .ok (.iadd, 1) := by decide +kernel
theorem dI_bitCount_29 : decode prog_7_method_49_code 29 = .ok (.ldc_w 267, 3) := by decide +kernel
theorem dI_bitCount_32 : decode prog_7_method_49_code 32 = .ok (.iand, 1) := by decide +kernel
theorem dI_bitCount_33 : decode prog_7_method_49_code 33 = .ok (.istore_n 0, 1) := by decide +kernel
theorem dI_bitCount_34 : decode prog_7_method_49_code 34 = .ok (.iload_n 0, 1) := by decide +kernel
theorem dI_bitCount_35 : decode prog_7_method_49_code 35 = .ok (.iload_n 0, 1) := by decide +kernel
theorem dI_bitCount_36 : decode prog_7_method_49_code 36 = .ok (.bipush 8, 2) := by decide +kernel
theorem dI_bitCount_38 : decode prog_7_method_49_code 38 = .ok (.iushr, 1) := by decide +kernel
theorem dI_bitCount_39 : decode prog_7_method_49_code 39 = .ok (.iadd, 1) := by decide +kernel
theorem dI_bitCount_40 : decode prog_7_method_49_code 40 = .ok (.istore_n 0, 1) := by decide +kernel
theorem dI_bitCount_41 : decode prog_7_method_49_code 41 = .ok (.iload_n 0, 1) := by decide +kernel
theorem dI_bitCount_42 : decode prog_7_method_49_code 42 = .ok (.iload_n 0, 1) := by decide +kernel
theorem dI_bitCount_43 : decode prog_7_method_49_code 43 = .ok (.bipush 16, 2) := by decide +kernel
theorem dI_bitCount_45 : decode prog_7_method_49_code 45 = .ok (.iushr, 1) := by decide +kernel
theorem dI_bitCount_46 : decode prog_7_method_49_code 46 = .ok (.iadd, 1) := by decide +kernel
theorem dI_bitCount_47 : decode prog_7_method_49_code 47 = .ok (.istore_n 0, 1) := by decide +kernel
theorem dI_bitCount_48 : decode prog_7_method_49_code 48 = .ok (.iload_n 0, 1) := by decide +kernel
theorem dI_bitCount_49 : decode prog_7_method_49_code 49 = .ok (.bipush 63, 2) := by decide +kernel
theorem dI_bitCount_51 : decode prog_7_method_49_code 51 = .ok (.iand, 1) := by decide +kernel
theorem dI_bitCount_52 : decode prog_7_method_49_code 52 = .ok (.ireturn, 1) := by decide +kernel
theorem dA_fill_0 : decode prog_8_method_103_code 0 = .ok (.iconst 0, 1) := by decide +kernel
theorem dA_fill_1 : decode prog_8_method_103_code 1 = .ok (.istore_n 2, 1) := by decide +kernel
theorem dA_fill_2 : decode prog_8_method_103_code 2 = .ok (.aload_n 0, 1) := by decide +kernel
theorem dA_fill_3 : decode prog_8_method_103_code 3 = .ok (.arraylength, 1) := by decide +kernel
theorem dA_fill_4 : decode prog_8_method_103_code 4 = .ok (.istore_n 3, 1) := by decide +kernel
theorem dA_fill_5 : decode prog_8_method_103_code 5 = .ok (.iload_n 2, 1) := by decide +kernel
theorem dA_fill_6 : decode prog_8_method_103_code 6 = .ok (.iload_n 3, 1) := by decide +kernel
theorem dA_fill_7 : decode prog_8_method_103_code 7 = .ok (.if_icmp .ge 13, 3) := by decide +kernel
theorem dA_fill_10 : decode prog_8_method_103_code 10 = .ok (.aload_n 0, 1) := by decide +kernel
theorem dA_fill_11 : decode prog_8_method_103_code 11 = .ok (.iload_n 2, 1) := by decide +kernel
theorem dA_fill_12 : decode prog_8_method_103_code 12 = .ok (.iload_n 1, 1) := by decide +kernel
theorem dA_fill_13 : decode prog_8_method_103_code 13 = .ok (.iastore, 1) := by decide +kernel
theorem dA_fill_14 : decode prog_8_method_103_code 14 = .ok (.iinc 2 1, 3) := by decide +kernel
theorem dA_fill_17 : decode prog_8_method_103_code 17 = .ok (.goto (-12), 3) := by decide +kernel
theorem dA_fill_20 : decode prog_8_method_103_code 20 = .ok (.return_, 1) := by decide +kernel
