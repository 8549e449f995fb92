theorem dJ9_max_7cf53_0 : decode cJ9_max_7cf53 0 = .ok (.iload_n 0, 1) := by decide +kernel
theorem dJ9_max_7cf53_1 : decode cJ9_max_7cf53 1 = .ok (.iload_n 1, 1) := by decide +kernel
theorem dJ9_max_7cf53_2 : decode cJ9_max_7cf53 2 = .ok (.if_icmp .lt 7, 3) := by decide +kernel
theorem dJ9_max_7cf53_5 : decode cJ9_max_7cf53 5 = .ok (.iload_n 0, 1) := by decide +kernel
theorem dJ9_max_7cf53_6 : decode cJ9_max_7cf53 6 = .ok (.goto 4, 3) := by decide +kernel
theorem dJ9_max_7cf53_9 : decode cJ9_max_7cf53 9 = .ok (.iload_n 1, 1) := by decide +kernel
theorem dJ9_max_7cf53_10 : decode cJ9_max_7cf53 10 = .ok (.ireturn, 1) := by decide +kernel
theorem dJ9_min_7cf53_0 : decode cJ9_min_7cf53 0 = .ok (.iload_n 0, 1) := by decide +kernel
theorem dJ9_min_7cf53_1 : decode cJ9_min_7cf53 1 = .ok (.iload_n 1, 1) := by decide +kernel
theorem dJ9_min_7cf53_2 : decode cJ9_min_7cf53 2 = .ok (.if_icmp .gt 7, 3) := by decide +kernel
theorem dJ9_min_7cf53_5 : decode cJ9_min_7cf53 5 = .ok (.iload_n 0, 1) := by decide +kernel
theorem dJ9_min_7cf53_6 : decode cJ9_min_7cf53 6 = .ok (.goto 4, 3) := by decide +kernel
theorem dJ9_min_7cf53_9 : decode cJ9_min_7cf53 9 = .ok (.iload_n 1, 1) := by decide +kernel
theorem dJ9_min_7cf53_10 : decode cJ9_min_7cf53 10 = .ok (.ireturn, 1) := by decide +kernel
theorem dL_cell_0 : decode cL_cell 0 = .ok (.iload_n 1, 1) := by decide +kernel
theorem dL_cell_1 : decode cL_cell 1 = .ok (.aload_n 0, 1) := by decide +kernel
theorem dL_cell_2 : decode cL_cell 2 = .ok (.arraylength, 1) := by decide +kernel
theorem dL_cell_3 : decode cL_cell 3 = .ok (.if_icmp .ge 9, 3) := by decide +kernel
theorem dL_cell_6 : decode cL_cell 6 = .ok (.aload_n 0, 1) := by decide +kernel
theorem dL_cell_7 : decode cL_cell 7 = .ok (.iload_n 1, 1) := by decide +kernel
theorem dL_cell_8 : decode cL_cell 8 = .ok (.iaload, 1) := by decide +kernel
theorem dL_cell_9 : decode cL_cell 9 = .ok (.goto 9, 3) := by decide +kernel
theorem dL_cell_12 : decode cL_cell 12 = .ok (.ldc 7, 2) := by decide +kernel
theorem dL_cell_14 : decode cL_cell 14 = .ok (.iload_n 1, 1) := by decide +kernel
theorem dL_cell_15 : decode cL_cell 15 = .ok (.iconst 3, 1) := by decide +kernel
theorem dL_cell_16 : decode cL_cell 16 = .ok (.iadd, 1) := by decide +kernel
theorem dL_cell_17 : decode cL_cell 17 = .ok (.imul, 1) := by decide +kernel
theorem dL_cell_18 : decode cL_cell 18 = .ok (.istore_n 2, 1) := by decide +kernel
theorem dL_cell_19 : decode cL_cell 19 = .ok (.iload_n 2, 1) := by decide +kernel
theorem dL_cell_20 : decode cL_cell 20 = .ok (.iload_n 2, 1) := by decide +kernel
theorem dL_cell_21 : decode cL_cell 21 = .ok (.bipush 15, 2) := by decide +kernel
theorem dL_cell_23 : decode cL_cell 23 = .ok (.iushr, 1) := by decide +kernel
theorem dL_cell_24 : decode cL_cell 24 = .ok (.ixor, 1) := by decide +kernel
theorem dL_cell_25 : decode cL_cell 25 = .ok (.ireturn, 1) := by decide +kernel
theorem dL_low_0 : decode cL_low 0 = .ok (.iload_n 0, 1) := by decide +kernel
theorem dL_low_1 : decode cL_low 1 = .ok (.ldc 8, 2) := by decide +kernel
theorem dL_low_3 : decode cL_low 3 = .ok (.iand, 1) := by decide +kernel
theorem dL_low_4 : decode cL_low 4 = .ok (.iload_n 1, 1) := by decide +kernel
theorem dL_low_5 : decode cL_low 5 = .ok (.irem, 1) := by decide +kernel
theorem dL_low_6 : decode cL_low 6 = .ok (.ireturn, 1) := by decide +kernel
theorem dL_joins_0 : decode cL_joins 0 = .ok (.aload_n 0, 1) := by decide +kernel
theorem dL_joins_1 : decode cL_joins 1 = .ok (.iload_n 1, 1) := by decide +kernel
theorem dL_joins_2 : decode cL_joins 2 = .ok (.iload_n 2, 1) := by decide +kernel
theorem dL_joins_3 : decode cL_joins 3 = .ok (.iload_n 3, 1) := by decide +kernel
theorem dL_joins_4 : decode cL_joins 4 = .ok (.invokevirtual 9, 3) := by decide +kernel
theorem dL_joins_7 : decode cL_joins 7 = .ok (.ireturn, 1) := by decide +kernel
theorem dL_joins_8 : decode cL_joins 8 = .ok (.astore 4, 2) := by decide +kernel
theorem dL_joins_10 : decode cL_joins 10 = .ok (.ldc 17, 2) := by decide +kernel
theorem dL_joins_12 : decode cL_joins 12 = .ok (.ireturn, 1) := by decide +kernel
theorem dL_joins_13 : decode cL_joins 13 = .ok (.astore 4, 2) := by decide +kernel
theorem dL_joins_15 : decode cL_joins 15 = .ok (.ldc 20, 2) := by decide +kernel
theorem dL_joins_17 : decode cL_joins 17 = .ok (.ireturn, 1) := by decide +kernel
theorem dL_joins_18 : decode cL_joins 18 = .ok (.astore 4, 2) := by decide +kernel
theorem dL_joins_20 : decode cL_joins 20 = .ok (.ldc 23, 2) := by decide +kernel
theorem dL_joins_22 : decode cL_joins 22 = .ok (.ireturn, 1) := by decide +kernel
theorem dL_goes_0 : decode cL_goes 0 = .ok (.aload_n 0, 1) := by decide +kernel
theorem dL_goes_1 : decode cL_goes 1 = .ok (.iload_n 1, 1) := by decide +kernel
theorem dL_goes_2 : decode cL_goes 2 = .ok (.iload_n 2, 1) := by decide +kernel
theorem dL_goes_3 : decode cL_goes 3 = .ok (.invokevirtual 24, 3) := by decide +kernel
theorem dL_goes_6 : decode cL_goes 6 = .ok (.ireturn, 1) := by decide +kernel
theorem dL_goes_7 : decode cL_goes 7 = .ok (.astore_n 3, 1) := by decide +kernel
theorem dL_goes_8 : decode cL_goes 8 = .ok (.ldc 17, 2) := by decide +kernel
theorem dL_goes_10 : decode cL_goes 10 = .ok (.ireturn, 1) := by decide +kernel
theorem dL_goes_11 : decode cL_goes 11 = .ok (.astore_n 3, 1) := by decide +kernel
theorem dL_goes_12 : decode cL_goes 12 = .ok (.ldc 23, 2) := by decide +kernel
theorem dL_goes_14 : decode cL_goes 14 = .ok (.ireturn, 1) := by decide +kernel
theorem dL_quits_0 : decode cL_quits 0 = .ok (.aload_n 0, 1) := by decide +kernel
theorem dL_quits_1 : decode cL_quits 1 = .ok (.iload_n 1, 1) := by decide +kernel
theorem dL_quits_2 : decode cL_quits 2 = .ok (.invokevirtual 28, 3) := by decide +kernel
theorem dL_quits_5 : decode cL_quits 5 = .ok (.ireturn, 1) := by decide +kernel
theorem dL_quits_6 : decode cL_quits 6 = .ok (.astore_n 2, 1) := by decide +kernel
theorem dL_quits_7 : decode cL_quits 7 = .ok (.ldc 17, 2) := by decide +kernel
theorem dL_quits_9 : decode cL_quits 9 = .ok (.ireturn, 1) := by decide +kernel
theorem dL_quits_10 : decode cL_quits 10 = .ok (.astore_n 2, 1) := by decide +kernel
theorem dL_quits_11 : decode cL_quits 11 = .ok (.ldc 23, 2) := by decide +kernel
theorem dL_quits_13 : decode cL_quits 13 = .ok (.ireturn, 1) := by decide +kernel
theorem dL_levels_0 : decode cL_levels 0 = .ok (.aload_n 0, 1) := by decide +kernel
theorem dL_levels_1 : decode cL_levels 1 = .ok (.iload_n 1, 1) := by decide +kernel
theorem dL_levels_2 : decode cL_levels 2 = .ok (.iload_n 2, 1) := by decide +kernel
theorem dL_levels_3 : decode cL_levels 3 = .ok (.invokevirtual 32, 3) := by decide +kernel
theorem dL_levels_6 : decode cL_levels 6 = .ok (.ireturn, 1) := by decide +kernel
theorem dL_levels_7 : decode cL_levels 7 = .ok (.astore_n 3, 1) := by decide +kernel
theorem dL_levels_8 : decode cL_levels 8 = .ok (.ldc 17, 2) := by decide +kernel
theorem dL_levels_10 : decode cL_levels 10 = .ok (.ireturn, 1) := by decide +kernel
theorem dL_levels_11 : decode cL_levels 11 = .ok (.astore_n 3, 1) := by decide +kernel
theorem dL_levels_12 : decode cL_levels 12 = .ok (.ldc 20, 2) := by decide +kernel
theorem dL_levels_14 : decode cL_levels 14 = .ok (.ireturn, 1) := by decide +kernel
theorem dL_sets_0 : decode cL_sets 0 = .ok (.aload_n 0, 1) := by decide +kernel
theorem dL_sets_1 : decode cL_sets 1 = .ok (.iload_n 1, 1) := by decide +kernel
theorem dL_sets_2 : decode cL_sets 2 = .ok (.iload_n 2, 1) := by decide +kernel
theorem dL_sets_3 : decode cL_sets 3 = .ok (.invokevirtual 35, 3) := by decide +kernel
theorem dL_sets_6 : decode cL_sets 6 = .ok (.ireturn, 1) := by decide +kernel
theorem dL_sets_7 : decode cL_sets 7 = .ok (.astore_n 3, 1) := by decide +kernel
theorem dL_sets_8 : decode cL_sets 8 = .ok (.ldc 20, 2) := by decide +kernel
theorem dL_sets_10 : decode cL_sets 10 = .ok (.ireturn, 1) := by decide +kernel
theorem dL_sends_0 : decode cL_sends 0 = .ok (.aload_n 0, 1) := by decide +kernel
theorem dL_sends_1 : decode cL_sends 1 = .ok (.iload_n 1, 1) := by decide +kernel
theorem dL_sends_2 : decode cL_sends 2 = .ok (.iload_n 2, 1) := by decide +kernel
theorem dL_sends_3 : decode cL_sends 3 = .ok (.iload_n 3, 1) := by decide +kernel
theorem dL_sends_4 : decode cL_sends 4 = .ok (.invokevirtual 38, 3) := by decide +kernel
theorem dL_sends_7 : decode cL_sends 7 = .ok (.ireturn, 1) := by decide +kernel
theorem dL_sends_8 : decode cL_sends 8 = .ok (.astore 4, 2) := by decide +kernel
theorem dL_sends_10 : decode cL_sends 10 = .ok (.ldc 17, 2) := by decide +kernel
theorem dL_sends_12 : decode cL_sends 12 = .ok (.ireturn, 1) := by decide +kernel
theorem dL_sends_13 : decode cL_sends 13 = .ok (.astore 4, 2) := by decide +kernel
theorem dL_sends_15 : decode cL_sends 15 = .ok (.ldc 20, 2) := by decide +kernel
theorem dL_sends_17 : decode cL_sends 17 = .ok (.ireturn, 1) := by decide +kernel
theorem dL_sends_18 : decode cL_sends 18 = .ok (.astore 4, 2) := by decide +kernel
theorem dL_sends_20 : decode cL_sends 20 = .ok (.ldc 23, 2) := by decide +kernel
theorem dL_sends_22 : decode cL_sends 22 = .ok (.ireturn, 1) := by decide +kernel
theorem dL_passes_0 : decode cL_passes 0 = .ok (.aload_n 0, 1) := by decide +kernel
theorem dL_passes_1 : decode cL_passes 1 = .ok (.iload_n 1, 1) := by decide +kernel
theorem dL_passes_2 : decode cL_passes 2 = .ok (.invokevirtual 41, 3) := by decide +kernel
theorem dL_passes_5 : decode cL_passes 5 = .ok (.ireturn, 1) := by decide +kernel
theorem dL_passes_6 : decode cL_passes 6 = .ok (.astore_n 2, 1) := by decide +kernel
theorem dL_passes_7 : decode cL_passes 7 = .ok (.ldc 20, 2) := by decide +kernel
theorem dL_passes_9 : decode cL_passes 9 = .ok (.ireturn, 1) := by decide +kernel
theorem dL_passes_10 : decode cL_passes 10 = .ok (.astore_n 2, 1) := by decide +kernel
theorem dL_passes_11 : decode cL_passes 11 = .ok (.ldc 23, 2) := by decide +kernel
theorem dL_passes_13 : decode cL_passes 13 = .ok (.ireturn, 1) := by decide +kernel
theorem dL_one_0 : decode cL_one 0 = .ok (.aload_n 0, 1) := by decide +kernel
theorem dL_one_1 : decode cL_one 1 = .ok (.iload_n 1, 1) := by decide +kernel
theorem dL_one_2 : decode cL_one 2 = .ok (.iload_n 2, 1) := by decide +kernel
theorem dL_one_3 : decode cL_one 3 = .ok (.invokevirtual 44, 3) := by decide +kernel
theorem dL_one_6 : decode cL_one 6 = .ok (.ireturn, 1) := by decide +kernel
theorem dL_one_7 : decode cL_one 7 = .ok (.astore_n 3, 1) := by decide +kernel
theorem dL_one_8 : decode cL_one 8 = .ok (.ldc 17, 2) := by decide +kernel
theorem dL_one_10 : decode cL_one 10 = .ok (.ireturn, 1) := by decide +kernel
theorem dL_one_11 : decode cL_one 11 = .ok (.astore_n 3, 1) := by decide +kernel
theorem dL_one_12 : decode cL_one 12 = .ok (.ldc 20, 2) := by decide +kernel
theorem dL_one_14 : decode cL_one 14 = .ok (.ireturn, 1) := by decide +kernel
theorem dL_stay_0 : decode cL_stay 0 = .ok (.aload_n 0, 1) := by decide +kernel
theorem dL_stay_1 : decode cL_stay 1 = .ok (.iload_n 1, 1) := by decide +kernel
theorem dL_stay_2 : decode cL_stay 2 = .ok (.iload_n 2, 1) := by decide +kernel
theorem dL_stay_3 : decode cL_stay 3 = .ok (.iload_n 3, 1) := by decide +kernel
theorem dL_stay_4 : decode cL_stay 4 = .ok (.invokevirtual 47, 3) := by decide +kernel
theorem dL_stay_7 : decode cL_stay 7 = .ok (.ireturn, 1) := by decide +kernel
theorem dL_stay_8 : decode cL_stay 8 = .ok (.astore 4, 2) := by decide +kernel
theorem dL_stay_10 : decode cL_stay 10 = .ok (.ldc 17, 2) := by decide +kernel
theorem dL_stay_12 : decode cL_stay 12 = .ok (.ireturn, 1) := by decide +kernel
theorem dL_stay_13 : decode cL_stay 13 = .ok (.astore 4, 2) := by decide +kernel
theorem dL_stay_15 : decode cL_stay 15 = .ok (.ldc 20, 2) := by decide +kernel
theorem dL_stay_17 : decode cL_stay 17 = .ok (.ireturn, 1) := by decide +kernel
theorem dL_box_0 : decode cL_box 0 = .ok (.aload_n 0, 1) := by decide +kernel
theorem dL_box_1 : decode cL_box 1 = .ok (.iload_n 1, 1) := by decide +kernel
theorem dL_box_2 : decode cL_box 2 = .ok (.iload_n 2, 1) := by decide +kernel
theorem dL_box_3 : decode cL_box 3 = .ok (.invokevirtual 50, 3) := by decide +kernel
theorem dL_box_6 : decode cL_box 6 = .ok (.ireturn, 1) := by decide +kernel
theorem dL_box_7 : decode cL_box 7 = .ok (.astore_n 3, 1) := by decide +kernel
theorem dL_box_8 : decode cL_box 8 = .ok (.ldc 17, 2) := by decide +kernel
theorem dL_box_10 : decode cL_box 10 = .ok (.ireturn, 1) := by decide +kernel
theorem dL_box_11 : decode cL_box 11 = .ok (.astore_n 3, 1) := by decide +kernel
theorem dL_box_12 : decode cL_box 12 = .ok (.ldc 20, 2) := by decide +kernel
theorem dL_box_14 : decode cL_box 14 = .ok (.ireturn, 1) := by decide +kernel
theorem dL_event_0 : decode cL_event 0 = .ok (.aload_n 0, 1) := by decide +kernel
theorem dL_event_1 : decode cL_event 1 = .ok (.iload_n 1, 1) := by decide +kernel
theorem dL_event_2 : decode cL_event 2 = .ok (.iload_n 2, 1) := by decide +kernel
theorem dL_event_3 : decode cL_event 3 = .ok (.invokevirtual 53, 3) := by decide +kernel
theorem dL_event_6 : decode cL_event 6 = .ok (.ireturn, 1) := by decide +kernel
theorem dL_event_7 : decode cL_event 7 = .ok (.astore_n 3, 1) := by decide +kernel
theorem dL_event_8 : decode cL_event 8 = .ok (.ldc 17, 2) := by decide +kernel
theorem dL_event_10 : decode cL_event 10 = .ok (.ireturn, 1) := by decide +kernel
theorem dL_event_11 : decode cL_event 11 = .ok (.astore_n 3, 1) := by decide +kernel
theorem dL_event_12 : decode cL_event 12 = .ok (.ldc 20, 2) := by decide +kernel
theorem dL_event_14 : decode cL_event 14 = .ok (.ireturn, 1) := by decide +kernel
theorem dL_leaf_0 : decode cL_leaf 0 = .ok (.aload_n 0, 1) := by decide +kernel
theorem dL_leaf_1 : decode cL_leaf 1 = .ok (.iload_n 1, 1) := by decide +kernel
theorem dL_leaf_2 : decode cL_leaf 2 = .ok (.iload_n 2, 1) := by decide +kernel
theorem dL_leaf_3 : decode cL_leaf 3 = .ok (.invokevirtual 56, 3) := by decide +kernel
theorem dL_leaf_6 : decode cL_leaf 6 = .ok (.ireturn, 1) := by decide +kernel
theorem dL_leaf_7 : decode cL_leaf 7 = .ok (.astore_n 3, 1) := by decide +kernel
theorem dL_leaf_8 : decode cL_leaf 8 = .ok (.ldc 17, 2) := by decide +kernel
theorem dL_leaf_10 : decode cL_leaf 10 = .ok (.ireturn, 1) := by decide +kernel
theorem dL_leaf_11 : decode cL_leaf 11 = .ok (.astore_n 3, 1) := by decide +kernel
theorem dL_leaf_12 : decode cL_leaf 12 = .ok (.ldc 20, 2) := by decide +kernel
theorem dL_leaf_14 : decode cL_leaf 14 = .ok (.ireturn, 1) := by decide +kernel
theorem dL_whole_0 : decode cL_whole 0 = .ok (.aload_n 0, 1) := by decide +kernel
theorem dL_whole_1 : decode cL_whole 1 = .ok (.iload_n 1, 1) := by decide +kernel
theorem dL_whole_2 : decode cL_whole 2 = .ok (.invokevirtual 59, 3) := by decide +kernel
theorem dL_whole_5 : decode cL_whole 5 = .ok (.ireturn, 1) := by decide +kernel
theorem dL_whole_6 : decode cL_whole 6 = .ok (.astore_n 2, 1) := by decide +kernel
theorem dL_whole_7 : decode cL_whole 7 = .ok (.ldc 20, 2) := by decide +kernel
theorem dL_whole_9 : decode cL_whole 9 = .ok (.ireturn, 1) := by decide +kernel
theorem dL_would_0 : decode cL_would 0 = .ok (.aload_n 0, 1) := by decide +kernel
theorem dL_would_1 : decode cL_would 1 = .ok (.iload_n 1, 1) := by decide +kernel
theorem dL_would_2 : decode cL_would 2 = .ok (.iload_n 2, 1) := by decide +kernel
theorem dL_would_3 : decode cL_would 3 = .ok (.iload_n 3, 1) := by decide +kernel
theorem dL_would_4 : decode cL_would 4 = .ok (.invokevirtual 62, 3) := by decide +kernel
theorem dL_would_7 : decode cL_would 7 = .ok (.ireturn, 1) := by decide +kernel
theorem dL_would_8 : decode cL_would 8 = .ok (.astore 4, 2) := by decide +kernel
theorem dL_would_10 : decode cL_would 10 = .ok (.ldc 17, 2) := by decide +kernel
theorem dL_would_12 : decode cL_would 12 = .ok (.ireturn, 1) := by decide +kernel
theorem dL_would_13 : decode cL_would 13 = .ok (.astore 4, 2) := by decide +kernel
theorem dL_would_15 : decode cL_would 15 = .ok (.ldc 20, 2) := by decide +kernel
theorem dL_would_17 : decode cL_would 17 = .ok (.ireturn, 1) := by decide +kernel
theorem dL_why_0 : decode cL_why 0 = .ok (.aload_n 0, 1) := by decide +kernel
theorem dL_why_1 : decode cL_why 1 = .ok (.iload_n 1, 1) := by decide +kernel
theorem dL_why_2 : decode cL_why 2 = .ok (.iload_n 2, 1) := by decide +kernel
theorem dL_why_3 : decode cL_why 3 = .ok (.iload_n 3, 1) := by decide +kernel
theorem dL_why_4 : decode cL_why 4 = .ok (.invokevirtual 65, 3) := by decide +kernel
theorem dL_why_7 : decode cL_why 7 = .ok (.ireturn, 1) := by decide +kernel
theorem dL_why_8 : decode cL_why 8 = .ok (.astore 4, 2) := by decide +kernel
theorem dL_why_10 : decode cL_why 10 = .ok (.ldc 17, 2) := by decide +kernel
theorem dL_why_12 : decode cL_why 12 = .ok (.ireturn, 1) := by decide +kernel
theorem dL_why_13 : decode cL_why 13 = .ok (.astore 4, 2) := by decide +kernel
theorem dL_why_15 : decode cL_why 15 = .ok (.ldc 20, 2) := by decide +kernel
theorem dL_why_17 : decode cL_why 17 = .ok (.ireturn, 1) := by decide +kernel
theorem dL_served_0 : decode cL_served 0 = .ok (.aload_n 0, 1) := by decide +kernel
theorem dL_served_1 : decode cL_served 1 = .ok (.iload_n 1, 1) := by decide +kernel
theorem dL_served_2 : decode cL_served 2 = .ok (.invokevirtual 68, 3) := by decide +kernel
theorem dL_served_5 : decode cL_served 5 = .ok (.ireturn, 1) := by decide +kernel
theorem dL_served_6 : decode cL_served 6 = .ok (.astore_n 2, 1) := by decide +kernel
theorem dL_served_7 : decode cL_served 7 = .ok (.ldc 17, 2) := by decide +kernel
theorem dL_served_9 : decode cL_served 9 = .ok (.ireturn, 1) := by decide +kernel
theorem dL_empty_0 : decode cL_empty 0 = .ok (.aload_n 0, 1) := by decide +kernel
theorem dL_empty_1 : decode cL_empty 1 = .ok (.iload_n 1, 1) := by decide +kernel
theorem dL_empty_2 : decode cL_empty 2 = .ok (.invokevirtual 71, 3) := by decide +kernel
theorem dL_empty_5 : decode cL_empty 5 = .ok (.ireturn, 1) := by decide +kernel
theorem dL_empty_6 : decode cL_empty 6 = .ok (.astore_n 2, 1) := by decide +kernel
theorem dL_empty_7 : decode cL_empty 7 = .ok (.ldc 17, 2) := by decide +kernel
theorem dL_empty_9 : decode cL_empty 9 = .ok (.ireturn, 1) := by decide +kernel
theorem dL_covers_0 : decode cL_covers 0 = .ok (.aload_n 0, 1) := by decide +kernel
theorem dL_covers_1 : decode cL_covers 1 = .ok (.iload_n 1, 1) := by decide +kernel
theorem dL_covers_2 : decode cL_covers 2 = .ok (.invokevirtual 74, 3) := by decide +kernel
theorem dL_covers_5 : decode cL_covers 5 = .ok (.ireturn, 1) := by decide +kernel
theorem dL_covers_6 : decode cL_covers 6 = .ok (.astore_n 2, 1) := by decide +kernel
theorem dL_covers_7 : decode cL_covers 7 = .ok (.ldc 17, 2) := by decide +kernel
theorem dL_covers_9 : decode cL_covers 9 = .ok (.ireturn, 1) := by decide +kernel
theorem dL_types_0 : decode cL_types 0 = .ok (.aload_n 0, 1) := by decide +kernel
theorem dL_types_1 : decode cL_types 1 = .ok (.iload_n 1, 1) := by decide +kernel
theorem dL_types_2 : decode cL_types 2 = .ok (.invokevirtual 77, 3) := by decide +kernel
theorem dL_types_5 : decode cL_types 5 = .ok (.ireturn, 1) := by decide +kernel
theorem dL_types_6 : decode cL_types 6 = .ok (.astore_n 2, 1) := by decide +kernel
theorem dL_types_7 : decode cL_types 7 = .ok (.ldc 20, 2) := by decide +kernel
theorem dL_types_9 : decode cL_types 9 = .ok (.ireturn, 1) := by decide +kernel
theorem dL_types_10 : decode cL_types 10 = .ok (.astore_n 2, 1) := by decide +kernel
theorem dL_types_11 : decode cL_types 11 = .ok (.ldc 23, 2) := by decide +kernel
theorem dL_types_13 : decode cL_types 13 = .ok (.ireturn, 1) := by decide +kernel
theorem dL_back_0 : decode cL_back 0 = .ok (.aload_n 0, 1) := by decide +kernel
theorem dL_back_1 : decode cL_back 1 = .ok (.invokevirtual 80, 3) := by decide +kernel
theorem dL_back_4 : decode cL_back 4 = .ok (.ireturn, 1) := by decide +kernel
theorem dL_back_5 : decode cL_back 5 = .ok (.astore_n 1, 1) := by decide +kernel
theorem dL_back_6 : decode cL_back 6 = .ok (.ldc 23, 2) := by decide +kernel
theorem dL_back_8 : decode cL_back 8 = .ok (.ireturn, 1) := by decide +kernel
theorem dL_sum_0 : decode cL_sum 0 = .ok (.ldc2_w 84, 3) := by decide +kernel
theorem dL_sum_3 : decode cL_sum 3 = .ok (.lstore_n 1, 1) := by decide +kernel
theorem dL_sum_4 : decode cL_sum 4 = .ok (.iconst 0, 1) := by decide +kernel
theorem dL_sum_5 : decode cL_sum 5 = .ok (.istore_n 3, 1) := by decide +kernel
theorem dL_sum_6 : decode cL_sum 6 = .ok (.iload_n 3, 1) := by decide +kernel
theorem dL_sum_7 : decode cL_sum 7 = .ok (.bipush 14, 2) := by decide +kernel
theorem dL_sum_9 : decode cL_sum 9 = .ok (.if_icmp .ge 22, 3) := by decide +kernel
theorem dL_sum_12 : decode cL_sum 12 = .ok (.ldc2_w 86, 3) := by decide +kernel
theorem dL_sum_15 : decode cL_sum 15 = .ok (.lload_n 1, 1) := by decide +kernel
theorem dL_sum_16 : decode cL_sum 16 = .ok (.lmul, 1) := by decide +kernel
theorem dL_sum_17 : decode cL_sum 17 = .ok (.aload_n 0, 1) := by decide +kernel
theorem dL_sum_18 : decode cL_sum 18 = .ok (.iload_n 3, 1) := by decide +kernel
theorem dL_sum_19 : decode cL_sum 19 = .ok (.invokestatic 88, 3) := by decide +kernel
theorem dL_sum_22 : decode cL_sum 22 = .ok (.i2l, 1) := by decide +kernel
theorem dL_sum_23 : decode cL_sum 23 = .ok (.ladd, 1) := by decide +kernel
theorem dL_sum_24 : decode cL_sum 24 = .ok (.lstore_n 1, 1) := by decide +kernel
theorem dL_sum_25 : decode cL_sum 25 = .ok (.iinc 3 1, 3) := by decide +kernel
theorem dL_sum_28 : decode cL_sum 28 = .ok (.goto (-22), 3) := by decide +kernel
theorem dL_sum_31 : decode cL_sum 31 = .ok (.iconst 0, 1) := by decide +kernel
theorem dL_sum_32 : decode cL_sum 32 = .ok (.istore_n 3, 1) := by decide +kernel
theorem dL_sum_33 : decode cL_sum 33 = .ok (.iload_n 3, 1) := by decide +kernel
theorem dL_sum_34 : decode cL_sum 34 = .ok (.aload_n 0, 1) := by decide +kernel
theorem dL_sum_35 : decode cL_sum 35 = .ok (.iconst 0, 1) := by decide +kernel
theorem dL_sum_36 : decode cL_sum 36 = .ok (.invokestatic 88, 3) := by decide +kernel
theorem dL_sum_39 : decode cL_sum 39 = .ok (.if_icmp .ge 113, 3) := by decide +kernel
theorem dL_sum_42 : decode cL_sum 42 = .ok (.iconst 0, 1) := by decide +kernel
theorem dL_sum_43 : decode cL_sum 43 = .ok (.istore 4, 2) := by decide +kernel
theorem dL_sum_45 : decode cL_sum 45 = .ok (.iload 4, 2) := by decide +kernel
theorem dL_sum_47 : decode cL_sum 47 = .ok (.bipush 12, 2) := by decide +kernel
theorem dL_sum_49 : decode cL_sum 49 = .ok (.if_icmp .ge 24, 3) := by decide +kernel
theorem dL_sum_52 : decode cL_sum 52 = .ok (.ldc2_w 86, 3) := by decide +kernel
theorem dL_sum_55 : decode cL_sum 55 = .ok (.lload_n 1, 1) := by decide +kernel
theorem dL_sum_56 : decode cL_sum 56 = .ok (.lmul, 1) := by decide +kernel
theorem dL_sum_57 : decode cL_sum 57 = .ok (.aload_n 0, 1) := by decide +kernel
theorem dL_sum_58 : decode cL_sum 58 = .ok (.iload_n 3, 1) := by decide +kernel
theorem dL_sum_59 : decode cL_sum 59 = .ok (.iload 4, 2) := by decide +kernel
theorem dL_sum_61 : decode cL_sum 61 = .ok (.invokestatic 93, 3) := by decide +kernel
theorem dL_sum_64 : decode cL_sum 64 = .ok (.i2l, 1) := by decide +kernel
theorem dL_sum_65 : decode cL_sum 65 = .ok (.ladd, 1) := by decide +kernel
theorem dL_sum_66 : decode cL_sum 66 = .ok (.lstore_n 1, 1) := by decide +kernel
theorem dL_sum_67 : decode cL_sum 67 = .ok (.iinc 4 1, 3) := by decide +kernel
theorem dL_sum_70 : decode cL_sum 70 = .ok (.goto (-25), 3) := by decide +kernel
theorem dL_sum_73 : decode cL_sum 73 = .ok (.iconst 0, 1) := by decide +kernel
theorem dL_sum_74 : decode cL_sum 74 = .ok (.istore 4, 2) := by decide +kernel
theorem dL_sum_76 : decode cL_sum 76 = .ok (.iload 4, 2) := by decide +kernel
theorem dL_sum_78 : decode cL_sum 78 = .ok (.bipush 30, 2) := by decide +kernel
theorem dL_sum_80 : decode cL_sum 80 = .ok (.if_icmp .ge 30, 3) := by decide +kernel
theorem dL_sum_83 : decode cL_sum 83 = .ok (.ldc2_w 86, 3) := by decide +kernel
theorem dL_sum_86 : decode cL_sum 86 = .ok (.lload_n 1, 1) := by decide +kernel
theorem dL_sum_87 : decode cL_sum 87 = .ok (.lmul, 1) := by decide +kernel
theorem dL_sum_88 : decode cL_sum 88 = .ok (.aload_n 0, 1) := by decide +kernel
theorem dL_sum_89 : decode cL_sum 89 = .ok (.iload_n 3, 1) := by decide +kernel
theorem dL_sum_90 : decode cL_sum 90 = .ok (.iload 4, 2) := by decide +kernel
theorem dL_sum_92 : decode cL_sum 92 = .ok (.iconst 3, 1) := by decide +kernel
theorem dL_sum_93 : decode cL_sum 93 = .ok (.idiv, 1) := by decide +kernel
theorem dL_sum_94 : decode cL_sum 94 = .ok (.iload 4, 2) := by decide +kernel
theorem dL_sum_96 : decode cL_sum 96 = .ok (.iconst 3, 1) := by decide +kernel
theorem dL_sum_97 : decode cL_sum 97 = .ok (.irem, 1) := by decide +kernel
theorem dL_sum_98 : decode cL_sum 98 = .ok (.invokestatic 97, 3) := by decide +kernel
theorem dL_sum_101 : decode cL_sum 101 = .ok (.i2l, 1) := by decide +kernel
theorem dL_sum_102 : decode cL_sum 102 = .ok (.ladd, 1) := by decide +kernel
theorem dL_sum_103 : decode cL_sum 103 = .ok (.lstore_n 1, 1) := by decide +kernel
theorem dL_sum_104 : decode cL_sum 104 = .ok (.iinc 4 1, 3) := by decide +kernel
theorem dL_sum_107 : decode cL_sum 107 = .ok (.goto (-31), 3) := by decide +kernel
theorem dL_sum_110 : decode cL_sum 110 = .ok (.iconst 0, 1) := by decide +kernel
theorem dL_sum_111 : decode cL_sum 111 = .ok (.istore 4, 2) := by decide +kernel
theorem dL_sum_113 : decode cL_sum 113 = .ok (.iload 4, 2) := by decide +kernel
theorem dL_sum_115 : decode cL_sum 115 = .ok (.aload_n 0, 1) := by decide +kernel
theorem dL_sum_116 : decode cL_sum 116 = .ok (.iload_n 3, 1) := by decide +kernel
theorem dL_sum_117 : decode cL_sum 117 = .ok (.bipush 6, 2) := by decide +kernel
theorem dL_sum_119 : decode cL_sum 119 = .ok (.invokestatic 93, 3) := by decide +kernel
theorem dL_sum_122 : decode cL_sum 122 = .ok (.if_icmp .ge 24, 3) := by decide +kernel
theorem dL_sum_125 : decode cL_sum 125 = .ok (.ldc2_w 86, 3) := by decide +kernel
theorem dL_sum_128 : decode cL_sum 128 = .ok (.lload_n 1, 1) := by decide +kernel
theorem dL_sum_129 : decode cL_sum 129 = .ok (.lmul, 1) := by decide +kernel
theorem dL_sum_130 : decode cL_sum 130 = .ok (.aload_n 0, 1) := by decide +kernel
theorem dL_sum_131 : decode cL_sum 131 = .ok (.iload_n 3, 1) := by decide +kernel
theorem dL_sum_132 : decode cL_sum 132 = .ok (.iload 4, 2) := by decide +kernel
theorem dL_sum_134 : decode cL_sum 134 = .ok (.invokestatic 100, 3) := by decide +kernel
theorem dL_sum_137 : decode cL_sum 137 = .ok (.i2l, 1) := by decide +kernel
theorem dL_sum_138 : decode cL_sum 138 = .ok (.ladd, 1) := by decide +kernel
theorem dL_sum_139 : decode cL_sum 139 = .ok (.lstore_n 1, 1) := by decide +kernel
theorem dL_sum_140 : decode cL_sum 140 = .ok (.iinc 4 1, 3) := by decide +kernel
theorem dL_sum_143 : decode cL_sum 143 = .ok (.goto (-30), 3) := by decide +kernel
theorem dL_sum_146 : decode cL_sum 146 = .ok (.iinc 3 1, 3) := by decide +kernel
theorem dL_sum_149 : decode cL_sum 149 = .ok (.goto (-116), 3) := by decide +kernel
theorem dL_sum_152 : decode cL_sum 152 = .ok (.iconst 0, 1) := by decide +kernel
theorem dL_sum_153 : decode cL_sum 153 = .ok (.istore_n 3, 1) := by decide +kernel
theorem dL_sum_154 : decode cL_sum 154 = .ok (.iload_n 3, 1) := by decide +kernel
theorem dL_sum_155 : decode cL_sum 155 = .ok (.bipush 7, 2) := by decide +kernel
theorem dL_sum_157 : decode cL_sum 157 = .ok (.aload_n 0, 1) := by decide +kernel
theorem dL_sum_158 : decode cL_sum 158 = .ok (.iconst 2, 1) := by decide +kernel
theorem dL_sum_159 : decode cL_sum 159 = .ok (.invokestatic 88, 3) := by decide +kernel
theorem dL_sum_162 : decode cL_sum 162 = .ok (.imul, 1) := by decide +kernel
theorem dL_sum_163 : decode cL_sum 163 = .ok (.if_icmp .ge 29, 3) := by decide +kernel
theorem dL_sum_166 : decode cL_sum 166 = .ok (.ldc2_w 86, 3) := by decide +kernel
theorem dL_sum_169 : decode cL_sum 169 = .ok (.lload_n 1, 1) := by decide +kernel
theorem dL_sum_170 : decode cL_sum 170 = .ok (.lmul, 1) := by decide +kernel
theorem dL_sum_171 : decode cL_sum 171 = .ok (.aload_n 0, 1) := by decide +kernel
theorem dL_sum_172 : decode cL_sum 172 = .ok (.iload_n 3, 1) := by decide +kernel
theorem dL_sum_173 : decode cL_sum 173 = .ok (.bipush 7, 2) := by decide +kernel
theorem dL_sum_175 : decode cL_sum 175 = .ok (.idiv, 1) := by decide +kernel
theorem dL_sum_176 : decode cL_sum 176 = .ok (.iload_n 3, 1) := by decide +kernel
theorem dL_sum_177 : decode cL_sum 177 = .ok (.bipush 7, 2) := by decide +kernel
theorem dL_sum_179 : decode cL_sum 179 = .ok (.irem, 1) := by decide +kernel
theorem dL_sum_180 : decode cL_sum 180 = .ok (.invokestatic 103, 3) := by decide +kernel
theorem dL_sum_183 : decode cL_sum 183 = .ok (.i2l, 1) := by decide +kernel
theorem dL_sum_184 : decode cL_sum 184 = .ok (.ladd, 1) := by decide +kernel
theorem dL_sum_185 : decode cL_sum 185 = .ok (.lstore_n 1, 1) := by decide +kernel
theorem dL_sum_186 : decode cL_sum 186 = .ok (.iinc 3 1, 3) := by decide +kernel
theorem dL_sum_189 : decode cL_sum 189 = .ok (.goto (-35), 3) := by decide +kernel
theorem dL_sum_192 : decode cL_sum 192 = .ok (.iconst 0, 1) := by decide +kernel
theorem dL_sum_193 : decode cL_sum 193 = .ok (.istore_n 3, 1) := by decide +kernel
theorem dL_sum_194 : decode cL_sum 194 = .ok (.iload_n 3, 1) := by decide +kernel
theorem dL_sum_195 : decode cL_sum 195 = .ok (.bipush 64, 2) := by decide +kernel
theorem dL_sum_197 : decode cL_sum 197 = .ok (.if_icmp .ge 27, 3) := by decide +kernel
theorem dL_sum_200 : decode cL_sum 200 = .ok (.ldc2_w 86, 3) := by decide +kernel
theorem dL_sum_203 : decode cL_sum 203 = .ok (.lload_n 1, 1) := by decide +kernel
theorem dL_sum_204 : decode cL_sum 204 = .ok (.lmul, 1) := by decide +kernel
theorem dL_sum_205 : decode cL_sum 205 = .ok (.aload_n 0, 1) := by decide +kernel
theorem dL_sum_206 : decode cL_sum 206 = .ok (.iload_n 3, 1) := by decide +kernel
theorem dL_sum_207 : decode cL_sum 207 = .ok (.iconst 4, 1) := by decide +kernel
theorem dL_sum_208 : decode cL_sum 208 = .ok (.idiv, 1) := by decide +kernel
theorem dL_sum_209 : decode cL_sum 209 = .ok (.iload_n 3, 1) := by decide +kernel
theorem dL_sum_210 : decode cL_sum 210 = .ok (.iconst 4, 1) := by decide +kernel
theorem dL_sum_211 : decode cL_sum 211 = .ok (.irem, 1) := by decide +kernel
theorem dL_sum_212 : decode cL_sum 212 = .ok (.invokestatic 105, 3) := by decide +kernel
theorem dL_sum_215 : decode cL_sum 215 = .ok (.i2l, 1) := by decide +kernel
theorem dL_sum_216 : decode cL_sum 216 = .ok (.ladd, 1) := by decide +kernel
theorem dL_sum_217 : decode cL_sum 217 = .ok (.lstore_n 1, 1) := by decide +kernel
theorem dL_sum_218 : decode cL_sum 218 = .ok (.iinc 3 1, 3) := by decide +kernel
theorem dL_sum_221 : decode cL_sum 221 = .ok (.goto (-27), 3) := by decide +kernel
theorem dL_sum_224 : decode cL_sum 224 = .ok (.lload_n 1, 1) := by decide +kernel
theorem dL_sum_225 : decode cL_sum 225 = .ok (.lreturn, 1) := by decide +kernel
theorem dL_refused_0 : decode cL_refused 0 = .ok (.aload_n 0, 1) := by decide +kernel
theorem dL_refused_1 : decode cL_refused 1 = .ok (.invokestatic 107, 3) := by decide +kernel
theorem dL_refused_4 : decode cL_refused 4 = .ok (.lstore_n 1, 1) := by decide +kernel
theorem dL_refused_5 : decode cL_refused 5 = .ok (.aload_n 0, 1) := by decide +kernel
theorem dL_refused_6 : decode cL_refused 6 = .ok (.iconst 0, 1) := by decide +kernel
theorem dL_refused_7 : decode cL_refused 7 = .ok (.iconst 0, 1) := by decide +kernel
theorem dL_refused_8 : decode cL_refused 8 = .ok (.bipush 16, 2) := by decide +kernel
theorem dL_refused_10 : decode cL_refused 10 = .ok (.invokestatic 111, 3) := by decide +kernel
theorem dL_refused_13 : decode cL_refused 13 = .ok (.ldc 17, 2) := by decide +kernel
theorem dL_refused_15 : decode cL_refused 15 = .ok (.if_icmp .ne 261, 3) := by decide +kernel
theorem dL_refused_18 : decode cL_refused 18 = .ok (.aload_n 0, 1) := by decide +kernel
theorem dL_refused_19 : decode cL_refused 19 = .ok (.iconst 3, 1) := by decide +kernel
theorem dL_refused_20 : decode cL_refused 20 = .ok (.iconst 0, 1) := by decide +kernel
theorem dL_refused_21 : decode cL_refused 21 = .ok (.iconst 0, 1) := by decide +kernel
theorem dL_refused_22 : decode cL_refused 22 = .ok (.invokestatic 111, 3) := by decide +kernel
theorem dL_refused_25 : decode cL_refused 25 = .ok (.ldc 20, 2) := by decide +kernel
theorem dL_refused_27 : decode cL_refused 27 = .ok (.if_icmp .ne 249, 3) := by decide +kernel
theorem dL_refused_30 : decode cL_refused 30 = .ok (.aload_n 0, 1) := by decide +kernel
theorem dL_refused_31 : decode cL_refused 31 = .ok (.bipush 8, 2) := by decide +kernel
theorem dL_refused_33 : decode cL_refused 33 = .ok (.iconst 0, 1) := by decide +kernel
theorem dL_refused_34 : decode cL_refused 34 = .ok (.invokestatic 114, 3) := by decide +kernel
theorem dL_refused_37 : decode cL_refused 37 = .ok (.ldc 17, 2) := by decide +kernel
theorem dL_refused_39 : decode cL_refused 39 = .ok (.if_icmp .ne 237, 3) := by decide +kernel
theorem dL_refused_42 : decode cL_refused 42 = .ok (.aload_n 0, 1) := by decide +kernel
theorem dL_refused_43 : decode cL_refused 43 = .ok (.iconst 0, 1) := by decide +kernel
theorem dL_refused_44 : decode cL_refused 44 = .ok (.iconst (-1), 1) := by decide +kernel
theorem dL_refused_45 : decode cL_refused 45 = .ok (.invokestatic 114, 3) := by decide +kernel
theorem dL_refused_48 : decode cL_refused 48 = .ok (.ldc 17, 2) := by decide +kernel
theorem dL_refused_50 : decode cL_refused 50 = .ok (.if_icmp .ne 226, 3) := by decide +kernel
theorem dL_refused_53 : decode cL_refused 53 = .ok (.aload_n 0, 1) := by decide +kernel
theorem dL_refused_54 : decode cL_refused 54 = .ok (.iconst (-1), 1) := by decide +kernel
theorem dL_refused_55 : decode cL_refused 55 = .ok (.invokestatic 117, 3) := by decide +kernel
theorem dL_refused_58 : decode cL_refused 58 = .ok (.ldc 17, 2) := by decide +kernel
theorem dL_refused_60 : decode cL_refused 60 = .ok (.if_icmp .ne 216, 3) := by decide +kernel
theorem dL_refused_63 : decode cL_refused 63 = .ok (.aload_n 0, 1) := by decide +kernel
theorem dL_refused_64 : decode cL_refused 64 = .ok (.bipush 8, 2) := by decide +kernel
theorem dL_refused_66 : decode cL_refused 66 = .ok (.iconst 0, 1) := by decide +kernel
theorem dL_refused_67 : decode cL_refused 67 = .ok (.invokestatic 120, 3) := by decide +kernel
theorem dL_refused_70 : decode cL_refused 70 = .ok (.ldc 17, 2) := by decide +kernel
theorem dL_refused_72 : decode cL_refused 72 = .ok (.if_icmp .ne 204, 3) := by decide +kernel
theorem dL_refused_75 : decode cL_refused 75 = .ok (.aload_n 0, 1) := by decide +kernel
theorem dL_refused_76 : decode cL_refused 76 = .ok (.iconst 1, 1) := by decide +kernel
theorem dL_refused_77 : decode cL_refused 77 = .ok (.iconst 0, 1) := by decide +kernel
theorem dL_refused_78 : decode cL_refused 78 = .ok (.invokestatic 123, 3) := by decide +kernel
theorem dL_refused_81 : decode cL_refused 81 = .ok (.ldc 20, 2) := by decide +kernel
theorem dL_refused_83 : decode cL_refused 83 = .ok (.if_icmp .ne 193, 3) := by decide +kernel
theorem dL_refused_86 : decode cL_refused 86 = .ok (.aload_n 0, 1) := by decide +kernel
theorem dL_refused_87 : decode cL_refused 87 = .ok (.iconst (-1), 1) := by decide +kernel
theorem dL_refused_88 : decode cL_refused 88 = .ok (.iconst 0, 1) := by decide +kernel
theorem dL_refused_89 : decode cL_refused 89 = .ok (.iconst 0, 1) := by decide +kernel
theorem dL_refused_90 : decode cL_refused 90 = .ok (.invokestatic 126, 3) := by decide +kernel
theorem dL_refused_93 : decode cL_refused 93 = .ok (.ldc 17, 2) := by decide +kernel
theorem dL_refused_95 : decode cL_refused 95 = .ok (.if_icmp .ne 181, 3) := by decide +kernel
theorem dL_refused_98 : decode cL_refused 98 = .ok (.aload_n 0, 1) := by decide +kernel
theorem dL_refused_99 : decode cL_refused 99 = .ok (.iconst 0, 1) := by decide +kernel
theorem dL_refused_100 : decode cL_refused 100 = .ok (.iconst 0, 1) := by decide +kernel
theorem dL_refused_101 : decode cL_refused 101 = .ok (.bipush (-5), 2) := by decide +kernel
theorem dL_refused_103 : decode cL_refused 103 = .ok (.invokestatic 126, 3) := by decide +kernel
theorem dL_refused_106 : decode cL_refused 106 = .ok (.ldc 20, 2) := by decide +kernel
theorem dL_refused_108 : decode cL_refused 108 = .ok (.if_icmp .ne 168, 3) := by decide +kernel
theorem dL_refused_111 : decode cL_refused 111 = .ok (.aload_n 0, 1) := by decide +kernel
theorem dL_refused_112 : decode cL_refused 112 = .ok (.iconst 0, 1) := by decide +kernel
theorem dL_refused_113 : decode cL_refused 113 = .ok (.iconst 0, 1) := by decide +kernel
theorem dL_refused_114 : decode cL_refused 114 = .ok (.bipush 21, 2) := by decide +kernel
theorem dL_refused_116 : decode cL_refused 116 = .ok (.invokestatic 126, 3) := by decide +kernel
theorem dL_refused_119 : decode cL_refused 119 = .ok (.ldc 23, 2) := by decide +kernel
theorem dL_refused_121 : decode cL_refused 121 = .ok (.if_icmp .ne 155, 3) := by decide +kernel
theorem dL_refused_124 : decode cL_refused 124 = .ok (.aload_n 0, 1) := by decide +kernel
theorem dL_refused_125 : decode cL_refused 125 = .ok (.bipush 51, 2) := by decide +kernel
theorem dL_refused_127 : decode cL_refused 127 = .ok (.invokestatic 129, 3) := by decide +kernel
theorem dL_refused_130 : decode cL_refused 130 = .ok (.ldc 20, 2) := by decide +kernel
theorem dL_refused_132 : decode cL_refused 132 = .ok (.if_icmp .ne 144, 3) := by decide +kernel
theorem dL_refused_135 : decode cL_refused 135 = .ok (.aload_n 0, 1) := by decide +kernel
theorem dL_refused_136 : decode cL_refused 136 = .ok (.bipush 8, 2) := by decide +kernel
theorem dL_refused_138 : decode cL_refused 138 = .ok (.iconst 0, 1) := by decide +kernel
theorem dL_refused_139 : decode cL_refused 139 = .ok (.invokestatic 93, 3) := by decide +kernel
theorem dL_refused_142 : decode cL_refused 142 = .ok (.ldc 17, 2) := by decide +kernel
theorem dL_refused_144 : decode cL_refused 144 = .ok (.if_icmp .ne 132, 3) := by decide +kernel
theorem dL_refused_147 : decode cL_refused 147 = .ok (.aload_n 0, 1) := by decide +kernel
theorem dL_refused_148 : decode cL_refused 148 = .ok (.bipush 8, 2) := by decide +kernel
theorem dL_refused_150 : decode cL_refused 150 = .ok (.iconst 0, 1) := by decide +kernel
theorem dL_refused_151 : decode cL_refused 151 = .ok (.iconst 0, 1) := by decide +kernel
theorem dL_refused_152 : decode cL_refused 152 = .ok (.invokestatic 97, 3) := by decide +kernel
theorem dL_refused_155 : decode cL_refused 155 = .ok (.ldc 17, 2) := by decide +kernel
theorem dL_refused_157 : decode cL_refused 157 = .ok (.if_icmp .ne 119, 3) := by decide +kernel
theorem dL_refused_160 : decode cL_refused 160 = .ok (.aload_n 0, 1) := by decide +kernel
theorem dL_refused_161 : decode cL_refused 161 = .ok (.bipush 8, 2) := by decide +kernel
theorem dL_refused_163 : decode cL_refused 163 = .ok (.iconst 0, 1) := by decide +kernel
theorem dL_refused_164 : decode cL_refused 164 = .ok (.invokestatic 100, 3) := by decide +kernel
theorem dL_refused_167 : decode cL_refused 167 = .ok (.ldc 17, 2) := by decide +kernel
theorem dL_refused_169 : decode cL_refused 169 = .ok (.if_icmp .ne 107, 3) := by decide +kernel
theorem dL_refused_172 : decode cL_refused 172 = .ok (.aload_n 0, 1) := by decide +kernel
theorem dL_refused_173 : decode cL_refused 173 = .ok (.bipush 60, 2) := by decide +kernel
theorem dL_refused_175 : decode cL_refused 175 = .ok (.iconst 0, 1) := by decide +kernel
theorem dL_refused_176 : decode cL_refused 176 = .ok (.invokestatic 103, 3) := by decide +kernel
theorem dL_refused_179 : decode cL_refused 179 = .ok (.ldc 17, 2) := by decide +kernel
theorem dL_refused_181 : decode cL_refused 181 = .ok (.if_icmp .ne 95, 3) := by decide +kernel
theorem dL_refused_184 : decode cL_refused 184 = .ok (.aload_n 0, 1) := by decide +kernel
theorem dL_refused_185 : decode cL_refused 185 = .ok (.iconst 0, 1) := by decide +kernel
theorem dL_refused_186 : decode cL_refused 186 = .ok (.iconst (-1), 1) := by decide +kernel
theorem dL_refused_187 : decode cL_refused 187 = .ok (.invokestatic 105, 3) := by decide +kernel
theorem dL_refused_190 : decode cL_refused 190 = .ok (.ldc 20, 2) := by decide +kernel
theorem dL_refused_192 : decode cL_refused 192 = .ok (.if_icmp .ne 84, 3) := by decide +kernel
theorem dL_refused_195 : decode cL_refused 195 = .ok (.aload_n 0, 1) := by decide +kernel
theorem dL_refused_196 : decode cL_refused 196 = .ok (.iconst (-1), 1) := by decide +kernel
theorem dL_refused_197 : decode cL_refused 197 = .ok (.invokestatic 88, 3) := by decide +kernel
theorem dL_refused_200 : decode cL_refused 200 = .ok (.ldc 20, 2) := by decide +kernel
theorem dL_refused_202 : decode cL_refused 202 = .ok (.if_icmp .ne 74, 3) := by decide +kernel
theorem dL_refused_205 : decode cL_refused 205 = .ok (.aload_n 0, 1) := by decide +kernel
theorem dL_refused_206 : decode cL_refused 206 = .ok (.iconst 0, 1) := by decide +kernel
theorem dL_refused_207 : decode cL_refused 207 = .ok (.iconst 3, 1) := by decide +kernel
theorem dL_refused_208 : decode cL_refused 208 = .ok (.iconst 0, 1) := by decide +kernel
theorem dL_refused_209 : decode cL_refused 209 = .ok (.invokestatic 132, 3) := by decide +kernel
theorem dL_refused_212 : decode cL_refused 212 = .ok (.ldc 20, 2) := by decide +kernel
theorem dL_refused_214 : decode cL_refused 214 = .ok (.if_icmp .ne 62, 3) := by decide +kernel
theorem dL_refused_217 : decode cL_refused 217 = .ok (.aload_n 0, 1) := by decide +kernel
theorem dL_refused_218 : decode cL_refused 218 = .ok (.bipush 8, 2) := by decide +kernel
theorem dL_refused_220 : decode cL_refused 220 = .ok (.iconst 0, 1) := by decide +kernel
theorem dL_refused_221 : decode cL_refused 221 = .ok (.iconst 0, 1) := by decide +kernel
theorem dL_refused_222 : decode cL_refused 222 = .ok (.invokestatic 135, 3) := by decide +kernel
theorem dL_refused_225 : decode cL_refused 225 = .ok (.ldc 17, 2) := by decide +kernel
theorem dL_refused_227 : decode cL_refused 227 = .ok (.if_icmp .ne 49, 3) := by decide +kernel
theorem dL_refused_230 : decode cL_refused 230 = .ok (.aload_n 0, 1) := by decide +kernel
theorem dL_refused_231 : decode cL_refused 231 = .ok (.bipush 8, 2) := by decide +kernel
theorem dL_refused_233 : decode cL_refused 233 = .ok (.invokestatic 138, 3) := by decide +kernel
theorem dL_refused_236 : decode cL_refused 236 = .ok (.ldc 17, 2) := by decide +kernel
theorem dL_refused_238 : decode cL_refused 238 = .ok (.if_icmp .ne 38, 3) := by decide +kernel
theorem dL_refused_241 : decode cL_refused 241 = .ok (.aload_n 0, 1) := by decide +kernel
theorem dL_refused_242 : decode cL_refused 242 = .ok (.bipush 8, 2) := by decide +kernel
theorem dL_refused_244 : decode cL_refused 244 = .ok (.invokestatic 141, 3) := by decide +kernel
theorem dL_refused_247 : decode cL_refused 247 = .ok (.ldc 17, 2) := by decide +kernel
theorem dL_refused_249 : decode cL_refused 249 = .ok (.if_icmp .ne 27, 3) := by decide +kernel
theorem dL_refused_252 : decode cL_refused 252 = .ok (.aload_n 0, 1) := by decide +kernel
theorem dL_refused_253 : decode cL_refused 253 = .ok (.iconst (-1), 1) := by decide +kernel
theorem dL_refused_254 : decode cL_refused 254 = .ok (.invokestatic 144, 3) := by decide +kernel
theorem dL_refused_257 : decode cL_refused 257 = .ok (.ldc 17, 2) := by decide +kernel
theorem dL_refused_259 : decode cL_refused 259 = .ok (.if_icmp .ne 17, 3) := by decide +kernel
theorem dL_refused_262 : decode cL_refused 262 = .ok (.aload_n 0, 1) := by decide +kernel
theorem dL_refused_263 : decode cL_refused 263 = .ok (.iconst (-1), 1) := by decide +kernel
theorem dL_refused_264 : decode cL_refused 264 = .ok (.invokestatic 147, 3) := by decide +kernel
theorem dL_refused_267 : decode cL_refused 267 = .ok (.ldc 20, 2) := by decide +kernel
theorem dL_refused_269 : decode cL_refused 269 = .ok (.if_icmp .ne 7, 3) := by decide +kernel
theorem dL_refused_272 : decode cL_refused 272 = .ok (.iconst 1, 1) := by decide +kernel
theorem dL_refused_273 : decode cL_refused 273 = .ok (.goto 4, 3) := by decide +kernel
theorem dL_refused_276 : decode cL_refused 276 = .ok (.iconst 0, 1) := by decide +kernel
theorem dL_refused_277 : decode cL_refused 277 = .ok (.istore_n 3, 1) := by decide +kernel
theorem dL_refused_278 : decode cL_refused 278 = .ok (.iload_n 3, 1) := by decide +kernel
theorem dL_refused_279 : decode cL_refused 279 = .ok (.ifCond .eq 51, 3) := by decide +kernel
theorem dL_refused_282 : decode cL_refused 282 = .ok (.aload_n 0, 1) := by decide +kernel
theorem dL_refused_283 : decode cL_refused 283 = .ok (.iconst 0, 1) := by decide +kernel
theorem dL_refused_284 : decode cL_refused 284 = .ok (.invokestatic 88, 3) := by decide +kernel
theorem dL_refused_287 : decode cL_refused 287 = .ok (.bipush 8, 2) := by decide +kernel
theorem dL_refused_289 : decode cL_refused 289 = .ok (.if_icmp .lt 15, 3) := by decide +kernel
theorem dL_refused_292 : decode cL_refused 292 = .ok (.aload_n 0, 1) := by decide +kernel
theorem dL_refused_293 : decode cL_refused 293 = .ok (.iconst 0, 1) := by decide +kernel
theorem dL_refused_294 : decode cL_refused 294 = .ok (.iconst 0, 1) := by decide +kernel
theorem dL_refused_295 : decode cL_refused 295 = .ok (.iconst 0, 1) := by decide +kernel
theorem dL_refused_296 : decode cL_refused 296 = .ok (.invokestatic 111, 3) := by decide +kernel
theorem dL_refused_299 : decode cL_refused 299 = .ok (.ldc 23, 2) := by decide +kernel
theorem dL_refused_301 : decode cL_refused 301 = .ok (.if_icmp .ne 29, 3) := by decide +kernel
theorem dL_refused_304 : decode cL_refused 304 = .ok (.aload_n 0, 1) := by decide +kernel
theorem dL_refused_305 : decode cL_refused 305 = .ok (.iconst 2, 1) := by decide +kernel
theorem dL_refused_306 : decode cL_refused 306 = .ok (.invokestatic 88, 3) := by decide +kernel
theorem dL_refused_309 : decode cL_refused 309 = .ok (.bipush 60, 2) := by decide +kernel
theorem dL_refused_311 : decode cL_refused 311 = .ok (.if_icmp .lt 15, 3) := by decide +kernel
theorem dL_refused_314 : decode cL_refused 314 = .ok (.aload_n 0, 1) := by decide +kernel
theorem dL_refused_315 : decode cL_refused 315 = .ok (.iconst 0, 1) := by decide +kernel
theorem dL_refused_316 : decode cL_refused 316 = .ok (.iconst 0, 1) := by decide +kernel
theorem dL_refused_317 : decode cL_refused 317 = .ok (.iconst 0, 1) := by decide +kernel
theorem dL_refused_318 : decode cL_refused 318 = .ok (.invokestatic 126, 3) := by decide +kernel
theorem dL_refused_321 : decode cL_refused 321 = .ok (.ldc 23, 2) := by decide +kernel
theorem dL_refused_323 : decode cL_refused 323 = .ok (.if_icmp .ne 7, 3) := by decide +kernel
theorem dL_refused_326 : decode cL_refused 326 = .ok (.iconst 1, 1) := by decide +kernel
theorem dL_refused_327 : decode cL_refused 327 = .ok (.goto 4, 3) := by decide +kernel
theorem dL_refused_330 : decode cL_refused 330 = .ok (.iconst 0, 1) := by decide +kernel
theorem dL_refused_331 : decode cL_refused 331 = .ok (.istore_n 3, 1) := by decide +kernel
theorem dL_refused_332 : decode cL_refused 332 = .ok (.iload_n 3, 1) := by decide +kernel
theorem dL_refused_333 : decode cL_refused 333 = .ok (.ifCond .eq 16, 3) := by decide +kernel
theorem dL_refused_336 : decode cL_refused 336 = .ok (.aload_n 0, 1) := by decide +kernel
theorem dL_refused_337 : decode cL_refused 337 = .ok (.invokestatic 107, 3) := by decide +kernel
theorem dL_refused_340 : decode cL_refused 340 = .ok (.lload_n 1, 1) := by decide +kernel
theorem dL_refused_341 : decode cL_refused 341 = .ok (.lcmp, 1) := by decide +kernel
theorem dL_refused_342 : decode cL_refused 342 = .ok (.ifCond .ne 7, 3) := by decide +kernel
theorem dL_refused_345 : decode cL_refused 345 = .ok (.iconst 1, 1) := by decide +kernel
theorem dL_refused_346 : decode cL_refused 346 = .ok (.goto 4, 3) := by decide +kernel
theorem dL_refused_349 : decode cL_refused 349 = .ok (.iconst 0, 1) := by decide +kernel
theorem dL_refused_350 : decode cL_refused 350 = .ok (.ireturn, 1) := by decide +kernel
theorem dL_isOne_0 : decode cL_isOne 0 = .ok (.aload_n 0, 1) := by decide +kernel
theorem dL_isOne_1 : decode cL_isOne 1 = .ok (.iload_n 1, 1) := by decide +kernel
theorem dL_isOne_2 : decode cL_isOne 2 = .ok (.iconst 5, 1) := by decide +kernel
theorem dL_isOne_3 : decode cL_isOne 3 = .ok (.invokestatic 93, 3) := by decide +kernel
theorem dL_isOne_6 : decode cL_isOne 6 = .ok (.istore_n 2, 1) := by decide +kernel
theorem dL_isOne_7 : decode cL_isOne 7 = .ok (.aload_n 0, 1) := by decide +kernel
theorem dL_isOne_8 : decode cL_isOne 8 = .ok (.iconst 3, 1) := by decide +kernel
theorem dL_isOne_9 : decode cL_isOne 9 = .ok (.invokestatic 88, 3) := by decide +kernel
theorem dL_isOne_12 : decode cL_isOne 12 = .ok (.istore_n 3, 1) := by decide +kernel
theorem dL_isOne_13 : decode cL_isOne 13 = .ok (.aload_n 0, 1) := by decide +kernel
theorem dL_isOne_14 : decode cL_isOne 14 = .ok (.iload_n 1, 1) := by decide +kernel
theorem dL_isOne_15 : decode cL_isOne 15 = .ok (.bipush 6, 2) := by decide +kernel
theorem dL_isOne_17 : decode cL_isOne 17 = .ok (.invokestatic 93, 3) := by decide +kernel
theorem dL_isOne_20 : decode cL_isOne 20 = .ok (.ifCond .lt 128, 3) := by decide +kernel
theorem dL_isOne_23 : decode cL_isOne 23 = .ok (.aload_n 0, 1) := by decide +kernel
theorem dL_isOne_24 : decode cL_isOne 24 = .ok (.iload_n 1, 1) := by decide +kernel
theorem dL_isOne_25 : decode cL_isOne 25 = .ok (.bipush 6, 2) := by decide +kernel
theorem dL_isOne_27 : decode cL_isOne 27 = .ok (.invokestatic 93, 3) := by decide +kernel
theorem dL_isOne_30 : decode cL_isOne 30 = .ok (.bipush 12, 2) := by decide +kernel
theorem dL_isOne_32 : decode cL_isOne 32 = .ok (.if_icmp .gt 116, 3) := by decide +kernel
theorem dL_isOne_35 : decode cL_isOne 35 = .ok (.aload_n 0, 1) := by decide +kernel
theorem dL_isOne_36 : decode cL_isOne 36 = .ok (.iload_n 1, 1) := by decide +kernel
theorem dL_isOne_37 : decode cL_isOne 37 = .ok (.iconst 3, 1) := by decide +kernel
theorem dL_isOne_38 : decode cL_isOne 38 = .ok (.invokestatic 93, 3) := by decide +kernel
theorem dL_isOne_41 : decode cL_isOne 41 = .ok (.iload_n 3, 1) := by decide +kernel
theorem dL_isOne_42 : decode cL_isOne 42 = .ok (.if_icmp .gt 106, 3) := by decide +kernel
theorem dL_isOne_45 : decode cL_isOne 45 = .ok (.aload_n 0, 1) := by decide +kernel
theorem dL_isOne_46 : decode cL_isOne 46 = .ok (.iload_n 1, 1) := by decide +kernel
theorem dL_isOne_47 : decode cL_isOne 47 = .ok (.bipush 11, 2) := by decide +kernel
theorem dL_isOne_49 : decode cL_isOne 49 = .ok (.invokestatic 93, 3) := by decide +kernel
theorem dL_isOne_52 : decode cL_isOne 52 = .ok (.iload_n 3, 1) := by decide +kernel
theorem dL_isOne_53 : decode cL_isOne 53 = .ok (.bipush 9, 2) := by decide +kernel
theorem dL_isOne_55 : decode cL_isOne 55 = .ok (.iadd, 1) := by decide +kernel
theorem dL_isOne_56 : decode cL_isOne 56 = .ok (.if_icmp .gt 92, 3) := by decide +kernel
theorem dL_isOne_59 : decode cL_isOne 59 = .ok (.aload_n 0, 1) := by decide +kernel
theorem dL_isOne_60 : decode cL_isOne 60 = .ok (.iload_n 1, 1) := by decide +kernel
theorem dL_isOne_61 : decode cL_isOne 61 = .ok (.iconst 0, 1) := by decide +kernel
theorem dL_isOne_62 : decode cL_isOne 62 = .ok (.iconst 0, 1) := by decide +kernel
theorem dL_isOne_63 : decode cL_isOne 63 = .ok (.invokestatic 97, 3) := by decide +kernel
theorem dL_isOne_66 : decode cL_isOne 66 = .ok (.aload_n 0, 1) := by decide +kernel
theorem dL_isOne_67 : decode cL_isOne 67 = .ok (.iload_n 1, 1) := by decide +kernel
theorem dL_isOne_68 : decode cL_isOne 68 = .ok (.iconst 4, 1) := by decide +kernel
theorem dL_isOne_69 : decode cL_isOne 69 = .ok (.invokestatic 93, 3) := by decide +kernel
theorem dL_isOne_72 : decode cL_isOne 72 = .ok (.if_icmp .ne 76, 3) := by decide +kernel
theorem dL_isOne_75 : decode cL_isOne 75 = .ok (.aload_n 0, 1) := by decide +kernel
theorem dL_isOne_76 : decode cL_isOne 76 = .ok (.iload_n 1, 1) := by decide +kernel
theorem dL_isOne_77 : decode cL_isOne 77 = .ok (.iconst 0, 1) := by decide +kernel
theorem dL_isOne_78 : decode cL_isOne 78 = .ok (.iconst 2, 1) := by decide +kernel
theorem dL_isOne_79 : decode cL_isOne 79 = .ok (.invokestatic 97, 3) := by decide +kernel
theorem dL_isOne_82 : decode cL_isOne 82 = .ok (.iconst (-1), 1) := by decide +kernel
theorem dL_isOne_83 : decode cL_isOne 83 = .ok (.if_icmp .ne 7, 3) := by decide +kernel
theorem dL_isOne_86 : decode cL_isOne 86 = .ok (.iconst 1, 1) := by decide +kernel
theorem dL_isOne_87 : decode cL_isOne 87 = .ok (.goto 4, 3) := by decide +kernel
theorem dL_isOne_90 : decode cL_isOne 90 = .ok (.iconst 0, 1) := by decide +kernel
theorem dL_isOne_91 : decode cL_isOne 91 = .ok (.iload_n 2, 1) := by decide +kernel
theorem dL_isOne_92 : decode cL_isOne 92 = .ok (.iconst 1, 1) := by decide +kernel
theorem dL_isOne_93 : decode cL_isOne 93 = .ok (.if_icmp .ne 7, 3) := by decide +kernel
theorem dL_isOne_96 : decode cL_isOne 96 = .ok (.iconst 1, 1) := by decide +kernel
theorem dL_isOne_97 : decode cL_isOne 97 = .ok (.goto 4, 3) := by decide +kernel
theorem dL_isOne_100 : decode cL_isOne 100 = .ok (.iconst 0, 1) := by decide +kernel
theorem dL_isOne_101 : decode cL_isOne 101 = .ok (.if_icmp .ne 47, 3) := by decide +kernel
theorem dL_isOne_104 : decode cL_isOne 104 = .ok (.iload_n 2, 1) := by decide +kernel
theorem dL_isOne_105 : decode cL_isOne 105 = .ok (.iconst 1, 1) := by decide +kernel
theorem dL_isOne_106 : decode cL_isOne 106 = .ok (.if_icmp .eq 13, 3) := by decide +kernel
theorem dL_isOne_109 : decode cL_isOne 109 = .ok (.aload_n 0, 1) := by decide +kernel
theorem dL_isOne_110 : decode cL_isOne 110 = .ok (.iload_n 1, 1) := by decide +kernel
theorem dL_isOne_111 : decode cL_isOne 111 = .ok (.bipush 6, 2) := by decide +kernel
theorem dL_isOne_113 : decode cL_isOne 113 = .ok (.invokestatic 93, 3) := by decide +kernel
theorem dL_isOne_116 : decode cL_isOne 116 = .ok (.ifCond .ne 32, 3) := by decide +kernel
theorem dL_isOne_119 : decode cL_isOne 119 = .ok (.aload_n 0, 1) := by decide +kernel
theorem dL_isOne_120 : decode cL_isOne 120 = .ok (.iload_n 1, 1) := by decide +kernel
theorem dL_isOne_121 : decode cL_isOne 121 = .ok (.iconst 0, 1) := by decide +kernel
theorem dL_isOne_122 : decode cL_isOne 122 = .ok (.invokestatic 93, 3) := by decide +kernel
theorem dL_isOne_125 : decode cL_isOne 125 = .ok (.iconst 2, 1) := by decide +kernel
theorem dL_isOne_126 : decode cL_isOne 126 = .ok (.if_icmp .ne 18, 3) := by decide +kernel
theorem dL_isOne_129 : decode cL_isOne 129 = .ok (.aload_n 0, 1) := by decide +kernel
theorem dL_isOne_130 : decode cL_isOne 130 = .ok (.iload_n 1, 1) := by decide +kernel
theorem dL_isOne_131 : decode cL_isOne 131 = .ok (.iconst 2, 1) := by decide +kernel
theorem dL_isOne_132 : decode cL_isOne 132 = .ok (.invokestatic 93, 3) := by decide +kernel
theorem dL_isOne_135 : decode cL_isOne 135 = .ok (.aload_n 0, 1) := by decide +kernel
theorem dL_isOne_136 : decode cL_isOne 136 = .ok (.iload_n 1, 1) := by decide +kernel
theorem dL_isOne_137 : decode cL_isOne 137 = .ok (.iconst 4, 1) := by decide +kernel
theorem dL_isOne_138 : decode cL_isOne 138 = .ok (.invokestatic 93, 3) := by decide +kernel
theorem dL_isOne_141 : decode cL_isOne 141 = .ok (.if_icmp .ne 7, 3) := by decide +kernel
theorem dL_isOne_144 : decode cL_isOne 144 = .ok (.iconst 1, 1) := by decide +kernel
theorem dL_isOne_145 : decode cL_isOne 145 = .ok (.goto 4, 3) := by decide +kernel
theorem dL_isOne_148 : decode cL_isOne 148 = .ok (.iconst 0, 1) := by decide +kernel
theorem dL_isOne_149 : decode cL_isOne 149 = .ok (.istore 4, 2) := by decide +kernel
theorem dL_isOne_151 : decode cL_isOne 151 = .ok (.iload_n 2, 1) := by decide +kernel
theorem dL_isOne_152 : decode cL_isOne 152 = .ok (.iconst 1, 1) := by decide +kernel
theorem dL_isOne_153 : decode cL_isOne 153 = .ok (.if_icmp .ne 7, 3) := by decide +kernel
theorem dL_isOne_156 : decode cL_isOne 156 = .ok (.iload_n 3, 1) := by decide +kernel
theorem dL_isOne_157 : decode cL_isOne 157 = .ok (.goto 10, 3) := by decide +kernel
theorem dL_isOne_160 : decode cL_isOne 160 = .ok (.aload_n 0, 1) := by decide +kernel
theorem dL_isOne_161 : decode cL_isOne 161 = .ok (.iload_n 1, 1) := by decide +kernel
theorem dL_isOne_162 : decode cL_isOne 162 = .ok (.iconst 0, 1) := by decide +kernel
theorem dL_isOne_163 : decode cL_isOne 163 = .ok (.iconst 2, 1) := by decide +kernel
theorem dL_isOne_164 : decode cL_isOne 164 = .ok (.invokestatic 97, 3) := by decide +kernel
theorem dL_isOne_167 : decode cL_isOne 167 = .ok (.istore 5, 2) := by decide +kernel
theorem dL_isOne_169 : decode cL_isOne 169 = .ok (.iconst 0, 1) := by decide +kernel
theorem dL_isOne_170 : decode cL_isOne 170 = .ok (.istore 6, 2) := by decide +kernel
theorem dL_isOne_172 : decode cL_isOne 172 = .ok (.iconst 0, 1) := by decide +kernel
theorem dL_isOne_173 : decode cL_isOne 173 = .ok (.istore 7, 2) := by decide +kernel
theorem dL_isOne_175 : decode cL_isOne 175 = .ok (.iload 7, 2) := by decide +kernel
theorem dL_isOne_177 : decode cL_isOne 177 = .ok (.bipush 10, 2) := by decide +kernel
theorem dL_isOne_179 : decode cL_isOne 179 = .ok (.if_icmp .ge 77, 3) := by decide +kernel
theorem dL_isOne_182 : decode cL_isOne 182 = .ok (.aload_n 0, 1) := by decide +kernel
theorem dL_isOne_183 : decode cL_isOne 183 = .ok (.iload_n 1, 1) := by decide +kernel
theorem dL_isOne_184 : decode cL_isOne 184 = .ok (.iload 7, 2) := by decide +kernel
theorem dL_isOne_186 : decode cL_isOne 186 = .ok (.iconst 0, 1) := by decide +kernel
theorem dL_isOne_187 : decode cL_isOne 187 = .ok (.invokestatic 97, 3) := by decide +kernel
theorem dL_isOne_190 : decode cL_isOne 190 = .ok (.iconst (-1), 1) := by decide +kernel
theorem dL_isOne_191 : decode cL_isOne 191 = .ok (.if_icmp .eq 65, 3) := by decide +kernel
theorem dL_isOne_194 : decode cL_isOne 194 = .ok (.iload 4, 2) := by decide +kernel
theorem dL_isOne_196 : decode cL_isOne 196 = .ok (.ifCond .eq 38, 3) := by decide +kernel
theorem dL_isOne_199 : decode cL_isOne 199 = .ok (.aload_n 0, 1) := by decide +kernel
theorem dL_isOne_200 : decode cL_isOne 200 = .ok (.iload_n 1, 1) := by decide +kernel
theorem dL_isOne_201 : decode cL_isOne 201 = .ok (.iload 7, 2) := by decide +kernel
theorem dL_isOne_203 : decode cL_isOne 203 = .ok (.iconst 1, 1) := by decide +kernel
theorem dL_isOne_204 : decode cL_isOne 204 = .ok (.invokestatic 97, 3) := by decide +kernel
theorem dL_isOne_207 : decode cL_isOne 207 = .ok (.iload 5, 2) := by decide +kernel
theorem dL_isOne_209 : decode cL_isOne 209 = .ok (.if_icmp .gt 25, 3) := by decide +kernel
theorem dL_isOne_212 : decode cL_isOne 212 = .ok (.iload 7, 2) := by decide +kernel
theorem dL_isOne_214 : decode cL_isOne 214 = .ok (.ifCond .eq 16, 3) := by decide +kernel
theorem dL_isOne_217 : decode cL_isOne 217 = .ok (.aload_n 0, 1) := by decide +kernel
theorem dL_isOne_218 : decode cL_isOne 218 = .ok (.iload_n 1, 1) := by decide +kernel
theorem dL_isOne_219 : decode cL_isOne 219 = .ok (.iload 7, 2) := by decide +kernel
theorem dL_isOne_221 : decode cL_isOne 221 = .ok (.iconst 2, 1) := by decide +kernel
theorem dL_isOne_222 : decode cL_isOne 222 = .ok (.invokestatic 97, 3) := by decide +kernel
theorem dL_isOne_225 : decode cL_isOne 225 = .ok (.iload 5, 2) := by decide +kernel
theorem dL_isOne_227 : decode cL_isOne 227 = .ok (.if_icmp .ne 7, 3) := by decide +kernel
theorem dL_isOne_230 : decode cL_isOne 230 = .ok (.iconst 1, 1) := by decide +kernel
theorem dL_isOne_231 : decode cL_isOne 231 = .ok (.goto 4, 3) := by decide +kernel
theorem dL_isOne_234 : decode cL_isOne 234 = .ok (.iconst 0, 1) := by decide +kernel
theorem dL_isOne_235 : decode cL_isOne 235 = .ok (.istore 4, 2) := by decide +kernel
theorem dL_isOne_237 : decode cL_isOne 237 = .ok (.aload_n 0, 1) := by decide +kernel
theorem dL_isOne_238 : decode cL_isOne 238 = .ok (.iload_n 1, 1) := by decide +kernel
theorem dL_isOne_239 : decode cL_isOne 239 = .ok (.iload 7, 2) := by decide +kernel
theorem dL_isOne_241 : decode cL_isOne 241 = .ok (.iconst 1, 1) := by decide +kernel
theorem dL_isOne_242 : decode cL_isOne 242 = .ok (.invokestatic 97, 3) := by decide +kernel
theorem dL_isOne_245 : decode cL_isOne 245 = .ok (.istore 5, 2) := by decide +kernel
theorem dL_isOne_247 : decode cL_isOne 247 = .ok (.iinc 6 1, 3) := by decide +kernel
theorem dL_isOne_250 : decode cL_isOne 250 = .ok (.iinc 7 1, 3) := by decide +kernel
theorem dL_isOne_253 : decode cL_isOne 253 = .ok (.goto (-78), 3) := by decide +kernel
theorem dL_isOne_256 : decode cL_isOne 256 = .ok (.iload 4, 2) := by decide +kernel
theorem dL_isOne_258 : decode cL_isOne 258 = .ok (.ifCond .eq 55, 3) := by decide +kernel
theorem dL_isOne_261 : decode cL_isOne 261 = .ok (.iload 6, 2) := by decide +kernel
theorem dL_isOne_263 : decode cL_isOne 263 = .ok (.ifCond .le 50, 3) := by decide +kernel
theorem dL_isOne_266 : decode cL_isOne 266 = .ok (.aload_n 0, 1) := by decide +kernel
theorem dL_isOne_267 : decode cL_isOne 267 = .ok (.iload_n 1, 1) := by decide +kernel
theorem dL_isOne_268 : decode cL_isOne 268 = .ok (.bipush 10, 2) := by decide +kernel
theorem dL_isOne_270 : decode cL_isOne 270 = .ok (.iconst 0, 1) := by decide +kernel
theorem dL_isOne_271 : decode cL_isOne 271 = .ok (.invokestatic 97, 3) := by decide +kernel
theorem dL_isOne_274 : decode cL_isOne 274 = .ok (.iconst (-1), 1) := by decide +kernel
theorem dL_isOne_275 : decode cL_isOne 275 = .ok (.if_icmp .ne 38, 3) := by decide +kernel
theorem dL_isOne_278 : decode cL_isOne 278 = .ok (.iload 6, 2) := by decide +kernel
theorem dL_isOne_280 : decode cL_isOne 280 = .ok (.aload_n 0, 1) := by decide +kernel
theorem dL_isOne_281 : decode cL_isOne 281 = .ok (.iload_n 1, 1) := by decide +kernel
theorem dL_isOne_282 : decode cL_isOne 282 = .ok (.bipush 10, 2) := by decide +kernel
theorem dL_isOne_284 : decode cL_isOne 284 = .ok (.invokestatic 93, 3) := by decide +kernel
theorem dL_isOne_287 : decode cL_isOne 287 = .ok (.bipush 9, 2) := by decide +kernel
theorem dL_isOne_289 : decode cL_isOne 289 = .ok (.if_icmp .ge 15, 3) := by decide +kernel
theorem dL_isOne_292 : decode cL_isOne 292 = .ok (.aload_n 0, 1) := by decide +kernel
theorem dL_isOne_293 : decode cL_isOne 293 = .ok (.iload_n 1, 1) := by decide +kernel
theorem dL_isOne_294 : decode cL_isOne 294 = .ok (.bipush 10, 2) := by decide +kernel
theorem dL_isOne_296 : decode cL_isOne 296 = .ok (.invokestatic 93, 3) := by decide +kernel
theorem dL_isOne_299 : decode cL_isOne 299 = .ok (.iconst 1, 1) := by decide +kernel
theorem dL_isOne_300 : decode cL_isOne 300 = .ok (.iadd, 1) := by decide +kernel
theorem dL_isOne_301 : decode cL_isOne 301 = .ok (.goto 5, 3) := by decide +kernel
theorem dL_isOne_304 : decode cL_isOne 304 = .ok (.bipush 10, 2) := by decide +kernel
theorem dL_isOne_306 : decode cL_isOne 306 = .ok (.if_icmp .ne 7, 3) := by decide +kernel
theorem dL_isOne_309 : decode cL_isOne 309 = .ok (.iconst 1, 1) := by decide +kernel
theorem dL_isOne_310 : decode cL_isOne 310 = .ok (.goto 4, 3) := by decide +kernel
theorem dL_isOne_313 : decode cL_isOne 313 = .ok (.iconst 0, 1) := by decide +kernel
theorem dL_isOne_314 : decode cL_isOne 314 = .ok (.istore 4, 2) := by decide +kernel
theorem dL_isOne_316 : decode cL_isOne 316 = .ok (.iconst 0, 1) := by decide +kernel
theorem dL_isOne_317 : decode cL_isOne 317 = .ok (.istore 7, 2) := by decide +kernel
theorem dL_isOne_319 : decode cL_isOne 319 = .ok (.iconst 0, 1) := by decide +kernel
theorem dL_isOne_320 : decode cL_isOne 320 = .ok (.istore 8, 2) := by decide +kernel
theorem dL_isOne_322 : decode cL_isOne 322 = .ok (.iconst (-1), 1) := by decide +kernel
theorem dL_isOne_323 : decode cL_isOne 323 = .ok (.istore 9, 2) := by decide +kernel
theorem dL_isOne_325 : decode cL_isOne 325 = .ok (.iconst 0, 1) := by decide +kernel
theorem dL_isOne_326 : decode cL_isOne 326 = .ok (.istore 10, 2) := by decide +kernel
theorem dL_isOne_328 : decode cL_isOne 328 = .ok (.iload 10, 2) := by decide +kernel
theorem dL_isOne_330 : decode cL_isOne 330 = .ok (.aload_n 0, 1) := by decide +kernel
theorem dL_isOne_331 : decode cL_isOne 331 = .ok (.iconst 2, 1) := by decide +kernel
theorem dL_isOne_332 : decode cL_isOne 332 = .ok (.invokestatic 88, 3) := by decide +kernel
theorem dL_isOne_335 : decode cL_isOne 335 = .ok (.if_icmp .ge 41, 3) := by decide +kernel
theorem dL_isOne_338 : decode cL_isOne 338 = .ok (.iload 7, 2) := by decide +kernel
theorem dL_isOne_340 : decode cL_isOne 340 = .ok (.aload_n 0, 1) := by decide +kernel
theorem dL_isOne_341 : decode cL_isOne 341 = .ok (.iload 10, 2) := by decide +kernel
theorem dL_isOne_343 : decode cL_isOne 343 = .ok (.iconst 4, 1) := by decide +kernel
theorem dL_isOne_344 : decode cL_isOne 344 = .ok (.invokestatic 103, 3) := by decide +kernel
theorem dL_isOne_347 : decode cL_isOne 347 = .ok (.iload_n 1, 1) := by decide +kernel
theorem dL_isOne_348 : decode cL_isOne 348 = .ok (.ishr, 1) := by decide +kernel
theorem dL_isOne_349 : decode cL_isOne 349 = .ok (.iconst 1, 1) := by decide +kernel
theorem dL_isOne_350 : decode cL_isOne 350 = .ok (.iand, 1) := by decide +kernel
theorem dL_isOne_351 : decode cL_isOne 351 = .ok (.iadd, 1) := by decide +kernel
theorem dL_isOne_352 : decode cL_isOne 352 = .ok (.istore 7, 2) := by decide +kernel
theorem dL_isOne_354 : decode cL_isOne 354 = .ok (.iload 8, 2) := by decide +kernel
theorem dL_isOne_356 : decode cL_isOne 356 = .ok (.aload_n 0, 1) := by decide +kernel
theorem dL_isOne_357 : decode cL_isOne 357 = .ok (.iload 10, 2) := by decide +kernel
theorem dL_isOne_359 : decode cL_isOne 359 = .ok (.iconst 5, 1) := by decide +kernel
theorem dL_isOne_360 : decode cL_isOne 360 = .ok (.invokestatic 103, 3) := by decide +kernel
theorem dL_isOne_363 : decode cL_isOne 363 = .ok (.iload_n 1, 1) := by decide +kernel
theorem dL_isOne_364 : decode cL_isOne 364 = .ok (.ishr, 1) := by decide +kernel
theorem dL_isOne_365 : decode cL_isOne 365 = .ok (.iconst 1, 1) := by decide +kernel
theorem dL_isOne_366 : decode cL_isOne 366 = .ok (.iand, 1) := by decide +kernel
theorem dL_isOne_367 : decode cL_isOne 367 = .ok (.iadd, 1) := by decide +kernel
theorem dL_isOne_368 : decode cL_isOne 368 = .ok (.istore 8, 2) := by decide +kernel
theorem dL_isOne_370 : decode cL_isOne 370 = .ok (.iinc 10 1, 3) := by decide +kernel
theorem dL_isOne_373 : decode cL_isOne 373 = .ok (.goto (-45), 3) := by decide +kernel
theorem dL_isOne_376 : decode cL_isOne 376 = .ok (.iconst 0, 1) := by decide +kernel
theorem dL_isOne_377 : decode cL_isOne 377 = .ok (.istore 10, 2) := by decide +kernel
theorem dL_isOne_379 : decode cL_isOne 379 = .ok (.iload 10, 2) := by decide +kernel
theorem dL_isOne_381 : decode cL_isOne 381 = .ok (.aload_n 0, 1) := by decide +kernel
theorem dL_isOne_382 : decode cL_isOne 382 = .ok (.iload_n 1, 1) := by decide +kernel
theorem dL_isOne_383 : decode cL_isOne 383 = .ok (.bipush 6, 2) := by decide +kernel
theorem dL_isOne_385 : decode cL_isOne 385 = .ok (.invokestatic 93, 3) := by decide +kernel
theorem dL_isOne_388 : decode cL_isOne 388 = .ok (.if_icmp .ge 80, 3) := by decide +kernel
theorem dL_isOne_391 : decode cL_isOne 391 = .ok (.iload 4, 2) := by decide +kernel
theorem dL_isOne_393 : decode cL_isOne 393 = .ok (.ifCond .eq 75, 3) := by decide +kernel
theorem dL_isOne_396 : decode cL_isOne 396 = .ok (.aload_n 0, 1) := by decide +kernel
theorem dL_isOne_397 : decode cL_isOne 397 = .ok (.iload_n 1, 1) := by decide +kernel
theorem dL_isOne_398 : decode cL_isOne 398 = .ok (.iload 10, 2) := by decide +kernel
theorem dL_isOne_400 : decode cL_isOne 400 = .ok (.invokestatic 100, 3) := by decide +kernel
theorem dL_isOne_403 : decode cL_isOne 403 = .ok (.istore 11, 2) := by decide +kernel
theorem dL_isOne_405 : decode cL_isOne 405 = .ok (.iload 11, 2) := by decide +kernel
theorem dL_isOne_407 : decode cL_isOne 407 = .ok (.iload 9, 2) := by decide +kernel
theorem dL_isOne_409 : decode cL_isOne 409 = .ok (.if_icmp .le 46, 3) := by decide +kernel
theorem dL_isOne_412 : decode cL_isOne 412 = .ok (.iload 11, 2) := by decide +kernel
theorem dL_isOne_414 : decode cL_isOne 414 = .ok (.aload_n 0, 1) := by decide +kernel
theorem dL_isOne_415 : decode cL_isOne 415 = .ok (.iconst 2, 1) := by decide +kernel
theorem dL_isOne_416 : decode cL_isOne 416 = .ok (.invokestatic 88, 3) := by decide +kernel
theorem dL_isOne_419 : decode cL_isOne 419 = .ok (.if_icmp .ge 36, 3) := by decide +kernel
theorem dL_isOne_422 : decode cL_isOne 422 = .ok (.aload_n 0, 1) := by decide +kernel
theorem dL_isOne_423 : decode cL_isOne 423 = .ok (.iload 11, 2) := by decide +kernel
theorem dL_isOne_425 : decode cL_isOne 425 = .ok (.iconst 4, 1) := by decide +kernel
theorem dL_isOne_426 : decode cL_isOne 426 = .ok (.invokestatic 103, 3) := by decide +kernel
theorem dL_isOne_429 : decode cL_isOne 429 = .ok (.iload_n 1, 1) := by decide +kernel
theorem dL_isOne_430 : decode cL_isOne 430 = .ok (.ishr, 1) := by decide +kernel
theorem dL_isOne_431 : decode cL_isOne 431 = .ok (.iconst 1, 1) := by decide +kernel
theorem dL_isOne_432 : decode cL_isOne 432 = .ok (.iand, 1) := by decide +kernel
theorem dL_isOne_433 : decode cL_isOne 433 = .ok (.iconst 1, 1) := by decide +kernel
theorem dL_isOne_434 : decode cL_isOne 434 = .ok (.if_icmp .ne 21, 3) := by decide +kernel
theorem dL_isOne_437 : decode cL_isOne 437 = .ok (.aload_n 0, 1) := by decide +kernel
theorem dL_isOne_438 : decode cL_isOne 438 = .ok (.iload 11, 2) := by decide +kernel
theorem dL_isOne_440 : decode cL_isOne 440 = .ok (.iconst 5, 1) := by decide +kernel
theorem dL_isOne_441 : decode cL_isOne 441 = .ok (.invokestatic 103, 3) := by decide +kernel
theorem dL_isOne_444 : decode cL_isOne 444 = .ok (.iload_n 1, 1) := by decide +kernel
theorem dL_isOne_445 : decode cL_isOne 445 = .ok (.ishr, 1) := by decide +kernel
theorem dL_isOne_446 : decode cL_isOne 446 = .ok (.iconst 1, 1) := by decide +kernel
theorem dL_isOne_447 : decode cL_isOne 447 = .ok (.iand, 1) := by decide +kernel
theorem dL_isOne_448 : decode cL_isOne 448 = .ok (.ifCond .ne 7, 3) := by decide +kernel
theorem dL_isOne_451 : decode cL_isOne 451 = .ok (.iconst 1, 1) := by decide +kernel
theorem dL_isOne_452 : decode cL_isOne 452 = .ok (.goto 4, 3) := by decide +kernel
theorem dL_isOne_455 : decode cL_isOne 455 = .ok (.iconst 0, 1) := by decide +kernel
theorem dL_isOne_456 : decode cL_isOne 456 = .ok (.istore 4, 2) := by decide +kernel
theorem dL_isOne_458 : decode cL_isOne 458 = .ok (.iload 11, 2) := by decide +kernel
theorem dL_isOne_460 : decode cL_isOne 460 = .ok (.istore 9, 2) := by decide +kernel
theorem dL_isOne_462 : decode cL_isOne 462 = .ok (.iinc 10 1, 3) := by decide +kernel
theorem dL_isOne_465 : decode cL_isOne 465 = .ok (.goto (-86), 3) := by decide +kernel
theorem dL_isOne_468 : decode cL_isOne 468 = .ok (.iload 4, 2) := by decide +kernel
theorem dL_isOne_470 : decode cL_isOne 470 = .ok (.ifCond .eq 81, 3) := by decide +kernel
theorem dL_isOne_473 : decode cL_isOne 473 = .ok (.aload_n 0, 1) := by decide +kernel
theorem dL_isOne_474 : decode cL_isOne 474 = .ok (.iload_n 1, 1) := by decide +kernel
theorem dL_isOne_475 : decode cL_isOne 475 = .ok (.bipush 7, 2) := by decide +kernel
theorem dL_isOne_477 : decode cL_isOne 477 = .ok (.invokestatic 93, 3) := by decide +kernel
theorem dL_isOne_480 : decode cL_isOne 480 = .ok (.iload 7, 2) := by decide +kernel
theorem dL_isOne_482 : decode cL_isOne 482 = .ok (.if_icmp .ne 69, 3) := by decide +kernel
theorem dL_isOne_485 : decode cL_isOne 485 = .ok (.aload_n 0, 1) := by decide +kernel
theorem dL_isOne_486 : decode cL_isOne 486 = .ok (.iload_n 1, 1) := by decide +kernel
theorem dL_isOne_487 : decode cL_isOne 487 = .ok (.bipush 8, 2) := by decide +kernel
theorem dL_isOne_489 : decode cL_isOne 489 = .ok (.invokestatic 93, 3) := by decide +kernel
theorem dL_isOne_492 : decode cL_isOne 492 = .ok (.iload 8, 2) := by decide +kernel
theorem dL_isOne_494 : decode cL_isOne 494 = .ok (.if_icmp .ne 57, 3) := by decide +kernel
theorem dL_isOne_497 : decode cL_isOne 497 = .ok (.iload 7, 2) := by decide +kernel
theorem dL_isOne_499 : decode cL_isOne 499 = .ok (.iload 8, 2) := by decide +kernel
theorem dL_isOne_501 : decode cL_isOne 501 = .ok (.aload_n 0, 1) := by decide +kernel
theorem dL_isOne_502 : decode cL_isOne 502 = .ok (.iload_n 1, 1) := by decide +kernel
theorem dL_isOne_503 : decode cL_isOne 503 = .ok (.bipush 9, 2) := by decide +kernel
theorem dL_isOne_505 : decode cL_isOne 505 = .ok (.invokestatic 93, 3) := by decide +kernel
theorem dL_isOne_508 : decode cL_isOne 508 = .ok (.iadd, 1) := by decide +kernel
theorem dL_isOne_509 : decode cL_isOne 509 = .ok (.aload_n 0, 1) := by decide +kernel
theorem dL_isOne_510 : decode cL_isOne 510 = .ok (.iload_n 1, 1) := by decide +kernel
theorem dL_isOne_511 : decode cL_isOne 511 = .ok (.bipush 6, 2) := by decide +kernel
theorem dL_isOne_513 : decode cL_isOne 513 = .ok (.invokestatic 93, 3) := by decide +kernel
theorem dL_isOne_516 : decode cL_isOne 516 = .ok (.iadd, 1) := by decide +kernel
theorem dL_isOne_517 : decode cL_isOne 517 = .ok (.if_icmp .lt 34, 3) := by decide +kernel
theorem dL_isOne_520 : decode cL_isOne 520 = .ok (.iload_n 2, 1) := by decide +kernel
theorem dL_isOne_521 : decode cL_isOne 521 = .ok (.ifCond .eq 26, 3) := by decide +kernel
theorem dL_isOne_524 : decode cL_isOne 524 = .ok (.iload 7, 2) := by decide +kernel
theorem dL_isOne_526 : decode cL_isOne 526 = .ok (.iload 8, 2) := by decide +kernel
theorem dL_isOne_528 : decode cL_isOne 528 = .ok (.aload_n 0, 1) := by decide +kernel
theorem dL_isOne_529 : decode cL_isOne 529 = .ok (.iload_n 1, 1) := by decide +kernel
theorem dL_isOne_530 : decode cL_isOne 530 = .ok (.bipush 9, 2) := by decide +kernel
theorem dL_isOne_532 : decode cL_isOne 532 = .ok (.invokestatic 93, 3) := by decide +kernel
theorem dL_isOne_535 : decode cL_isOne 535 = .ok (.iadd, 1) := by decide +kernel
theorem dL_isOne_536 : decode cL_isOne 536 = .ok (.aload_n 0, 1) := by decide +kernel
theorem dL_isOne_537 : decode cL_isOne 537 = .ok (.iload_n 1, 1) := by decide +kernel
theorem dL_isOne_538 : decode cL_isOne 538 = .ok (.bipush 6, 2) := by decide +kernel
theorem dL_isOne_540 : decode cL_isOne 540 = .ok (.invokestatic 93, 3) := by decide +kernel
theorem dL_isOne_543 : decode cL_isOne 543 = .ok (.iadd, 1) := by decide +kernel
theorem dL_isOne_544 : decode cL_isOne 544 = .ok (.if_icmp .ne 7, 3) := by decide +kernel
theorem dL_isOne_547 : decode cL_isOne 547 = .ok (.iconst 1, 1) := by decide +kernel
theorem dL_isOne_548 : decode cL_isOne 548 = .ok (.goto 4, 3) := by decide +kernel
theorem dL_isOne_551 : decode cL_isOne 551 = .ok (.iconst 0, 1) := by decide +kernel
theorem dL_isOne_552 : decode cL_isOne 552 = .ok (.istore 4, 2) := by decide +kernel
theorem dL_isOne_554 : decode cL_isOne 554 = .ok (.iload_n 2, 1) := by decide +kernel
theorem dL_isOne_555 : decode cL_isOne 555 = .ok (.iconst 1, 1) := by decide +kernel
theorem dL_isOne_556 : decode cL_isOne 556 = .ok (.if_icmp .ne 22, 3) := by decide +kernel
theorem dL_isOne_559 : decode cL_isOne 559 = .ok (.aload_n 0, 1) := by decide +kernel
theorem dL_isOne_560 : decode cL_isOne 560 = .ok (.iload_n 1, 1) := by decide +kernel
theorem dL_isOne_561 : decode cL_isOne 561 = .ok (.iconst 2, 1) := by decide +kernel
theorem dL_isOne_562 : decode cL_isOne 562 = .ok (.invokestatic 93, 3) := by decide +kernel
theorem dL_isOne_565 : decode cL_isOne 565 = .ok (.aload_n 0, 1) := by decide +kernel
theorem dL_isOne_566 : decode cL_isOne 566 = .ok (.iload_n 1, 1) := by decide +kernel
theorem dL_isOne_567 : decode cL_isOne 567 = .ok (.iconst 4, 1) := by decide +kernel
theorem dL_isOne_568 : decode cL_isOne 568 = .ok (.invokestatic 93, 3) := by decide +kernel
theorem dL_isOne_571 : decode cL_isOne 571 = .ok (.if_icmp .ne 7, 3) := by decide +kernel
theorem dL_isOne_574 : decode cL_isOne 574 = .ok (.iconst 1, 1) := by decide +kernel
theorem dL_isOne_575 : decode cL_isOne 575 = .ok (.goto 4, 3) := by decide +kernel
theorem dL_isOne_578 : decode cL_isOne 578 = .ok (.iconst 0, 1) := by decide +kernel
theorem dL_isOne_579 : decode cL_isOne 579 = .ok (.istore 10, 2) := by decide +kernel
theorem dL_isOne_581 : decode cL_isOne 581 = .ok (.iload 4, 2) := by decide +kernel
theorem dL_isOne_583 : decode cL_isOne 583 = .ok (.ifCond .eq 146, 3) := by decide +kernel
theorem dL_isOne_586 : decode cL_isOne 586 = .ok (.aload_n 0, 1) := by decide +kernel
theorem dL_isOne_587 : decode cL_isOne 587 = .ok (.iload_n 1, 1) := by decide +kernel
theorem dL_isOne_588 : decode cL_isOne 588 = .ok (.invokestatic 138, 3) := by decide +kernel
theorem dL_isOne_591 : decode cL_isOne 591 = .ok (.ifCond .ne 7, 3) := by decide +kernel
theorem dL_isOne_594 : decode cL_isOne 594 = .ok (.iconst 1, 1) := by decide +kernel
theorem dL_isOne_595 : decode cL_isOne 595 = .ok (.goto 4, 3) := by decide +kernel
theorem dL_isOne_598 : decode cL_isOne 598 = .ok (.iconst 0, 1) := by decide +kernel
theorem dL_isOne_599 : decode cL_isOne 599 = .ok (.iload 10, 2) := by decide +kernel
theorem dL_isOne_601 : decode cL_isOne 601 = .ok (.if_icmp .ne 128, 3) := by decide +kernel
theorem dL_isOne_604 : decode cL_isOne 604 = .ok (.aload_n 0, 1) := by decide +kernel
theorem dL_isOne_605 : decode cL_isOne 605 = .ok (.iload_n 1, 1) := by decide +kernel
theorem dL_isOne_606 : decode cL_isOne 606 = .ok (.invokestatic 138, 3) := by decide +kernel
theorem dL_isOne_609 : decode cL_isOne 609 = .ok (.iconst (-1), 1) := by decide +kernel
theorem dL_isOne_610 : decode cL_isOne 610 = .ok (.if_icmp .ne 7, 3) := by decide +kernel
theorem dL_isOne_613 : decode cL_isOne 613 = .ok (.iconst 1, 1) := by decide +kernel
theorem dL_isOne_614 : decode cL_isOne 614 = .ok (.goto 4, 3) := by decide +kernel
theorem dL_isOne_617 : decode cL_isOne 617 = .ok (.iconst 0, 1) := by decide +kernel
theorem dL_isOne_618 : decode cL_isOne 618 = .ok (.iload_n 2, 1) := by decide +kernel
theorem dL_isOne_619 : decode cL_isOne 619 = .ok (.ifCond .ne 7, 3) := by decide +kernel
theorem dL_isOne_622 : decode cL_isOne 622 = .ok (.iconst 1, 1) := by decide +kernel
theorem dL_isOne_623 : decode cL_isOne 623 = .ok (.goto 4, 3) := by decide +kernel
theorem dL_isOne_626 : decode cL_isOne 626 = .ok (.iconst 0, 1) := by decide +kernel
theorem dL_isOne_627 : decode cL_isOne 627 = .ok (.if_icmp .ne 102, 3) := by decide +kernel
theorem dL_isOne_630 : decode cL_isOne 630 = .ok (.aload_n 0, 1) := by decide +kernel
theorem dL_isOne_631 : decode cL_isOne 631 = .ok (.iload_n 1, 1) := by decide +kernel
theorem dL_isOne_632 : decode cL_isOne 632 = .ok (.invokestatic 144, 3) := by decide +kernel
theorem dL_isOne_635 : decode cL_isOne 635 = .ok (.ifCond .ne 7, 3) := by decide +kernel
theorem dL_isOne_638 : decode cL_isOne 638 = .ok (.iconst 1, 1) := by decide +kernel
theorem dL_isOne_639 : decode cL_isOne 639 = .ok (.goto 4, 3) := by decide +kernel
theorem dL_isOne_642 : decode cL_isOne 642 = .ok (.iconst 0, 1) := by decide +kernel
theorem dL_isOne_643 : decode cL_isOne 643 = .ok (.iload_n 2, 1) := by decide +kernel
theorem dL_isOne_644 : decode cL_isOne 644 = .ok (.ifCond .ne 7, 3) := by decide +kernel
theorem dL_isOne_647 : decode cL_isOne 647 = .ok (.iconst 1, 1) := by decide +kernel
theorem dL_isOne_648 : decode cL_isOne 648 = .ok (.goto 4, 3) := by decide +kernel
theorem dL_isOne_651 : decode cL_isOne 651 = .ok (.iconst 0, 1) := by decide +kernel
theorem dL_isOne_652 : decode cL_isOne 652 = .ok (.if_icmp .ne 77, 3) := by decide +kernel
theorem dL_isOne_655 : decode cL_isOne 655 = .ok (.iload_n 2, 1) := by decide +kernel
theorem dL_isOne_656 : decode cL_isOne 656 = .ok (.ifCond .eq 69, 3) := by decide +kernel
theorem dL_isOne_659 : decode cL_isOne 659 = .ok (.aload_n 0, 1) := by decide +kernel
theorem dL_isOne_660 : decode cL_isOne 660 = .ok (.iload_n 1, 1) := by decide +kernel
theorem dL_isOne_661 : decode cL_isOne 661 = .ok (.invokestatic 144, 3) := by decide +kernel
theorem dL_isOne_664 : decode cL_isOne 664 = .ok (.aload_n 0, 1) := by decide +kernel
theorem dL_isOne_665 : decode cL_isOne 665 = .ok (.iload_n 1, 1) := by decide +kernel
theorem dL_isOne_666 : decode cL_isOne 666 = .ok (.iconst 4, 1) := by decide +kernel
theorem dL_isOne_667 : decode cL_isOne 667 = .ok (.invokestatic 93, 3) := by decide +kernel
theorem dL_isOne_670 : decode cL_isOne 670 = .ok (.ishr, 1) := by decide +kernel
theorem dL_isOne_671 : decode cL_isOne 671 = .ok (.iconst 1, 1) := by decide +kernel
theorem dL_isOne_672 : decode cL_isOne 672 = .ok (.iand, 1) := by decide +kernel
theorem dL_isOne_673 : decode cL_isOne 673 = .ok (.iconst 1, 1) := by decide +kernel
theorem dL_isOne_674 : decode cL_isOne 674 = .ok (.if_icmp .ne 55, 3) := by decide +kernel
theorem dL_isOne_677 : decode cL_isOne 677 = .ok (.aload_n 0, 1) := by decide +kernel
theorem dL_isOne_678 : decode cL_isOne 678 = .ok (.iload_n 1, 1) := by decide +kernel
theorem dL_isOne_679 : decode cL_isOne 679 = .ok (.invokestatic 144, 3) := by decide +kernel
theorem dL_isOne_682 : decode cL_isOne 682 = .ok (.aload_n 0, 1) := by decide +kernel
theorem dL_isOne_683 : decode cL_isOne 683 = .ok (.iload_n 1, 1) := by decide +kernel
theorem dL_isOne_684 : decode cL_isOne 684 = .ok (.iconst 1, 1) := by decide +kernel
theorem dL_isOne_685 : decode cL_isOne 685 = .ok (.invokestatic 93, 3) := by decide +kernel
theorem dL_isOne_688 : decode cL_isOne 688 = .ok (.ifCond .ne 8, 3) := by decide +kernel
theorem dL_isOne_691 : decode cL_isOne 691 = .ok (.ldc 150, 2) := by decide +kernel
theorem dL_isOne_693 : decode cL_isOne 693 = .ok (.goto 29, 3) := by decide +kernel
theorem dL_isOne_696 : decode cL_isOne 696 = .ok (.aload_n 0, 1) := by decide +kernel
theorem dL_isOne_697 : decode cL_isOne 697 = .ok (.iload_n 1, 1) := by decide +kernel
theorem dL_isOne_698 : decode cL_isOne 698 = .ok (.iconst 1, 1) := by decide +kernel
theorem dL_isOne_699 : decode cL_isOne 699 = .ok (.invokestatic 93, 3) := by decide +kernel
theorem dL_isOne_702 : decode cL_isOne 702 = .ok (.iconst 2, 1) := by decide +kernel
theorem dL_isOne_703 : decode cL_isOne 703 = .ok (.if_icmp .ne 14, 3) := by decide +kernel
theorem dL_isOne_706 : decode cL_isOne 706 = .ok (.iconst 1, 1) := by decide +kernel
theorem dL_isOne_707 : decode cL_isOne 707 = .ok (.aload_n 0, 1) := by decide +kernel
theorem dL_isOne_708 : decode cL_isOne 708 = .ok (.iload_n 1, 1) := by decide +kernel
theorem dL_isOne_709 : decode cL_isOne 709 = .ok (.iconst 4, 1) := by decide +kernel
theorem dL_isOne_710 : decode cL_isOne 710 = .ok (.invokestatic 93, 3) := by decide +kernel
theorem dL_isOne_713 : decode cL_isOne 713 = .ok (.ishl, 1) := by decide +kernel
theorem dL_isOne_714 : decode cL_isOne 714 = .ok (.goto 8, 3) := by decide +kernel
theorem dL_isOne_717 : decode cL_isOne 717 = .ok (.aload_n 0, 1) := by decide +kernel
theorem dL_isOne_718 : decode cL_isOne 718 = .ok (.iload_n 1, 1) := by decide +kernel
theorem dL_isOne_719 : decode cL_isOne 719 = .ok (.invokestatic 144, 3) := by decide +kernel
theorem dL_isOne_722 : decode cL_isOne 722 = .ok (.if_icmp .ne 7, 3) := by decide +kernel
theorem dL_isOne_725 : decode cL_isOne 725 = .ok (.iconst 1, 1) := by decide +kernel
theorem dL_isOne_726 : decode cL_isOne 726 = .ok (.goto 4, 3) := by decide +kernel
theorem dL_isOne_729 : decode cL_isOne 729 = .ok (.iconst 0, 1) := by decide +kernel
theorem dL_isOne_730 : decode cL_isOne 730 = .ok (.ireturn, 1) := by decide +kernel
theorem dL_fits_0 : decode cL_fits 0 = .ok (.iconst 0, 1) := by decide +kernel
theorem dL_fits_1 : decode cL_fits 1 = .ok (.istore_n 2, 1) := by decide +kernel
theorem dL_fits_2 : decode cL_fits 2 = .ok (.iconst 0, 1) := by decide +kernel
theorem dL_fits_3 : decode cL_fits 3 = .ok (.istore_n 3, 1) := by decide +kernel
theorem dL_fits_4 : decode cL_fits 4 = .ok (.iconst 0, 1) := by decide +kernel
theorem dL_fits_5 : decode cL_fits 5 = .ok (.istore 4, 2) := by decide +kernel
theorem dL_fits_7 : decode cL_fits 7 = .ok (.iconst 0, 1) := by decide +kernel
theorem dL_fits_8 : decode cL_fits 8 = .ok (.istore 5, 2) := by decide +kernel
theorem dL_fits_10 : decode cL_fits 10 = .ok (.iconst 0, 1) := by decide +kernel
theorem dL_fits_11 : decode cL_fits 11 = .ok (.istore 6, 2) := by decide +kernel
theorem dL_fits_13 : decode cL_fits 13 = .ok (.iconst 0, 1) := by decide +kernel
theorem dL_fits_14 : decode cL_fits 14 = .ok (.istore 7, 2) := by decide +kernel
theorem dL_fits_16 : decode cL_fits 16 = .ok (.iconst 1, 1) := by decide +kernel
theorem dL_fits_17 : decode cL_fits 17 = .ok (.istore 8, 2) := by decide +kernel
theorem dL_fits_19 : decode cL_fits 19 = .ok (.iconst 0, 1) := by decide +kernel
theorem dL_fits_20 : decode cL_fits 20 = .ok (.istore 9, 2) := by decide +kernel
theorem dL_fits_22 : decode cL_fits 22 = .ok (.iload 9, 2) := by decide +kernel
theorem dL_fits_24 : decode cL_fits 24 = .ok (.aload_n 0, 1) := by decide +kernel
theorem dL_fits_25 : decode cL_fits 25 = .ok (.iconst 0, 1) := by decide +kernel
theorem dL_fits_26 : decode cL_fits 26 = .ok (.invokestatic 88, 3) := by decide +kernel
theorem dL_fits_29 : decode cL_fits 29 = .ok (.if_icmp .ge 95, 3) := by decide +kernel
theorem dL_fits_32 : decode cL_fits 32 = .ok (.iload 8, 2) := by decide +kernel
theorem dL_fits_34 : decode cL_fits 34 = .ok (.ifCond .eq 90, 3) := by decide +kernel
theorem dL_fits_37 : decode cL_fits 37 = .ok (.aload_n 0, 1) := by decide +kernel
theorem dL_fits_38 : decode cL_fits 38 = .ok (.iload 9, 2) := by decide +kernel
theorem dL_fits_40 : decode cL_fits 40 = .ok (.invokestatic 151, 3) := by decide +kernel
theorem dL_fits_43 : decode cL_fits 43 = .ok (.istore 8, 2) := by decide +kernel
theorem dL_fits_45 : decode cL_fits 45 = .ok (.iload_n 2, 1) := by decide +kernel
theorem dL_fits_46 : decode cL_fits 46 = .ok (.aload_n 0, 1) := by decide +kernel
theorem dL_fits_47 : decode cL_fits 47 = .ok (.iload 9, 2) := by decide +kernel
theorem dL_fits_49 : decode cL_fits 49 = .ok (.iconst 5, 1) := by decide +kernel
theorem dL_fits_50 : decode cL_fits 50 = .ok (.invokestatic 93, 3) := by decide +kernel
theorem dL_fits_53 : decode cL_fits 53 = .ok (.iadd, 1) := by decide +kernel
theorem dL_fits_54 : decode cL_fits 54 = .ok (.istore_n 2, 1) := by decide +kernel
theorem dL_fits_55 : decode cL_fits 55 = .ok (.iload_n 3, 1) := by decide +kernel
theorem dL_fits_56 : decode cL_fits 56 = .ok (.aload_n 0, 1) := by decide +kernel
theorem dL_fits_57 : decode cL_fits 57 = .ok (.iload 9, 2) := by decide +kernel
theorem dL_fits_59 : decode cL_fits 59 = .ok (.bipush 6, 2) := by decide +kernel
theorem dL_fits_61 : decode cL_fits 61 = .ok (.invokestatic 93, 3) := by decide +kernel
theorem dL_fits_64 : decode cL_fits 64 = .ok (.iadd, 1) := by decide +kernel
theorem dL_fits_65 : decode cL_fits 65 = .ok (.istore_n 3, 1) := by decide +kernel
theorem dL_fits_66 : decode cL_fits 66 = .ok (.iload 7, 2) := by decide +kernel
theorem dL_fits_68 : decode cL_fits 68 = .ok (.aload_n 0, 1) := by decide +kernel
theorem dL_fits_69 : decode cL_fits 69 = .ok (.iload 9, 2) := by decide +kernel
theorem dL_fits_71 : decode cL_fits 71 = .ok (.bipush 7, 2) := by decide +kernel
theorem dL_fits_73 : decode cL_fits 73 = .ok (.invokestatic 93, 3) := by decide +kernel
theorem dL_fits_76 : decode cL_fits 76 = .ok (.iadd, 1) := by decide +kernel
theorem dL_fits_77 : decode cL_fits 77 = .ok (.istore 7, 2) := by decide +kernel
theorem dL_fits_79 : decode cL_fits 79 = .ok (.iload 4, 2) := by decide +kernel
theorem dL_fits_81 : decode cL_fits 81 = .ok (.aload_n 0, 1) := by decide +kernel
theorem dL_fits_82 : decode cL_fits 82 = .ok (.iload 9, 2) := by decide +kernel
theorem dL_fits_84 : decode cL_fits 84 = .ok (.bipush 8, 2) := by decide +kernel
theorem dL_fits_86 : decode cL_fits 86 = .ok (.invokestatic 93, 3) := by decide +kernel
theorem dL_fits_89 : decode cL_fits 89 = .ok (.iadd, 1) := by decide +kernel
theorem dL_fits_90 : decode cL_fits 90 = .ok (.istore 4, 2) := by decide +kernel
theorem dL_fits_92 : decode cL_fits 92 = .ok (.iload 5, 2) := by decide +kernel
theorem dL_fits_94 : decode cL_fits 94 = .ok (.aload_n 0, 1) := by decide +kernel
theorem dL_fits_95 : decode cL_fits 95 = .ok (.iload 9, 2) := by decide +kernel
theorem dL_fits_97 : decode cL_fits 97 = .ok (.bipush 9, 2) := by decide +kernel
theorem dL_fits_99 : decode cL_fits 99 = .ok (.invokestatic 93, 3) := by decide +kernel
theorem dL_fits_102 : decode cL_fits 102 = .ok (.iadd, 1) := by decide +kernel
theorem dL_fits_103 : decode cL_fits 103 = .ok (.istore 5, 2) := by decide +kernel
theorem dL_fits_105 : decode cL_fits 105 = .ok (.iload 6, 2) := by decide +kernel
theorem dL_fits_107 : decode cL_fits 107 = .ok (.aload_n 0, 1) := by decide +kernel
theorem dL_fits_108 : decode cL_fits 108 = .ok (.iload 9, 2) := by decide +kernel
theorem dL_fits_110 : decode cL_fits 110 = .ok (.bipush 10, 2) := by decide +kernel
theorem dL_fits_112 : decode cL_fits 112 = .ok (.invokestatic 93, 3) := by decide +kernel
theorem dL_fits_115 : decode cL_fits 115 = .ok (.iadd, 1) := by decide +kernel
theorem dL_fits_116 : decode cL_fits 116 = .ok (.istore 6, 2) := by decide +kernel
theorem dL_fits_118 : decode cL_fits 118 = .ok (.iinc 9 1, 3) := by decide +kernel
theorem dL_fits_121 : decode cL_fits 121 = .ok (.goto (-99), 3) := by decide +kernel
theorem dL_fits_124 : decode cL_fits 124 = .ok (.iconst 0, 1) := by decide +kernel
theorem dL_fits_125 : decode cL_fits 125 = .ok (.istore 9, 2) := by decide +kernel
theorem dL_fits_127 : decode cL_fits 127 = .ok (.iconst 0, 1) := by decide +kernel
theorem dL_fits_128 : decode cL_fits 128 = .ok (.istore 10, 2) := by decide +kernel
theorem dL_fits_130 : decode cL_fits 130 = .ok (.iconst 0, 1) := by decide +kernel
theorem dL_fits_131 : decode cL_fits 131 = .ok (.istore 11, 2) := by decide +kernel
theorem dL_fits_133 : decode cL_fits 133 = .ok (.iconst 0, 1) := by decide +kernel
theorem dL_fits_134 : decode cL_fits 134 = .ok (.istore 12, 2) := by decide +kernel
theorem dL_fits_136 : decode cL_fits 136 = .ok (.iconst 0, 1) := by decide +kernel
theorem dL_fits_137 : decode cL_fits 137 = .ok (.istore 13, 2) := by decide +kernel
theorem dL_fits_139 : decode cL_fits 139 = .ok (.iconst 0, 1) := by decide +kernel
theorem dL_fits_140 : decode cL_fits 140 = .ok (.istore 14, 2) := by decide +kernel
theorem dL_fits_142 : decode cL_fits 142 = .ok (.iload 14, 2) := by decide +kernel
theorem dL_fits_144 : decode cL_fits 144 = .ok (.bipush 16, 2) := by decide +kernel
theorem dL_fits_146 : decode cL_fits 146 = .ok (.if_icmp .ge 83, 3) := by decide +kernel
theorem dL_fits_149 : decode cL_fits 149 = .ok (.iload 9, 2) := by decide +kernel
theorem dL_fits_151 : decode cL_fits 151 = .ok (.aload_n 0, 1) := by decide +kernel
theorem dL_fits_152 : decode cL_fits 152 = .ok (.iload 14, 2) := by decide +kernel
theorem dL_fits_154 : decode cL_fits 154 = .ok (.iconst 0, 1) := by decide +kernel
theorem dL_fits_155 : decode cL_fits 155 = .ok (.invokestatic 105, 3) := by decide +kernel
theorem dL_fits_158 : decode cL_fits 158 = .ok (.iadd, 1) := by decide +kernel
theorem dL_fits_159 : decode cL_fits 159 = .ok (.istore 9, 2) := by decide +kernel
theorem dL_fits_161 : decode cL_fits 161 = .ok (.iload 10, 2) := by decide +kernel
theorem dL_fits_163 : decode cL_fits 163 = .ok (.aload_n 0, 1) := by decide +kernel
theorem dL_fits_164 : decode cL_fits 164 = .ok (.iload 14, 2) := by decide +kernel
theorem dL_fits_166 : decode cL_fits 166 = .ok (.iconst 1, 1) := by decide +kernel
theorem dL_fits_167 : decode cL_fits 167 = .ok (.invokestatic 105, 3) := by decide +kernel
theorem dL_fits_170 : decode cL_fits 170 = .ok (.iadd, 1) := by decide +kernel
theorem dL_fits_171 : decode cL_fits 171 = .ok (.istore 10, 2) := by decide +kernel
theorem dL_fits_173 : decode cL_fits 173 = .ok (.iload 11, 2) := by decide +kernel
theorem dL_fits_175 : decode cL_fits 175 = .ok (.aload_n 0, 1) := by decide +kernel
theorem dL_fits_176 : decode cL_fits 176 = .ok (.iload 14, 2) := by decide +kernel
theorem dL_fits_178 : decode cL_fits 178 = .ok (.iconst 2, 1) := by decide +kernel
theorem dL_fits_179 : decode cL_fits 179 = .ok (.invokestatic 105, 3) := by decide +kernel
theorem dL_fits_182 : decode cL_fits 182 = .ok (.iadd, 1) := by decide +kernel
theorem dL_fits_183 : decode cL_fits 183 = .ok (.istore 11, 2) := by decide +kernel
theorem dL_fits_185 : decode cL_fits 185 = .ok (.iload 12, 2) := by decide +kernel
theorem dL_fits_187 : decode cL_fits 187 = .ok (.aload_n 0, 1) := by decide +kernel
theorem dL_fits_188 : decode cL_fits 188 = .ok (.iload 14, 2) := by decide +kernel
theorem dL_fits_190 : decode cL_fits 190 = .ok (.iconst 3, 1) := by decide +kernel
theorem dL_fits_191 : decode cL_fits 191 = .ok (.invokestatic 105, 3) := by decide +kernel
