theorem d_L_coast_0 : decode method_3_code 0 = .ok (.aload_n 2, 1) := by decide +kernel
theorem d_L_coast_1 : decode method_3_code 1 = .ok (.iconst 0, 1) := by decide +kernel
theorem d_L_coast_2 : decode method_3_code 2 = .ok (.aload_n 0, 1) := by decide +kernel
theorem d_L_coast_3 : decode method_3_code 3 = .ok (.iload_n 1, 1) := by decide +kernel
theorem d_L_coast_4 : decode method_3_code 4 = .ok (.invokevirtual 7, 3) := by decide +kernel
theorem d_L_coast_7 : decode method_3_code 7 = .ok (.i2l, 1) := by decide +kernel
theorem d_L_coast_8 : decode method_3_code 8 = .ok (.lastore, 1) := by decide +kernel
theorem d_L_coast_9 : decode method_3_code 9 = .ok (.goto 6, 3) := by decide +kernel
theorem d_L_coast_12 : decode method_3_code 12 = .ok (.astore_n 3, 1) := by decide +kernel
theorem d_L_coast_13 : decode method_3_code 13 = .ok (.iconst 1, 1) := by decide +kernel
theorem d_L_coast_14 : decode method_3_code 14 = .ok (.ireturn, 1) := by decide +kernel
theorem d_L_coast_15 : decode method_3_code 15 = .ok (.iconst 0, 1) := by decide +kernel
theorem d_L_coast_16 : decode method_3_code 16 = .ok (.ireturn, 1) := by decide +kernel
theorem d_L_law_0 : decode method_4_code 0 = .ok (.aload_n 2, 1) := by decide +kernel
theorem d_L_law_1 : decode method_4_code 1 = .ok (.iconst 0, 1) := by decide +kernel
theorem d_L_law_2 : decode method_4_code 2 = .ok (.aload_n 0, 1) := by decide +kernel
theorem d_L_law_3 : decode method_4_code 3 = .ok (.iload_n 1, 1) := by decide +kernel
theorem d_L_law_4 : decode method_4_code 4 = .ok (.invokevirtual 15, 3) := by decide +kernel
theorem d_L_law_7 : decode method_4_code 7 = .ok (.i2l, 1) := by decide +kernel
theorem d_L_law_8 : decode method_4_code 8 = .ok (.lastore, 1) := by decide +kernel
theorem d_L_law_9 : decode method_4_code 9 = .ok (.goto 6, 3) := by decide +kernel
theorem d_L_law_12 : decode method_4_code 12 = .ok (.astore_n 3, 1) := by decide +kernel
theorem d_L_law_13 : decode method_4_code 13 = .ok (.iconst 1, 1) := by decide +kernel
theorem d_L_law_14 : decode method_4_code 14 = .ok (.ireturn, 1) := by decide +kernel
theorem d_L_law_15 : decode method_4_code 15 = .ok (.iconst 0, 1) := by decide +kernel
theorem d_L_law_16 : decode method_4_code 16 = .ok (.ireturn, 1) := by decide +kernel
theorem d_L_work_0 : decode method_5_code 0 = .ok (.aload_n 2, 1) := by decide +kernel
theorem d_L_work_1 : decode method_5_code 1 = .ok (.iconst 0, 1) := by decide +kernel
theorem d_L_work_2 : decode method_5_code 2 = .ok (.aload_n 0, 1) := by decide +kernel
theorem d_L_work_3 : decode method_5_code 3 = .ok (.iload_n 1, 1) := by decide +kernel
theorem d_L_work_4 : decode method_5_code 4 = .ok (.invokevirtual 18, 3) := by decide +kernel
theorem d_L_work_7 : decode method_5_code 7 = .ok (.i2l, 1) := by decide +kernel
theorem d_L_work_8 : decode method_5_code 8 = .ok (.lastore, 1) := by decide +kernel
theorem d_L_work_9 : decode method_5_code 9 = .ok (.goto 6, 3) := by decide +kernel
theorem d_L_work_12 : decode method_5_code 12 = .ok (.astore_n 3, 1) := by decide +kernel
theorem d_L_work_13 : decode method_5_code 13 = .ok (.iconst 1, 1) := by decide +kernel
theorem d_L_work_14 : decode method_5_code 14 = .ok (.ireturn, 1) := by decide +kernel
theorem d_L_work_15 : decode method_5_code 15 = .ok (.iconst 0, 1) := by decide +kernel
theorem d_L_work_16 : decode method_5_code 16 = .ok (.ireturn, 1) := by decide +kernel
theorem d_L_log_0 : decode method_6_code 0 = .ok (.aload_n 2, 1) := by decide +kernel
theorem d_L_log_1 : decode method_6_code 1 = .ok (.iconst 0, 1) := by decide +kernel
theorem d_L_log_2 : decode method_6_code 2 = .ok (.aload_n 0, 1) := by decide +kernel
theorem d_L_log_3 : decode method_6_code 3 = .ok (.iload_n 1, 1) := by decide +kernel
theorem d_L_log_4 : decode method_6_code 4 = .ok (.invokevirtual 21, 3) := by decide +kernel
theorem d_L_log_7 : decode method_6_code 7 = .ok (.i2l, 1) := by decide +kernel
theorem d_L_log_8 : decode method_6_code 8 = .ok (.lastore, 1) := by decide +kernel
theorem d_L_log_9 : decode method_6_code 9 = .ok (.goto 6, 3) := by decide +kernel
theorem d_L_log_12 : decode method_6_code 12 = .ok (.astore_n 3, 1) := by decide +kernel
theorem d_L_log_13 : decode method_6_code 13 = .ok (.iconst 1, 1) := by decide +kernel
theorem d_L_log_14 : decode method_6_code 14 = .ok (.ireturn, 1) := by decide +kernel
theorem d_L_log_15 : decode method_6_code 15 = .ok (.iconst 0, 1) := by decide +kernel
theorem d_L_log_16 : decode method_6_code 16 = .ok (.ireturn, 1) := by decide +kernel
theorem d_L_told_0 : decode method_7_code 0 = .ok (.aload_n 2, 1) := by decide +kernel
theorem d_L_told_1 : decode method_7_code 1 = .ok (.iconst 0, 1) := by decide +kernel
theorem d_L_told_2 : decode method_7_code 2 = .ok (.aload_n 0, 1) := by decide +kernel
theorem d_L_told_3 : decode method_7_code 3 = .ok (.iload_n 1, 1) := by decide +kernel
theorem d_L_told_4 : decode method_7_code 4 = .ok (.invokevirtual 24, 3) := by decide +kernel
theorem d_L_told_7 : decode method_7_code 7 = .ok (.i2l, 1) := by decide +kernel
theorem d_L_told_8 : decode method_7_code 8 = .ok (.lastore, 1) := by decide +kernel
theorem d_L_told_9 : decode method_7_code 9 = .ok (.goto 6, 3) := by decide +kernel
theorem d_L_told_12 : decode method_7_code 12 = .ok (.astore_n 3, 1) := by decide +kernel
theorem d_L_told_13 : decode method_7_code 13 = .ok (.iconst 1, 1) := by decide +kernel
theorem d_L_told_14 : decode method_7_code 14 = .ok (.ireturn, 1) := by decide +kernel
theorem d_L_told_15 : decode method_7_code 15 = .ok (.iconst 0, 1) := by decide +kernel
theorem d_L_told_16 : decode method_7_code 16 = .ok (.ireturn, 1) := by decide +kernel
theorem d_L_cell_0 : decode method_8_code 0 = .ok (.aload_n 3, 1) := by decide +kernel
theorem d_L_cell_1 : decode method_8_code 1 = .ok (.iconst 0, 1) := by decide +kernel
theorem d_L_cell_2 : decode method_8_code 2 = .ok (.aload_n 0, 1) := by decide +kernel
theorem d_L_cell_3 : decode method_8_code 3 = .ok (.iload_n 1, 1) := by decide +kernel
theorem d_L_cell_4 : decode method_8_code 4 = .ok (.iload_n 2, 1) := by decide +kernel
theorem d_L_cell_5 : decode method_8_code 5 = .ok (.invokevirtual 27, 3) := by decide +kernel
theorem d_L_cell_8 : decode method_8_code 8 = .ok (.i2l, 1) := by decide +kernel
theorem d_L_cell_9 : decode method_8_code 9 = .ok (.lastore, 1) := by decide +kernel
theorem d_L_cell_10 : decode method_8_code 10 = .ok (.goto 11, 3) := by decide +kernel
theorem d_L_cell_13 : decode method_8_code 13 = .ok (.astore 4, 2) := by decide +kernel
theorem d_L_cell_15 : decode method_8_code 15 = .ok (.iconst 1, 1) := by decide +kernel
theorem d_L_cell_16 : decode method_8_code 16 = .ok (.ireturn, 1) := by decide +kernel
theorem d_L_cell_17 : decode method_8_code 17 = .ok (.astore 4, 2) := by decide +kernel
theorem d_L_cell_19 : decode method_8_code 19 = .ok (.iconst 2, 1) := by decide +kernel
theorem d_L_cell_20 : decode method_8_code 20 = .ok (.ireturn, 1) := by decide +kernel
theorem d_L_cell_21 : decode method_8_code 21 = .ok (.iconst 0, 1) := by decide +kernel
theorem d_L_cell_22 : decode method_8_code 22 = .ok (.ireturn, 1) := by decide +kernel
theorem d_L_light_0 : decode method_9_code 0 = .ok (.aload_n 3, 1) := by decide +kernel
theorem d_L_light_1 : decode method_9_code 1 = .ok (.iconst 0, 1) := by decide +kernel
theorem d_L_light_2 : decode method_9_code 2 = .ok (.aload_n 0, 1) := by decide +kernel
theorem d_L_light_3 : decode method_9_code 3 = .ok (.iload_n 1, 1) := by decide +kernel
theorem d_L_light_4 : decode method_9_code 4 = .ok (.iload_n 2, 1) := by decide +kernel
theorem d_L_light_5 : decode method_9_code 5 = .ok (.invokevirtual 33, 3) := by decide +kernel
theorem d_L_light_8 : decode method_9_code 8 = .ok (.i2l, 1) := by decide +kernel
theorem d_L_light_9 : decode method_9_code 9 = .ok (.lastore, 1) := by decide +kernel
theorem d_L_light_10 : decode method_9_code 10 = .ok (.goto 11, 3) := by decide +kernel
theorem d_L_light_13 : decode method_9_code 13 = .ok (.astore 4, 2) := by decide +kernel
theorem d_L_light_15 : decode method_9_code 15 = .ok (.iconst 1, 1) := by decide +kernel
theorem d_L_light_16 : decode method_9_code 16 = .ok (.ireturn, 1) := by decide +kernel
theorem d_L_light_17 : decode method_9_code 17 = .ok (.astore 4, 2) := by decide +kernel
theorem d_L_light_19 : decode method_9_code 19 = .ok (.iconst 2, 1) := by decide +kernel
theorem d_L_light_20 : decode method_9_code 20 = .ok (.ireturn, 1) := by decide +kernel
theorem d_L_light_21 : decode method_9_code 21 = .ok (.iconst 0, 1) := by decide +kernel
theorem d_L_light_22 : decode method_9_code 22 = .ok (.ireturn, 1) := by decide +kernel
theorem d_L_donkey_0 : decode method_10_code 0 = .ok (.aload_n 3, 1) := by decide +kernel
theorem d_L_donkey_1 : decode method_10_code 1 = .ok (.iconst 0, 1) := by decide +kernel
theorem d_L_donkey_2 : decode method_10_code 2 = .ok (.aload_n 0, 1) := by decide +kernel
theorem d_L_donkey_3 : decode method_10_code 3 = .ok (.iload_n 1, 1) := by decide +kernel
theorem d_L_donkey_4 : decode method_10_code 4 = .ok (.iload_n 2, 1) := by decide +kernel
theorem d_L_donkey_5 : decode method_10_code 5 = .ok (.invokevirtual 36, 3) := by decide +kernel
theorem d_L_donkey_8 : decode method_10_code 8 = .ok (.i2l, 1) := by decide +kernel
theorem d_L_donkey_9 : decode method_10_code 9 = .ok (.lastore, 1) := by decide +kernel
theorem d_L_donkey_10 : decode method_10_code 10 = .ok (.goto 11, 3) := by decide +kernel
theorem d_L_donkey_13 : decode method_10_code 13 = .ok (.astore 4, 2) := by decide +kernel
theorem d_L_donkey_15 : decode method_10_code 15 = .ok (.iconst 1, 1) := by decide +kernel
theorem d_L_donkey_16 : decode method_10_code 16 = .ok (.ireturn, 1) := by decide +kernel
theorem d_L_donkey_17 : decode method_10_code 17 = .ok (.astore 4, 2) := by decide +kernel
theorem d_L_donkey_19 : decode method_10_code 19 = .ok (.iconst 2, 1) := by decide +kernel
theorem d_L_donkey_20 : decode method_10_code 20 = .ok (.ireturn, 1) := by decide +kernel
theorem d_L_donkey_21 : decode method_10_code 21 = .ok (.iconst 0, 1) := by decide +kernel
theorem d_L_donkey_22 : decode method_10_code 22 = .ok (.ireturn, 1) := by decide +kernel
theorem d_L_ship_0 : decode method_11_code 0 = .ok (.aload_n 3, 1) := by decide +kernel
theorem d_L_ship_1 : decode method_11_code 1 = .ok (.iconst 0, 1) := by decide +kernel
theorem d_L_ship_2 : decode method_11_code 2 = .ok (.aload_n 0, 1) := by decide +kernel
theorem d_L_ship_3 : decode method_11_code 3 = .ok (.iload_n 1, 1) := by decide +kernel
theorem d_L_ship_4 : decode method_11_code 4 = .ok (.iload_n 2, 1) := by decide +kernel
theorem d_L_ship_5 : decode method_11_code 5 = .ok (.invokevirtual 39, 3) := by decide +kernel
theorem d_L_ship_8 : decode method_11_code 8 = .ok (.i2l, 1) := by decide +kernel
theorem d_L_ship_9 : decode method_11_code 9 = .ok (.lastore, 1) := by decide +kernel
theorem d_L_ship_10 : decode method_11_code 10 = .ok (.goto 11, 3) := by decide +kernel
theorem d_L_ship_13 : decode method_11_code 13 = .ok (.astore 4, 2) := by decide +kernel
theorem d_L_ship_15 : decode method_11_code 15 = .ok (.iconst 1, 1) := by decide +kernel
theorem d_L_ship_16 : decode method_11_code 16 = .ok (.ireturn, 1) := by decide +kernel
theorem d_L_ship_17 : decode method_11_code 17 = .ok (.astore 4, 2) := by decide +kernel
theorem d_L_ship_19 : decode method_11_code 19 = .ok (.iconst 2, 1) := by decide +kernel
theorem d_L_ship_20 : decode method_11_code 20 = .ok (.ireturn, 1) := by decide +kernel
theorem d_L_ship_21 : decode method_11_code 21 = .ok (.iconst 0, 1) := by decide +kernel
theorem d_L_ship_22 : decode method_11_code 22 = .ok (.ireturn, 1) := by decide +kernel
theorem d_L_seen_0 : decode method_12_code 0 = .ok (.aload_n 3, 1) := by decide +kernel
theorem d_L_seen_1 : decode method_12_code 1 = .ok (.iconst 0, 1) := by decide +kernel
theorem d_L_seen_2 : decode method_12_code 2 = .ok (.aload_n 0, 1) := by decide +kernel
theorem d_L_seen_3 : decode method_12_code 3 = .ok (.iload_n 1, 1) := by decide +kernel
theorem d_L_seen_4 : decode method_12_code 4 = .ok (.iload_n 2, 1) := by decide +kernel
theorem d_L_seen_5 : decode method_12_code 5 = .ok (.invokevirtual 42, 3) := by decide +kernel
theorem d_L_seen_8 : decode method_12_code 8 = .ok (.i2l, 1) := by decide +kernel
theorem d_L_seen_9 : decode method_12_code 9 = .ok (.lastore, 1) := by decide +kernel
theorem d_L_seen_10 : decode method_12_code 10 = .ok (.goto 11, 3) := by decide +kernel
theorem d_L_seen_13 : decode method_12_code 13 = .ok (.astore 4, 2) := by decide +kernel
theorem d_L_seen_15 : decode method_12_code 15 = .ok (.iconst 1, 1) := by decide +kernel
theorem d_L_seen_16 : decode method_12_code 16 = .ok (.ireturn, 1) := by decide +kernel
theorem d_L_seen_17 : decode method_12_code 17 = .ok (.astore 4, 2) := by decide +kernel
theorem d_L_seen_19 : decode method_12_code 19 = .ok (.iconst 2, 1) := by decide +kernel
theorem d_L_seen_20 : decode method_12_code 20 = .ok (.ireturn, 1) := by decide +kernel
theorem d_L_seen_21 : decode method_12_code 21 = .ok (.iconst 0, 1) := by decide +kernel
theorem d_L_seen_22 : decode method_12_code 22 = .ok (.ireturn, 1) := by decide +kernel
theorem d_L_would_0 : decode method_13_code 0 = .ok (.aload 8, 2) := by decide +kernel
theorem d_L_would_2 : decode method_13_code 2 = .ok (.iconst 0, 1) := by decide +kernel
theorem d_L_would_3 : decode method_13_code 3 = .ok (.aload_n 0, 1) := by decide +kernel
theorem d_L_would_4 : decode method_13_code 4 = .ok (.iload_n 1, 1) := by decide +kernel
theorem d_L_would_5 : decode method_13_code 5 = .ok (.iload_n 2, 1) := by decide +kernel
theorem d_L_would_6 : decode method_13_code 6 = .ok (.iload_n 3, 1) := by decide +kernel
theorem d_L_would_7 : decode method_13_code 7 = .ok (.iload 4, 2) := by decide +kernel
theorem d_L_would_9 : decode method_13_code 9 = .ok (.iload 5, 2) := by decide +kernel
theorem d_L_would_11 : decode method_13_code 11 = .ok (.iload 6, 2) := by decide +kernel
theorem d_L_would_13 : decode method_13_code 13 = .ok (.iload 7, 2) := by decide +kernel
theorem d_L_would_15 : decode method_13_code 15 = .ok (.invokevirtual 45, 3) := by decide +kernel
theorem d_L_would_18 : decode method_13_code 18 = .ok (.ifCond .eq 7, 3) := by decide +kernel
theorem d_L_would_21 : decode method_13_code 21 = .ok (.lconst 1, 1) := by decide +kernel
theorem d_L_would_22 : decode method_13_code 22 = .ok (.goto 4, 3) := by decide +kernel
theorem d_L_would_25 : decode method_13_code 25 = .ok (.lconst 0, 1) := by decide +kernel
theorem d_L_would_26 : decode method_13_code 26 = .ok (.lastore, 1) := by decide +kernel
theorem d_L_would_27 : decode method_13_code 27 = .ok (.goto 11, 3) := by decide +kernel
theorem d_L_would_30 : decode method_13_code 30 = .ok (.astore 9, 2) := by decide +kernel
theorem d_L_would_32 : decode method_13_code 32 = .ok (.iconst 1, 1) := by decide +kernel
theorem d_L_would_33 : decode method_13_code 33 = .ok (.ireturn, 1) := by decide +kernel
theorem d_L_would_34 : decode method_13_code 34 = .ok (.astore 9, 2) := by decide +kernel
theorem d_L_would_36 : decode method_13_code 36 = .ok (.iconst 2, 1) := by decide +kernel
theorem d_L_would_37 : decode method_13_code 37 = .ok (.ireturn, 1) := by decide +kernel
theorem d_L_would_38 : decode method_13_code 38 = .ok (.iconst 0, 1) := by decide +kernel
theorem d_L_would_39 : decode method_13_code 39 = .ok (.ireturn, 1) := by decide +kernel
theorem d_L_tried_0 : decode method_14_code 0 = .ok (.aload_n 3, 1) := by decide +kernel
theorem d_L_tried_1 : decode method_14_code 1 = .ok (.iconst 0, 1) := by decide +kernel
theorem d_L_tried_2 : decode method_14_code 2 = .ok (.aload_n 0, 1) := by decide +kernel
theorem d_L_tried_3 : decode method_14_code 3 = .ok (.iload_n 1, 1) := by decide +kernel
theorem d_L_tried_4 : decode method_14_code 4 = .ok (.iload_n 2, 1) := by decide +kernel
theorem d_L_tried_5 : decode method_14_code 5 = .ok (.invokevirtual 49, 3) := by decide +kernel
theorem d_L_tried_8 : decode method_14_code 8 = .ok (.i2l, 1) := by decide +kernel
theorem d_L_tried_9 : decode method_14_code 9 = .ok (.lastore, 1) := by decide +kernel
theorem d_L_tried_10 : decode method_14_code 10 = .ok (.goto 11, 3) := by decide +kernel
theorem d_L_tried_13 : decode method_14_code 13 = .ok (.astore 4, 2) := by decide +kernel
theorem d_L_tried_15 : decode method_14_code 15 = .ok (.iconst 1, 1) := by decide +kernel
theorem d_L_tried_16 : decode method_14_code 16 = .ok (.ireturn, 1) := by decide +kernel
theorem d_L_tried_17 : decode method_14_code 17 = .ok (.astore 4, 2) := by decide +kernel
theorem d_L_tried_19 : decode method_14_code 19 = .ok (.iconst 2, 1) := by decide +kernel
theorem d_L_tried_20 : decode method_14_code 20 = .ok (.ireturn, 1) := by decide +kernel
theorem d_L_tried_21 : decode method_14_code 21 = .ok (.iconst 0, 1) := by decide +kernel
theorem d_L_tried_22 : decode method_14_code 22 = .ok (.ireturn, 1) := by decide +kernel
theorem d_L_put_0 : decode method_15_code 0 = .ok (.aload_n 3, 1) := by decide +kernel
theorem d_L_put_1 : decode method_15_code 1 = .ok (.iconst 0, 1) := by decide +kernel
theorem d_L_put_2 : decode method_15_code 2 = .ok (.aload_n 0, 1) := by decide +kernel
theorem d_L_put_3 : decode method_15_code 3 = .ok (.iload_n 1, 1) := by decide +kernel
theorem d_L_put_4 : decode method_15_code 4 = .ok (.iload_n 2, 1) := by decide +kernel
theorem d_L_put_5 : decode method_15_code 5 = .ok (.invokevirtual 52, 3) := by decide +kernel
theorem d_L_put_8 : decode method_15_code 8 = .ok (.i2l, 1) := by decide +kernel
theorem d_L_put_9 : decode method_15_code 9 = .ok (.lastore, 1) := by decide +kernel
theorem d_L_put_10 : decode method_15_code 10 = .ok (.goto 7, 3) := by decide +kernel
theorem d_L_put_13 : decode method_15_code 13 = .ok (.astore 4, 2) := by decide +kernel
theorem d_L_put_15 : decode method_15_code 15 = .ok (.iconst 1, 1) := by decide +kernel
theorem d_L_put_16 : decode method_15_code 16 = .ok (.ireturn, 1) := by decide +kernel
theorem d_L_put_17 : decode method_15_code 17 = .ok (.iconst 0, 1) := by decide +kernel
theorem d_L_put_18 : decode method_15_code 18 = .ok (.ireturn, 1) := by decide +kernel
theorem d_L_save_0 : decode method_16_code 0 = .ok (.aload_n 2, 1) := by decide +kernel
theorem d_L_save_1 : decode method_16_code 1 = .ok (.iconst 0, 1) := by decide +kernel
theorem d_L_save_2 : decode method_16_code 2 = .ok (.aload_n 0, 1) := by decide +kernel
theorem d_L_save_3 : decode method_16_code 3 = .ok (.iload_n 1, 1) := by decide +kernel
theorem d_L_save_4 : decode method_16_code 4 = .ok (.invokevirtual 55, 3) := by decide +kernel
theorem d_L_save_7 : decode method_16_code 7 = .ok (.i2l, 1) := by decide +kernel
theorem d_L_save_8 : decode method_16_code 8 = .ok (.lastore, 1) := by decide +kernel
theorem d_L_save_9 : decode method_16_code 9 = .ok (.goto 6, 3) := by decide +kernel
theorem d_L_save_12 : decode method_16_code 12 = .ok (.astore_n 3, 1) := by decide +kernel
theorem d_L_save_13 : decode method_16_code 13 = .ok (.iconst 1, 1) := by decide +kernel
theorem d_L_save_14 : decode method_16_code 14 = .ok (.ireturn, 1) := by decide +kernel
theorem d_L_save_15 : decode method_16_code 15 = .ok (.iconst 0, 1) := by decide +kernel
theorem d_L_save_16 : decode method_16_code 16 = .ok (.ireturn, 1) := by decide +kernel
theorem d_L_fits_0 : decode method_17_code 0 = .ok (.aload_n 2, 1) := by decide +kernel
theorem d_L_fits_1 : decode method_17_code 1 = .ok (.iconst 0, 1) := by decide +kernel
theorem d_L_fits_2 : decode method_17_code 2 = .ok (.aload_n 0, 1) := by decide +kernel
theorem d_L_fits_3 : decode method_17_code 3 = .ok (.iload_n 1, 1) := by decide +kernel
theorem d_L_fits_4 : decode method_17_code 4 = .ok (.invokevirtual 58, 3) := by decide +kernel
theorem d_L_fits_7 : decode method_17_code 7 = .ok (.i2l, 1) := by decide +kernel
theorem d_L_fits_8 : decode method_17_code 8 = .ok (.lastore, 1) := by decide +kernel
theorem d_L_fits_9 : decode method_17_code 9 = .ok (.goto 6, 3) := by decide +kernel
theorem d_L_fits_12 : decode method_17_code 12 = .ok (.astore_n 3, 1) := by decide +kernel
theorem d_L_fits_13 : decode method_17_code 13 = .ok (.iconst 1, 1) := by decide +kernel
theorem d_L_fits_14 : decode method_17_code 14 = .ok (.ireturn, 1) := by decide +kernel
theorem d_L_fits_15 : decode method_17_code 15 = .ok (.iconst 0, 1) := by decide +kernel
theorem d_L_fits_16 : decode method_17_code 16 = .ok (.ireturn, 1) := by decide +kernel
theorem d_L_look_0 : decode method_18_code 0 = .ok (.aload_n 2, 1) := by decide +kernel
theorem d_L_look_1 : decode method_18_code 1 = .ok (.iconst 0, 1) := by decide +kernel
theorem d_L_look_2 : decode method_18_code 2 = .ok (.aload_n 0, 1) := by decide +kernel
theorem d_L_look_3 : decode method_18_code 3 = .ok (.iload_n 1, 1) := by decide +kernel
theorem d_L_look_4 : decode method_18_code 4 = .ok (.invokevirtual 61, 3) := by decide +kernel
theorem d_L_look_7 : decode method_18_code 7 = .ok (.i2l, 1) := by decide +kernel
theorem d_L_look_8 : decode method_18_code 8 = .ok (.lastore, 1) := by decide +kernel
theorem d_L_look_9 : decode method_18_code 9 = .ok (.goto 6, 3) := by decide +kernel
theorem d_L_look_12 : decode method_18_code 12 = .ok (.astore_n 3, 1) := by decide +kernel
theorem d_L_look_13 : decode method_18_code 13 = .ok (.iconst 1, 1) := by decide +kernel
theorem d_L_look_14 : decode method_18_code 14 = .ok (.ireturn, 1) := by decide +kernel
theorem d_L_look_15 : decode method_18_code 15 = .ok (.iconst 0, 1) := by decide +kernel
theorem d_L_look_16 : decode method_18_code 16 = .ok (.ireturn, 1) := by decide +kernel
theorem d_L_code_0 : decode method_19_code 0 = .ok (.aload_n 3, 1) := by decide +kernel
theorem d_L_code_1 : decode method_19_code 1 = .ok (.iconst 0, 1) := by decide +kernel
theorem d_L_code_2 : decode method_19_code 2 = .ok (.aload_n 0, 1) := by decide +kernel
theorem d_L_code_3 : decode method_19_code 3 = .ok (.iload_n 1, 1) := by decide +kernel
theorem d_L_code_4 : decode method_19_code 4 = .ok (.iload_n 2, 1) := by decide +kernel
theorem d_L_code_5 : decode method_19_code 5 = .ok (.invokevirtual 64, 3) := by decide +kernel
theorem d_L_code_8 : decode method_19_code 8 = .ok (.i2l, 1) := by decide +kernel
theorem d_L_code_9 : decode method_19_code 9 = .ok (.lastore, 1) := by decide +kernel
theorem d_L_code_10 : decode method_19_code 10 = .ok (.goto 7, 3) := by decide +kernel
theorem d_L_code_13 : decode method_19_code 13 = .ok (.astore 4, 2) := by decide +kernel
theorem d_L_code_15 : decode method_19_code 15 = .ok (.iconst 1, 1) := by decide +kernel
theorem d_L_code_16 : decode method_19_code 16 = .ok (.ireturn, 1) := by decide +kernel
theorem d_L_code_17 : decode method_19_code 17 = .ok (.iconst 0, 1) := by decide +kernel
theorem d_L_code_18 : decode method_19_code 18 = .ok (.ireturn, 1) := by decide +kernel
theorem d_L_wink_0 : decode method_20_code 0 = .ok (.aload 7, 2) := by decide +kernel
theorem d_L_wink_2 : decode method_20_code 2 = .ok (.iconst 0, 1) := by decide +kernel
theorem d_L_wink_3 : decode method_20_code 3 = .ok (.aload_n 0, 1) := by decide +kernel
theorem d_L_wink_4 : decode method_20_code 4 = .ok (.iload_n 1, 1) := by decide +kernel
theorem d_L_wink_5 : decode method_20_code 5 = .ok (.iload_n 2, 1) := by decide +kernel
theorem d_L_wink_6 : decode method_20_code 6 = .ok (.iload_n 3, 1) := by decide +kernel
theorem d_L_wink_7 : decode method_20_code 7 = .ok (.iload 4, 2) := by decide +kernel
theorem d_L_wink_9 : decode method_20_code 9 = .ok (.iload 5, 2) := by decide +kernel
theorem d_L_wink_11 : decode method_20_code 11 = .ok (.iload 6, 2) := by decide +kernel
theorem d_L_wink_13 : decode method_20_code 13 = .ok (.invokevirtual 67, 3) := by decide +kernel
theorem d_L_wink_16 : decode method_20_code 16 = .ok (.lastore, 1) := by decide +kernel
theorem d_L_wink_17 : decode method_20_code 17 = .ok (.goto 7, 3) := by decide +kernel
theorem d_L_wink_20 : decode method_20_code 20 = .ok (.astore 8, 2) := by decide +kernel
theorem d_L_wink_22 : decode method_20_code 22 = .ok (.iconst 1, 1) := by decide +kernel
theorem d_L_wink_23 : decode method_20_code 23 = .ok (.ireturn, 1) := by decide +kernel
theorem d_L_wink_24 : decode method_20_code 24 = .ok (.iconst 0, 1) := by decide +kernel
theorem d_L_wink_25 : decode method_20_code 25 = .ok (.ireturn, 1) := by decide +kernel
theorem d_L_carriers_0 : decode method_21_code 0 = .ok (.aload_n 2, 1) := by decide +kernel
theorem d_L_carriers_1 : decode method_21_code 1 = .ok (.iconst 0, 1) := by decide +kernel
theorem d_L_carriers_2 : decode method_21_code 2 = .ok (.aload_n 0, 1) := by decide +kernel
theorem d_L_carriers_3 : decode method_21_code 3 = .ok (.iload_n 1, 1) := by decide +kernel
theorem d_L_carriers_4 : decode method_21_code 4 = .ok (.invokevirtual 71, 3) := by decide +kernel
theorem d_L_carriers_7 : decode method_21_code 7 = .ok (.i2l, 1) := by decide +kernel
theorem d_L_carriers_8 : decode method_21_code 8 = .ok (.lastore, 1) := by decide +kernel
theorem d_L_carriers_9 : decode method_21_code 9 = .ok (.goto 6, 3) := by decide +kernel
theorem d_L_carriers_12 : decode method_21_code 12 = .ok (.astore_n 3, 1) := by decide +kernel
theorem d_L_carriers_13 : decode method_21_code 13 = .ok (.iconst 1, 1) := by decide +kernel
theorem d_L_carriers_14 : decode method_21_code 14 = .ok (.ireturn, 1) := by decide +kernel
theorem d_L_carriers_15 : decode method_21_code 15 = .ok (.iconst 0, 1) := by decide +kernel
theorem d_L_carriers_16 : decode method_21_code 16 = .ok (.ireturn, 1) := by decide +kernel
theorem d_L_share_0 : decode method_22_code 0 = .ok (.aload_n 3, 1) := by decide +kernel
theorem d_L_share_1 : decode method_22_code 1 = .ok (.iconst 0, 1) := by decide +kernel
theorem d_L_share_2 : decode method_22_code 2 = .ok (.aload_n 0, 1) := by decide +kernel
theorem d_L_share_3 : decode method_22_code 3 = .ok (.iload_n 1, 1) := by decide +kernel
theorem d_L_share_4 : decode method_22_code 4 = .ok (.iload_n 2, 1) := by decide +kernel
theorem d_L_share_5 : decode method_22_code 5 = .ok (.invokevirtual 74, 3) := by decide +kernel
theorem d_L_share_8 : decode method_22_code 8 = .ok (.i2l, 1) := by decide +kernel
theorem d_L_share_9 : decode method_22_code 9 = .ok (.lastore, 1) := by decide +kernel
theorem d_L_share_10 : decode method_22_code 10 = .ok (.goto 11, 3) := by decide +kernel
theorem d_L_share_13 : decode method_22_code 13 = .ok (.astore 4, 2) := by decide +kernel
theorem d_L_share_15 : decode method_22_code 15 = .ok (.iconst 1, 1) := by decide +kernel
theorem d_L_share_16 : decode method_22_code 16 = .ok (.ireturn, 1) := by decide +kernel
theorem d_L_share_17 : decode method_22_code 17 = .ok (.astore 4, 2) := by decide +kernel
theorem d_L_share_19 : decode method_22_code 19 = .ok (.iconst 2, 1) := by decide +kernel
theorem d_L_share_20 : decode method_22_code 20 = .ok (.ireturn, 1) := by decide +kernel
theorem d_L_share_21 : decode method_22_code 21 = .ok (.iconst 0, 1) := by decide +kernel
theorem d_L_share_22 : decode method_22_code 22 = .ok (.ireturn, 1) := by decide +kernel
theorem d_L_drawn_0 : decode method_23_code 0 = .ok (.aload_n 2, 1) := by decide +kernel
theorem d_L_drawn_1 : decode method_23_code 1 = .ok (.iconst 0, 1) := by decide +kernel
theorem d_L_drawn_2 : decode method_23_code 2 = .ok (.aload_n 0, 1) := by decide +kernel
theorem d_L_drawn_3 : decode method_23_code 3 = .ok (.iload_n 1, 1) := by decide +kernel
theorem d_L_drawn_4 : decode method_23_code 4 = .ok (.invokevirtual 77, 3) := by decide +kernel
theorem d_L_drawn_7 : decode method_23_code 7 = .ok (.i2l, 1) := by decide +kernel
theorem d_L_drawn_8 : decode method_23_code 8 = .ok (.lastore, 1) := by decide +kernel
theorem d_L_drawn_9 : decode method_23_code 9 = .ok (.goto 6, 3) := by decide +kernel
theorem d_L_drawn_12 : decode method_23_code 12 = .ok (.astore_n 3, 1) := by decide +kernel
theorem d_L_drawn_13 : decode method_23_code 13 = .ok (.iconst 1, 1) := by decide +kernel
theorem d_L_drawn_14 : decode method_23_code 14 = .ok (.ireturn, 1) := by decide +kernel
theorem d_L_drawn_15 : decode method_23_code 15 = .ok (.iconst 0, 1) := by decide +kernel
theorem d_L_drawn_16 : decode method_23_code 16 = .ok (.ireturn, 1) := by decide +kernel
theorem d_L_flash_0 : decode method_24_code 0 = .ok (.aload_n 3, 1) := by decide +kernel
theorem d_L_flash_1 : decode method_24_code 1 = .ok (.iconst 0, 1) := by decide +kernel
theorem d_L_flash_2 : decode method_24_code 2 = .ok (.aload_n 0, 1) := by decide +kernel
theorem d_L_flash_3 : decode method_24_code 3 = .ok (.iload_n 1, 1) := by decide +kernel
theorem d_L_flash_4 : decode method_24_code 4 = .ok (.iload_n 2, 1) := by decide +kernel
theorem d_L_flash_5 : decode method_24_code 5 = .ok (.invokevirtual 80, 3) := by decide +kernel
theorem d_L_flash_8 : decode method_24_code 8 = .ok (.i2l, 1) := by decide +kernel
theorem d_L_flash_9 : decode method_24_code 9 = .ok (.lastore, 1) := by decide +kernel
theorem d_L_flash_10 : decode method_24_code 10 = .ok (.goto 11, 3) := by decide +kernel
theorem d_L_flash_13 : decode method_24_code 13 = .ok (.astore 4, 2) := by decide +kernel
theorem d_L_flash_15 : decode method_24_code 15 = .ok (.iconst 1, 1) := by decide +kernel
theorem d_L_flash_16 : decode method_24_code 16 = .ok (.ireturn, 1) := by decide +kernel
theorem d_L_flash_17 : decode method_24_code 17 = .ok (.astore 4, 2) := by decide +kernel
theorem d_L_flash_19 : decode method_24_code 19 = .ok (.iconst 2, 1) := by decide +kernel
theorem d_L_flash_20 : decode method_24_code 20 = .ok (.ireturn, 1) := by decide +kernel
theorem d_L_flash_21 : decode method_24_code 21 = .ok (.iconst 0, 1) := by decide +kernel
theorem d_L_flash_22 : decode method_24_code 22 = .ok (.ireturn, 1) := by decide +kernel
theorem d_L_alike_0 : decode method_25_code 0 = .ok (.aload 4, 2) := by decide +kernel
theorem d_L_alike_2 : decode method_25_code 2 = .ok (.iconst 0, 1) := by decide +kernel
theorem d_L_alike_3 : decode method_25_code 3 = .ok (.aload_n 0, 1) := by decide +kernel
theorem d_L_alike_4 : decode method_25_code 4 = .ok (.iload_n 1, 1) := by decide +kernel
theorem d_L_alike_5 : decode method_25_code 5 = .ok (.iload_n 2, 1) := by decide +kernel
theorem d_L_alike_6 : decode method_25_code 6 = .ok (.iload_n 3, 1) := by decide +kernel
theorem d_L_alike_7 : decode method_25_code 7 = .ok (.invokevirtual 83, 3) := by decide +kernel
theorem d_L_alike_10 : decode method_25_code 10 = .ok (.i2l, 1) := by decide +kernel
theorem d_L_alike_11 : decode method_25_code 11 = .ok (.lastore, 1) := by decide +kernel
theorem d_L_alike_12 : decode method_25_code 12 = .ok (.goto 11, 3) := by decide +kernel
theorem d_L_alike_15 : decode method_25_code 15 = .ok (.astore 5, 2) := by decide +kernel
theorem d_L_alike_17 : decode method_25_code 17 = .ok (.iconst 1, 1) := by decide +kernel
theorem d_L_alike_18 : decode method_25_code 18 = .ok (.ireturn, 1) := by decide +kernel
theorem d_L_alike_19 : decode method_25_code 19 = .ok (.astore 5, 2) := by decide +kernel
theorem d_L_alike_21 : decode method_25_code 21 = .ok (.iconst 2, 1) := by decide +kernel
theorem d_L_alike_22 : decode method_25_code 22 = .ok (.ireturn, 1) := by decide +kernel
theorem d_L_alike_23 : decode method_25_code 23 = .ok (.iconst 0, 1) := by decide +kernel
theorem d_L_alike_24 : decode method_25_code 24 = .ok (.ireturn, 1) := by decide +kernel
theorem d_L_blind_0 : decode method_26_code 0 = .ok (.aload_n 2, 1) := by decide +kernel
theorem d_L_blind_1 : decode method_26_code 1 = .ok (.iconst 0, 1) := by decide +kernel
theorem d_L_blind_2 : decode method_26_code 2 = .ok (.aload_n 0, 1) := by decide +kernel
theorem d_L_blind_3 : decode method_26_code 3 = .ok (.iload_n 1, 1) := by decide +kernel
theorem d_L_blind_4 : decode method_26_code 4 = .ok (.invokevirtual 87, 3) := by decide +kernel
theorem d_L_blind_7 : decode method_26_code 7 = .ok (.i2l, 1) := by decide +kernel
theorem d_L_blind_8 : decode method_26_code 8 = .ok (.lastore, 1) := by decide +kernel
theorem d_L_blind_9 : decode method_26_code 9 = .ok (.goto 6, 3) := by decide +kernel
theorem d_L_blind_12 : decode method_26_code 12 = .ok (.astore_n 3, 1) := by decide +kernel
theorem d_L_blind_13 : decode method_26_code 13 = .ok (.iconst 1, 1) := by decide +kernel
theorem d_L_blind_14 : decode method_26_code 14 = .ok (.ireturn, 1) := by decide +kernel
theorem d_L_blind_15 : decode method_26_code 15 = .ok (.iconst 0, 1) := by decide +kernel
theorem d_L_blind_16 : decode method_26_code 16 = .ok (.ireturn, 1) := by decide +kernel
theorem d_L_reefs_0 : decode method_27_code 0 = .ok (.aload_n 2, 1) := by decide +kernel
theorem d_L_reefs_1 : decode method_27_code 1 = .ok (.iconst 0, 1) := by decide +kernel
theorem d_L_reefs_2 : decode method_27_code 2 = .ok (.aload_n 0, 1) := by decide +kernel
theorem d_L_reefs_3 : decode method_27_code 3 = .ok (.iload_n 1, 1) := by decide +kernel
theorem d_L_reefs_4 : decode method_27_code 4 = .ok (.invokevirtual 90, 3) := by decide +kernel
theorem d_L_reefs_7 : decode method_27_code 7 = .ok (.i2l, 1) := by decide +kernel
theorem d_L_reefs_8 : decode method_27_code 8 = .ok (.lastore, 1) := by decide +kernel
theorem d_L_reefs_9 : decode method_27_code 9 = .ok (.goto 6, 3) := by decide +kernel
theorem d_L_reefs_12 : decode method_27_code 12 = .ok (.astore_n 3, 1) := by decide +kernel
theorem d_L_reefs_13 : decode method_27_code 13 = .ok (.iconst 1, 1) := by decide +kernel
theorem d_L_reefs_14 : decode method_27_code 14 = .ok (.ireturn, 1) := by decide +kernel
theorem d_L_reefs_15 : decode method_27_code 15 = .ok (.iconst 0, 1) := by decide +kernel
theorem d_L_reefs_16 : decode method_27_code 16 = .ok (.ireturn, 1) := by decide +kernel
theorem d_L_brightest_0 : decode method_28_code 0 = .ok (.aload_n 2, 1) := by decide +kernel
theorem d_L_brightest_1 : decode method_28_code 1 = .ok (.iconst 0, 1) := by decide +kernel
theorem d_L_brightest_2 : decode method_28_code 2 = .ok (.aload_n 0, 1) := by decide +kernel
theorem d_L_brightest_3 : decode method_28_code 3 = .ok (.iload_n 1, 1) := by decide +kernel
theorem d_L_brightest_4 : decode method_28_code 4 = .ok (.invokevirtual 93, 3) := by decide +kernel
theorem d_L_brightest_7 : decode method_28_code 7 = .ok (.i2l, 1) := by decide +kernel
theorem d_L_brightest_8 : decode method_28_code 8 = .ok (.lastore, 1) := by decide +kernel
theorem d_L_brightest_9 : decode method_28_code 9 = .ok (.goto 6, 3) := by decide +kernel
theorem d_L_brightest_12 : decode method_28_code 12 = .ok (.astore_n 3, 1) := by decide +kernel
theorem d_L_brightest_13 : decode method_28_code 13 = .ok (.iconst 1, 1) := by decide +kernel
theorem d_L_brightest_14 : decode method_28_code 14 = .ok (.ireturn, 1) := by decide +kernel
theorem d_L_brightest_15 : decode method_28_code 15 = .ok (.iconst 0, 1) := by decide +kernel
theorem d_L_brightest_16 : decode method_28_code 16 = .ok (.ireturn, 1) := by decide +kernel
theorem d_L_wrecks_0 : decode method_29_code 0 = .ok (.aload_n 3, 1) := by decide +kernel
theorem d_L_wrecks_1 : decode method_29_code 1 = .ok (.iconst 0, 1) := by decide +kernel
theorem d_L_wrecks_2 : decode method_29_code 2 = .ok (.aload_n 0, 1) := by decide +kernel
theorem d_L_wrecks_3 : decode method_29_code 3 = .ok (.iload_n 1, 1) := by decide +kernel
theorem d_L_wrecks_4 : decode method_29_code 4 = .ok (.iload_n 2, 1) := by decide +kernel
theorem d_L_wrecks_5 : decode method_29_code 5 = .ok (.invokevirtual 96, 3) := by decide +kernel
theorem d_L_wrecks_8 : decode method_29_code 8 = .ok (.i2l, 1) := by decide +kernel
theorem d_L_wrecks_9 : decode method_29_code 9 = .ok (.lastore, 1) := by decide +kernel
theorem d_L_wrecks_10 : decode method_29_code 10 = .ok (.goto 7, 3) := by decide +kernel
theorem d_L_wrecks_13 : decode method_29_code 13 = .ok (.astore 4, 2) := by decide +kernel
theorem d_L_wrecks_15 : decode method_29_code 15 = .ok (.iconst 1, 1) := by decide +kernel
theorem d_L_wrecks_16 : decode method_29_code 16 = .ok (.ireturn, 1) := by decide +kernel
theorem d_L_wrecks_17 : decode method_29_code 17 = .ok (.iconst 0, 1) := by decide +kernel
theorem d_L_wrecks_18 : decode method_29_code 18 = .ok (.ireturn, 1) := by decide +kernel
theorem d_L_winter_0 : decode method_30_code 0 = .ok (.aload 5, 2) := by decide +kernel
theorem d_L_winter_2 : decode method_30_code 2 = .ok (.iconst 0, 1) := by decide +kernel
theorem d_L_winter_3 : decode method_30_code 3 = .ok (.aload_n 0, 1) := by decide +kernel
theorem d_L_winter_4 : decode method_30_code 4 = .ok (.iload_n 1, 1) := by decide +kernel
theorem d_L_winter_5 : decode method_30_code 5 = .ok (.iload_n 2, 1) := by decide +kernel
theorem d_L_winter_6 : decode method_30_code 6 = .ok (.iload_n 3, 1) := by decide +kernel
theorem d_L_winter_7 : decode method_30_code 7 = .ok (.iload 4, 2) := by decide +kernel
theorem d_L_winter_9 : decode method_30_code 9 = .ok (.invokevirtual 99, 3) := by decide +kernel
theorem d_L_winter_12 : decode method_30_code 12 = .ok (.i2l, 1) := by decide +kernel
theorem d_L_winter_13 : decode method_30_code 13 = .ok (.lastore, 1) := by decide +kernel
theorem d_L_winter_14 : decode method_30_code 14 = .ok (.goto 7, 3) := by decide +kernel
theorem d_L_winter_17 : decode method_30_code 17 = .ok (.astore 6, 2) := by decide +kernel
theorem d_L_winter_19 : decode method_30_code 19 = .ok (.iconst 1, 1) := by decide +kernel
theorem d_L_winter_20 : decode method_30_code 20 = .ok (.ireturn, 1) := by decide +kernel
theorem d_L_winter_21 : decode method_30_code 21 = .ok (.iconst 0, 1) := by decide +kernel
theorem d_L_winter_22 : decode method_30_code 22 = .ok (.ireturn, 1) := by decide +kernel
theorem d_L_span_0 : decode method_31_code 0 = .ok (.aload 6, 2) := by decide +kernel
theorem d_L_span_2 : decode method_31_code 2 = .ok (.iconst 0, 1) := by decide +kernel
theorem d_L_span_3 : decode method_31_code 3 = .ok (.aload_n 0, 1) := by decide +kernel
theorem d_L_span_4 : decode method_31_code 4 = .ok (.iload_n 1, 1) := by decide +kernel
theorem d_L_span_5 : decode method_31_code 5 = .ok (.iload_n 2, 1) := by decide +kernel
theorem d_L_span_6 : decode method_31_code 6 = .ok (.iload_n 3, 1) := by decide +kernel
theorem d_L_span_7 : decode method_31_code 7 = .ok (.iload 4, 2) := by decide +kernel
theorem d_L_span_9 : decode method_31_code 9 = .ok (.iload 5, 2) := by decide +kernel
theorem d_L_span_11 : decode method_31_code 11 = .ok (.invokevirtual 103, 3) := by decide +kernel
theorem d_L_span_14 : decode method_31_code 14 = .ok (.i2l, 1) := by decide +kernel
theorem d_L_span_15 : decode method_31_code 15 = .ok (.lastore, 1) := by decide +kernel
theorem d_L_span_16 : decode method_31_code 16 = .ok (.goto 7, 3) := by decide +kernel
theorem d_L_span_19 : decode method_31_code 19 = .ok (.astore 7, 2) := by decide +kernel
theorem d_L_span_21 : decode method_31_code 21 = .ok (.iconst 1, 1) := by decide +kernel
theorem d_L_span_22 : decode method_31_code 22 = .ok (.ireturn, 1) := by decide +kernel
theorem d_L_span_23 : decode method_31_code 23 = .ok (.iconst 0, 1) := by decide +kernel
theorem d_L_span_24 : decode method_31_code 24 = .ok (.ireturn, 1) := by decide +kernel
theorem d_L_main_0 : decode code 0 = .ok (.new 8, 3) := by decide +kernel
theorem d_L_main_3 : decode code 3 = .ok (.dup, 1) := by decide +kernel
theorem d_L_main_4 : decode code 4 = .ok (.invokespecial 107, 3) := by decide +kernel
theorem d_L_main_7 : decode code 7 = .ok (.astore_n 1, 1) := by decide +kernel
theorem d_L_main_8 : decode code 8 = .ok (.new 108, 3) := by decide +kernel
theorem d_L_main_11 : decode code 11 = .ok (.dup, 1) := by decide +kernel
theorem d_L_main_12 : decode code 12 = .ok (.invokespecial 110, 3) := by decide +kernel
theorem d_L_main_15 : decode code 15 = .ok (.astore_n 2, 1) := by decide +kernel
theorem d_L_main_16 : decode code 16 = .ok (.iconst 1, 1) := by decide +kernel
theorem d_L_main_17 : decode code 17 = .ok (.newarray .long, 2) := by decide +kernel
theorem d_L_main_19 : decode code 19 = .ok (.astore_n 3, 1) := by decide +kernel
theorem d_L_main_20 : decode code 20 = .ok (.iconst 0, 1) := by decide +kernel
theorem d_L_main_21 : decode code 21 = .ok (.istore 4, 2) := by decide +kernel
theorem d_L_main_23 : decode code 23 = .ok (.iload 4, 2) := by decide +kernel
theorem d_L_main_25 : decode code 25 = .ok (.aload_n 0, 1) := by decide +kernel
theorem d_L_main_26 : decode code 26 = .ok (.arraylength, 1) := by decide +kernel
theorem d_L_main_27 : decode code 27 = .ok (.bipush 8, 2) := by decide +kernel
theorem d_L_main_29 : decode code 29 = .ok (.isub, 1) := by decide +kernel
theorem d_L_main_30 : decode code 30 = .ok (.if_icmp .gt 2393, 3) := by decide +kernel
theorem d_L_main_33 : decode code 33 = .ok (.aload_n 0, 1) := by decide +kernel
theorem d_L_main_34 : decode code 34 = .ok (.iload 4, 2) := by decide +kernel
theorem d_L_main_36 : decode code 36 = .ok (.iaload, 1) := by decide +kernel
theorem d_L_main_37 : decode code 37 = .ok (.bipush 63, 2) := by decide +kernel
theorem d_L_main_39 : decode code 39 = .ok (.iand, 1) := by decide +kernel
theorem d_L_main_40 : decode code 40 = .ok (.tableswitch 2377 0 37 #[168, 241, 297, 353, 409, 465, 478, 491, 547, 615, 683, 751, 819, 887, 1026, 1094, 1107, 1175, 1231, 1287, 1343, 1411, 1424, 1541, 1597, 1665, 1721, 1789, 1869, 1925, 1981, 2037, 2105, 2197, 2301, 2314, 2327, 2352], 168) := by decide +kernel
theorem d_L_main_208 : decode code 208 = .ok (.aload_n 1, 1) := by decide +kernel
theorem d_L_main_209 : decode code 209 = .ok (.aload_n 0, 1) := by decide +kernel
theorem d_L_main_210 : decode code 210 = .ok (.iload 4, 2) := by decide +kernel
theorem d_L_main_212 : decode code 212 = .ok (.iconst 1, 1) := by decide +kernel
theorem d_L_main_213 : decode code 213 = .ok (.iadd, 1) := by decide +kernel
theorem d_L_main_214 : decode code 214 = .ok (.iaload, 1) := by decide +kernel
theorem d_L_main_215 : decode code 215 = .ok (.aload_n 0, 1) := by decide +kernel
theorem d_L_main_216 : decode code 216 = .ok (.iload 4, 2) := by decide +kernel
theorem d_L_main_218 : decode code 218 = .ok (.iconst 2, 1) := by decide +kernel
theorem d_L_main_219 : decode code 219 = .ok (.iadd, 1) := by decide +kernel
theorem d_L_main_220 : decode code 220 = .ok (.iaload, 1) := by decide +kernel
theorem d_L_main_221 : decode code 221 = .ok (.aload_n 0, 1) := by decide +kernel
theorem d_L_main_222 : decode code 222 = .ok (.iload 4, 2) := by decide +kernel
theorem d_L_main_224 : decode code 224 = .ok (.iconst 3, 1) := by decide +kernel
theorem d_L_main_225 : decode code 225 = .ok (.iadd, 1) := by decide +kernel
theorem d_L_main_226 : decode code 226 = .ok (.iaload, 1) := by decide +kernel
theorem d_L_main_227 : decode code 227 = .ok (.aload_n 0, 1) := by decide +kernel
theorem d_L_main_228 : decode code 228 = .ok (.iload 4, 2) := by decide +kernel
theorem d_L_main_230 : decode code 230 = .ok (.iconst 4, 1) := by decide +kernel
theorem d_L_main_231 : decode code 231 = .ok (.iadd, 1) := by decide +kernel
theorem d_L_main_232 : decode code 232 = .ok (.iaload, 1) := by decide +kernel
theorem d_L_main_233 : decode code 233 = .ok (.aload_n 0, 1) := by decide +kernel
theorem d_L_main_234 : decode code 234 = .ok (.iload 4, 2) := by decide +kernel
theorem d_L_main_236 : decode code 236 = .ok (.iconst 5, 1) := by decide +kernel
theorem d_L_main_237 : decode code 237 = .ok (.iadd, 1) := by decide +kernel
theorem d_L_main_238 : decode code 238 = .ok (.iaload, 1) := by decide +kernel
theorem d_L_main_239 : decode code 239 = .ok (.invokevirtual 111, 3) := by decide +kernel
theorem d_L_main_242 : decode code 242 = .ok (.aload_n 2, 1) := by decide +kernel
theorem d_L_main_243 : decode code 243 = .ok (.aload_n 0, 1) := by decide +kernel
theorem d_L_main_244 : decode code 244 = .ok (.iload 4, 2) := by decide +kernel
theorem d_L_main_246 : decode code 246 = .ok (.iconst 1, 1) := by decide +kernel
theorem d_L_main_247 : decode code 247 = .ok (.iadd, 1) := by decide +kernel
theorem d_L_main_248 : decode code 248 = .ok (.iaload, 1) := by decide +kernel
theorem d_L_main_249 : decode code 249 = .ok (.aload_n 0, 1) := by decide +kernel
theorem d_L_main_250 : decode code 250 = .ok (.iload 4, 2) := by decide +kernel
theorem d_L_main_252 : decode code 252 = .ok (.iconst 2, 1) := by decide +kernel
theorem d_L_main_253 : decode code 253 = .ok (.iadd, 1) := by decide +kernel
theorem d_L_main_254 : decode code 254 = .ok (.iaload, 1) := by decide +kernel
theorem d_L_main_255 : decode code 255 = .ok (.aload_n 0, 1) := by decide +kernel
theorem d_L_main_256 : decode code 256 = .ok (.iload 4, 2) := by decide +kernel
theorem d_L_main_258 : decode code 258 = .ok (.iconst 3, 1) := by decide +kernel
theorem d_L_main_259 : decode code 259 = .ok (.iadd, 1) := by decide +kernel
theorem d_L_main_260 : decode code 260 = .ok (.iaload, 1) := by decide +kernel
theorem d_L_main_261 : decode code 261 = .ok (.aload_n 0, 1) := by decide +kernel
theorem d_L_main_262 : decode code 262 = .ok (.iload 4, 2) := by decide +kernel
theorem d_L_main_264 : decode code 264 = .ok (.iconst 4, 1) := by decide +kernel
theorem d_L_main_265 : decode code 265 = .ok (.iadd, 1) := by decide +kernel
theorem d_L_main_266 : decode code 266 = .ok (.iaload, 1) := by decide +kernel
theorem d_L_main_267 : decode code 267 = .ok (.aload_n 0, 1) := by decide +kernel
theorem d_L_main_268 : decode code 268 = .ok (.iload 4, 2) := by decide +kernel
theorem d_L_main_270 : decode code 270 = .ok (.iconst 5, 1) := by decide +kernel
theorem d_L_main_271 : decode code 271 = .ok (.iadd, 1) := by decide +kernel
theorem d_L_main_272 : decode code 272 = .ok (.iaload, 1) := by decide +kernel
theorem d_L_main_273 : decode code 273 = .ok (.invokevirtual 114, 3) := by decide +kernel
theorem d_L_main_276 : decode code 276 = .ok (.if_icmp .eq 2141, 3) := by decide +kernel
theorem d_L_main_279 : decode code 279 = .ok (.iconst 0, 1) := by decide +kernel
theorem d_L_main_280 : decode code 280 = .ok (.ireturn, 1) := by decide +kernel
theorem d_L_main_281 : decode code 281 = .ok (.aload_n 1, 1) := by decide +kernel
theorem d_L_main_282 : decode code 282 = .ok (.aload_n 0, 1) := by decide +kernel
theorem d_L_main_283 : decode code 283 = .ok (.iload 4, 2) := by decide +kernel
theorem d_L_main_285 : decode code 285 = .ok (.iconst 1, 1) := by decide +kernel
theorem d_L_main_286 : decode code 286 = .ok (.iadd, 1) := by decide +kernel
theorem d_L_main_287 : decode code 287 = .ok (.iaload, 1) := by decide +kernel
theorem d_L_main_288 : decode code 288 = .ok (.aload_n 3, 1) := by decide +kernel
theorem d_L_main_289 : decode code 289 = .ok (.invokestatic 115, 3) := by decide +kernel
theorem d_L_main_292 : decode code 292 = .ok (.istore 5, 2) := by decide +kernel
theorem d_L_main_294 : decode code 294 = .ok (.aload_n 2, 1) := by decide +kernel
theorem d_L_main_295 : decode code 295 = .ok (.aload_n 0, 1) := by decide +kernel
theorem d_L_main_296 : decode code 296 = .ok (.iload 4, 2) := by decide +kernel
theorem d_L_main_298 : decode code 298 = .ok (.iconst 1, 1) := by decide +kernel
theorem d_L_main_299 : decode code 299 = .ok (.iadd, 1) := by decide +kernel
theorem d_L_main_300 : decode code 300 = .ok (.iaload, 1) := by decide +kernel
theorem d_L_main_301 : decode code 301 = .ok (.invokevirtual 120, 3) := by decide +kernel
theorem d_L_main_304 : decode code 304 = .ok (.istore 6, 2) := by decide +kernel
theorem d_L_main_306 : decode code 306 = .ok (.aload_n 2, 1) := by decide +kernel
theorem d_L_main_307 : decode code 307 = .ok (.invokevirtual 121, 3) := by decide +kernel
theorem d_L_main_310 : decode code 310 = .ok (.iload 5, 2) := by decide +kernel
theorem d_L_main_312 : decode code 312 = .ok (.if_icmp .eq 5, 3) := by decide +kernel
theorem d_L_main_315 : decode code 315 = .ok (.iconst 0, 1) := by decide +kernel
theorem d_L_main_316 : decode code 316 = .ok (.ireturn, 1) := by decide +kernel
theorem d_L_main_317 : decode code 317 = .ok (.iload 5, 2) := by decide +kernel
theorem d_L_main_319 : decode code 319 = .ok (.ifCond .ne 15, 3) := by decide +kernel
theorem d_L_main_322 : decode code 322 = .ok (.aload_n 3, 1) := by decide +kernel
theorem d_L_main_323 : decode code 323 = .ok (.iconst 0, 1) := by decide +kernel
theorem d_L_main_324 : decode code 324 = .ok (.laload, 1) := by decide +kernel
theorem d_L_main_325 : decode code 325 = .ok (.iload 6, 2) := by decide +kernel
theorem d_L_main_327 : decode code 327 = .ok (.i2l, 1) := by decide +kernel
theorem d_L_main_328 : decode code 328 = .ok (.lcmp, 1) := by decide +kernel
theorem d_L_main_329 : decode code 329 = .ok (.ifCond .eq 5, 3) := by decide +kernel
theorem d_L_main_332 : decode code 332 = .ok (.iconst 0, 1) := by decide +kernel
theorem d_L_main_333 : decode code 333 = .ok (.ireturn, 1) := by decide +kernel
theorem d_L_main_334 : decode code 334 = .ok (.goto 2083, 3) := by decide +kernel
theorem d_L_main_337 : decode code 337 = .ok (.aload_n 1, 1) := by decide +kernel
theorem d_L_main_338 : decode code 338 = .ok (.aload_n 0, 1) := by decide +kernel
theorem d_L_main_339 : decode code 339 = .ok (.iload 4, 2) := by decide +kernel
theorem d_L_main_341 : decode code 341 = .ok (.iconst 1, 1) := by decide +kernel
theorem d_L_main_342 : decode code 342 = .ok (.iadd, 1) := by decide +kernel
theorem d_L_main_343 : decode code 343 = .ok (.iaload, 1) := by decide +kernel
theorem d_L_main_344 : decode code 344 = .ok (.aload_n 3, 1) := by decide +kernel
theorem d_L_main_345 : decode code 345 = .ok (.invokestatic 125, 3) := by decide +kernel
theorem d_L_main_348 : decode code 348 = .ok (.istore 5, 2) := by decide +kernel
theorem d_L_main_350 : decode code 350 = .ok (.aload_n 2, 1) := by decide +kernel
theorem d_L_main_351 : decode code 351 = .ok (.aload_n 0, 1) := by decide +kernel
theorem d_L_main_352 : decode code 352 = .ok (.iload 4, 2) := by decide +kernel
theorem d_L_main_354 : decode code 354 = .ok (.iconst 1, 1) := by decide +kernel
theorem d_L_main_355 : decode code 355 = .ok (.iadd, 1) := by decide +kernel
theorem d_L_main_356 : decode code 356 = .ok (.iaload, 1) := by decide +kernel
theorem d_L_main_357 : decode code 357 = .ok (.invokevirtual 127, 3) := by decide +kernel
theorem d_L_main_360 : decode code 360 = .ok (.istore 6, 2) := by decide +kernel
theorem d_L_main_362 : decode code 362 = .ok (.aload_n 2, 1) := by decide +kernel
theorem d_L_main_363 : decode code 363 = .ok (.invokevirtual 121, 3) := by decide +kernel
theorem d_L_main_366 : decode code 366 = .ok (.iload 5, 2) := by decide +kernel
theorem d_L_main_368 : decode code 368 = .ok (.if_icmp .eq 5, 3) := by decide +kernel
theorem d_L_main_371 : decode code 371 = .ok (.iconst 0, 1) := by decide +kernel
theorem d_L_main_372 : decode code 372 = .ok (.ireturn, 1) := by decide +kernel
theorem d_L_main_373 : decode code 373 = .ok (.iload 5, 2) := by decide +kernel
theorem d_L_main_375 : decode code 375 = .ok (.ifCond .ne 15, 3) := by decide +kernel
theorem d_L_main_378 : decode code 378 = .ok (.aload_n 3, 1) := by decide +kernel
theorem d_L_main_379 : decode code 379 = .ok (.iconst 0, 1) := by decide +kernel
theorem d_L_main_380 : decode code 380 = .ok (.laload, 1) := by decide +kernel
theorem d_L_main_381 : decode code 381 = .ok (.iload 6, 2) := by decide +kernel
theorem d_L_main_383 : decode code 383 = .ok (.i2l, 1) := by decide +kernel
theorem d_L_main_384 : decode code 384 = .ok (.lcmp, 1) := by decide +kernel
theorem d_L_main_385 : decode code 385 = .ok (.ifCond .eq 5, 3) := by decide +kernel
theorem d_L_main_388 : decode code 388 = .ok (.iconst 0, 1) := by decide +kernel
theorem d_L_main_389 : decode code 389 = .ok (.ireturn, 1) := by decide +kernel
theorem d_L_main_390 : decode code 390 = .ok (.goto 2027, 3) := by decide +kernel
theorem d_L_main_393 : decode code 393 = .ok (.aload_n 1, 1) := by decide +kernel
theorem d_L_main_394 : decode code 394 = .ok (.aload_n 0, 1) := by decide +kernel
theorem d_L_main_395 : decode code 395 = .ok (.iload 4, 2) := by decide +kernel
theorem d_L_main_397 : decode code 397 = .ok (.iconst 1, 1) := by decide +kernel
theorem d_L_main_398 : decode code 398 = .ok (.iadd, 1) := by decide +kernel
theorem d_L_main_399 : decode code 399 = .ok (.iaload, 1) := by decide +kernel
theorem d_L_main_400 : decode code 400 = .ok (.aload_n 3, 1) := by decide +kernel
theorem d_L_main_401 : decode code 401 = .ok (.invokestatic 128, 3) := by decide +kernel
theorem d_L_main_404 : decode code 404 = .ok (.istore 5, 2) := by decide +kernel
theorem d_L_main_406 : decode code 406 = .ok (.aload_n 2, 1) := by decide +kernel
theorem d_L_main_407 : decode code 407 = .ok (.aload_n 0, 1) := by decide +kernel
theorem d_L_main_408 : decode code 408 = .ok (.iload 4, 2) := by decide +kernel
theorem d_L_main_410 : decode code 410 = .ok (.iconst 1, 1) := by decide +kernel
theorem d_L_main_411 : decode code 411 = .ok (.iadd, 1) := by decide +kernel
theorem d_L_main_412 : decode code 412 = .ok (.iaload, 1) := by decide +kernel
theorem d_L_main_413 : decode code 413 = .ok (.invokevirtual 130, 3) := by decide +kernel
theorem d_L_main_416 : decode code 416 = .ok (.istore 6, 2) := by decide +kernel
theorem d_L_main_418 : decode code 418 = .ok (.aload_n 2, 1) := by decide +kernel
theorem d_L_main_419 : decode code 419 = .ok (.invokevirtual 121, 3) := by decide +kernel
theorem d_L_main_422 : decode code 422 = .ok (.iload 5, 2) := by decide +kernel
theorem d_L_main_424 : decode code 424 = .ok (.if_icmp .eq 5, 3) := by decide +kernel
theorem d_L_main_427 : decode code 427 = .ok (.iconst 0, 1) := by decide +kernel
theorem d_L_main_428 : decode code 428 = .ok (.ireturn, 1) := by decide +kernel
theorem d_L_main_429 : decode code 429 = .ok (.iload 5, 2) := by decide +kernel
theorem d_L_main_431 : decode code 431 = .ok (.ifCond .ne 15, 3) := by decide +kernel
theorem d_L_main_434 : decode code 434 = .ok (.aload_n 3, 1) := by decide +kernel
theorem d_L_main_435 : decode code 435 = .ok (.iconst 0, 1) := by decide +kernel
theorem d_L_main_436 : decode code 436 = .ok (.laload, 1) := by decide +kernel
theorem d_L_main_437 : decode code 437 = .ok (.iload 6, 2) := by decide +kernel
theorem d_L_main_439 : decode code 439 = .ok (.i2l, 1) := by decide +kernel
theorem d_L_main_440 : decode code 440 = .ok (.lcmp, 1) := by decide +kernel
theorem d_L_main_441 : decode code 441 = .ok (.ifCond .eq 5, 3) := by decide +kernel
theorem d_L_main_444 : decode code 444 = .ok (.iconst 0, 1) := by decide +kernel
theorem d_L_main_445 : decode code 445 = .ok (.ireturn, 1) := by decide +kernel
theorem d_L_main_446 : decode code 446 = .ok (.goto 1971, 3) := by decide +kernel
theorem d_L_main_449 : decode code 449 = .ok (.aload_n 1, 1) := by decide +kernel
theorem d_L_main_450 : decode code 450 = .ok (.aload_n 0, 1) := by decide +kernel
theorem d_L_main_451 : decode code 451 = .ok (.iload 4, 2) := by decide +kernel
theorem d_L_main_453 : decode code 453 = .ok (.iconst 1, 1) := by decide +kernel
theorem d_L_main_454 : decode code 454 = .ok (.iadd, 1) := by decide +kernel
theorem d_L_main_455 : decode code 455 = .ok (.iaload, 1) := by decide +kernel
theorem d_L_main_456 : decode code 456 = .ok (.aload_n 3, 1) := by decide +kernel
theorem d_L_main_457 : decode code 457 = .ok (.invokestatic 131, 3) := by decide +kernel
theorem d_L_main_460 : decode code 460 = .ok (.istore 5, 2) := by decide +kernel
theorem d_L_main_462 : decode code 462 = .ok (.aload_n 2, 1) := by decide +kernel
theorem d_L_main_463 : decode code 463 = .ok (.aload_n 0, 1) := by decide +kernel
theorem d_L_main_464 : decode code 464 = .ok (.iload 4, 2) := by decide +kernel
theorem d_L_main_466 : decode code 466 = .ok (.iconst 1, 1) := by decide +kernel
theorem d_L_main_467 : decode code 467 = .ok (.iadd, 1) := by decide +kernel
theorem d_L_main_468 : decode code 468 = .ok (.iaload, 1) := by decide +kernel
theorem d_L_main_469 : decode code 469 = .ok (.invokevirtual 133, 3) := by decide +kernel
theorem d_L_main_472 : decode code 472 = .ok (.istore 6, 2) := by decide +kernel
theorem d_L_main_474 : decode code 474 = .ok (.aload_n 2, 1) := by decide +kernel
theorem d_L_main_475 : decode code 475 = .ok (.invokevirtual 121, 3) := by decide +kernel
theorem d_L_main_478 : decode code 478 = .ok (.iload 5, 2) := by decide +kernel
theorem d_L_main_480 : decode code 480 = .ok (.if_icmp .eq 5, 3) := by decide +kernel
theorem d_L_main_483 : decode code 483 = .ok (.iconst 0, 1) := by decide +kernel
theorem d_L_main_484 : decode code 484 = .ok (.ireturn, 1) := by decide +kernel
theorem d_L_main_485 : decode code 485 = .ok (.iload 5, 2) := by decide +kernel
theorem d_L_main_487 : decode code 487 = .ok (.ifCond .ne 15, 3) := by decide +kernel
theorem d_L_main_490 : decode code 490 = .ok (.aload_n 3, 1) := by decide +kernel
theorem d_L_main_491 : decode code 491 = .ok (.iconst 0, 1) := by decide +kernel
theorem d_L_main_492 : decode code 492 = .ok (.laload, 1) := by decide +kernel
theorem d_L_main_493 : decode code 493 = .ok (.iload 6, 2) := by decide +kernel
theorem d_L_main_495 : decode code 495 = .ok (.i2l, 1) := by decide +kernel
theorem d_L_main_496 : decode code 496 = .ok (.lcmp, 1) := by decide +kernel
theorem d_L_main_497 : decode code 497 = .ok (.ifCond .eq 5, 3) := by decide +kernel
theorem d_L_main_500 : decode code 500 = .ok (.iconst 0, 1) := by decide +kernel
theorem d_L_main_501 : decode code 501 = .ok (.ireturn, 1) := by decide +kernel
theorem d_L_main_502 : decode code 502 = .ok (.goto 1915, 3) := by decide +kernel
theorem d_L_main_505 : decode code 505 = .ok (.aload_n 1, 1) := by decide +kernel
theorem d_L_main_506 : decode code 506 = .ok (.invokevirtual 134, 3) := by decide +kernel
theorem d_L_main_509 : decode code 509 = .ok (.aload_n 2, 1) := by decide +kernel
theorem d_L_main_510 : decode code 510 = .ok (.invokevirtual 137, 3) := by decide +kernel
theorem d_L_main_513 : decode code 513 = .ok (.if_icmp .eq 1904, 3) := by decide +kernel
theorem d_L_main_516 : decode code 516 = .ok (.iconst 0, 1) := by decide +kernel
theorem d_L_main_517 : decode code 517 = .ok (.ireturn, 1) := by decide +kernel
theorem d_L_main_518 : decode code 518 = .ok (.aload_n 1, 1) := by decide +kernel
theorem d_L_main_519 : decode code 519 = .ok (.invokevirtual 138, 3) := by decide +kernel
theorem d_L_main_522 : decode code 522 = .ok (.aload_n 2, 1) := by decide +kernel
theorem d_L_main_523 : decode code 523 = .ok (.invokevirtual 141, 3) := by decide +kernel
theorem d_L_main_526 : decode code 526 = .ok (.if_icmp .eq 1891, 3) := by decide +kernel
theorem d_L_main_529 : decode code 529 = .ok (.iconst 0, 1) := by decide +kernel
theorem d_L_main_530 : decode code 530 = .ok (.ireturn, 1) := by decide +kernel
theorem d_L_main_531 : decode code 531 = .ok (.aload_n 1, 1) := by decide +kernel
theorem d_L_main_532 : decode code 532 = .ok (.aload_n 0, 1) := by decide +kernel
theorem d_L_main_533 : decode code 533 = .ok (.iload 4, 2) := by decide +kernel
theorem d_L_main_535 : decode code 535 = .ok (.iconst 1, 1) := by decide +kernel
theorem d_L_main_536 : decode code 536 = .ok (.iadd, 1) := by decide +kernel
theorem d_L_main_537 : decode code 537 = .ok (.iaload, 1) := by decide +kernel
theorem d_L_main_538 : decode code 538 = .ok (.aload_n 3, 1) := by decide +kernel
theorem d_L_main_539 : decode code 539 = .ok (.invokestatic 142, 3) := by decide +kernel
theorem d_L_main_542 : decode code 542 = .ok (.istore 5, 2) := by decide +kernel
theorem d_L_main_544 : decode code 544 = .ok (.aload_n 2, 1) := by decide +kernel
theorem d_L_main_545 : decode code 545 = .ok (.aload_n 0, 1) := by decide +kernel
theorem d_L_main_546 : decode code 546 = .ok (.iload 4, 2) := by decide +kernel
theorem d_L_main_548 : decode code 548 = .ok (.iconst 1, 1) := by decide +kernel
theorem d_L_main_549 : decode code 549 = .ok (.iadd, 1) := by decide +kernel
theorem d_L_main_550 : decode code 550 = .ok (.iaload, 1) := by decide +kernel
theorem d_L_main_551 : decode code 551 = .ok (.invokevirtual 144, 3) := by decide +kernel
theorem d_L_main_554 : decode code 554 = .ok (.istore 6, 2) := by decide +kernel
theorem d_L_main_556 : decode code 556 = .ok (.aload_n 2, 1) := by decide +kernel
theorem d_L_main_557 : decode code 557 = .ok (.invokevirtual 121, 3) := by decide +kernel
theorem d_L_main_560 : decode code 560 = .ok (.iload 5, 2) := by decide +kernel
theorem d_L_main_562 : decode code 562 = .ok (.if_icmp .eq 5, 3) := by decide +kernel
theorem d_L_main_565 : decode code 565 = .ok (.iconst 0, 1) := by decide +kernel
theorem d_L_main_566 : decode code 566 = .ok (.ireturn, 1) := by decide +kernel
theorem d_L_main_567 : decode code 567 = .ok (.iload 5, 2) := by decide +kernel
theorem d_L_main_569 : decode code 569 = .ok (.ifCond .ne 15, 3) := by decide +kernel
theorem d_L_main_572 : decode code 572 = .ok (.aload_n 3, 1) := by decide +kernel
theorem d_L_main_573 : decode code 573 = .ok (.iconst 0, 1) := by decide +kernel
theorem d_L_main_574 : decode code 574 = .ok (.laload, 1) := by decide +kernel
theorem d_L_main_575 : decode code 575 = .ok (.iload 6, 2) := by decide +kernel
theorem d_L_main_577 : decode code 577 = .ok (.i2l, 1) := by decide +kernel
theorem d_L_main_578 : decode code 578 = .ok (.lcmp, 1) := by decide +kernel
theorem d_L_main_579 : decode code 579 = .ok (.ifCond .eq 5, 3) := by decide +kernel
theorem d_L_main_582 : decode code 582 = .ok (.iconst 0, 1) := by decide +kernel
theorem d_L_main_583 : decode code 583 = .ok (.ireturn, 1) := by decide +kernel
theorem d_L_main_584 : decode code 584 = .ok (.goto 1833, 3) := by decide +kernel
theorem d_L_main_587 : decode code 587 = .ok (.aload_n 1, 1) := by decide +kernel
theorem d_L_main_588 : decode code 588 = .ok (.aload_n 0, 1) := by decide +kernel
theorem d_L_main_589 : decode code 589 = .ok (.iload 4, 2) := by decide +kernel
theorem d_L_main_591 : decode code 591 = .ok (.iconst 1, 1) := by decide +kernel
theorem d_L_main_592 : decode code 592 = .ok (.iadd, 1) := by decide +kernel
theorem d_L_main_593 : decode code 593 = .ok (.iaload, 1) := by decide +kernel
theorem d_L_main_594 : decode code 594 = .ok (.aload_n 0, 1) := by decide +kernel
theorem d_L_main_595 : decode code 595 = .ok (.iload 4, 2) := by decide +kernel
theorem d_L_main_597 : decode code 597 = .ok (.iconst 2, 1) := by decide +kernel
theorem d_L_main_598 : decode code 598 = .ok (.iadd, 1) := by decide +kernel
theorem d_L_main_599 : decode code 599 = .ok (.iaload, 1) := by decide +kernel
theorem d_L_main_600 : decode code 600 = .ok (.aload_n 3, 1) := by decide +kernel
theorem d_L_main_601 : decode code 601 = .ok (.invokestatic 145, 3) := by decide +kernel
theorem d_L_main_604 : decode code 604 = .ok (.istore 5, 2) := by decide +kernel
theorem d_L_main_606 : decode code 606 = .ok (.aload_n 2, 1) := by decide +kernel
theorem d_L_main_607 : decode code 607 = .ok (.aload_n 0, 1) := by decide +kernel
theorem d_L_main_608 : decode code 608 = .ok (.iload 4, 2) := by decide +kernel
theorem d_L_main_610 : decode code 610 = .ok (.iconst 1, 1) := by decide +kernel
theorem d_L_main_611 : decode code 611 = .ok (.iadd, 1) := by decide +kernel
theorem d_L_main_612 : decode code 612 = .ok (.iaload, 1) := by decide +kernel
theorem d_L_main_613 : decode code 613 = .ok (.aload_n 0, 1) := by decide +kernel
theorem d_L_main_614 : decode code 614 = .ok (.iload 4, 2) := by decide +kernel
theorem d_L_main_616 : decode code 616 = .ok (.iconst 2, 1) := by decide +kernel
theorem d_L_main_617 : decode code 617 = .ok (.iadd, 1) := by decide +kernel
theorem d_L_main_618 : decode code 618 = .ok (.iaload, 1) := by decide +kernel
theorem d_L_main_619 : decode code 619 = .ok (.invokevirtual 148, 3) := by decide +kernel
theorem d_L_main_622 : decode code 622 = .ok (.istore 6, 2) := by decide +kernel
theorem d_L_main_624 : decode code 624 = .ok (.aload_n 2, 1) := by decide +kernel
theorem d_L_main_625 : decode code 625 = .ok (.invokevirtual 121, 3) := by decide +kernel
theorem d_L_main_628 : decode code 628 = .ok (.iload 5, 2) := by decide +kernel
theorem d_L_main_630 : decode code 630 = .ok (.if_icmp .eq 5, 3) := by decide +kernel
theorem d_L_main_633 : decode code 633 = .ok (.iconst 0, 1) := by decide +kernel
theorem d_L_main_634 : decode code 634 = .ok (.ireturn, 1) := by decide +kernel
theorem d_L_main_635 : decode code 635 = .ok (.iload 5, 2) := by decide +kernel
theorem d_L_main_637 : decode code 637 = .ok (.ifCond .ne 15, 3) := by decide +kernel
theorem d_L_main_640 : decode code 640 = .ok (.aload_n 3, 1) := by decide +kernel
theorem d_L_main_641 : decode code 641 = .ok (.iconst 0, 1) := by decide +kernel
theorem d_L_main_642 : decode code 642 = .ok (.laload, 1) := by decide +kernel
theorem d_L_main_643 : decode code 643 = .ok (.iload 6, 2) := by decide +kernel
theorem d_L_main_645 : decode code 645 = .ok (.i2l, 1) := by decide +kernel
theorem d_L_main_646 : decode code 646 = .ok (.lcmp, 1) := by decide +kernel
theorem d_L_main_647 : decode code 647 = .ok (.ifCond .eq 5, 3) := by decide +kernel
theorem d_L_main_650 : decode code 650 = .ok (.iconst 0, 1) := by decide +kernel
theorem d_L_main_651 : decode code 651 = .ok (.ireturn, 1) := by decide +kernel
theorem d_L_main_652 : decode code 652 = .ok (.goto 1765, 3) := by decide +kernel
theorem d_L_main_655 : decode code 655 = .ok (.aload_n 1, 1) := by decide +kernel
theorem d_L_main_656 : decode code 656 = .ok (.aload_n 0, 1) := by decide +kernel
theorem d_L_main_657 : decode code 657 = .ok (.iload 4, 2) := by decide +kernel
theorem d_L_main_659 : decode code 659 = .ok (.iconst 1, 1) := by decide +kernel
theorem d_L_main_660 : decode code 660 = .ok (.iadd, 1) := by decide +kernel
theorem d_L_main_661 : decode code 661 = .ok (.iaload, 1) := by decide +kernel
theorem d_L_main_662 : decode code 662 = .ok (.aload_n 0, 1) := by decide +kernel
theorem d_L_main_663 : decode code 663 = .ok (.iload 4, 2) := by decide +kernel
theorem d_L_main_665 : decode code 665 = .ok (.iconst 2, 1) := by decide +kernel
theorem d_L_main_666 : decode code 666 = .ok (.iadd, 1) := by decide +kernel
theorem d_L_main_667 : decode code 667 = .ok (.iaload, 1) := by decide +kernel
theorem d_L_main_668 : decode code 668 = .ok (.aload_n 3, 1) := by decide +kernel
theorem d_L_main_669 : decode code 669 = .ok (.invokestatic 149, 3) := by decide +kernel
theorem d_L_main_672 : decode code 672 = .ok (.istore 5, 2) := by decide +kernel
theorem d_L_main_674 : decode code 674 = .ok (.aload_n 2, 1) := by decide +kernel
theorem d_L_main_675 : decode code 675 = .ok (.aload_n 0, 1) := by decide +kernel
theorem d_L_main_676 : decode code 676 = .ok (.iload 4, 2) := by decide +kernel
theorem d_L_main_678 : decode code 678 = .ok (.iconst 1, 1) := by decide +kernel
theorem d_L_main_679 : decode code 679 = .ok (.iadd, 1) := by decide +kernel
theorem d_L_main_680 : decode code 680 = .ok (.iaload, 1) := by decide +kernel
theorem d_L_main_681 : decode code 681 = .ok (.aload_n 0, 1) := by decide +kernel
theorem d_L_main_682 : decode code 682 = .ok (.iload 4, 2) := by decide +kernel
theorem d_L_main_684 : decode code 684 = .ok (.iconst 2, 1) := by decide +kernel
theorem d_L_main_685 : decode code 685 = .ok (.iadd, 1) := by decide +kernel
theorem d_L_main_686 : decode code 686 = .ok (.iaload, 1) := by decide +kernel
theorem d_L_main_687 : decode code 687 = .ok (.invokevirtual 151, 3) := by decide +kernel
theorem d_L_main_690 : decode code 690 = .ok (.istore 6, 2) := by decide +kernel
theorem d_L_main_692 : decode code 692 = .ok (.aload_n 2, 1) := by decide +kernel
theorem d_L_main_693 : decode code 693 = .ok (.invokevirtual 121, 3) := by decide +kernel
theorem d_L_main_696 : decode code 696 = .ok (.iload 5, 2) := by decide +kernel
theorem d_L_main_698 : decode code 698 = .ok (.if_icmp .eq 5, 3) := by decide +kernel
theorem d_L_main_701 : decode code 701 = .ok (.iconst 0, 1) := by decide +kernel
theorem d_L_main_702 : decode code 702 = .ok (.ireturn, 1) := by decide +kernel
theorem d_L_main_703 : decode code 703 = .ok (.iload 5, 2) := by decide +kernel
theorem d_L_main_705 : decode code 705 = .ok (.ifCond .ne 15, 3) := by decide +kernel
theorem d_L_main_708 : decode code 708 = .ok (.aload_n 3, 1) := by decide +kernel
theorem d_L_main_709 : decode code 709 = .ok (.iconst 0, 1) := by decide +kernel
theorem d_L_main_710 : decode code 710 = .ok (.laload, 1) := by decide +kernel
theorem d_L_main_711 : decode code 711 = .ok (.iload 6, 2) := by decide +kernel
theorem d_L_main_713 : decode code 713 = .ok (.i2l, 1) := by decide +kernel
theorem d_L_main_714 : decode code 714 = .ok (.lcmp, 1) := by decide +kernel
theorem d_L_main_715 : decode code 715 = .ok (.ifCond .eq 5, 3) := by decide +kernel
theorem d_L_main_718 : decode code 718 = .ok (.iconst 0, 1) := by decide +kernel
theorem d_L_main_719 : decode code 719 = .ok (.ireturn, 1) := by decide +kernel
theorem d_L_main_720 : decode code 720 = .ok (.goto 1697, 3) := by decide +kernel
theorem d_L_main_723 : decode code 723 = .ok (.aload_n 1, 1) := by decide +kernel
theorem d_L_main_724 : decode code 724 = .ok (.aload_n 0, 1) := by decide +kernel
theorem d_L_main_725 : decode code 725 = .ok (.iload 4, 2) := by decide +kernel
theorem d_L_main_727 : decode code 727 = .ok (.iconst 1, 1) := by decide +kernel
theorem d_L_main_728 : decode code 728 = .ok (.iadd, 1) := by decide +kernel
theorem d_L_main_729 : decode code 729 = .ok (.iaload, 1) := by decide +kernel
theorem d_L_main_730 : decode code 730 = .ok (.aload_n 0, 1) := by decide +kernel
theorem d_L_main_731 : decode code 731 = .ok (.iload 4, 2) := by decide +kernel
theorem d_L_main_733 : decode code 733 = .ok (.iconst 2, 1) := by decide +kernel
theorem d_L_main_734 : decode code 734 = .ok (.iadd, 1) := by decide +kernel
theorem d_L_main_735 : decode code 735 = .ok (.iaload, 1) := by decide +kernel
theorem d_L_main_736 : decode code 736 = .ok (.aload_n 3, 1) := by decide +kernel
theorem d_L_main_737 : decode code 737 = .ok (.invokestatic 152, 3) := by decide +kernel
theorem d_L_main_740 : decode code 740 = .ok (.istore 5, 2) := by decide +kernel
theorem d_L_main_742 : decode code 742 = .ok (.aload_n 2, 1) := by decide +kernel
theorem d_L_main_743 : decode code 743 = .ok (.aload_n 0, 1) := by decide +kernel
theorem d_L_main_744 : decode code 744 = .ok (.iload 4, 2) := by decide +kernel
theorem d_L_main_746 : decode code 746 = .ok (.iconst 1, 1) := by decide +kernel
theorem d_L_main_747 : decode code 747 = .ok (.iadd, 1) := by decide +kernel
theorem d_L_main_748 : decode code 748 = .ok (.iaload, 1) := by decide +kernel
theorem d_L_main_749 : decode code 749 = .ok (.aload_n 0, 1) := by decide +kernel
theorem d_L_main_750 : decode code 750 = .ok (.iload 4, 2) := by decide +kernel
theorem d_L_main_752 : decode code 752 = .ok (.iconst 2, 1) := by decide +kernel
theorem d_L_main_753 : decode code 753 = .ok (.iadd, 1) := by decide +kernel
theorem d_L_main_754 : decode code 754 = .ok (.iaload, 1) := by decide +kernel
theorem d_L_main_755 : decode code 755 = .ok (.invokevirtual 154, 3) := by decide +kernel
theorem d_L_main_758 : decode code 758 = .ok (.istore 6, 2) := by decide +kernel
theorem d_L_main_760 : decode code 760 = .ok (.aload_n 2, 1) := by decide +kernel
theorem d_L_main_761 : decode code 761 = .ok (.invokevirtual 121, 3) := by decide +kernel
theorem d_L_main_764 : decode code 764 = .ok (.iload 5, 2) := by decide +kernel
theorem d_L_main_766 : decode code 766 = .ok (.if_icmp .eq 5, 3) := by decide +kernel
theorem d_L_main_769 : decode code 769 = .ok (.iconst 0, 1) := by decide +kernel
theorem d_L_main_770 : decode code 770 = .ok (.ireturn, 1) := by decide +kernel
theorem d_L_main_771 : decode code 771 = .ok (.iload 5, 2) := by decide +kernel
theorem d_L_main_773 : decode code 773 = .ok (.ifCond .ne 15, 3) := by decide +kernel
theorem d_L_main_776 : decode code 776 = .ok (.aload_n 3, 1) := by decide +kernel
theorem d_L_main_777 : decode code 777 = .ok (.iconst 0, 1) := by decide +kernel
theorem d_L_main_778 : decode code 778 = .ok (.laload, 1) := by decide +kernel
theorem d_L_main_779 : decode code 779 = .ok (.iload 6, 2) := by decide +kernel
theorem d_L_main_781 : decode code 781 = .ok (.i2l, 1) := by decide +kernel
theorem d_L_main_782 : decode code 782 = .ok (.lcmp, 1) := by decide +kernel
theorem d_L_main_783 : decode code 783 = .ok (.ifCond .eq 5, 3) := by decide +kernel
theorem d_L_main_786 : decode code 786 = .ok (.iconst 0, 1) := by decide +kernel
theorem d_L_main_787 : decode code 787 = .ok (.ireturn, 1) := by decide +kernel
theorem d_L_main_788 : decode code 788 = .ok (.goto 1629, 3) := by decide +kernel
theorem d_L_main_791 : decode code 791 = .ok (.aload_n 1, 1) := by decide +kernel
theorem d_L_main_792 : decode code 792 = .ok (.aload_n 0, 1) := by decide +kernel
theorem d_L_main_793 : decode code 793 = .ok (.iload 4, 2) := by decide +kernel
theorem d_L_main_795 : decode code 795 = .ok (.iconst 1, 1) := by decide +kernel
theorem d_L_main_796 : decode code 796 = .ok (.iadd, 1) := by decide +kernel
theorem d_L_main_797 : decode code 797 = .ok (.iaload, 1) := by decide +kernel
theorem d_L_main_798 : decode code 798 = .ok (.aload_n 0, 1) := by decide +kernel
theorem d_L_main_799 : decode code 799 = .ok (.iload 4, 2) := by decide +kernel
theorem d_L_main_801 : decode code 801 = .ok (.iconst 2, 1) := by decide +kernel
theorem d_L_main_802 : decode code 802 = .ok (.iadd, 1) := by decide +kernel
theorem d_L_main_803 : decode code 803 = .ok (.iaload, 1) := by decide +kernel
theorem d_L_main_804 : decode code 804 = .ok (.aload_n 3, 1) := by decide +kernel
theorem d_L_main_805 : decode code 805 = .ok (.invokestatic 155, 3) := by decide +kernel
theorem d_L_main_808 : decode code 808 = .ok (.istore 5, 2) := by decide +kernel
theorem d_L_main_810 : decode code 810 = .ok (.aload_n 2, 1) := by decide +kernel
theorem d_L_main_811 : decode code 811 = .ok (.aload_n 0, 1) := by decide +kernel
theorem d_L_main_812 : decode code 812 = .ok (.iload 4, 2) := by decide +kernel
theorem d_L_main_814 : decode code 814 = .ok (.iconst 1, 1) := by decide +kernel
theorem d_L_main_815 : decode code 815 = .ok (.iadd, 1) := by decide +kernel
theorem d_L_main_816 : decode code 816 = .ok (.iaload, 1) := by decide +kernel
theorem d_L_main_817 : decode code 817 = .ok (.aload_n 0, 1) := by decide +kernel
theorem d_L_main_818 : decode code 818 = .ok (.iload 4, 2) := by decide +kernel
theorem d_L_main_820 : decode code 820 = .ok (.iconst 2, 1) := by decide +kernel
theorem d_L_main_821 : decode code 821 = .ok (.iadd, 1) := by decide +kernel
theorem d_L_main_822 : decode code 822 = .ok (.iaload, 1) := by decide +kernel
theorem d_L_main_823 : decode code 823 = .ok (.invokevirtual 157, 3) := by decide +kernel
theorem d_L_main_826 : decode code 826 = .ok (.istore 6, 2) := by decide +kernel
theorem d_L_main_828 : decode code 828 = .ok (.aload_n 2, 1) := by decide +kernel
theorem d_L_main_829 : decode code 829 = .ok (.invokevirtual 121, 3) := by decide +kernel
theorem d_L_main_832 : decode code 832 = .ok (.iload 5, 2) := by decide +kernel
theorem d_L_main_834 : decode code 834 = .ok (.if_icmp .eq 5, 3) := by decide +kernel
theorem d_L_main_837 : decode code 837 = .ok (.iconst 0, 1) := by decide +kernel
theorem d_L_main_838 : decode code 838 = .ok (.ireturn, 1) := by decide +kernel
theorem d_L_main_839 : decode code 839 = .ok (.iload 5, 2) := by decide +kernel
theorem d_L_main_841 : decode code 841 = .ok (.ifCond .ne 15, 3) := by decide +kernel
theorem d_L_main_844 : decode code 844 = .ok (.aload_n 3, 1) := by decide +kernel
theorem d_L_main_845 : decode code 845 = .ok (.iconst 0, 1) := by decide +kernel
theorem d_L_main_846 : decode code 846 = .ok (.laload, 1) := by decide +kernel
theorem d_L_main_847 : decode code 847 = .ok (.iload 6, 2) := by decide +kernel
theorem d_L_main_849 : decode code 849 = .ok (.i2l, 1) := by decide +kernel
theorem d_L_main_850 : decode code 850 = .ok (.lcmp, 1) := by decide +kernel
theorem d_L_main_851 : decode code 851 = .ok (.ifCond .eq 5, 3) := by decide +kernel
theorem d_L_main_854 : decode code 854 = .ok (.iconst 0, 1) := by decide +kernel
theorem d_L_main_855 : decode code 855 = .ok (.ireturn, 1) := by decide +kernel
theorem d_L_main_856 : decode code 856 = .ok (.goto 1561, 3) := by decide +kernel
theorem d_L_main_859 : decode code 859 = .ok (.aload_n 1, 1) := by decide +kernel
theorem d_L_main_860 : decode code 860 = .ok (.aload_n 0, 1) := by decide +kernel
theorem d_L_main_861 : decode code 861 = .ok (.iload 4, 2) := by decide +kernel
theorem d_L_main_863 : decode code 863 = .ok (.iconst 1, 1) := by decide +kernel
theorem d_L_main_864 : decode code 864 = .ok (.iadd, 1) := by decide +kernel
theorem d_L_main_865 : decode code 865 = .ok (.iaload, 1) := by decide +kernel
theorem d_L_main_866 : decode code 866 = .ok (.aload_n 0, 1) := by decide +kernel
theorem d_L_main_867 : decode code 867 = .ok (.iload 4, 2) := by decide +kernel
theorem d_L_main_869 : decode code 869 = .ok (.iconst 2, 1) := by decide +kernel
theorem d_L_main_870 : decode code 870 = .ok (.iadd, 1) := by decide +kernel
theorem d_L_main_871 : decode code 871 = .ok (.iaload, 1) := by decide +kernel
theorem d_L_main_872 : decode code 872 = .ok (.aload_n 3, 1) := by decide +kernel
theorem d_L_main_873 : decode code 873 = .ok (.invokestatic 158, 3) := by decide +kernel
theorem d_L_main_876 : decode code 876 = .ok (.istore 5, 2) := by decide +kernel
theorem d_L_main_878 : decode code 878 = .ok (.aload_n 2, 1) := by decide +kernel
theorem d_L_main_879 : decode code 879 = .ok (.aload_n 0, 1) := by decide +kernel
theorem d_L_main_880 : decode code 880 = .ok (.iload 4, 2) := by decide +kernel
theorem d_L_main_882 : decode code 882 = .ok (.iconst 1, 1) := by decide +kernel
theorem d_L_main_883 : decode code 883 = .ok (.iadd, 1) := by decide +kernel
theorem d_L_main_884 : decode code 884 = .ok (.iaload, 1) := by decide +kernel
theorem d_L_main_885 : decode code 885 = .ok (.aload_n 0, 1) := by decide +kernel
theorem d_L_main_886 : decode code 886 = .ok (.iload 4, 2) := by decide +kernel
theorem d_L_main_888 : decode code 888 = .ok (.iconst 2, 1) := by decide +kernel
theorem d_L_main_889 : decode code 889 = .ok (.iadd, 1) := by decide +kernel
theorem d_L_main_890 : decode code 890 = .ok (.iaload, 1) := by decide +kernel
theorem d_L_main_891 : decode code 891 = .ok (.invokevirtual 160, 3) := by decide +kernel
theorem d_L_main_894 : decode code 894 = .ok (.istore 6, 2) := by decide +kernel
theorem d_L_main_896 : decode code 896 = .ok (.aload_n 2, 1) := by decide +kernel
theorem d_L_main_897 : decode code 897 = .ok (.invokevirtual 121, 3) := by decide +kernel
theorem d_L_main_900 : decode code 900 = .ok (.iload 5, 2) := by decide +kernel
theorem d_L_main_902 : decode code 902 = .ok (.if_icmp .eq 5, 3) := by decide +kernel
theorem d_L_main_905 : decode code 905 = .ok (.iconst 0, 1) := by decide +kernel
theorem d_L_main_906 : decode code 906 = .ok (.ireturn, 1) := by decide +kernel
theorem d_L_main_907 : decode code 907 = .ok (.iload 5, 2) := by decide +kernel
theorem d_L_main_909 : decode code 909 = .ok (.ifCond .ne 15, 3) := by decide +kernel
theorem d_L_main_912 : decode code 912 = .ok (.aload_n 3, 1) := by decide +kernel
theorem d_L_main_913 : decode code 913 = .ok (.iconst 0, 1) := by decide +kernel
theorem d_L_main_914 : decode code 914 = .ok (.laload, 1) := by decide +kernel
theorem d_L_main_915 : decode code 915 = .ok (.iload 6, 2) := by decide +kernel
theorem d_L_main_917 : decode code 917 = .ok (.i2l, 1) := by decide +kernel
theorem d_L_main_918 : decode code 918 = .ok (.lcmp, 1) := by decide +kernel
theorem d_L_main_919 : decode code 919 = .ok (.ifCond .eq 5, 3) := by decide +kernel
theorem d_L_main_922 : decode code 922 = .ok (.iconst 0, 1) := by decide +kernel
theorem d_L_main_923 : decode code 923 = .ok (.ireturn, 1) := by decide +kernel
theorem d_L_main_924 : decode code 924 = .ok (.goto 1493, 3) := by decide +kernel
theorem d_L_main_927 : decode code 927 = .ok (.aload_n 1, 1) := by decide +kernel
theorem d_L_main_928 : decode code 928 = .ok (.aload_n 0, 1) := by decide +kernel
theorem d_L_main_929 : decode code 929 = .ok (.iload 4, 2) := by decide +kernel
theorem d_L_main_931 : decode code 931 = .ok (.iconst 1, 1) := by decide +kernel
theorem d_L_main_932 : decode code 932 = .ok (.iadd, 1) := by decide +kernel
theorem d_L_main_933 : decode code 933 = .ok (.iaload, 1) := by decide +kernel
theorem d_L_main_934 : decode code 934 = .ok (.aload_n 0, 1) := by decide +kernel
theorem d_L_main_935 : decode code 935 = .ok (.iload 4, 2) := by decide +kernel
theorem d_L_main_937 : decode code 937 = .ok (.iconst 2, 1) := by decide +kernel
theorem d_L_main_938 : decode code 938 = .ok (.iadd, 1) := by decide +kernel
theorem d_L_main_939 : decode code 939 = .ok (.iaload, 1) := by decide +kernel
theorem d_L_main_940 : decode code 940 = .ok (.aload_n 0, 1) := by decide +kernel
theorem d_L_main_941 : decode code 941 = .ok (.iload 4, 2) := by decide +kernel
theorem d_L_main_943 : decode code 943 = .ok (.iconst 3, 1) := by decide +kernel
theorem d_L_main_944 : decode code 944 = .ok (.iadd, 1) := by decide +kernel
theorem d_L_main_945 : decode code 945 = .ok (.iaload, 1) := by decide +kernel
theorem d_L_main_946 : decode code 946 = .ok (.aload_n 0, 1) := by decide +kernel
theorem d_L_main_947 : decode code 947 = .ok (.iload 4, 2) := by decide +kernel
theorem d_L_main_949 : decode code 949 = .ok (.iconst 4, 1) := by decide +kernel
theorem d_L_main_950 : decode code 950 = .ok (.iadd, 1) := by decide +kernel
theorem d_L_main_951 : decode code 951 = .ok (.iaload, 1) := by decide +kernel
theorem d_L_main_952 : decode code 952 = .ok (.aload_n 0, 1) := by decide +kernel
theorem d_L_main_953 : decode code 953 = .ok (.iload 4, 2) := by decide +kernel
theorem d_L_main_955 : decode code 955 = .ok (.iconst 5, 1) := by decide +kernel
theorem d_L_main_956 : decode code 956 = .ok (.iadd, 1) := by decide +kernel
theorem d_L_main_957 : decode code 957 = .ok (.iaload, 1) := by decide +kernel
theorem d_L_main_958 : decode code 958 = .ok (.aload_n 0, 1) := by decide +kernel
theorem d_L_main_959 : decode code 959 = .ok (.iload 4, 2) := by decide +kernel
theorem d_L_main_961 : decode code 961 = .ok (.bipush 6, 2) := by decide +kernel
theorem d_L_main_963 : decode code 963 = .ok (.iadd, 1) := by decide +kernel
theorem d_L_main_964 : decode code 964 = .ok (.iaload, 1) := by decide +kernel
theorem d_L_main_965 : decode code 965 = .ok (.aload_n 0, 1) := by decide +kernel
theorem d_L_main_966 : decode code 966 = .ok (.iload 4, 2) := by decide +kernel
theorem d_L_main_968 : decode code 968 = .ok (.bipush 7, 2) := by decide +kernel
theorem d_L_main_970 : decode code 970 = .ok (.iadd, 1) := by decide +kernel
theorem d_L_main_971 : decode code 971 = .ok (.iaload, 1) := by decide +kernel
theorem d_L_main_972 : decode code 972 = .ok (.aload_n 3, 1) := by decide +kernel
theorem d_L_main_973 : decode code 973 = .ok (.invokestatic 161, 3) := by decide +kernel
theorem d_L_main_976 : decode code 976 = .ok (.istore 5, 2) := by decide +kernel
theorem d_L_main_978 : decode code 978 = .ok (.aload_n 2, 1) := by decide +kernel
theorem d_L_main_979 : decode code 979 = .ok (.aload_n 0, 1) := by decide +kernel
theorem d_L_main_980 : decode code 980 = .ok (.iload 4, 2) := by decide +kernel
theorem d_L_main_982 : decode code 982 = .ok (.iconst 1, 1) := by decide +kernel
theorem d_L_main_983 : decode code 983 = .ok (.iadd, 1) := by decide +kernel
theorem d_L_main_984 : decode code 984 = .ok (.iaload, 1) := by decide +kernel
theorem d_L_main_985 : decode code 985 = .ok (.aload_n 0, 1) := by decide +kernel
theorem d_L_main_986 : decode code 986 = .ok (.iload 4, 2) := by decide +kernel
theorem d_L_main_988 : decode code 988 = .ok (.iconst 2, 1) := by decide +kernel
theorem d_L_main_989 : decode code 989 = .ok (.iadd, 1) := by decide +kernel
theorem d_L_main_990 : decode code 990 = .ok (.iaload, 1) := by decide +kernel
theorem d_L_main_991 : decode code 991 = .ok (.aload_n 0, 1) := by decide +kernel
theorem d_L_main_992 : decode code 992 = .ok (.iload 4, 2) := by decide +kernel
theorem d_L_main_994 : decode code 994 = .ok (.iconst 3, 1) := by decide +kernel
theorem d_L_main_995 : decode code 995 = .ok (.iadd, 1) := by decide +kernel
theorem d_L_main_996 : decode code 996 = .ok (.iaload, 1) := by decide +kernel
theorem d_L_main_997 : decode code 997 = .ok (.aload_n 0, 1) := by decide +kernel
theorem d_L_main_998 : decode code 998 = .ok (.iload 4, 2) := by decide +kernel
theorem d_L_main_1000 : decode code 1000 = .ok (.iconst 4, 1) := by decide +kernel
theorem d_L_main_1001 : decode code 1001 = .ok (.iadd, 1) := by decide +kernel
theorem d_L_main_1002 : decode code 1002 = .ok (.iaload, 1) := by decide +kernel
theorem d_L_main_1003 : decode code 1003 = .ok (.aload_n 0, 1) := by decide +kernel
theorem d_L_main_1004 : decode code 1004 = .ok (.iload 4, 2) := by decide +kernel
theorem d_L_main_1006 : decode code 1006 = .ok (.iconst 5, 1) := by decide +kernel
theorem d_L_main_1007 : decode code 1007 = .ok (.iadd, 1) := by decide +kernel
theorem d_L_main_1008 : decode code 1008 = .ok (.iaload, 1) := by decide +kernel
theorem d_L_main_1009 : decode code 1009 = .ok (.aload_n 0, 1) := by decide +kernel
theorem d_L_main_1010 : decode code 1010 = .ok (.iload 4, 2) := by decide +kernel
theorem d_L_main_1012 : decode code 1012 = .ok (.bipush 6, 2) := by decide +kernel
theorem d_L_main_1014 : decode code 1014 = .ok (.iadd, 1) := by decide +kernel
theorem d_L_main_1015 : decode code 1015 = .ok (.iaload, 1) := by decide +kernel
theorem d_L_main_1016 : decode code 1016 = .ok (.aload_n 0, 1) := by decide +kernel
theorem d_L_main_1017 : decode code 1017 = .ok (.iload 4, 2) := by decide +kernel
theorem d_L_main_1019 : decode code 1019 = .ok (.bipush 7, 2) := by decide +kernel
theorem d_L_main_1021 : decode code 1021 = .ok (.iadd, 1) := by decide +kernel
theorem d_L_main_1022 : decode code 1022 = .ok (.iaload, 1) := by decide +kernel
theorem d_L_main_1023 : decode code 1023 = .ok (.invokevirtual 164, 3) := by decide +kernel
theorem d_L_main_1026 : decode code 1026 = .ok (.istore 6, 2) := by decide +kernel
theorem d_L_main_1028 : decode code 1028 = .ok (.aload_n 2, 1) := by decide +kernel
theorem d_L_main_1029 : decode code 1029 = .ok (.invokevirtual 121, 3) := by decide +kernel
theorem d_L_main_1032 : decode code 1032 = .ok (.iload 5, 2) := by decide +kernel
theorem d_L_main_1034 : decode code 1034 = .ok (.if_icmp .eq 5, 3) := by decide +kernel
theorem d_L_main_1037 : decode code 1037 = .ok (.iconst 0, 1) := by decide +kernel
theorem d_L_main_1038 : decode code 1038 = .ok (.ireturn, 1) := by decide +kernel
theorem d_L_main_1039 : decode code 1039 = .ok (.iload 5, 2) := by decide +kernel
theorem d_L_main_1041 : decode code 1041 = .ok (.ifCond .ne 22, 3) := by decide +kernel
theorem d_L_main_1044 : decode code 1044 = .ok (.aload_n 3, 1) := by decide +kernel
theorem d_L_main_1045 : decode code 1045 = .ok (.iconst 0, 1) := by decide +kernel
theorem d_L_main_1046 : decode code 1046 = .ok (.laload, 1) := by decide +kernel
theorem d_L_main_1047 : decode code 1047 = .ok (.iload 6, 2) := by decide +kernel
theorem d_L_main_1049 : decode code 1049 = .ok (.ifCond .eq 7, 3) := by decide +kernel
theorem d_L_main_1052 : decode code 1052 = .ok (.lconst 1, 1) := by decide +kernel
theorem d_L_main_1053 : decode code 1053 = .ok (.goto 4, 3) := by decide +kernel
theorem d_L_main_1056 : decode code 1056 = .ok (.lconst 0, 1) := by decide +kernel
theorem d_L_main_1057 : decode code 1057 = .ok (.lcmp, 1) := by decide +kernel
theorem d_L_main_1058 : decode code 1058 = .ok (.ifCond .eq 5, 3) := by decide +kernel
theorem d_L_main_1061 : decode code 1061 = .ok (.iconst 0, 1) := by decide +kernel
theorem d_L_main_1062 : decode code 1062 = .ok (.ireturn, 1) := by decide +kernel
theorem d_L_main_1063 : decode code 1063 = .ok (.goto 1354, 3) := by decide +kernel
theorem d_L_main_1066 : decode code 1066 = .ok (.aload_n 1, 1) := by decide +kernel
theorem d_L_main_1067 : decode code 1067 = .ok (.aload_n 0, 1) := by decide +kernel
theorem d_L_main_1068 : decode code 1068 = .ok (.iload 4, 2) := by decide +kernel
theorem d_L_main_1070 : decode code 1070 = .ok (.iconst 1, 1) := by decide +kernel
theorem d_L_main_1071 : decode code 1071 = .ok (.iadd, 1) := by decide +kernel
theorem d_L_main_1072 : decode code 1072 = .ok (.iaload, 1) := by decide +kernel
theorem d_L_main_1073 : decode code 1073 = .ok (.aload_n 0, 1) := by decide +kernel
theorem d_L_main_1074 : decode code 1074 = .ok (.iload 4, 2) := by decide +kernel
theorem d_L_main_1076 : decode code 1076 = .ok (.iconst 2, 1) := by decide +kernel
theorem d_L_main_1077 : decode code 1077 = .ok (.iadd, 1) := by decide +kernel
theorem d_L_main_1078 : decode code 1078 = .ok (.iaload, 1) := by decide +kernel
theorem d_L_main_1079 : decode code 1079 = .ok (.aload_n 3, 1) := by decide +kernel
theorem d_L_main_1080 : decode code 1080 = .ok (.invokestatic 165, 3) := by decide +kernel
theorem d_L_main_1083 : decode code 1083 = .ok (.istore 5, 2) := by decide +kernel
theorem d_L_main_1085 : decode code 1085 = .ok (.aload_n 2, 1) := by decide +kernel
theorem d_L_main_1086 : decode code 1086 = .ok (.aload_n 0, 1) := by decide +kernel
theorem d_L_main_1087 : decode code 1087 = .ok (.iload 4, 2) := by decide +kernel
theorem d_L_main_1089 : decode code 1089 = .ok (.iconst 1, 1) := by decide +kernel
theorem d_L_main_1090 : decode code 1090 = .ok (.iadd, 1) := by decide +kernel
theorem d_L_main_1091 : decode code 1091 = .ok (.iaload, 1) := by decide +kernel
theorem d_L_main_1092 : decode code 1092 = .ok (.aload_n 0, 1) := by decide +kernel
theorem d_L_main_1093 : decode code 1093 = .ok (.iload 4, 2) := by decide +kernel
theorem d_L_main_1095 : decode code 1095 = .ok (.iconst 2, 1) := by decide +kernel
theorem d_L_main_1096 : decode code 1096 = .ok (.iadd, 1) := by decide +kernel
theorem d_L_main_1097 : decode code 1097 = .ok (.iaload, 1) := by decide +kernel
theorem d_L_main_1098 : decode code 1098 = .ok (.invokevirtual 167, 3) := by decide +kernel
theorem d_L_main_1101 : decode code 1101 = .ok (.istore 6, 2) := by decide +kernel
theorem d_L_main_1103 : decode code 1103 = .ok (.aload_n 2, 1) := by decide +kernel
theorem d_L_main_1104 : decode code 1104 = .ok (.invokevirtual 121, 3) := by decide +kernel
theorem d_L_main_1107 : decode code 1107 = .ok (.iload 5, 2) := by decide +kernel
theorem d_L_main_1109 : decode code 1109 = .ok (.if_icmp .eq 5, 3) := by decide +kernel
theorem d_L_main_1112 : decode code 1112 = .ok (.iconst 0, 1) := by decide +kernel
theorem d_L_main_1113 : decode code 1113 = .ok (.ireturn, 1) := by decide +kernel
theorem d_L_main_1114 : decode code 1114 = .ok (.iload 5, 2) := by decide +kernel
theorem d_L_main_1116 : decode code 1116 = .ok (.ifCond .ne 15, 3) := by decide +kernel
theorem d_L_main_1119 : decode code 1119 = .ok (.aload_n 3, 1) := by decide +kernel
theorem d_L_main_1120 : decode code 1120 = .ok (.iconst 0, 1) := by decide +kernel
theorem d_L_main_1121 : decode code 1121 = .ok (.laload, 1) := by decide +kernel
theorem d_L_main_1122 : decode code 1122 = .ok (.iload 6, 2) := by decide +kernel
theorem d_L_main_1124 : decode code 1124 = .ok (.i2l, 1) := by decide +kernel
theorem d_L_main_1125 : decode code 1125 = .ok (.lcmp, 1) := by decide +kernel
theorem d_L_main_1126 : decode code 1126 = .ok (.ifCond .eq 5, 3) := by decide +kernel
theorem d_L_main_1129 : decode code 1129 = .ok (.iconst 0, 1) := by decide +kernel
theorem d_L_main_1130 : decode code 1130 = .ok (.ireturn, 1) := by decide +kernel
theorem d_L_main_1131 : decode code 1131 = .ok (.goto 1286, 3) := by decide +kernel
theorem d_L_main_1134 : decode code 1134 = .ok (.aload_n 1, 1) := by decide +kernel
theorem d_L_main_1135 : decode code 1135 = .ok (.invokevirtual 168, 3) := by decide +kernel
theorem d_L_main_1138 : decode code 1138 = .ok (.aload_n 2, 1) := by decide +kernel
theorem d_L_main_1139 : decode code 1139 = .ok (.invokevirtual 171, 3) := by decide +kernel
theorem d_L_main_1142 : decode code 1142 = .ok (.if_icmp .eq 1275, 3) := by decide +kernel
theorem d_L_main_1145 : decode code 1145 = .ok (.iconst 0, 1) := by decide +kernel
theorem d_L_main_1146 : decode code 1146 = .ok (.ireturn, 1) := by decide +kernel
theorem d_L_main_1147 : decode code 1147 = .ok (.aload_n 1, 1) := by decide +kernel
theorem d_L_main_1148 : decode code 1148 = .ok (.aload_n 0, 1) := by decide +kernel
theorem d_L_main_1149 : decode code 1149 = .ok (.iload 4, 2) := by decide +kernel
theorem d_L_main_1151 : decode code 1151 = .ok (.iconst 1, 1) := by decide +kernel
theorem d_L_main_1152 : decode code 1152 = .ok (.iadd, 1) := by decide +kernel
theorem d_L_main_1153 : decode code 1153 = .ok (.iaload, 1) := by decide +kernel
theorem d_L_main_1154 : decode code 1154 = .ok (.aload_n 0, 1) := by decide +kernel
theorem d_L_main_1155 : decode code 1155 = .ok (.iload 4, 2) := by decide +kernel
theorem d_L_main_1157 : decode code 1157 = .ok (.iconst 2, 1) := by decide +kernel
theorem d_L_main_1158 : decode code 1158 = .ok (.iadd, 1) := by decide +kernel
theorem d_L_main_1159 : decode code 1159 = .ok (.iaload, 1) := by decide +kernel
theorem d_L_main_1160 : decode code 1160 = .ok (.aload_n 3, 1) := by decide +kernel
theorem d_L_main_1161 : decode code 1161 = .ok (.invokestatic 172, 3) := by decide +kernel
theorem d_L_main_1164 : decode code 1164 = .ok (.istore 5, 2) := by decide +kernel
theorem d_L_main_1166 : decode code 1166 = .ok (.aload_n 2, 1) := by decide +kernel
theorem d_L_main_1167 : decode code 1167 = .ok (.aload_n 0, 1) := by decide +kernel
theorem d_L_main_1168 : decode code 1168 = .ok (.iload 4, 2) := by decide +kernel
theorem d_L_main_1170 : decode code 1170 = .ok (.iconst 1, 1) := by decide +kernel
theorem d_L_main_1171 : decode code 1171 = .ok (.iadd, 1) := by decide +kernel
theorem d_L_main_1172 : decode code 1172 = .ok (.iaload, 1) := by decide +kernel
theorem d_L_main_1173 : decode code 1173 = .ok (.aload_n 0, 1) := by decide +kernel
theorem d_L_main_1174 : decode code 1174 = .ok (.iload 4, 2) := by decide +kernel
theorem d_L_main_1176 : decode code 1176 = .ok (.iconst 2, 1) := by decide +kernel
theorem d_L_main_1177 : decode code 1177 = .ok (.iadd, 1) := by decide +kernel
theorem d_L_main_1178 : decode code 1178 = .ok (.iaload, 1) := by decide +kernel
theorem d_L_main_1179 : decode code 1179 = .ok (.invokevirtual 174, 3) := by decide +kernel
theorem d_L_main_1182 : decode code 1182 = .ok (.istore 6, 2) := by decide +kernel
theorem d_L_main_1184 : decode code 1184 = .ok (.aload_n 2, 1) := by decide +kernel
theorem d_L_main_1185 : decode code 1185 = .ok (.invokevirtual 121, 3) := by decide +kernel
theorem d_L_main_1188 : decode code 1188 = .ok (.iload 5, 2) := by decide +kernel
theorem d_L_main_1190 : decode code 1190 = .ok (.if_icmp .eq 5, 3) := by decide +kernel
theorem d_L_main_1193 : decode code 1193 = .ok (.iconst 0, 1) := by decide +kernel
theorem d_L_main_1194 : decode code 1194 = .ok (.ireturn, 1) := by decide +kernel
theorem d_L_main_1195 : decode code 1195 = .ok (.iload 5, 2) := by decide +kernel
theorem d_L_main_1197 : decode code 1197 = .ok (.ifCond .ne 15, 3) := by decide +kernel
theorem d_L_main_1200 : decode code 1200 = .ok (.aload_n 3, 1) := by decide +kernel
theorem d_L_main_1201 : decode code 1201 = .ok (.iconst 0, 1) := by decide +kernel
theorem d_L_main_1202 : decode code 1202 = .ok (.laload, 1) := by decide +kernel
theorem d_L_main_1203 : decode code 1203 = .ok (.iload 6, 2) := by decide +kernel
theorem d_L_main_1205 : decode code 1205 = .ok (.i2l, 1) := by decide +kernel
theorem d_L_main_1206 : decode code 1206 = .ok (.lcmp, 1) := by decide +kernel
theorem d_L_main_1207 : decode code 1207 = .ok (.ifCond .eq 5, 3) := by decide +kernel
theorem d_L_main_1210 : decode code 1210 = .ok (.iconst 0, 1) := by decide +kernel
theorem d_L_main_1211 : decode code 1211 = .ok (.ireturn, 1) := by decide +kernel
theorem d_L_main_1212 : decode code 1212 = .ok (.goto 1205, 3) := by decide +kernel
theorem d_L_main_1215 : decode code 1215 = .ok (.aload_n 1, 1) := by decide +kernel
theorem d_L_main_1216 : decode code 1216 = .ok (.aload_n 0, 1) := by decide +kernel
theorem d_L_main_1217 : decode code 1217 = .ok (.iload 4, 2) := by decide +kernel
theorem d_L_main_1219 : decode code 1219 = .ok (.iconst 1, 1) := by decide +kernel
theorem d_L_main_1220 : decode code 1220 = .ok (.iadd, 1) := by decide +kernel
theorem d_L_main_1221 : decode code 1221 = .ok (.iaload, 1) := by decide +kernel
theorem d_L_main_1222 : decode code 1222 = .ok (.aload_n 3, 1) := by decide +kernel
theorem d_L_main_1223 : decode code 1223 = .ok (.invokestatic 175, 3) := by decide +kernel
theorem d_L_main_1226 : decode code 1226 = .ok (.istore 5, 2) := by decide +kernel
theorem d_L_main_1228 : decode code 1228 = .ok (.aload_n 2, 1) := by decide +kernel
theorem d_L_main_1229 : decode code 1229 = .ok (.aload_n 0, 1) := by decide +kernel
theorem d_L_main_1230 : decode code 1230 = .ok (.iload 4, 2) := by decide +kernel
theorem d_L_main_1232 : decode code 1232 = .ok (.iconst 1, 1) := by decide +kernel
theorem d_L_main_1233 : decode code 1233 = .ok (.iadd, 1) := by decide +kernel
theorem d_L_main_1234 : decode code 1234 = .ok (.iaload, 1) := by decide +kernel
theorem d_L_main_1235 : decode code 1235 = .ok (.invokevirtual 177, 3) := by decide +kernel
theorem d_L_main_1238 : decode code 1238 = .ok (.istore 6, 2) := by decide +kernel
theorem d_L_main_1240 : decode code 1240 = .ok (.aload_n 2, 1) := by decide +kernel
theorem d_L_main_1241 : decode code 1241 = .ok (.invokevirtual 121, 3) := by decide +kernel
theorem d_L_main_1244 : decode code 1244 = .ok (.iload 5, 2) := by decide +kernel
theorem d_L_main_1246 : decode code 1246 = .ok (.if_icmp .eq 5, 3) := by decide +kernel
theorem d_L_main_1249 : decode code 1249 = .ok (.iconst 0, 1) := by decide +kernel
theorem d_L_main_1250 : decode code 1250 = .ok (.ireturn, 1) := by decide +kernel
theorem d_L_main_1251 : decode code 1251 = .ok (.iload 5, 2) := by decide +kernel
theorem d_L_main_1253 : decode code 1253 = .ok (.ifCond .ne 15, 3) := by decide +kernel
theorem d_L_main_1256 : decode code 1256 = .ok (.aload_n 3, 1) := by decide +kernel
theorem d_L_main_1257 : decode code 1257 = .ok (.iconst 0, 1) := by decide +kernel
theorem d_L_main_1258 : decode code 1258 = .ok (.laload, 1) := by decide +kernel
theorem d_L_main_1259 : decode code 1259 = .ok (.iload 6, 2) := by decide +kernel
theorem d_L_main_1261 : decode code 1261 = .ok (.i2l, 1) := by decide +kernel
theorem d_L_main_1262 : decode code 1262 = .ok (.lcmp, 1) := by decide +kernel
theorem d_L_main_1263 : decode code 1263 = .ok (.ifCond .eq 5, 3) := by decide +kernel
theorem d_L_main_1266 : decode code 1266 = .ok (.iconst 0, 1) := by decide +kernel
theorem d_L_main_1267 : decode code 1267 = .ok (.ireturn, 1) := by decide +kernel
theorem d_L_main_1268 : decode code 1268 = .ok (.goto 1149, 3) := by decide +kernel
theorem d_L_main_1271 : decode code 1271 = .ok (.aload_n 1, 1) := by decide +kernel
theorem d_L_main_1272 : decode code 1272 = .ok (.aload_n 0, 1) := by decide +kernel
theorem d_L_main_1273 : decode code 1273 = .ok (.iload 4, 2) := by decide +kernel
theorem d_L_main_1275 : decode code 1275 = .ok (.iconst 1, 1) := by decide +kernel
theorem d_L_main_1276 : decode code 1276 = .ok (.iadd, 1) := by decide +kernel
theorem d_L_main_1277 : decode code 1277 = .ok (.iaload, 1) := by decide +kernel
theorem d_L_main_1278 : decode code 1278 = .ok (.aload_n 3, 1) := by decide +kernel
theorem d_L_main_1279 : decode code 1279 = .ok (.invokestatic 178, 3) := by decide +kernel
theorem d_L_main_1282 : decode code 1282 = .ok (.istore 5, 2) := by decide +kernel
theorem d_L_main_1284 : decode code 1284 = .ok (.aload_n 2, 1) := by decide +kernel
theorem d_L_main_1285 : decode code 1285 = .ok (.aload_n 0, 1) := by decide +kernel
theorem d_L_main_1286 : decode code 1286 = .ok (.iload 4, 2) := by decide +kernel
theorem d_L_main_1288 : decode code 1288 = .ok (.iconst 1, 1) := by decide +kernel
theorem d_L_main_1289 : decode code 1289 = .ok (.iadd, 1) := by decide +kernel
theorem d_L_main_1290 : decode code 1290 = .ok (.iaload, 1) := by decide +kernel
theorem d_L_main_1291 : decode code 1291 = .ok (.invokevirtual 180, 3) := by decide +kernel
theorem d_L_main_1294 : decode code 1294 = .ok (.istore 6, 2) := by decide +kernel
theorem d_L_main_1296 : decode code 1296 = .ok (.aload_n 2, 1) := by decide +kernel
theorem d_L_main_1297 : decode code 1297 = .ok (.invokevirtual 121, 3) := by decide +kernel
theorem d_L_main_1300 : decode code 1300 = .ok (.iload 5, 2) := by decide +kernel
theorem d_L_main_1302 : decode code 1302 = .ok (.if_icmp .eq 5, 3) := by decide +kernel
theorem d_L_main_1305 : decode code 1305 = .ok (.iconst 0, 1) := by decide +kernel
theorem d_L_main_1306 : decode code 1306 = .ok (.ireturn, 1) := by decide +kernel
theorem d_L_main_1307 : decode code 1307 = .ok (.iload 5, 2) := by decide +kernel
theorem d_L_main_1309 : decode code 1309 = .ok (.ifCond .ne 15, 3) := by decide +kernel
theorem d_L_main_1312 : decode code 1312 = .ok (.aload_n 3, 1) := by decide +kernel
theorem d_L_main_1313 : decode code 1313 = .ok (.iconst 0, 1) := by decide +kernel
theorem d_L_main_1314 : decode code 1314 = .ok (.laload, 1) := by decide +kernel
theorem d_L_main_1315 : decode code 1315 = .ok (.iload 6, 2) := by decide +kernel
theorem d_L_main_1317 : decode code 1317 = .ok (.i2l, 1) := by decide +kernel
theorem d_L_main_1318 : decode code 1318 = .ok (.lcmp, 1) := by decide +kernel
theorem d_L_main_1319 : decode code 1319 = .ok (.ifCond .eq 5, 3) := by decide +kernel
theorem d_L_main_1322 : decode code 1322 = .ok (.iconst 0, 1) := by decide +kernel
theorem d_L_main_1323 : decode code 1323 = .ok (.ireturn, 1) := by decide +kernel
theorem d_L_main_1324 : decode code 1324 = .ok (.goto 1093, 3) := by decide +kernel
theorem d_L_main_1327 : decode code 1327 = .ok (.aload_n 1, 1) := by decide +kernel
theorem d_L_main_1328 : decode code 1328 = .ok (.aload_n 0, 1) := by decide +kernel
theorem d_L_main_1329 : decode code 1329 = .ok (.iload 4, 2) := by decide +kernel
theorem d_L_main_1331 : decode code 1331 = .ok (.iconst 1, 1) := by decide +kernel
theorem d_L_main_1332 : decode code 1332 = .ok (.iadd, 1) := by decide +kernel
theorem d_L_main_1333 : decode code 1333 = .ok (.iaload, 1) := by decide +kernel
theorem d_L_main_1334 : decode code 1334 = .ok (.aload_n 3, 1) := by decide +kernel
theorem d_L_main_1335 : decode code 1335 = .ok (.invokestatic 181, 3) := by decide +kernel
theorem d_L_main_1338 : decode code 1338 = .ok (.istore 5, 2) := by decide +kernel
theorem d_L_main_1340 : decode code 1340 = .ok (.aload_n 2, 1) := by decide +kernel
theorem d_L_main_1341 : decode code 1341 = .ok (.aload_n 0, 1) := by decide +kernel
theorem d_L_main_1342 : decode code 1342 = .ok (.iload 4, 2) := by decide +kernel
theorem d_L_main_1344 : decode code 1344 = .ok (.iconst 1, 1) := by decide +kernel
theorem d_L_main_1345 : decode code 1345 = .ok (.iadd, 1) := by decide +kernel
theorem d_L_main_1346 : decode code 1346 = .ok (.iaload, 1) := by decide +kernel
theorem d_L_main_1347 : decode code 1347 = .ok (.invokevirtual 183, 3) := by decide +kernel
theorem d_L_main_1350 : decode code 1350 = .ok (.istore 6, 2) := by decide +kernel
theorem d_L_main_1352 : decode code 1352 = .ok (.aload_n 2, 1) := by decide +kernel
theorem d_L_main_1353 : decode code 1353 = .ok (.invokevirtual 121, 3) := by decide +kernel
theorem d_L_main_1356 : decode code 1356 = .ok (.iload 5, 2) := by decide +kernel
theorem d_L_main_1358 : decode code 1358 = .ok (.if_icmp .eq 5, 3) := by decide +kernel
theorem d_L_main_1361 : decode code 1361 = .ok (.iconst 0, 1) := by decide +kernel
theorem d_L_main_1362 : decode code 1362 = .ok (.ireturn, 1) := by decide +kernel
theorem d_L_main_1363 : decode code 1363 = .ok (.iload 5, 2) := by decide +kernel
theorem d_L_main_1365 : decode code 1365 = .ok (.ifCond .ne 15, 3) := by decide +kernel
theorem d_L_main_1368 : decode code 1368 = .ok (.aload_n 3, 1) := by decide +kernel
theorem d_L_main_1369 : decode code 1369 = .ok (.iconst 0, 1) := by decide +kernel
theorem d_L_main_1370 : decode code 1370 = .ok (.laload, 1) := by decide +kernel
theorem d_L_main_1371 : decode code 1371 = .ok (.iload 6, 2) := by decide +kernel
theorem d_L_main_1373 : decode code 1373 = .ok (.i2l, 1) := by decide +kernel
theorem d_L_main_1374 : decode code 1374 = .ok (.lcmp, 1) := by decide +kernel
theorem d_L_main_1375 : decode code 1375 = .ok (.ifCond .eq 5, 3) := by decide +kernel
theorem d_L_main_1378 : decode code 1378 = .ok (.iconst 0, 1) := by decide +kernel
theorem d_L_main_1379 : decode code 1379 = .ok (.ireturn, 1) := by decide +kernel
theorem d_L_main_1380 : decode code 1380 = .ok (.goto 1037, 3) := by decide +kernel
theorem d_L_main_1383 : decode code 1383 = .ok (.aload_n 1, 1) := by decide +kernel
theorem d_L_main_1384 : decode code 1384 = .ok (.aload_n 0, 1) := by decide +kernel
theorem d_L_main_1385 : decode code 1385 = .ok (.iload 4, 2) := by decide +kernel
theorem d_L_main_1387 : decode code 1387 = .ok (.iconst 1, 1) := by decide +kernel
theorem d_L_main_1388 : decode code 1388 = .ok (.iadd, 1) := by decide +kernel
theorem d_L_main_1389 : decode code 1389 = .ok (.iaload, 1) := by decide +kernel
theorem d_L_main_1390 : decode code 1390 = .ok (.aload_n 0, 1) := by decide +kernel
theorem d_L_main_1391 : decode code 1391 = .ok (.iload 4, 2) := by decide +kernel
theorem d_L_main_1393 : decode code 1393 = .ok (.iconst 2, 1) := by decide +kernel
theorem d_L_main_1394 : decode code 1394 = .ok (.iadd, 1) := by decide +kernel
theorem d_L_main_1395 : decode code 1395 = .ok (.iaload, 1) := by decide +kernel
theorem d_L_main_1396 : decode code 1396 = .ok (.aload_n 3, 1) := by decide +kernel
theorem d_L_main_1397 : decode code 1397 = .ok (.invokestatic 184, 3) := by decide +kernel
theorem d_L_main_1400 : decode code 1400 = .ok (.istore 5, 2) := by decide +kernel
theorem d_L_main_1402 : decode code 1402 = .ok (.aload_n 2, 1) := by decide +kernel
theorem d_L_main_1403 : decode code 1403 = .ok (.aload_n 0, 1) := by decide +kernel
theorem d_L_main_1404 : decode code 1404 = .ok (.iload 4, 2) := by decide +kernel
theorem d_L_main_1406 : decode code 1406 = .ok (.iconst 1, 1) := by decide +kernel
theorem d_L_main_1407 : decode code 1407 = .ok (.iadd, 1) := by decide +kernel
theorem d_L_main_1408 : decode code 1408 = .ok (.iaload, 1) := by decide +kernel
theorem d_L_main_1409 : decode code 1409 = .ok (.aload_n 0, 1) := by decide +kernel
theorem d_L_main_1410 : decode code 1410 = .ok (.iload 4, 2) := by decide +kernel
theorem d_L_main_1412 : decode code 1412 = .ok (.iconst 2, 1) := by decide +kernel
theorem d_L_main_1413 : decode code 1413 = .ok (.iadd, 1) := by decide +kernel
theorem d_L_main_1414 : decode code 1414 = .ok (.iaload, 1) := by decide +kernel
theorem d_L_main_1415 : decode code 1415 = .ok (.invokevirtual 186, 3) := by decide +kernel
theorem d_L_main_1418 : decode code 1418 = .ok (.istore 6, 2) := by decide +kernel
theorem d_L_main_1420 : decode code 1420 = .ok (.aload_n 2, 1) := by decide +kernel
theorem d_L_main_1421 : decode code 1421 = .ok (.invokevirtual 121, 3) := by decide +kernel
theorem d_L_main_1424 : decode code 1424 = .ok (.iload 5, 2) := by decide +kernel
theorem d_L_main_1426 : decode code 1426 = .ok (.if_icmp .eq 5, 3) := by decide +kernel
theorem d_L_main_1429 : decode code 1429 = .ok (.iconst 0, 1) := by decide +kernel
theorem d_L_main_1430 : decode code 1430 = .ok (.ireturn, 1) := by decide +kernel
theorem d_L_main_1431 : decode code 1431 = .ok (.iload 5, 2) := by decide +kernel
theorem d_L_main_1433 : decode code 1433 = .ok (.ifCond .ne 15, 3) := by decide +kernel
theorem d_L_main_1436 : decode code 1436 = .ok (.aload_n 3, 1) := by decide +kernel
theorem d_L_main_1437 : decode code 1437 = .ok (.iconst 0, 1) := by decide +kernel
theorem d_L_main_1438 : decode code 1438 = .ok (.laload, 1) := by decide +kernel
theorem d_L_main_1439 : decode code 1439 = .ok (.iload 6, 2) := by decide +kernel
theorem d_L_main_1441 : decode code 1441 = .ok (.i2l, 1) := by decide +kernel
theorem d_L_main_1442 : decode code 1442 = .ok (.lcmp, 1) := by decide +kernel
theorem d_L_main_1443 : decode code 1443 = .ok (.ifCond .eq 5, 3) := by decide +kernel
theorem d_L_main_1446 : decode code 1446 = .ok (.iconst 0, 1) := by decide +kernel
theorem d_L_main_1447 : decode code 1447 = .ok (.ireturn, 1) := by decide +kernel
theorem d_L_main_1448 : decode code 1448 = .ok (.goto 969, 3) := by decide +kernel
theorem d_L_main_1451 : decode code 1451 = .ok (.aload_n 1, 1) := by decide +kernel
theorem d_L_main_1452 : decode code 1452 = .ok (.invokevirtual 187, 3) := by decide +kernel
theorem d_L_main_1455 : decode code 1455 = .ok (.aload_n 2, 1) := by decide +kernel
theorem d_L_main_1456 : decode code 1456 = .ok (.invokevirtual 190, 3) := by decide +kernel
theorem d_L_main_1459 : decode code 1459 = .ok (.if_icmp .eq 958, 3) := by decide +kernel
theorem d_L_main_1462 : decode code 1462 = .ok (.iconst 0, 1) := by decide +kernel
theorem d_L_main_1463 : decode code 1463 = .ok (.ireturn, 1) := by decide +kernel
theorem d_L_main_1464 : decode code 1464 = .ok (.aload_n 1, 1) := by decide +kernel
theorem d_L_main_1465 : decode code 1465 = .ok (.aload_n 0, 1) := by decide +kernel
theorem d_L_main_1466 : decode code 1466 = .ok (.iload 4, 2) := by decide +kernel
theorem d_L_main_1468 : decode code 1468 = .ok (.iconst 1, 1) := by decide +kernel
theorem d_L_main_1469 : decode code 1469 = .ok (.iadd, 1) := by decide +kernel
theorem d_L_main_1470 : decode code 1470 = .ok (.iaload, 1) := by decide +kernel
theorem d_L_main_1471 : decode code 1471 = .ok (.aload_n 0, 1) := by decide +kernel
theorem d_L_main_1472 : decode code 1472 = .ok (.iload 4, 2) := by decide +kernel
theorem d_L_main_1474 : decode code 1474 = .ok (.iconst 2, 1) := by decide +kernel
theorem d_L_main_1475 : decode code 1475 = .ok (.iadd, 1) := by decide +kernel
theorem d_L_main_1476 : decode code 1476 = .ok (.iaload, 1) := by decide +kernel
theorem d_L_main_1477 : decode code 1477 = .ok (.aload_n 0, 1) := by decide +kernel
theorem d_L_main_1478 : decode code 1478 = .ok (.iload 4, 2) := by decide +kernel
theorem d_L_main_1480 : decode code 1480 = .ok (.iconst 3, 1) := by decide +kernel
theorem d_L_main_1481 : decode code 1481 = .ok (.iadd, 1) := by decide +kernel
theorem d_L_main_1482 : decode code 1482 = .ok (.iaload, 1) := by decide +kernel
theorem d_L_main_1483 : decode code 1483 = .ok (.aload_n 0, 1) := by decide +kernel
theorem d_L_main_1484 : decode code 1484 = .ok (.iload 4, 2) := by decide +kernel
theorem d_L_main_1486 : decode code 1486 = .ok (.iconst 4, 1) := by decide +kernel
theorem d_L_main_1487 : decode code 1487 = .ok (.iadd, 1) := by decide +kernel
theorem d_L_main_1488 : decode code 1488 = .ok (.iaload, 1) := by decide +kernel
theorem d_L_main_1489 : decode code 1489 = .ok (.aload_n 0, 1) := by decide +kernel
theorem d_L_main_1490 : decode code 1490 = .ok (.iload 4, 2) := by decide +kernel
theorem d_L_main_1492 : decode code 1492 = .ok (.iconst 5, 1) := by decide +kernel
theorem d_L_main_1493 : decode code 1493 = .ok (.iadd, 1) := by decide +kernel
theorem d_L_main_1494 : decode code 1494 = .ok (.iaload, 1) := by decide +kernel
theorem d_L_main_1495 : decode code 1495 = .ok (.aload_n 0, 1) := by decide +kernel
theorem d_L_main_1496 : decode code 1496 = .ok (.iload 4, 2) := by decide +kernel
theorem d_L_main_1498 : decode code 1498 = .ok (.bipush 6, 2) := by decide +kernel
theorem d_L_main_1500 : decode code 1500 = .ok (.iadd, 1) := by decide +kernel
theorem d_L_main_1501 : decode code 1501 = .ok (.iaload, 1) := by decide +kernel
theorem d_L_main_1502 : decode code 1502 = .ok (.aload_n 3, 1) := by decide +kernel
theorem d_L_main_1503 : decode code 1503 = .ok (.invokestatic 191, 3) := by decide +kernel
theorem d_L_main_1506 : decode code 1506 = .ok (.istore 5, 2) := by decide +kernel
theorem d_L_main_1508 : decode code 1508 = .ok (.aload_n 2, 1) := by decide +kernel
theorem d_L_main_1509 : decode code 1509 = .ok (.aload_n 0, 1) := by decide +kernel
theorem d_L_main_1510 : decode code 1510 = .ok (.iload 4, 2) := by decide +kernel
theorem d_L_main_1512 : decode code 1512 = .ok (.iconst 1, 1) := by decide +kernel
theorem d_L_main_1513 : decode code 1513 = .ok (.iadd, 1) := by decide +kernel
theorem d_L_main_1514 : decode code 1514 = .ok (.iaload, 1) := by decide +kernel
theorem d_L_main_1515 : decode code 1515 = .ok (.aload_n 0, 1) := by decide +kernel
theorem d_L_main_1516 : decode code 1516 = .ok (.iload 4, 2) := by decide +kernel
theorem d_L_main_1518 : decode code 1518 = .ok (.iconst 2, 1) := by decide +kernel
theorem d_L_main_1519 : decode code 1519 = .ok (.iadd, 1) := by decide +kernel
theorem d_L_main_1520 : decode code 1520 = .ok (.iaload, 1) := by decide +kernel
theorem d_L_main_1521 : decode code 1521 = .ok (.aload_n 0, 1) := by decide +kernel
theorem d_L_main_1522 : decode code 1522 = .ok (.iload 4, 2) := by decide +kernel
theorem d_L_main_1524 : decode code 1524 = .ok (.iconst 3, 1) := by decide +kernel
theorem d_L_main_1525 : decode code 1525 = .ok (.iadd, 1) := by decide +kernel
theorem d_L_main_1526 : decode code 1526 = .ok (.iaload, 1) := by decide +kernel
theorem d_L_main_1527 : decode code 1527 = .ok (.aload_n 0, 1) := by decide +kernel
theorem d_L_main_1528 : decode code 1528 = .ok (.iload 4, 2) := by decide +kernel
theorem d_L_main_1530 : decode code 1530 = .ok (.iconst 4, 1) := by decide +kernel
theorem d_L_main_1531 : decode code 1531 = .ok (.iadd, 1) := by decide +kernel
theorem d_L_main_1532 : decode code 1532 = .ok (.iaload, 1) := by decide +kernel
theorem d_L_main_1533 : decode code 1533 = .ok (.aload_n 0, 1) := by decide +kernel
theorem d_L_main_1534 : decode code 1534 = .ok (.iload 4, 2) := by decide +kernel
theorem d_L_main_1536 : decode code 1536 = .ok (.iconst 5, 1) := by decide +kernel
theorem d_L_main_1537 : decode code 1537 = .ok (.iadd, 1) := by decide +kernel
theorem d_L_main_1538 : decode code 1538 = .ok (.iaload, 1) := by decide +kernel
theorem d_L_main_1539 : decode code 1539 = .ok (.aload_n 0, 1) := by decide +kernel
theorem d_L_main_1540 : decode code 1540 = .ok (.iload 4, 2) := by decide +kernel
theorem d_L_main_1542 : decode code 1542 = .ok (.bipush 6, 2) := by decide +kernel
theorem d_L_main_1544 : decode code 1544 = .ok (.iadd, 1) := by decide +kernel
theorem d_L_main_1545 : decode code 1545 = .ok (.iaload, 1) := by decide +kernel
theorem d_L_main_1546 : decode code 1546 = .ok (.invokevirtual 194, 3) := by decide +kernel
theorem d_L_main_1549 : decode code 1549 = .ok (.lstore 6, 2) := by decide +kernel
theorem d_L_main_1551 : decode code 1551 = .ok (.aload_n 2, 1) := by decide +kernel
theorem d_L_main_1552 : decode code 1552 = .ok (.invokevirtual 121, 3) := by decide +kernel
theorem d_L_main_1555 : decode code 1555 = .ok (.iload 5, 2) := by decide +kernel
theorem d_L_main_1557 : decode code 1557 = .ok (.if_icmp .eq 5, 3) := by decide +kernel
theorem d_L_main_1560 : decode code 1560 = .ok (.iconst 0, 1) := by decide +kernel
theorem d_L_main_1561 : decode code 1561 = .ok (.ireturn, 1) := by decide +kernel
theorem d_L_main_1562 : decode code 1562 = .ok (.iload 5, 2) := by decide +kernel
theorem d_L_main_1564 : decode code 1564 = .ok (.ifCond .ne 14, 3) := by decide +kernel
theorem d_L_main_1567 : decode code 1567 = .ok (.aload_n 3, 1) := by decide +kernel
theorem d_L_main_1568 : decode code 1568 = .ok (.iconst 0, 1) := by decide +kernel
theorem d_L_main_1569 : decode code 1569 = .ok (.laload, 1) := by decide +kernel
theorem d_L_main_1570 : decode code 1570 = .ok (.lload 6, 2) := by decide +kernel
theorem d_L_main_1572 : decode code 1572 = .ok (.lcmp, 1) := by decide +kernel
theorem d_L_main_1573 : decode code 1573 = .ok (.ifCond .eq 5, 3) := by decide +kernel
theorem d_L_main_1576 : decode code 1576 = .ok (.iconst 0, 1) := by decide +kernel
theorem d_L_main_1577 : decode code 1577 = .ok (.ireturn, 1) := by decide +kernel
theorem d_L_main_1578 : decode code 1578 = .ok (.goto 839, 3) := by decide +kernel
theorem d_L_main_1581 : decode code 1581 = .ok (.aload_n 1, 1) := by decide +kernel
theorem d_L_main_1582 : decode code 1582 = .ok (.aload_n 0, 1) := by decide +kernel
theorem d_L_main_1583 : decode code 1583 = .ok (.iload 4, 2) := by decide +kernel
theorem d_L_main_1585 : decode code 1585 = .ok (.iconst 1, 1) := by decide +kernel
theorem d_L_main_1586 : decode code 1586 = .ok (.iadd, 1) := by decide +kernel
theorem d_L_main_1587 : decode code 1587 = .ok (.iaload, 1) := by decide +kernel
theorem d_L_main_1588 : decode code 1588 = .ok (.aload_n 3, 1) := by decide +kernel
theorem d_L_main_1589 : decode code 1589 = .ok (.invokestatic 195, 3) := by decide +kernel
theorem d_L_main_1592 : decode code 1592 = .ok (.istore 5, 2) := by decide +kernel
theorem d_L_main_1594 : decode code 1594 = .ok (.aload_n 2, 1) := by decide +kernel
theorem d_L_main_1595 : decode code 1595 = .ok (.aload_n 0, 1) := by decide +kernel
theorem d_L_main_1596 : decode code 1596 = .ok (.iload 4, 2) := by decide +kernel
theorem d_L_main_1598 : decode code 1598 = .ok (.iconst 1, 1) := by decide +kernel
theorem d_L_main_1599 : decode code 1599 = .ok (.iadd, 1) := by decide +kernel
theorem d_L_main_1600 : decode code 1600 = .ok (.iaload, 1) := by decide +kernel
theorem d_L_main_1601 : decode code 1601 = .ok (.invokevirtual 197, 3) := by decide +kernel
theorem d_L_main_1604 : decode code 1604 = .ok (.istore 6, 2) := by decide +kernel
theorem d_L_main_1606 : decode code 1606 = .ok (.aload_n 2, 1) := by decide +kernel
theorem d_L_main_1607 : decode code 1607 = .ok (.invokevirtual 121, 3) := by decide +kernel
theorem d_L_main_1610 : decode code 1610 = .ok (.iload 5, 2) := by decide +kernel
theorem d_L_main_1612 : decode code 1612 = .ok (.if_icmp .eq 5, 3) := by decide +kernel
theorem d_L_main_1615 : decode code 1615 = .ok (.iconst 0, 1) := by decide +kernel
theorem d_L_main_1616 : decode code 1616 = .ok (.ireturn, 1) := by decide +kernel
theorem d_L_main_1617 : decode code 1617 = .ok (.iload 5, 2) := by decide +kernel
theorem d_L_main_1619 : decode code 1619 = .ok (.ifCond .ne 15, 3) := by decide +kernel
theorem d_L_main_1622 : decode code 1622 = .ok (.aload_n 3, 1) := by decide +kernel
theorem d_L_main_1623 : decode code 1623 = .ok (.iconst 0, 1) := by decide +kernel
theorem d_L_main_1624 : decode code 1624 = .ok (.laload, 1) := by decide +kernel
theorem d_L_main_1625 : decode code 1625 = .ok (.iload 6, 2) := by decide +kernel
theorem d_L_main_1627 : decode code 1627 = .ok (.i2l, 1) := by decide +kernel
theorem d_L_main_1628 : decode code 1628 = .ok (.lcmp, 1) := by decide +kernel
theorem d_L_main_1629 : decode code 1629 = .ok (.ifCond .eq 5, 3) := by decide +kernel
theorem d_L_main_1632 : decode code 1632 = .ok (.iconst 0, 1) := by decide +kernel
theorem d_L_main_1633 : decode code 1633 = .ok (.ireturn, 1) := by decide +kernel
theorem d_L_main_1634 : decode code 1634 = .ok (.goto 783, 3) := by decide +kernel
theorem d_L_main_1637 : decode code 1637 = .ok (.aload_n 1, 1) := by decide +kernel
theorem d_L_main_1638 : decode code 1638 = .ok (.aload_n 0, 1) := by decide +kernel
theorem d_L_main_1639 : decode code 1639 = .ok (.iload 4, 2) := by decide +kernel
theorem d_L_main_1641 : decode code 1641 = .ok (.iconst 1, 1) := by decide +kernel
theorem d_L_main_1642 : decode code 1642 = .ok (.iadd, 1) := by decide +kernel
theorem d_L_main_1643 : decode code 1643 = .ok (.iaload, 1) := by decide +kernel
theorem d_L_main_1644 : decode code 1644 = .ok (.aload_n 0, 1) := by decide +kernel
theorem d_L_main_1645 : decode code 1645 = .ok (.iload 4, 2) := by decide +kernel
theorem d_L_main_1647 : decode code 1647 = .ok (.iconst 2, 1) := by decide +kernel
theorem d_L_main_1648 : decode code 1648 = .ok (.iadd, 1) := by decide +kernel
theorem d_L_main_1649 : decode code 1649 = .ok (.iaload, 1) := by decide +kernel
theorem d_L_main_1650 : decode code 1650 = .ok (.aload_n 3, 1) := by decide +kernel
theorem d_L_main_1651 : decode code 1651 = .ok (.invokestatic 198, 3) := by decide +kernel
theorem d_L_main_1654 : decode code 1654 = .ok (.istore 5, 2) := by decide +kernel
theorem d_L_main_1656 : decode code 1656 = .ok (.aload_n 2, 1) := by decide +kernel
theorem d_L_main_1657 : decode code 1657 = .ok (.aload_n 0, 1) := by decide +kernel
theorem d_L_main_1658 : decode code 1658 = .ok (.iload 4, 2) := by decide +kernel
theorem d_L_main_1660 : decode code 1660 = .ok (.iconst 1, 1) := by decide +kernel
theorem d_L_main_1661 : decode code 1661 = .ok (.iadd, 1) := by decide +kernel
theorem d_L_main_1662 : decode code 1662 = .ok (.iaload, 1) := by decide +kernel
theorem d_L_main_1663 : decode code 1663 = .ok (.aload_n 0, 1) := by decide +kernel
theorem d_L_main_1664 : decode code 1664 = .ok (.iload 4, 2) := by decide +kernel
theorem d_L_main_1666 : decode code 1666 = .ok (.iconst 2, 1) := by decide +kernel
theorem d_L_main_1667 : decode code 1667 = .ok (.iadd, 1) := by decide +kernel
theorem d_L_main_1668 : decode code 1668 = .ok (.iaload, 1) := by decide +kernel
theorem d_L_main_1669 : decode code 1669 = .ok (.invokevirtual 200, 3) := by decide +kernel
theorem d_L_main_1672 : decode code 1672 = .ok (.istore 6, 2) := by decide +kernel
theorem d_L_main_1674 : decode code 1674 = .ok (.aload_n 2, 1) := by decide +kernel
theorem d_L_main_1675 : decode code 1675 = .ok (.invokevirtual 121, 3) := by decide +kernel
theorem d_L_main_1678 : decode code 1678 = .ok (.iload 5, 2) := by decide +kernel
theorem d_L_main_1680 : decode code 1680 = .ok (.if_icmp .eq 5, 3) := by decide +kernel
theorem d_L_main_1683 : decode code 1683 = .ok (.iconst 0, 1) := by decide +kernel
theorem d_L_main_1684 : decode code 1684 = .ok (.ireturn, 1) := by decide +kernel
theorem d_L_main_1685 : decode code 1685 = .ok (.iload 5, 2) := by decide +kernel
theorem d_L_main_1687 : decode code 1687 = .ok (.ifCond .ne 15, 3) := by decide +kernel
theorem d_L_main_1690 : decode code 1690 = .ok (.aload_n 3, 1) := by decide +kernel
theorem d_L_main_1691 : decode code 1691 = .ok (.iconst 0, 1) := by decide +kernel
theorem d_L_main_1692 : decode code 1692 = .ok (.laload, 1) := by decide +kernel
theorem d_L_main_1693 : decode code 1693 = .ok (.iload 6, 2) := by decide +kernel
theorem d_L_main_1695 : decode code 1695 = .ok (.i2l, 1) := by decide +kernel
theorem d_L_main_1696 : decode code 1696 = .ok (.lcmp, 1) := by decide +kernel
theorem d_L_main_1697 : decode code 1697 = .ok (.ifCond .eq 5, 3) := by decide +kernel
theorem d_L_main_1700 : decode code 1700 = .ok (.iconst 0, 1) := by decide +kernel
theorem d_L_main_1701 : decode code 1701 = .ok (.ireturn, 1) := by decide +kernel
theorem d_L_main_1702 : decode code 1702 = .ok (.goto 715, 3) := by decide +kernel
theorem d_L_main_1705 : decode code 1705 = .ok (.aload_n 1, 1) := by decide +kernel
theorem d_L_main_1706 : decode code 1706 = .ok (.aload_n 0, 1) := by decide +kernel
theorem d_L_main_1707 : decode code 1707 = .ok (.iload 4, 2) := by decide +kernel
theorem d_L_main_1709 : decode code 1709 = .ok (.iconst 1, 1) := by decide +kernel
theorem d_L_main_1710 : decode code 1710 = .ok (.iadd, 1) := by decide +kernel
theorem d_L_main_1711 : decode code 1711 = .ok (.iaload, 1) := by decide +kernel
theorem d_L_main_1712 : decode code 1712 = .ok (.aload_n 3, 1) := by decide +kernel
theorem d_L_main_1713 : decode code 1713 = .ok (.invokestatic 201, 3) := by decide +kernel
theorem d_L_main_1716 : decode code 1716 = .ok (.istore 5, 2) := by decide +kernel
theorem d_L_main_1718 : decode code 1718 = .ok (.aload_n 2, 1) := by decide +kernel
theorem d_L_main_1719 : decode code 1719 = .ok (.aload_n 0, 1) := by decide +kernel
theorem d_L_main_1720 : decode code 1720 = .ok (.iload 4, 2) := by decide +kernel
theorem d_L_main_1722 : decode code 1722 = .ok (.iconst 1, 1) := by decide +kernel
theorem d_L_main_1723 : decode code 1723 = .ok (.iadd, 1) := by decide +kernel
theorem d_L_main_1724 : decode code 1724 = .ok (.iaload, 1) := by decide +kernel
theorem d_L_main_1725 : decode code 1725 = .ok (.invokevirtual 203, 3) := by decide +kernel
theorem d_L_main_1728 : decode code 1728 = .ok (.istore 6, 2) := by decide +kernel
theorem d_L_main_1730 : decode code 1730 = .ok (.aload_n 2, 1) := by decide +kernel
theorem d_L_main_1731 : decode code 1731 = .ok (.invokevirtual 121, 3) := by decide +kernel
theorem d_L_main_1734 : decode code 1734 = .ok (.iload 5, 2) := by decide +kernel
theorem d_L_main_1736 : decode code 1736 = .ok (.if_icmp .eq 5, 3) := by decide +kernel
theorem d_L_main_1739 : decode code 1739 = .ok (.iconst 0, 1) := by decide +kernel
theorem d_L_main_1740 : decode code 1740 = .ok (.ireturn, 1) := by decide +kernel
theorem d_L_main_1741 : decode code 1741 = .ok (.iload 5, 2) := by decide +kernel
theorem d_L_main_1743 : decode code 1743 = .ok (.ifCond .ne 15, 3) := by decide +kernel
theorem d_L_main_1746 : decode code 1746 = .ok (.aload_n 3, 1) := by decide +kernel
theorem d_L_main_1747 : decode code 1747 = .ok (.iconst 0, 1) := by decide +kernel
theorem d_L_main_1748 : decode code 1748 = .ok (.laload, 1) := by decide +kernel
theorem d_L_main_1749 : decode code 1749 = .ok (.iload 6, 2) := by decide +kernel
theorem d_L_main_1751 : decode code 1751 = .ok (.i2l, 1) := by decide +kernel
theorem d_L_main_1752 : decode code 1752 = .ok (.lcmp, 1) := by decide +kernel
theorem d_L_main_1753 : decode code 1753 = .ok (.ifCond .eq 5, 3) := by decide +kernel
theorem d_L_main_1756 : decode code 1756 = .ok (.iconst 0, 1) := by decide +kernel
theorem d_L_main_1757 : decode code 1757 = .ok (.ireturn, 1) := by decide +kernel
theorem d_L_main_1758 : decode code 1758 = .ok (.goto 659, 3) := by decide +kernel
theorem d_L_main_1761 : decode code 1761 = .ok (.aload_n 1, 1) := by decide +kernel
theorem d_L_main_1762 : decode code 1762 = .ok (.aload_n 0, 1) := by decide +kernel
theorem d_L_main_1763 : decode code 1763 = .ok (.iload 4, 2) := by decide +kernel
theorem d_L_main_1765 : decode code 1765 = .ok (.iconst 1, 1) := by decide +kernel
theorem d_L_main_1766 : decode code 1766 = .ok (.iadd, 1) := by decide +kernel
theorem d_L_main_1767 : decode code 1767 = .ok (.iaload, 1) := by decide +kernel
theorem d_L_main_1768 : decode code 1768 = .ok (.aload_n 0, 1) := by decide +kernel
theorem d_L_main_1769 : decode code 1769 = .ok (.iload 4, 2) := by decide +kernel
theorem d_L_main_1771 : decode code 1771 = .ok (.iconst 2, 1) := by decide +kernel
theorem d_L_main_1772 : decode code 1772 = .ok (.iadd, 1) := by decide +kernel
theorem d_L_main_1773 : decode code 1773 = .ok (.iaload, 1) := by decide +kernel
theorem d_L_main_1774 : decode code 1774 = .ok (.aload_n 3, 1) := by decide +kernel
theorem d_L_main_1775 : decode code 1775 = .ok (.invokestatic 204, 3) := by decide +kernel
theorem d_L_main_1778 : decode code 1778 = .ok (.istore 5, 2) := by decide +kernel
theorem d_L_main_1780 : decode code 1780 = .ok (.aload_n 2, 1) := by decide +kernel
theorem d_L_main_1781 : decode code 1781 = .ok (.aload_n 0, 1) := by decide +kernel
theorem d_L_main_1782 : decode code 1782 = .ok (.iload 4, 2) := by decide +kernel
theorem d_L_main_1784 : decode code 1784 = .ok (.iconst 1, 1) := by decide +kernel
theorem d_L_main_1785 : decode code 1785 = .ok (.iadd, 1) := by decide +kernel
theorem d_L_main_1786 : decode code 1786 = .ok (.iaload, 1) := by decide +kernel
theorem d_L_main_1787 : decode code 1787 = .ok (.aload_n 0, 1) := by decide +kernel
theorem d_L_main_1788 : decode code 1788 = .ok (.iload 4, 2) := by decide +kernel
theorem d_L_main_1790 : decode code 1790 = .ok (.iconst 2, 1) := by decide +kernel
theorem d_L_main_1791 : decode code 1791 = .ok (.iadd, 1) := by decide +kernel
theorem d_L_main_1792 : decode code 1792 = .ok (.iaload, 1) := by decide +kernel
theorem d_L_main_1793 : decode code 1793 = .ok (.invokevirtual 206, 3) := by decide +kernel
theorem d_L_main_1796 : decode code 1796 = .ok (.istore 6, 2) := by decide +kernel
theorem d_L_main_1798 : decode code 1798 = .ok (.aload_n 2, 1) := by decide +kernel
theorem d_L_main_1799 : decode code 1799 = .ok (.invokevirtual 121, 3) := by decide +kernel
theorem d_L_main_1802 : decode code 1802 = .ok (.iload 5, 2) := by decide +kernel
theorem d_L_main_1804 : decode code 1804 = .ok (.if_icmp .eq 5, 3) := by decide +kernel
theorem d_L_main_1807 : decode code 1807 = .ok (.iconst 0, 1) := by decide +kernel
theorem d_L_main_1808 : decode code 1808 = .ok (.ireturn, 1) := by decide +kernel
theorem d_L_main_1809 : decode code 1809 = .ok (.iload 5, 2) := by decide +kernel
theorem d_L_main_1811 : decode code 1811 = .ok (.ifCond .ne 15, 3) := by decide +kernel
theorem d_L_main_1814 : decode code 1814 = .ok (.aload_n 3, 1) := by decide +kernel
theorem d_L_main_1815 : decode code 1815 = .ok (.iconst 0, 1) := by decide +kernel
theorem d_L_main_1816 : decode code 1816 = .ok (.laload, 1) := by decide +kernel
theorem d_L_main_1817 : decode code 1817 = .ok (.iload 6, 2) := by decide +kernel
theorem d_L_main_1819 : decode code 1819 = .ok (.i2l, 1) := by decide +kernel
theorem d_L_main_1820 : decode code 1820 = .ok (.lcmp, 1) := by decide +kernel
theorem d_L_main_1821 : decode code 1821 = .ok (.ifCond .eq 5, 3) := by decide +kernel
theorem d_L_main_1824 : decode code 1824 = .ok (.iconst 0, 1) := by decide +kernel
theorem d_L_main_1825 : decode code 1825 = .ok (.ireturn, 1) := by decide +kernel
theorem d_L_main_1826 : decode code 1826 = .ok (.goto 591, 3) := by decide +kernel
theorem d_L_main_1829 : decode code 1829 = .ok (.aload_n 1, 1) := by decide +kernel
theorem d_L_main_1830 : decode code 1830 = .ok (.aload_n 0, 1) := by decide +kernel
theorem d_L_main_1831 : decode code 1831 = .ok (.iload 4, 2) := by decide +kernel
theorem d_L_main_1833 : decode code 1833 = .ok (.iconst 1, 1) := by decide +kernel
theorem d_L_main_1834 : decode code 1834 = .ok (.iadd, 1) := by decide +kernel
theorem d_L_main_1835 : decode code 1835 = .ok (.iaload, 1) := by decide +kernel
theorem d_L_main_1836 : decode code 1836 = .ok (.aload_n 0, 1) := by decide +kernel
theorem d_L_main_1837 : decode code 1837 = .ok (.iload 4, 2) := by decide +kernel
theorem d_L_main_1839 : decode code 1839 = .ok (.iconst 2, 1) := by decide +kernel
theorem d_L_main_1840 : decode code 1840 = .ok (.iadd, 1) := by decide +kernel
theorem d_L_main_1841 : decode code 1841 = .ok (.iaload, 1) := by decide +kernel
theorem d_L_main_1842 : decode code 1842 = .ok (.aload_n 0, 1) := by decide +kernel
theorem d_L_main_1843 : decode code 1843 = .ok (.iload 4, 2) := by decide +kernel
theorem d_L_main_1845 : decode code 1845 = .ok (.iconst 3, 1) := by decide +kernel
theorem d_L_main_1846 : decode code 1846 = .ok (.iadd, 1) := by decide +kernel
theorem d_L_main_1847 : decode code 1847 = .ok (.iaload, 1) := by decide +kernel
theorem d_L_main_1848 : decode code 1848 = .ok (.aload_n 3, 1) := by decide +kernel
theorem d_L_main_1849 : decode code 1849 = .ok (.invokestatic 207, 3) := by decide +kernel
theorem d_L_main_1852 : decode code 1852 = .ok (.istore 5, 2) := by decide +kernel
theorem d_L_main_1854 : decode code 1854 = .ok (.aload_n 2, 1) := by decide +kernel
theorem d_L_main_1855 : decode code 1855 = .ok (.aload_n 0, 1) := by decide +kernel
theorem d_L_main_1856 : decode code 1856 = .ok (.iload 4, 2) := by decide +kernel
theorem d_L_main_1858 : decode code 1858 = .ok (.iconst 1, 1) := by decide +kernel
theorem d_L_main_1859 : decode code 1859 = .ok (.iadd, 1) := by decide +kernel
theorem d_L_main_1860 : decode code 1860 = .ok (.iaload, 1) := by decide +kernel
theorem d_L_main_1861 : decode code 1861 = .ok (.aload_n 0, 1) := by decide +kernel
theorem d_L_main_1862 : decode code 1862 = .ok (.iload 4, 2) := by decide +kernel
theorem d_L_main_1864 : decode code 1864 = .ok (.iconst 2, 1) := by decide +kernel
theorem d_L_main_1865 : decode code 1865 = .ok (.iadd, 1) := by decide +kernel
theorem d_L_main_1866 : decode code 1866 = .ok (.iaload, 1) := by decide +kernel
theorem d_L_main_1867 : decode code 1867 = .ok (.aload_n 0, 1) := by decide +kernel
theorem d_L_main_1868 : decode code 1868 = .ok (.iload 4, 2) := by decide +kernel
theorem d_L_main_1870 : decode code 1870 = .ok (.iconst 3, 1) := by decide +kernel
theorem d_L_main_1871 : decode code 1871 = .ok (.iadd, 1) := by decide +kernel
theorem d_L_main_1872 : decode code 1872 = .ok (.iaload, 1) := by decide +kernel
theorem d_L_main_1873 : decode code 1873 = .ok (.invokevirtual 210, 3) := by decide +kernel
theorem d_L_main_1876 : decode code 1876 = .ok (.istore 6, 2) := by decide +kernel
theorem d_L_main_1878 : decode code 1878 = .ok (.aload_n 2, 1) := by decide +kernel
theorem d_L_main_1879 : decode code 1879 = .ok (.invokevirtual 121, 3) := by decide +kernel
theorem d_L_main_1882 : decode code 1882 = .ok (.iload 5, 2) := by decide +kernel
theorem d_L_main_1884 : decode code 1884 = .ok (.if_icmp .eq 5, 3) := by decide +kernel
theorem d_L_main_1887 : decode code 1887 = .ok (.iconst 0, 1) := by decide +kernel
theorem d_L_main_1888 : decode code 1888 = .ok (.ireturn, 1) := by decide +kernel
theorem d_L_main_1889 : decode code 1889 = .ok (.iload 5, 2) := by decide +kernel
theorem d_L_main_1891 : decode code 1891 = .ok (.ifCond .ne 15, 3) := by decide +kernel
theorem d_L_main_1894 : decode code 1894 = .ok (.aload_n 3, 1) := by decide +kernel
theorem d_L_main_1895 : decode code 1895 = .ok (.iconst 0, 1) := by decide +kernel
theorem d_L_main_1896 : decode code 1896 = .ok (.laload, 1) := by decide +kernel
theorem d_L_main_1897 : decode code 1897 = .ok (.iload 6, 2) := by decide +kernel
theorem d_L_main_1899 : decode code 1899 = .ok (.i2l, 1) := by decide +kernel
theorem d_L_main_1900 : decode code 1900 = .ok (.lcmp, 1) := by decide +kernel
theorem d_L_main_1901 : decode code 1901 = .ok (.ifCond .eq 5, 3) := by decide +kernel
theorem d_L_main_1904 : decode code 1904 = .ok (.iconst 0, 1) := by decide +kernel
theorem d_L_main_1905 : decode code 1905 = .ok (.ireturn, 1) := by decide +kernel
theorem d_L_main_1906 : decode code 1906 = .ok (.goto 511, 3) := by decide +kernel
theorem d_L_main_1909 : decode code 1909 = .ok (.aload_n 1, 1) := by decide +kernel
theorem d_L_main_1910 : decode code 1910 = .ok (.aload_n 0, 1) := by decide +kernel
theorem d_L_main_1911 : decode code 1911 = .ok (.iload 4, 2) := by decide +kernel
theorem d_L_main_1913 : decode code 1913 = .ok (.iconst 1, 1) := by decide +kernel
theorem d_L_main_1914 : decode code 1914 = .ok (.iadd, 1) := by decide +kernel
theorem d_L_main_1915 : decode code 1915 = .ok (.iaload, 1) := by decide +kernel
theorem d_L_main_1916 : decode code 1916 = .ok (.aload_n 3, 1) := by decide +kernel
theorem d_L_main_1917 : decode code 1917 = .ok (.invokestatic 211, 3) := by decide +kernel
theorem d_L_main_1920 : decode code 1920 = .ok (.istore 5, 2) := by decide +kernel
theorem d_L_main_1922 : decode code 1922 = .ok (.aload_n 2, 1) := by decide +kernel
theorem d_L_main_1923 : decode code 1923 = .ok (.aload_n 0, 1) := by decide +kernel
theorem d_L_main_1924 : decode code 1924 = .ok (.iload 4, 2) := by decide +kernel
theorem d_L_main_1926 : decode code 1926 = .ok (.iconst 1, 1) := by decide +kernel
theorem d_L_main_1927 : decode code 1927 = .ok (.iadd, 1) := by decide +kernel
theorem d_L_main_1928 : decode code 1928 = .ok (.iaload, 1) := by decide +kernel
theorem d_L_main_1929 : decode code 1929 = .ok (.invokevirtual 213, 3) := by decide +kernel
theorem d_L_main_1932 : decode code 1932 = .ok (.istore 6, 2) := by decide +kernel
theorem d_L_main_1934 : decode code 1934 = .ok (.aload_n 2, 1) := by decide +kernel
theorem d_L_main_1935 : decode code 1935 = .ok (.invokevirtual 121, 3) := by decide +kernel
theorem d_L_main_1938 : decode code 1938 = .ok (.iload 5, 2) := by decide +kernel
theorem d_L_main_1940 : decode code 1940 = .ok (.if_icmp .eq 5, 3) := by decide +kernel
theorem d_L_main_1943 : decode code 1943 = .ok (.iconst 0, 1) := by decide +kernel
theorem d_L_main_1944 : decode code 1944 = .ok (.ireturn, 1) := by decide +kernel
theorem d_L_main_1945 : decode code 1945 = .ok (.iload 5, 2) := by decide +kernel
theorem d_L_main_1947 : decode code 1947 = .ok (.ifCond .ne 15, 3) := by decide +kernel
theorem d_L_main_1950 : decode code 1950 = .ok (.aload_n 3, 1) := by decide +kernel
theorem d_L_main_1951 : decode code 1951 = .ok (.iconst 0, 1) := by decide +kernel
theorem d_L_main_1952 : decode code 1952 = .ok (.laload, 1) := by decide +kernel
theorem d_L_main_1953 : decode code 1953 = .ok (.iload 6, 2) := by decide +kernel
theorem d_L_main_1955 : decode code 1955 = .ok (.i2l, 1) := by decide +kernel
theorem d_L_main_1956 : decode code 1956 = .ok (.lcmp, 1) := by decide +kernel
theorem d_L_main_1957 : decode code 1957 = .ok (.ifCond .eq 5, 3) := by decide +kernel
theorem d_L_main_1960 : decode code 1960 = .ok (.iconst 0, 1) := by decide +kernel
theorem d_L_main_1961 : decode code 1961 = .ok (.ireturn, 1) := by decide +kernel
theorem d_L_main_1962 : decode code 1962 = .ok (.goto 455, 3) := by decide +kernel
theorem d_L_main_1965 : decode code 1965 = .ok (.aload_n 1, 1) := by decide +kernel
theorem d_L_main_1966 : decode code 1966 = .ok (.aload_n 0, 1) := by decide +kernel
theorem d_L_main_1967 : decode code 1967 = .ok (.iload 4, 2) := by decide +kernel
theorem d_L_main_1969 : decode code 1969 = .ok (.iconst 1, 1) := by decide +kernel
theorem d_L_main_1970 : decode code 1970 = .ok (.iadd, 1) := by decide +kernel
theorem d_L_main_1971 : decode code 1971 = .ok (.iaload, 1) := by decide +kernel
theorem d_L_main_1972 : decode code 1972 = .ok (.aload_n 3, 1) := by decide +kernel
theorem d_L_main_1973 : decode code 1973 = .ok (.invokestatic 214, 3) := by decide +kernel
theorem d_L_main_1976 : decode code 1976 = .ok (.istore 5, 2) := by decide +kernel
theorem d_L_main_1978 : decode code 1978 = .ok (.aload_n 2, 1) := by decide +kernel
theorem d_L_main_1979 : decode code 1979 = .ok (.aload_n 0, 1) := by decide +kernel
theorem d_L_main_1980 : decode code 1980 = .ok (.iload 4, 2) := by decide +kernel
theorem d_L_main_1982 : decode code 1982 = .ok (.iconst 1, 1) := by decide +kernel
theorem d_L_main_1983 : decode code 1983 = .ok (.iadd, 1) := by decide +kernel
theorem d_L_main_1984 : decode code 1984 = .ok (.iaload, 1) := by decide +kernel
theorem d_L_main_1985 : decode code 1985 = .ok (.invokevirtual 216, 3) := by decide +kernel
theorem d_L_main_1988 : decode code 1988 = .ok (.istore 6, 2) := by decide +kernel
theorem d_L_main_1990 : decode code 1990 = .ok (.aload_n 2, 1) := by decide +kernel
theorem d_L_main_1991 : decode code 1991 = .ok (.invokevirtual 121, 3) := by decide +kernel
theorem d_L_main_1994 : decode code 1994 = .ok (.iload 5, 2) := by decide +kernel
theorem d_L_main_1996 : decode code 1996 = .ok (.if_icmp .eq 5, 3) := by decide +kernel
theorem d_L_main_1999 : decode code 1999 = .ok (.iconst 0, 1) := by decide +kernel
theorem d_L_main_2000 : decode code 2000 = .ok (.ireturn, 1) := by decide +kernel
theorem d_L_main_2001 : decode code 2001 = .ok (.iload 5, 2) := by decide +kernel
theorem d_L_main_2003 : decode code 2003 = .ok (.ifCond .ne 15, 3) := by decide +kernel
theorem d_L_main_2006 : decode code 2006 = .ok (.aload_n 3, 1) := by decide +kernel
theorem d_L_main_2007 : decode code 2007 = .ok (.iconst 0, 1) := by decide +kernel
theorem d_L_main_2008 : decode code 2008 = .ok (.laload, 1) := by decide +kernel
theorem d_L_main_2009 : decode code 2009 = .ok (.iload 6, 2) := by decide +kernel
theorem d_L_main_2011 : decode code 2011 = .ok (.i2l, 1) := by decide +kernel
theorem d_L_main_2012 : decode code 2012 = .ok (.lcmp, 1) := by decide +kernel
theorem d_L_main_2013 : decode code 2013 = .ok (.ifCond .eq 5, 3) := by decide +kernel
theorem d_L_main_2016 : decode code 2016 = .ok (.iconst 0, 1) := by decide +kernel
theorem d_L_main_2017 : decode code 2017 = .ok (.ireturn, 1) := by decide +kernel
theorem d_L_main_2018 : decode code 2018 = .ok (.goto 399, 3) := by decide +kernel
theorem d_L_main_2021 : decode code 2021 = .ok (.aload_n 1, 1) := by decide +kernel
theorem d_L_main_2022 : decode code 2022 = .ok (.aload_n 0, 1) := by decide +kernel
theorem d_L_main_2023 : decode code 2023 = .ok (.iload 4, 2) := by decide +kernel
theorem d_L_main_2025 : decode code 2025 = .ok (.iconst 1, 1) := by decide +kernel
theorem d_L_main_2026 : decode code 2026 = .ok (.iadd, 1) := by decide +kernel
theorem d_L_main_2027 : decode code 2027 = .ok (.iaload, 1) := by decide +kernel
theorem d_L_main_2028 : decode code 2028 = .ok (.aload_n 3, 1) := by decide +kernel
theorem d_L_main_2029 : decode code 2029 = .ok (.invokestatic 217, 3) := by decide +kernel
theorem d_L_main_2032 : decode code 2032 = .ok (.istore 5, 2) := by decide +kernel
theorem d_L_main_2034 : decode code 2034 = .ok (.aload_n 2, 1) := by decide +kernel
theorem d_L_main_2035 : decode code 2035 = .ok (.aload_n 0, 1) := by decide +kernel
theorem d_L_main_2036 : decode code 2036 = .ok (.iload 4, 2) := by decide +kernel
theorem d_L_main_2038 : decode code 2038 = .ok (.iconst 1, 1) := by decide +kernel
theorem d_L_main_2039 : decode code 2039 = .ok (.iadd, 1) := by decide +kernel
theorem d_L_main_2040 : decode code 2040 = .ok (.iaload, 1) := by decide +kernel
theorem d_L_main_2041 : decode code 2041 = .ok (.invokevirtual 219, 3) := by decide +kernel
theorem d_L_main_2044 : decode code 2044 = .ok (.istore 6, 2) := by decide +kernel
theorem d_L_main_2046 : decode code 2046 = .ok (.aload_n 2, 1) := by decide +kernel
theorem d_L_main_2047 : decode code 2047 = .ok (.invokevirtual 121, 3) := by decide +kernel
theorem d_L_main_2050 : decode code 2050 = .ok (.iload 5, 2) := by decide +kernel
theorem d_L_main_2052 : decode code 2052 = .ok (.if_icmp .eq 5, 3) := by decide +kernel
theorem d_L_main_2055 : decode code 2055 = .ok (.iconst 0, 1) := by decide +kernel
theorem d_L_main_2056 : decode code 2056 = .ok (.ireturn, 1) := by decide +kernel
theorem d_L_main_2057 : decode code 2057 = .ok (.iload 5, 2) := by decide +kernel
theorem d_L_main_2059 : decode code 2059 = .ok (.ifCond .ne 15, 3) := by decide +kernel
theorem d_L_main_2062 : decode code 2062 = .ok (.aload_n 3, 1) := by decide +kernel
theorem d_L_main_2063 : decode code 2063 = .ok (.iconst 0, 1) := by decide +kernel
theorem d_L_main_2064 : decode code 2064 = .ok (.laload, 1) := by decide +kernel
theorem d_L_main_2065 : decode code 2065 = .ok (.iload 6, 2) := by decide +kernel
theorem d_L_main_2067 : decode code 2067 = .ok (.i2l, 1) := by decide +kernel
theorem d_L_main_2068 : decode code 2068 = .ok (.lcmp, 1) := by decide +kernel
theorem d_L_main_2069 : decode code 2069 = .ok (.ifCond .eq 5, 3) := by decide +kernel
theorem d_L_main_2072 : decode code 2072 = .ok (.iconst 0, 1) := by decide +kernel
theorem d_L_main_2073 : decode code 2073 = .ok (.ireturn, 1) := by decide +kernel
theorem d_L_main_2074 : decode code 2074 = .ok (.goto 343, 3) := by decide +kernel
theorem d_L_main_2077 : decode code 2077 = .ok (.aload_n 1, 1) := by decide +kernel
theorem d_L_main_2078 : decode code 2078 = .ok (.aload_n 0, 1) := by decide +kernel
theorem d_L_main_2079 : decode code 2079 = .ok (.iload 4, 2) := by decide +kernel
theorem d_L_main_2081 : decode code 2081 = .ok (.iconst 1, 1) := by decide +kernel
theorem d_L_main_2082 : decode code 2082 = .ok (.iadd, 1) := by decide +kernel
theorem d_L_main_2083 : decode code 2083 = .ok (.iaload, 1) := by decide +kernel
theorem d_L_main_2084 : decode code 2084 = .ok (.aload_n 0, 1) := by decide +kernel
theorem d_L_main_2085 : decode code 2085 = .ok (.iload 4, 2) := by decide +kernel
theorem d_L_main_2087 : decode code 2087 = .ok (.iconst 2, 1) := by decide +kernel
theorem d_L_main_2088 : decode code 2088 = .ok (.iadd, 1) := by decide +kernel
theorem d_L_main_2089 : decode code 2089 = .ok (.iaload, 1) := by decide +kernel
theorem d_L_main_2090 : decode code 2090 = .ok (.aload_n 3, 1) := by decide +kernel
theorem d_L_main_2091 : decode code 2091 = .ok (.invokestatic 220, 3) := by decide +kernel
theorem d_L_main_2094 : decode code 2094 = .ok (.istore 5, 2) := by decide +kernel
theorem d_L_main_2096 : decode code 2096 = .ok (.aload_n 2, 1) := by decide +kernel
theorem d_L_main_2097 : decode code 2097 = .ok (.aload_n 0, 1) := by decide +kernel
theorem d_L_main_2098 : decode code 2098 = .ok (.iload 4, 2) := by decide +kernel
theorem d_L_main_2100 : decode code 2100 = .ok (.iconst 1, 1) := by decide +kernel
theorem d_L_main_2101 : decode code 2101 = .ok (.iadd, 1) := by decide +kernel
theorem d_L_main_2102 : decode code 2102 = .ok (.iaload, 1) := by decide +kernel
theorem d_L_main_2103 : decode code 2103 = .ok (.aload_n 0, 1) := by decide +kernel
theorem d_L_main_2104 : decode code 2104 = .ok (.iload 4, 2) := by decide +kernel
theorem d_L_main_2106 : decode code 2106 = .ok (.iconst 2, 1) := by decide +kernel
theorem d_L_main_2107 : decode code 2107 = .ok (.iadd, 1) := by decide +kernel
theorem d_L_main_2108 : decode code 2108 = .ok (.iaload, 1) := by decide +kernel
theorem d_L_main_2109 : decode code 2109 = .ok (.invokevirtual 222, 3) := by decide +kernel
theorem d_L_main_2112 : decode code 2112 = .ok (.istore 6, 2) := by decide +kernel
theorem d_L_main_2114 : decode code 2114 = .ok (.aload_n 2, 1) := by decide +kernel
theorem d_L_main_2115 : decode code 2115 = .ok (.invokevirtual 121, 3) := by decide +kernel
theorem d_L_main_2118 : decode code 2118 = .ok (.iload 5, 2) := by decide +kernel
theorem d_L_main_2120 : decode code 2120 = .ok (.if_icmp .eq 5, 3) := by decide +kernel
theorem d_L_main_2123 : decode code 2123 = .ok (.iconst 0, 1) := by decide +kernel
theorem d_L_main_2124 : decode code 2124 = .ok (.ireturn, 1) := by decide +kernel
theorem d_L_main_2125 : decode code 2125 = .ok (.iload 5, 2) := by decide +kernel
theorem d_L_main_2127 : decode code 2127 = .ok (.ifCond .ne 15, 3) := by decide +kernel
theorem d_L_main_2130 : decode code 2130 = .ok (.aload_n 3, 1) := by decide +kernel
theorem d_L_main_2131 : decode code 2131 = .ok (.iconst 0, 1) := by decide +kernel
theorem d_L_main_2132 : decode code 2132 = .ok (.laload, 1) := by decide +kernel
theorem d_L_main_2133 : decode code 2133 = .ok (.iload 6, 2) := by decide +kernel
theorem d_L_main_2135 : decode code 2135 = .ok (.i2l, 1) := by decide +kernel
theorem d_L_main_2136 : decode code 2136 = .ok (.lcmp, 1) := by decide +kernel
theorem d_L_main_2137 : decode code 2137 = .ok (.ifCond .eq 5, 3) := by decide +kernel
theorem d_L_main_2140 : decode code 2140 = .ok (.iconst 0, 1) := by decide +kernel
theorem d_L_main_2141 : decode code 2141 = .ok (.ireturn, 1) := by decide +kernel
theorem d_L_main_2142 : decode code 2142 = .ok (.goto 275, 3) := by decide +kernel
theorem d_L_main_2145 : decode code 2145 = .ok (.aload_n 1, 1) := by decide +kernel
theorem d_L_main_2146 : decode code 2146 = .ok (.aload_n 0, 1) := by decide +kernel
theorem d_L_main_2147 : decode code 2147 = .ok (.iload 4, 2) := by decide +kernel
theorem d_L_main_2149 : decode code 2149 = .ok (.iconst 1, 1) := by decide +kernel
theorem d_L_main_2150 : decode code 2150 = .ok (.iadd, 1) := by decide +kernel
theorem d_L_main_2151 : decode code 2151 = .ok (.iaload, 1) := by decide +kernel
theorem d_L_main_2152 : decode code 2152 = .ok (.aload_n 0, 1) := by decide +kernel
theorem d_L_main_2153 : decode code 2153 = .ok (.iload 4, 2) := by decide +kernel
theorem d_L_main_2155 : decode code 2155 = .ok (.iconst 2, 1) := by decide +kernel
theorem d_L_main_2156 : decode code 2156 = .ok (.iadd, 1) := by decide +kernel
theorem d_L_main_2157 : decode code 2157 = .ok (.iaload, 1) := by decide +kernel
theorem d_L_main_2158 : decode code 2158 = .ok (.aload_n 0, 1) := by decide +kernel
theorem d_L_main_2159 : decode code 2159 = .ok (.iload 4, 2) := by decide +kernel
theorem d_L_main_2161 : decode code 2161 = .ok (.iconst 3, 1) := by decide +kernel
theorem d_L_main_2162 : decode code 2162 = .ok (.iadd, 1) := by decide +kernel
theorem d_L_main_2163 : decode code 2163 = .ok (.iaload, 1) := by decide +kernel
theorem d_L_main_2164 : decode code 2164 = .ok (.aload_n 0, 1) := by decide +kernel
theorem d_L_main_2165 : decode code 2165 = .ok (.iload 4, 2) := by decide +kernel
theorem d_L_main_2167 : decode code 2167 = .ok (.iconst 4, 1) := by decide +kernel
theorem d_L_main_2168 : decode code 2168 = .ok (.iadd, 1) := by decide +kernel
theorem d_L_main_2169 : decode code 2169 = .ok (.iaload, 1) := by decide +kernel
theorem d_L_main_2170 : decode code 2170 = .ok (.aload_n 3, 1) := by decide +kernel
theorem d_L_main_2171 : decode code 2171 = .ok (.invokestatic 223, 3) := by decide +kernel
theorem d_L_main_2174 : decode code 2174 = .ok (.istore 5, 2) := by decide +kernel
theorem d_L_main_2176 : decode code 2176 = .ok (.aload_n 2, 1) := by decide +kernel
theorem d_L_main_2177 : decode code 2177 = .ok (.aload_n 0, 1) := by decide +kernel
theorem d_L_main_2178 : decode code 2178 = .ok (.iload 4, 2) := by decide +kernel
theorem d_L_main_2180 : decode code 2180 = .ok (.iconst 1, 1) := by decide +kernel
theorem d_L_main_2181 : decode code 2181 = .ok (.iadd, 1) := by decide +kernel
theorem d_L_main_2182 : decode code 2182 = .ok (.iaload, 1) := by decide +kernel
theorem d_L_main_2183 : decode code 2183 = .ok (.aload_n 0, 1) := by decide +kernel
theorem d_L_main_2184 : decode code 2184 = .ok (.iload 4, 2) := by decide +kernel
theorem d_L_main_2186 : decode code 2186 = .ok (.iconst 2, 1) := by decide +kernel
theorem d_L_main_2187 : decode code 2187 = .ok (.iadd, 1) := by decide +kernel
theorem d_L_main_2188 : decode code 2188 = .ok (.iaload, 1) := by decide +kernel
theorem d_L_main_2189 : decode code 2189 = .ok (.aload_n 0, 1) := by decide +kernel
theorem d_L_main_2190 : decode code 2190 = .ok (.iload 4, 2) := by decide +kernel
theorem d_L_main_2192 : decode code 2192 = .ok (.iconst 3, 1) := by decide +kernel
theorem d_L_main_2193 : decode code 2193 = .ok (.iadd, 1) := by decide +kernel
theorem d_L_main_2194 : decode code 2194 = .ok (.iaload, 1) := by decide +kernel
theorem d_L_main_2195 : decode code 2195 = .ok (.aload_n 0, 1) := by decide +kernel
theorem d_L_main_2196 : decode code 2196 = .ok (.iload 4, 2) := by decide +kernel
theorem d_L_main_2198 : decode code 2198 = .ok (.iconst 4, 1) := by decide +kernel
theorem d_L_main_2199 : decode code 2199 = .ok (.iadd, 1) := by decide +kernel
theorem d_L_main_2200 : decode code 2200 = .ok (.iaload, 1) := by decide +kernel
theorem d_L_main_2201 : decode code 2201 = .ok (.invokevirtual 226, 3) := by decide +kernel
theorem d_L_main_2204 : decode code 2204 = .ok (.istore 6, 2) := by decide +kernel
theorem d_L_main_2206 : decode code 2206 = .ok (.aload_n 2, 1) := by decide +kernel
theorem d_L_main_2207 : decode code 2207 = .ok (.invokevirtual 121, 3) := by decide +kernel
theorem d_L_main_2210 : decode code 2210 = .ok (.iload 5, 2) := by decide +kernel
theorem d_L_main_2212 : decode code 2212 = .ok (.if_icmp .eq 5, 3) := by decide +kernel
theorem d_L_main_2215 : decode code 2215 = .ok (.iconst 0, 1) := by decide +kernel
theorem d_L_main_2216 : decode code 2216 = .ok (.ireturn, 1) := by decide +kernel
theorem d_L_main_2217 : decode code 2217 = .ok (.iload 5, 2) := by decide +kernel
theorem d_L_main_2219 : decode code 2219 = .ok (.ifCond .ne 15, 3) := by decide +kernel
theorem d_L_main_2222 : decode code 2222 = .ok (.aload_n 3, 1) := by decide +kernel
theorem d_L_main_2223 : decode code 2223 = .ok (.iconst 0, 1) := by decide +kernel
theorem d_L_main_2224 : decode code 2224 = .ok (.laload, 1) := by decide +kernel
theorem d_L_main_2225 : decode code 2225 = .ok (.iload 6, 2) := by decide +kernel
theorem d_L_main_2227 : decode code 2227 = .ok (.i2l, 1) := by decide +kernel
theorem d_L_main_2228 : decode code 2228 = .ok (.lcmp, 1) := by decide +kernel
theorem d_L_main_2229 : decode code 2229 = .ok (.ifCond .eq 5, 3) := by decide +kernel
theorem d_L_main_2232 : decode code 2232 = .ok (.iconst 0, 1) := by decide +kernel
theorem d_L_main_2233 : decode code 2233 = .ok (.ireturn, 1) := by decide +kernel
theorem d_L_main_2234 : decode code 2234 = .ok (.goto 183, 3) := by decide +kernel
theorem d_L_main_2237 : decode code 2237 = .ok (.aload_n 1, 1) := by decide +kernel
theorem d_L_main_2238 : decode code 2238 = .ok (.aload_n 0, 1) := by decide +kernel
theorem d_L_main_2239 : decode code 2239 = .ok (.iload 4, 2) := by decide +kernel
theorem d_L_main_2241 : decode code 2241 = .ok (.iconst 1, 1) := by decide +kernel
theorem d_L_main_2242 : decode code 2242 = .ok (.iadd, 1) := by decide +kernel
theorem d_L_main_2243 : decode code 2243 = .ok (.iaload, 1) := by decide +kernel
theorem d_L_main_2244 : decode code 2244 = .ok (.aload_n 0, 1) := by decide +kernel
theorem d_L_main_2245 : decode code 2245 = .ok (.iload 4, 2) := by decide +kernel
theorem d_L_main_2247 : decode code 2247 = .ok (.iconst 2, 1) := by decide +kernel
theorem d_L_main_2248 : decode code 2248 = .ok (.iadd, 1) := by decide +kernel
theorem d_L_main_2249 : decode code 2249 = .ok (.iaload, 1) := by decide +kernel
theorem d_L_main_2250 : decode code 2250 = .ok (.aload_n 0, 1) := by decide +kernel
theorem d_L_main_2251 : decode code 2251 = .ok (.iload 4, 2) := by decide +kernel
theorem d_L_main_2253 : decode code 2253 = .ok (.iconst 3, 1) := by decide +kernel
theorem d_L_main_2254 : decode code 2254 = .ok (.iadd, 1) := by decide +kernel
theorem d_L_main_2255 : decode code 2255 = .ok (.iaload, 1) := by decide +kernel
theorem d_L_main_2256 : decode code 2256 = .ok (.aload_n 0, 1) := by decide +kernel
theorem d_L_main_2257 : decode code 2257 = .ok (.iload 4, 2) := by decide +kernel
theorem d_L_main_2259 : decode code 2259 = .ok (.iconst 4, 1) := by decide +kernel
theorem d_L_main_2260 : decode code 2260 = .ok (.iadd, 1) := by decide +kernel
theorem d_L_main_2261 : decode code 2261 = .ok (.iaload, 1) := by decide +kernel
theorem d_L_main_2262 : decode code 2262 = .ok (.aload_n 0, 1) := by decide +kernel
theorem d_L_main_2263 : decode code 2263 = .ok (.iload 4, 2) := by decide +kernel
theorem d_L_main_2265 : decode code 2265 = .ok (.iconst 5, 1) := by decide +kernel
theorem d_L_main_2266 : decode code 2266 = .ok (.iadd, 1) := by decide +kernel
theorem d_L_main_2267 : decode code 2267 = .ok (.iaload, 1) := by decide +kernel
theorem d_L_main_2268 : decode code 2268 = .ok (.aload_n 3, 1) := by decide +kernel
theorem d_L_main_2269 : decode code 2269 = .ok (.invokestatic 227, 3) := by decide +kernel
theorem d_L_main_2272 : decode code 2272 = .ok (.istore 5, 2) := by decide +kernel
theorem d_L_main_2274 : decode code 2274 = .ok (.aload_n 2, 1) := by decide +kernel
theorem d_L_main_2275 : decode code 2275 = .ok (.aload_n 0, 1) := by decide +kernel
theorem d_L_main_2276 : decode code 2276 = .ok (.iload 4, 2) := by decide +kernel
theorem d_L_main_2278 : decode code 2278 = .ok (.iconst 1, 1) := by decide +kernel
theorem d_L_main_2279 : decode code 2279 = .ok (.iadd, 1) := by decide +kernel
theorem d_L_main_2280 : decode code 2280 = .ok (.iaload, 1) := by decide +kernel
theorem d_L_main_2281 : decode code 2281 = .ok (.aload_n 0, 1) := by decide +kernel
theorem d_L_main_2282 : decode code 2282 = .ok (.iload 4, 2) := by decide +kernel
theorem d_L_main_2284 : decode code 2284 = .ok (.iconst 2, 1) := by decide +kernel
theorem d_L_main_2285 : decode code 2285 = .ok (.iadd, 1) := by decide +kernel
theorem d_L_main_2286 : decode code 2286 = .ok (.iaload, 1) := by decide +kernel
theorem d_L_main_2287 : decode code 2287 = .ok (.aload_n 0, 1) := by decide +kernel
theorem d_L_main_2288 : decode code 2288 = .ok (.iload 4, 2) := by decide +kernel
theorem d_L_main_2290 : decode code 2290 = .ok (.iconst 3, 1) := by decide +kernel
theorem d_L_main_2291 : decode code 2291 = .ok (.iadd, 1) := by decide +kernel
theorem d_L_main_2292 : decode code 2292 = .ok (.iaload, 1) := by decide +kernel
theorem d_L_main_2293 : decode code 2293 = .ok (.aload_n 0, 1) := by decide +kernel
theorem d_L_main_2294 : decode code 2294 = .ok (.iload 4, 2) := by decide +kernel
theorem d_L_main_2296 : decode code 2296 = .ok (.iconst 4, 1) := by decide +kernel
theorem d_L_main_2297 : decode code 2297 = .ok (.iadd, 1) := by decide +kernel
theorem d_L_main_2298 : decode code 2298 = .ok (.iaload, 1) := by decide +kernel
theorem d_L_main_2299 : decode code 2299 = .ok (.aload_n 0, 1) := by decide +kernel
theorem d_L_main_2300 : decode code 2300 = .ok (.iload 4, 2) := by decide +kernel
theorem d_L_main_2302 : decode code 2302 = .ok (.iconst 5, 1) := by decide +kernel
theorem d_L_main_2303 : decode code 2303 = .ok (.iadd, 1) := by decide +kernel
theorem d_L_main_2304 : decode code 2304 = .ok (.iaload, 1) := by decide +kernel
theorem d_L_main_2305 : decode code 2305 = .ok (.invokevirtual 230, 3) := by decide +kernel
theorem d_L_main_2308 : decode code 2308 = .ok (.istore 6, 2) := by decide +kernel
theorem d_L_main_2310 : decode code 2310 = .ok (.aload_n 2, 1) := by decide +kernel
theorem d_L_main_2311 : decode code 2311 = .ok (.invokevirtual 121, 3) := by decide +kernel
theorem d_L_main_2314 : decode code 2314 = .ok (.iload 5, 2) := by decide +kernel
theorem d_L_main_2316 : decode code 2316 = .ok (.if_icmp .eq 5, 3) := by decide +kernel
theorem d_L_main_2319 : decode code 2319 = .ok (.iconst 0, 1) := by decide +kernel
theorem d_L_main_2320 : decode code 2320 = .ok (.ireturn, 1) := by decide +kernel
theorem d_L_main_2321 : decode code 2321 = .ok (.iload 5, 2) := by decide +kernel
theorem d_L_main_2323 : decode code 2323 = .ok (.ifCond .ne 15, 3) := by decide +kernel
theorem d_L_main_2326 : decode code 2326 = .ok (.aload_n 3, 1) := by decide +kernel
theorem d_L_main_2327 : decode code 2327 = .ok (.iconst 0, 1) := by decide +kernel
theorem d_L_main_2328 : decode code 2328 = .ok (.laload, 1) := by decide +kernel
theorem d_L_main_2329 : decode code 2329 = .ok (.iload 6, 2) := by decide +kernel
theorem d_L_main_2331 : decode code 2331 = .ok (.i2l, 1) := by decide +kernel
theorem d_L_main_2332 : decode code 2332 = .ok (.lcmp, 1) := by decide +kernel
theorem d_L_main_2333 : decode code 2333 = .ok (.ifCond .eq 5, 3) := by decide +kernel
theorem d_L_main_2336 : decode code 2336 = .ok (.iconst 0, 1) := by decide +kernel
theorem d_L_main_2337 : decode code 2337 = .ok (.ireturn, 1) := by decide +kernel
theorem d_L_main_2338 : decode code 2338 = .ok (.goto 79, 3) := by decide +kernel
theorem d_L_main_2341 : decode code 2341 = .ok (.aload_n 1, 1) := by decide +kernel
theorem d_L_main_2342 : decode code 2342 = .ok (.invokevirtual 231, 3) := by decide +kernel
theorem d_L_main_2345 : decode code 2345 = .ok (.aload_n 2, 1) := by decide +kernel
theorem d_L_main_2346 : decode code 2346 = .ok (.invokevirtual 234, 3) := by decide +kernel
theorem d_L_main_2349 : decode code 2349 = .ok (.if_icmp .eq 68, 3) := by decide +kernel
theorem d_L_main_2352 : decode code 2352 = .ok (.iconst 0, 1) := by decide +kernel
theorem d_L_main_2353 : decode code 2353 = .ok (.ireturn, 1) := by decide +kernel
theorem d_L_main_2354 : decode code 2354 = .ok (.aload_n 1, 1) := by decide +kernel
theorem d_L_main_2355 : decode code 2355 = .ok (.invokevirtual 235, 3) := by decide +kernel
theorem d_L_main_2358 : decode code 2358 = .ok (.aload_n 2, 1) := by decide +kernel
theorem d_L_main_2359 : decode code 2359 = .ok (.invokevirtual 238, 3) := by decide +kernel
theorem d_L_main_2362 : decode code 2362 = .ok (.if_icmp .eq 55, 3) := by decide +kernel
theorem d_L_main_2365 : decode code 2365 = .ok (.iconst 0, 1) := by decide +kernel
theorem d_L_main_2366 : decode code 2366 = .ok (.ireturn, 1) := by decide +kernel
theorem d_L_main_2367 : decode code 2367 = .ok (.aload_n 1, 1) := by decide +kernel
theorem d_L_main_2368 : decode code 2368 = .ok (.aload_n 0, 1) := by decide +kernel
theorem d_L_main_2369 : decode code 2369 = .ok (.iload 4, 2) := by decide +kernel
theorem d_L_main_2371 : decode code 2371 = .ok (.iconst 1, 1) := by decide +kernel
theorem d_L_main_2372 : decode code 2372 = .ok (.iadd, 1) := by decide +kernel
theorem d_L_main_2373 : decode code 2373 = .ok (.iaload, 1) := by decide +kernel
theorem d_L_main_2374 : decode code 2374 = .ok (.invokevirtual 239, 3) := by decide +kernel
theorem d_L_main_2377 : decode code 2377 = .ok (.aload_n 2, 1) := by decide +kernel
theorem d_L_main_2378 : decode code 2378 = .ok (.aload_n 0, 1) := by decide +kernel
theorem d_L_main_2379 : decode code 2379 = .ok (.iload 4, 2) := by decide +kernel
theorem d_L_main_2381 : decode code 2381 = .ok (.iconst 1, 1) := by decide +kernel
theorem d_L_main_2382 : decode code 2382 = .ok (.iadd, 1) := by decide +kernel
theorem d_L_main_2383 : decode code 2383 = .ok (.iaload, 1) := by decide +kernel
theorem d_L_main_2384 : decode code 2384 = .ok (.invokevirtual 242, 3) := by decide +kernel
theorem d_L_main_2387 : decode code 2387 = .ok (.if_icmp .eq 30, 3) := by decide +kernel
theorem d_L_main_2390 : decode code 2390 = .ok (.iconst 0, 1) := by decide +kernel
theorem d_L_main_2391 : decode code 2391 = .ok (.ireturn, 1) := by decide +kernel
theorem d_L_main_2392 : decode code 2392 = .ok (.aload_n 1, 1) := by decide +kernel
theorem d_L_main_2393 : decode code 2393 = .ok (.aload_n 0, 1) := by decide +kernel
theorem d_L_main_2394 : decode code 2394 = .ok (.iload 4, 2) := by decide +kernel
theorem d_L_main_2396 : decode code 2396 = .ok (.iconst 1, 1) := by decide +kernel
theorem d_L_main_2397 : decode code 2397 = .ok (.iadd, 1) := by decide +kernel
theorem d_L_main_2398 : decode code 2398 = .ok (.iaload, 1) := by decide +kernel
theorem d_L_main_2399 : decode code 2399 = .ok (.invokevirtual 243, 3) := by decide +kernel
theorem d_L_main_2402 : decode code 2402 = .ok (.aload_n 2, 1) := by decide +kernel
theorem d_L_main_2403 : decode code 2403 = .ok (.aload_n 0, 1) := by decide +kernel
theorem d_L_main_2404 : decode code 2404 = .ok (.iload 4, 2) := by decide +kernel
theorem d_L_main_2406 : decode code 2406 = .ok (.iconst 1, 1) := by decide +kernel
theorem d_L_main_2407 : decode code 2407 = .ok (.iadd, 1) := by decide +kernel
theorem d_L_main_2408 : decode code 2408 = .ok (.iaload, 1) := by decide +kernel
theorem d_L_main_2409 : decode code 2409 = .ok (.invokevirtual 246, 3) := by decide +kernel
theorem d_L_main_2412 : decode code 2412 = .ok (.if_icmp .eq 5, 3) := by decide +kernel
theorem d_L_main_2415 : decode code 2415 = .ok (.iconst 0, 1) := by decide +kernel
theorem d_L_main_2416 : decode code 2416 = .ok (.ireturn, 1) := by decide +kernel
theorem d_L_main_2417 : decode code 2417 = .ok (.iinc 4 8, 3) := by decide +kernel
theorem d_L_main_2420 : decode code 2420 = .ok (.goto (-2397), 3) := by decide +kernel
theorem d_L_main_2423 : decode code 2423 = .ok (.iconst 1, 1) := by decide +kernel
theorem d_L_main_2424 : decode code 2424 = .ok (.ireturn, 1) := by decide +kernel
