theorem dL_earth_0 : decode cL_earth 0 = .ok (.aload 5, 2) := by decide +kernel
theorem dL_earth_2 : decode cL_earth 2 = .ok (.iconst 0, 1) := by decide +kernel
theorem dL_earth_3 : decode cL_earth 3 = .ok (.aload_n 0, 1) := by decide +kernel
theorem dL_earth_4 : decode cL_earth 4 = .ok (.iload_n 1, 1) := by decide +kernel
theorem dL_earth_5 : decode cL_earth 5 = .ok (.iload_n 2, 1) := by decide +kernel
theorem dL_earth_6 : decode cL_earth 6 = .ok (.iload_n 3, 1) := by decide +kernel
theorem dL_earth_7 : decode cL_earth 7 = .ok (.iload 4, 2) := by decide +kernel
theorem dL_earth_9 : decode cL_earth 9 = .ok (.invokevirtual 7, 3) := by decide +kernel
theorem dL_earth_12 : decode cL_earth 12 = .ok (.i2l, 1) := by decide +kernel
theorem dL_earth_13 : decode cL_earth 13 = .ok (.lastore, 1) := by decide +kernel
theorem dL_earth_14 : decode cL_earth 14 = .ok (.goto 11, 3) := by decide +kernel
theorem dL_earth_17 : decode cL_earth 17 = .ok (.astore 6, 2) := by decide +kernel
theorem dL_earth_19 : decode cL_earth 19 = .ok (.iconst 1, 1) := by decide +kernel
theorem dL_earth_20 : decode cL_earth 20 = .ok (.ireturn, 1) := by decide +kernel
theorem dL_earth_21 : decode cL_earth 21 = .ok (.astore 6, 2) := by decide +kernel
theorem dL_earth_23 : decode cL_earth 23 = .ok (.iconst 2, 1) := by decide +kernel
theorem dL_earth_24 : decode cL_earth 24 = .ok (.ireturn, 1) := by decide +kernel
theorem dL_earth_25 : decode cL_earth 25 = .ok (.iconst 0, 1) := by decide +kernel
theorem dL_earth_26 : decode cL_earth 26 = .ok (.ireturn, 1) := by decide +kernel
theorem dL_bring_0 : decode cL_bring 0 = .ok (.aload_n 3, 1) := by decide +kernel
theorem dL_bring_1 : decode cL_bring 1 = .ok (.iconst 0, 1) := by decide +kernel
theorem dL_bring_2 : decode cL_bring 2 = .ok (.aload_n 0, 1) := by decide +kernel
theorem dL_bring_3 : decode cL_bring 3 = .ok (.iload_n 1, 1) := by decide +kernel
theorem dL_bring_4 : decode cL_bring 4 = .ok (.iload_n 2, 1) := by decide +kernel
theorem dL_bring_5 : decode cL_bring 5 = .ok (.invokevirtual 17, 3) := by decide +kernel
theorem dL_bring_8 : decode cL_bring 8 = .ok (.i2l, 1) := by decide +kernel
theorem dL_bring_9 : decode cL_bring 9 = .ok (.lastore, 1) := by decide +kernel
theorem dL_bring_10 : decode cL_bring 10 = .ok (.goto 11, 3) := by decide +kernel
theorem dL_bring_13 : decode cL_bring 13 = .ok (.astore 4, 2) := by decide +kernel
theorem dL_bring_15 : decode cL_bring 15 = .ok (.iconst 1, 1) := by decide +kernel
theorem dL_bring_16 : decode cL_bring 16 = .ok (.ireturn, 1) := by decide +kernel
theorem dL_bring_17 : decode cL_bring 17 = .ok (.astore 4, 2) := by decide +kernel
theorem dL_bring_19 : decode cL_bring 19 = .ok (.iconst 2, 1) := by decide +kernel
theorem dL_bring_20 : decode cL_bring 20 = .ok (.ireturn, 1) := by decide +kernel
theorem dL_bring_21 : decode cL_bring 21 = .ok (.iconst 0, 1) := by decide +kernel
theorem dL_bring_22 : decode cL_bring 22 = .ok (.ireturn, 1) := by decide +kernel
theorem dL_blend_0 : decode cL_blend 0 = .ok (.aload_n 3, 1) := by decide +kernel
theorem dL_blend_1 : decode cL_blend 1 = .ok (.iconst 0, 1) := by decide +kernel
theorem dL_blend_2 : decode cL_blend 2 = .ok (.aload_n 0, 1) := by decide +kernel
theorem dL_blend_3 : decode cL_blend 3 = .ok (.iload_n 1, 1) := by decide +kernel
theorem dL_blend_4 : decode cL_blend 4 = .ok (.iload_n 2, 1) := by decide +kernel
theorem dL_blend_5 : decode cL_blend 5 = .ok (.invokevirtual 23, 3) := by decide +kernel
theorem dL_blend_8 : decode cL_blend 8 = .ok (.i2l, 1) := by decide +kernel
theorem dL_blend_9 : decode cL_blend 9 = .ok (.lastore, 1) := by decide +kernel
theorem dL_blend_10 : decode cL_blend 10 = .ok (.goto 7, 3) := by decide +kernel
theorem dL_blend_13 : decode cL_blend 13 = .ok (.astore 4, 2) := by decide +kernel
theorem dL_blend_15 : decode cL_blend 15 = .ok (.iconst 1, 1) := by decide +kernel
theorem dL_blend_16 : decode cL_blend 16 = .ok (.ireturn, 1) := by decide +kernel
theorem dL_blend_17 : decode cL_blend 17 = .ok (.iconst 0, 1) := by decide +kernel
theorem dL_blend_18 : decode cL_blend 18 = .ok (.ireturn, 1) := by decide +kernel
theorem dL_parts_0 : decode cL_parts 0 = .ok (.aload 4, 2) := by decide +kernel
theorem dL_parts_2 : decode cL_parts 2 = .ok (.iconst 0, 1) := by decide +kernel
theorem dL_parts_3 : decode cL_parts 3 = .ok (.aload_n 0, 1) := by decide +kernel
theorem dL_parts_4 : decode cL_parts 4 = .ok (.iload_n 1, 1) := by decide +kernel
theorem dL_parts_5 : decode cL_parts 5 = .ok (.iload_n 2, 1) := by decide +kernel
theorem dL_parts_6 : decode cL_parts 6 = .ok (.iload_n 3, 1) := by decide +kernel
theorem dL_parts_7 : decode cL_parts 7 = .ok (.invokevirtual 26, 3) := by decide +kernel
theorem dL_parts_10 : decode cL_parts 10 = .ok (.i2l, 1) := by decide +kernel
theorem dL_parts_11 : decode cL_parts 11 = .ok (.lastore, 1) := by decide +kernel
theorem dL_parts_12 : decode cL_parts 12 = .ok (.goto 11, 3) := by decide +kernel
theorem dL_parts_15 : decode cL_parts 15 = .ok (.astore 5, 2) := by decide +kernel
theorem dL_parts_17 : decode cL_parts 17 = .ok (.iconst 1, 1) := by decide +kernel
theorem dL_parts_18 : decode cL_parts 18 = .ok (.ireturn, 1) := by decide +kernel
theorem dL_parts_19 : decode cL_parts 19 = .ok (.astore 5, 2) := by decide +kernel
theorem dL_parts_21 : decode cL_parts 21 = .ok (.iconst 2, 1) := by decide +kernel
theorem dL_parts_22 : decode cL_parts 22 = .ok (.ireturn, 1) := by decide +kernel
theorem dL_parts_23 : decode cL_parts 23 = .ok (.iconst 0, 1) := by decide +kernel
theorem dL_parts_24 : decode cL_parts 24 = .ok (.ireturn, 1) := by decide +kernel
theorem dL_cores_0 : decode cL_cores 0 = .ok (.aload_n 3, 1) := by decide +kernel
theorem dL_cores_1 : decode cL_cores 1 = .ok (.iconst 0, 1) := by decide +kernel
theorem dL_cores_2 : decode cL_cores 2 = .ok (.aload_n 0, 1) := by decide +kernel
theorem dL_cores_3 : decode cL_cores 3 = .ok (.iload_n 1, 1) := by decide +kernel
theorem dL_cores_4 : decode cL_cores 4 = .ok (.iload_n 2, 1) := by decide +kernel
theorem dL_cores_5 : decode cL_cores 5 = .ok (.invokevirtual 30, 3) := by decide +kernel
theorem dL_cores_8 : decode cL_cores 8 = .ok (.i2l, 1) := by decide +kernel
theorem dL_cores_9 : decode cL_cores 9 = .ok (.lastore, 1) := by decide +kernel
theorem dL_cores_10 : decode cL_cores 10 = .ok (.goto 7, 3) := by decide +kernel
theorem dL_cores_13 : decode cL_cores 13 = .ok (.astore 4, 2) := by decide +kernel
theorem dL_cores_15 : decode cL_cores 15 = .ok (.iconst 1, 1) := by decide +kernel
theorem dL_cores_16 : decode cL_cores 16 = .ok (.ireturn, 1) := by decide +kernel
theorem dL_cores_17 : decode cL_cores 17 = .ok (.iconst 0, 1) := by decide +kernel
theorem dL_cores_18 : decode cL_cores 18 = .ok (.ireturn, 1) := by decide +kernel
theorem dL_lot_0 : decode cL_lot 0 = .ok (.aload_n 3, 1) := by decide +kernel
theorem dL_lot_1 : decode cL_lot 1 = .ok (.iconst 0, 1) := by decide +kernel
theorem dL_lot_2 : decode cL_lot 2 = .ok (.aload_n 0, 1) := by decide +kernel
theorem dL_lot_3 : decode cL_lot 3 = .ok (.iload_n 1, 1) := by decide +kernel
theorem dL_lot_4 : decode cL_lot 4 = .ok (.iload_n 2, 1) := by decide +kernel
theorem dL_lot_5 : decode cL_lot 5 = .ok (.invokevirtual 33, 3) := by decide +kernel
theorem dL_lot_8 : decode cL_lot 8 = .ok (.i2l, 1) := by decide +kernel
theorem dL_lot_9 : decode cL_lot 9 = .ok (.lastore, 1) := by decide +kernel
theorem dL_lot_10 : decode cL_lot 10 = .ok (.goto 11, 3) := by decide +kernel
theorem dL_lot_13 : decode cL_lot 13 = .ok (.astore 4, 2) := by decide +kernel
theorem dL_lot_15 : decode cL_lot 15 = .ok (.iconst 1, 1) := by decide +kernel
theorem dL_lot_16 : decode cL_lot 16 = .ok (.ireturn, 1) := by decide +kernel
theorem dL_lot_17 : decode cL_lot 17 = .ok (.astore 4, 2) := by decide +kernel
theorem dL_lot_19 : decode cL_lot 19 = .ok (.iconst 2, 1) := by decide +kernel
theorem dL_lot_20 : decode cL_lot 20 = .ok (.ireturn, 1) := by decide +kernel
theorem dL_lot_21 : decode cL_lot 21 = .ok (.iconst 0, 1) := by decide +kernel
theorem dL_lot_22 : decode cL_lot 22 = .ok (.ireturn, 1) := by decide +kernel
theorem dL_make_0 : decode cL_make 0 = .ok (.aload 5, 2) := by decide +kernel
theorem dL_make_2 : decode cL_make 2 = .ok (.iconst 0, 1) := by decide +kernel
theorem dL_make_3 : decode cL_make 3 = .ok (.aload_n 0, 1) := by decide +kernel
theorem dL_make_4 : decode cL_make 4 = .ok (.iload_n 1, 1) := by decide +kernel
theorem dL_make_5 : decode cL_make 5 = .ok (.iload_n 2, 1) := by decide +kernel
theorem dL_make_6 : decode cL_make 6 = .ok (.iload_n 3, 1) := by decide +kernel
theorem dL_make_7 : decode cL_make 7 = .ok (.iload 4, 2) := by decide +kernel
theorem dL_make_9 : decode cL_make 9 = .ok (.invokevirtual 36, 3) := by decide +kernel
theorem dL_make_12 : decode cL_make 12 = .ok (.i2l, 1) := by decide +kernel
theorem dL_make_13 : decode cL_make 13 = .ok (.lastore, 1) := by decide +kernel
theorem dL_make_14 : decode cL_make 14 = .ok (.goto 11, 3) := by decide +kernel
theorem dL_make_17 : decode cL_make 17 = .ok (.astore 6, 2) := by decide +kernel
theorem dL_make_19 : decode cL_make 19 = .ok (.iconst 1, 1) := by decide +kernel
theorem dL_make_20 : decode cL_make 20 = .ok (.ireturn, 1) := by decide +kernel
theorem dL_make_21 : decode cL_make 21 = .ok (.astore 6, 2) := by decide +kernel
theorem dL_make_23 : decode cL_make 23 = .ok (.iconst 2, 1) := by decide +kernel
theorem dL_make_24 : decode cL_make 24 = .ok (.ireturn, 1) := by decide +kernel
theorem dL_make_25 : decode cL_make 25 = .ok (.iconst 0, 1) := by decide +kernel
theorem dL_make_26 : decode cL_make 26 = .ok (.ireturn, 1) := by decide +kernel
theorem dL_look_0 : decode cL_look 0 = .ok (.aload_n 3, 1) := by decide +kernel
theorem dL_look_1 : decode cL_look 1 = .ok (.iconst 0, 1) := by decide +kernel
theorem dL_look_2 : decode cL_look 2 = .ok (.aload_n 0, 1) := by decide +kernel
theorem dL_look_3 : decode cL_look 3 = .ok (.iload_n 1, 1) := by decide +kernel
theorem dL_look_4 : decode cL_look 4 = .ok (.iload_n 2, 1) := by decide +kernel
theorem dL_look_5 : decode cL_look 5 = .ok (.invokevirtual 39, 3) := by decide +kernel
theorem dL_look_8 : decode cL_look 8 = .ok (.i2l, 1) := by decide +kernel
theorem dL_look_9 : decode cL_look 9 = .ok (.lastore, 1) := by decide +kernel
theorem dL_look_10 : decode cL_look 10 = .ok (.goto 11, 3) := by decide +kernel
theorem dL_look_13 : decode cL_look 13 = .ok (.astore 4, 2) := by decide +kernel
theorem dL_look_15 : decode cL_look 15 = .ok (.iconst 1, 1) := by decide +kernel
theorem dL_look_16 : decode cL_look 16 = .ok (.ireturn, 1) := by decide +kernel
theorem dL_look_17 : decode cL_look 17 = .ok (.astore 4, 2) := by decide +kernel
theorem dL_look_19 : decode cL_look 19 = .ok (.iconst 2, 1) := by decide +kernel
theorem dL_look_20 : decode cL_look 20 = .ok (.ireturn, 1) := by decide +kernel
theorem dL_look_21 : decode cL_look 21 = .ok (.iconst 0, 1) := by decide +kernel
theorem dL_look_22 : decode cL_look 22 = .ok (.ireturn, 1) := by decide +kernel
theorem dL_trial_0 : decode cL_trial 0 = .ok (.aload_n 3, 1) := by decide +kernel
theorem dL_trial_1 : decode cL_trial 1 = .ok (.iconst 0, 1) := by decide +kernel
theorem dL_trial_2 : decode cL_trial 2 = .ok (.aload_n 0, 1) := by decide +kernel
theorem dL_trial_3 : decode cL_trial 3 = .ok (.iload_n 1, 1) := by decide +kernel
theorem dL_trial_4 : decode cL_trial 4 = .ok (.iload_n 2, 1) := by decide +kernel
theorem dL_trial_5 : decode cL_trial 5 = .ok (.invokevirtual 44, 3) := by decide +kernel
theorem dL_trial_8 : decode cL_trial 8 = .ok (.i2l, 1) := by decide +kernel
theorem dL_trial_9 : decode cL_trial 9 = .ok (.lastore, 1) := by decide +kernel
theorem dL_trial_10 : decode cL_trial 10 = .ok (.goto 7, 3) := by decide +kernel
theorem dL_trial_13 : decode cL_trial 13 = .ok (.astore 4, 2) := by decide +kernel
theorem dL_trial_15 : decode cL_trial 15 = .ok (.iconst 1, 1) := by decide +kernel
theorem dL_trial_16 : decode cL_trial 16 = .ok (.ireturn, 1) := by decide +kernel
theorem dL_trial_17 : decode cL_trial 17 = .ok (.iconst 0, 1) := by decide +kernel
theorem dL_trial_18 : decode cL_trial 18 = .ok (.ireturn, 1) := by decide +kernel
theorem dL_undo_0 : decode cL_undo 0 = .ok (.aload_n 2, 1) := by decide +kernel
theorem dL_undo_1 : decode cL_undo 1 = .ok (.iconst 0, 1) := by decide +kernel
theorem dL_undo_2 : decode cL_undo 2 = .ok (.aload_n 0, 1) := by decide +kernel
theorem dL_undo_3 : decode cL_undo 3 = .ok (.iload_n 1, 1) := by decide +kernel
theorem dL_undo_4 : decode cL_undo 4 = .ok (.invokevirtual 48, 3) := by decide +kernel
theorem dL_undo_7 : decode cL_undo 7 = .ok (.ifCond .eq 7, 3) := by decide +kernel
theorem dL_undo_10 : decode cL_undo 10 = .ok (.lconst 1, 1) := by decide +kernel
theorem dL_undo_11 : decode cL_undo 11 = .ok (.goto 4, 3) := by decide +kernel
theorem dL_undo_14 : decode cL_undo 14 = .ok (.lconst 0, 1) := by decide +kernel
theorem dL_undo_15 : decode cL_undo 15 = .ok (.lastore, 1) := by decide +kernel
theorem dL_undo_16 : decode cL_undo 16 = .ok (.goto 6, 3) := by decide +kernel
theorem dL_undo_19 : decode cL_undo 19 = .ok (.astore_n 3, 1) := by decide +kernel
theorem dL_undo_20 : decode cL_undo 20 = .ok (.iconst 1, 1) := by decide +kernel
theorem dL_undo_21 : decode cL_undo 21 = .ok (.ireturn, 1) := by decide +kernel
theorem dL_undo_22 : decode cL_undo 22 = .ok (.iconst 0, 1) := by decide +kernel
theorem dL_undo_23 : decode cL_undo 23 = .ok (.ireturn, 1) := by decide +kernel
theorem dL_days_0 : decode cL_days 0 = .ok (.aload_n 2, 1) := by decide +kernel
theorem dL_days_1 : decode cL_days 1 = .ok (.iconst 0, 1) := by decide +kernel
theorem dL_days_2 : decode cL_days 2 = .ok (.aload_n 0, 1) := by decide +kernel
theorem dL_days_3 : decode cL_days 3 = .ok (.iload_n 1, 1) := by decide +kernel
theorem dL_days_4 : decode cL_days 4 = .ok (.invokevirtual 52, 3) := by decide +kernel
theorem dL_days_7 : decode cL_days 7 = .ok (.i2l, 1) := by decide +kernel
theorem dL_days_8 : decode cL_days 8 = .ok (.lastore, 1) := by decide +kernel
theorem dL_days_9 : decode cL_days 9 = .ok (.goto 6, 3) := by decide +kernel
theorem dL_days_12 : decode cL_days 12 = .ok (.astore_n 3, 1) := by decide +kernel
theorem dL_days_13 : decode cL_days 13 = .ok (.iconst 1, 1) := by decide +kernel
theorem dL_days_14 : decode cL_days 14 = .ok (.ireturn, 1) := by decide +kernel
theorem dL_days_15 : decode cL_days 15 = .ok (.iconst 0, 1) := by decide +kernel
theorem dL_days_16 : decode cL_days 16 = .ok (.ireturn, 1) := by decide +kernel
theorem dL_explain_0 : decode cL_explain 0 = .ok (.aload_n 3, 1) := by decide +kernel
theorem dL_explain_1 : decode cL_explain 1 = .ok (.iconst 0, 1) := by decide +kernel
theorem dL_explain_2 : decode cL_explain 2 = .ok (.aload_n 0, 1) := by decide +kernel
theorem dL_explain_3 : decode cL_explain 3 = .ok (.iload_n 1, 1) := by decide +kernel
theorem dL_explain_4 : decode cL_explain 4 = .ok (.iload_n 2, 1) := by decide +kernel
theorem dL_explain_5 : decode cL_explain 5 = .ok (.invokevirtual 56, 3) := by decide +kernel
theorem dL_explain_8 : decode cL_explain 8 = .ok (.i2l, 1) := by decide +kernel
theorem dL_explain_9 : decode cL_explain 9 = .ok (.lastore, 1) := by decide +kernel
theorem dL_explain_10 : decode cL_explain 10 = .ok (.goto 7, 3) := by decide +kernel
theorem dL_explain_13 : decode cL_explain 13 = .ok (.astore 4, 2) := by decide +kernel
theorem dL_explain_15 : decode cL_explain 15 = .ok (.iconst 1, 1) := by decide +kernel
theorem dL_explain_16 : decode cL_explain 16 = .ok (.ireturn, 1) := by decide +kernel
theorem dL_explain_17 : decode cL_explain 17 = .ok (.iconst 0, 1) := by decide +kernel
theorem dL_explain_18 : decode cL_explain 18 = .ok (.ireturn, 1) := by decide +kernel
theorem dL_slats_0 : decode cL_slats 0 = .ok (.aload_n 3, 1) := by decide +kernel
theorem dL_slats_1 : decode cL_slats 1 = .ok (.iconst 0, 1) := by decide +kernel
theorem dL_slats_2 : decode cL_slats 2 = .ok (.aload_n 0, 1) := by decide +kernel
theorem dL_slats_3 : decode cL_slats 3 = .ok (.iload_n 1, 1) := by decide +kernel
theorem dL_slats_4 : decode cL_slats 4 = .ok (.iload_n 2, 1) := by decide +kernel
theorem dL_slats_5 : decode cL_slats 5 = .ok (.invokevirtual 59, 3) := by decide +kernel
theorem dL_slats_8 : decode cL_slats 8 = .ok (.i2l, 1) := by decide +kernel
theorem dL_slats_9 : decode cL_slats 9 = .ok (.lastore, 1) := by decide +kernel
theorem dL_slats_10 : decode cL_slats 10 = .ok (.goto 7, 3) := by decide +kernel
theorem dL_slats_13 : decode cL_slats 13 = .ok (.astore 4, 2) := by decide +kernel
theorem dL_slats_15 : decode cL_slats 15 = .ok (.iconst 1, 1) := by decide +kernel
theorem dL_slats_16 : decode cL_slats 16 = .ok (.ireturn, 1) := by decide +kernel
theorem dL_slats_17 : decode cL_slats 17 = .ok (.iconst 0, 1) := by decide +kernel
theorem dL_slats_18 : decode cL_slats 18 = .ok (.ireturn, 1) := by decide +kernel
theorem dL_grade_0 : decode cL_grade 0 = .ok (.aload 4, 2) := by decide +kernel
theorem dL_grade_2 : decode cL_grade 2 = .ok (.iconst 0, 1) := by decide +kernel
theorem dL_grade_3 : decode cL_grade 3 = .ok (.aload_n 0, 1) := by decide +kernel
theorem dL_grade_4 : decode cL_grade 4 = .ok (.iload_n 1, 1) := by decide +kernel
theorem dL_grade_5 : decode cL_grade 5 = .ok (.iload_n 2, 1) := by decide +kernel
theorem dL_grade_6 : decode cL_grade 6 = .ok (.iload_n 3, 1) := by decide +kernel
theorem dL_grade_7 : decode cL_grade 7 = .ok (.invokevirtual 62, 3) := by decide +kernel
theorem dL_grade_10 : decode cL_grade 10 = .ok (.i2l, 1) := by decide +kernel
theorem dL_grade_11 : decode cL_grade 11 = .ok (.lastore, 1) := by decide +kernel
theorem dL_grade_12 : decode cL_grade 12 = .ok (.goto 7, 3) := by decide +kernel
theorem dL_grade_15 : decode cL_grade 15 = .ok (.astore 5, 2) := by decide +kernel
theorem dL_grade_17 : decode cL_grade 17 = .ok (.iconst 1, 1) := by decide +kernel
theorem dL_grade_18 : decode cL_grade 18 = .ok (.ireturn, 1) := by decide +kernel
theorem dL_grade_19 : decode cL_grade 19 = .ok (.iconst 0, 1) := by decide +kernel
theorem dL_grade_20 : decode cL_grade 20 = .ok (.ireturn, 1) := by decide +kernel
theorem dL_change_0 : decode cL_change 0 = .ok (.aload_n 0, 1) := by decide +kernel
theorem dL_change_1 : decode cL_change 1 = .ok (.iload_n 1, 1) := by decide +kernel
theorem dL_change_2 : decode cL_change 2 = .ok (.iload_n 2, 1) := by decide +kernel
theorem dL_change_3 : decode cL_change 3 = .ok (.iload_n 3, 1) := by decide +kernel
theorem dL_change_4 : decode cL_change 4 = .ok (.invokevirtual 65, 3) := by decide +kernel
theorem dL_change_7 : decode cL_change 7 = .ok (.goto 11, 3) := by decide +kernel
theorem dL_change_10 : decode cL_change 10 = .ok (.astore 4, 2) := by decide +kernel
theorem dL_change_12 : decode cL_change 12 = .ok (.iconst 1, 1) := by decide +kernel
theorem dL_change_13 : decode cL_change 13 = .ok (.ireturn, 1) := by decide +kernel
theorem dL_change_14 : decode cL_change 14 = .ok (.astore 4, 2) := by decide +kernel
theorem dL_change_16 : decode cL_change 16 = .ok (.iconst 2, 1) := by decide +kernel
theorem dL_change_17 : decode cL_change 17 = .ok (.ireturn, 1) := by decide +kernel
theorem dL_change_18 : decode cL_change 18 = .ok (.iconst 0, 1) := by decide +kernel
theorem dL_change_19 : decode cL_change 19 = .ok (.ireturn, 1) := by decide +kernel
theorem dL_job_0 : decode cL_job 0 = .ok (.aload_n 2, 1) := by decide +kernel
theorem dL_job_1 : decode cL_job 1 = .ok (.iconst 0, 1) := by decide +kernel
theorem dL_job_2 : decode cL_job 2 = .ok (.aload_n 0, 1) := by decide +kernel
theorem dL_job_3 : decode cL_job 3 = .ok (.iload_n 1, 1) := by decide +kernel
theorem dL_job_4 : decode cL_job 4 = .ok (.invokevirtual 69, 3) := by decide +kernel
theorem dL_job_7 : decode cL_job 7 = .ok (.i2l, 1) := by decide +kernel
theorem dL_job_8 : decode cL_job 8 = .ok (.lastore, 1) := by decide +kernel
theorem dL_job_9 : decode cL_job 9 = .ok (.goto 6, 3) := by decide +kernel
theorem dL_job_12 : decode cL_job 12 = .ok (.astore_n 3, 1) := by decide +kernel
theorem dL_job_13 : decode cL_job 13 = .ok (.iconst 1, 1) := by decide +kernel
theorem dL_job_14 : decode cL_job 14 = .ok (.ireturn, 1) := by decide +kernel
theorem dL_job_15 : decode cL_job 15 = .ok (.iconst 0, 1) := by decide +kernel
theorem dL_job_16 : decode cL_job 16 = .ok (.ireturn, 1) := by decide +kernel
theorem dL_on_0 : decode cL_on 0 = .ok (.aload_n 0, 1) := by decide +kernel
theorem dL_on_1 : decode cL_on 1 = .ok (.iload_n 1, 1) := by decide +kernel
theorem dL_on_2 : decode cL_on 2 = .ok (.invokevirtual 72, 3) := by decide +kernel
theorem dL_on_5 : decode cL_on 5 = .ok (.goto 6, 3) := by decide +kernel
theorem dL_on_8 : decode cL_on 8 = .ok (.astore_n 2, 1) := by decide +kernel
theorem dL_on_9 : decode cL_on 9 = .ok (.iconst 1, 1) := by decide +kernel
theorem dL_on_10 : decode cL_on 10 = .ok (.ireturn, 1) := by decide +kernel
theorem dL_on_11 : decode cL_on 11 = .ok (.iconst 0, 1) := by decide +kernel
theorem dL_on_12 : decode cL_on 12 = .ok (.ireturn, 1) := by decide +kernel
theorem dL_law_0 : decode cL_law 0 = .ok (.new 8, 3) := by decide +kernel
theorem dL_law_3 : decode cL_law 3 = .ok (.dup, 1) := by decide +kernel
theorem dL_law_4 : decode cL_law 4 = .ok (.invokespecial 76, 3) := by decide +kernel
theorem dL_law_7 : decode cL_law 7 = .ok (.astore_n 1, 1) := by decide +kernel
theorem dL_law_8 : decode cL_law 8 = .ok (.new 77, 3) := by decide +kernel
theorem dL_law_11 : decode cL_law 11 = .ok (.dup, 1) := by decide +kernel
theorem dL_law_12 : decode cL_law 12 = .ok (.invokespecial 79, 3) := by decide +kernel
theorem dL_law_15 : decode cL_law 15 = .ok (.astore_n 2, 1) := by decide +kernel
theorem dL_law_16 : decode cL_law 16 = .ok (.iconst 1, 1) := by decide +kernel
theorem dL_law_17 : decode cL_law 17 = .ok (.newarray .long, 2) := by decide +kernel
theorem dL_law_19 : decode cL_law 19 = .ok (.astore_n 3, 1) := by decide +kernel
theorem dL_law_20 : decode cL_law 20 = .ok (.iconst 0, 1) := by decide +kernel
theorem dL_law_21 : decode cL_law 21 = .ok (.istore 4, 2) := by decide +kernel
theorem dL_law_23 : decode cL_law 23 = .ok (.iload 4, 2) := by decide +kernel
theorem dL_law_25 : decode cL_law 25 = .ok (.aload_n 0, 1) := by decide +kernel
theorem dL_law_26 : decode cL_law 26 = .ok (.arraylength, 1) := by decide +kernel
theorem dL_law_27 : decode cL_law 27 = .ok (.iconst 5, 1) := by decide +kernel
theorem dL_law_28 : decode cL_law 28 = .ok (.isub, 1) := by decide +kernel
theorem dL_law_29 : decode cL_law 29 = .ok (.if_icmp .gt 1352, 3) := by decide +kernel
theorem dL_law_32 : decode cL_law 32 = .ok (.aload_n 0, 1) := by decide +kernel
theorem dL_law_33 : decode cL_law 33 = .ok (.iload 4, 2) := by decide +kernel
theorem dL_law_35 : decode cL_law 35 = .ok (.iaload, 1) := by decide +kernel
theorem dL_law_36 : decode cL_law 36 = .ok (.bipush 31, 2) := by decide +kernel
theorem dL_law_38 : decode cL_law 38 = .ok (.iand, 1) := by decide +kernel
theorem dL_law_39 : decode cL_law 39 = .ok (.tableswitch 1336 0 20 #[97, 189, 257, 325, 405, 473, 541, 633, 701, 785, 848, 904, 972, 1040, 1120, 1133, 1146, 1206, 1262, 1298, 1311], 97) := by decide +kernel
theorem dL_law_136 : decode cL_law 136 = .ok (.aload_n 1, 1) := by decide +kernel
theorem dL_law_137 : decode cL_law 137 = .ok (.aload_n 0, 1) := by decide +kernel
theorem dL_law_138 : decode cL_law 138 = .ok (.iload 4, 2) := by decide +kernel
theorem dL_law_140 : decode cL_law 140 = .ok (.iconst 1, 1) := by decide +kernel
theorem dL_law_141 : decode cL_law 141 = .ok (.iadd, 1) := by decide +kernel
theorem dL_law_142 : decode cL_law 142 = .ok (.iaload, 1) := by decide +kernel
theorem dL_law_143 : decode cL_law 143 = .ok (.aload_n 0, 1) := by decide +kernel
theorem dL_law_144 : decode cL_law 144 = .ok (.iload 4, 2) := by decide +kernel
theorem dL_law_146 : decode cL_law 146 = .ok (.iconst 2, 1) := by decide +kernel
theorem dL_law_147 : decode cL_law 147 = .ok (.iadd, 1) := by decide +kernel
theorem dL_law_148 : decode cL_law 148 = .ok (.iaload, 1) := by decide +kernel
theorem dL_law_149 : decode cL_law 149 = .ok (.aload_n 0, 1) := by decide +kernel
theorem dL_law_150 : decode cL_law 150 = .ok (.iload 4, 2) := by decide +kernel
theorem dL_law_152 : decode cL_law 152 = .ok (.iconst 3, 1) := by decide +kernel
theorem dL_law_153 : decode cL_law 153 = .ok (.iadd, 1) := by decide +kernel
theorem dL_law_154 : decode cL_law 154 = .ok (.iaload, 1) := by decide +kernel
theorem dL_law_155 : decode cL_law 155 = .ok (.aload_n 0, 1) := by decide +kernel
theorem dL_law_156 : decode cL_law 156 = .ok (.iload 4, 2) := by decide +kernel
theorem dL_law_158 : decode cL_law 158 = .ok (.iconst 4, 1) := by decide +kernel
theorem dL_law_159 : decode cL_law 159 = .ok (.iadd, 1) := by decide +kernel
theorem dL_law_160 : decode cL_law 160 = .ok (.iaload, 1) := by decide +kernel
theorem dL_law_161 : decode cL_law 161 = .ok (.aload_n 3, 1) := by decide +kernel
theorem dL_law_162 : decode cL_law 162 = .ok (.invokestatic 80, 3) := by decide +kernel
theorem dL_law_165 : decode cL_law 165 = .ok (.istore 5, 2) := by decide +kernel
theorem dL_law_167 : decode cL_law 167 = .ok (.aload_n 2, 1) := by decide +kernel
theorem dL_law_168 : decode cL_law 168 = .ok (.aload_n 0, 1) := by decide +kernel
theorem dL_law_169 : decode cL_law 169 = .ok (.iload 4, 2) := by decide +kernel
theorem dL_law_171 : decode cL_law 171 = .ok (.iconst 1, 1) := by decide +kernel
theorem dL_law_172 : decode cL_law 172 = .ok (.iadd, 1) := by decide +kernel
theorem dL_law_173 : decode cL_law 173 = .ok (.iaload, 1) := by decide +kernel
theorem dL_law_174 : decode cL_law 174 = .ok (.aload_n 0, 1) := by decide +kernel
theorem dL_law_175 : decode cL_law 175 = .ok (.iload 4, 2) := by decide +kernel
theorem dL_law_177 : decode cL_law 177 = .ok (.iconst 2, 1) := by decide +kernel
theorem dL_law_178 : decode cL_law 178 = .ok (.iadd, 1) := by decide +kernel
theorem dL_law_179 : decode cL_law 179 = .ok (.iaload, 1) := by decide +kernel
theorem dL_law_180 : decode cL_law 180 = .ok (.aload_n 0, 1) := by decide +kernel
theorem dL_law_181 : decode cL_law 181 = .ok (.iload 4, 2) := by decide +kernel
theorem dL_law_183 : decode cL_law 183 = .ok (.iconst 3, 1) := by decide +kernel
theorem dL_law_184 : decode cL_law 184 = .ok (.iadd, 1) := by decide +kernel
theorem dL_law_185 : decode cL_law 185 = .ok (.iaload, 1) := by decide +kernel
theorem dL_law_186 : decode cL_law 186 = .ok (.aload_n 0, 1) := by decide +kernel
theorem dL_law_187 : decode cL_law 187 = .ok (.iload 4, 2) := by decide +kernel
theorem dL_law_189 : decode cL_law 189 = .ok (.iconst 4, 1) := by decide +kernel
theorem dL_law_190 : decode cL_law 190 = .ok (.iadd, 1) := by decide +kernel
theorem dL_law_191 : decode cL_law 191 = .ok (.iaload, 1) := by decide +kernel
theorem dL_law_192 : decode cL_law 192 = .ok (.invokevirtual 85, 3) := by decide +kernel
theorem dL_law_195 : decode cL_law 195 = .ok (.istore 6, 2) := by decide +kernel
theorem dL_law_197 : decode cL_law 197 = .ok (.aload_n 2, 1) := by decide +kernel
theorem dL_law_198 : decode cL_law 198 = .ok (.invokevirtual 86, 3) := by decide +kernel
theorem dL_law_201 : decode cL_law 201 = .ok (.iload 5, 2) := by decide +kernel
theorem dL_law_203 : decode cL_law 203 = .ok (.if_icmp .eq 5, 3) := by decide +kernel
theorem dL_law_206 : decode cL_law 206 = .ok (.iconst 0, 1) := by decide +kernel
theorem dL_law_207 : decode cL_law 207 = .ok (.ireturn, 1) := by decide +kernel
theorem dL_law_208 : decode cL_law 208 = .ok (.iload 5, 2) := by decide +kernel
theorem dL_law_210 : decode cL_law 210 = .ok (.ifCond .ne 15, 3) := by decide +kernel
theorem dL_law_213 : decode cL_law 213 = .ok (.aload_n 3, 1) := by decide +kernel
theorem dL_law_214 : decode cL_law 214 = .ok (.iconst 0, 1) := by decide +kernel
theorem dL_law_215 : decode cL_law 215 = .ok (.laload, 1) := by decide +kernel
theorem dL_law_216 : decode cL_law 216 = .ok (.iload 6, 2) := by decide +kernel
theorem dL_law_218 : decode cL_law 218 = .ok (.i2l, 1) := by decide +kernel
theorem dL_law_219 : decode cL_law 219 = .ok (.lcmp, 1) := by decide +kernel
theorem dL_law_220 : decode cL_law 220 = .ok (.ifCond .eq 5, 3) := by decide +kernel
theorem dL_law_223 : decode cL_law 223 = .ok (.iconst 0, 1) := by decide +kernel
theorem dL_law_224 : decode cL_law 224 = .ok (.ireturn, 1) := by decide +kernel
theorem dL_law_225 : decode cL_law 225 = .ok (.goto 1150, 3) := by decide +kernel
theorem dL_law_228 : decode cL_law 228 = .ok (.aload_n 1, 1) := by decide +kernel
theorem dL_law_229 : decode cL_law 229 = .ok (.aload_n 0, 1) := by decide +kernel
theorem dL_law_230 : decode cL_law 230 = .ok (.iload 4, 2) := by decide +kernel
theorem dL_law_232 : decode cL_law 232 = .ok (.iconst 1, 1) := by decide +kernel
theorem dL_law_233 : decode cL_law 233 = .ok (.iadd, 1) := by decide +kernel
theorem dL_law_234 : decode cL_law 234 = .ok (.iaload, 1) := by decide +kernel
theorem dL_law_235 : decode cL_law 235 = .ok (.aload_n 0, 1) := by decide +kernel
theorem dL_law_236 : decode cL_law 236 = .ok (.iload 4, 2) := by decide +kernel
theorem dL_law_238 : decode cL_law 238 = .ok (.iconst 2, 1) := by decide +kernel
theorem dL_law_239 : decode cL_law 239 = .ok (.iadd, 1) := by decide +kernel
theorem dL_law_240 : decode cL_law 240 = .ok (.iaload, 1) := by decide +kernel
theorem dL_law_241 : decode cL_law 241 = .ok (.aload_n 3, 1) := by decide +kernel
theorem dL_law_242 : decode cL_law 242 = .ok (.invokestatic 90, 3) := by decide +kernel
theorem dL_law_245 : decode cL_law 245 = .ok (.istore 5, 2) := by decide +kernel
theorem dL_law_247 : decode cL_law 247 = .ok (.aload_n 2, 1) := by decide +kernel
theorem dL_law_248 : decode cL_law 248 = .ok (.aload_n 0, 1) := by decide +kernel
theorem dL_law_249 : decode cL_law 249 = .ok (.iload 4, 2) := by decide +kernel
theorem dL_law_251 : decode cL_law 251 = .ok (.iconst 1, 1) := by decide +kernel
theorem dL_law_252 : decode cL_law 252 = .ok (.iadd, 1) := by decide +kernel
theorem dL_law_253 : decode cL_law 253 = .ok (.iaload, 1) := by decide +kernel
theorem dL_law_254 : decode cL_law 254 = .ok (.aload_n 0, 1) := by decide +kernel
theorem dL_law_255 : decode cL_law 255 = .ok (.iload 4, 2) := by decide +kernel
theorem dL_law_257 : decode cL_law 257 = .ok (.iconst 2, 1) := by decide +kernel
theorem dL_law_258 : decode cL_law 258 = .ok (.iadd, 1) := by decide +kernel
theorem dL_law_259 : decode cL_law 259 = .ok (.iaload, 1) := by decide +kernel
theorem dL_law_260 : decode cL_law 260 = .ok (.invokevirtual 93, 3) := by decide +kernel
theorem dL_law_263 : decode cL_law 263 = .ok (.istore 6, 2) := by decide +kernel
theorem dL_law_265 : decode cL_law 265 = .ok (.aload_n 2, 1) := by decide +kernel
theorem dL_law_266 : decode cL_law 266 = .ok (.invokevirtual 86, 3) := by decide +kernel
theorem dL_law_269 : decode cL_law 269 = .ok (.iload 5, 2) := by decide +kernel
theorem dL_law_271 : decode cL_law 271 = .ok (.if_icmp .eq 5, 3) := by decide +kernel
theorem dL_law_274 : decode cL_law 274 = .ok (.iconst 0, 1) := by decide +kernel
theorem dL_law_275 : decode cL_law 275 = .ok (.ireturn, 1) := by decide +kernel
theorem dL_law_276 : decode cL_law 276 = .ok (.iload 5, 2) := by decide +kernel
theorem dL_law_278 : decode cL_law 278 = .ok (.ifCond .ne 15, 3) := by decide +kernel
theorem dL_law_281 : decode cL_law 281 = .ok (.aload_n 3, 1) := by decide +kernel
theorem dL_law_282 : decode cL_law 282 = .ok (.iconst 0, 1) := by decide +kernel
theorem dL_law_283 : decode cL_law 283 = .ok (.laload, 1) := by decide +kernel
theorem dL_law_284 : decode cL_law 284 = .ok (.iload 6, 2) := by decide +kernel
theorem dL_law_286 : decode cL_law 286 = .ok (.i2l, 1) := by decide +kernel
theorem dL_law_287 : decode cL_law 287 = .ok (.lcmp, 1) := by decide +kernel
theorem dL_law_288 : decode cL_law 288 = .ok (.ifCond .eq 5, 3) := by decide +kernel
theorem dL_law_291 : decode cL_law 291 = .ok (.iconst 0, 1) := by decide +kernel
theorem dL_law_292 : decode cL_law 292 = .ok (.ireturn, 1) := by decide +kernel
theorem dL_law_293 : decode cL_law 293 = .ok (.goto 1082, 3) := by decide +kernel
theorem dL_law_296 : decode cL_law 296 = .ok (.aload_n 1, 1) := by decide +kernel
theorem dL_law_297 : decode cL_law 297 = .ok (.aload_n 0, 1) := by decide +kernel
theorem dL_law_298 : decode cL_law 298 = .ok (.iload 4, 2) := by decide +kernel
theorem dL_law_300 : decode cL_law 300 = .ok (.iconst 1, 1) := by decide +kernel
theorem dL_law_301 : decode cL_law 301 = .ok (.iadd, 1) := by decide +kernel
theorem dL_law_302 : decode cL_law 302 = .ok (.iaload, 1) := by decide +kernel
theorem dL_law_303 : decode cL_law 303 = .ok (.aload_n 0, 1) := by decide +kernel
theorem dL_law_304 : decode cL_law 304 = .ok (.iload 4, 2) := by decide +kernel
theorem dL_law_306 : decode cL_law 306 = .ok (.iconst 2, 1) := by decide +kernel
theorem dL_law_307 : decode cL_law 307 = .ok (.iadd, 1) := by decide +kernel
theorem dL_law_308 : decode cL_law 308 = .ok (.iaload, 1) := by decide +kernel
theorem dL_law_309 : decode cL_law 309 = .ok (.aload_n 3, 1) := by decide +kernel
theorem dL_law_310 : decode cL_law 310 = .ok (.invokestatic 94, 3) := by decide +kernel
theorem dL_law_313 : decode cL_law 313 = .ok (.istore 5, 2) := by decide +kernel
theorem dL_law_315 : decode cL_law 315 = .ok (.aload_n 2, 1) := by decide +kernel
theorem dL_law_316 : decode cL_law 316 = .ok (.aload_n 0, 1) := by decide +kernel
theorem dL_law_317 : decode cL_law 317 = .ok (.iload 4, 2) := by decide +kernel
theorem dL_law_319 : decode cL_law 319 = .ok (.iconst 1, 1) := by decide +kernel
theorem dL_law_320 : decode cL_law 320 = .ok (.iadd, 1) := by decide +kernel
theorem dL_law_321 : decode cL_law 321 = .ok (.iaload, 1) := by decide +kernel
theorem dL_law_322 : decode cL_law 322 = .ok (.aload_n 0, 1) := by decide +kernel
theorem dL_law_323 : decode cL_law 323 = .ok (.iload 4, 2) := by decide +kernel
theorem dL_law_325 : decode cL_law 325 = .ok (.iconst 2, 1) := by decide +kernel
theorem dL_law_326 : decode cL_law 326 = .ok (.iadd, 1) := by decide +kernel
theorem dL_law_327 : decode cL_law 327 = .ok (.iaload, 1) := by decide +kernel
theorem dL_law_328 : decode cL_law 328 = .ok (.invokevirtual 96, 3) := by decide +kernel
theorem dL_law_331 : decode cL_law 331 = .ok (.istore 6, 2) := by decide +kernel
theorem dL_law_333 : decode cL_law 333 = .ok (.aload_n 2, 1) := by decide +kernel
theorem dL_law_334 : decode cL_law 334 = .ok (.invokevirtual 86, 3) := by decide +kernel
theorem dL_law_337 : decode cL_law 337 = .ok (.iload 5, 2) := by decide +kernel
theorem dL_law_339 : decode cL_law 339 = .ok (.if_icmp .eq 5, 3) := by decide +kernel
theorem dL_law_342 : decode cL_law 342 = .ok (.iconst 0, 1) := by decide +kernel
theorem dL_law_343 : decode cL_law 343 = .ok (.ireturn, 1) := by decide +kernel
theorem dL_law_344 : decode cL_law 344 = .ok (.iload 5, 2) := by decide +kernel
theorem dL_law_346 : decode cL_law 346 = .ok (.ifCond .ne 15, 3) := by decide +kernel
theorem dL_law_349 : decode cL_law 349 = .ok (.aload_n 3, 1) := by decide +kernel
theorem dL_law_350 : decode cL_law 350 = .ok (.iconst 0, 1) := by decide +kernel
theorem dL_law_351 : decode cL_law 351 = .ok (.laload, 1) := by decide +kernel
theorem dL_law_352 : decode cL_law 352 = .ok (.iload 6, 2) := by decide +kernel
theorem dL_law_354 : decode cL_law 354 = .ok (.i2l, 1) := by decide +kernel
theorem dL_law_355 : decode cL_law 355 = .ok (.lcmp, 1) := by decide +kernel
theorem dL_law_356 : decode cL_law 356 = .ok (.ifCond .eq 5, 3) := by decide +kernel
theorem dL_law_359 : decode cL_law 359 = .ok (.iconst 0, 1) := by decide +kernel
theorem dL_law_360 : decode cL_law 360 = .ok (.ireturn, 1) := by decide +kernel
theorem dL_law_361 : decode cL_law 361 = .ok (.goto 1014, 3) := by decide +kernel
theorem dL_law_364 : decode cL_law 364 = .ok (.aload_n 1, 1) := by decide +kernel
theorem dL_law_365 : decode cL_law 365 = .ok (.aload_n 0, 1) := by decide +kernel
theorem dL_law_366 : decode cL_law 366 = .ok (.iload 4, 2) := by decide +kernel
theorem dL_law_368 : decode cL_law 368 = .ok (.iconst 1, 1) := by decide +kernel
theorem dL_law_369 : decode cL_law 369 = .ok (.iadd, 1) := by decide +kernel
theorem dL_law_370 : decode cL_law 370 = .ok (.iaload, 1) := by decide +kernel
theorem dL_law_371 : decode cL_law 371 = .ok (.aload_n 0, 1) := by decide +kernel
theorem dL_law_372 : decode cL_law 372 = .ok (.iload 4, 2) := by decide +kernel
theorem dL_law_374 : decode cL_law 374 = .ok (.iconst 2, 1) := by decide +kernel
theorem dL_law_375 : decode cL_law 375 = .ok (.iadd, 1) := by decide +kernel
theorem dL_law_376 : decode cL_law 376 = .ok (.iaload, 1) := by decide +kernel
theorem dL_law_377 : decode cL_law 377 = .ok (.aload_n 0, 1) := by decide +kernel
theorem dL_law_378 : decode cL_law 378 = .ok (.iload 4, 2) := by decide +kernel
theorem dL_law_380 : decode cL_law 380 = .ok (.iconst 3, 1) := by decide +kernel
theorem dL_law_381 : decode cL_law 381 = .ok (.iadd, 1) := by decide +kernel
theorem dL_law_382 : decode cL_law 382 = .ok (.iaload, 1) := by decide +kernel
theorem dL_law_383 : decode cL_law 383 = .ok (.aload_n 3, 1) := by decide +kernel
theorem dL_law_384 : decode cL_law 384 = .ok (.invokestatic 97, 3) := by decide +kernel
theorem dL_law_387 : decode cL_law 387 = .ok (.istore 5, 2) := by decide +kernel
theorem dL_law_389 : decode cL_law 389 = .ok (.aload_n 2, 1) := by decide +kernel
theorem dL_law_390 : decode cL_law 390 = .ok (.aload_n 0, 1) := by decide +kernel
theorem dL_law_391 : decode cL_law 391 = .ok (.iload 4, 2) := by decide +kernel
theorem dL_law_393 : decode cL_law 393 = .ok (.iconst 1, 1) := by decide +kernel
theorem dL_law_394 : decode cL_law 394 = .ok (.iadd, 1) := by decide +kernel
theorem dL_law_395 : decode cL_law 395 = .ok (.iaload, 1) := by decide +kernel
theorem dL_law_396 : decode cL_law 396 = .ok (.aload_n 0, 1) := by decide +kernel
theorem dL_law_397 : decode cL_law 397 = .ok (.iload 4, 2) := by decide +kernel
theorem dL_law_399 : decode cL_law 399 = .ok (.iconst 2, 1) := by decide +kernel
theorem dL_law_400 : decode cL_law 400 = .ok (.iadd, 1) := by decide +kernel
theorem dL_law_401 : decode cL_law 401 = .ok (.iaload, 1) := by decide +kernel
theorem dL_law_402 : decode cL_law 402 = .ok (.aload_n 0, 1) := by decide +kernel
theorem dL_law_403 : decode cL_law 403 = .ok (.iload 4, 2) := by decide +kernel
theorem dL_law_405 : decode cL_law 405 = .ok (.iconst 3, 1) := by decide +kernel
theorem dL_law_406 : decode cL_law 406 = .ok (.iadd, 1) := by decide +kernel
theorem dL_law_407 : decode cL_law 407 = .ok (.iaload, 1) := by decide +kernel
theorem dL_law_408 : decode cL_law 408 = .ok (.invokevirtual 100, 3) := by decide +kernel
theorem dL_law_411 : decode cL_law 411 = .ok (.istore 6, 2) := by decide +kernel
theorem dL_law_413 : decode cL_law 413 = .ok (.aload_n 2, 1) := by decide +kernel
theorem dL_law_414 : decode cL_law 414 = .ok (.invokevirtual 86, 3) := by decide +kernel
theorem dL_law_417 : decode cL_law 417 = .ok (.iload 5, 2) := by decide +kernel
theorem dL_law_419 : decode cL_law 419 = .ok (.if_icmp .eq 5, 3) := by decide +kernel
theorem dL_law_422 : decode cL_law 422 = .ok (.iconst 0, 1) := by decide +kernel
theorem dL_law_423 : decode cL_law 423 = .ok (.ireturn, 1) := by decide +kernel
theorem dL_law_424 : decode cL_law 424 = .ok (.iload 5, 2) := by decide +kernel
theorem dL_law_426 : decode cL_law 426 = .ok (.ifCond .ne 15, 3) := by decide +kernel
theorem dL_law_429 : decode cL_law 429 = .ok (.aload_n 3, 1) := by decide +kernel
theorem dL_law_430 : decode cL_law 430 = .ok (.iconst 0, 1) := by decide +kernel
theorem dL_law_431 : decode cL_law 431 = .ok (.laload, 1) := by decide +kernel
theorem dL_law_432 : decode cL_law 432 = .ok (.iload 6, 2) := by decide +kernel
theorem dL_law_434 : decode cL_law 434 = .ok (.i2l, 1) := by decide +kernel
theorem dL_law_435 : decode cL_law 435 = .ok (.lcmp, 1) := by decide +kernel
theorem dL_law_436 : decode cL_law 436 = .ok (.ifCond .eq 5, 3) := by decide +kernel
theorem dL_law_439 : decode cL_law 439 = .ok (.iconst 0, 1) := by decide +kernel
theorem dL_law_440 : decode cL_law 440 = .ok (.ireturn, 1) := by decide +kernel
theorem dL_law_441 : decode cL_law 441 = .ok (.goto 934, 3) := by decide +kernel
theorem dL_law_444 : decode cL_law 444 = .ok (.aload_n 1, 1) := by decide +kernel
theorem dL_law_445 : decode cL_law 445 = .ok (.aload_n 0, 1) := by decide +kernel
theorem dL_law_446 : decode cL_law 446 = .ok (.iload 4, 2) := by decide +kernel
theorem dL_law_448 : decode cL_law 448 = .ok (.iconst 1, 1) := by decide +kernel
theorem dL_law_449 : decode cL_law 449 = .ok (.iadd, 1) := by decide +kernel
theorem dL_law_450 : decode cL_law 450 = .ok (.iaload, 1) := by decide +kernel
theorem dL_law_451 : decode cL_law 451 = .ok (.aload_n 0, 1) := by decide +kernel
theorem dL_law_452 : decode cL_law 452 = .ok (.iload 4, 2) := by decide +kernel
theorem dL_law_454 : decode cL_law 454 = .ok (.iconst 2, 1) := by decide +kernel
theorem dL_law_455 : decode cL_law 455 = .ok (.iadd, 1) := by decide +kernel
theorem dL_law_456 : decode cL_law 456 = .ok (.iaload, 1) := by decide +kernel
theorem dL_law_457 : decode cL_law 457 = .ok (.aload_n 3, 1) := by decide +kernel
theorem dL_law_458 : decode cL_law 458 = .ok (.invokestatic 101, 3) := by decide +kernel
theorem dL_law_461 : decode cL_law 461 = .ok (.istore 5, 2) := by decide +kernel
theorem dL_law_463 : decode cL_law 463 = .ok (.aload_n 2, 1) := by decide +kernel
theorem dL_law_464 : decode cL_law 464 = .ok (.aload_n 0, 1) := by decide +kernel
theorem dL_law_465 : decode cL_law 465 = .ok (.iload 4, 2) := by decide +kernel
theorem dL_law_467 : decode cL_law 467 = .ok (.iconst 1, 1) := by decide +kernel
theorem dL_law_468 : decode cL_law 468 = .ok (.iadd, 1) := by decide +kernel
theorem dL_law_469 : decode cL_law 469 = .ok (.iaload, 1) := by decide +kernel
theorem dL_law_470 : decode cL_law 470 = .ok (.aload_n 0, 1) := by decide +kernel
theorem dL_law_471 : decode cL_law 471 = .ok (.iload 4, 2) := by decide +kernel
theorem dL_law_473 : decode cL_law 473 = .ok (.iconst 2, 1) := by decide +kernel
theorem dL_law_474 : decode cL_law 474 = .ok (.iadd, 1) := by decide +kernel
theorem dL_law_475 : decode cL_law 475 = .ok (.iaload, 1) := by decide +kernel
theorem dL_law_476 : decode cL_law 476 = .ok (.invokevirtual 103, 3) := by decide +kernel
theorem dL_law_479 : decode cL_law 479 = .ok (.istore 6, 2) := by decide +kernel
theorem dL_law_481 : decode cL_law 481 = .ok (.aload_n 2, 1) := by decide +kernel
theorem dL_law_482 : decode cL_law 482 = .ok (.invokevirtual 86, 3) := by decide +kernel
theorem dL_law_485 : decode cL_law 485 = .ok (.iload 5, 2) := by decide +kernel
theorem dL_law_487 : decode cL_law 487 = .ok (.if_icmp .eq 5, 3) := by decide +kernel
theorem dL_law_490 : decode cL_law 490 = .ok (.iconst 0, 1) := by decide +kernel
theorem dL_law_491 : decode cL_law 491 = .ok (.ireturn, 1) := by decide +kernel
theorem dL_law_492 : decode cL_law 492 = .ok (.iload 5, 2) := by decide +kernel
theorem dL_law_494 : decode cL_law 494 = .ok (.ifCond .ne 15, 3) := by decide +kernel
theorem dL_law_497 : decode cL_law 497 = .ok (.aload_n 3, 1) := by decide +kernel
theorem dL_law_498 : decode cL_law 498 = .ok (.iconst 0, 1) := by decide +kernel
theorem dL_law_499 : decode cL_law 499 = .ok (.laload, 1) := by decide +kernel
theorem dL_law_500 : decode cL_law 500 = .ok (.iload 6, 2) := by decide +kernel
theorem dL_law_502 : decode cL_law 502 = .ok (.i2l, 1) := by decide +kernel
theorem dL_law_503 : decode cL_law 503 = .ok (.lcmp, 1) := by decide +kernel
theorem dL_law_504 : decode cL_law 504 = .ok (.ifCond .eq 5, 3) := by decide +kernel
theorem dL_law_507 : decode cL_law 507 = .ok (.iconst 0, 1) := by decide +kernel
theorem dL_law_508 : decode cL_law 508 = .ok (.ireturn, 1) := by decide +kernel
theorem dL_law_509 : decode cL_law 509 = .ok (.goto 866, 3) := by decide +kernel
theorem dL_law_512 : decode cL_law 512 = .ok (.aload_n 1, 1) := by decide +kernel
theorem dL_law_513 : decode cL_law 513 = .ok (.aload_n 0, 1) := by decide +kernel
theorem dL_law_514 : decode cL_law 514 = .ok (.iload 4, 2) := by decide +kernel
theorem dL_law_516 : decode cL_law 516 = .ok (.iconst 1, 1) := by decide +kernel
theorem dL_law_517 : decode cL_law 517 = .ok (.iadd, 1) := by decide +kernel
theorem dL_law_518 : decode cL_law 518 = .ok (.iaload, 1) := by decide +kernel
theorem dL_law_519 : decode cL_law 519 = .ok (.aload_n 0, 1) := by decide +kernel
theorem dL_law_520 : decode cL_law 520 = .ok (.iload 4, 2) := by decide +kernel
theorem dL_law_522 : decode cL_law 522 = .ok (.iconst 2, 1) := by decide +kernel
theorem dL_law_523 : decode cL_law 523 = .ok (.iadd, 1) := by decide +kernel
theorem dL_law_524 : decode cL_law 524 = .ok (.iaload, 1) := by decide +kernel
theorem dL_law_525 : decode cL_law 525 = .ok (.aload_n 3, 1) := by decide +kernel
theorem dL_law_526 : decode cL_law 526 = .ok (.invokestatic 104, 3) := by decide +kernel
theorem dL_law_529 : decode cL_law 529 = .ok (.istore 5, 2) := by decide +kernel
theorem dL_law_531 : decode cL_law 531 = .ok (.aload_n 2, 1) := by decide +kernel
theorem dL_law_532 : decode cL_law 532 = .ok (.aload_n 0, 1) := by decide +kernel
theorem dL_law_533 : decode cL_law 533 = .ok (.iload 4, 2) := by decide +kernel
theorem dL_law_535 : decode cL_law 535 = .ok (.iconst 1, 1) := by decide +kernel
theorem dL_law_536 : decode cL_law 536 = .ok (.iadd, 1) := by decide +kernel
theorem dL_law_537 : decode cL_law 537 = .ok (.iaload, 1) := by decide +kernel
theorem dL_law_538 : decode cL_law 538 = .ok (.aload_n 0, 1) := by decide +kernel
theorem dL_law_539 : decode cL_law 539 = .ok (.iload 4, 2) := by decide +kernel
theorem dL_law_541 : decode cL_law 541 = .ok (.iconst 2, 1) := by decide +kernel
theorem dL_law_542 : decode cL_law 542 = .ok (.iadd, 1) := by decide +kernel
theorem dL_law_543 : decode cL_law 543 = .ok (.iaload, 1) := by decide +kernel
theorem dL_law_544 : decode cL_law 544 = .ok (.invokevirtual 106, 3) := by decide +kernel
theorem dL_law_547 : decode cL_law 547 = .ok (.istore 6, 2) := by decide +kernel
theorem dL_law_549 : decode cL_law 549 = .ok (.aload_n 2, 1) := by decide +kernel
theorem dL_law_550 : decode cL_law 550 = .ok (.invokevirtual 86, 3) := by decide +kernel
theorem dL_law_553 : decode cL_law 553 = .ok (.iload 5, 2) := by decide +kernel
theorem dL_law_555 : decode cL_law 555 = .ok (.if_icmp .eq 5, 3) := by decide +kernel
theorem dL_law_558 : decode cL_law 558 = .ok (.iconst 0, 1) := by decide +kernel
theorem dL_law_559 : decode cL_law 559 = .ok (.ireturn, 1) := by decide +kernel
theorem dL_law_560 : decode cL_law 560 = .ok (.iload 5, 2) := by decide +kernel
theorem dL_law_562 : decode cL_law 562 = .ok (.ifCond .ne 15, 3) := by decide +kernel
theorem dL_law_565 : decode cL_law 565 = .ok (.aload_n 3, 1) := by decide +kernel
theorem dL_law_566 : decode cL_law 566 = .ok (.iconst 0, 1) := by decide +kernel
theorem dL_law_567 : decode cL_law 567 = .ok (.laload, 1) := by decide +kernel
theorem dL_law_568 : decode cL_law 568 = .ok (.iload 6, 2) := by decide +kernel
theorem dL_law_570 : decode cL_law 570 = .ok (.i2l, 1) := by decide +kernel
theorem dL_law_571 : decode cL_law 571 = .ok (.lcmp, 1) := by decide +kernel
theorem dL_law_572 : decode cL_law 572 = .ok (.ifCond .eq 5, 3) := by decide +kernel
theorem dL_law_575 : decode cL_law 575 = .ok (.iconst 0, 1) := by decide +kernel
theorem dL_law_576 : decode cL_law 576 = .ok (.ireturn, 1) := by decide +kernel
theorem dL_law_577 : decode cL_law 577 = .ok (.goto 798, 3) := by decide +kernel
theorem dL_law_580 : decode cL_law 580 = .ok (.aload_n 1, 1) := by decide +kernel
theorem dL_law_581 : decode cL_law 581 = .ok (.aload_n 0, 1) := by decide +kernel
theorem dL_law_582 : decode cL_law 582 = .ok (.iload 4, 2) := by decide +kernel
theorem dL_law_584 : decode cL_law 584 = .ok (.iconst 1, 1) := by decide +kernel
theorem dL_law_585 : decode cL_law 585 = .ok (.iadd, 1) := by decide +kernel
theorem dL_law_586 : decode cL_law 586 = .ok (.iaload, 1) := by decide +kernel
theorem dL_law_587 : decode cL_law 587 = .ok (.aload_n 0, 1) := by decide +kernel
theorem dL_law_588 : decode cL_law 588 = .ok (.iload 4, 2) := by decide +kernel
theorem dL_law_590 : decode cL_law 590 = .ok (.iconst 2, 1) := by decide +kernel
theorem dL_law_591 : decode cL_law 591 = .ok (.iadd, 1) := by decide +kernel
theorem dL_law_592 : decode cL_law 592 = .ok (.iaload, 1) := by decide +kernel
theorem dL_law_593 : decode cL_law 593 = .ok (.aload_n 0, 1) := by decide +kernel
theorem dL_law_594 : decode cL_law 594 = .ok (.iload 4, 2) := by decide +kernel
theorem dL_law_596 : decode cL_law 596 = .ok (.iconst 3, 1) := by decide +kernel
theorem dL_law_597 : decode cL_law 597 = .ok (.iadd, 1) := by decide +kernel
theorem dL_law_598 : decode cL_law 598 = .ok (.iaload, 1) := by decide +kernel
theorem dL_law_599 : decode cL_law 599 = .ok (.aload_n 0, 1) := by decide +kernel
theorem dL_law_600 : decode cL_law 600 = .ok (.iload 4, 2) := by decide +kernel
theorem dL_law_602 : decode cL_law 602 = .ok (.iconst 4, 1) := by decide +kernel
theorem dL_law_603 : decode cL_law 603 = .ok (.iadd, 1) := by decide +kernel
theorem dL_law_604 : decode cL_law 604 = .ok (.iaload, 1) := by decide +kernel
theorem dL_law_605 : decode cL_law 605 = .ok (.aload_n 3, 1) := by decide +kernel
theorem dL_law_606 : decode cL_law 606 = .ok (.invokestatic 107, 3) := by decide +kernel
theorem dL_law_609 : decode cL_law 609 = .ok (.istore 5, 2) := by decide +kernel
theorem dL_law_611 : decode cL_law 611 = .ok (.aload_n 2, 1) := by decide +kernel
theorem dL_law_612 : decode cL_law 612 = .ok (.aload_n 0, 1) := by decide +kernel
theorem dL_law_613 : decode cL_law 613 = .ok (.iload 4, 2) := by decide +kernel
theorem dL_law_615 : decode cL_law 615 = .ok (.iconst 1, 1) := by decide +kernel
theorem dL_law_616 : decode cL_law 616 = .ok (.iadd, 1) := by decide +kernel
theorem dL_law_617 : decode cL_law 617 = .ok (.iaload, 1) := by decide +kernel
theorem dL_law_618 : decode cL_law 618 = .ok (.aload_n 0, 1) := by decide +kernel
theorem dL_law_619 : decode cL_law 619 = .ok (.iload 4, 2) := by decide +kernel
theorem dL_law_621 : decode cL_law 621 = .ok (.iconst 2, 1) := by decide +kernel
theorem dL_law_622 : decode cL_law 622 = .ok (.iadd, 1) := by decide +kernel
theorem dL_law_623 : decode cL_law 623 = .ok (.iaload, 1) := by decide +kernel
theorem dL_law_624 : decode cL_law 624 = .ok (.aload_n 0, 1) := by decide +kernel
theorem dL_law_625 : decode cL_law 625 = .ok (.iload 4, 2) := by decide +kernel
theorem dL_law_627 : decode cL_law 627 = .ok (.iconst 3, 1) := by decide +kernel
theorem dL_law_628 : decode cL_law 628 = .ok (.iadd, 1) := by decide +kernel
theorem dL_law_629 : decode cL_law 629 = .ok (.iaload, 1) := by decide +kernel
theorem dL_law_630 : decode cL_law 630 = .ok (.aload_n 0, 1) := by decide +kernel
theorem dL_law_631 : decode cL_law 631 = .ok (.iload 4, 2) := by decide +kernel
theorem dL_law_633 : decode cL_law 633 = .ok (.iconst 4, 1) := by decide +kernel
theorem dL_law_634 : decode cL_law 634 = .ok (.iadd, 1) := by decide +kernel
theorem dL_law_635 : decode cL_law 635 = .ok (.iaload, 1) := by decide +kernel
theorem dL_law_636 : decode cL_law 636 = .ok (.invokevirtual 109, 3) := by decide +kernel
theorem dL_law_639 : decode cL_law 639 = .ok (.istore 6, 2) := by decide +kernel
theorem dL_law_641 : decode cL_law 641 = .ok (.aload_n 2, 1) := by decide +kernel
theorem dL_law_642 : decode cL_law 642 = .ok (.invokevirtual 86, 3) := by decide +kernel
theorem dL_law_645 : decode cL_law 645 = .ok (.iload 5, 2) := by decide +kernel
theorem dL_law_647 : decode cL_law 647 = .ok (.if_icmp .eq 5, 3) := by decide +kernel
theorem dL_law_650 : decode cL_law 650 = .ok (.iconst 0, 1) := by decide +kernel
theorem dL_law_651 : decode cL_law 651 = .ok (.ireturn, 1) := by decide +kernel
theorem dL_law_652 : decode cL_law 652 = .ok (.iload 5, 2) := by decide +kernel
theorem dL_law_654 : decode cL_law 654 = .ok (.ifCond .ne 15, 3) := by decide +kernel
theorem dL_law_657 : decode cL_law 657 = .ok (.aload_n 3, 1) := by decide +kernel
theorem dL_law_658 : decode cL_law 658 = .ok (.iconst 0, 1) := by decide +kernel
theorem dL_law_659 : decode cL_law 659 = .ok (.laload, 1) := by decide +kernel
theorem dL_law_660 : decode cL_law 660 = .ok (.iload 6, 2) := by decide +kernel
theorem dL_law_662 : decode cL_law 662 = .ok (.i2l, 1) := by decide +kernel
theorem dL_law_663 : decode cL_law 663 = .ok (.lcmp, 1) := by decide +kernel
theorem dL_law_664 : decode cL_law 664 = .ok (.ifCond .eq 5, 3) := by decide +kernel
theorem dL_law_667 : decode cL_law 667 = .ok (.iconst 0, 1) := by decide +kernel
theorem dL_law_668 : decode cL_law 668 = .ok (.ireturn, 1) := by decide +kernel
theorem dL_law_669 : decode cL_law 669 = .ok (.goto 706, 3) := by decide +kernel
theorem dL_law_672 : decode cL_law 672 = .ok (.aload_n 1, 1) := by decide +kernel
theorem dL_law_673 : decode cL_law 673 = .ok (.aload_n 0, 1) := by decide +kernel
theorem dL_law_674 : decode cL_law 674 = .ok (.iload 4, 2) := by decide +kernel
theorem dL_law_676 : decode cL_law 676 = .ok (.iconst 1, 1) := by decide +kernel
theorem dL_law_677 : decode cL_law 677 = .ok (.iadd, 1) := by decide +kernel
theorem dL_law_678 : decode cL_law 678 = .ok (.iaload, 1) := by decide +kernel
theorem dL_law_679 : decode cL_law 679 = .ok (.aload_n 0, 1) := by decide +kernel
theorem dL_law_680 : decode cL_law 680 = .ok (.iload 4, 2) := by decide +kernel
theorem dL_law_682 : decode cL_law 682 = .ok (.iconst 2, 1) := by decide +kernel
theorem dL_law_683 : decode cL_law 683 = .ok (.iadd, 1) := by decide +kernel
theorem dL_law_684 : decode cL_law 684 = .ok (.iaload, 1) := by decide +kernel
theorem dL_law_685 : decode cL_law 685 = .ok (.aload_n 3, 1) := by decide +kernel
theorem dL_law_686 : decode cL_law 686 = .ok (.invokestatic 110, 3) := by decide +kernel
theorem dL_law_689 : decode cL_law 689 = .ok (.istore 5, 2) := by decide +kernel
theorem dL_law_691 : decode cL_law 691 = .ok (.aload_n 2, 1) := by decide +kernel
theorem dL_law_692 : decode cL_law 692 = .ok (.aload_n 0, 1) := by decide +kernel
theorem dL_law_693 : decode cL_law 693 = .ok (.iload 4, 2) := by decide +kernel
theorem dL_law_695 : decode cL_law 695 = .ok (.iconst 1, 1) := by decide +kernel
theorem dL_law_696 : decode cL_law 696 = .ok (.iadd, 1) := by decide +kernel
theorem dL_law_697 : decode cL_law 697 = .ok (.iaload, 1) := by decide +kernel
theorem dL_law_698 : decode cL_law 698 = .ok (.aload_n 0, 1) := by decide +kernel
theorem dL_law_699 : decode cL_law 699 = .ok (.iload 4, 2) := by decide +kernel
theorem dL_law_701 : decode cL_law 701 = .ok (.iconst 2, 1) := by decide +kernel
theorem dL_law_702 : decode cL_law 702 = .ok (.iadd, 1) := by decide +kernel
theorem dL_law_703 : decode cL_law 703 = .ok (.iaload, 1) := by decide +kernel
theorem dL_law_704 : decode cL_law 704 = .ok (.invokevirtual 112, 3) := by decide +kernel
theorem dL_law_707 : decode cL_law 707 = .ok (.istore 6, 2) := by decide +kernel
theorem dL_law_709 : decode cL_law 709 = .ok (.aload_n 2, 1) := by decide +kernel
theorem dL_law_710 : decode cL_law 710 = .ok (.invokevirtual 86, 3) := by decide +kernel
theorem dL_law_713 : decode cL_law 713 = .ok (.iload 5, 2) := by decide +kernel
theorem dL_law_715 : decode cL_law 715 = .ok (.if_icmp .eq 5, 3) := by decide +kernel
theorem dL_law_718 : decode cL_law 718 = .ok (.iconst 0, 1) := by decide +kernel
theorem dL_law_719 : decode cL_law 719 = .ok (.ireturn, 1) := by decide +kernel
theorem dL_law_720 : decode cL_law 720 = .ok (.iload 5, 2) := by decide +kernel
theorem dL_law_722 : decode cL_law 722 = .ok (.ifCond .ne 15, 3) := by decide +kernel
theorem dL_law_725 : decode cL_law 725 = .ok (.aload_n 3, 1) := by decide +kernel
theorem dL_law_726 : decode cL_law 726 = .ok (.iconst 0, 1) := by decide +kernel
theorem dL_law_727 : decode cL_law 727 = .ok (.laload, 1) := by decide +kernel
theorem dL_law_728 : decode cL_law 728 = .ok (.iload 6, 2) := by decide +kernel
theorem dL_law_730 : decode cL_law 730 = .ok (.i2l, 1) := by decide +kernel
theorem dL_law_731 : decode cL_law 731 = .ok (.lcmp, 1) := by decide +kernel
theorem dL_law_732 : decode cL_law 732 = .ok (.ifCond .eq 5, 3) := by decide +kernel
theorem dL_law_735 : decode cL_law 735 = .ok (.iconst 0, 1) := by decide +kernel
theorem dL_law_736 : decode cL_law 736 = .ok (.ireturn, 1) := by decide +kernel
theorem dL_law_737 : decode cL_law 737 = .ok (.goto 638, 3) := by decide +kernel
theorem dL_law_740 : decode cL_law 740 = .ok (.aload_n 1, 1) := by decide +kernel
theorem dL_law_741 : decode cL_law 741 = .ok (.aload_n 0, 1) := by decide +kernel
theorem dL_law_742 : decode cL_law 742 = .ok (.iload 4, 2) := by decide +kernel
theorem dL_law_744 : decode cL_law 744 = .ok (.iconst 1, 1) := by decide +kernel
theorem dL_law_745 : decode cL_law 745 = .ok (.iadd, 1) := by decide +kernel
theorem dL_law_746 : decode cL_law 746 = .ok (.iaload, 1) := by decide +kernel
theorem dL_law_747 : decode cL_law 747 = .ok (.aload_n 0, 1) := by decide +kernel
theorem dL_law_748 : decode cL_law 748 = .ok (.iload 4, 2) := by decide +kernel
theorem dL_law_750 : decode cL_law 750 = .ok (.iconst 2, 1) := by decide +kernel
theorem dL_law_751 : decode cL_law 751 = .ok (.iadd, 1) := by decide +kernel
theorem dL_law_752 : decode cL_law 752 = .ok (.iaload, 1) := by decide +kernel
theorem dL_law_753 : decode cL_law 753 = .ok (.ifCond .eq 7, 3) := by decide +kernel
theorem dL_law_756 : decode cL_law 756 = .ok (.iconst 1, 1) := by decide +kernel
theorem dL_law_757 : decode cL_law 757 = .ok (.goto 4, 3) := by decide +kernel
theorem dL_law_760 : decode cL_law 760 = .ok (.iconst 0, 1) := by decide +kernel
theorem dL_law_761 : decode cL_law 761 = .ok (.aload_n 3, 1) := by decide +kernel
theorem dL_law_762 : decode cL_law 762 = .ok (.invokestatic 113, 3) := by decide +kernel
theorem dL_law_765 : decode cL_law 765 = .ok (.istore 5, 2) := by decide +kernel
theorem dL_law_767 : decode cL_law 767 = .ok (.aload_n 2, 1) := by decide +kernel
theorem dL_law_768 : decode cL_law 768 = .ok (.aload_n 0, 1) := by decide +kernel
theorem dL_law_769 : decode cL_law 769 = .ok (.iload 4, 2) := by decide +kernel
theorem dL_law_771 : decode cL_law 771 = .ok (.iconst 1, 1) := by decide +kernel
theorem dL_law_772 : decode cL_law 772 = .ok (.iadd, 1) := by decide +kernel
theorem dL_law_773 : decode cL_law 773 = .ok (.iaload, 1) := by decide +kernel
theorem dL_law_774 : decode cL_law 774 = .ok (.aload_n 0, 1) := by decide +kernel
theorem dL_law_775 : decode cL_law 775 = .ok (.iload 4, 2) := by decide +kernel
theorem dL_law_777 : decode cL_law 777 = .ok (.iconst 2, 1) := by decide +kernel
theorem dL_law_778 : decode cL_law 778 = .ok (.iadd, 1) := by decide +kernel
theorem dL_law_779 : decode cL_law 779 = .ok (.iaload, 1) := by decide +kernel
theorem dL_law_780 : decode cL_law 780 = .ok (.ifCond .eq 7, 3) := by decide +kernel
theorem dL_law_783 : decode cL_law 783 = .ok (.iconst 1, 1) := by decide +kernel
theorem dL_law_784 : decode cL_law 784 = .ok (.goto 4, 3) := by decide +kernel
theorem dL_law_787 : decode cL_law 787 = .ok (.iconst 0, 1) := by decide +kernel
theorem dL_law_788 : decode cL_law 788 = .ok (.invokevirtual 116, 3) := by decide +kernel
theorem dL_law_791 : decode cL_law 791 = .ok (.istore 6, 2) := by decide +kernel
theorem dL_law_793 : decode cL_law 793 = .ok (.aload_n 2, 1) := by decide +kernel
theorem dL_law_794 : decode cL_law 794 = .ok (.invokevirtual 86, 3) := by decide +kernel
theorem dL_law_797 : decode cL_law 797 = .ok (.iload 5, 2) := by decide +kernel
theorem dL_law_799 : decode cL_law 799 = .ok (.if_icmp .eq 5, 3) := by decide +kernel
theorem dL_law_802 : decode cL_law 802 = .ok (.iconst 0, 1) := by decide +kernel
theorem dL_law_803 : decode cL_law 803 = .ok (.ireturn, 1) := by decide +kernel
theorem dL_law_804 : decode cL_law 804 = .ok (.iload 5, 2) := by decide +kernel
theorem dL_law_806 : decode cL_law 806 = .ok (.ifCond .ne 15, 3) := by decide +kernel
theorem dL_law_809 : decode cL_law 809 = .ok (.aload_n 3, 1) := by decide +kernel
theorem dL_law_810 : decode cL_law 810 = .ok (.iconst 0, 1) := by decide +kernel
theorem dL_law_811 : decode cL_law 811 = .ok (.laload, 1) := by decide +kernel
theorem dL_law_812 : decode cL_law 812 = .ok (.iload 6, 2) := by decide +kernel
theorem dL_law_814 : decode cL_law 814 = .ok (.i2l, 1) := by decide +kernel
theorem dL_law_815 : decode cL_law 815 = .ok (.lcmp, 1) := by decide +kernel
theorem dL_law_816 : decode cL_law 816 = .ok (.ifCond .eq 5, 3) := by decide +kernel
theorem dL_law_819 : decode cL_law 819 = .ok (.iconst 0, 1) := by decide +kernel
theorem dL_law_820 : decode cL_law 820 = .ok (.ireturn, 1) := by decide +kernel
theorem dL_law_821 : decode cL_law 821 = .ok (.goto 554, 3) := by decide +kernel
theorem dL_law_824 : decode cL_law 824 = .ok (.aload_n 1, 1) := by decide +kernel
theorem dL_law_825 : decode cL_law 825 = .ok (.aload_n 0, 1) := by decide +kernel
theorem dL_law_826 : decode cL_law 826 = .ok (.iload 4, 2) := by decide +kernel
theorem dL_law_828 : decode cL_law 828 = .ok (.iconst 1, 1) := by decide +kernel
theorem dL_law_829 : decode cL_law 829 = .ok (.iadd, 1) := by decide +kernel
theorem dL_law_830 : decode cL_law 830 = .ok (.iaload, 1) := by decide +kernel
theorem dL_law_831 : decode cL_law 831 = .ok (.aload_n 3, 1) := by decide +kernel
theorem dL_law_832 : decode cL_law 832 = .ok (.invokestatic 117, 3) := by decide +kernel
theorem dL_law_835 : decode cL_law 835 = .ok (.istore 5, 2) := by decide +kernel
theorem dL_law_837 : decode cL_law 837 = .ok (.aload_n 2, 1) := by decide +kernel
theorem dL_law_838 : decode cL_law 838 = .ok (.aload_n 0, 1) := by decide +kernel
theorem dL_law_839 : decode cL_law 839 = .ok (.iload 4, 2) := by decide +kernel
theorem dL_law_841 : decode cL_law 841 = .ok (.iconst 1, 1) := by decide +kernel
theorem dL_law_842 : decode cL_law 842 = .ok (.iadd, 1) := by decide +kernel
theorem dL_law_843 : decode cL_law 843 = .ok (.iaload, 1) := by decide +kernel
theorem dL_law_844 : decode cL_law 844 = .ok (.invokevirtual 120, 3) := by decide +kernel
theorem dL_law_847 : decode cL_law 847 = .ok (.istore 6, 2) := by decide +kernel
theorem dL_law_849 : decode cL_law 849 = .ok (.aload_n 2, 1) := by decide +kernel
theorem dL_law_850 : decode cL_law 850 = .ok (.invokevirtual 86, 3) := by decide +kernel
theorem dL_law_853 : decode cL_law 853 = .ok (.iload 5, 2) := by decide +kernel
theorem dL_law_855 : decode cL_law 855 = .ok (.if_icmp .eq 5, 3) := by decide +kernel
theorem dL_law_858 : decode cL_law 858 = .ok (.iconst 0, 1) := by decide +kernel
theorem dL_law_859 : decode cL_law 859 = .ok (.ireturn, 1) := by decide +kernel
theorem dL_law_860 : decode cL_law 860 = .ok (.iload 5, 2) := by decide +kernel
theorem dL_law_862 : decode cL_law 862 = .ok (.ifCond .ne 22, 3) := by decide +kernel
theorem dL_law_865 : decode cL_law 865 = .ok (.aload_n 3, 1) := by decide +kernel
theorem dL_law_866 : decode cL_law 866 = .ok (.iconst 0, 1) := by decide +kernel
theorem dL_law_867 : decode cL_law 867 = .ok (.laload, 1) := by decide +kernel
theorem dL_law_868 : decode cL_law 868 = .ok (.iload 6, 2) := by decide +kernel
theorem dL_law_870 : decode cL_law 870 = .ok (.ifCond .eq 7, 3) := by decide +kernel
theorem dL_law_873 : decode cL_law 873 = .ok (.lconst 1, 1) := by decide +kernel
theorem dL_law_874 : decode cL_law 874 = .ok (.goto 4, 3) := by decide +kernel
theorem dL_law_877 : decode cL_law 877 = .ok (.lconst 0, 1) := by decide +kernel
theorem dL_law_878 : decode cL_law 878 = .ok (.lcmp, 1) := by decide +kernel
theorem dL_law_879 : decode cL_law 879 = .ok (.ifCond .eq 5, 3) := by decide +kernel
theorem dL_law_882 : decode cL_law 882 = .ok (.iconst 0, 1) := by decide +kernel
theorem dL_law_883 : decode cL_law 883 = .ok (.ireturn, 1) := by decide +kernel
theorem dL_law_884 : decode cL_law 884 = .ok (.goto 491, 3) := by decide +kernel
theorem dL_law_887 : decode cL_law 887 = .ok (.aload_n 1, 1) := by decide +kernel
theorem dL_law_888 : decode cL_law 888 = .ok (.aload_n 0, 1) := by decide +kernel
theorem dL_law_889 : decode cL_law 889 = .ok (.iload 4, 2) := by decide +kernel
theorem dL_law_891 : decode cL_law 891 = .ok (.iconst 1, 1) := by decide +kernel
theorem dL_law_892 : decode cL_law 892 = .ok (.iadd, 1) := by decide +kernel
theorem dL_law_893 : decode cL_law 893 = .ok (.iaload, 1) := by decide +kernel
theorem dL_law_894 : decode cL_law 894 = .ok (.aload_n 3, 1) := by decide +kernel
theorem dL_law_895 : decode cL_law 895 = .ok (.invokestatic 121, 3) := by decide +kernel
theorem dL_law_898 : decode cL_law 898 = .ok (.istore 5, 2) := by decide +kernel
theorem dL_law_900 : decode cL_law 900 = .ok (.aload_n 2, 1) := by decide +kernel
theorem dL_law_901 : decode cL_law 901 = .ok (.aload_n 0, 1) := by decide +kernel
theorem dL_law_902 : decode cL_law 902 = .ok (.iload 4, 2) := by decide +kernel
theorem dL_law_904 : decode cL_law 904 = .ok (.iconst 1, 1) := by decide +kernel
theorem dL_law_905 : decode cL_law 905 = .ok (.iadd, 1) := by decide +kernel
theorem dL_law_906 : decode cL_law 906 = .ok (.iaload, 1) := by decide +kernel
theorem dL_law_907 : decode cL_law 907 = .ok (.invokevirtual 123, 3) := by decide +kernel
theorem dL_law_910 : decode cL_law 910 = .ok (.istore 6, 2) := by decide +kernel
theorem dL_law_912 : decode cL_law 912 = .ok (.aload_n 2, 1) := by decide +kernel
theorem dL_law_913 : decode cL_law 913 = .ok (.invokevirtual 86, 3) := by decide +kernel
theorem dL_law_916 : decode cL_law 916 = .ok (.iload 5, 2) := by decide +kernel
theorem dL_law_918 : decode cL_law 918 = .ok (.if_icmp .eq 5, 3) := by decide +kernel
theorem dL_law_921 : decode cL_law 921 = .ok (.iconst 0, 1) := by decide +kernel
theorem dL_law_922 : decode cL_law 922 = .ok (.ireturn, 1) := by decide +kernel
theorem dL_law_923 : decode cL_law 923 = .ok (.iload 5, 2) := by decide +kernel
theorem dL_law_925 : decode cL_law 925 = .ok (.ifCond .ne 15, 3) := by decide +kernel
theorem dL_law_928 : decode cL_law 928 = .ok (.aload_n 3, 1) := by decide +kernel
theorem dL_law_929 : decode cL_law 929 = .ok (.iconst 0, 1) := by decide +kernel
theorem dL_law_930 : decode cL_law 930 = .ok (.laload, 1) := by decide +kernel
theorem dL_law_931 : decode cL_law 931 = .ok (.iload 6, 2) := by decide +kernel
theorem dL_law_933 : decode cL_law 933 = .ok (.i2l, 1) := by decide +kernel
theorem dL_law_934 : decode cL_law 934 = .ok (.lcmp, 1) := by decide +kernel
theorem dL_law_935 : decode cL_law 935 = .ok (.ifCond .eq 5, 3) := by decide +kernel
theorem dL_law_938 : decode cL_law 938 = .ok (.iconst 0, 1) := by decide +kernel
theorem dL_law_939 : decode cL_law 939 = .ok (.ireturn, 1) := by decide +kernel
theorem dL_law_940 : decode cL_law 940 = .ok (.goto 435, 3) := by decide +kernel
theorem dL_law_943 : decode cL_law 943 = .ok (.aload_n 1, 1) := by decide +kernel
theorem dL_law_944 : decode cL_law 944 = .ok (.aload_n 0, 1) := by decide +kernel
theorem dL_law_945 : decode cL_law 945 = .ok (.iload 4, 2) := by decide +kernel
theorem dL_law_947 : decode cL_law 947 = .ok (.iconst 1, 1) := by decide +kernel
theorem dL_law_948 : decode cL_law 948 = .ok (.iadd, 1) := by decide +kernel
theorem dL_law_949 : decode cL_law 949 = .ok (.iaload, 1) := by decide +kernel
theorem dL_law_950 : decode cL_law 950 = .ok (.aload_n 0, 1) := by decide +kernel
theorem dL_law_951 : decode cL_law 951 = .ok (.iload 4, 2) := by decide +kernel
theorem dL_law_953 : decode cL_law 953 = .ok (.iconst 2, 1) := by decide +kernel
theorem dL_law_954 : decode cL_law 954 = .ok (.iadd, 1) := by decide +kernel
theorem dL_law_955 : decode cL_law 955 = .ok (.iaload, 1) := by decide +kernel
theorem dL_law_956 : decode cL_law 956 = .ok (.aload_n 3, 1) := by decide +kernel
theorem dL_law_957 : decode cL_law 957 = .ok (.invokestatic 124, 3) := by decide +kernel
theorem dL_law_960 : decode cL_law 960 = .ok (.istore 5, 2) := by decide +kernel
theorem dL_law_962 : decode cL_law 962 = .ok (.aload_n 2, 1) := by decide +kernel
theorem dL_law_963 : decode cL_law 963 = .ok (.aload_n 0, 1) := by decide +kernel
theorem dL_law_964 : decode cL_law 964 = .ok (.iload 4, 2) := by decide +kernel
theorem dL_law_966 : decode cL_law 966 = .ok (.iconst 1, 1) := by decide +kernel
theorem dL_law_967 : decode cL_law 967 = .ok (.iadd, 1) := by decide +kernel
theorem dL_law_968 : decode cL_law 968 = .ok (.iaload, 1) := by decide +kernel
theorem dL_law_969 : decode cL_law 969 = .ok (.aload_n 0, 1) := by decide +kernel
theorem dL_law_970 : decode cL_law 970 = .ok (.iload 4, 2) := by decide +kernel
theorem dL_law_972 : decode cL_law 972 = .ok (.iconst 2, 1) := by decide +kernel
theorem dL_law_973 : decode cL_law 973 = .ok (.iadd, 1) := by decide +kernel
theorem dL_law_974 : decode cL_law 974 = .ok (.iaload, 1) := by decide +kernel
theorem dL_law_975 : decode cL_law 975 = .ok (.invokevirtual 126, 3) := by decide +kernel
theorem dL_law_978 : decode cL_law 978 = .ok (.istore 6, 2) := by decide +kernel
theorem dL_law_980 : decode cL_law 980 = .ok (.aload_n 2, 1) := by decide +kernel
theorem dL_law_981 : decode cL_law 981 = .ok (.invokevirtual 86, 3) := by decide +kernel
theorem dL_law_984 : decode cL_law 984 = .ok (.iload 5, 2) := by decide +kernel
theorem dL_law_986 : decode cL_law 986 = .ok (.if_icmp .eq 5, 3) := by decide +kernel
theorem dL_law_989 : decode cL_law 989 = .ok (.iconst 0, 1) := by decide +kernel
theorem dL_law_990 : decode cL_law 990 = .ok (.ireturn, 1) := by decide +kernel
theorem dL_law_991 : decode cL_law 991 = .ok (.iload 5, 2) := by decide +kernel
theorem dL_law_993 : decode cL_law 993 = .ok (.ifCond .ne 15, 3) := by decide +kernel
theorem dL_law_996 : decode cL_law 996 = .ok (.aload_n 3, 1) := by decide +kernel
theorem dL_law_997 : decode cL_law 997 = .ok (.iconst 0, 1) := by decide +kernel
theorem dL_law_998 : decode cL_law 998 = .ok (.laload, 1) := by decide +kernel
theorem dL_law_999 : decode cL_law 999 = .ok (.iload 6, 2) := by decide +kernel
theorem dL_law_1001 : decode cL_law 1001 = .ok (.i2l, 1) := by decide +kernel
theorem dL_law_1002 : decode cL_law 1002 = .ok (.lcmp, 1) := by decide +kernel
theorem dL_law_1003 : decode cL_law 1003 = .ok (.ifCond .eq 5, 3) := by decide +kernel
theorem dL_law_1006 : decode cL_law 1006 = .ok (.iconst 0, 1) := by decide +kernel
theorem dL_law_1007 : decode cL_law 1007 = .ok (.ireturn, 1) := by decide +kernel
theorem dL_law_1008 : decode cL_law 1008 = .ok (.goto 367, 3) := by decide +kernel
theorem dL_law_1011 : decode cL_law 1011 = .ok (.aload_n 1, 1) := by decide +kernel
theorem dL_law_1012 : decode cL_law 1012 = .ok (.aload_n 0, 1) := by decide +kernel
theorem dL_law_1013 : decode cL_law 1013 = .ok (.iload 4, 2) := by decide +kernel
theorem dL_law_1015 : decode cL_law 1015 = .ok (.iconst 1, 1) := by decide +kernel
theorem dL_law_1016 : decode cL_law 1016 = .ok (.iadd, 1) := by decide +kernel
theorem dL_law_1017 : decode cL_law 1017 = .ok (.iaload, 1) := by decide +kernel
theorem dL_law_1018 : decode cL_law 1018 = .ok (.aload_n 0, 1) := by decide +kernel
theorem dL_law_1019 : decode cL_law 1019 = .ok (.iload 4, 2) := by decide +kernel
theorem dL_law_1021 : decode cL_law 1021 = .ok (.iconst 2, 1) := by decide +kernel
theorem dL_law_1022 : decode cL_law 1022 = .ok (.iadd, 1) := by decide +kernel
theorem dL_law_1023 : decode cL_law 1023 = .ok (.iaload, 1) := by decide +kernel
theorem dL_law_1024 : decode cL_law 1024 = .ok (.aload_n 3, 1) := by decide +kernel
theorem dL_law_1025 : decode cL_law 1025 = .ok (.invokestatic 127, 3) := by decide +kernel
theorem dL_law_1028 : decode cL_law 1028 = .ok (.istore 5, 2) := by decide +kernel
theorem dL_law_1030 : decode cL_law 1030 = .ok (.aload_n 2, 1) := by decide +kernel
theorem dL_law_1031 : decode cL_law 1031 = .ok (.aload_n 0, 1) := by decide +kernel
theorem dL_law_1032 : decode cL_law 1032 = .ok (.iload 4, 2) := by decide +kernel
theorem dL_law_1034 : decode cL_law 1034 = .ok (.iconst 1, 1) := by decide +kernel
theorem dL_law_1035 : decode cL_law 1035 = .ok (.iadd, 1) := by decide +kernel
theorem dL_law_1036 : decode cL_law 1036 = .ok (.iaload, 1) := by decide +kernel
theorem dL_law_1037 : decode cL_law 1037 = .ok (.aload_n 0, 1) := by decide +kernel
theorem dL_law_1038 : decode cL_law 1038 = .ok (.iload 4, 2) := by decide +kernel
theorem dL_law_1040 : decode cL_law 1040 = .ok (.iconst 2, 1) := by decide +kernel
theorem dL_law_1041 : decode cL_law 1041 = .ok (.iadd, 1) := by decide +kernel
theorem dL_law_1042 : decode cL_law 1042 = .ok (.iaload, 1) := by decide +kernel
theorem dL_law_1043 : decode cL_law 1043 = .ok (.invokevirtual 129, 3) := by decide +kernel
theorem dL_law_1046 : decode cL_law 1046 = .ok (.istore 6, 2) := by decide +kernel
theorem dL_law_1048 : decode cL_law 1048 = .ok (.aload_n 2, 1) := by decide +kernel
theorem dL_law_1049 : decode cL_law 1049 = .ok (.invokevirtual 86, 3) := by decide +kernel
theorem dL_law_1052 : decode cL_law 1052 = .ok (.iload 5, 2) := by decide +kernel
theorem dL_law_1054 : decode cL_law 1054 = .ok (.if_icmp .eq 5, 3) := by decide +kernel
theorem dL_law_1057 : decode cL_law 1057 = .ok (.iconst 0, 1) := by decide +kernel
theorem dL_law_1058 : decode cL_law 1058 = .ok (.ireturn, 1) := by decide +kernel
theorem dL_law_1059 : decode cL_law 1059 = .ok (.iload 5, 2) := by decide +kernel
theorem dL_law_1061 : decode cL_law 1061 = .ok (.ifCond .ne 15, 3) := by decide +kernel
theorem dL_law_1064 : decode cL_law 1064 = .ok (.aload_n 3, 1) := by decide +kernel
theorem dL_law_1065 : decode cL_law 1065 = .ok (.iconst 0, 1) := by decide +kernel
theorem dL_law_1066 : decode cL_law 1066 = .ok (.laload, 1) := by decide +kernel
theorem dL_law_1067 : decode cL_law 1067 = .ok (.iload 6, 2) := by decide +kernel
theorem dL_law_1069 : decode cL_law 1069 = .ok (.i2l, 1) := by decide +kernel
theorem dL_law_1070 : decode cL_law 1070 = .ok (.lcmp, 1) := by decide +kernel
theorem dL_law_1071 : decode cL_law 1071 = .ok (.ifCond .eq 5, 3) := by decide +kernel
theorem dL_law_1074 : decode cL_law 1074 = .ok (.iconst 0, 1) := by decide +kernel
theorem dL_law_1075 : decode cL_law 1075 = .ok (.ireturn, 1) := by decide +kernel
theorem dL_law_1076 : decode cL_law 1076 = .ok (.goto 299, 3) := by decide +kernel
theorem dL_law_1079 : decode cL_law 1079 = .ok (.aload_n 1, 1) := by decide +kernel
theorem dL_law_1080 : decode cL_law 1080 = .ok (.aload_n 0, 1) := by decide +kernel
theorem dL_law_1081 : decode cL_law 1081 = .ok (.iload 4, 2) := by decide +kernel
theorem dL_law_1083 : decode cL_law 1083 = .ok (.iconst 1, 1) := by decide +kernel
theorem dL_law_1084 : decode cL_law 1084 = .ok (.iadd, 1) := by decide +kernel
theorem dL_law_1085 : decode cL_law 1085 = .ok (.iaload, 1) := by decide +kernel
theorem dL_law_1086 : decode cL_law 1086 = .ok (.aload_n 0, 1) := by decide +kernel
theorem dL_law_1087 : decode cL_law 1087 = .ok (.iload 4, 2) := by decide +kernel
theorem dL_law_1089 : decode cL_law 1089 = .ok (.iconst 2, 1) := by decide +kernel
theorem dL_law_1090 : decode cL_law 1090 = .ok (.iadd, 1) := by decide +kernel
theorem dL_law_1091 : decode cL_law 1091 = .ok (.iaload, 1) := by decide +kernel
theorem dL_law_1092 : decode cL_law 1092 = .ok (.aload_n 0, 1) := by decide +kernel
theorem dL_law_1093 : decode cL_law 1093 = .ok (.iload 4, 2) := by decide +kernel
theorem dL_law_1095 : decode cL_law 1095 = .ok (.iconst 3, 1) := by decide +kernel
theorem dL_law_1096 : decode cL_law 1096 = .ok (.iadd, 1) := by decide +kernel
theorem dL_law_1097 : decode cL_law 1097 = .ok (.iaload, 1) := by decide +kernel
theorem dL_law_1098 : decode cL_law 1098 = .ok (.aload_n 3, 1) := by decide +kernel
theorem dL_law_1099 : decode cL_law 1099 = .ok (.invokestatic 130, 3) := by decide +kernel
theorem dL_law_1102 : decode cL_law 1102 = .ok (.istore 5, 2) := by decide +kernel
theorem dL_law_1104 : decode cL_law 1104 = .ok (.aload_n 2, 1) := by decide +kernel
theorem dL_law_1105 : decode cL_law 1105 = .ok (.aload_n 0, 1) := by decide +kernel
theorem dL_law_1106 : decode cL_law 1106 = .ok (.iload 4, 2) := by decide +kernel
theorem dL_law_1108 : decode cL_law 1108 = .ok (.iconst 1, 1) := by decide +kernel
theorem dL_law_1109 : decode cL_law 1109 = .ok (.iadd, 1) := by decide +kernel
theorem dL_law_1110 : decode cL_law 1110 = .ok (.iaload, 1) := by decide +kernel
theorem dL_law_1111 : decode cL_law 1111 = .ok (.aload_n 0, 1) := by decide +kernel
theorem dL_law_1112 : decode cL_law 1112 = .ok (.iload 4, 2) := by decide +kernel
theorem dL_law_1114 : decode cL_law 1114 = .ok (.iconst 2, 1) := by decide +kernel
theorem dL_law_1115 : decode cL_law 1115 = .ok (.iadd, 1) := by decide +kernel
theorem dL_law_1116 : decode cL_law 1116 = .ok (.iaload, 1) := by decide +kernel
theorem dL_law_1117 : decode cL_law 1117 = .ok (.aload_n 0, 1) := by decide +kernel
theorem dL_law_1118 : decode cL_law 1118 = .ok (.iload 4, 2) := by decide +kernel
theorem dL_law_1120 : decode cL_law 1120 = .ok (.iconst 3, 1) := by decide +kernel
theorem dL_law_1121 : decode cL_law 1121 = .ok (.iadd, 1) := by decide +kernel
theorem dL_law_1122 : decode cL_law 1122 = .ok (.iaload, 1) := by decide +kernel
theorem dL_law_1123 : decode cL_law 1123 = .ok (.invokevirtual 132, 3) := by decide +kernel
theorem dL_law_1126 : decode cL_law 1126 = .ok (.istore 6, 2) := by decide +kernel
theorem dL_law_1128 : decode cL_law 1128 = .ok (.aload_n 2, 1) := by decide +kernel
theorem dL_law_1129 : decode cL_law 1129 = .ok (.invokevirtual 86, 3) := by decide +kernel
theorem dL_law_1132 : decode cL_law 1132 = .ok (.iload 5, 2) := by decide +kernel
theorem dL_law_1134 : decode cL_law 1134 = .ok (.if_icmp .eq 5, 3) := by decide +kernel
theorem dL_law_1137 : decode cL_law 1137 = .ok (.iconst 0, 1) := by decide +kernel
theorem dL_law_1138 : decode cL_law 1138 = .ok (.ireturn, 1) := by decide +kernel
theorem dL_law_1139 : decode cL_law 1139 = .ok (.iload 5, 2) := by decide +kernel
theorem dL_law_1141 : decode cL_law 1141 = .ok (.ifCond .ne 15, 3) := by decide +kernel
theorem dL_law_1144 : decode cL_law 1144 = .ok (.aload_n 3, 1) := by decide +kernel
theorem dL_law_1145 : decode cL_law 1145 = .ok (.iconst 0, 1) := by decide +kernel
theorem dL_law_1146 : decode cL_law 1146 = .ok (.laload, 1) := by decide +kernel
theorem dL_law_1147 : decode cL_law 1147 = .ok (.iload 6, 2) := by decide +kernel
theorem dL_law_1149 : decode cL_law 1149 = .ok (.i2l, 1) := by decide +kernel
theorem dL_law_1150 : decode cL_law 1150 = .ok (.lcmp, 1) := by decide +kernel
theorem dL_law_1151 : decode cL_law 1151 = .ok (.ifCond .eq 5, 3) := by decide +kernel
theorem dL_law_1154 : decode cL_law 1154 = .ok (.iconst 0, 1) := by decide +kernel
theorem dL_law_1155 : decode cL_law 1155 = .ok (.ireturn, 1) := by decide +kernel
theorem dL_law_1156 : decode cL_law 1156 = .ok (.goto 219, 3) := by decide +kernel
theorem dL_law_1159 : decode cL_law 1159 = .ok (.aload_n 1, 1) := by decide +kernel
theorem dL_law_1160 : decode cL_law 1160 = .ok (.invokevirtual 133, 3) := by decide +kernel
theorem dL_law_1163 : decode cL_law 1163 = .ok (.aload_n 2, 1) := by decide +kernel
theorem dL_law_1164 : decode cL_law 1164 = .ok (.invokevirtual 136, 3) := by decide +kernel
theorem dL_law_1167 : decode cL_law 1167 = .ok (.if_icmp .eq 208, 3) := by decide +kernel
theorem dL_law_1170 : decode cL_law 1170 = .ok (.iconst 0, 1) := by decide +kernel
theorem dL_law_1171 : decode cL_law 1171 = .ok (.ireturn, 1) := by decide +kernel
theorem dL_law_1172 : decode cL_law 1172 = .ok (.aload_n 1, 1) := by decide +kernel
theorem dL_law_1173 : decode cL_law 1173 = .ok (.invokevirtual 137, 3) := by decide +kernel
theorem dL_law_1176 : decode cL_law 1176 = .ok (.aload_n 2, 1) := by decide +kernel
theorem dL_law_1177 : decode cL_law 1177 = .ok (.invokevirtual 140, 3) := by decide +kernel
theorem dL_law_1180 : decode cL_law 1180 = .ok (.if_icmp .eq 195, 3) := by decide +kernel
theorem dL_law_1183 : decode cL_law 1183 = .ok (.iconst 0, 1) := by decide +kernel
theorem dL_law_1184 : decode cL_law 1184 = .ok (.ireturn, 1) := by decide +kernel
theorem dL_law_1185 : decode cL_law 1185 = .ok (.aload_n 1, 1) := by decide +kernel
theorem dL_law_1186 : decode cL_law 1186 = .ok (.aload_n 0, 1) := by decide +kernel
theorem dL_law_1187 : decode cL_law 1187 = .ok (.iload 4, 2) := by decide +kernel
theorem dL_law_1189 : decode cL_law 1189 = .ok (.iconst 1, 1) := by decide +kernel
theorem dL_law_1190 : decode cL_law 1190 = .ok (.iadd, 1) := by decide +kernel
theorem dL_law_1191 : decode cL_law 1191 = .ok (.iaload, 1) := by decide +kernel
theorem dL_law_1192 : decode cL_law 1192 = .ok (.aload_n 0, 1) := by decide +kernel
theorem dL_law_1193 : decode cL_law 1193 = .ok (.iload 4, 2) := by decide +kernel
theorem dL_law_1195 : decode cL_law 1195 = .ok (.iconst 2, 1) := by decide +kernel
theorem dL_law_1196 : decode cL_law 1196 = .ok (.iadd, 1) := by decide +kernel
theorem dL_law_1197 : decode cL_law 1197 = .ok (.iaload, 1) := by decide +kernel
theorem dL_law_1198 : decode cL_law 1198 = .ok (.aload_n 0, 1) := by decide +kernel
theorem dL_law_1199 : decode cL_law 1199 = .ok (.iload 4, 2) := by decide +kernel
theorem dL_law_1201 : decode cL_law 1201 = .ok (.iconst 3, 1) := by decide +kernel
theorem dL_law_1202 : decode cL_law 1202 = .ok (.iadd, 1) := by decide +kernel
theorem dL_law_1203 : decode cL_law 1203 = .ok (.iaload, 1) := by decide +kernel
theorem dL_law_1204 : decode cL_law 1204 = .ok (.invokestatic 141, 3) := by decide +kernel
theorem dL_law_1207 : decode cL_law 1207 = .ok (.istore 5, 2) := by decide +kernel
theorem dL_law_1209 : decode cL_law 1209 = .ok (.aload_n 2, 1) := by decide +kernel
theorem dL_law_1210 : decode cL_law 1210 = .ok (.aload_n 0, 1) := by decide +kernel
theorem dL_law_1211 : decode cL_law 1211 = .ok (.iload 4, 2) := by decide +kernel
theorem dL_law_1213 : decode cL_law 1213 = .ok (.iconst 1, 1) := by decide +kernel
theorem dL_law_1214 : decode cL_law 1214 = .ok (.iadd, 1) := by decide +kernel
theorem dL_law_1215 : decode cL_law 1215 = .ok (.iaload, 1) := by decide +kernel
theorem dL_law_1216 : decode cL_law 1216 = .ok (.aload_n 0, 1) := by decide +kernel
theorem dL_law_1217 : decode cL_law 1217 = .ok (.iload 4, 2) := by decide +kernel
theorem dL_law_1219 : decode cL_law 1219 = .ok (.iconst 2, 1) := by decide +kernel
theorem dL_law_1220 : decode cL_law 1220 = .ok (.iadd, 1) := by decide +kernel
theorem dL_law_1221 : decode cL_law 1221 = .ok (.iaload, 1) := by decide +kernel
theorem dL_law_1222 : decode cL_law 1222 = .ok (.aload_n 0, 1) := by decide +kernel
theorem dL_law_1223 : decode cL_law 1223 = .ok (.iload 4, 2) := by decide +kernel
theorem dL_law_1225 : decode cL_law 1225 = .ok (.iconst 3, 1) := by decide +kernel
theorem dL_law_1226 : decode cL_law 1226 = .ok (.iadd, 1) := by decide +kernel
theorem dL_law_1227 : decode cL_law 1227 = .ok (.iaload, 1) := by decide +kernel
theorem dL_law_1228 : decode cL_law 1228 = .ok (.invokevirtual 144, 3) := by decide +kernel
theorem dL_law_1231 : decode cL_law 1231 = .ok (.aload_n 2, 1) := by decide +kernel
theorem dL_law_1232 : decode cL_law 1232 = .ok (.invokevirtual 86, 3) := by decide +kernel
theorem dL_law_1235 : decode cL_law 1235 = .ok (.iload 5, 2) := by decide +kernel
theorem dL_law_1237 : decode cL_law 1237 = .ok (.if_icmp .eq 5, 3) := by decide +kernel
theorem dL_law_1240 : decode cL_law 1240 = .ok (.iconst 0, 1) := by decide +kernel
theorem dL_law_1241 : decode cL_law 1241 = .ok (.ireturn, 1) := by decide +kernel
theorem dL_law_1242 : decode cL_law 1242 = .ok (.goto 133, 3) := by decide +kernel
theorem dL_law_1245 : decode cL_law 1245 = .ok (.aload_n 1, 1) := by decide +kernel
theorem dL_law_1246 : decode cL_law 1246 = .ok (.aload_n 0, 1) := by decide +kernel
theorem dL_law_1247 : decode cL_law 1247 = .ok (.iload 4, 2) := by decide +kernel
theorem dL_law_1249 : decode cL_law 1249 = .ok (.iconst 1, 1) := by decide +kernel
theorem dL_law_1250 : decode cL_law 1250 = .ok (.iadd, 1) := by decide +kernel
theorem dL_law_1251 : decode cL_law 1251 = .ok (.iaload, 1) := by decide +kernel
theorem dL_law_1252 : decode cL_law 1252 = .ok (.aload_n 3, 1) := by decide +kernel
theorem dL_law_1253 : decode cL_law 1253 = .ok (.invokestatic 145, 3) := by decide +kernel
theorem dL_law_1256 : decode cL_law 1256 = .ok (.istore 5, 2) := by decide +kernel
theorem dL_law_1258 : decode cL_law 1258 = .ok (.aload_n 2, 1) := by decide +kernel
theorem dL_law_1259 : decode cL_law 1259 = .ok (.aload_n 0, 1) := by decide +kernel
theorem dL_law_1260 : decode cL_law 1260 = .ok (.iload 4, 2) := by decide +kernel
theorem dL_law_1262 : decode cL_law 1262 = .ok (.iconst 1, 1) := by decide +kernel
theorem dL_law_1263 : decode cL_law 1263 = .ok (.iadd, 1) := by decide +kernel
theorem dL_law_1264 : decode cL_law 1264 = .ok (.iaload, 1) := by decide +kernel
theorem dL_law_1265 : decode cL_law 1265 = .ok (.invokevirtual 147, 3) := by decide +kernel
theorem dL_law_1268 : decode cL_law 1268 = .ok (.istore 6, 2) := by decide +kernel
theorem dL_law_1270 : decode cL_law 1270 = .ok (.aload_n 2, 1) := by decide +kernel
theorem dL_law_1271 : decode cL_law 1271 = .ok (.invokevirtual 86, 3) := by decide +kernel
theorem dL_law_1274 : decode cL_law 1274 = .ok (.iload 5, 2) := by decide +kernel
theorem dL_law_1276 : decode cL_law 1276 = .ok (.if_icmp .eq 5, 3) := by decide +kernel
theorem dL_law_1279 : decode cL_law 1279 = .ok (.iconst 0, 1) := by decide +kernel
theorem dL_law_1280 : decode cL_law 1280 = .ok (.ireturn, 1) := by decide +kernel
theorem dL_law_1281 : decode cL_law 1281 = .ok (.iload 5, 2) := by decide +kernel
theorem dL_law_1283 : decode cL_law 1283 = .ok (.ifCond .ne 15, 3) := by decide +kernel
theorem dL_law_1286 : decode cL_law 1286 = .ok (.aload_n 3, 1) := by decide +kernel
theorem dL_law_1287 : decode cL_law 1287 = .ok (.iconst 0, 1) := by decide +kernel
theorem dL_law_1288 : decode cL_law 1288 = .ok (.laload, 1) := by decide +kernel
theorem dL_law_1289 : decode cL_law 1289 = .ok (.iload 6, 2) := by decide +kernel
theorem dL_law_1291 : decode cL_law 1291 = .ok (.i2l, 1) := by decide +kernel
theorem dL_law_1292 : decode cL_law 1292 = .ok (.lcmp, 1) := by decide +kernel
theorem dL_law_1293 : decode cL_law 1293 = .ok (.ifCond .eq 5, 3) := by decide +kernel
theorem dL_law_1296 : decode cL_law 1296 = .ok (.iconst 0, 1) := by decide +kernel
theorem dL_law_1297 : decode cL_law 1297 = .ok (.ireturn, 1) := by decide +kernel
theorem dL_law_1298 : decode cL_law 1298 = .ok (.goto 77, 3) := by decide +kernel
theorem dL_law_1301 : decode cL_law 1301 = .ok (.aload_n 1, 1) := by decide +kernel
theorem dL_law_1302 : decode cL_law 1302 = .ok (.aload_n 0, 1) := by decide +kernel
theorem dL_law_1303 : decode cL_law 1303 = .ok (.iload 4, 2) := by decide +kernel
theorem dL_law_1305 : decode cL_law 1305 = .ok (.iconst 1, 1) := by decide +kernel
theorem dL_law_1306 : decode cL_law 1306 = .ok (.iadd, 1) := by decide +kernel
theorem dL_law_1307 : decode cL_law 1307 = .ok (.iaload, 1) := by decide +kernel
theorem dL_law_1308 : decode cL_law 1308 = .ok (.invokestatic 148, 3) := by decide +kernel
theorem dL_law_1311 : decode cL_law 1311 = .ok (.istore 5, 2) := by decide +kernel
theorem dL_law_1313 : decode cL_law 1313 = .ok (.aload_n 2, 1) := by decide +kernel
theorem dL_law_1314 : decode cL_law 1314 = .ok (.aload_n 0, 1) := by decide +kernel
theorem dL_law_1315 : decode cL_law 1315 = .ok (.iload 4, 2) := by decide +kernel
theorem dL_law_1317 : decode cL_law 1317 = .ok (.iconst 1, 1) := by decide +kernel
theorem dL_law_1318 : decode cL_law 1318 = .ok (.iadd, 1) := by decide +kernel
theorem dL_law_1319 : decode cL_law 1319 = .ok (.iaload, 1) := by decide +kernel
theorem dL_law_1320 : decode cL_law 1320 = .ok (.invokevirtual 151, 3) := by decide +kernel
theorem dL_law_1323 : decode cL_law 1323 = .ok (.aload_n 2, 1) := by decide +kernel
theorem dL_law_1324 : decode cL_law 1324 = .ok (.invokevirtual 86, 3) := by decide +kernel
theorem dL_law_1327 : decode cL_law 1327 = .ok (.iload 5, 2) := by decide +kernel
theorem dL_law_1329 : decode cL_law 1329 = .ok (.if_icmp .eq 5, 3) := by decide +kernel
theorem dL_law_1332 : decode cL_law 1332 = .ok (.iconst 0, 1) := by decide +kernel
theorem dL_law_1333 : decode cL_law 1333 = .ok (.ireturn, 1) := by decide +kernel
theorem dL_law_1334 : decode cL_law 1334 = .ok (.goto 41, 3) := by decide +kernel
theorem dL_law_1337 : decode cL_law 1337 = .ok (.aload_n 1, 1) := by decide +kernel
theorem dL_law_1338 : decode cL_law 1338 = .ok (.invokevirtual 152, 3) := by decide +kernel
theorem dL_law_1341 : decode cL_law 1341 = .ok (.aload_n 2, 1) := by decide +kernel
theorem dL_law_1342 : decode cL_law 1342 = .ok (.invokevirtual 155, 3) := by decide +kernel
theorem dL_law_1345 : decode cL_law 1345 = .ok (.if_icmp .eq 30, 3) := by decide +kernel
theorem dL_law_1348 : decode cL_law 1348 = .ok (.iconst 0, 1) := by decide +kernel
theorem dL_law_1349 : decode cL_law 1349 = .ok (.ireturn, 1) := by decide +kernel
theorem dL_law_1350 : decode cL_law 1350 = .ok (.aload_n 1, 1) := by decide +kernel
theorem dL_law_1351 : decode cL_law 1351 = .ok (.aload_n 0, 1) := by decide +kernel
theorem dL_law_1352 : decode cL_law 1352 = .ok (.iload 4, 2) := by decide +kernel
theorem dL_law_1354 : decode cL_law 1354 = .ok (.iconst 1, 1) := by decide +kernel
theorem dL_law_1355 : decode cL_law 1355 = .ok (.iadd, 1) := by decide +kernel
theorem dL_law_1356 : decode cL_law 1356 = .ok (.iaload, 1) := by decide +kernel
theorem dL_law_1357 : decode cL_law 1357 = .ok (.invokevirtual 156, 3) := by decide +kernel
theorem dL_law_1360 : decode cL_law 1360 = .ok (.aload_n 2, 1) := by decide +kernel
theorem dL_law_1361 : decode cL_law 1361 = .ok (.aload_n 0, 1) := by decide +kernel
theorem dL_law_1362 : decode cL_law 1362 = .ok (.iload 4, 2) := by decide +kernel
theorem dL_law_1364 : decode cL_law 1364 = .ok (.iconst 1, 1) := by decide +kernel
theorem dL_law_1365 : decode cL_law 1365 = .ok (.iadd, 1) := by decide +kernel
theorem dL_law_1366 : decode cL_law 1366 = .ok (.iaload, 1) := by decide +kernel
theorem dL_law_1367 : decode cL_law 1367 = .ok (.invokevirtual 159, 3) := by decide +kernel
theorem dL_law_1370 : decode cL_law 1370 = .ok (.if_icmp .eq 5, 3) := by decide +kernel
theorem dL_law_1373 : decode cL_law 1373 = .ok (.iconst 0, 1) := by decide +kernel
theorem dL_law_1374 : decode cL_law 1374 = .ok (.ireturn, 1) := by decide +kernel
theorem dL_law_1375 : decode cL_law 1375 = .ok (.iinc 4 5, 3) := by decide +kernel
theorem dL_law_1378 : decode cL_law 1378 = .ok (.goto (-1355), 3) := by decide +kernel
theorem dL_law_1381 : decode cL_law 1381 = .ok (.iconst 1, 1) := by decide +kernel
theorem dL_law_1382 : decode cL_law 1382 = .ok (.ireturn, 1) := by decide +kernel
