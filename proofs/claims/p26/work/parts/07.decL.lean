theorem dL_cell_0 : decode cL_cell 0 = .ok (.iload_n 1, 1) := by decide +kernel
theorem dL_cell_1 : decode cL_cell 1 = .ok (.aload_n 0, 1) := by decide +kernel
theorem dL_cell_2 : decode cL_cell 2 = .ok (.arraylength, 1) := by decide +kernel
theorem dL_cell_3 : decode cL_cell 3 = .ok (.if_icmp .ge 9, 3) := by decide +kernel
theorem dL_cell_6 : decode cL_cell 6 = .ok (.aload_n 0, 1) := by decide +kernel
theorem dL_cell_7 : decode cL_cell 7 = .ok (.iload_n 1, 1) := by decide +kernel
theorem dL_cell_8 : decode cL_cell 8 = .ok (.iaload, 1) := by decide +kernel
theorem dL_cell_9 : decode cL_cell 9 = .ok (.goto 18, 3) := by decide +kernel
theorem dL_cell_12 : decode cL_cell 12 = .ok (.sipush 7919, 3) := by decide +kernel
theorem dL_cell_15 : decode cL_cell 15 = .ok (.iload_n 1, 1) := by decide +kernel
theorem dL_cell_16 : decode cL_cell 16 = .ok (.sipush 2543, 3) := by decide +kernel
theorem dL_cell_19 : decode cL_cell 19 = .ok (.iadd, 1) := by decide +kernel
theorem dL_cell_20 : decode cL_cell 20 = .ok (.imul, 1) := by decide +kernel
theorem dL_cell_21 : decode cL_cell 21 = .ok (.iload_n 1, 1) := by decide +kernel
theorem dL_cell_22 : decode cL_cell 22 = .ok (.sipush 313, 3) := by decide +kernel
theorem dL_cell_25 : decode cL_cell 25 = .ok (.iadd, 1) := by decide +kernel
theorem dL_cell_26 : decode cL_cell 26 = .ok (.imul, 1) := by decide +kernel
theorem dL_cell_27 : decode cL_cell 27 = .ok (.ireturn, 1) := by decide +kernel
theorem dL_low_0 : decode cL_low 0 = .ok (.iload_n 0, 1) := by decide +kernel
theorem dL_low_1 : decode cL_low 1 = .ok (.ldc 7, 2) := by decide +kernel
theorem dL_low_3 : decode cL_low 3 = .ok (.iand, 1) := by decide +kernel
theorem dL_low_4 : decode cL_low 4 = .ok (.iload_n 1, 1) := by decide +kernel
theorem dL_low_5 : decode cL_low 5 = .ok (.irem, 1) := by decide +kernel
theorem dL_low_6 : decode cL_low 6 = .ok (.ireturn, 1) := by decide +kernel
theorem dL_face_0 : decode cL_face 0 = .ok (.aload_n 0, 1) := by decide +kernel
theorem dL_face_1 : decode cL_face 1 = .ok (.iload_n 1, 1) := by decide +kernel
theorem dL_face_2 : decode cL_face 2 = .ok (.iload_n 2, 1) := by decide +kernel
theorem dL_face_3 : decode cL_face 3 = .ok (.invokevirtual 8, 3) := by decide +kernel
theorem dL_face_6 : decode cL_face 6 = .ok (.i2l, 1) := by decide +kernel
theorem dL_face_7 : decode cL_face 7 = .ok (.lreturn, 1) := by decide +kernel
theorem dL_face_8 : decode cL_face 8 = .ok (.astore_n 3, 1) := by decide +kernel
theorem dL_face_9 : decode cL_face 9 = .ok (.ldc2_w 16, 3) := by decide +kernel
theorem dL_face_12 : decode cL_face 12 = .ok (.lreturn, 1) := by decide +kernel
theorem dL_face_13 : decode cL_face 13 = .ok (.astore_n 3, 1) := by decide +kernel
theorem dL_face_14 : decode cL_face 14 = .ok (.ldc2_w 16, 3) := by decide +kernel
theorem dL_face_17 : decode cL_face 17 = .ok (.lreturn, 1) := by decide +kernel
theorem dL_part_0 : decode cL_part 0 = .ok (.aload_n 0, 1) := by decide +kernel
theorem dL_part_1 : decode cL_part 1 = .ok (.iload_n 1, 1) := by decide +kernel
theorem dL_part_2 : decode cL_part 2 = .ok (.iload_n 2, 1) := by decide +kernel
theorem dL_part_3 : decode cL_part 3 = .ok (.invokevirtual 20, 3) := by decide +kernel
theorem dL_part_6 : decode cL_part 6 = .ok (.i2l, 1) := by decide +kernel
theorem dL_part_7 : decode cL_part 7 = .ok (.lreturn, 1) := by decide +kernel
theorem dL_part_8 : decode cL_part 8 = .ok (.astore_n 3, 1) := by decide +kernel
theorem dL_part_9 : decode cL_part 9 = .ok (.ldc2_w 16, 3) := by decide +kernel
theorem dL_part_12 : decode cL_part 12 = .ok (.lreturn, 1) := by decide +kernel
theorem dL_part_13 : decode cL_part 13 = .ok (.astore_n 3, 1) := by decide +kernel
theorem dL_part_14 : decode cL_part 14 = .ok (.ldc2_w 16, 3) := by decide +kernel
theorem dL_part_17 : decode cL_part 17 = .ok (.lreturn, 1) := by decide +kernel
theorem dL_redraw_0 : decode cL_redraw 0 = .ok (.aload_n 0, 1) := by decide +kernel
theorem dL_redraw_1 : decode cL_redraw 1 = .ok (.iload_n 1, 1) := by decide +kernel
theorem dL_redraw_2 : decode cL_redraw 2 = .ok (.iload_n 2, 1) := by decide +kernel
theorem dL_redraw_3 : decode cL_redraw 3 = .ok (.iload_n 3, 1) := by decide +kernel
theorem dL_redraw_4 : decode cL_redraw 4 = .ok (.invokevirtual 23, 3) := by decide +kernel
theorem dL_redraw_7 : decode cL_redraw 7 = .ok (.i2l, 1) := by decide +kernel
theorem dL_redraw_8 : decode cL_redraw 8 = .ok (.lreturn, 1) := by decide +kernel
theorem dL_redraw_9 : decode cL_redraw 9 = .ok (.astore 4, 2) := by decide +kernel
theorem dL_redraw_11 : decode cL_redraw 11 = .ok (.ldc2_w 16, 3) := by decide +kernel
theorem dL_redraw_14 : decode cL_redraw 14 = .ok (.lreturn, 1) := by decide +kernel
theorem dL_redraw_15 : decode cL_redraw 15 = .ok (.astore 4, 2) := by decide +kernel
theorem dL_redraw_17 : decode cL_redraw 17 = .ok (.ldc2_w 16, 3) := by decide +kernel
theorem dL_redraw_20 : decode cL_redraw 20 = .ok (.lreturn, 1) := by decide +kernel
theorem dL_redraw_21 : decode cL_redraw 21 = .ok (.astore 4, 2) := by decide +kernel
theorem dL_redraw_23 : decode cL_redraw 23 = .ok (.ldc2_w 16, 3) := by decide +kernel
theorem dL_redraw_26 : decode cL_redraw 26 = .ok (.lreturn, 1) := by decide +kernel
theorem dL_hole_0 : decode cL_hole 0 = .ok (.aload_n 0, 1) := by decide +kernel
theorem dL_hole_1 : decode cL_hole 1 = .ok (.iload_n 1, 1) := by decide +kernel
theorem dL_hole_2 : decode cL_hole 2 = .ok (.iload_n 2, 1) := by decide +kernel
theorem dL_hole_3 : decode cL_hole 3 = .ok (.iload_n 3, 1) := by decide +kernel
theorem dL_hole_4 : decode cL_hole 4 = .ok (.iload 4, 2) := by decide +kernel
theorem dL_hole_6 : decode cL_hole 6 = .ok (.invokevirtual 29, 3) := by decide +kernel
theorem dL_hole_9 : decode cL_hole 9 = .ok (.i2l, 1) := by decide +kernel
theorem dL_hole_10 : decode cL_hole 10 = .ok (.lreturn, 1) := by decide +kernel
theorem dL_hole_11 : decode cL_hole 11 = .ok (.astore 5, 2) := by decide +kernel
theorem dL_hole_13 : decode cL_hole 13 = .ok (.ldc2_w 16, 3) := by decide +kernel
theorem dL_hole_16 : decode cL_hole 16 = .ok (.lreturn, 1) := by decide +kernel
theorem dL_hole_17 : decode cL_hole 17 = .ok (.astore 5, 2) := by decide +kernel
theorem dL_hole_19 : decode cL_hole 19 = .ok (.ldc2_w 16, 3) := by decide +kernel
theorem dL_hole_22 : decode cL_hole 22 = .ok (.lreturn, 1) := by decide +kernel
theorem dL_hole_23 : decode cL_hole 23 = .ok (.astore 5, 2) := by decide +kernel
theorem dL_hole_25 : decode cL_hole 25 = .ok (.ldc2_w 16, 3) := by decide +kernel
theorem dL_hole_28 : decode cL_hole 28 = .ok (.lreturn, 1) := by decide +kernel
theorem dL_near_0 : decode cL_near 0 = .ok (.aload_n 0, 1) := by decide +kernel
theorem dL_near_1 : decode cL_near 1 = .ok (.iload_n 1, 1) := by decide +kernel
theorem dL_near_2 : decode cL_near 2 = .ok (.iload_n 2, 1) := by decide +kernel
theorem dL_near_3 : decode cL_near 3 = .ok (.invokevirtual 33, 3) := by decide +kernel
theorem dL_near_6 : decode cL_near 6 = .ok (.ifCond .eq 7, 3) := by decide +kernel
theorem dL_near_9 : decode cL_near 9 = .ok (.lconst 1, 1) := by decide +kernel
theorem dL_near_10 : decode cL_near 10 = .ok (.goto 4, 3) := by decide +kernel
theorem dL_near_13 : decode cL_near 13 = .ok (.lconst 0, 1) := by decide +kernel
theorem dL_near_14 : decode cL_near 14 = .ok (.lreturn, 1) := by decide +kernel
theorem dL_near_15 : decode cL_near 15 = .ok (.astore_n 3, 1) := by decide +kernel
theorem dL_near_16 : decode cL_near 16 = .ok (.ldc2_w 16, 3) := by decide +kernel
theorem dL_near_19 : decode cL_near 19 = .ok (.lreturn, 1) := by decide +kernel
theorem dL_told_0 : decode cL_told 0 = .ok (.aload_n 0, 1) := by decide +kernel
theorem dL_told_1 : decode cL_told 1 = .ok (.iload_n 1, 1) := by decide +kernel
theorem dL_told_2 : decode cL_told 2 = .ok (.iload_n 2, 1) := by decide +kernel
theorem dL_told_3 : decode cL_told 3 = .ok (.invokevirtual 37, 3) := by decide +kernel
theorem dL_told_6 : decode cL_told 6 = .ok (.i2l, 1) := by decide +kernel
theorem dL_told_7 : decode cL_told 7 = .ok (.lreturn, 1) := by decide +kernel
theorem dL_told_8 : decode cL_told 8 = .ok (.astore_n 3, 1) := by decide +kernel
theorem dL_told_9 : decode cL_told 9 = .ok (.ldc2_w 16, 3) := by decide +kernel
theorem dL_told_12 : decode cL_told 12 = .ok (.lreturn, 1) := by decide +kernel
theorem dL_told_13 : decode cL_told 13 = .ok (.astore_n 3, 1) := by decide +kernel
theorem dL_told_14 : decode cL_told 14 = .ok (.ldc2_w 16, 3) := by decide +kernel
theorem dL_told_17 : decode cL_told 17 = .ok (.lreturn, 1) := by decide +kernel
theorem dL_tool_0 : decode cL_tool 0 = .ok (.aload_n 0, 1) := by decide +kernel
theorem dL_tool_1 : decode cL_tool 1 = .ok (.iload_n 1, 1) := by decide +kernel
theorem dL_tool_2 : decode cL_tool 2 = .ok (.iload_n 2, 1) := by decide +kernel
theorem dL_tool_3 : decode cL_tool 3 = .ok (.iload_n 3, 1) := by decide +kernel
theorem dL_tool_4 : decode cL_tool 4 = .ok (.iload 4, 2) := by decide +kernel
theorem dL_tool_6 : decode cL_tool 6 = .ok (.iload 5, 2) := by decide +kernel
theorem dL_tool_8 : decode cL_tool 8 = .ok (.invokevirtual 40, 3) := by decide +kernel
theorem dL_tool_11 : decode cL_tool 11 = .ok (.i2l, 1) := by decide +kernel
theorem dL_tool_12 : decode cL_tool 12 = .ok (.lreturn, 1) := by decide +kernel
theorem dL_tool_13 : decode cL_tool 13 = .ok (.astore 6, 2) := by decide +kernel
theorem dL_tool_15 : decode cL_tool 15 = .ok (.ldc2_w 16, 3) := by decide +kernel
theorem dL_tool_18 : decode cL_tool 18 = .ok (.lreturn, 1) := by decide +kernel
theorem dL_tool_19 : decode cL_tool 19 = .ok (.astore 6, 2) := by decide +kernel
theorem dL_tool_21 : decode cL_tool 21 = .ok (.ldc2_w 16, 3) := by decide +kernel
theorem dL_tool_24 : decode cL_tool 24 = .ok (.lreturn, 1) := by decide +kernel
theorem dL_trial_0 : decode cL_trial 0 = .ok (.aload_n 0, 1) := by decide +kernel
theorem dL_trial_1 : decode cL_trial 1 = .ok (.iload_n 1, 1) := by decide +kernel
theorem dL_trial_2 : decode cL_trial 2 = .ok (.iload_n 2, 1) := by decide +kernel
theorem dL_trial_3 : decode cL_trial 3 = .ok (.iload_n 3, 1) := by decide +kernel
theorem dL_trial_4 : decode cL_trial 4 = .ok (.invokevirtual 44, 3) := by decide +kernel
theorem dL_trial_7 : decode cL_trial 7 = .ok (.i2l, 1) := by decide +kernel
theorem dL_trial_8 : decode cL_trial 8 = .ok (.lreturn, 1) := by decide +kernel
theorem dL_trial_9 : decode cL_trial 9 = .ok (.astore 4, 2) := by decide +kernel
theorem dL_trial_11 : decode cL_trial 11 = .ok (.ldc2_w 16, 3) := by decide +kernel
theorem dL_trial_14 : decode cL_trial 14 = .ok (.lreturn, 1) := by decide +kernel
theorem dL_trial_15 : decode cL_trial 15 = .ok (.astore 4, 2) := by decide +kernel
theorem dL_trial_17 : decode cL_trial 17 = .ok (.ldc2_w 16, 3) := by decide +kernel
theorem dL_trial_20 : decode cL_trial 20 = .ok (.lreturn, 1) := by decide +kernel
theorem dL_blank_0 : decode cL_blank 0 = .ok (.aload_n 0, 1) := by decide +kernel
theorem dL_blank_1 : decode cL_blank 1 = .ok (.iload_n 1, 1) := by decide +kernel
theorem dL_blank_2 : decode cL_blank 2 = .ok (.iload_n 2, 1) := by decide +kernel
theorem dL_blank_3 : decode cL_blank 3 = .ok (.invokevirtual 47, 3) := by decide +kernel
theorem dL_blank_6 : decode cL_blank 6 = .ok (.i2l, 1) := by decide +kernel
theorem dL_blank_7 : decode cL_blank 7 = .ok (.lreturn, 1) := by decide +kernel
theorem dL_blank_8 : decode cL_blank 8 = .ok (.astore_n 3, 1) := by decide +kernel
theorem dL_blank_9 : decode cL_blank 9 = .ok (.ldc2_w 16, 3) := by decide +kernel
theorem dL_blank_12 : decode cL_blank 12 = .ok (.lreturn, 1) := by decide +kernel
theorem dL_why_0 : decode cL_why 0 = .ok (.aload_n 0, 1) := by decide +kernel
theorem dL_why_1 : decode cL_why 1 = .ok (.iload_n 1, 1) := by decide +kernel
theorem dL_why_2 : decode cL_why 2 = .ok (.iload_n 2, 1) := by decide +kernel
theorem dL_why_3 : decode cL_why 3 = .ok (.iload_n 3, 1) := by decide +kernel
theorem dL_why_4 : decode cL_why 4 = .ok (.iload 4, 2) := by decide +kernel
theorem dL_why_6 : decode cL_why 6 = .ok (.invokevirtual 50, 3) := by decide +kernel
theorem dL_why_9 : decode cL_why 9 = .ok (.i2l, 1) := by decide +kernel
theorem dL_why_10 : decode cL_why 10 = .ok (.lreturn, 1) := by decide +kernel
theorem dL_why_11 : decode cL_why 11 = .ok (.astore 5, 2) := by decide +kernel
theorem dL_why_13 : decode cL_why 13 = .ok (.ldc2_w 16, 3) := by decide +kernel
theorem dL_why_16 : decode cL_why 16 = .ok (.lreturn, 1) := by decide +kernel
theorem dL_why_17 : decode cL_why 17 = .ok (.astore 5, 2) := by decide +kernel
theorem dL_why_19 : decode cL_why 19 = .ok (.ldc2_w 16, 3) := by decide +kernel
theorem dL_why_22 : decode cL_why 22 = .ok (.lreturn, 1) := by decide +kernel
theorem dL_point_0 : decode cL_point 0 = .ok (.aload_n 0, 1) := by decide +kernel
theorem dL_point_1 : decode cL_point 1 = .ok (.iload_n 1, 1) := by decide +kernel
theorem dL_point_2 : decode cL_point 2 = .ok (.iload_n 2, 1) := by decide +kernel
theorem dL_point_3 : decode cL_point 3 = .ok (.iload_n 3, 1) := by decide +kernel
theorem dL_point_4 : decode cL_point 4 = .ok (.iload 4, 2) := by decide +kernel
theorem dL_point_6 : decode cL_point 6 = .ok (.iload 5, 2) := by decide +kernel
theorem dL_point_8 : decode cL_point 8 = .ok (.iload 6, 2) := by decide +kernel
theorem dL_point_10 : decode cL_point 10 = .ok (.invokevirtual 53, 3) := by decide +kernel
theorem dL_point_13 : decode cL_point 13 = .ok (.i2l, 1) := by decide +kernel
theorem dL_point_14 : decode cL_point 14 = .ok (.lreturn, 1) := by decide +kernel
theorem dL_point_15 : decode cL_point 15 = .ok (.astore 7, 2) := by decide +kernel
theorem dL_point_17 : decode cL_point 17 = .ok (.ldc2_w 16, 3) := by decide +kernel
theorem dL_point_20 : decode cL_point 20 = .ok (.lreturn, 1) := by decide +kernel
theorem dL_point_21 : decode cL_point 21 = .ok (.astore 7, 2) := by decide +kernel
theorem dL_point_23 : decode cL_point 23 = .ok (.ldc2_w 16, 3) := by decide +kernel
theorem dL_point_26 : decode cL_point 26 = .ok (.lreturn, 1) := by decide +kernel
theorem dL_flips_0 : decode cL_flips 0 = .ok (.aload_n 0, 1) := by decide +kernel
theorem dL_flips_1 : decode cL_flips 1 = .ok (.iload_n 1, 1) := by decide +kernel
theorem dL_flips_2 : decode cL_flips 2 = .ok (.iload_n 2, 1) := by decide +kernel
theorem dL_flips_3 : decode cL_flips 3 = .ok (.invokevirtual 57, 3) := by decide +kernel
theorem dL_flips_6 : decode cL_flips 6 = .ok (.i2l, 1) := by decide +kernel
theorem dL_flips_7 : decode cL_flips 7 = .ok (.lreturn, 1) := by decide +kernel
theorem dL_flips_8 : decode cL_flips 8 = .ok (.astore_n 3, 1) := by decide +kernel
theorem dL_flips_9 : decode cL_flips 9 = .ok (.ldc2_w 16, 3) := by decide +kernel
theorem dL_flips_12 : decode cL_flips 12 = .ok (.lreturn, 1) := by decide +kernel
theorem dL_ordered_0 : decode cL_ordered 0 = .ok (.aload_n 0, 1) := by decide +kernel
theorem dL_ordered_1 : decode cL_ordered 1 = .ok (.iload_n 1, 1) := by decide +kernel
theorem dL_ordered_2 : decode cL_ordered 2 = .ok (.iload_n 2, 1) := by decide +kernel
theorem dL_ordered_3 : decode cL_ordered 3 = .ok (.iload_n 3, 1) := by decide +kernel
theorem dL_ordered_4 : decode cL_ordered 4 = .ok (.invokevirtual 60, 3) := by decide +kernel
theorem dL_ordered_7 : decode cL_ordered 7 = .ok (.i2l, 1) := by decide +kernel
theorem dL_ordered_8 : decode cL_ordered 8 = .ok (.lreturn, 1) := by decide +kernel
theorem dL_ordered_9 : decode cL_ordered 9 = .ok (.astore 4, 2) := by decide +kernel
theorem dL_ordered_11 : decode cL_ordered 11 = .ok (.ldc2_w 16, 3) := by decide +kernel
theorem dL_ordered_14 : decode cL_ordered 14 = .ok (.lreturn, 1) := by decide +kernel
theorem dL_want_0 : decode cL_want 0 = .ok (.aload_n 0, 1) := by decide +kernel
theorem dL_want_1 : decode cL_want 1 = .ok (.iload_n 1, 1) := by decide +kernel
theorem dL_want_2 : decode cL_want 2 = .ok (.iload_n 2, 1) := by decide +kernel
theorem dL_want_3 : decode cL_want 3 = .ok (.invokevirtual 63, 3) := by decide +kernel
theorem dL_want_6 : decode cL_want 6 = .ok (.i2l, 1) := by decide +kernel
theorem dL_want_7 : decode cL_want 7 = .ok (.lreturn, 1) := by decide +kernel
theorem dL_want_8 : decode cL_want 8 = .ok (.astore_n 3, 1) := by decide +kernel
theorem dL_want_9 : decode cL_want 9 = .ok (.ldc2_w 16, 3) := by decide +kernel
theorem dL_want_12 : decode cL_want 12 = .ok (.lreturn, 1) := by decide +kernel
theorem dL_want_13 : decode cL_want 13 = .ok (.astore_n 3, 1) := by decide +kernel
theorem dL_want_14 : decode cL_want 14 = .ok (.ldc2_w 16, 3) := by decide +kernel
theorem dL_want_17 : decode cL_want 17 = .ok (.lreturn, 1) := by decide +kernel
theorem dL_want_18 : decode cL_want 18 = .ok (.astore_n 3, 1) := by decide +kernel
theorem dL_want_19 : decode cL_want 19 = .ok (.ldc2_w 16, 3) := by decide +kernel
theorem dL_want_22 : decode cL_want 22 = .ok (.lreturn, 1) := by decide +kernel
theorem dL_nest_0 : decode cL_nest 0 = .ok (.aload_n 0, 1) := by decide +kernel
theorem dL_nest_1 : decode cL_nest 1 = .ok (.iload_n 1, 1) := by decide +kernel
theorem dL_nest_2 : decode cL_nest 2 = .ok (.iload_n 2, 1) := by decide +kernel
theorem dL_nest_3 : decode cL_nest 3 = .ok (.iload_n 3, 1) := by decide +kernel
theorem dL_nest_4 : decode cL_nest 4 = .ok (.iload 4, 2) := by decide +kernel
theorem dL_nest_6 : decode cL_nest 6 = .ok (.invokevirtual 66, 3) := by decide +kernel
theorem dL_nest_9 : decode cL_nest 9 = .ok (.lreturn, 1) := by decide +kernel
theorem dL_nest_10 : decode cL_nest 10 = .ok (.astore 5, 2) := by decide +kernel
theorem dL_nest_12 : decode cL_nest 12 = .ok (.ldc2_w 16, 3) := by decide +kernel
theorem dL_nest_15 : decode cL_nest 15 = .ok (.lreturn, 1) := by decide +kernel
theorem dL_nest_16 : decode cL_nest 16 = .ok (.astore 5, 2) := by decide +kernel
theorem dL_nest_18 : decode cL_nest 18 = .ok (.ldc2_w 16, 3) := by decide +kernel
theorem dL_nest_21 : decode cL_nest 21 = .ok (.lreturn, 1) := by decide +kernel
theorem dL_batch_0 : decode cL_batch 0 = .ok (.aload_n 0, 1) := by decide +kernel
theorem dL_batch_1 : decode cL_batch 1 = .ok (.iload_n 1, 1) := by decide +kernel
theorem dL_batch_2 : decode cL_batch 2 = .ok (.iload_n 2, 1) := by decide +kernel
theorem dL_batch_3 : decode cL_batch 3 = .ok (.iload_n 3, 1) := by decide +kernel
theorem dL_batch_4 : decode cL_batch 4 = .ok (.invokevirtual 70, 3) := by decide +kernel
theorem dL_batch_7 : decode cL_batch 7 = .ok (.i2l, 1) := by decide +kernel
theorem dL_batch_8 : decode cL_batch 8 = .ok (.lreturn, 1) := by decide +kernel
theorem dL_batch_9 : decode cL_batch 9 = .ok (.astore 4, 2) := by decide +kernel
theorem dL_batch_11 : decode cL_batch 11 = .ok (.ldc2_w 16, 3) := by decide +kernel
theorem dL_batch_14 : decode cL_batch 14 = .ok (.lreturn, 1) := by decide +kernel
theorem dL_batch_15 : decode cL_batch 15 = .ok (.astore 4, 2) := by decide +kernel
theorem dL_batch_17 : decode cL_batch 17 = .ok (.ldc2_w 16, 3) := by decide +kernel
theorem dL_batch_20 : decode cL_batch 20 = .ok (.lreturn, 1) := by decide +kernel
theorem dL_batch_21 : decode cL_batch 21 = .ok (.astore 4, 2) := by decide +kernel
theorem dL_batch_23 : decode cL_batch 23 = .ok (.ldc2_w 16, 3) := by decide +kernel
theorem dL_batch_26 : decode cL_batch 26 = .ok (.lreturn, 1) := by decide +kernel
theorem dL_work_0 : decode cL_work 0 = .ok (.aload_n 0, 1) := by decide +kernel
theorem dL_work_1 : decode cL_work 1 = .ok (.iload_n 1, 1) := by decide +kernel
theorem dL_work_2 : decode cL_work 2 = .ok (.invokevirtual 73, 3) := by decide +kernel
theorem dL_work_5 : decode cL_work 5 = .ok (.i2l, 1) := by decide +kernel
theorem dL_work_6 : decode cL_work 6 = .ok (.lreturn, 1) := by decide +kernel
theorem dL_work_7 : decode cL_work 7 = .ok (.astore_n 2, 1) := by decide +kernel
theorem dL_work_8 : decode cL_work 8 = .ok (.ldc2_w 16, 3) := by decide +kernel
theorem dL_work_11 : decode cL_work 11 = .ok (.lreturn, 1) := by decide +kernel
theorem dL_work_12 : decode cL_work 12 = .ok (.astore_n 2, 1) := by decide +kernel
theorem dL_work_13 : decode cL_work 13 = .ok (.ldc2_w 16, 3) := by decide +kernel
theorem dL_work_16 : decode cL_work 16 = .ok (.lreturn, 1) := by decide +kernel
theorem dL_batchOf_0 : decode cL_batchOf 0 = .ok (.aload_n 0, 1) := by decide +kernel
theorem dL_batchOf_1 : decode cL_batchOf 1 = .ok (.iload_n 1, 1) := by decide +kernel
theorem dL_batchOf_2 : decode cL_batchOf 2 = .ok (.iload_n 2, 1) := by decide +kernel
theorem dL_batchOf_3 : decode cL_batchOf 3 = .ok (.invokevirtual 77, 3) := by decide +kernel
theorem dL_batchOf_6 : decode cL_batchOf 6 = .ok (.i2l, 1) := by decide +kernel
theorem dL_batchOf_7 : decode cL_batchOf 7 = .ok (.lreturn, 1) := by decide +kernel
theorem dL_batchOf_8 : decode cL_batchOf 8 = .ok (.astore_n 3, 1) := by decide +kernel
theorem dL_batchOf_9 : decode cL_batchOf 9 = .ok (.ldc2_w 16, 3) := by decide +kernel
theorem dL_batchOf_12 : decode cL_batchOf 12 = .ok (.lreturn, 1) := by decide +kernel
theorem dL_batchOf_13 : decode cL_batchOf 13 = .ok (.astore_n 3, 1) := by decide +kernel
theorem dL_batchOf_14 : decode cL_batchOf 14 = .ok (.ldc2_w 16, 3) := by decide +kernel
theorem dL_batchOf_17 : decode cL_batchOf 17 = .ok (.lreturn, 1) := by decide +kernel
theorem dL_kits_0 : decode cL_kits 0 = .ok (.aload_n 0, 1) := by decide +kernel
theorem dL_kits_1 : decode cL_kits 1 = .ok (.iload_n 1, 1) := by decide +kernel
theorem dL_kits_2 : decode cL_kits 2 = .ok (.invokevirtual 80, 3) := by decide +kernel
theorem dL_kits_5 : decode cL_kits 5 = .ok (.i2l, 1) := by decide +kernel
theorem dL_kits_6 : decode cL_kits 6 = .ok (.lreturn, 1) := by decide +kernel
theorem dL_kits_7 : decode cL_kits 7 = .ok (.astore_n 2, 1) := by decide +kernel
theorem dL_kits_8 : decode cL_kits 8 = .ok (.ldc2_w 16, 3) := by decide +kernel
theorem dL_kits_11 : decode cL_kits 11 = .ok (.lreturn, 1) := by decide +kernel
theorem dL_take_0 : decode cL_take 0 = .ok (.aload_n 0, 1) := by decide +kernel
theorem dL_take_1 : decode cL_take 1 = .ok (.iload_n 1, 1) := by decide +kernel
theorem dL_take_2 : decode cL_take 2 = .ok (.iload_n 2, 1) := by decide +kernel
theorem dL_take_3 : decode cL_take 3 = .ok (.invokevirtual 83, 3) := by decide +kernel
theorem dL_take_6 : decode cL_take 6 = .ok (.i2l, 1) := by decide +kernel
theorem dL_take_7 : decode cL_take 7 = .ok (.lreturn, 1) := by decide +kernel
theorem dL_take_8 : decode cL_take 8 = .ok (.astore_n 3, 1) := by decide +kernel
theorem dL_take_9 : decode cL_take 9 = .ok (.ldc2_w 16, 3) := by decide +kernel
theorem dL_take_12 : decode cL_take 12 = .ok (.lreturn, 1) := by decide +kernel
theorem dL_take_13 : decode cL_take 13 = .ok (.astore_n 3, 1) := by decide +kernel
theorem dL_take_14 : decode cL_take 14 = .ok (.ldc2_w 16, 3) := by decide +kernel
theorem dL_take_17 : decode cL_take 17 = .ok (.lreturn, 1) := by decide +kernel
theorem dL_act_0 : decode cL_act 0 = .ok (.iload_n 1, 1) := by decide +kernel
theorem dL_act_1 : decode cL_act 1 = .ok (.bipush 26, 2) := by decide +kernel
theorem dL_act_3 : decode cL_act 3 = .ok (.ishr, 1) := by decide +kernel
theorem dL_act_4 : decode cL_act 4 = .ok (.bipush 14, 2) := by decide +kernel
theorem dL_act_6 : decode cL_act 6 = .ok (.invokestatic 86, 3) := by decide +kernel
theorem dL_act_9 : decode cL_act 9 = .ok (.ifCond .ne 7, 3) := by decide +kernel
theorem dL_act_12 : decode cL_act 12 = .ok (.iconst 1, 1) := by decide +kernel
theorem dL_act_13 : decode cL_act 13 = .ok (.goto 4, 3) := by decide +kernel
theorem dL_act_16 : decode cL_act 16 = .ok (.iconst 0, 1) := by decide +kernel
theorem dL_act_17 : decode cL_act 17 = .ok (.istore_n 2, 1) := by decide +kernel
theorem dL_act_18 : decode cL_act 18 = .ok (.iload_n 2, 1) := by decide +kernel
theorem dL_act_19 : decode cL_act 19 = .ok (.ifCond .eq 16, 3) := by decide +kernel
theorem dL_act_22 : decode cL_act 22 = .ok (.iload_n 1, 1) := by decide +kernel
theorem dL_act_23 : decode cL_act 23 = .ok (.iconst 5, 1) := by decide +kernel
theorem dL_act_24 : decode cL_act 24 = .ok (.ishr, 1) := by decide +kernel
theorem dL_act_25 : decode cL_act 25 = .ok (.bipush 11, 2) := by decide +kernel
theorem dL_act_27 : decode cL_act 27 = .ok (.invokestatic 86, 3) := by decide +kernel
theorem dL_act_30 : decode cL_act 30 = .ok (.iconst 1, 1) := by decide +kernel
theorem dL_act_31 : decode cL_act 31 = .ok (.isub, 1) := by decide +kernel
theorem dL_act_32 : decode cL_act 32 = .ok (.goto 10, 3) := by decide +kernel
theorem dL_act_35 : decode cL_act 35 = .ok (.iload_n 1, 1) := by decide +kernel
theorem dL_act_36 : decode cL_act 36 = .ok (.iconst 5, 1) := by decide +kernel
theorem dL_act_37 : decode cL_act 37 = .ok (.ishr, 1) := by decide +kernel
theorem dL_act_38 : decode cL_act 38 = .ok (.iconst 3, 1) := by decide +kernel
theorem dL_act_39 : decode cL_act 39 = .ok (.invokestatic 86, 3) := by decide +kernel
theorem dL_act_42 : decode cL_act 42 = .ok (.istore_n 3, 1) := by decide +kernel
theorem dL_act_43 : decode cL_act 43 = .ok (.iload_n 2, 1) := by decide +kernel
theorem dL_act_44 : decode cL_act 44 = .ok (.ifCond .eq 17, 3) := by decide +kernel
theorem dL_act_47 : decode cL_act 47 = .ok (.iload_n 1, 1) := by decide +kernel
theorem dL_act_48 : decode cL_act 48 = .ok (.bipush 8, 2) := by decide +kernel
theorem dL_act_50 : decode cL_act 50 = .ok (.ishr, 1) := by decide +kernel
theorem dL_act_51 : decode cL_act 51 = .ok (.bipush 7, 2) := by decide +kernel
theorem dL_act_53 : decode cL_act 53 = .ok (.invokestatic 86, 3) := by decide +kernel
theorem dL_act_56 : decode cL_act 56 = .ok (.iconst 1, 1) := by decide +kernel
theorem dL_act_57 : decode cL_act 57 = .ok (.isub, 1) := by decide +kernel
theorem dL_act_58 : decode cL_act 58 = .ok (.goto 11, 3) := by decide +kernel
theorem dL_act_61 : decode cL_act 61 = .ok (.iload_n 1, 1) := by decide +kernel
theorem dL_act_62 : decode cL_act 62 = .ok (.bipush 8, 2) := by decide +kernel
theorem dL_act_64 : decode cL_act 64 = .ok (.ishr, 1) := by decide +kernel
theorem dL_act_65 : decode cL_act 65 = .ok (.iconst 2, 1) := by decide +kernel
theorem dL_act_66 : decode cL_act 66 = .ok (.invokestatic 86, 3) := by decide +kernel
theorem dL_act_69 : decode cL_act 69 = .ok (.istore 4, 2) := by decide +kernel
theorem dL_act_71 : decode cL_act 71 = .ok (.iload_n 2, 1) := by decide +kernel
theorem dL_act_72 : decode cL_act 72 = .ok (.ifCond .eq 10, 3) := by decide +kernel
theorem dL_act_75 : decode cL_act 75 = .ok (.iload_n 1, 1) := by decide +kernel
theorem dL_act_76 : decode cL_act 76 = .ok (.bipush 9, 2) := by decide +kernel
theorem dL_act_78 : decode cL_act 78 = .ok (.ishr, 1) := by decide +kernel
theorem dL_act_79 : decode cL_act 79 = .ok (.goto 15, 3) := by decide +kernel
theorem dL_act_82 : decode cL_act 82 = .ok (.bipush 10, 2) := by decide +kernel
theorem dL_act_84 : decode cL_act 84 = .ok (.iload_n 1, 1) := by decide +kernel
theorem dL_act_85 : decode cL_act 85 = .ok (.bipush 9, 2) := by decide +kernel
theorem dL_act_87 : decode cL_act 87 = .ok (.ishr, 1) := by decide +kernel
theorem dL_act_88 : decode cL_act 88 = .ok (.bipush 110, 2) := by decide +kernel
theorem dL_act_90 : decode cL_act 90 = .ok (.invokestatic 86, 3) := by decide +kernel
theorem dL_act_93 : decode cL_act 93 = .ok (.iadd, 1) := by decide +kernel
theorem dL_act_94 : decode cL_act 94 = .ok (.istore 5, 2) := by decide +kernel
theorem dL_act_96 : decode cL_act 96 = .ok (.iload_n 2, 1) := by decide +kernel
theorem dL_act_97 : decode cL_act 97 = .ok (.ifCond .eq 17, 3) := by decide +kernel
theorem dL_act_100 : decode cL_act 100 = .ok (.iload_n 1, 1) := by decide +kernel
theorem dL_act_101 : decode cL_act 101 = .ok (.bipush 12, 2) := by decide +kernel
theorem dL_act_103 : decode cL_act 103 = .ok (.ishr, 1) := by decide +kernel
theorem dL_act_104 : decode cL_act 104 = .ok (.bipush 12, 2) := by decide +kernel
theorem dL_act_106 : decode cL_act 106 = .ok (.invokestatic 86, 3) := by decide +kernel
theorem dL_act_109 : decode cL_act 109 = .ok (.iconst 2, 1) := by decide +kernel
theorem dL_act_110 : decode cL_act 110 = .ok (.isub, 1) := by decide +kernel
theorem dL_act_111 : decode cL_act 111 = .ok (.goto 11, 3) := by decide +kernel
theorem dL_act_114 : decode cL_act 114 = .ok (.iload_n 1, 1) := by decide +kernel
theorem dL_act_115 : decode cL_act 115 = .ok (.bipush 12, 2) := by decide +kernel
theorem dL_act_117 : decode cL_act 117 = .ok (.ishr, 1) := by decide +kernel
theorem dL_act_118 : decode cL_act 118 = .ok (.iconst 4, 1) := by decide +kernel
theorem dL_act_119 : decode cL_act 119 = .ok (.invokestatic 86, 3) := by decide +kernel
theorem dL_act_122 : decode cL_act 122 = .ok (.istore 6, 2) := by decide +kernel
theorem dL_act_124 : decode cL_act 124 = .ok (.iload_n 2, 1) := by decide +kernel
theorem dL_act_125 : decode cL_act 125 = .ok (.ifCond .eq 17, 3) := by decide +kernel
theorem dL_act_128 : decode cL_act 128 = .ok (.iload_n 1, 1) := by decide +kernel
theorem dL_act_129 : decode cL_act 129 = .ok (.bipush 15, 2) := by decide +kernel
theorem dL_act_131 : decode cL_act 131 = .ok (.ishr, 1) := by decide +kernel
theorem dL_act_132 : decode cL_act 132 = .ok (.bipush 24, 2) := by decide +kernel
theorem dL_act_134 : decode cL_act 134 = .ok (.invokestatic 86, 3) := by decide +kernel
theorem dL_act_137 : decode cL_act 137 = .ok (.iconst 2, 1) := by decide +kernel
theorem dL_act_138 : decode cL_act 138 = .ok (.isub, 1) := by decide +kernel
theorem dL_act_139 : decode cL_act 139 = .ok (.goto 12, 3) := by decide +kernel
theorem dL_act_142 : decode cL_act 142 = .ok (.iload_n 1, 1) := by decide +kernel
theorem dL_act_143 : decode cL_act 143 = .ok (.bipush 15, 2) := by decide +kernel
theorem dL_act_145 : decode cL_act 145 = .ok (.ishr, 1) := by decide +kernel
theorem dL_act_146 : decode cL_act 146 = .ok (.bipush 8, 2) := by decide +kernel
theorem dL_act_148 : decode cL_act 148 = .ok (.invokestatic 86, 3) := by decide +kernel
theorem dL_act_151 : decode cL_act 151 = .ok (.istore 7, 2) := by decide +kernel
theorem dL_act_153 : decode cL_act 153 = .ok (.iload_n 1, 1) := by decide +kernel
theorem dL_act_154 : decode cL_act 154 = .ok (.bipush 36, 2) := by decide +kernel
theorem dL_act_156 : decode cL_act 156 = .ok (.invokestatic 86, 3) := by decide +kernel
theorem dL_act_159 : decode cL_act 159 = .ok (.tableswitch 842 0 34 #[153, 153, 153, 153, 153, 153, 153, 177, 220, 220, 220, 246, 246, 291, 341, 349, 349, 447, 491, 499, 499, 527, 600, 608, 618, 618, 644, 687, 758, 758, 786, 786, 786, 793, 817], 153) := by decide +kernel
theorem dL_act_312 : decode cL_act 312 = .ok (.aload_n 0, 1) := by decide +kernel
theorem dL_act_313 : decode cL_act 313 = .ok (.iload 5, 2) := by decide +kernel
theorem dL_act_315 : decode cL_act 315 = .ok (.iload_n 2, 1) := by decide +kernel
theorem dL_act_316 : decode cL_act 316 = .ok (.ifCond .eq 8, 3) := by decide +kernel
theorem dL_act_319 : decode cL_act 319 = .ok (.iload 6, 2) := by decide +kernel
theorem dL_act_321 : decode cL_act 321 = .ok (.goto 11, 3) := by decide +kernel
theorem dL_act_324 : decode cL_act 324 = .ok (.iload_n 1, 1) := by decide +kernel
theorem dL_act_325 : decode cL_act 325 = .ok (.bipush 12, 2) := by decide +kernel
theorem dL_act_327 : decode cL_act 327 = .ok (.ishr, 1) := by decide +kernel
theorem dL_act_328 : decode cL_act 328 = .ok (.iconst 2, 1) := by decide +kernel
theorem dL_act_329 : decode cL_act 329 = .ok (.invokestatic 86, 3) := by decide +kernel
theorem dL_act_332 : decode cL_act 332 = .ok (.invokestatic 91, 3) := by decide +kernel
theorem dL_act_335 : decode cL_act 335 = .ok (.lreturn, 1) := by decide +kernel
theorem dL_act_336 : decode cL_act 336 = .ok (.iload_n 1, 1) := by decide +kernel
theorem dL_act_337 : decode cL_act 337 = .ok (.bipush 16, 2) := by decide +kernel
theorem dL_act_339 : decode cL_act 339 = .ok (.ishr, 1) := by decide +kernel
theorem dL_act_340 : decode cL_act 340 = .ok (.iconst 4, 1) := by decide +kernel
theorem dL_act_341 : decode cL_act 341 = .ok (.invokestatic 86, 3) := by decide +kernel
theorem dL_act_344 : decode cL_act 344 = .ok (.ifCond .ne 11, 3) := by decide +kernel
theorem dL_act_347 : decode cL_act 347 = .ok (.aload_n 0, 1) := by decide +kernel
theorem dL_act_348 : decode cL_act 348 = .ok (.invokevirtual 94, 3) := by decide +kernel
theorem dL_act_351 : decode cL_act 351 = .ok (.i2l, 1) := by decide +kernel
theorem dL_act_352 : decode cL_act 352 = .ok (.goto 26, 3) := by decide +kernel
theorem dL_act_355 : decode cL_act 355 = .ok (.aload_n 0, 1) := by decide +kernel
theorem dL_act_356 : decode cL_act 356 = .ok (.iload_n 3, 1) := by decide +kernel
theorem dL_act_357 : decode cL_act 357 = .ok (.iload_n 2, 1) := by decide +kernel
theorem dL_act_358 : decode cL_act 358 = .ok (.ifCond .eq 8, 3) := by decide +kernel
theorem dL_act_361 : decode cL_act 361 = .ok (.iload 5, 2) := by decide +kernel
theorem dL_act_363 : decode cL_act 363 = .ok (.goto 12, 3) := by decide +kernel
theorem dL_act_366 : decode cL_act 366 = .ok (.iload_n 1, 1) := by decide +kernel
theorem dL_act_367 : decode cL_act 367 = .ok (.bipush 9, 2) := by decide +kernel
theorem dL_act_369 : decode cL_act 369 = .ok (.ishr, 1) := by decide +kernel
theorem dL_act_370 : decode cL_act 370 = .ok (.bipush 6, 2) := by decide +kernel
theorem dL_act_372 : decode cL_act 372 = .ok (.invokestatic 86, 3) := by decide +kernel
theorem dL_act_375 : decode cL_act 375 = .ok (.invokestatic 98, 3) := by decide +kernel
theorem dL_act_378 : decode cL_act 378 = .ok (.lreturn, 1) := by decide +kernel
theorem dL_act_379 : decode cL_act 379 = .ok (.aload_n 0, 1) := by decide +kernel
theorem dL_act_380 : decode cL_act 380 = .ok (.iload 5, 2) := by decide +kernel
theorem dL_act_382 : decode cL_act 382 = .ok (.iload_n 2, 1) := by decide +kernel
theorem dL_act_383 : decode cL_act 383 = .ok (.ifCond .eq 8, 3) := by decide +kernel
theorem dL_act_386 : decode cL_act 386 = .ok (.iload 6, 2) := by decide +kernel
theorem dL_act_388 : decode cL_act 388 = .ok (.goto 13, 3) := by decide +kernel
theorem dL_act_391 : decode cL_act 391 = .ok (.iconst 1, 1) := by decide +kernel
theorem dL_act_392 : decode cL_act 392 = .ok (.iload_n 1, 1) := by decide +kernel
theorem dL_act_393 : decode cL_act 393 = .ok (.bipush 12, 2) := by decide +kernel
theorem dL_act_395 : decode cL_act 395 = .ok (.ishr, 1) := by decide +kernel
theorem dL_act_396 : decode cL_act 396 = .ok (.iconst 4, 1) := by decide +kernel
theorem dL_act_397 : decode cL_act 397 = .ok (.invokestatic 86, 3) := by decide +kernel
theorem dL_act_400 : decode cL_act 400 = .ok (.iadd, 1) := by decide +kernel
theorem dL_act_401 : decode cL_act 401 = .ok (.invokestatic 100, 3) := by decide +kernel
theorem dL_act_404 : decode cL_act 404 = .ok (.lreturn, 1) := by decide +kernel
theorem dL_act_405 : decode cL_act 405 = .ok (.aload_n 0, 1) := by decide +kernel
theorem dL_act_406 : decode cL_act 406 = .ok (.iload_n 3, 1) := by decide +kernel
theorem dL_act_407 : decode cL_act 407 = .ok (.iload_n 2, 1) := by decide +kernel
theorem dL_act_408 : decode cL_act 408 = .ok (.ifCond .eq 8, 3) := by decide +kernel
theorem dL_act_411 : decode cL_act 411 = .ok (.iload 5, 2) := by decide +kernel
theorem dL_act_413 : decode cL_act 413 = .ok (.goto 14, 3) := by decide +kernel
theorem dL_act_416 : decode cL_act 416 = .ok (.bipush 10, 2) := by decide +kernel
theorem dL_act_418 : decode cL_act 418 = .ok (.iload_n 1, 1) := by decide +kernel
theorem dL_act_419 : decode cL_act 419 = .ok (.bipush 9, 2) := by decide +kernel
theorem dL_act_421 : decode cL_act 421 = .ok (.ishr, 1) := by decide +kernel
theorem dL_act_422 : decode cL_act 422 = .ok (.iconst 2, 1) := by decide +kernel
theorem dL_act_423 : decode cL_act 423 = .ok (.invokestatic 86, 3) := by decide +kernel
theorem dL_act_426 : decode cL_act 426 = .ok (.iadd, 1) := by decide +kernel
theorem dL_act_427 : decode cL_act 427 = .ok (.iload_n 2, 1) := by decide +kernel
theorem dL_act_428 : decode cL_act 428 = .ok (.ifCond .eq 8, 3) := by decide +kernel
theorem dL_act_431 : decode cL_act 431 = .ok (.iload 6, 2) := by decide +kernel
theorem dL_act_433 : decode cL_act 433 = .ok (.goto 13, 3) := by decide +kernel
theorem dL_act_436 : decode cL_act 436 = .ok (.iconst 1, 1) := by decide +kernel
theorem dL_act_437 : decode cL_act 437 = .ok (.iload_n 1, 1) := by decide +kernel
theorem dL_act_438 : decode cL_act 438 = .ok (.bipush 12, 2) := by decide +kernel
theorem dL_act_440 : decode cL_act 440 = .ok (.ishr, 1) := by decide +kernel
theorem dL_act_441 : decode cL_act 441 = .ok (.iconst 2, 1) := by decide +kernel
theorem dL_act_442 : decode cL_act 442 = .ok (.invokestatic 86, 3) := by decide +kernel
theorem dL_act_445 : decode cL_act 445 = .ok (.iadd, 1) := by decide +kernel
theorem dL_act_446 : decode cL_act 446 = .ok (.invokestatic 102, 3) := by decide +kernel
theorem dL_act_449 : decode cL_act 449 = .ok (.lreturn, 1) := by decide +kernel
theorem dL_act_450 : decode cL_act 450 = .ok (.aload_n 0, 1) := by decide +kernel
theorem dL_act_451 : decode cL_act 451 = .ok (.iload_n 3, 1) := by decide +kernel
theorem dL_act_452 : decode cL_act 452 = .ok (.iload 6, 2) := by decide +kernel
theorem dL_act_454 : decode cL_act 454 = .ok (.iload_n 2, 1) := by decide +kernel
theorem dL_act_455 : decode cL_act 455 = .ok (.ifCond .eq 10, 3) := by decide +kernel
theorem dL_act_458 : decode cL_act 458 = .ok (.iload_n 1, 1) := by decide +kernel
theorem dL_act_459 : decode cL_act 459 = .ok (.bipush 6, 2) := by decide +kernel
theorem dL_act_461 : decode cL_act 461 = .ok (.ishr, 1) := by decide +kernel
theorem dL_act_462 : decode cL_act 462 = .ok (.goto 14, 3) := by decide +kernel
theorem dL_act_465 : decode cL_act 465 = .ok (.iconst 1, 1) := by decide +kernel
theorem dL_act_466 : decode cL_act 466 = .ok (.iload_n 1, 1) := by decide +kernel
theorem dL_act_467 : decode cL_act 467 = .ok (.bipush 6, 2) := by decide +kernel
theorem dL_act_469 : decode cL_act 469 = .ok (.ishr, 1) := by decide +kernel
theorem dL_act_470 : decode cL_act 470 = .ok (.bipush 30, 2) := by decide +kernel
theorem dL_act_472 : decode cL_act 472 = .ok (.invokestatic 86, 3) := by decide +kernel
theorem dL_act_475 : decode cL_act 475 = .ok (.iadd, 1) := by decide +kernel
theorem dL_act_476 : decode cL_act 476 = .ok (.iload_n 2, 1) := by decide +kernel
theorem dL_act_477 : decode cL_act 477 = .ok (.ifCond .eq 8, 3) := by decide +kernel
theorem dL_act_480 : decode cL_act 480 = .ok (.iload 5, 2) := by decide +kernel
theorem dL_act_482 : decode cL_act 482 = .ok (.goto 14, 3) := by decide +kernel
theorem dL_act_485 : decode cL_act 485 = .ok (.iconst 1, 1) := by decide +kernel
theorem dL_act_486 : decode cL_act 486 = .ok (.iload_n 1, 1) := by decide +kernel
theorem dL_act_487 : decode cL_act 487 = .ok (.bipush 9, 2) := by decide +kernel
theorem dL_act_489 : decode cL_act 489 = .ok (.ishr, 1) := by decide +kernel
theorem dL_act_490 : decode cL_act 490 = .ok (.bipush 20, 2) := by decide +kernel
theorem dL_act_492 : decode cL_act 492 = .ok (.invokestatic 86, 3) := by decide +kernel
theorem dL_act_495 : decode cL_act 495 = .ok (.iadd, 1) := by decide +kernel
theorem dL_act_496 : decode cL_act 496 = .ok (.invokestatic 105, 3) := by decide +kernel
theorem dL_act_499 : decode cL_act 499 = .ok (.lreturn, 1) := by decide +kernel
theorem dL_act_500 : decode cL_act 500 = .ok (.aload_n 0, 1) := by decide +kernel
theorem dL_act_501 : decode cL_act 501 = .ok (.iload_n 3, 1) := by decide +kernel
theorem dL_act_502 : decode cL_act 502 = .ok (.iload 6, 2) := by decide +kernel
theorem dL_act_504 : decode cL_act 504 = .ok (.invokestatic 108, 3) := by decide +kernel
theorem dL_act_507 : decode cL_act 507 = .ok (.lreturn, 1) := by decide +kernel
theorem dL_act_508 : decode cL_act 508 = .ok (.aload_n 0, 1) := by decide +kernel
theorem dL_act_509 : decode cL_act 509 = .ok (.iload_n 2, 1) := by decide +kernel
theorem dL_act_510 : decode cL_act 510 = .ok (.ifCond .eq 8, 3) := by decide +kernel
theorem dL_act_513 : decode cL_act 513 = .ok (.iload 5, 2) := by decide +kernel
theorem dL_act_515 : decode cL_act 515 = .ok (.goto 14, 3) := by decide +kernel
theorem dL_act_518 : decode cL_act 518 = .ok (.iconst 4, 1) := by decide +kernel
theorem dL_act_519 : decode cL_act 519 = .ok (.iload_n 1, 1) := by decide +kernel
theorem dL_act_520 : decode cL_act 520 = .ok (.bipush 9, 2) := by decide +kernel
theorem dL_act_522 : decode cL_act 522 = .ok (.ishr, 1) := by decide +kernel
theorem dL_act_523 : decode cL_act 523 = .ok (.bipush 30, 2) := by decide +kernel
theorem dL_act_525 : decode cL_act 525 = .ok (.invokestatic 86, 3) := by decide +kernel
theorem dL_act_528 : decode cL_act 528 = .ok (.iadd, 1) := by decide +kernel
theorem dL_act_529 : decode cL_act 529 = .ok (.iload_n 2, 1) := by decide +kernel
theorem dL_act_530 : decode cL_act 530 = .ok (.ifCond .eq 9, 3) := by decide +kernel
theorem dL_act_533 : decode cL_act 533 = .ok (.iload_n 1, 1) := by decide +kernel
theorem dL_act_534 : decode cL_act 534 = .ok (.iconst 3, 1) := by decide +kernel
theorem dL_act_535 : decode cL_act 535 = .ok (.ishr, 1) := by decide +kernel
theorem dL_act_536 : decode cL_act 536 = .ok (.goto 11, 3) := by decide +kernel
theorem dL_act_539 : decode cL_act 539 = .ok (.iload_n 1, 1) := by decide +kernel
theorem dL_act_540 : decode cL_act 540 = .ok (.iconst 3, 1) := by decide +kernel
theorem dL_act_541 : decode cL_act 541 = .ok (.ishr, 1) := by decide +kernel
theorem dL_act_542 : decode cL_act 542 = .ok (.bipush 31, 2) := by decide +kernel
theorem dL_act_544 : decode cL_act 544 = .ok (.invokestatic 86, 3) := by decide +kernel
theorem dL_act_547 : decode cL_act 547 = .ok (.bipush 10, 2) := by decide +kernel
theorem dL_act_549 : decode cL_act 549 = .ok (.iload_n 1, 1) := by decide +kernel
theorem dL_act_550 : decode cL_act 550 = .ok (.bipush 6, 2) := by decide +kernel
theorem dL_act_552 : decode cL_act 552 = .ok (.ishr, 1) := by decide +kernel
theorem dL_act_553 : decode cL_act 553 = .ok (.bipush 120, 2) := by decide +kernel
theorem dL_act_555 : decode cL_act 555 = .ok (.invokestatic 86, 3) := by decide +kernel
theorem dL_act_558 : decode cL_act 558 = .ok (.iadd, 1) := by decide +kernel
theorem dL_act_559 : decode cL_act 559 = .ok (.iload_n 2, 1) := by decide +kernel
theorem dL_act_560 : decode cL_act 560 = .ok (.ifCond .eq 9, 3) := by decide +kernel
theorem dL_act_563 : decode cL_act 563 = .ok (.iload_n 1, 1) := by decide +kernel
theorem dL_act_564 : decode cL_act 564 = .ok (.iconst 5, 1) := by decide +kernel
theorem dL_act_565 : decode cL_act 565 = .ok (.ishr, 1) := by decide +kernel
theorem dL_act_566 : decode cL_act 566 = .ok (.goto 14, 3) := by decide +kernel
theorem dL_act_569 : decode cL_act 569 = .ok (.bipush 10, 2) := by decide +kernel
theorem dL_act_571 : decode cL_act 571 = .ok (.iload_n 1, 1) := by decide +kernel
theorem dL_act_572 : decode cL_act 572 = .ok (.iconst 5, 1) := by decide +kernel
theorem dL_act_573 : decode cL_act 573 = .ok (.ishr, 1) := by decide +kernel
theorem dL_act_574 : decode cL_act 574 = .ok (.bipush 100, 2) := by decide +kernel
theorem dL_act_576 : decode cL_act 576 = .ok (.invokestatic 86, 3) := by decide +kernel
theorem dL_act_579 : decode cL_act 579 = .ok (.iadd, 1) := by decide +kernel
theorem dL_act_580 : decode cL_act 580 = .ok (.iload_n 2, 1) := by decide +kernel
theorem dL_act_581 : decode cL_act 581 = .ok (.ifCond .eq 9, 3) := by decide +kernel
theorem dL_act_584 : decode cL_act 584 = .ok (.iload_n 1, 1) := by decide +kernel
theorem dL_act_585 : decode cL_act 585 = .ok (.iconst 4, 1) := by decide +kernel
theorem dL_act_586 : decode cL_act 586 = .ok (.ishr, 1) := by decide +kernel
theorem dL_act_587 : decode cL_act 587 = .ok (.goto 15, 3) := by decide +kernel
theorem dL_act_590 : decode cL_act 590 = .ok (.bipush 20, 2) := by decide +kernel
theorem dL_act_592 : decode cL_act 592 = .ok (.iload_n 1, 1) := by decide +kernel
theorem dL_act_593 : decode cL_act 593 = .ok (.iconst 4, 1) := by decide +kernel
theorem dL_act_594 : decode cL_act 594 = .ok (.ishr, 1) := by decide +kernel
theorem dL_act_595 : decode cL_act 595 = .ok (.sipush 400, 3) := by decide +kernel
theorem dL_act_598 : decode cL_act 598 = .ok (.invokestatic 86, 3) := by decide +kernel
theorem dL_act_601 : decode cL_act 601 = .ok (.iadd, 1) := by decide +kernel
theorem dL_act_602 : decode cL_act 602 = .ok (.invokestatic 111, 3) := by decide +kernel
theorem dL_act_605 : decode cL_act 605 = .ok (.lreturn, 1) := by decide +kernel
theorem dL_act_606 : decode cL_act 606 = .ok (.aload_n 0, 1) := by decide +kernel
theorem dL_act_607 : decode cL_act 607 = .ok (.iload 4, 2) := by decide +kernel
theorem dL_act_609 : decode cL_act 609 = .ok (.iload_n 2, 1) := by decide +kernel
theorem dL_act_610 : decode cL_act 610 = .ok (.ifCond .eq 8, 3) := by decide +kernel
theorem dL_act_613 : decode cL_act 613 = .ok (.iload 6, 2) := by decide +kernel
theorem dL_act_615 : decode cL_act 615 = .ok (.goto 13, 3) := by decide +kernel
theorem dL_act_618 : decode cL_act 618 = .ok (.iconst 1, 1) := by decide +kernel
theorem dL_act_619 : decode cL_act 619 = .ok (.iload_n 1, 1) := by decide +kernel
theorem dL_act_620 : decode cL_act 620 = .ok (.bipush 12, 2) := by decide +kernel
theorem dL_act_622 : decode cL_act 622 = .ok (.ishr, 1) := by decide +kernel
theorem dL_act_623 : decode cL_act 623 = .ok (.iconst 4, 1) := by decide +kernel
theorem dL_act_624 : decode cL_act 624 = .ok (.invokestatic 86, 3) := by decide +kernel
theorem dL_act_627 : decode cL_act 627 = .ok (.iadd, 1) := by decide +kernel
theorem dL_act_628 : decode cL_act 628 = .ok (.iload_n 2, 1) := by decide +kernel
theorem dL_act_629 : decode cL_act 629 = .ok (.ifCond .eq 8, 3) := by decide +kernel
theorem dL_act_632 : decode cL_act 632 = .ok (.iload 5, 2) := by decide +kernel
theorem dL_act_634 : decode cL_act 634 = .ok (.goto 12, 3) := by decide +kernel
theorem dL_act_637 : decode cL_act 637 = .ok (.iload_n 1, 1) := by decide +kernel
theorem dL_act_638 : decode cL_act 638 = .ok (.bipush 9, 2) := by decide +kernel
theorem dL_act_640 : decode cL_act 640 = .ok (.ishr, 1) := by decide +kernel
theorem dL_act_641 : decode cL_act 641 = .ok (.bipush 10, 2) := by decide +kernel
theorem dL_act_643 : decode cL_act 643 = .ok (.invokestatic 86, 3) := by decide +kernel
theorem dL_act_646 : decode cL_act 646 = .ok (.invokestatic 114, 3) := by decide +kernel
theorem dL_act_649 : decode cL_act 649 = .ok (.lreturn, 1) := by decide +kernel
theorem dL_act_650 : decode cL_act 650 = .ok (.aload_n 0, 1) := by decide +kernel
theorem dL_act_651 : decode cL_act 651 = .ok (.iload_n 3, 1) := by decide +kernel
theorem dL_act_652 : decode cL_act 652 = .ok (.iload 4, 2) := by decide +kernel
theorem dL_act_654 : decode cL_act 654 = .ok (.invokestatic 116, 3) := by decide +kernel
theorem dL_act_657 : decode cL_act 657 = .ok (.lreturn, 1) := by decide +kernel
theorem dL_act_658 : decode cL_act 658 = .ok (.aload_n 0, 1) := by decide +kernel
theorem dL_act_659 : decode cL_act 659 = .ok (.iload_n 3, 1) := by decide +kernel
theorem dL_act_660 : decode cL_act 660 = .ok (.iload 4, 2) := by decide +kernel
theorem dL_act_662 : decode cL_act 662 = .ok (.iload_n 2, 1) := by decide +kernel
theorem dL_act_663 : decode cL_act 663 = .ok (.ifCond .eq 8, 3) := by decide +kernel
theorem dL_act_666 : decode cL_act 666 = .ok (.iload 5, 2) := by decide +kernel
theorem dL_act_668 : decode cL_act 668 = .ok (.goto 12, 3) := by decide +kernel
theorem dL_act_671 : decode cL_act 671 = .ok (.iload_n 1, 1) := by decide +kernel
theorem dL_act_672 : decode cL_act 672 = .ok (.bipush 9, 2) := by decide +kernel
theorem dL_act_674 : decode cL_act 674 = .ok (.ishr, 1) := by decide +kernel
theorem dL_act_675 : decode cL_act 675 = .ok (.bipush 8, 2) := by decide +kernel
theorem dL_act_677 : decode cL_act 677 = .ok (.invokestatic 86, 3) := by decide +kernel
theorem dL_act_680 : decode cL_act 680 = .ok (.iload 6, 2) := by decide +kernel
theorem dL_act_682 : decode cL_act 682 = .ok (.invokestatic 118, 3) := by decide +kernel
theorem dL_act_685 : decode cL_act 685 = .ok (.lreturn, 1) := by decide +kernel
theorem dL_act_686 : decode cL_act 686 = .ok (.aload_n 0, 1) := by decide +kernel
theorem dL_act_687 : decode cL_act 687 = .ok (.iload_n 3, 1) := by decide +kernel
theorem dL_act_688 : decode cL_act 688 = .ok (.iload_n 2, 1) := by decide +kernel
theorem dL_act_689 : decode cL_act 689 = .ok (.ifCond .eq 8, 3) := by decide +kernel
theorem dL_act_692 : decode cL_act 692 = .ok (.iload 5, 2) := by decide +kernel
theorem dL_act_694 : decode cL_act 694 = .ok (.goto 12, 3) := by decide +kernel
theorem dL_act_697 : decode cL_act 697 = .ok (.iload_n 1, 1) := by decide +kernel
theorem dL_act_698 : decode cL_act 698 = .ok (.bipush 9, 2) := by decide +kernel
theorem dL_act_700 : decode cL_act 700 = .ok (.ishr, 1) := by decide +kernel
theorem dL_act_701 : decode cL_act 701 = .ok (.bipush 8, 2) := by decide +kernel
theorem dL_act_703 : decode cL_act 703 = .ok (.invokestatic 86, 3) := by decide +kernel
theorem dL_act_706 : decode cL_act 706 = .ok (.iload 6, 2) := by decide +kernel
theorem dL_act_708 : decode cL_act 708 = .ok (.iload_n 1, 1) := by decide +kernel
theorem dL_act_709 : decode cL_act 709 = .ok (.bipush 20, 2) := by decide +kernel
theorem dL_act_711 : decode cL_act 711 = .ok (.ishr, 1) := by decide +kernel
theorem dL_act_712 : decode cL_act 712 = .ok (.iconst 1, 1) := by decide +kernel
theorem dL_act_713 : decode cL_act 713 = .ok (.iand, 1) := by decide +kernel
theorem dL_act_714 : decode cL_act 714 = .ok (.iconst 1, 1) := by decide +kernel
theorem dL_act_715 : decode cL_act 715 = .ok (.if_icmp .ne 7, 3) := by decide +kernel
theorem dL_act_718 : decode cL_act 718 = .ok (.iconst 1, 1) := by decide +kernel
theorem dL_act_719 : decode cL_act 719 = .ok (.goto 4, 3) := by decide +kernel
theorem dL_act_722 : decode cL_act 722 = .ok (.iconst 0, 1) := by decide +kernel
theorem dL_act_723 : decode cL_act 723 = .ok (.iload_n 2, 1) := by decide +kernel
theorem dL_act_724 : decode cL_act 724 = .ok (.ifCond .eq 8, 3) := by decide +kernel
theorem dL_act_727 : decode cL_act 727 = .ok (.iload 7, 2) := by decide +kernel
theorem dL_act_729 : decode cL_act 729 = .ok (.goto 11, 3) := by decide +kernel
theorem dL_act_732 : decode cL_act 732 = .ok (.iload_n 1, 1) := by decide +kernel
theorem dL_act_733 : decode cL_act 733 = .ok (.bipush 15, 2) := by decide +kernel
theorem dL_act_735 : decode cL_act 735 = .ok (.ishr, 1) := by decide +kernel
theorem dL_act_736 : decode cL_act 736 = .ok (.iconst 3, 1) := by decide +kernel
theorem dL_act_737 : decode cL_act 737 = .ok (.invokestatic 86, 3) := by decide +kernel
theorem dL_act_740 : decode cL_act 740 = .ok (.iload_n 1, 1) := by decide +kernel
theorem dL_act_741 : decode cL_act 741 = .ok (.bipush 21, 2) := by decide +kernel
theorem dL_act_743 : decode cL_act 743 = .ok (.ishr, 1) := by decide +kernel
theorem dL_act_744 : decode cL_act 744 = .ok (.iconst 1, 1) := by decide +kernel
theorem dL_act_745 : decode cL_act 745 = .ok (.iand, 1) := by decide +kernel
theorem dL_act_746 : decode cL_act 746 = .ok (.iconst 1, 1) := by decide +kernel
theorem dL_act_747 : decode cL_act 747 = .ok (.if_icmp .ne 7, 3) := by decide +kernel
theorem dL_act_750 : decode cL_act 750 = .ok (.iconst 1, 1) := by decide +kernel
theorem dL_act_751 : decode cL_act 751 = .ok (.goto 4, 3) := by decide +kernel
theorem dL_act_754 : decode cL_act 754 = .ok (.iconst 0, 1) := by decide +kernel
theorem dL_act_755 : decode cL_act 755 = .ok (.invokestatic 120, 3) := by decide +kernel
theorem dL_act_758 : decode cL_act 758 = .ok (.lreturn, 1) := by decide +kernel
theorem dL_act_759 : decode cL_act 759 = .ok (.aload_n 0, 1) := by decide +kernel
theorem dL_act_760 : decode cL_act 760 = .ok (.iload_n 3, 1) := by decide +kernel
theorem dL_act_761 : decode cL_act 761 = .ok (.iload 4, 2) := by decide +kernel
theorem dL_act_763 : decode cL_act 763 = .ok (.invokestatic 123, 3) := by decide +kernel
theorem dL_act_766 : decode cL_act 766 = .ok (.lreturn, 1) := by decide +kernel
theorem dL_act_767 : decode cL_act 767 = .ok (.aload_n 0, 1) := by decide +kernel
theorem dL_act_768 : decode cL_act 768 = .ok (.iload_n 3, 1) := by decide +kernel
theorem dL_act_769 : decode cL_act 769 = .ok (.iload 4, 2) := by decide +kernel
theorem dL_act_771 : decode cL_act 771 = .ok (.iload 6, 2) := by decide +kernel
theorem dL_act_773 : decode cL_act 773 = .ok (.invokestatic 125, 3) := by decide +kernel
theorem dL_act_776 : decode cL_act 776 = .ok (.lreturn, 1) := by decide +kernel
theorem dL_act_777 : decode cL_act 777 = .ok (.aload_n 0, 1) := by decide +kernel
theorem dL_act_778 : decode cL_act 778 = .ok (.iload_n 3, 1) := by decide +kernel
theorem dL_act_779 : decode cL_act 779 = .ok (.iload_n 2, 1) := by decide +kernel
theorem dL_act_780 : decode cL_act 780 = .ok (.ifCond .eq 8, 3) := by decide +kernel
theorem dL_act_783 : decode cL_act 783 = .ok (.iload 5, 2) := by decide +kernel
theorem dL_act_785 : decode cL_act 785 = .ok (.goto 14, 3) := by decide +kernel
theorem dL_act_788 : decode cL_act 788 = .ok (.iconst 1, 1) := by decide +kernel
theorem dL_act_789 : decode cL_act 789 = .ok (.iload_n 1, 1) := by decide +kernel
theorem dL_act_790 : decode cL_act 790 = .ok (.bipush 9, 2) := by decide +kernel
theorem dL_act_792 : decode cL_act 792 = .ok (.ishr, 1) := by decide +kernel
theorem dL_act_793 : decode cL_act 793 = .ok (.bipush 6, 2) := by decide +kernel
theorem dL_act_795 : decode cL_act 795 = .ok (.invokestatic 86, 3) := by decide +kernel
theorem dL_act_798 : decode cL_act 798 = .ok (.iadd, 1) := by decide +kernel
theorem dL_act_799 : decode cL_act 799 = .ok (.invokestatic 127, 3) := by decide +kernel
theorem dL_act_802 : decode cL_act 802 = .ok (.lreturn, 1) := by decide +kernel
theorem dL_act_803 : decode cL_act 803 = .ok (.iload_n 1, 1) := by decide +kernel
theorem dL_act_804 : decode cL_act 804 = .ok (.bipush 16, 2) := by decide +kernel
theorem dL_act_806 : decode cL_act 806 = .ok (.ishr, 1) := by decide +kernel
theorem dL_act_807 : decode cL_act 807 = .ok (.iconst 4, 1) := by decide +kernel
theorem dL_act_808 : decode cL_act 808 = .ok (.invokestatic 86, 3) := by decide +kernel
theorem dL_act_811 : decode cL_act 811 = .ok (.ifCond .ne 11, 3) := by decide +kernel
theorem dL_act_814 : decode cL_act 814 = .ok (.aload_n 0, 1) := by decide +kernel
theorem dL_act_815 : decode cL_act 815 = .ok (.invokevirtual 129, 3) := by decide +kernel
theorem dL_act_818 : decode cL_act 818 = .ok (.i2l, 1) := by decide +kernel
theorem dL_act_819 : decode cL_act 819 = .ok (.goto 26, 3) := by decide +kernel
theorem dL_act_822 : decode cL_act 822 = .ok (.aload_n 0, 1) := by decide +kernel
theorem dL_act_823 : decode cL_act 823 = .ok (.iload_n 3, 1) := by decide +kernel
theorem dL_act_824 : decode cL_act 824 = .ok (.iload_n 2, 1) := by decide +kernel
theorem dL_act_825 : decode cL_act 825 = .ok (.ifCond .eq 8, 3) := by decide +kernel
theorem dL_act_828 : decode cL_act 828 = .ok (.iload 5, 2) := by decide +kernel
theorem dL_act_830 : decode cL_act 830 = .ok (.goto 12, 3) := by decide +kernel
theorem dL_act_833 : decode cL_act 833 = .ok (.iload_n 1, 1) := by decide +kernel
theorem dL_act_834 : decode cL_act 834 = .ok (.bipush 9, 2) := by decide +kernel
theorem dL_act_836 : decode cL_act 836 = .ok (.ishr, 1) := by decide +kernel
theorem dL_act_837 : decode cL_act 837 = .ok (.bipush 6, 2) := by decide +kernel
theorem dL_act_839 : decode cL_act 839 = .ok (.invokestatic 86, 3) := by decide +kernel
theorem dL_act_842 : decode cL_act 842 = .ok (.invokestatic 98, 3) := by decide +kernel
theorem dL_act_845 : decode cL_act 845 = .ok (.lreturn, 1) := by decide +kernel
theorem dL_act_846 : decode cL_act 846 = .ok (.aload_n 0, 1) := by decide +kernel
theorem dL_act_847 : decode cL_act 847 = .ok (.iload 4, 2) := by decide +kernel
theorem dL_act_849 : decode cL_act 849 = .ok (.iload_n 2, 1) := by decide +kernel
theorem dL_act_850 : decode cL_act 850 = .ok (.ifCond .eq 8, 3) := by decide +kernel
theorem dL_act_853 : decode cL_act 853 = .ok (.iload 5, 2) := by decide +kernel
theorem dL_act_855 : decode cL_act 855 = .ok (.goto 17, 3) := by decide +kernel
theorem dL_act_858 : decode cL_act 858 = .ok (.sipush 400, 3) := by decide +kernel
theorem dL_act_861 : decode cL_act 861 = .ok (.iload_n 1, 1) := by decide +kernel
theorem dL_act_862 : decode cL_act 862 = .ok (.bipush 9, 2) := by decide +kernel
theorem dL_act_864 : decode cL_act 864 = .ok (.ishr, 1) := by decide +kernel
theorem dL_act_865 : decode cL_act 865 = .ok (.sipush 600, 3) := by decide +kernel
theorem dL_act_868 : decode cL_act 868 = .ok (.invokestatic 86, 3) := by decide +kernel
theorem dL_act_871 : decode cL_act 871 = .ok (.iadd, 1) := by decide +kernel
theorem dL_act_872 : decode cL_act 872 = .ok (.iload_n 2, 1) := by decide +kernel
theorem dL_act_873 : decode cL_act 873 = .ok (.ifCond .eq 10, 3) := by decide +kernel
theorem dL_act_876 : decode cL_act 876 = .ok (.iload_n 1, 1) := by decide +kernel
theorem dL_act_877 : decode cL_act 877 = .ok (.bipush 6, 2) := by decide +kernel
theorem dL_act_879 : decode cL_act 879 = .ok (.ishr, 1) := by decide +kernel
theorem dL_act_880 : decode cL_act 880 = .ok (.goto 16, 3) := by decide +kernel
theorem dL_act_883 : decode cL_act 883 = .ok (.bipush 100, 2) := by decide +kernel
theorem dL_act_885 : decode cL_act 885 = .ok (.iload_n 1, 1) := by decide +kernel
theorem dL_act_886 : decode cL_act 886 = .ok (.bipush 6, 2) := by decide +kernel
theorem dL_act_888 : decode cL_act 888 = .ok (.ishr, 1) := by decide +kernel
theorem dL_act_889 : decode cL_act 889 = .ok (.sipush 300, 3) := by decide +kernel
theorem dL_act_892 : decode cL_act 892 = .ok (.invokestatic 86, 3) := by decide +kernel
theorem dL_act_895 : decode cL_act 895 = .ok (.iadd, 1) := by decide +kernel
theorem dL_act_896 : decode cL_act 896 = .ok (.iload_n 2, 1) := by decide +kernel
theorem dL_act_897 : decode cL_act 897 = .ok (.ifCond .eq 8, 3) := by decide +kernel
theorem dL_act_900 : decode cL_act 900 = .ok (.iload 6, 2) := by decide +kernel
theorem dL_act_902 : decode cL_act 902 = .ok (.goto 11, 3) := by decide +kernel
theorem dL_act_905 : decode cL_act 905 = .ok (.iload_n 1, 1) := by decide +kernel
theorem dL_act_906 : decode cL_act 906 = .ok (.bipush 12, 2) := by decide +kernel
theorem dL_act_908 : decode cL_act 908 = .ok (.ishr, 1) := by decide +kernel
theorem dL_act_909 : decode cL_act 909 = .ok (.iconst 4, 1) := by decide +kernel
theorem dL_act_910 : decode cL_act 910 = .ok (.invokestatic 86, 3) := by decide +kernel
theorem dL_act_913 : decode cL_act 913 = .ok (.invokestatic 132, 3) := by decide +kernel
theorem dL_act_916 : decode cL_act 916 = .ok (.lreturn, 1) := by decide +kernel
theorem dL_act_917 : decode cL_act 917 = .ok (.aload_n 0, 1) := by decide +kernel
theorem dL_act_918 : decode cL_act 918 = .ok (.iload_n 3, 1) := by decide +kernel
theorem dL_act_919 : decode cL_act 919 = .ok (.iload 4, 2) := by decide +kernel
theorem dL_act_921 : decode cL_act 921 = .ok (.iload_n 2, 1) := by decide +kernel
theorem dL_act_922 : decode cL_act 922 = .ok (.ifCond .eq 8, 3) := by decide +kernel
theorem dL_act_925 : decode cL_act 925 = .ok (.iload 5, 2) := by decide +kernel
theorem dL_act_927 : decode cL_act 927 = .ok (.goto 14, 3) := by decide +kernel
theorem dL_act_930 : decode cL_act 930 = .ok (.iconst 1, 1) := by decide +kernel
theorem dL_act_931 : decode cL_act 931 = .ok (.iload_n 1, 1) := by decide +kernel
theorem dL_act_932 : decode cL_act 932 = .ok (.bipush 9, 2) := by decide +kernel
theorem dL_act_934 : decode cL_act 934 = .ok (.ishr, 1) := by decide +kernel
theorem dL_act_935 : decode cL_act 935 = .ok (.bipush 20, 2) := by decide +kernel
theorem dL_act_937 : decode cL_act 937 = .ok (.invokestatic 86, 3) := by decide +kernel
theorem dL_act_940 : decode cL_act 940 = .ok (.iadd, 1) := by decide +kernel
theorem dL_act_941 : decode cL_act 941 = .ok (.invokestatic 134, 3) := by decide +kernel
theorem dL_act_944 : decode cL_act 944 = .ok (.lreturn, 1) := by decide +kernel
theorem dL_act_945 : decode cL_act 945 = .ok (.aload_n 0, 1) := by decide +kernel
theorem dL_act_946 : decode cL_act 946 = .ok (.iload 7, 2) := by decide +kernel
theorem dL_act_948 : decode cL_act 948 = .ok (.invokestatic 136, 3) := by decide +kernel
theorem dL_act_951 : decode cL_act 951 = .ok (.lreturn, 1) := by decide +kernel
theorem dL_act_952 : decode cL_act 952 = .ok (.aload_n 0, 1) := by decide +kernel
theorem dL_act_953 : decode cL_act 953 = .ok (.iload 7, 2) := by decide +kernel
theorem dL_act_955 : decode cL_act 955 = .ok (.iload_n 2, 1) := by decide +kernel
theorem dL_act_956 : decode cL_act 956 = .ok (.ifCond .eq 8, 3) := by decide +kernel
theorem dL_act_959 : decode cL_act 959 = .ok (.iload 5, 2) := by decide +kernel
theorem dL_act_961 : decode cL_act 961 = .ok (.goto 11, 3) := by decide +kernel
theorem dL_act_964 : decode cL_act 964 = .ok (.iload_n 1, 1) := by decide +kernel
theorem dL_act_965 : decode cL_act 965 = .ok (.bipush 9, 2) := by decide +kernel
theorem dL_act_967 : decode cL_act 967 = .ok (.ishr, 1) := by decide +kernel
theorem dL_act_968 : decode cL_act 968 = .ok (.iconst 4, 1) := by decide +kernel
theorem dL_act_969 : decode cL_act 969 = .ok (.invokestatic 86, 3) := by decide +kernel
theorem dL_act_972 : decode cL_act 972 = .ok (.invokestatic 139, 3) := by decide +kernel
theorem dL_act_975 : decode cL_act 975 = .ok (.lreturn, 1) := by decide +kernel
theorem dL_act_976 : decode cL_act 976 = .ok (.aload_n 0, 1) := by decide +kernel
theorem dL_act_977 : decode cL_act 977 = .ok (.iload_n 2, 1) := by decide +kernel
theorem dL_act_978 : decode cL_act 978 = .ok (.ifCond .eq 8, 3) := by decide +kernel
theorem dL_act_981 : decode cL_act 981 = .ok (.iload 5, 2) := by decide +kernel
theorem dL_act_983 : decode cL_act 983 = .ok (.goto 14, 3) := by decide +kernel
theorem dL_act_986 : decode cL_act 986 = .ok (.iconst 1, 1) := by decide +kernel
theorem dL_act_987 : decode cL_act 987 = .ok (.iload_n 1, 1) := by decide +kernel
theorem dL_act_988 : decode cL_act 988 = .ok (.bipush 9, 2) := by decide +kernel
theorem dL_act_990 : decode cL_act 990 = .ok (.ishr, 1) := by decide +kernel
theorem dL_act_991 : decode cL_act 991 = .ok (.bipush 7, 2) := by decide +kernel
theorem dL_act_993 : decode cL_act 993 = .ok (.invokestatic 86, 3) := by decide +kernel
theorem dL_act_996 : decode cL_act 996 = .ok (.iadd, 1) := by decide +kernel
theorem dL_act_997 : decode cL_act 997 = .ok (.invokestatic 141, 3) := by decide +kernel
theorem dL_act_1000 : decode cL_act 1000 = .ok (.lreturn, 1) := by decide +kernel
theorem dL_act_1001 : decode cL_act 1001 = .ok (.aload_n 0, 1) := by decide +kernel
theorem dL_act_1002 : decode cL_act 1002 = .ok (.iload_n 2, 1) := by decide +kernel
theorem dL_act_1003 : decode cL_act 1003 = .ok (.ifCond .eq 8, 3) := by decide +kernel
theorem dL_act_1006 : decode cL_act 1006 = .ok (.iload 5, 2) := by decide +kernel
theorem dL_act_1008 : decode cL_act 1008 = .ok (.goto 14, 3) := by decide +kernel
theorem dL_act_1011 : decode cL_act 1011 = .ok (.iconst 1, 1) := by decide +kernel
theorem dL_act_1012 : decode cL_act 1012 = .ok (.iload_n 1, 1) := by decide +kernel
theorem dL_act_1013 : decode cL_act 1013 = .ok (.bipush 9, 2) := by decide +kernel
theorem dL_act_1015 : decode cL_act 1015 = .ok (.ishr, 1) := by decide +kernel
theorem dL_act_1016 : decode cL_act 1016 = .ok (.bipush 7, 2) := by decide +kernel
theorem dL_act_1018 : decode cL_act 1018 = .ok (.invokestatic 86, 3) := by decide +kernel
theorem dL_act_1021 : decode cL_act 1021 = .ok (.iadd, 1) := by decide +kernel
theorem dL_act_1022 : decode cL_act 1022 = .ok (.iload_n 2, 1) := by decide +kernel
theorem dL_act_1023 : decode cL_act 1023 = .ok (.ifCond .eq 9, 3) := by decide +kernel
theorem dL_act_1026 : decode cL_act 1026 = .ok (.iload_n 1, 1) := by decide +kernel
theorem dL_act_1027 : decode cL_act 1027 = .ok (.iconst 3, 1) := by decide +kernel
theorem dL_act_1028 : decode cL_act 1028 = .ok (.ishr, 1) := by decide +kernel
theorem dL_act_1029 : decode cL_act 1029 = .ok (.goto 13, 3) := by decide +kernel
theorem dL_act_1032 : decode cL_act 1032 = .ok (.iconst 1, 1) := by decide +kernel
theorem dL_act_1033 : decode cL_act 1033 = .ok (.iload_n 1, 1) := by decide +kernel
theorem dL_act_1034 : decode cL_act 1034 = .ok (.iconst 3, 1) := by decide +kernel
theorem dL_act_1035 : decode cL_act 1035 = .ok (.ishr, 1) := by decide +kernel
theorem dL_act_1036 : decode cL_act 1036 = .ok (.bipush 8, 2) := by decide +kernel
theorem dL_act_1038 : decode cL_act 1038 = .ok (.invokestatic 86, 3) := by decide +kernel
theorem dL_act_1041 : decode cL_act 1041 = .ok (.iadd, 1) := by decide +kernel
theorem dL_act_1042 : decode cL_act 1042 = .ok (.invokestatic 143, 3) := by decide +kernel
theorem dL_act_1045 : decode cL_act 1045 = .ok (.lreturn, 1) := by decide +kernel
theorem dL_areAlike_0 : decode cL_areAlike 0 = .ok (.iconst 1, 1) := by decide +kernel
theorem dL_areAlike_1 : decode cL_areAlike 1 = .ok (.istore_n 3, 1) := by decide +kernel
theorem dL_areAlike_2 : decode cL_areAlike 2 = .ok (.iconst 0, 1) := by decide +kernel
theorem dL_areAlike_3 : decode cL_areAlike 3 = .ok (.istore 4, 2) := by decide +kernel
theorem dL_areAlike_5 : decode cL_areAlike 5 = .ok (.iload 4, 2) := by decide +kernel
theorem dL_areAlike_7 : decode cL_areAlike 7 = .ok (.iconst 3, 1) := by decide +kernel
theorem dL_areAlike_8 : decode cL_areAlike 8 = .ok (.if_icmp .ge 153, 3) := by decide +kernel
theorem dL_areAlike_11 : decode cL_areAlike 11 = .ok (.iload_n 3, 1) := by decide +kernel
theorem dL_areAlike_12 : decode cL_areAlike 12 = .ok (.ifCond .eq 149, 3) := by decide +kernel
theorem dL_areAlike_15 : decode cL_areAlike 15 = .ok (.aload_n 0, 1) := by decide +kernel
theorem dL_areAlike_16 : decode cL_areAlike 16 = .ok (.iload 4, 2) := by decide +kernel
theorem dL_areAlike_18 : decode cL_areAlike 18 = .ok (.iload_n 2, 1) := by decide +kernel
theorem dL_areAlike_19 : decode cL_areAlike 19 = .ok (.bipush 6, 2) := by decide +kernel
theorem dL_areAlike_21 : decode cL_areAlike 21 = .ok (.invokestatic 86, 3) := by decide +kernel
theorem dL_areAlike_24 : decode cL_areAlike 24 = .ok (.invokestatic 98, 3) := by decide +kernel
theorem dL_areAlike_27 : decode cL_areAlike 27 = .ok (.aload_n 1, 1) := by decide +kernel
theorem dL_areAlike_28 : decode cL_areAlike 28 = .ok (.iload 4, 2) := by decide +kernel
theorem dL_areAlike_30 : decode cL_areAlike 30 = .ok (.iload_n 2, 1) := by decide +kernel
theorem dL_areAlike_31 : decode cL_areAlike 31 = .ok (.bipush 6, 2) := by decide +kernel
theorem dL_areAlike_33 : decode cL_areAlike 33 = .ok (.invokestatic 86, 3) := by decide +kernel
theorem dL_areAlike_36 : decode cL_areAlike 36 = .ok (.invokestatic 98, 3) := by decide +kernel
theorem dL_areAlike_39 : decode cL_areAlike 39 = .ok (.lcmp, 1) := by decide +kernel
theorem dL_areAlike_40 : decode cL_areAlike 40 = .ok (.ifCond .ne 113, 3) := by decide +kernel
theorem dL_areAlike_43 : decode cL_areAlike 43 = .ok (.aload_n 0, 1) := by decide +kernel
theorem dL_areAlike_44 : decode cL_areAlike 44 = .ok (.iload 4, 2) := by decide +kernel
theorem dL_areAlike_46 : decode cL_areAlike 46 = .ok (.iconst 0, 1) := by decide +kernel
theorem dL_areAlike_47 : decode cL_areAlike 47 = .ok (.invokestatic 116, 3) := by decide +kernel
theorem dL_areAlike_50 : decode cL_areAlike 50 = .ok (.aload_n 1, 1) := by decide +kernel
theorem dL_areAlike_51 : decode cL_areAlike 51 = .ok (.iload 4, 2) := by decide +kernel
theorem dL_areAlike_53 : decode cL_areAlike 53 = .ok (.iconst 0, 1) := by decide +kernel
theorem dL_areAlike_54 : decode cL_areAlike 54 = .ok (.invokestatic 116, 3) := by decide +kernel
theorem dL_areAlike_57 : decode cL_areAlike 57 = .ok (.lcmp, 1) := by decide +kernel
theorem dL_areAlike_58 : decode cL_areAlike 58 = .ok (.ifCond .ne 95, 3) := by decide +kernel
theorem dL_areAlike_61 : decode cL_areAlike 61 = .ok (.aload_n 0, 1) := by decide +kernel
theorem dL_areAlike_62 : decode cL_areAlike 62 = .ok (.iload 4, 2) := by decide +kernel
theorem dL_areAlike_64 : decode cL_areAlike 64 = .ok (.iload_n 2, 1) := by decide +kernel
theorem dL_areAlike_65 : decode cL_areAlike 65 = .ok (.iconst 2, 1) := by decide +kernel
theorem dL_areAlike_66 : decode cL_areAlike 66 = .ok (.ishr, 1) := by decide +kernel
theorem dL_areAlike_67 : decode cL_areAlike 67 = .ok (.iconst 4, 1) := by decide +kernel
theorem dL_areAlike_68 : decode cL_areAlike 68 = .ok (.invokestatic 86, 3) := by decide +kernel
theorem dL_areAlike_71 : decode cL_areAlike 71 = .ok (.invokestatic 139, 3) := by decide +kernel
theorem dL_areAlike_74 : decode cL_areAlike 74 = .ok (.aload_n 1, 1) := by decide +kernel
theorem dL_areAlike_75 : decode cL_areAlike 75 = .ok (.iload 4, 2) := by decide +kernel
theorem dL_areAlike_77 : decode cL_areAlike 77 = .ok (.iload_n 2, 1) := by decide +kernel
theorem dL_areAlike_78 : decode cL_areAlike 78 = .ok (.iconst 2, 1) := by decide +kernel
theorem dL_areAlike_79 : decode cL_areAlike 79 = .ok (.ishr, 1) := by decide +kernel
theorem dL_areAlike_80 : decode cL_areAlike 80 = .ok (.iconst 4, 1) := by decide +kernel
theorem dL_areAlike_81 : decode cL_areAlike 81 = .ok (.invokestatic 86, 3) := by decide +kernel
theorem dL_areAlike_84 : decode cL_areAlike 84 = .ok (.invokestatic 139, 3) := by decide +kernel
theorem dL_areAlike_87 : decode cL_areAlike 87 = .ok (.lcmp, 1) := by decide +kernel
theorem dL_areAlike_88 : decode cL_areAlike 88 = .ok (.ifCond .ne 65, 3) := by decide +kernel
theorem dL_areAlike_91 : decode cL_areAlike 91 = .ok (.aload_n 0, 1) := by decide +kernel
theorem dL_areAlike_92 : decode cL_areAlike 92 = .ok (.iconst 1, 1) := by decide +kernel
theorem dL_areAlike_93 : decode cL_areAlike 93 = .ok (.iload 4, 2) := by decide +kernel
theorem dL_areAlike_95 : decode cL_areAlike 95 = .ok (.ishl, 1) := by decide +kernel
theorem dL_areAlike_96 : decode cL_areAlike 96 = .ok (.invokestatic 141, 3) := by decide +kernel
theorem dL_areAlike_99 : decode cL_areAlike 99 = .ok (.aload_n 1, 1) := by decide +kernel
theorem dL_areAlike_100 : decode cL_areAlike 100 = .ok (.iconst 1, 1) := by decide +kernel
theorem dL_areAlike_101 : decode cL_areAlike 101 = .ok (.iload 4, 2) := by decide +kernel
theorem dL_areAlike_103 : decode cL_areAlike 103 = .ok (.ishl, 1) := by decide +kernel
theorem dL_areAlike_104 : decode cL_areAlike 104 = .ok (.invokestatic 141, 3) := by decide +kernel
theorem dL_areAlike_107 : decode cL_areAlike 107 = .ok (.lcmp, 1) := by decide +kernel
theorem dL_areAlike_108 : decode cL_areAlike 108 = .ok (.ifCond .ne 45, 3) := by decide +kernel
theorem dL_areAlike_111 : decode cL_areAlike 111 = .ok (.aload_n 0, 1) := by decide +kernel
theorem dL_areAlike_112 : decode cL_areAlike 112 = .ok (.iload 4, 2) := by decide +kernel
theorem dL_areAlike_114 : decode cL_areAlike 114 = .ok (.iconst 0, 1) := by decide +kernel
theorem dL_areAlike_115 : decode cL_areAlike 115 = .ok (.invokestatic 108, 3) := by decide +kernel
theorem dL_areAlike_118 : decode cL_areAlike 118 = .ok (.aload_n 1, 1) := by decide +kernel
theorem dL_areAlike_119 : decode cL_areAlike 119 = .ok (.iload 4, 2) := by decide +kernel
theorem dL_areAlike_121 : decode cL_areAlike 121 = .ok (.iconst 0, 1) := by decide +kernel
theorem dL_areAlike_122 : decode cL_areAlike 122 = .ok (.invokestatic 108, 3) := by decide +kernel
theorem dL_areAlike_125 : decode cL_areAlike 125 = .ok (.lcmp, 1) := by decide +kernel
theorem dL_areAlike_126 : decode cL_areAlike 126 = .ok (.ifCond .ne 27, 3) := by decide +kernel
theorem dL_areAlike_129 : decode cL_areAlike 129 = .ok (.aload_n 0, 1) := by decide +kernel
theorem dL_areAlike_130 : decode cL_areAlike 130 = .ok (.iload 4, 2) := by decide +kernel
theorem dL_areAlike_132 : decode cL_areAlike 132 = .ok (.iconst 0, 1) := by decide +kernel
theorem dL_areAlike_133 : decode cL_areAlike 133 = .ok (.iconst 0, 1) := by decide +kernel
theorem dL_areAlike_134 : decode cL_areAlike 134 = .ok (.invokestatic 125, 3) := by decide +kernel
theorem dL_areAlike_137 : decode cL_areAlike 137 = .ok (.aload_n 1, 1) := by decide +kernel
theorem dL_areAlike_138 : decode cL_areAlike 138 = .ok (.iload 4, 2) := by decide +kernel
theorem dL_areAlike_140 : decode cL_areAlike 140 = .ok (.iconst 0, 1) := by decide +kernel
theorem dL_areAlike_141 : decode cL_areAlike 141 = .ok (.iconst 0, 1) := by decide +kernel
theorem dL_areAlike_142 : decode cL_areAlike 142 = .ok (.invokestatic 125, 3) := by decide +kernel
theorem dL_areAlike_145 : decode cL_areAlike 145 = .ok (.lcmp, 1) := by decide +kernel
theorem dL_areAlike_146 : decode cL_areAlike 146 = .ok (.ifCond .ne 7, 3) := by decide +kernel
theorem dL_areAlike_149 : decode cL_areAlike 149 = .ok (.iconst 1, 1) := by decide +kernel
theorem dL_areAlike_150 : decode cL_areAlike 150 = .ok (.goto 4, 3) := by decide +kernel
theorem dL_areAlike_153 : decode cL_areAlike 153 = .ok (.iconst 0, 1) := by decide +kernel
theorem dL_areAlike_154 : decode cL_areAlike 154 = .ok (.istore_n 3, 1) := by decide +kernel
theorem dL_areAlike_155 : decode cL_areAlike 155 = .ok (.iinc 4 1, 3) := by decide +kernel
theorem dL_areAlike_158 : decode cL_areAlike 158 = .ok (.goto (-153), 3) := by decide +kernel
theorem dL_areAlike_161 : decode cL_areAlike 161 = .ok (.iload_n 3, 1) := by decide +kernel
theorem dL_areAlike_162 : decode cL_areAlike 162 = .ok (.ifCond .eq 35, 3) := by decide +kernel
theorem dL_areAlike_165 : decode cL_areAlike 165 = .ok (.aload_n 0, 1) := by decide +kernel
theorem dL_areAlike_166 : decode cL_areAlike 166 = .ok (.iconst 0, 1) := by decide +kernel
theorem dL_areAlike_167 : decode cL_areAlike 167 = .ok (.sipush 900, 3) := by decide +kernel
theorem dL_areAlike_170 : decode cL_areAlike 170 = .ok (.sipush 400, 3) := by decide +kernel
theorem dL_areAlike_173 : decode cL_areAlike 173 = .ok (.iconst 1, 1) := by decide +kernel
theorem dL_areAlike_174 : decode cL_areAlike 174 = .ok (.invokestatic 132, 3) := by decide +kernel
theorem dL_areAlike_177 : decode cL_areAlike 177 = .ok (.aload_n 1, 1) := by decide +kernel
theorem dL_areAlike_178 : decode cL_areAlike 178 = .ok (.iconst 0, 1) := by decide +kernel
theorem dL_areAlike_179 : decode cL_areAlike 179 = .ok (.sipush 900, 3) := by decide +kernel
theorem dL_areAlike_182 : decode cL_areAlike 182 = .ok (.sipush 400, 3) := by decide +kernel
theorem dL_areAlike_185 : decode cL_areAlike 185 = .ok (.iconst 1, 1) := by decide +kernel
theorem dL_areAlike_186 : decode cL_areAlike 186 = .ok (.invokestatic 132, 3) := by decide +kernel
theorem dL_areAlike_189 : decode cL_areAlike 189 = .ok (.lcmp, 1) := by decide +kernel
theorem dL_areAlike_190 : decode cL_areAlike 190 = .ok (.ifCond .ne 7, 3) := by decide +kernel
theorem dL_areAlike_193 : decode cL_areAlike 193 = .ok (.iconst 1, 1) := by decide +kernel
theorem dL_areAlike_194 : decode cL_areAlike 194 = .ok (.goto 4, 3) := by decide +kernel
theorem dL_areAlike_197 : decode cL_areAlike 197 = .ok (.iconst 0, 1) := by decide +kernel
theorem dL_areAlike_198 : decode cL_areAlike 198 = .ok (.ireturn, 1) := by decide +kernel
theorem dL_isOrderSo_0 : decode cL_isOrderSo 0 = .ok (.aload_n 0, 1) := by decide +kernel
theorem dL_isOrderSo_1 : decode cL_isOrderSo 1 = .ok (.iload_n 1, 1) := by decide +kernel
theorem dL_isOrderSo_2 : decode cL_isOrderSo 2 = .ok (.iconst 1, 1) := by decide +kernel
theorem dL_isOrderSo_3 : decode cL_isOrderSo 3 = .ok (.invokevirtual 37, 3) := by decide +kernel
theorem dL_isOrderSo_6 : decode cL_isOrderSo 6 = .ok (.iconst 1, 1) := by decide +kernel
theorem dL_isOrderSo_7 : decode cL_isOrderSo 7 = .ok (.isub, 1) := by decide +kernel
theorem dL_isOrderSo_8 : decode cL_isOrderSo 8 = .ok (.istore_n 3, 1) := by decide +kernel
theorem dL_isOrderSo_9 : decode cL_isOrderSo 9 = .ok (.aload_n 0, 1) := by decide +kernel
theorem dL_isOrderSo_10 : decode cL_isOrderSo 10 = .ok (.iload_n 1, 1) := by decide +kernel
theorem dL_isOrderSo_11 : decode cL_isOrderSo 11 = .ok (.iload_n 2, 1) := by decide +kernel
theorem dL_isOrderSo_12 : decode cL_isOrderSo 12 = .ok (.invokevirtual 57, 3) := by decide +kernel
theorem dL_isOrderSo_15 : decode cL_isOrderSo 15 = .ok (.istore 4, 2) := by decide +kernel
theorem dL_isOrderSo_17 : decode cL_isOrderSo 17 = .ok (.iload 4, 2) := by decide +kernel
theorem dL_isOrderSo_19 : decode cL_isOrderSo 19 = .ok (.ifCond .ge 20, 3) := by decide +kernel
theorem dL_isOrderSo_22 : decode cL_isOrderSo 22 = .ok (.aload_n 0, 1) := by decide +kernel
theorem dL_isOrderSo_23 : decode cL_isOrderSo 23 = .ok (.iload_n 1, 1) := by decide +kernel
theorem dL_isOrderSo_24 : decode cL_isOrderSo 24 = .ok (.iload_n 2, 1) := by decide +kernel
theorem dL_isOrderSo_25 : decode cL_isOrderSo 25 = .ok (.iconst 0, 1) := by decide +kernel
theorem dL_isOrderSo_26 : decode cL_isOrderSo 26 = .ok (.invokevirtual 60, 3) := by decide +kernel
theorem dL_isOrderSo_29 : decode cL_isOrderSo 29 = .ok (.iconst (-1), 1) := by decide +kernel
theorem dL_isOrderSo_30 : decode cL_isOrderSo 30 = .ok (.if_icmp .ne 7, 3) := by decide +kernel
theorem dL_isOrderSo_33 : decode cL_isOrderSo 33 = .ok (.iconst 1, 1) := by decide +kernel
theorem dL_isOrderSo_34 : decode cL_isOrderSo 34 = .ok (.goto 4, 3) := by decide +kernel
theorem dL_isOrderSo_37 : decode cL_isOrderSo 37 = .ok (.iconst 0, 1) := by decide +kernel
theorem dL_isOrderSo_38 : decode cL_isOrderSo 38 = .ok (.ireturn, 1) := by decide +kernel
theorem dL_isOrderSo_39 : decode cL_isOrderSo 39 = .ok (.iconst 0, 1) := by decide +kernel
theorem dL_isOrderSo_40 : decode cL_isOrderSo 40 = .ok (.istore 5, 2) := by decide +kernel
theorem dL_isOrderSo_42 : decode cL_isOrderSo 42 = .ok (.aload_n 0, 1) := by decide +kernel
theorem dL_isOrderSo_43 : decode cL_isOrderSo 43 = .ok (.iload_n 1, 1) := by decide +kernel
theorem dL_isOrderSo_44 : decode cL_isOrderSo 44 = .ok (.iload_n 2, 1) := by decide +kernel
theorem dL_isOrderSo_45 : decode cL_isOrderSo 45 = .ok (.iload_n 3, 1) := by decide +kernel
theorem dL_isOrderSo_46 : decode cL_isOrderSo 46 = .ok (.invokevirtual 60, 3) := by decide +kernel
theorem dL_isOrderSo_49 : decode cL_isOrderSo 49 = .ok (.iconst (-1), 1) := by decide +kernel
theorem dL_isOrderSo_50 : decode cL_isOrderSo 50 = .ok (.if_icmp .ne 15, 3) := by decide +kernel
theorem dL_isOrderSo_53 : decode cL_isOrderSo 53 = .ok (.iload 4, 2) := by decide +kernel
theorem dL_isOrderSo_55 : decode cL_isOrderSo 55 = .ok (.iload_n 3, 1) := by decide +kernel
theorem dL_isOrderSo_56 : decode cL_isOrderSo 56 = .ok (.iconst 1, 1) := by decide +kernel
theorem dL_isOrderSo_57 : decode cL_isOrderSo 57 = .ok (.iadd, 1) := by decide +kernel
theorem dL_isOrderSo_58 : decode cL_isOrderSo 58 = .ok (.if_icmp .ge 7, 3) := by decide +kernel
theorem dL_isOrderSo_61 : decode cL_isOrderSo 61 = .ok (.iconst 1, 1) := by decide +kernel
theorem dL_isOrderSo_62 : decode cL_isOrderSo 62 = .ok (.goto 4, 3) := by decide +kernel
theorem dL_isOrderSo_65 : decode cL_isOrderSo 65 = .ok (.iconst 0, 1) := by decide +kernel
theorem dL_isOrderSo_66 : decode cL_isOrderSo 66 = .ok (.istore 6, 2) := by decide +kernel
theorem dL_isOrderSo_68 : decode cL_isOrderSo 68 = .ok (.iconst 0, 1) := by decide +kernel
theorem dL_isOrderSo_69 : decode cL_isOrderSo 69 = .ok (.istore 7, 2) := by decide +kernel
theorem dL_isOrderSo_71 : decode cL_isOrderSo 71 = .ok (.iload 7, 2) := by decide +kernel
theorem dL_isOrderSo_73 : decode cL_isOrderSo 73 = .ok (.iload_n 3, 1) := by decide +kernel
theorem dL_isOrderSo_74 : decode cL_isOrderSo 74 = .ok (.if_icmp .ge 68, 3) := by decide +kernel
theorem dL_isOrderSo_77 : decode cL_isOrderSo 77 = .ok (.iload 6, 2) := by decide +kernel
theorem dL_isOrderSo_79 : decode cL_isOrderSo 79 = .ok (.ifCond .eq 63, 3) := by decide +kernel
theorem dL_isOrderSo_82 : decode cL_isOrderSo 82 = .ok (.aload_n 0, 1) := by decide +kernel
theorem dL_isOrderSo_83 : decode cL_isOrderSo 83 = .ok (.iload_n 1, 1) := by decide +kernel
theorem dL_isOrderSo_84 : decode cL_isOrderSo 84 = .ok (.iload_n 2, 1) := by decide +kernel
theorem dL_isOrderSo_85 : decode cL_isOrderSo 85 = .ok (.iload 7, 2) := by decide +kernel
theorem dL_isOrderSo_87 : decode cL_isOrderSo 87 = .ok (.invokevirtual 60, 3) := by decide +kernel
theorem dL_isOrderSo_90 : decode cL_isOrderSo 90 = .ok (.istore 8, 2) := by decide +kernel
theorem dL_isOrderSo_92 : decode cL_isOrderSo 92 = .ok (.iload 8, 2) := by decide +kernel
theorem dL_isOrderSo_94 : decode cL_isOrderSo 94 = .ok (.ifCond .lt 30, 3) := by decide +kernel
theorem dL_isOrderSo_97 : decode cL_isOrderSo 97 = .ok (.iload 5, 2) := by decide +kernel
theorem dL_isOrderSo_99 : decode cL_isOrderSo 99 = .ok (.iload 8, 2) := by decide +kernel
theorem dL_isOrderSo_101 : decode cL_isOrderSo 101 = .ok (.ishr, 1) := by decide +kernel
theorem dL_isOrderSo_102 : decode cL_isOrderSo 102 = .ok (.iconst 1, 1) := by decide +kernel
theorem dL_isOrderSo_103 : decode cL_isOrderSo 103 = .ok (.iand, 1) := by decide +kernel
theorem dL_isOrderSo_104 : decode cL_isOrderSo 104 = .ok (.ifCond .ne 20, 3) := by decide +kernel
theorem dL_isOrderSo_107 : decode cL_isOrderSo 107 = .ok (.aload_n 0, 1) := by decide +kernel
theorem dL_isOrderSo_108 : decode cL_isOrderSo 108 = .ok (.iload_n 1, 1) := by decide +kernel
theorem dL_isOrderSo_109 : decode cL_isOrderSo 109 = .ok (.iload_n 2, 1) := by decide +kernel
theorem dL_isOrderSo_110 : decode cL_isOrderSo 110 = .ok (.iload 5, 2) := by decide +kernel
theorem dL_isOrderSo_112 : decode cL_isOrderSo 112 = .ok (.iload 8, 2) := by decide +kernel
theorem dL_isOrderSo_114 : decode cL_isOrderSo 114 = .ok (.invokevirtual 50, 3) := by decide +kernel
theorem dL_isOrderSo_117 : decode cL_isOrderSo 117 = .ok (.ifCond .ne 7, 3) := by decide +kernel
theorem dL_isOrderSo_120 : decode cL_isOrderSo 120 = .ok (.iconst 1, 1) := by decide +kernel
theorem dL_isOrderSo_121 : decode cL_isOrderSo 121 = .ok (.goto 4, 3) := by decide +kernel
theorem dL_isOrderSo_124 : decode cL_isOrderSo 124 = .ok (.iconst 0, 1) := by decide +kernel
theorem dL_isOrderSo_125 : decode cL_isOrderSo 125 = .ok (.istore 6, 2) := by decide +kernel
theorem dL_isOrderSo_127 : decode cL_isOrderSo 127 = .ok (.iload 5, 2) := by decide +kernel
theorem dL_isOrderSo_129 : decode cL_isOrderSo 129 = .ok (.iconst 1, 1) := by decide +kernel
theorem dL_isOrderSo_130 : decode cL_isOrderSo 130 = .ok (.iload 8, 2) := by decide +kernel
theorem dL_isOrderSo_132 : decode cL_isOrderSo 132 = .ok (.ishl, 1) := by decide +kernel
theorem dL_isOrderSo_133 : decode cL_isOrderSo 133 = .ok (.ior, 1) := by decide +kernel
theorem dL_isOrderSo_134 : decode cL_isOrderSo 134 = .ok (.istore 5, 2) := by decide +kernel
theorem dL_isOrderSo_136 : decode cL_isOrderSo 136 = .ok (.iinc 7 1, 3) := by decide +kernel
theorem dL_isOrderSo_139 : decode cL_isOrderSo 139 = .ok (.goto (-68), 3) := by decide +kernel
theorem dL_isOrderSo_142 : decode cL_isOrderSo 142 = .ok (.iload 6, 2) := by decide +kernel
theorem dL_isOrderSo_144 : decode cL_isOrderSo 144 = .ok (.ireturn, 1) := by decide +kernel
theorem dL_isSo_0 : decode cL_isSo 0 = .ok (.iconst 1, 1) := by decide +kernel
theorem dL_isSo_1 : decode cL_isSo 1 = .ok (.istore_n 1, 1) := by decide +kernel
theorem dL_isSo_2 : decode cL_isSo 2 = .ok (.iconst 0, 1) := by decide +kernel
theorem dL_isSo_3 : decode cL_isSo 3 = .ok (.istore_n 2, 1) := by decide +kernel
theorem dL_isSo_4 : decode cL_isSo 4 = .ok (.iload_n 2, 1) := by decide +kernel
theorem dL_isSo_5 : decode cL_isSo 5 = .ok (.bipush 8, 2) := by decide +kernel
theorem dL_isSo_7 : decode cL_isSo 7 = .ok (.if_icmp .ge 96, 3) := by decide +kernel
theorem dL_isSo_10 : decode cL_isSo 10 = .ok (.iload_n 1, 1) := by decide +kernel
theorem dL_isSo_11 : decode cL_isSo 11 = .ok (.ifCond .eq 92, 3) := by decide +kernel
theorem dL_isSo_14 : decode cL_isSo 14 = .ok (.aload_n 0, 1) := by decide +kernel
theorem dL_isSo_15 : decode cL_isSo 15 = .ok (.iload_n 2, 1) := by decide +kernel
theorem dL_isSo_16 : decode cL_isSo 16 = .ok (.iconst 0, 1) := by decide +kernel
theorem dL_isSo_17 : decode cL_isSo 17 = .ok (.invokestatic 98, 3) := by decide +kernel
theorem dL_isSo_20 : decode cL_isSo 20 = .ok (.lconst 0, 1) := by decide +kernel
theorem dL_isSo_21 : decode cL_isSo 21 = .ok (.lcmp, 1) := by decide +kernel
theorem dL_isSo_22 : decode cL_isSo 22 = .ok (.ifCond .lt 75, 3) := by decide +kernel
theorem dL_isSo_25 : decode cL_isSo 25 = .ok (.aload_n 0, 1) := by decide +kernel
theorem dL_isSo_26 : decode cL_isSo 26 = .ok (.iload_n 2, 1) := by decide +kernel
theorem dL_isSo_27 : decode cL_isSo 27 = .ok (.iconst 0, 1) := by decide +kernel
theorem dL_isSo_28 : decode cL_isSo 28 = .ok (.invokestatic 116, 3) := by decide +kernel
theorem dL_isSo_31 : decode cL_isSo 31 = .ok (.lconst 0, 1) := by decide +kernel
theorem dL_isSo_32 : decode cL_isSo 32 = .ok (.lcmp, 1) := by decide +kernel
theorem dL_isSo_33 : decode cL_isSo 33 = .ok (.ifCond .lt 64, 3) := by decide +kernel
theorem dL_isSo_36 : decode cL_isSo 36 = .ok (.aload_n 0, 1) := by decide +kernel
theorem dL_isSo_37 : decode cL_isSo 37 = .ok (.iload_n 2, 1) := by decide +kernel
theorem dL_isSo_38 : decode cL_isSo 38 = .ok (.iconst 0, 1) := by decide +kernel
theorem dL_isSo_39 : decode cL_isSo 39 = .ok (.invokestatic 145, 3) := by decide +kernel
theorem dL_isSo_42 : decode cL_isSo 42 = .ok (.ifCond .eq 53, 3) := by decide +kernel
theorem dL_isSo_45 : decode cL_isSo 45 = .ok (.iload_n 2, 1) := by decide +kernel
theorem dL_isSo_46 : decode cL_isSo 46 = .ok (.ifCond .gt 18, 3) := by decide +kernel
theorem dL_isSo_49 : decode cL_isSo 49 = .ok (.aload_n 0, 1) := by decide +kernel
theorem dL_isSo_50 : decode cL_isSo 50 = .ok (.iload_n 2, 1) := by decide +kernel
theorem dL_isSo_51 : decode cL_isSo 51 = .ok (.iconst 0, 1) := by decide +kernel
theorem dL_isSo_52 : decode cL_isSo 52 = .ok (.invokevirtual 149, 3) := by decide +kernel
theorem dL_isSo_55 : decode cL_isSo 55 = .ok (.aload_n 0, 1) := by decide +kernel
theorem dL_isSo_56 : decode cL_isSo 56 = .ok (.iload_n 2, 1) := by decide +kernel
theorem dL_isSo_57 : decode cL_isSo 57 = .ok (.iconst 0, 1) := by decide +kernel
theorem dL_isSo_58 : decode cL_isSo 58 = .ok (.invokevirtual 57, 3) := by decide +kernel
theorem dL_isSo_61 : decode cL_isSo 61 = .ok (.if_icmp .ne 34, 3) := by decide +kernel
theorem dL_isSo_64 : decode cL_isSo 64 = .ok (.aload_n 0, 1) := by decide +kernel
theorem dL_isSo_65 : decode cL_isSo 65 = .ok (.iload_n 2, 1) := by decide +kernel
theorem dL_isSo_66 : decode cL_isSo 66 = .ok (.iconst 5, 1) := by decide +kernel
theorem dL_isSo_67 : decode cL_isSo 67 = .ok (.invokevirtual 37, 3) := by decide +kernel
theorem dL_isSo_70 : decode cL_isSo 70 = .ok (.aload_n 0, 1) := by decide +kernel
theorem dL_isSo_71 : decode cL_isSo 71 = .ok (.iload_n 2, 1) := by decide +kernel
theorem dL_isSo_72 : decode cL_isSo 72 = .ok (.iconst 4, 1) := by decide +kernel
theorem dL_isSo_73 : decode cL_isSo 73 = .ok (.invokevirtual 37, 3) := by decide +kernel
theorem dL_isSo_76 : decode cL_isSo 76 = .ok (.if_icmp .gt 19, 3) := by decide +kernel
theorem dL_isSo_79 : decode cL_isSo 79 = .ok (.aload_n 0, 1) := by decide +kernel
theorem dL_isSo_80 : decode cL_isSo 80 = .ok (.iconst 1, 1) := by decide +kernel
theorem dL_isSo_81 : decode cL_isSo 81 = .ok (.iload_n 2, 1) := by decide +kernel
theorem dL_isSo_82 : decode cL_isSo 82 = .ok (.ishl, 1) := by decide +kernel
theorem dL_isSo_83 : decode cL_isSo 83 = .ok (.invokestatic 141, 3) := by decide +kernel
theorem dL_isSo_86 : decode cL_isSo 86 = .ok (.lconst 0, 1) := by decide +kernel
theorem dL_isSo_87 : decode cL_isSo 87 = .ok (.lcmp, 1) := by decide +kernel
theorem dL_isSo_88 : decode cL_isSo 88 = .ok (.ifCond .lt 7, 3) := by decide +kernel
theorem dL_isSo_91 : decode cL_isSo 91 = .ok (.iconst 1, 1) := by decide +kernel
theorem dL_isSo_92 : decode cL_isSo 92 = .ok (.goto 4, 3) := by decide +kernel
theorem dL_isSo_95 : decode cL_isSo 95 = .ok (.iconst 0, 1) := by decide +kernel
theorem dL_isSo_96 : decode cL_isSo 96 = .ok (.istore_n 1, 1) := by decide +kernel
theorem dL_isSo_97 : decode cL_isSo 97 = .ok (.iinc 2 1, 3) := by decide +kernel
theorem dL_isSo_100 : decode cL_isSo 100 = .ok (.goto (-96), 3) := by decide +kernel
theorem dL_isSo_103 : decode cL_isSo 103 = .ok (.iconst 0, 1) := by decide +kernel
theorem dL_isSo_104 : decode cL_isSo 104 = .ok (.istore_n 2, 1) := by decide +kernel
theorem dL_isSo_105 : decode cL_isSo 105 = .ok (.iload_n 2, 1) := by decide +kernel
theorem dL_isSo_106 : decode cL_isSo 106 = .ok (.bipush 20, 2) := by decide +kernel
theorem dL_isSo_108 : decode cL_isSo 108 = .ok (.if_icmp .ge 60, 3) := by decide +kernel
theorem dL_isSo_111 : decode cL_isSo 111 = .ok (.iload_n 1, 1) := by decide +kernel
theorem dL_isSo_112 : decode cL_isSo 112 = .ok (.ifCond .eq 56, 3) := by decide +kernel
theorem dL_isSo_115 : decode cL_isSo 115 = .ok (.aload_n 0, 1) := by decide +kernel
theorem dL_isSo_116 : decode cL_isSo 116 = .ok (.iload_n 2, 1) := by decide +kernel
theorem dL_isSo_117 : decode cL_isSo 117 = .ok (.iconst 0, 1) := by decide +kernel
theorem dL_isSo_118 : decode cL_isSo 118 = .ok (.invokestatic 139, 3) := by decide +kernel
theorem dL_isSo_121 : decode cL_isSo 121 = .ok (.lstore_n 3, 1) := by decide +kernel
theorem dL_isSo_122 : decode cL_isSo 122 = .ok (.lload_n 3, 1) := by decide +kernel
theorem dL_isSo_123 : decode cL_isSo 123 = .ok (.ldc2_w 16, 3) := by decide +kernel
theorem dL_isSo_126 : decode cL_isSo 126 = .ok (.lcmp, 1) := by decide +kernel
theorem dL_isSo_127 : decode cL_isSo 127 = .ok (.ifCond .eq 29, 3) := by decide +kernel
theorem dL_isSo_130 : decode cL_isSo 130 = .ok (.lload_n 3, 1) := by decide +kernel
theorem dL_isSo_131 : decode cL_isSo 131 = .ok (.ldc2_w 152, 3) := by decide +kernel
theorem dL_isSo_134 : decode cL_isSo 134 = .ok (.lcmp, 1) := by decide +kernel
theorem dL_isSo_135 : decode cL_isSo 135 = .ok (.ifCond .gt 25, 3) := by decide +kernel
theorem dL_isSo_138 : decode cL_isSo 138 = .ok (.aload_n 0, 1) := by decide +kernel
theorem dL_isSo_139 : decode cL_isSo 139 = .ok (.iload_n 2, 1) := by decide +kernel
theorem dL_isSo_140 : decode cL_isSo 140 = .ok (.iconst 1, 1) := by decide +kernel
theorem dL_isSo_141 : decode cL_isSo 141 = .ok (.invokevirtual 77, 3) := by decide +kernel
theorem dL_isSo_144 : decode cL_isSo 144 = .ok (.ifCond .lt 16, 3) := by decide +kernel
theorem dL_isSo_147 : decode cL_isSo 147 = .ok (.aload_n 0, 1) := by decide +kernel
theorem dL_isSo_148 : decode cL_isSo 148 = .ok (.iload_n 2, 1) := by decide +kernel
theorem dL_isSo_149 : decode cL_isSo 149 = .ok (.iconst 3, 1) := by decide +kernel
theorem dL_isSo_150 : decode cL_isSo 150 = .ok (.invokevirtual 77, 3) := by decide +kernel
theorem dL_isSo_153 : decode cL_isSo 153 = .ok (.ifCond .le 7, 3) := by decide +kernel
theorem dL_isSo_156 : decode cL_isSo 156 = .ok (.iconst 1, 1) := by decide +kernel
theorem dL_isSo_157 : decode cL_isSo 157 = .ok (.goto 4, 3) := by decide +kernel
theorem dL_isSo_160 : decode cL_isSo 160 = .ok (.iconst 0, 1) := by decide +kernel
theorem dL_isSo_161 : decode cL_isSo 161 = .ok (.istore_n 1, 1) := by decide +kernel
theorem dL_isSo_162 : decode cL_isSo 162 = .ok (.iinc 2 1, 3) := by decide +kernel
theorem dL_isSo_165 : decode cL_isSo 165 = .ok (.goto (-60), 3) := by decide +kernel
theorem dL_isSo_168 : decode cL_isSo 168 = .ok (.aload_n 0, 1) := by decide +kernel
theorem dL_isSo_169 : decode cL_isSo 169 = .ok (.iconst 0, 1) := by decide +kernel
theorem dL_isSo_170 : decode cL_isSo 170 = .ok (.sipush 900, 3) := by decide +kernel
theorem dL_isSo_173 : decode cL_isSo 173 = .ok (.sipush 400, 3) := by decide +kernel
theorem dL_isSo_176 : decode cL_isSo 176 = .ok (.iconst 0, 1) := by decide +kernel
theorem dL_isSo_177 : decode cL_isSo 177 = .ok (.invokestatic 132, 3) := by decide +kernel
theorem dL_isSo_180 : decode cL_isSo 180 = .ok (.lstore_n 2, 1) := by decide +kernel
theorem dL_isSo_181 : decode cL_isSo 181 = .ok (.iload_n 1, 1) := by decide +kernel
theorem dL_isSo_182 : decode cL_isSo 182 = .ok (.ifCond .eq 81, 3) := by decide +kernel
theorem dL_isSo_185 : decode cL_isSo 185 = .ok (.lload_n 2, 1) := by decide +kernel
theorem dL_isSo_186 : decode cL_isSo 186 = .ok (.lconst 0, 1) := by decide +kernel
theorem dL_isSo_187 : decode cL_isSo 187 = .ok (.lcmp, 1) := by decide +kernel
theorem dL_isSo_188 : decode cL_isSo 188 = .ok (.ifCond .lt 43, 3) := by decide +kernel
theorem dL_isSo_191 : decode cL_isSo 191 = .ok (.aload_n 0, 1) := by decide +kernel
theorem dL_isSo_192 : decode cL_isSo 192 = .ok (.iconst 0, 1) := by decide +kernel
theorem dL_isSo_193 : decode cL_isSo 193 = .ok (.sipush 900, 3) := by decide +kernel
theorem dL_isSo_196 : decode cL_isSo 196 = .ok (.sipush 400, 3) := by decide +kernel
theorem dL_isSo_199 : decode cL_isSo 199 = .ok (.iconst 1, 1) := by decide +kernel
theorem dL_isSo_200 : decode cL_isSo 200 = .ok (.invokestatic 132, 3) := by decide +kernel
theorem dL_isSo_203 : decode cL_isSo 203 = .ok (.lload_n 2, 1) := by decide +kernel
theorem dL_isSo_204 : decode cL_isSo 204 = .ok (.lcmp, 1) := by decide +kernel
theorem dL_isSo_205 : decode cL_isSo 205 = .ok (.ifCond .lt 58, 3) := by decide +kernel
theorem dL_isSo_208 : decode cL_isSo 208 = .ok (.aload_n 0, 1) := by decide +kernel
theorem dL_isSo_209 : decode cL_isSo 209 = .ok (.iconst 0, 1) := by decide +kernel
theorem dL_isSo_210 : decode cL_isSo 210 = .ok (.sipush 900, 3) := by decide +kernel
theorem dL_isSo_213 : decode cL_isSo 213 = .ok (.sipush 400, 3) := by decide +kernel
theorem dL_isSo_216 : decode cL_isSo 216 = .ok (.iconst 3, 1) := by decide +kernel
theorem dL_isSo_217 : decode cL_isSo 217 = .ok (.invokestatic 132, 3) := by decide +kernel
theorem dL_isSo_220 : decode cL_isSo 220 = .ok (.ldc2_w 154, 3) := by decide +kernel
theorem dL_isSo_223 : decode cL_isSo 223 = .ok (.lload_n 2, 1) := by decide +kernel
theorem dL_isSo_224 : decode cL_isSo 224 = .ok (.lmul, 1) := by decide +kernel
theorem dL_isSo_225 : decode cL_isSo 225 = .ok (.lconst 1, 1) := by decide +kernel
theorem dL_isSo_226 : decode cL_isSo 226 = .ok (.ladd, 1) := by decide +kernel
theorem dL_isSo_227 : decode cL_isSo 227 = .ok (.lcmp, 1) := by decide +kernel
theorem dL_isSo_228 : decode cL_isSo 228 = .ok (.ifCond .ge 35, 3) := by decide +kernel
theorem dL_isSo_231 : decode cL_isSo 231 = .ok (.aload_n 0, 1) := by decide +kernel
theorem dL_isSo_232 : decode cL_isSo 232 = .ok (.bipush 8, 2) := by decide +kernel
theorem dL_isSo_234 : decode cL_isSo 234 = .ok (.iconst 0, 1) := by decide +kernel
theorem dL_isSo_235 : decode cL_isSo 235 = .ok (.invokestatic 98, 3) := by decide +kernel
theorem dL_isSo_238 : decode cL_isSo 238 = .ok (.ldc2_w 16, 3) := by decide +kernel
theorem dL_isSo_241 : decode cL_isSo 241 = .ok (.lcmp, 1) := by decide +kernel
theorem dL_isSo_242 : decode cL_isSo 242 = .ok (.ifCond .ne 21, 3) := by decide +kernel
theorem dL_isSo_245 : decode cL_isSo 245 = .ok (.aload_n 0, 1) := by decide +kernel
theorem dL_isSo_246 : decode cL_isSo 246 = .ok (.bipush 20, 2) := by decide +kernel
theorem dL_isSo_248 : decode cL_isSo 248 = .ok (.iconst 0, 1) := by decide +kernel
theorem dL_isSo_249 : decode cL_isSo 249 = .ok (.invokestatic 139, 3) := by decide +kernel
theorem dL_isSo_252 : decode cL_isSo 252 = .ok (.ldc2_w 16, 3) := by decide +kernel
theorem dL_isSo_255 : decode cL_isSo 255 = .ok (.lcmp, 1) := by decide +kernel
theorem dL_isSo_256 : decode cL_isSo 256 = .ok (.ifCond .ne 7, 3) := by decide +kernel
theorem dL_isSo_259 : decode cL_isSo 259 = .ok (.iconst 1, 1) := by decide +kernel
theorem dL_isSo_260 : decode cL_isSo 260 = .ok (.goto 4, 3) := by decide +kernel
theorem dL_isSo_263 : decode cL_isSo 263 = .ok (.iconst 0, 1) := by decide +kernel
theorem dL_isSo_264 : decode cL_isSo 264 = .ok (.ireturn, 1) := by decide +kernel
theorem dL_law_0 : decode cL_law 0 = .ok (.new 9, 3) := by decide +kernel
theorem dL_law_3 : decode cL_law 3 = .ok (.dup, 1) := by decide +kernel
theorem dL_law_4 : decode cL_law 4 = .ok (.invokespecial 156, 3) := by decide +kernel
theorem dL_law_7 : decode cL_law 7 = .ok (.astore_n 1, 1) := by decide +kernel
theorem dL_law_8 : decode cL_law 8 = .ok (.new 9, 3) := by decide +kernel
theorem dL_law_11 : decode cL_law 11 = .ok (.dup, 1) := by decide +kernel
theorem dL_law_12 : decode cL_law 12 = .ok (.invokespecial 156, 3) := by decide +kernel
theorem dL_law_15 : decode cL_law 15 = .ok (.astore_n 2, 1) := by decide +kernel
theorem dL_law_16 : decode cL_law 16 = .ok (.iconst 0, 1) := by decide +kernel
theorem dL_law_17 : decode cL_law 17 = .ok (.istore_n 3, 1) := by decide +kernel
theorem dL_law_18 : decode cL_law 18 = .ok (.iload_n 3, 1) := by decide +kernel
theorem dL_law_19 : decode cL_law 19 = .ok (.bipush 110, 2) := by decide +kernel
theorem dL_law_21 : decode cL_law 21 = .ok (.if_icmp .ge 68, 3) := by decide +kernel
theorem dL_law_24 : decode cL_law 24 = .ok (.aload_n 0, 1) := by decide +kernel
theorem dL_law_25 : decode cL_law 25 = .ok (.iload_n 3, 1) := by decide +kernel
theorem dL_law_26 : decode cL_law 26 = .ok (.invokestatic 157, 3) := by decide +kernel
theorem dL_law_29 : decode cL_law 29 = .ok (.istore 4, 2) := by decide +kernel
theorem dL_law_31 : decode cL_law 31 = .ok (.aload_n 1, 1) := by decide +kernel
theorem dL_law_32 : decode cL_law 32 = .ok (.iload 4, 2) := by decide +kernel
theorem dL_law_34 : decode cL_law 34 = .ok (.invokestatic 161, 3) := by decide +kernel
theorem dL_law_37 : decode cL_law 37 = .ok (.lstore 5, 2) := by decide +kernel
theorem dL_law_39 : decode cL_law 39 = .ok (.lload 5, 2) := by decide +kernel
theorem dL_law_41 : decode cL_law 41 = .ok (.ldc2_w 16, 3) := by decide +kernel
theorem dL_law_44 : decode cL_law 44 = .ok (.lcmp, 1) := by decide +kernel
theorem dL_law_45 : decode cL_law 45 = .ok (.ifCond .eq 15, 3) := by decide +kernel
theorem dL_law_48 : decode cL_law 48 = .ok (.aload_n 2, 1) := by decide +kernel
theorem dL_law_49 : decode cL_law 49 = .ok (.iload 4, 2) := by decide +kernel
theorem dL_law_51 : decode cL_law 51 = .ok (.invokestatic 161, 3) := by decide +kernel
theorem dL_law_54 : decode cL_law 54 = .ok (.lload 5, 2) := by decide +kernel
theorem dL_law_56 : decode cL_law 56 = .ok (.lcmp, 1) := by decide +kernel
theorem dL_law_57 : decode cL_law 57 = .ok (.ifCond .ne 24, 3) := by decide +kernel
theorem dL_law_60 : decode cL_law 60 = .ok (.iload_n 3, 1) := by decide +kernel
theorem dL_law_61 : decode cL_law 61 = .ok (.bipush 37, 2) := by decide +kernel
theorem dL_law_63 : decode cL_law 63 = .ok (.irem, 1) := by decide +kernel
theorem dL_law_64 : decode cL_law 64 = .ok (.bipush 36, 2) := by decide +kernel
theorem dL_law_66 : decode cL_law 66 = .ok (.if_icmp .ne 17, 3) := by decide +kernel
theorem dL_law_69 : decode cL_law 69 = .ok (.aload_n 1, 1) := by decide +kernel
theorem dL_law_70 : decode cL_law 70 = .ok (.aload_n 2, 1) := by decide +kernel
theorem dL_law_71 : decode cL_law 71 = .ok (.iload 4, 2) := by decide +kernel
theorem dL_law_73 : decode cL_law 73 = .ok (.iconst 3, 1) := by decide +kernel
theorem dL_law_74 : decode cL_law 74 = .ok (.ishr, 1) := by decide +kernel
theorem dL_law_75 : decode cL_law 75 = .ok (.invokestatic 164, 3) := by decide +kernel
theorem dL_law_78 : decode cL_law 78 = .ok (.ifCond .ne 5, 3) := by decide +kernel
theorem dL_law_81 : decode cL_law 81 = .ok (.iconst 0, 1) := by decide +kernel
theorem dL_law_82 : decode cL_law 82 = .ok (.ireturn, 1) := by decide +kernel
theorem dL_law_83 : decode cL_law 83 = .ok (.iinc 3 1, 3) := by decide +kernel
theorem dL_law_86 : decode cL_law 86 = .ok (.goto (-68), 3) := by decide +kernel
theorem dL_law_89 : decode cL_law 89 = .ok (.aload_n 1, 1) := by decide +kernel
theorem dL_law_90 : decode cL_law 90 = .ok (.invokestatic 168, 3) := by decide +kernel
theorem dL_law_93 : decode cL_law 93 = .ok (.ireturn, 1) := by decide +kernel
