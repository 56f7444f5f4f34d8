set_option maxRecDepth 100000 in
theorem wg_r1 : GoodIn lw_tbl wsL_law0_r1 := goodIn_p wsL_law0_r1 [67, 70] (by decide +kernel) (by decide +kernel)
set_option maxRecDepth 100000 in
theorem wg_r2 : GoodIn lw_tbl wsL_law0_r2 := goodIn_p wsL_law0_r2 [75] (by decide +kernel) (by decide +kernel)
set_option maxRecDepth 100000 in
theorem wg_r3 : GoodIn lw_tbl wsL_law0_r3 := goodIn_p wsL_law0_r3 [104, 110, 140, 171] (by decide +kernel) (by decide +kernel)
set_option maxRecDepth 100000 in
theorem wg_r4 : GoodIn lw_tbl wsL_law0_r4 := goodIn_p wsL_law0_r4 [222, 264, 295] (by decide +kernel) (by decide +kernel)
set_option maxRecDepth 100000 in
theorem wg_r5 : GoodIn lw_tbl wsL_law0_r5 := goodIn_p wsL_law0_r5 [844] (by decide +kernel) (by decide +kernel)
set_option maxRecDepth 100000 in
theorem wg_r6 : GoodIn lw_tbl wsL_law0_r6 := goodIn_p wsL_law0_r6 [369] (by decide +kernel) (by decide +kernel)
set_option maxRecDepth 100000 in
theorem wg_r7 : GoodIn lw_tbl wsL_law0_r7 := goodIn_p wsL_law0_r7 [372, 989, 992, 996, 985] (by decide +kernel) (by decide +kernel)
set_option maxRecDepth 100000 in
theorem wg_r8 : GoodIn lw_tbl wsL_law0_r8 := goodIn_p wsL_law0_r8 [356, 1000, 463, 466, 471] (by decide +kernel) (by decide +kernel)
set_option maxRecDepth 100000 in
theorem wg_r9 : GoodIn lw_tbl wsL_law0_r9 := goodIn_p wsL_law0_r9 [477, 481, 1004, 1007, 1011] (by decide +kernel) (by decide +kernel)
set_option maxRecDepth 100000 in
theorem wg_r10 : GoodIn lw_tbl wsL_law0_r10 := goodIn_p wsL_law0_r10 [489, 493, 513] (by decide +kernel) (by decide +kernel)
set_option maxRecDepth 100000 in
theorem wg_r11 : GoodIn lw_tbl wsL_law0_r11 := goodIn_p wsL_law0_r11 [517, 521, 525, 529] (by decide +kernel) (by decide +kernel)
set_option maxRecDepth 100000 in
theorem wg_r12 : GoodIn lw_tbl wsL_law0_r12 := goodIn_p wsL_law0_r12 [1015, 1019, 1023, 1027, 536] (by decide +kernel) (by decide +kernel)
set_option maxRecDepth 100000 in
theorem wg_r13 : GoodIn lw_tbl wsL_law0_r13 := goodIn_p wsL_law0_r13 [542, 1031, 550, 555] (by decide +kernel) (by decide +kernel)
set_option maxRecDepth 100000 in
theorem wg_r14 : GoodIn lw_tbl wsL_law0_r14 := goodIn_p wsL_law0_r14 [1035, 1039, 562, 566, 1043] (by decide +kernel) (by decide +kernel)
set_option maxRecDepth 100000 in
theorem wg_r15 : GoodIn lw_tbl wsL_law0_r15 := goodIn_p wsL_law0_r15 [575, 1047, 584] (by decide +kernel) (by decide +kernel)
set_option maxRecDepth 100000 in
theorem wg_r16 : GoodIn lw_tbl wsL_law0_r16 := goodIn_p wsL_law0_r16 [588, 1051, 1055, 597, 1059] (by decide +kernel) (by decide +kernel)
set_option maxRecDepth 100000 in
theorem wg_r17 : GoodIn lw_tbl wsL_law0_r17 := goodIn_p wsL_law0_r17 [604, 607, 612, 615, 620] (by decide +kernel) (by decide +kernel)
set_option maxRecDepth 100000 in
theorem wg_r18 : GoodIn lw_tbl wsL_law0_r18 := goodIn_p wsL_law0_r18 [636, 624, 628, 633] (by decide +kernel) (by decide +kernel)
set_option maxRecDepth 100000 in
theorem wg_r19 : GoodIn lw_tbl wsL_law0_r19 := goodIn_p wsL_law0_r19 [640, 644, 1063, 1067, 1071] (by decide +kernel) (by decide +kernel)
set_option maxRecDepth 100000 in
theorem wg_r20 : GoodIn lw_tbl wsL_law0_r20 := goodIn_p wsL_law0_r20 [1075, 1079, 1083, 651] (by decide +kernel) (by decide +kernel)
set_option maxRecDepth 100000 in
theorem wg_r21 : GoodIn lw_tbl wsL_law0_r21 := goodIn_p wsL_law0_r21 [1087, 661, 665, 669] (by decide +kernel) (by decide +kernel)
set_option maxRecDepth 100000 in
theorem wg_r22 : GoodIn lw_tbl wsL_law0_r22 := goodIn_p wsL_law0_r22 [677, 681, 685, 689, 1091] (by decide +kernel) (by decide +kernel)
set_option maxRecDepth 100000 in
theorem wg_r23 : GoodIn lw_tbl wsL_law0_r23 := goodIn_p wsL_law0_r23 [1095, 1099, 1103, 696, 700] (by decide +kernel) (by decide +kernel)
set_option maxRecDepth 100000 in
theorem wg_r24 : GoodIn lw_tbl wsL_law0_r24 := goodIn_p wsL_law0_r24 [703, 1107, 710, 1111] (by decide +kernel) (by decide +kernel)
set_option maxRecDepth 100000 in
theorem wg_r25 : GoodIn lw_tbl wsL_law0_r25 := goodIn_p wsL_law0_r25 [718, 1115, 1119, 360, 1123] (by decide +kernel) (by decide +kernel)
set_option maxRecDepth 100000 in
theorem wg_r26 : GoodIn lw_tbl wsL_law0_r26 := goodIn_p wsL_law0_r26 [727, 733, 737, 740] (by decide +kernel) (by decide +kernel)
set_option maxRecDepth 100000 in
theorem wg_r27 : GoodIn lw_tbl wsL_law0_r27 := goodIn_p wsL_law0_r27 [745, 749, 754, 758, 762, 766] (by decide +kernel) (by decide +kernel)
set_option maxRecDepth 100000 in
theorem wg_r28 : GoodIn lw_tbl wsL_law0_r28 := goodIn_p wsL_law0_r28 [770, 774, 1127, 1131, 1135] (by decide +kernel) (by decide +kernel)
set_option maxRecDepth 100000 in
theorem wg_r29 : GoodIn lw_tbl wsL_law0_r29 := goodIn_p wsL_law0_r29 [1139, 1144, 781, 1149] (by decide +kernel) (by decide +kernel)
set_option maxRecDepth 100000 in
theorem wg_r30 : GoodIn lw_tbl wsL_law0_r30 := goodIn_p wsL_law0_r30 [789, 793, 799, 1153, 1157, 807] (by decide +kernel) (by decide +kernel)
set_option maxRecDepth 100000 in
theorem wg_r31 : GoodIn lw_tbl wsL_law0_r31 := goodIn_p wsL_law0_r31 [1161, 814, 818, 823, 827] (by decide +kernel) (by decide +kernel)
set_option maxRecDepth 100000 in
theorem wg_r32 : GoodIn lw_tbl wsL_law0_r32 := goodIn_p wsL_law0_r32 [1165, 1169, 1173, 834, 839] (by decide +kernel) (by decide +kernel)
set_option maxRecDepth 100000 in
theorem wg_r33 : GoodIn lw_tbl wsL_law0_r33 := goodIn_p wsL_law0_r33 [1177] (by decide +kernel) (by decide +kernel)
set_option maxRecDepth 100000 in
theorem wg_x80 : GoodIn lw_tbl wsX80 := goodIn_of _ (by decide +kernel)
set_option maxRecDepth 100000 in
theorem wg_x90 : GoodIn lw_tbl wsX90 := goodIn_of _ (by decide +kernel)
set_option maxRecDepth 100000 in
theorem wg_x20 : GoodIn lw_tbl wsX20 := goodIn_of _ (by decide +kernel)
set_option maxRecDepth 100000 in
theorem wg_x10 : GoodIn lw_tbl wsX10 := goodIn_of _ (by decide +kernel)
set_option maxRecDepth 100000 in
theorem wg_x50 : GoodIn lw_tbl wsX50 := goodIn_of _ (by decide +kernel)
set_option maxRecDepth 100000 in
theorem wg_x30 : GoodIn lw_tbl wsX30 := goodIn_of _ (by decide +kernel)
set_option maxRecDepth 100000 in
theorem wg_x40 : GoodIn lw_tbl wsX40 := goodIn_of _ (by decide +kernel)
set_option maxRecDepth 100000 in
theorem wg_x60 : GoodIn lw_tbl wsX60 := goodIn_of _ (by decide +kernel)
set_option maxRecDepth 100000 in
theorem wg_x00 : GoodIn lw_tbl wsX00 := goodIn_of _ (by decide +kernel)
set_option maxRecDepth 100000 in
theorem wg_x70 : GoodIn lw_tbl wsX70 := goodIn_of _ (by decide +kernel)
theorem wg_nil : GoodIn lw_tbl ([] : List Cond) := fun _ h => absurd h List.not_mem_nil
theorem wg_0 : GoodIn lw_tbl wsL_law0 := (goodIn_app (goodIn_app (goodIn_app (goodIn_app (goodIn_app (goodIn_app (goodIn_app (goodIn_app (goodIn_app (goodIn_app (goodIn_app (goodIn_app wg_r1 (goodIn_app wg_r2 (goodIn_app wg_r3 (goodIn_app wg_r4 (goodIn_app wg_r5 (goodIn_app wg_r6 (goodIn_app wg_r7 (goodIn_app wg_r8 (goodIn_app wg_r9 (goodIn_app wg_r10 (goodIn_app wg_r11 (goodIn_app wg_r12 (goodIn_app wg_r13 (goodIn_app wg_r14 (goodIn_app wg_r15 (goodIn_app wg_r16 (goodIn_app wg_r17 (goodIn_app wg_r18 (goodIn_app wg_r19 (goodIn_app wg_r20 (goodIn_app wg_r21 (goodIn_app wg_r22 (goodIn_app wg_r23 (goodIn_app wg_r24 (goodIn_app wg_r25 (goodIn_app wg_r26 (goodIn_app wg_r27 (goodIn_app wg_r28 (goodIn_app wg_r29 (goodIn_app wg_r30 (goodIn_app wg_r31 (goodIn_app wg_r32 wg_r33)))))))))))))))))))))))))))))))) wg_x80) wg_x90) wg_x20) wg_x10) wg_x50) wg_x30) wg_x40) wg_x60) wg_x00) wg_x70) wg_nil)
theorem wsL_law_in0 : ∀ w ∈ wsL_law0, w ∈ lw_tbl := fun w h => (wg_0 w h).1
theorem wsL_law_x0 : ∀ w ∈ (vx_atS RX8 70 "java/lang/IllegalArgumentException" ["java/lang/RuntimeException", "java/lang/Exception"]).filter goodWord, w ∈ lw_tbl := by decide +kernel
theorem wsL_law_x1 : ∀ w ∈ (vx_atS RX8 81 "java/lang/IllegalStateException" ["java/lang/RuntimeException", "java/lang/Exception"]).filter goodWord, w ∈ lw_tbl := by decide +kernel
theorem wsL_law_x2 : ∀ w ∈ (vx_atS RX8 135 "java/lang/IndexOutOfBoundsException" ["java/lang/RuntimeException", "java/lang/Exception"]).filter goodWord, w ∈ lw_tbl := by decide +kernel
theorem wsL_law_in : ∀ w ∈ wsL_law, w ∈ lw_tbl := fun w h => (List.mem_append.mp h).elim (fun h => (List.mem_append.mp h).elim (fun h => (List.mem_append.mp h).elim (fun h => wsL_law_in0 w h) (fun h => wsL_law_x0 w h)) (fun h => wsL_law_x1 w h)) (fun h => wsL_law_x2 w h)
theorem inlX0 : ∀ w ∈ wsX00, w ∈ wsL_law := fun _ h => List.mem_append_left _ (List.mem_append_left _ (List.mem_append_left _ (List.mem_append_left _ (List.mem_append_left _ (List.mem_append_right _ h)))))
theorem inX0 : ∀ w ∈ wsX00, w ∈ lw_tbl := fun w h => wsL_law_in w (inlX0 w h)
theorem inlX1 : ∀ w ∈ wsX10, w ∈ wsL_law := fun _ h => List.mem_append_left _ (List.mem_append_left _ (List.mem_append_left _ (List.mem_append_left _ (List.mem_append_left _ (List.mem_append_left _ (List.mem_append_left _ (List.mem_append_left _ (List.mem_append_left _ (List.mem_append_left _ (List.mem_append_right _ h))))))))))
theorem inX1 : ∀ w ∈ wsX10, w ∈ lw_tbl := fun w h => wsL_law_in w (inlX1 w h)
theorem inlX2 : ∀ w ∈ wsX20, w ∈ wsL_law := fun _ h => List.mem_append_left _ (List.mem_append_left _ (List.mem_append_left _ (List.mem_append_left _ (List.mem_append_left _ (List.mem_append_left _ (List.mem_append_left _ (List.mem_append_left _ (List.mem_append_left _ (List.mem_append_left _ (List.mem_append_left _ (List.mem_append_right _ h)))))))))))
theorem inX2 : ∀ w ∈ wsX20, w ∈ lw_tbl := fun w h => wsL_law_in w (inlX2 w h)
theorem inlX3 : ∀ w ∈ wsX30, w ∈ wsL_law := fun _ h => List.mem_append_left _ (List.mem_append_left _ (List.mem_append_left _ (List.mem_append_left _ (List.mem_append_left _ (List.mem_append_left _ (List.mem_append_left _ (List.mem_append_left _ (List.mem_append_right _ h))))))))
theorem inX3 : ∀ w ∈ wsX30, w ∈ lw_tbl := fun w h => wsL_law_in w (inlX3 w h)
theorem inlX4 : ∀ w ∈ wsX40, w ∈ wsL_law := fun _ h => List.mem_append_left _ (List.mem_append_left _ (List.mem_append_left _ (List.mem_append_left _ (List.mem_append_left _ (List.mem_append_left _ (List.mem_append_left _ (List.mem_append_right _ h)))))))
theorem inX4 : ∀ w ∈ wsX40, w ∈ lw_tbl := fun w h => wsL_law_in w (inlX4 w h)
theorem inlX5 : ∀ w ∈ wsX50, w ∈ wsL_law := fun _ h => List.mem_append_left _ (List.mem_append_left _ (List.mem_append_left _ (List.mem_append_left _ (List.mem_append_left _ (List.mem_append_left _ (List.mem_append_left _ (List.mem_append_left _ (List.mem_append_left _ (List.mem_append_right _ h)))))))))
theorem inX5 : ∀ w ∈ wsX50, w ∈ lw_tbl := fun w h => wsL_law_in w (inlX5 w h)
theorem inlX6 : ∀ w ∈ wsX60, w ∈ wsL_law := fun _ h => List.mem_append_left _ (List.mem_append_left _ (List.mem_append_left _ (List.mem_append_left _ (List.mem_append_left _ (List.mem_append_left _ (List.mem_append_right _ h))))))
theorem inX6 : ∀ w ∈ wsX60, w ∈ lw_tbl := fun w h => wsL_law_in w (inlX6 w h)
theorem inlX7 : ∀ w ∈ wsX70, w ∈ wsL_law := fun _ h => List.mem_append_left _ (List.mem_append_left _ (List.mem_append_left _ (List.mem_append_left _ (List.mem_append_right _ h))))
theorem inX7 : ∀ w ∈ wsX70, w ∈ lw_tbl := fun w h => wsL_law_in w (inlX7 w h)
theorem inlX8 : ∀ w ∈ wsX80, w ∈ wsL_law := fun _ h => List.mem_append_left _ (List.mem_append_left _ (List.mem_append_left _ (List.mem_append_left _ (List.mem_append_left _ (List.mem_append_left _ (List.mem_append_left _ (List.mem_append_left _ (List.mem_append_left _ (List.mem_append_left _ (List.mem_append_left _ (List.mem_append_left _ (List.mem_append_left _ (List.mem_append_right _ h)))))))))))))
theorem inX8 : ∀ w ∈ wsX80, w ∈ lw_tbl := fun w h => wsL_law_in w (inlX8 w h)
theorem inlX9 : ∀ w ∈ wsX90, w ∈ wsL_law := fun _ h => List.mem_append_left _ (List.mem_append_left _ (List.mem_append_left _ (List.mem_append_left _ (List.mem_append_left _ (List.mem_append_left _ (List.mem_append_left _ (List.mem_append_left _ (List.mem_append_left _ (List.mem_append_left _ (List.mem_append_left _ (List.mem_append_left _ (List.mem_append_right _ h))))))))))))
theorem inX9 : ∀ w ∈ wsX90, w ∈ lw_tbl := fun w h => wsL_law_in w (inlX9 w h)
theorem inJ9 : ∀ w ∈ wsJ90, w ∈ lw_tbl := by decide +kernel
theorem inJ0 : ∀ w ∈ wsJ00, w ∈ lw_tbl := by decide +kernel


