set_option maxRecDepth 100000 in
theorem wg_r1 : GoodIn lw_tbl wsL_law0_r1 := goodIn_p wsL_law0_r1 [43, 46] (by decide +kernel) (by decide +kernel)
set_option maxRecDepth 100000 in
theorem wg_r2 : GoodIn lw_tbl wsL_law0_r2 := goodIn_p wsL_law0_r2 [51, 80] (by decide +kernel) (by decide +kernel)
set_option maxRecDepth 100000 in
theorem wg_r3 : GoodIn lw_tbl wsL_law0_r3 := goodIn_p wsL_law0_r3 [86, 116, 147] (by decide +kernel) (by decide +kernel)
set_option maxRecDepth 100000 in
theorem wg_r4 : GoodIn lw_tbl wsL_law0_r4 := goodIn_p wsL_law0_r4 [198, 240, 271, 331] (by decide +kernel) (by decide +kernel)
set_option maxRecDepth 100000 in
theorem wg_act0 : Cond.code yL_act cL_act 8 (some .long) ∈ tables_1_2 := List.mem_of_getElem? (i := 72) rfl
theorem wg_act : Cond.code yL_act cL_act 8 (some .long) ∈ lw_tbl := List.mem_append_right _ (List.mem_append_right _ (List.mem_append_left _ wg_act0))
def wsL_rest : List Cond := [Cond.methodLink RL 161 yL_act, Cond.static yL_act, Cond.methodLink RL 86 yL_low, Cond.static yL_low, Cond.code yL_low cL_low 2 (some .int), Cond.constant RL 7 (2147483647), Cond.methodLink RL 91 yL_face, Cond.static yL_face, Cond.codeWith yL_face cL_face 4 (some .long) [(0, 7, 8, 14), (0, 7, 13, 18)], Cond.classLink RL 14 "java/lang/IllegalArgumentException", Cond.classLink RL 18 "java/lang/IllegalStateException", Cond.methodLink RL 8 yX8_face, Cond.instanceMethod yX8_face, Cond.selects RX8 yX8_face yX8_face, Cond.code yX8_face cX8_face 3 (some .int), Cond.classLink RX8 66 "java/lang/IllegalArgumentException", Cond.initialized "java/lang/IllegalArgumentException", Cond.classLink RX8 77 "java/lang/IllegalStateException", Cond.initialized "java/lang/IllegalStateException", Cond.fieldLink RX8 73 "PressbrakeLane$Drawing" "faces" "I", Cond.fieldLink RX8 82 "PressbrakeLane$Drawing" "lengths" "[I", Cond.fieldLink RX8 85 "PressbrakeLane$Drawing" "directions" "[I", Cond.methodLink RX8 62 yX8_isOut]
set_option maxRecDepth 100000 in
theorem wg_rest : GoodIn lw_tbl wsL_rest := goodIn_p wsL_rest [337, 347] (by decide +kernel) (by decide +kernel)
theorem wg_r5 : GoodIn lw_tbl wsL_law0_r5 := fun w hw => by
  rcases List.mem_cons.mp hw with rfl | hw
  · exact wg_rest _ (List.mem_of_getElem? (i := 0) rfl)
  rcases List.mem_cons.mp hw with rfl | hw
  · exact wg_rest _ (List.mem_of_getElem? (i := 1) rfl)
  rcases List.mem_cons.mp hw with rfl | hw
  · exact ⟨wg_act, Or.inl rfl⟩
  exact wg_rest _ (List.mem_cons_of_mem _ (List.mem_cons_of_mem _ hw))
set_option maxRecDepth 100000 in
theorem wg_r6 : GoodIn lw_tbl wsL_law0_r6 := goodIn_p wsL_law0_r6 [350, 439, 447, 451] (by decide +kernel) (by decide +kernel)
set_option maxRecDepth 100000 in
theorem wg_r7 : GoodIn lw_tbl wsL_law0_r7 := goodIn_p wsL_law0_r7 [471, 475, 483, 486] (by decide +kernel) (by decide +kernel)
set_option maxRecDepth 100000 in
theorem wg_r8 : GoodIn lw_tbl wsL_law0_r8 := goodIn_p wsL_law0_r8 [491, 497, 501, 508] (by decide +kernel) (by decide +kernel)
set_option maxRecDepth 100000 in
theorem wg_r9 : GoodIn lw_tbl wsL_law0_r9 := goodIn_p wsL_law0_r9 [512, 516, 520, 524] (by decide +kernel) (by decide +kernel)
set_option maxRecDepth 100000 in
theorem wg_r10 : GoodIn lw_tbl wsL_law0_r10 := goodIn_p wsL_law0_r10 [528, 535, 541, 549] (by decide +kernel) (by decide +kernel)
set_option maxRecDepth 100000 in
theorem wg_r11 : GoodIn lw_tbl wsL_law0_r11 := goodIn_p wsL_law0_r11 [558, 567, 571] (by decide +kernel) (by decide +kernel)
set_option maxRecDepth 100000 in
theorem wg_r12 : GoodIn lw_tbl wsL_law0_r12 := goodIn_p wsL_law0_r12 [580, 587, 590, 595, 598] (by decide +kernel) (by decide +kernel)
set_option maxRecDepth 100000 in
theorem wg_r13 : GoodIn lw_tbl wsL_law0_r13 := goodIn_p wsL_law0_r13 [603, 619, 607] (by decide +kernel) (by decide +kernel)
set_option maxRecDepth 100000 in
theorem wg_r14 : GoodIn lw_tbl wsL_law0_r14 := goodIn_p wsL_law0_r14 [611, 616, 623, 627, 634] (by decide +kernel) (by decide +kernel)
set_option maxRecDepth 100000 in
theorem wg_r15 : GoodIn lw_tbl wsL_law0_r15 := goodIn_p wsL_law0_r15 [644, 648, 652] (by decide +kernel) (by decide +kernel)
set_option maxRecDepth 100000 in
theorem wg_r16 : GoodIn lw_tbl wsL_law0_r16 := goodIn_p wsL_law0_r16 [660, 664, 668, 672] (by decide +kernel) (by decide +kernel)
set_option maxRecDepth 100000 in
theorem wg_r17 : GoodIn lw_tbl wsL_law0_r17 := goodIn_p wsL_law0_r17 [679, 687, 693, 700] (by decide +kernel) (by decide +kernel)
set_option maxRecDepth 100000 in
theorem wg_r18 : GoodIn lw_tbl wsL_law0_r18 := goodIn_p wsL_law0_r18 [706, 710, 713, 718] (by decide +kernel) (by decide +kernel)
set_option maxRecDepth 100000 in
theorem wg_r19 : GoodIn lw_tbl wsL_law0_r19 := goodIn_p wsL_law0_r19 [722, 727, 731, 735, 739, 743] (by decide +kernel) (by decide +kernel)
set_option maxRecDepth 100000 in
theorem wg_r20 : GoodIn lw_tbl wsL_law0_r20 := goodIn_p wsL_law0_r20 [747, 754, 762, 766] (by decide +kernel) (by decide +kernel)
set_option maxRecDepth 100000 in
theorem wg_r21 : GoodIn lw_tbl wsL_law0_r21 := goodIn_p wsL_law0_r21 [772, 780, 787, 791, 796] (by decide +kernel) (by decide +kernel)
set_option maxRecDepth 100000 in
theorem wg_r22 : GoodIn lw_tbl wsL_law0_r22 := goodIn_p wsL_law0_r22 [800, 807, 812, 815, 818] (by decide +kernel) (by decide +kernel)
set_option maxRecDepth 100000 in
theorem wg_r23 : GoodIn lw_tbl wsL_law0_r23 := goodIn_p wsL_law0_r23 [821, 825, 829, 832] (by decide +kernel) (by decide +kernel)
set_option maxRecDepth 100000 in
theorem wg_x80 : GoodIn lw_tbl wsX80 := goodIn_of _ (by decide +kernel)
set_option maxRecDepth 100000 in
theorem wg_x20 : GoodIn lw_tbl wsX20 := goodIn_of _ (by decide +kernel)
set_option maxRecDepth 100000 in
theorem wg_x10 : GoodIn lw_tbl wsX10 := goodIn_of _ (by decide +kernel)
set_option maxRecDepth 100000 in
theorem wg_x50 : GoodIn lw_tbl wsX50 := goodIn_of _ (by decide +kernel)
set_option maxRecDepth 100000 in
theorem wg_x30 : GoodIn lw_tbl wsX30 := goodIn_of _ (by decide +kernel)
set_option maxRecDepth 100000 in
theorem wg_x40 : GoodIn lw_tbl wsX40 := goodIn_of _ (by decide +kernel)
set_option maxRecDepth 100000 in
theorem wg_x60 : GoodIn lw_tbl wsX60 := goodIn_of _ (by decide +kernel)
set_option maxRecDepth 100000 in
theorem wg_x00 : GoodIn lw_tbl wsX00 := goodIn_of _ (by decide +kernel)
set_option maxRecDepth 100000 in
theorem wg_x70 : GoodIn lw_tbl wsX70 := goodIn_of _ (by decide +kernel)
theorem wg_nil : GoodIn lw_tbl ([] : List Cond) := fun _ h => absurd h List.not_mem_nil
theorem wg_0 : GoodIn lw_tbl wsL_law0 := (goodIn_app (goodIn_app (goodIn_app (goodIn_app (goodIn_app (goodIn_app (goodIn_app (goodIn_app (goodIn_app (goodIn_app (goodIn_app wg_r1 (goodIn_app wg_r2 (goodIn_app wg_r3 (goodIn_app wg_r4 (goodIn_app wg_r5 (goodIn_app wg_r6 (goodIn_app wg_r7 (goodIn_app wg_r8 (goodIn_app wg_r9 (goodIn_app wg_r10 (goodIn_app wg_r11 (goodIn_app wg_r12 (goodIn_app wg_r13 (goodIn_app wg_r14 (goodIn_app wg_r15 (goodIn_app wg_r16 (goodIn_app wg_r17 (goodIn_app wg_r18 (goodIn_app wg_r19 (goodIn_app wg_r20 (goodIn_app wg_r21 (goodIn_app wg_r22 wg_r23)))))))))))))))))))))) wg_x80) wg_x20) wg_x10) wg_x50) wg_x30) wg_x40) wg_x60) wg_x00) wg_x70) wg_nil)
theorem wsL_law_in0 : ∀ w ∈ wsL_law0, w ∈ lw_tbl := fun w h => (wg_0 w h).1
theorem wsL_law_x0 : ∀ w ∈ (vx_atS RX8 70 "java/lang/IllegalArgumentException" ["java/lang/RuntimeException", "java/lang/Exception"]).filter goodWord, w ∈ lw_tbl := by decide +kernel
theorem wsL_law_x1 : ∀ w ∈ (vx_atS RX8 81 "java/lang/IllegalStateException" ["java/lang/RuntimeException", "java/lang/Exception"]).filter goodWord, w ∈ lw_tbl := by decide +kernel
theorem wsL_law_x2 : ∀ w ∈ (vx_atS RX8 135 "java/lang/IndexOutOfBoundsException" ["java/lang/RuntimeException", "java/lang/Exception"]).filter goodWord, w ∈ lw_tbl := by decide +kernel
theorem wsL_law_in : ∀ w ∈ wsL_law, w ∈ lw_tbl := fun w h => (List.mem_append.mp h).elim (fun h => (List.mem_append.mp h).elim (fun h => (List.mem_append.mp h).elim (fun h => wsL_law_in0 w h) (fun h => wsL_law_x0 w h)) (fun h => wsL_law_x1 w h)) (fun h => wsL_law_x2 w h)
theorem inlX0 : ∀ w ∈ wsX00, w ∈ wsL_law := fun _ h => List.mem_append_left _ (List.mem_append_left _ (List.mem_append_left _ (List.mem_append_left _ (List.mem_append_left _ (List.mem_append_right _ h)))))
theorem inX0 : ∀ w ∈ wsX00, w ∈ lw_tbl := fun w h => wsL_law_in w (inlX0 w h)
theorem inlX1 : ∀ w ∈ wsX10, w ∈ wsL_law := fun _ h => List.mem_append_left _ (List.mem_append_left _ (List.mem_append_left _ (List.mem_append_left _ (List.mem_append_left _ (List.mem_append_left _ (List.mem_append_left _ (List.mem_append_left _ (List.mem_append_left _ (List.mem_append_left _ (List.mem_append_right _ h))))))))))
theorem inX1 : ∀ w ∈ wsX10, w ∈ lw_tbl := fun w h => wsL_law_in w (inlX1 w h)
theorem inlX2 : ∀ w ∈ wsX20, w ∈ wsL_law := fun _ h => List.mem_append_left _ (List.mem_append_left _ (List.mem_append_left _ (List.mem_append_left _ (List.mem_append_left _ (List.mem_append_left _ (List.mem_append_left _ (List.mem_append_left _ (List.mem_append_left _ (List.mem_append_left _ (List.mem_append_left _ (List.mem_append_right _ h)))))))))))
theorem inX2 : ∀ w ∈ wsX20, w ∈ lw_tbl := fun w h => wsL_law_in w (inlX2 w h)
theorem inlX3 : ∀ w ∈ wsX30, w ∈ wsL_law := fun _ h => List.mem_append_left _ (List.mem_append_left _ (List.mem_append_left _ (List.mem_append_left _ (List.mem_append_left _ (List.mem_append_left _ (List.mem_append_left _ (List.mem_append_left _ (List.mem_append_right _ h))))))))
theorem inX3 : ∀ w ∈ wsX30, w ∈ lw_tbl := fun w h => wsL_law_in w (inlX3 w h)
theorem inlX4 : ∀ w ∈ wsX40, w ∈ wsL_law := fun _ h => List.mem_append_left _ (List.mem_append_left _ (List.mem_append_left _ (List.mem_append_left _ (List.mem_append_left _ (List.mem_append_left _ (List.mem_append_left _ (List.mem_append_right _ h)))))))
theorem inX4 : ∀ w ∈ wsX40, w ∈ lw_tbl := fun w h => wsL_law_in w (inlX4 w h)
theorem inlX5 : ∀ w ∈ wsX50, w ∈ wsL_law := fun _ h => List.mem_append_left _ (List.mem_append_left _ (List.mem_append_left _ (List.mem_append_left _ (List.mem_append_left _ (List.mem_append_left _ (List.mem_append_left _ (List.mem_append_left _ (List.mem_append_left _ (List.mem_append_right _ h)))))))))
theorem inX5 : ∀ w ∈ wsX50, w ∈ lw_tbl := fun w h => wsL_law_in w (inlX5 w h)
theorem inlX6 : ∀ w ∈ wsX60, w ∈ wsL_law := fun _ h => List.mem_append_left _ (List.mem_append_left _ (List.mem_append_left _ (List.mem_append_left _ (List.mem_append_left _ (List.mem_append_left _ (List.mem_append_right _ h))))))
theorem inX6 : ∀ w ∈ wsX60, w ∈ lw_tbl := fun w h => wsL_law_in w (inlX6 w h)
theorem inlX7 : ∀ w ∈ wsX70, w ∈ wsL_law := fun _ h => List.mem_append_left _ (List.mem_append_left _ (List.mem_append_left _ (List.mem_append_left _ (List.mem_append_right _ h))))
theorem inX7 : ∀ w ∈ wsX70, w ∈ lw_tbl := fun w h => wsL_law_in w (inlX7 w h)
theorem inlX8 : ∀ w ∈ wsX80, w ∈ wsL_law := fun _ h => List.mem_append_left _ (List.mem_append_left _ (List.mem_append_left _ (List.mem_append_left _ (List.mem_append_left _ (List.mem_append_left _ (List.mem_append_left _ (List.mem_append_left _ (List.mem_append_left _ (List.mem_append_left _ (List.mem_append_left _ (List.mem_append_left _ (List.mem_append_right _ h))))))))))))
theorem inX8 : ∀ w ∈ wsX80, w ∈ lw_tbl := fun w h => wsL_law_in w (inlX8 w h)
theorem inX9 : ∀ w ∈ wsX90, w ∈ lw_tbl := by decide +kernel
theorem inJ9 : ∀ w ∈ wsJ90, w ∈ lw_tbl := by decide +kernel
theorem inJ0 : ∀ w ∈ wsJ00, w ∈ lw_tbl := by decide +kernel

