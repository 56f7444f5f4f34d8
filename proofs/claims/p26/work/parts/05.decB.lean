theorem dX8_init_0 : decode cX8_init 0 = .ok (.aload_n 0, 1) := by decide +kernel
theorem dX8_init_1 : decode cX8_init 1 = .ok (.invokespecial 3, 3) := by decide +kernel
theorem dX8_init_4 : decode cX8_init 4 = .ok (.aload_n 0, 1) := by decide +kernel
theorem dX8_init_5 : decode cX8_init 5 = .ok (.new 9, 3) := by decide +kernel
theorem dX8_init_8 : decode cX8_init 8 = .ok (.dup, 1) := by decide +kernel
theorem dX8_init_9 : decode cX8_init 9 = .ok (.invokespecial 11, 3) := by decide +kernel
theorem dX8_init_12 : decode cX8_init 12 = .ok (.putfield 12, 3) := by decide +kernel
theorem dX8_init_15 : decode cX8_init 15 = .ok (.aload_n 0, 1) := by decide +kernel
theorem dX8_init_16 : decode cX8_init 16 = .ok (.bipush 8, 2) := by decide +kernel
theorem dX8_init_18 : decode cX8_init 18 = .ok (.anewarray 16, 3) := by decide +kernel
theorem dX8_init_21 : decode cX8_init 21 = .ok (.putfield 18, 3) := by decide +kernel
theorem dX8_init_24 : decode cX8_init 24 = .ok (.aload_n 0, 1) := by decide +kernel
theorem dX8_init_25 : decode cX8_init 25 = .ok (.iconst 4, 1) := by decide +kernel
theorem dX8_init_26 : decode cX8_init 26 = .ok (.anewarray 22, 3) := by decide +kernel
theorem dX8_init_29 : decode cX8_init 29 = .ok (.putfield 24, 3) := by decide +kernel
theorem dX8_init_32 : decode cX8_init 32 = .ok (.aload_n 0, 1) := by decide +kernel
theorem dX8_init_33 : decode cX8_init 33 = .ok (.bipush 8, 2) := by decide +kernel
theorem dX8_init_35 : decode cX8_init 35 = .ok (.newarray .int, 2) := by decide +kernel
theorem dX8_init_37 : decode cX8_init 37 = .ok (.putfield 28, 3) := by decide +kernel
theorem dX8_init_40 : decode cX8_init 40 = .ok (.aload_n 0, 1) := by decide +kernel
theorem dX8_init_41 : decode cX8_init 41 = .ok (.bipush 20, 2) := by decide +kernel
theorem dX8_init_43 : decode cX8_init 43 = .ok (.anewarray 32, 3) := by decide +kernel
theorem dX8_init_46 : decode cX8_init 46 = .ok (.putfield 34, 3) := by decide +kernel
theorem dX8_init_49 : decode cX8_init 49 = .ok (.aload_n 0, 1) := by decide +kernel
theorem dX8_init_50 : decode cX8_init 50 = .ok (.new 38, 3) := by decide +kernel
theorem dX8_init_53 : decode cX8_init 53 = .ok (.dup, 1) := by decide +kernel
theorem dX8_init_54 : decode cX8_init 54 = .ok (.invokespecial 40, 3) := by decide +kernel
theorem dX8_init_57 : decode cX8_init 57 = .ok (.putfield 41, 3) := by decide +kernel
theorem dX8_init_60 : decode cX8_init 60 = .ok (.aload_n 0, 1) := by decide +kernel
theorem dX8_init_61 : decode cX8_init 61 = .ok (.new 45, 3) := by decide +kernel
theorem dX8_init_64 : decode cX8_init 64 = .ok (.dup, 1) := by decide +kernel
theorem dX8_init_65 : decode cX8_init 65 = .ok (.invokespecial 47, 3) := by decide +kernel
theorem dX8_init_68 : decode cX8_init 68 = .ok (.putfield 48, 3) := by decide +kernel
theorem dX8_init_71 : decode cX8_init 71 = .ok (.aload_n 0, 1) := by decide +kernel
theorem dX8_init_72 : decode cX8_init 72 = .ok (.new 52, 3) := by decide +kernel
theorem dX8_init_75 : decode cX8_init 75 = .ok (.dup, 1) := by decide +kernel
theorem dX8_init_76 : decode cX8_init 76 = .ok (.invokespecial 54, 3) := by decide +kernel
theorem dX8_init_79 : decode cX8_init 79 = .ok (.putfield 55, 3) := by decide +kernel
theorem dX8_init_82 : decode cX8_init 82 = .ok (.iconst 0, 1) := by decide +kernel
theorem dX8_init_83 : decode cX8_init 83 = .ok (.istore_n 1, 1) := by decide +kernel
theorem dX8_init_84 : decode cX8_init 84 = .ok (.iload_n 1, 1) := by decide +kernel
theorem dX8_init_85 : decode cX8_init 85 = .ok (.bipush 8, 2) := by decide +kernel
theorem dX8_init_87 : decode cX8_init 87 = .ok (.if_icmp .ge 22, 3) := by decide +kernel
theorem dX8_init_90 : decode cX8_init 90 = .ok (.aload_n 0, 1) := by decide +kernel
theorem dX8_init_91 : decode cX8_init 91 = .ok (.getfield 18, 3) := by decide +kernel
theorem dX8_init_94 : decode cX8_init 94 = .ok (.iload_n 1, 1) := by decide +kernel
theorem dX8_init_95 : decode cX8_init 95 = .ok (.new 16, 3) := by decide +kernel
theorem dX8_init_98 : decode cX8_init 98 = .ok (.dup, 1) := by decide +kernel
theorem dX8_init_99 : decode cX8_init 99 = .ok (.invokespecial 59, 3) := by decide +kernel
theorem dX8_init_102 : decode cX8_init 102 = .ok (.aastore, 1) := by decide +kernel
theorem dX8_init_103 : decode cX8_init 103 = .ok (.iinc 1 1, 3) := by decide +kernel
theorem dX8_init_106 : decode cX8_init 106 = .ok (.goto (-22), 3) := by decide +kernel
theorem dX8_init_109 : decode cX8_init 109 = .ok (.iconst 0, 1) := by decide +kernel
theorem dX8_init_110 : decode cX8_init 110 = .ok (.istore_n 1, 1) := by decide +kernel
theorem dX8_init_111 : decode cX8_init 111 = .ok (.iload_n 1, 1) := by decide +kernel
theorem dX8_init_112 : decode cX8_init 112 = .ok (.iconst 4, 1) := by decide +kernel
theorem dX8_init_113 : decode cX8_init 113 = .ok (.if_icmp .ge 22, 3) := by decide +kernel
theorem dX8_init_116 : decode cX8_init 116 = .ok (.aload_n 0, 1) := by decide +kernel
theorem dX8_init_117 : decode cX8_init 117 = .ok (.getfield 24, 3) := by decide +kernel
theorem dX8_init_120 : decode cX8_init 120 = .ok (.iload_n 1, 1) := by decide +kernel
theorem dX8_init_121 : decode cX8_init 121 = .ok (.new 22, 3) := by decide +kernel
theorem dX8_init_124 : decode cX8_init 124 = .ok (.dup, 1) := by decide +kernel
theorem dX8_init_125 : decode cX8_init 125 = .ok (.invokespecial 60, 3) := by decide +kernel
theorem dX8_init_128 : decode cX8_init 128 = .ok (.aastore, 1) := by decide +kernel
theorem dX8_init_129 : decode cX8_init 129 = .ok (.iinc 1 1, 3) := by decide +kernel
theorem dX8_init_132 : decode cX8_init 132 = .ok (.goto (-21), 3) := by decide +kernel
theorem dX8_init_135 : decode cX8_init 135 = .ok (.iconst 0, 1) := by decide +kernel
theorem dX8_init_136 : decode cX8_init 136 = .ok (.istore_n 1, 1) := by decide +kernel
theorem dX8_init_137 : decode cX8_init 137 = .ok (.iload_n 1, 1) := by decide +kernel
theorem dX8_init_138 : decode cX8_init 138 = .ok (.bipush 20, 2) := by decide +kernel
theorem dX8_init_140 : decode cX8_init 140 = .ok (.if_icmp .ge 22, 3) := by decide +kernel
theorem dX8_init_143 : decode cX8_init 143 = .ok (.aload_n 0, 1) := by decide +kernel
theorem dX8_init_144 : decode cX8_init 144 = .ok (.getfield 34, 3) := by decide +kernel
theorem dX8_init_147 : decode cX8_init 147 = .ok (.iload_n 1, 1) := by decide +kernel
theorem dX8_init_148 : decode cX8_init 148 = .ok (.new 32, 3) := by decide +kernel
theorem dX8_init_151 : decode cX8_init 151 = .ok (.dup, 1) := by decide +kernel
theorem dX8_init_152 : decode cX8_init 152 = .ok (.invokespecial 61, 3) := by decide +kernel
theorem dX8_init_155 : decode cX8_init 155 = .ok (.aastore, 1) := by decide +kernel
theorem dX8_init_156 : decode cX8_init 156 = .ok (.iinc 1 1, 3) := by decide +kernel
theorem dX8_init_159 : decode cX8_init 159 = .ok (.goto (-22), 3) := by decide +kernel
theorem dX8_init_162 : decode cX8_init 162 = .ok (.return_, 1) := by decide +kernel
theorem dX8_face_0 : decode cX8_face 0 = .ok (.iload_n 1, 1) := by decide +kernel
theorem dX8_face_1 : decode cX8_face 1 = .ok (.bipush 10, 2) := by decide +kernel
theorem dX8_face_3 : decode cX8_face 3 = .ok (.sipush 200, 3) := by decide +kernel
theorem dX8_face_6 : decode cX8_face 6 = .ok (.invokestatic 62, 3) := by decide +kernel
theorem dX8_face_9 : decode cX8_face 9 = .ok (.ifCond .ne 12, 3) := by decide +kernel
theorem dX8_face_12 : decode cX8_face 12 = .ok (.iload_n 2, 1) := by decide +kernel
theorem dX8_face_13 : decode cX8_face 13 = .ok (.iconst 0, 1) := by decide +kernel
theorem dX8_face_14 : decode cX8_face 14 = .ok (.iconst 1, 1) := by decide +kernel
theorem dX8_face_15 : decode cX8_face 15 = .ok (.invokestatic 62, 3) := by decide +kernel
theorem dX8_face_18 : decode cX8_face 18 = .ok (.ifCond .eq 13, 3) := by decide +kernel
theorem dX8_face_21 : decode cX8_face 21 = .ok (.new 66, 3) := by decide +kernel
theorem dX8_face_24 : decode cX8_face 24 = .ok (.dup, 1) := by decide +kernel
theorem dX8_face_25 : decode cX8_face 25 = .ok (.ldc 68, 2) := by decide +kernel
theorem dX8_face_27 : decode cX8_face 27 = .ok (.invokespecial 70, 3) := by decide +kernel
theorem dX8_face_30 : decode cX8_face 30 = .ok (.athrow, 1) := by decide +kernel
theorem dX8_face_31 : decode cX8_face 31 = .ok (.aload_n 0, 1) := by decide +kernel
theorem dX8_face_32 : decode cX8_face 32 = .ok (.getfield 12, 3) := by decide +kernel
theorem dX8_face_35 : decode cX8_face 35 = .ok (.getfield 73, 3) := by decide +kernel
theorem dX8_face_38 : decode cX8_face 38 = .ok (.bipush 6, 2) := by decide +kernel
theorem dX8_face_40 : decode cX8_face 40 = .ok (.if_icmp .lt 13, 3) := by decide +kernel
theorem dX8_face_43 : decode cX8_face 43 = .ok (.new 77, 3) := by decide +kernel
theorem dX8_face_46 : decode cX8_face 46 = .ok (.dup, 1) := by decide +kernel
theorem dX8_face_47 : decode cX8_face 47 = .ok (.ldc 79, 2) := by decide +kernel
theorem dX8_face_49 : decode cX8_face 49 = .ok (.invokespecial 81, 3) := by decide +kernel
theorem dX8_face_52 : decode cX8_face 52 = .ok (.athrow, 1) := by decide +kernel
theorem dX8_face_53 : decode cX8_face 53 = .ok (.aload_n 0, 1) := by decide +kernel
theorem dX8_face_54 : decode cX8_face 54 = .ok (.getfield 12, 3) := by decide +kernel
theorem dX8_face_57 : decode cX8_face 57 = .ok (.getfield 82, 3) := by decide +kernel
theorem dX8_face_60 : decode cX8_face 60 = .ok (.aload_n 0, 1) := by decide +kernel
theorem dX8_face_61 : decode cX8_face 61 = .ok (.getfield 12, 3) := by decide +kernel
theorem dX8_face_64 : decode cX8_face 64 = .ok (.getfield 73, 3) := by decide +kernel
theorem dX8_face_67 : decode cX8_face 67 = .ok (.iload_n 1, 1) := by decide +kernel
theorem dX8_face_68 : decode cX8_face 68 = .ok (.iastore, 1) := by decide +kernel
theorem dX8_face_69 : decode cX8_face 69 = .ok (.aload_n 0, 1) := by decide +kernel
theorem dX8_face_70 : decode cX8_face 70 = .ok (.getfield 12, 3) := by decide +kernel
theorem dX8_face_73 : decode cX8_face 73 = .ok (.getfield 85, 3) := by decide +kernel
theorem dX8_face_76 : decode cX8_face 76 = .ok (.aload_n 0, 1) := by decide +kernel
theorem dX8_face_77 : decode cX8_face 77 = .ok (.getfield 12, 3) := by decide +kernel
theorem dX8_face_80 : decode cX8_face 80 = .ok (.getfield 73, 3) := by decide +kernel
theorem dX8_face_83 : decode cX8_face 83 = .ok (.iload_n 2, 1) := by decide +kernel
theorem dX8_face_84 : decode cX8_face 84 = .ok (.iastore, 1) := by decide +kernel
theorem dX8_face_85 : decode cX8_face 85 = .ok (.aload_n 0, 1) := by decide +kernel
theorem dX8_face_86 : decode cX8_face 86 = .ok (.getfield 12, 3) := by decide +kernel
theorem dX8_face_89 : decode cX8_face 89 = .ok (.dup, 1) := by decide +kernel
theorem dX8_face_90 : decode cX8_face 90 = .ok (.getfield 73, 3) := by decide +kernel
theorem dX8_face_93 : decode cX8_face 93 = .ok (.iconst 1, 1) := by decide +kernel
theorem dX8_face_94 : decode cX8_face 94 = .ok (.iadd, 1) := by decide +kernel
theorem dX8_face_95 : decode cX8_face 95 = .ok (.putfield 73, 3) := by decide +kernel
theorem dX8_face_98 : decode cX8_face 98 = .ok (.aload_n 0, 1) := by decide +kernel
theorem dX8_face_99 : decode cX8_face 99 = .ok (.getfield 12, 3) := by decide +kernel
theorem dX8_face_102 : decode cX8_face 102 = .ok (.getfield 73, 3) := by decide +kernel
theorem dX8_face_105 : decode cX8_face 105 = .ok (.ireturn, 1) := by decide +kernel
theorem dX8_wipe_0 : decode cX8_wipe 0 = .ok (.aload_n 0, 1) := by decide +kernel
theorem dX8_wipe_1 : decode cX8_wipe 1 = .ok (.getfield 12, 3) := by decide +kernel
theorem dX8_wipe_4 : decode cX8_wipe 4 = .ok (.getfield 73, 3) := by decide +kernel
theorem dX8_wipe_7 : decode cX8_wipe 7 = .ok (.istore_n 1, 1) := by decide +kernel
theorem dX8_wipe_8 : decode cX8_wipe 8 = .ok (.aload_n 0, 1) := by decide +kernel
theorem dX8_wipe_9 : decode cX8_wipe 9 = .ok (.getfield 12, 3) := by decide +kernel
theorem dX8_wipe_12 : decode cX8_wipe 12 = .ok (.iconst 0, 1) := by decide +kernel
theorem dX8_wipe_13 : decode cX8_wipe 13 = .ok (.putfield 73, 3) := by decide +kernel
theorem dX8_wipe_16 : decode cX8_wipe 16 = .ok (.iload_n 1, 1) := by decide +kernel
theorem dX8_wipe_17 : decode cX8_wipe 17 = .ok (.ireturn, 1) := by decide +kernel
theorem dX8_part_0 : decode cX8_part 0 = .ok (.iload_n 1, 1) := by decide +kernel
theorem dX8_part_1 : decode cX8_part 1 = .ok (.iload_n 2, 1) := by decide +kernel
theorem dX8_part_2 : decode cX8_part 2 = .ok (.invokestatic 88, 3) := by decide +kernel
theorem dX8_part_5 : decode cX8_part 5 = .ok (.aload_n 0, 1) := by decide +kernel
theorem dX8_part_6 : decode cX8_part 6 = .ok (.invokevirtual 92, 3) := by decide +kernel
theorem dX8_part_9 : decode cX8_part 9 = .ok (.aload_n 0, 1) := by decide +kernel
theorem dX8_part_10 : decode cX8_part 10 = .ok (.getfield 95, 3) := by decide +kernel
theorem dX8_part_13 : decode cX8_part 13 = .ok (.bipush 8, 2) := by decide +kernel
theorem dX8_part_15 : decode cX8_part 15 = .ok (.if_icmp .lt 13, 3) := by decide +kernel
theorem dX8_part_18 : decode cX8_part 18 = .ok (.new 77, 3) := by decide +kernel
theorem dX8_part_21 : decode cX8_part 21 = .ok (.dup, 1) := by decide +kernel
theorem dX8_part_22 : decode cX8_part 22 = .ok (.ldc 98, 2) := by decide +kernel
theorem dX8_part_24 : decode cX8_part 24 = .ok (.invokespecial 81, 3) := by decide +kernel
theorem dX8_part_27 : decode cX8_part 27 = .ok (.athrow, 1) := by decide +kernel
theorem dX8_part_28 : decode cX8_part 28 = .ok (.aload_n 0, 1) := by decide +kernel
theorem dX8_part_29 : decode cX8_part 29 = .ok (.getfield 18, 3) := by decide +kernel
theorem dX8_part_32 : decode cX8_part 32 = .ok (.aload_n 0, 1) := by decide +kernel
theorem dX8_part_33 : decode cX8_part 33 = .ok (.getfield 95, 3) := by decide +kernel
theorem dX8_part_36 : decode cX8_part 36 = .ok (.aaload, 1) := by decide +kernel
theorem dX8_part_37 : decode cX8_part 37 = .ok (.aload_n 0, 1) := by decide +kernel
theorem dX8_part_38 : decode cX8_part 38 = .ok (.getfield 12, 3) := by decide +kernel
theorem dX8_part_41 : decode cX8_part 41 = .ok (.iload_n 1, 1) := by decide +kernel
theorem dX8_part_42 : decode cX8_part 42 = .ok (.iload_n 2, 1) := by decide +kernel
theorem dX8_part_43 : decode cX8_part 43 = .ok (.invokevirtual 100, 3) := by decide +kernel
theorem dX8_part_46 : decode cX8_part 46 = .ok (.aload_n 0, 1) := by decide +kernel
theorem dX8_part_47 : decode cX8_part 47 = .ok (.getfield 12, 3) := by decide +kernel
theorem dX8_part_50 : decode cX8_part 50 = .ok (.iconst 0, 1) := by decide +kernel
theorem dX8_part_51 : decode cX8_part 51 = .ok (.putfield 73, 3) := by decide +kernel
theorem dX8_part_54 : decode cX8_part 54 = .ok (.aload_n 0, 1) := by decide +kernel
theorem dX8_part_55 : decode cX8_part 55 = .ok (.dup, 1) := by decide +kernel
theorem dX8_part_56 : decode cX8_part 56 = .ok (.getfield 95, 3) := by decide +kernel
theorem dX8_part_59 : decode cX8_part 59 = .ok (.iconst 1, 1) := by decide +kernel
theorem dX8_part_60 : decode cX8_part 60 = .ok (.iadd, 1) := by decide +kernel
theorem dX8_part_61 : decode cX8_part 61 = .ok (.putfield 95, 3) := by decide +kernel
theorem dX8_part_64 : decode cX8_part 64 = .ok (.aload_n 0, 1) := by decide +kernel
theorem dX8_part_65 : decode cX8_part 65 = .ok (.getfield 95, 3) := by decide +kernel
theorem dX8_part_68 : decode cX8_part 68 = .ok (.iconst 1, 1) := by decide +kernel
theorem dX8_part_69 : decode cX8_part 69 = .ok (.isub, 1) := by decide +kernel
theorem dX8_part_70 : decode cX8_part 70 = .ok (.ireturn, 1) := by decide +kernel
theorem dX8_redraw_0 : decode cX8_redraw 0 = .ok (.aload_n 0, 1) := by decide +kernel
theorem dX8_redraw_1 : decode cX8_redraw 1 = .ok (.iload_n 1, 1) := by decide +kernel
theorem dX8_redraw_2 : decode cX8_redraw 2 = .ok (.invokevirtual 104, 3) := by decide +kernel
theorem dX8_redraw_5 : decode cX8_redraw 5 = .ok (.astore 4, 2) := by decide +kernel
theorem dX8_redraw_7 : decode cX8_redraw 7 = .ok (.iload_n 2, 1) := by decide +kernel
theorem dX8_redraw_8 : decode cX8_redraw 8 = .ok (.iload_n 3, 1) := by decide +kernel
theorem dX8_redraw_9 : decode cX8_redraw 9 = .ok (.invokestatic 88, 3) := by decide +kernel
theorem dX8_redraw_12 : decode cX8_redraw 12 = .ok (.aload_n 0, 1) := by decide +kernel
theorem dX8_redraw_13 : decode cX8_redraw 13 = .ok (.invokevirtual 92, 3) := by decide +kernel
theorem dX8_redraw_16 : decode cX8_redraw 16 = .ok (.aload 4, 2) := by decide +kernel
theorem dX8_redraw_18 : decode cX8_redraw 18 = .ok (.getfield 108, 3) := by decide +kernel
theorem dX8_redraw_21 : decode cX8_redraw 21 = .ok (.ifCond .le 7, 3) := by decide +kernel
theorem dX8_redraw_24 : decode cX8_redraw 24 = .ok (.iconst 1, 1) := by decide +kernel
theorem dX8_redraw_25 : decode cX8_redraw 25 = .ok (.goto 4, 3) := by decide +kernel
theorem dX8_redraw_28 : decode cX8_redraw 28 = .ok (.iconst 0, 1) := by decide +kernel
theorem dX8_redraw_29 : decode cX8_redraw 29 = .ok (.istore 5, 2) := by decide +kernel
theorem dX8_redraw_31 : decode cX8_redraw 31 = .ok (.aload 4, 2) := by decide +kernel
theorem dX8_redraw_33 : decode cX8_redraw 33 = .ok (.getfield 111, 3) := by decide +kernel
theorem dX8_redraw_36 : decode cX8_redraw 36 = .ok (.iload_n 2, 1) := by decide +kernel
theorem dX8_redraw_37 : decode cX8_redraw 37 = .ok (.if_icmp .ne 16, 3) := by decide +kernel
theorem dX8_redraw_40 : decode cX8_redraw 40 = .ok (.aload 4, 2) := by decide +kernel
theorem dX8_redraw_42 : decode cX8_redraw 42 = .ok (.getfield 114, 3) := by decide +kernel
theorem dX8_redraw_45 : decode cX8_redraw 45 = .ok (.iload_n 3, 1) := by decide +kernel
theorem dX8_redraw_46 : decode cX8_redraw 46 = .ok (.if_icmp .ne 7, 3) := by decide +kernel
theorem dX8_redraw_49 : decode cX8_redraw 49 = .ok (.iconst 1, 1) := by decide +kernel
theorem dX8_redraw_50 : decode cX8_redraw 50 = .ok (.goto 4, 3) := by decide +kernel
theorem dX8_redraw_53 : decode cX8_redraw 53 = .ok (.iconst 0, 1) := by decide +kernel
theorem dX8_redraw_54 : decode cX8_redraw 54 = .ok (.istore 6, 2) := by decide +kernel
theorem dX8_redraw_56 : decode cX8_redraw 56 = .ok (.aload 4, 2) := by decide +kernel
theorem dX8_redraw_58 : decode cX8_redraw 58 = .ok (.getfield 117, 3) := by decide +kernel
theorem dX8_redraw_61 : decode cX8_redraw 61 = .ok (.aload_n 0, 1) := by decide +kernel
theorem dX8_redraw_62 : decode cX8_redraw 62 = .ok (.getfield 12, 3) := by decide +kernel
theorem dX8_redraw_65 : decode cX8_redraw 65 = .ok (.invokevirtual 120, 3) := by decide +kernel
theorem dX8_redraw_68 : decode cX8_redraw 68 = .ok (.istore 7, 2) := by decide +kernel
theorem dX8_redraw_70 : decode cX8_redraw 70 = .ok (.aload 4, 2) := by decide +kernel
theorem dX8_redraw_72 : decode cX8_redraw 72 = .ok (.aload_n 0, 1) := by decide +kernel
theorem dX8_redraw_73 : decode cX8_redraw 73 = .ok (.getfield 12, 3) := by decide +kernel
theorem dX8_redraw_76 : decode cX8_redraw 76 = .ok (.iload_n 2, 1) := by decide +kernel
theorem dX8_redraw_77 : decode cX8_redraw 77 = .ok (.iload_n 3, 1) := by decide +kernel
theorem dX8_redraw_78 : decode cX8_redraw 78 = .ok (.invokevirtual 100, 3) := by decide +kernel
theorem dX8_redraw_81 : decode cX8_redraw 81 = .ok (.aload 4, 2) := by decide +kernel
theorem dX8_redraw_83 : decode cX8_redraw 83 = .ok (.dup, 1) := by decide +kernel
theorem dX8_redraw_84 : decode cX8_redraw 84 = .ok (.getfield 124, 3) := by decide +kernel
theorem dX8_redraw_87 : decode cX8_redraw 87 = .ok (.iconst 1, 1) := by decide +kernel
theorem dX8_redraw_88 : decode cX8_redraw 88 = .ok (.iadd, 1) := by decide +kernel
theorem dX8_redraw_89 : decode cX8_redraw 89 = .ok (.putfield 124, 3) := by decide +kernel
theorem dX8_redraw_92 : decode cX8_redraw 92 = .ok (.aload_n 0, 1) := by decide +kernel
theorem dX8_redraw_93 : decode cX8_redraw 93 = .ok (.getfield 12, 3) := by decide +kernel
theorem dX8_redraw_96 : decode cX8_redraw 96 = .ok (.iconst 0, 1) := by decide +kernel
theorem dX8_redraw_97 : decode cX8_redraw 97 = .ok (.putfield 73, 3) := by decide +kernel
theorem dX8_redraw_100 : decode cX8_redraw 100 = .ok (.aload_n 0, 1) := by decide +kernel
theorem dX8_redraw_101 : decode cX8_redraw 101 = .ok (.iload_n 1, 1) := by decide +kernel
theorem dX8_redraw_102 : decode cX8_redraw 102 = .ok (.iload 6, 2) := by decide +kernel
theorem dX8_redraw_104 : decode cX8_redraw 104 = .ok (.ifCond .eq 12, 3) := by decide +kernel
theorem dX8_redraw_107 : decode cX8_redraw 107 = .ok (.iload 5, 2) := by decide +kernel
theorem dX8_redraw_109 : decode cX8_redraw 109 = .ok (.ifCond .ne 7, 3) := by decide +kernel
theorem dX8_redraw_112 : decode cX8_redraw 112 = .ok (.iconst 1, 1) := by decide +kernel
theorem dX8_redraw_113 : decode cX8_redraw 113 = .ok (.goto 4, 3) := by decide +kernel
theorem dX8_redraw_116 : decode cX8_redraw 116 = .ok (.iconst 0, 1) := by decide +kernel
theorem dX8_redraw_117 : decode cX8_redraw 117 = .ok (.iload 7, 2) := by decide +kernel
theorem dX8_redraw_119 : decode cX8_redraw 119 = .ok (.invokevirtual 127, 3) := by decide +kernel
theorem dX8_redraw_122 : decode cX8_redraw 122 = .ok (.ireturn, 1) := by decide +kernel
theorem dX8_hole_0 : decode cX8_hole 0 = .ok (.aload_n 0, 1) := by decide +kernel
theorem dX8_hole_1 : decode cX8_hole 1 = .ok (.iload_n 1, 1) := by decide +kernel
theorem dX8_hole_2 : decode cX8_hole 2 = .ok (.invokevirtual 104, 3) := by decide +kernel
theorem dX8_hole_5 : decode cX8_hole 5 = .ok (.astore 5, 2) := by decide +kernel
theorem dX8_hole_7 : decode cX8_hole 7 = .ok (.iload_n 2, 1) := by decide +kernel
theorem dX8_hole_8 : decode cX8_hole 8 = .ok (.iconst 0, 1) := by decide +kernel
theorem dX8_hole_9 : decode cX8_hole 9 = .ok (.aload 5, 2) := by decide +kernel
theorem dX8_hole_11 : decode cX8_hole 11 = .ok (.getfield 117, 3) := by decide +kernel
theorem dX8_hole_14 : decode cX8_hole 14 = .ok (.getfield 73, 3) := by decide +kernel
theorem dX8_hole_17 : decode cX8_hole 17 = .ok (.iconst 1, 1) := by decide +kernel
theorem dX8_hole_18 : decode cX8_hole 18 = .ok (.isub, 1) := by decide +kernel
theorem dX8_hole_19 : decode cX8_hole 19 = .ok (.invokestatic 62, 3) := by decide +kernel
theorem dX8_hole_22 : decode cX8_hole 22 = .ok (.ifCond .eq 13, 3) := by decide +kernel
theorem dX8_hole_25 : decode cX8_hole 25 = .ok (.new 131, 3) := by decide +kernel
theorem dX8_hole_28 : decode cX8_hole 28 = .ok (.dup, 1) := by decide +kernel
theorem dX8_hole_29 : decode cX8_hole 29 = .ok (.ldc 133, 2) := by decide +kernel
theorem dX8_hole_31 : decode cX8_hole 31 = .ok (.invokespecial 135, 3) := by decide +kernel
theorem dX8_hole_34 : decode cX8_hole 34 = .ok (.athrow, 1) := by decide +kernel
theorem dX8_hole_35 : decode cX8_hole 35 = .ok (.iload_n 3, 1) := by decide +kernel
theorem dX8_hole_36 : decode cX8_hole 36 = .ok (.iconst 1, 1) := by decide +kernel
theorem dX8_hole_37 : decode cX8_hole 37 = .ok (.aload 5, 2) := by decide +kernel
theorem dX8_hole_39 : decode cX8_hole 39 = .ok (.getfield 117, 3) := by decide +kernel
theorem dX8_hole_42 : decode cX8_hole 42 = .ok (.getfield 82, 3) := by decide +kernel
theorem dX8_hole_45 : decode cX8_hole 45 = .ok (.iload_n 2, 1) := by decide +kernel
theorem dX8_hole_46 : decode cX8_hole 46 = .ok (.iaload, 1) := by decide +kernel
theorem dX8_hole_47 : decode cX8_hole 47 = .ok (.iconst 1, 1) := by decide +kernel
theorem dX8_hole_48 : decode cX8_hole 48 = .ok (.isub, 1) := by decide +kernel
theorem dX8_hole_49 : decode cX8_hole 49 = .ok (.invokestatic 62, 3) := by decide +kernel
theorem dX8_hole_52 : decode cX8_hole 52 = .ok (.ifCond .ne 14, 3) := by decide +kernel
theorem dX8_hole_55 : decode cX8_hole 55 = .ok (.iload 4, 2) := by decide +kernel
theorem dX8_hole_57 : decode cX8_hole 57 = .ok (.iconst 1, 1) := by decide +kernel
theorem dX8_hole_58 : decode cX8_hole 58 = .ok (.bipush 20, 2) := by decide +kernel
theorem dX8_hole_60 : decode cX8_hole 60 = .ok (.invokestatic 62, 3) := by decide +kernel
theorem dX8_hole_63 : decode cX8_hole 63 = .ok (.ifCond .eq 13, 3) := by decide +kernel
theorem dX8_hole_66 : decode cX8_hole 66 = .ok (.new 66, 3) := by decide +kernel
theorem dX8_hole_69 : decode cX8_hole 69 = .ok (.dup, 1) := by decide +kernel
theorem dX8_hole_70 : decode cX8_hole 70 = .ok (.ldc 136, 2) := by decide +kernel
theorem dX8_hole_72 : decode cX8_hole 72 = .ok (.invokespecial 70, 3) := by decide +kernel
theorem dX8_hole_75 : decode cX8_hole 75 = .ok (.athrow, 1) := by decide +kernel
theorem dX8_hole_76 : decode cX8_hole 76 = .ok (.aload 5, 2) := by decide +kernel
theorem dX8_hole_78 : decode cX8_hole 78 = .ok (.getfield 108, 3) := by decide +kernel
theorem dX8_hole_81 : decode cX8_hole 81 = .ok (.bipush 6, 2) := by decide +kernel
theorem dX8_hole_83 : decode cX8_hole 83 = .ok (.if_icmp .ge 11, 3) := by decide +kernel
theorem dX8_hole_86 : decode cX8_hole 86 = .ok (.aload_n 0, 1) := by decide +kernel
theorem dX8_hole_87 : decode cX8_hole 87 = .ok (.iload_n 1, 1) := by decide +kernel
theorem dX8_hole_88 : decode cX8_hole 88 = .ok (.invokevirtual 138, 3) := by decide +kernel
theorem dX8_hole_91 : decode cX8_hole 91 = .ok (.ifCond .eq 13, 3) := by decide +kernel
theorem dX8_hole_94 : decode cX8_hole 94 = .ok (.new 77, 3) := by decide +kernel
theorem dX8_hole_97 : decode cX8_hole 97 = .ok (.dup, 1) := by decide +kernel
theorem dX8_hole_98 : decode cX8_hole 98 = .ok (.ldc 142, 2) := by decide +kernel
theorem dX8_hole_100 : decode cX8_hole 100 = .ok (.invokespecial 81, 3) := by decide +kernel
theorem dX8_hole_103 : decode cX8_hole 103 = .ok (.athrow, 1) := by decide +kernel
theorem dX8_hole_104 : decode cX8_hole 104 = .ok (.aload 5, 2) := by decide +kernel
theorem dX8_hole_106 : decode cX8_hole 106 = .ok (.getfield 144, 3) := by decide +kernel
theorem dX8_hole_109 : decode cX8_hole 109 = .ok (.aload 5, 2) := by decide +kernel
theorem dX8_hole_111 : decode cX8_hole 111 = .ok (.getfield 108, 3) := by decide +kernel
theorem dX8_hole_114 : decode cX8_hole 114 = .ok (.iload_n 2, 1) := by decide +kernel
theorem dX8_hole_115 : decode cX8_hole 115 = .ok (.iastore, 1) := by decide +kernel
theorem dX8_hole_116 : decode cX8_hole 116 = .ok (.aload 5, 2) := by decide +kernel
theorem dX8_hole_118 : decode cX8_hole 118 = .ok (.getfield 147, 3) := by decide +kernel
theorem dX8_hole_121 : decode cX8_hole 121 = .ok (.aload 5, 2) := by decide +kernel
theorem dX8_hole_123 : decode cX8_hole 123 = .ok (.getfield 108, 3) := by decide +kernel
theorem dX8_hole_126 : decode cX8_hole 126 = .ok (.iload_n 3, 1) := by decide +kernel
theorem dX8_hole_127 : decode cX8_hole 127 = .ok (.iastore, 1) := by decide +kernel
theorem dX8_hole_128 : decode cX8_hole 128 = .ok (.aload 5, 2) := by decide +kernel
theorem dX8_hole_130 : decode cX8_hole 130 = .ok (.getfield 150, 3) := by decide +kernel
theorem dX8_hole_133 : decode cX8_hole 133 = .ok (.aload 5, 2) := by decide +kernel
theorem dX8_hole_135 : decode cX8_hole 135 = .ok (.getfield 108, 3) := by decide +kernel
theorem dX8_hole_138 : decode cX8_hole 138 = .ok (.iload 4, 2) := by decide +kernel
theorem dX8_hole_140 : decode cX8_hole 140 = .ok (.iastore, 1) := by decide +kernel
theorem dX8_hole_141 : decode cX8_hole 141 = .ok (.aload 5, 2) := by decide +kernel
theorem dX8_hole_143 : decode cX8_hole 143 = .ok (.dup, 1) := by decide +kernel
theorem dX8_hole_144 : decode cX8_hole 144 = .ok (.getfield 108, 3) := by decide +kernel
theorem dX8_hole_147 : decode cX8_hole 147 = .ok (.iconst 1, 1) := by decide +kernel
theorem dX8_hole_148 : decode cX8_hole 148 = .ok (.iadd, 1) := by decide +kernel
theorem dX8_hole_149 : decode cX8_hole 149 = .ok (.putfield 108, 3) := by decide +kernel
theorem dX8_hole_152 : decode cX8_hole 152 = .ok (.aload 5, 2) := by decide +kernel
theorem dX8_hole_154 : decode cX8_hole 154 = .ok (.getfield 108, 3) := by decide +kernel
theorem dX8_hole_157 : decode cX8_hole 157 = .ok (.iconst 1, 1) := by decide +kernel
theorem dX8_hole_158 : decode cX8_hole 158 = .ok (.isub, 1) := by decide +kernel
theorem dX8_hole_159 : decode cX8_hole 159 = .ok (.ireturn, 1) := by decide +kernel
theorem dX8_isNear_0 : decode cX8_isNear 0 = .ok (.aload_n 0, 1) := by decide +kernel
theorem dX8_isNear_1 : decode cX8_isNear 1 = .ok (.iload_n 1, 1) := by decide +kernel
theorem dX8_isNear_2 : decode cX8_isNear 2 = .ok (.invokevirtual 104, 3) := by decide +kernel
theorem dX8_isNear_5 : decode cX8_isNear 5 = .ok (.astore_n 3, 1) := by decide +kernel
theorem dX8_isNear_6 : decode cX8_isNear 6 = .ok (.iload_n 2, 1) := by decide +kernel
theorem dX8_isNear_7 : decode cX8_isNear 7 = .ok (.iconst 0, 1) := by decide +kernel
theorem dX8_isNear_8 : decode cX8_isNear 8 = .ok (.aload_n 3, 1) := by decide +kernel
theorem dX8_isNear_9 : decode cX8_isNear 9 = .ok (.getfield 108, 3) := by decide +kernel
theorem dX8_isNear_12 : decode cX8_isNear 12 = .ok (.iconst 1, 1) := by decide +kernel
theorem dX8_isNear_13 : decode cX8_isNear 13 = .ok (.isub, 1) := by decide +kernel
theorem dX8_isNear_14 : decode cX8_isNear 14 = .ok (.invokestatic 62, 3) := by decide +kernel
theorem dX8_isNear_17 : decode cX8_isNear 17 = .ok (.ifCond .eq 13, 3) := by decide +kernel
theorem dX8_isNear_20 : decode cX8_isNear 20 = .ok (.new 131, 3) := by decide +kernel
theorem dX8_isNear_23 : decode cX8_isNear 23 = .ok (.dup, 1) := by decide +kernel
theorem dX8_isNear_24 : decode cX8_isNear 24 = .ok (.ldc 153, 2) := by decide +kernel
theorem dX8_isNear_26 : decode cX8_isNear 26 = .ok (.invokespecial 135, 3) := by decide +kernel
theorem dX8_isNear_29 : decode cX8_isNear 29 = .ok (.athrow, 1) := by decide +kernel
theorem dX8_isNear_30 : decode cX8_isNear 30 = .ok (.aload_n 3, 1) := by decide +kernel
theorem dX8_isNear_31 : decode cX8_isNear 31 = .ok (.iload_n 2, 1) := by decide +kernel
theorem dX8_isNear_32 : decode cX8_isNear 32 = .ok (.invokevirtual 155, 3) := by decide +kernel
theorem dX8_isNear_35 : decode cX8_isNear 35 = .ok (.ireturn, 1) := by decide +kernel
theorem dX8_told_0 : decode cX8_told 0 = .ok (.aload_n 0, 1) := by decide +kernel
theorem dX8_told_1 : decode cX8_told 1 = .ok (.iload_n 1, 1) := by decide +kernel
theorem dX8_told_2 : decode cX8_told 2 = .ok (.invokevirtual 104, 3) := by decide +kernel
theorem dX8_told_5 : decode cX8_told 5 = .ok (.astore_n 3, 1) := by decide +kernel
theorem dX8_told_6 : decode cX8_told 6 = .ok (.iload_n 2, 1) := by decide +kernel
theorem dX8_told_7 : decode cX8_told 7 = .ok (.tableswitch 70 0 5 #[37, 42, 50, 55, 60, 65], 37) := by decide +kernel
theorem dX8_told_44 : decode cX8_told 44 = .ok (.aload_n 3, 1) := by decide +kernel
theorem dX8_told_45 : decode cX8_told 45 = .ok (.getfield 124, 3) := by decide +kernel
theorem dX8_told_48 : decode cX8_told 48 = .ok (.ireturn, 1) := by decide +kernel
theorem dX8_told_49 : decode cX8_told 49 = .ok (.aload_n 3, 1) := by decide +kernel
theorem dX8_told_50 : decode cX8_told 50 = .ok (.getfield 117, 3) := by decide +kernel
theorem dX8_told_53 : decode cX8_told 53 = .ok (.getfield 73, 3) := by decide +kernel
theorem dX8_told_56 : decode cX8_told 56 = .ok (.ireturn, 1) := by decide +kernel
theorem dX8_told_57 : decode cX8_told 57 = .ok (.aload_n 3, 1) := by decide +kernel
theorem dX8_told_58 : decode cX8_told 58 = .ok (.getfield 111, 3) := by decide +kernel
theorem dX8_told_61 : decode cX8_told 61 = .ok (.ireturn, 1) := by decide +kernel
theorem dX8_told_62 : decode cX8_told 62 = .ok (.aload_n 3, 1) := by decide +kernel
theorem dX8_told_63 : decode cX8_told 63 = .ok (.getfield 114, 3) := by decide +kernel
theorem dX8_told_66 : decode cX8_told 66 = .ok (.ireturn, 1) := by decide +kernel
theorem dX8_told_67 : decode cX8_told 67 = .ok (.aload_n 3, 1) := by decide +kernel
theorem dX8_told_68 : decode cX8_told 68 = .ok (.getfield 108, 3) := by decide +kernel
theorem dX8_told_71 : decode cX8_told 71 = .ok (.ireturn, 1) := by decide +kernel
theorem dX8_told_72 : decode cX8_told 72 = .ok (.aload_n 3, 1) := by decide +kernel
theorem dX8_told_73 : decode cX8_told 73 = .ok (.invokevirtual 158, 3) := by decide +kernel
theorem dX8_told_76 : decode cX8_told 76 = .ok (.ireturn, 1) := by decide +kernel
theorem dX8_told_77 : decode cX8_told 77 = .ok (.new 66, 3) := by decide +kernel
theorem dX8_told_80 : decode cX8_told 80 = .ok (.dup, 1) := by decide +kernel
theorem dX8_told_81 : decode cX8_told 81 = .ok (.ldc 162, 2) := by decide +kernel
theorem dX8_told_83 : decode cX8_told 83 = .ok (.invokespecial 70, 3) := by decide +kernel
theorem dX8_told_86 : decode cX8_told 86 = .ok (.athrow, 1) := by decide +kernel
theorem dX8_tool_0 : decode cX8_tool 0 = .ok (.iload_n 1, 1) := by decide +kernel
theorem dX8_tool_1 : decode cX8_tool 1 = .ok (.iconst 4, 1) := by decide +kernel
theorem dX8_tool_2 : decode cX8_tool 2 = .ok (.bipush 60, 2) := by decide +kernel
theorem dX8_tool_4 : decode cX8_tool 4 = .ok (.invokestatic 62, 3) := by decide +kernel
theorem dX8_tool_7 : decode cX8_tool 7 = .ok (.ifCond .ne 51, 3) := by decide +kernel
theorem dX8_tool_10 : decode cX8_tool 10 = .ok (.iload_n 2, 1) := by decide +kernel
theorem dX8_tool_11 : decode cX8_tool 11 = .ok (.iconst 0, 1) := by decide +kernel
theorem dX8_tool_12 : decode cX8_tool 12 = .ok (.bipush 30, 2) := by decide +kernel
theorem dX8_tool_14 : decode cX8_tool 14 = .ok (.invokestatic 62, 3) := by decide +kernel
theorem dX8_tool_17 : decode cX8_tool 17 = .ok (.ifCond .ne 41, 3) := by decide +kernel
theorem dX8_tool_20 : decode cX8_tool 20 = .ok (.iload_n 3, 1) := by decide +kernel
theorem dX8_tool_21 : decode cX8_tool 21 = .ok (.bipush 10, 2) := by decide +kernel
theorem dX8_tool_23 : decode cX8_tool 23 = .ok (.sipush 200, 3) := by decide +kernel
theorem dX8_tool_26 : decode cX8_tool 26 = .ok (.invokestatic 62, 3) := by decide +kernel
theorem dX8_tool_29 : decode cX8_tool 29 = .ok (.ifCond .ne 29, 3) := by decide +kernel
theorem dX8_tool_32 : decode cX8_tool 32 = .ok (.iload 4, 2) := by decide +kernel
theorem dX8_tool_34 : decode cX8_tool 34 = .ok (.bipush 10, 2) := by decide +kernel
theorem dX8_tool_36 : decode cX8_tool 36 = .ok (.sipush 200, 3) := by decide +kernel
theorem dX8_tool_39 : decode cX8_tool 39 = .ok (.invokestatic 62, 3) := by decide +kernel
theorem dX8_tool_42 : decode cX8_tool 42 = .ok (.ifCond .ne 16, 3) := by decide +kernel
theorem dX8_tool_45 : decode cX8_tool 45 = .ok (.iload 5, 2) := by decide +kernel
theorem dX8_tool_47 : decode cX8_tool 47 = .ok (.bipush 20, 2) := by decide +kernel
theorem dX8_tool_49 : decode cX8_tool 49 = .ok (.sipush 600, 3) := by decide +kernel
theorem dX8_tool_52 : decode cX8_tool 52 = .ok (.invokestatic 62, 3) := by decide +kernel
theorem dX8_tool_55 : decode cX8_tool 55 = .ok (.ifCond .eq 13, 3) := by decide +kernel
theorem dX8_tool_58 : decode cX8_tool 58 = .ok (.new 66, 3) := by decide +kernel
theorem dX8_tool_61 : decode cX8_tool 61 = .ok (.dup, 1) := by decide +kernel
theorem dX8_tool_62 : decode cX8_tool 62 = .ok (.ldc 164, 2) := by decide +kernel
theorem dX8_tool_64 : decode cX8_tool 64 = .ok (.invokespecial 70, 3) := by decide +kernel
theorem dX8_tool_67 : decode cX8_tool 67 = .ok (.athrow, 1) := by decide +kernel
theorem dX8_tool_68 : decode cX8_tool 68 = .ok (.aload_n 0, 1) := by decide +kernel
theorem dX8_tool_69 : decode cX8_tool 69 = .ok (.getfield 166, 3) := by decide +kernel
theorem dX8_tool_72 : decode cX8_tool 72 = .ok (.iconst 4, 1) := by decide +kernel
theorem dX8_tool_73 : decode cX8_tool 73 = .ok (.if_icmp .lt 13, 3) := by decide +kernel
theorem dX8_tool_76 : decode cX8_tool 76 = .ok (.new 77, 3) := by decide +kernel
theorem dX8_tool_79 : decode cX8_tool 79 = .ok (.dup, 1) := by decide +kernel
theorem dX8_tool_80 : decode cX8_tool 80 = .ok (.ldc 169, 2) := by decide +kernel
theorem dX8_tool_82 : decode cX8_tool 82 = .ok (.invokespecial 81, 3) := by decide +kernel
theorem dX8_tool_85 : decode cX8_tool 85 = .ok (.athrow, 1) := by decide +kernel
theorem dX8_tool_86 : decode cX8_tool 86 = .ok (.aload_n 0, 1) := by decide +kernel
theorem dX8_tool_87 : decode cX8_tool 87 = .ok (.getfield 24, 3) := by decide +kernel
theorem dX8_tool_90 : decode cX8_tool 90 = .ok (.aload_n 0, 1) := by decide +kernel
theorem dX8_tool_91 : decode cX8_tool 91 = .ok (.getfield 166, 3) := by decide +kernel
theorem dX8_tool_94 : decode cX8_tool 94 = .ok (.aaload, 1) := by decide +kernel
theorem dX8_tool_95 : decode cX8_tool 95 = .ok (.astore 6, 2) := by decide +kernel
theorem dX8_tool_97 : decode cX8_tool 97 = .ok (.aload 6, 2) := by decide +kernel
theorem dX8_tool_99 : decode cX8_tool 99 = .ok (.iload_n 1, 1) := by decide +kernel
theorem dX8_tool_100 : decode cX8_tool 100 = .ok (.putfield 171, 3) := by decide +kernel
theorem dX8_tool_103 : decode cX8_tool 103 = .ok (.aload 6, 2) := by decide +kernel
theorem dX8_tool_105 : decode cX8_tool 105 = .ok (.iload_n 2, 1) := by decide +kernel
theorem dX8_tool_106 : decode cX8_tool 106 = .ok (.putfield 174, 3) := by decide +kernel
theorem dX8_tool_109 : decode cX8_tool 109 = .ok (.aload 6, 2) := by decide +kernel
theorem dX8_tool_111 : decode cX8_tool 111 = .ok (.iload_n 3, 1) := by decide +kernel
theorem dX8_tool_112 : decode cX8_tool 112 = .ok (.putfield 177, 3) := by decide +kernel
theorem dX8_tool_115 : decode cX8_tool 115 = .ok (.aload 6, 2) := by decide +kernel
theorem dX8_tool_117 : decode cX8_tool 117 = .ok (.iload 4, 2) := by decide +kernel
theorem dX8_tool_119 : decode cX8_tool 119 = .ok (.putfield 180, 3) := by decide +kernel
theorem dX8_tool_122 : decode cX8_tool 122 = .ok (.aload 6, 2) := by decide +kernel
theorem dX8_tool_124 : decode cX8_tool 124 = .ok (.iload 5, 2) := by decide +kernel
theorem dX8_tool_126 : decode cX8_tool 126 = .ok (.putfield 183, 3) := by decide +kernel
theorem dX8_tool_129 : decode cX8_tool 129 = .ok (.aload_n 0, 1) := by decide +kernel
theorem dX8_tool_130 : decode cX8_tool 130 = .ok (.dup, 1) := by decide +kernel
theorem dX8_tool_131 : decode cX8_tool 131 = .ok (.getfield 166, 3) := by decide +kernel
theorem dX8_tool_134 : decode cX8_tool 134 = .ok (.iconst 1, 1) := by decide +kernel
theorem dX8_tool_135 : decode cX8_tool 135 = .ok (.iadd, 1) := by decide +kernel
theorem dX8_tool_136 : decode cX8_tool 136 = .ok (.putfield 166, 3) := by decide +kernel
theorem dX8_tool_139 : decode cX8_tool 139 = .ok (.aload_n 0, 1) := by decide +kernel
theorem dX8_tool_140 : decode cX8_tool 140 = .ok (.getfield 166, 3) := by decide +kernel
theorem dX8_tool_143 : decode cX8_tool 143 = .ok (.iconst 1, 1) := by decide +kernel
theorem dX8_tool_144 : decode cX8_tool 144 = .ok (.isub, 1) := by decide +kernel
theorem dX8_tool_145 : decode cX8_tool 145 = .ok (.ireturn, 1) := by decide +kernel
theorem dX8_trial_0 : decode cX8_trial 0 = .ok (.aload_n 0, 1) := by decide +kernel
theorem dX8_trial_1 : decode cX8_trial 1 = .ok (.iload_n 1, 1) := by decide +kernel
theorem dX8_trial_2 : decode cX8_trial 2 = .ok (.invokevirtual 186, 3) := by decide +kernel
theorem dX8_trial_5 : decode cX8_trial 5 = .ok (.astore 4, 2) := by decide +kernel
theorem dX8_trial_7 : decode cX8_trial 7 = .ok (.iload_n 2, 1) := by decide +kernel
theorem dX8_trial_8 : decode cX8_trial 8 = .ok (.iconst 1, 1) := by decide +kernel
theorem dX8_trial_9 : decode cX8_trial 9 = .ok (.iconst 4, 1) := by decide +kernel
theorem dX8_trial_10 : decode cX8_trial 10 = .ok (.invokestatic 62, 3) := by decide +kernel
theorem dX8_trial_13 : decode cX8_trial 13 = .ok (.ifCond .ne 13, 3) := by decide +kernel
theorem dX8_trial_16 : decode cX8_trial 16 = .ok (.iload_n 3, 1) := by decide +kernel
theorem dX8_trial_17 : decode cX8_trial 17 = .ok (.iconst 0, 1) := by decide +kernel
theorem dX8_trial_18 : decode cX8_trial 18 = .ok (.bipush 9, 2) := by decide +kernel
theorem dX8_trial_20 : decode cX8_trial 20 = .ok (.invokestatic 62, 3) := by decide +kernel
theorem dX8_trial_23 : decode cX8_trial 23 = .ok (.ifCond .eq 13, 3) := by decide +kernel
theorem dX8_trial_26 : decode cX8_trial 26 = .ok (.new 66, 3) := by decide +kernel
theorem dX8_trial_29 : decode cX8_trial 29 = .ok (.dup, 1) := by decide +kernel
theorem dX8_trial_30 : decode cX8_trial 30 = .ok (.ldc 190, 2) := by decide +kernel
theorem dX8_trial_32 : decode cX8_trial 32 = .ok (.invokespecial 70, 3) := by decide +kernel
theorem dX8_trial_35 : decode cX8_trial 35 = .ok (.athrow, 1) := by decide +kernel
theorem dX8_trial_36 : decode cX8_trial 36 = .ok (.aload 4, 2) := by decide +kernel
theorem dX8_trial_38 : decode cX8_trial 38 = .ok (.getfield 192, 3) := by decide +kernel
theorem dX8_trial_41 : decode cX8_trial 41 = .ok (.iload_n 2, 1) := by decide +kernel
theorem dX8_trial_42 : decode cX8_trial 42 = .ok (.iaload, 1) := by decide +kernel
theorem dX8_trial_43 : decode cX8_trial 43 = .ok (.istore 5, 2) := by decide +kernel
theorem dX8_trial_45 : decode cX8_trial 45 = .ok (.aload 4, 2) := by decide +kernel
theorem dX8_trial_47 : decode cX8_trial 47 = .ok (.getfield 192, 3) := by decide +kernel
theorem dX8_trial_50 : decode cX8_trial 50 = .ok (.iload_n 2, 1) := by decide +kernel
theorem dX8_trial_51 : decode cX8_trial 51 = .ok (.iload_n 3, 1) := by decide +kernel
theorem dX8_trial_52 : decode cX8_trial 52 = .ok (.iastore, 1) := by decide +kernel
theorem dX8_trial_53 : decode cX8_trial 53 = .ok (.iload 5, 2) := by decide +kernel
theorem dX8_trial_55 : decode cX8_trial 55 = .ok (.ireturn, 1) := by decide +kernel
theorem dX8_blank_0 : decode cX8_blank 0 = .ok (.aload_n 0, 1) := by decide +kernel
theorem dX8_blank_1 : decode cX8_blank 1 = .ok (.iload_n 1, 1) := by decide +kernel
theorem dX8_blank_2 : decode cX8_blank 2 = .ok (.invokevirtual 104, 3) := by decide +kernel
theorem dX8_blank_5 : decode cX8_blank 5 = .ok (.astore_n 3, 1) := by decide +kernel
theorem dX8_blank_6 : decode cX8_blank 6 = .ok (.aload_n 3, 1) := by decide +kernel
theorem dX8_blank_7 : decode cX8_blank 7 = .ok (.aload_n 0, 1) := by decide +kernel
theorem dX8_blank_8 : decode cX8_blank 8 = .ok (.iload_n 2, 1) := by decide +kernel
theorem dX8_blank_9 : decode cX8_blank 9 = .ok (.invokevirtual 186, 3) := by decide +kernel
theorem dX8_blank_12 : decode cX8_blank 12 = .ok (.invokevirtual 195, 3) := by decide +kernel
theorem dX8_blank_15 : decode cX8_blank 15 = .ok (.ireturn, 1) := by decide +kernel
theorem dX8_why_0 : decode cX8_why 0 = .ok (.aload_n 0, 1) := by decide +kernel
theorem dX8_why_1 : decode cX8_why 1 = .ok (.iload_n 1, 1) := by decide +kernel
theorem dX8_why_2 : decode cX8_why 2 = .ok (.invokevirtual 104, 3) := by decide +kernel
theorem dX8_why_5 : decode cX8_why 5 = .ok (.astore 5, 2) := by decide +kernel
theorem dX8_why_7 : decode cX8_why 7 = .ok (.aload_n 0, 1) := by decide +kernel
theorem dX8_why_8 : decode cX8_why 8 = .ok (.iload_n 2, 1) := by decide +kernel
theorem dX8_why_9 : decode cX8_why 9 = .ok (.invokevirtual 186, 3) := by decide +kernel
theorem dX8_why_12 : decode cX8_why 12 = .ok (.astore 6, 2) := by decide +kernel
theorem dX8_why_14 : decode cX8_why 14 = .ok (.aload 5, 2) := by decide +kernel
theorem dX8_why_16 : decode cX8_why 16 = .ok (.getfield 117, 3) := by decide +kernel
theorem dX8_why_19 : decode cX8_why 19 = .ok (.iload 4, 2) := by decide +kernel
theorem dX8_why_21 : decode cX8_why 21 = .ok (.invokestatic 199, 3) := by decide +kernel
theorem dX8_why_24 : decode cX8_why 24 = .ok (.aload 5, 2) := by decide +kernel
theorem dX8_why_26 : decode cX8_why 26 = .ok (.getfield 117, 3) := by decide +kernel
theorem dX8_why_29 : decode cX8_why 29 = .ok (.iload_n 3, 1) := by decide +kernel
theorem dX8_why_30 : decode cX8_why 30 = .ok (.iload 4, 2) := by decide +kernel
theorem dX8_why_32 : decode cX8_why 32 = .ok (.invokestatic 203, 3) := by decide +kernel
theorem dX8_why_35 : decode cX8_why 35 = .ok (.aload_n 0, 1) := by decide +kernel
theorem dX8_why_36 : decode cX8_why 36 = .ok (.getfield 41, 3) := by decide +kernel
theorem dX8_why_39 : decode cX8_why 39 = .ok (.aload 5, 2) := by decide +kernel
theorem dX8_why_41 : decode cX8_why 41 = .ok (.aload 6, 2) := by decide +kernel
theorem dX8_why_43 : decode cX8_why 43 = .ok (.iload_n 3, 1) := by decide +kernel
theorem dX8_why_44 : decode cX8_why 44 = .ok (.iload 4, 2) := by decide +kernel
theorem dX8_why_46 : decode cX8_why 46 = .ok (.invokevirtual 206, 3) := by decide +kernel
theorem dX8_why_49 : decode cX8_why 49 = .ok (.ireturn, 1) := by decide +kernel
theorem dX8_point_0 : decode cX8_point 0 = .ok (.aload_n 0, 1) := by decide +kernel
theorem dX8_point_1 : decode cX8_point 1 = .ok (.iload_n 1, 1) := by decide +kernel
theorem dX8_point_2 : decode cX8_point 2 = .ok (.invokevirtual 104, 3) := by decide +kernel
theorem dX8_point_5 : decode cX8_point 5 = .ok (.getfield 117, 3) := by decide +kernel
theorem dX8_point_8 : decode cX8_point 8 = .ok (.astore 7, 2) := by decide +kernel
theorem dX8_point_10 : decode cX8_point 10 = .ok (.aload 7, 2) := by decide +kernel
theorem dX8_point_12 : decode cX8_point 12 = .ok (.iload_n 3, 1) := by decide +kernel
theorem dX8_point_13 : decode cX8_point 13 = .ok (.invokestatic 199, 3) := by decide +kernel
theorem dX8_point_16 : decode cX8_point 16 = .ok (.iload 5, 2) := by decide +kernel
theorem dX8_point_18 : decode cX8_point 18 = .ok (.iconst 0, 1) := by decide +kernel
theorem dX8_point_19 : decode cX8_point 19 = .ok (.aload 7, 2) := by decide +kernel
theorem dX8_point_21 : decode cX8_point 21 = .ok (.iload_n 3, 1) := by decide +kernel
theorem dX8_point_22 : decode cX8_point 22 = .ok (.iload 4, 2) := by decide +kernel
theorem dX8_point_24 : decode cX8_point 24 = .ok (.invokevirtual 210, 3) := by decide +kernel
theorem dX8_point_27 : decode cX8_point 27 = .ok (.iconst 1, 1) := by decide +kernel
theorem dX8_point_28 : decode cX8_point 28 = .ok (.isub, 1) := by decide +kernel
theorem dX8_point_29 : decode cX8_point 29 = .ok (.invokestatic 62, 3) := by decide +kernel
theorem dX8_point_32 : decode cX8_point 32 = .ok (.ifCond .eq 13, 3) := by decide +kernel
theorem dX8_point_35 : decode cX8_point 35 = .ok (.new 131, 3) := by decide +kernel
theorem dX8_point_38 : decode cX8_point 38 = .ok (.dup, 1) := by decide +kernel
theorem dX8_point_39 : decode cX8_point 39 = .ok (.ldc 214, 2) := by decide +kernel
theorem dX8_point_41 : decode cX8_point 41 = .ok (.invokespecial 135, 3) := by decide +kernel
theorem dX8_point_44 : decode cX8_point 44 = .ok (.athrow, 1) := by decide +kernel
theorem dX8_point_45 : decode cX8_point 45 = .ok (.aload 7, 2) := by decide +kernel
theorem dX8_point_47 : decode cX8_point 47 = .ok (.iload_n 2, 1) := by decide +kernel
theorem dX8_point_48 : decode cX8_point 48 = .ok (.iload_n 3, 1) := by decide +kernel
theorem dX8_point_49 : decode cX8_point 49 = .ok (.invokestatic 203, 3) := by decide +kernel
theorem dX8_point_52 : decode cX8_point 52 = .ok (.aload_n 0, 1) := by decide +kernel
theorem dX8_point_53 : decode cX8_point 53 = .ok (.getfield 41, 3) := by decide +kernel
theorem dX8_point_56 : decode cX8_point 56 = .ok (.getfield 216, 3) := by decide +kernel
theorem dX8_point_59 : decode cX8_point 59 = .ok (.astore 8, 2) := by decide +kernel
theorem dX8_point_61 : decode cX8_point 61 = .ok (.aload 8, 2) := by decide +kernel
theorem dX8_point_63 : decode cX8_point 63 = .ok (.aload 7, 2) := by decide +kernel
theorem dX8_point_65 : decode cX8_point 65 = .ok (.iload_n 2, 1) := by decide +kernel
theorem dX8_point_66 : decode cX8_point 66 = .ok (.iload_n 3, 1) := by decide +kernel
theorem dX8_point_67 : decode cX8_point 67 = .ok (.iload 4, 2) := by decide +kernel
theorem dX8_point_69 : decode cX8_point 69 = .ok (.invokevirtual 220, 3) := by decide +kernel
theorem dX8_point_72 : decode cX8_point 72 = .ok (.iload 6, 2) := by decide +kernel
theorem dX8_point_74 : decode cX8_point 74 = .ok (.ifCond .eq 14, 3) := by decide +kernel
theorem dX8_point_77 : decode cX8_point 77 = .ok (.aload 8, 2) := by decide +kernel
theorem dX8_point_79 : decode cX8_point 79 = .ok (.getfield 226, 3) := by decide +kernel
theorem dX8_point_82 : decode cX8_point 82 = .ok (.iload 5, 2) := by decide +kernel
theorem dX8_point_84 : decode cX8_point 84 = .ok (.iaload, 1) := by decide +kernel
theorem dX8_point_85 : decode cX8_point 85 = .ok (.goto 11, 3) := by decide +kernel
theorem dX8_point_88 : decode cX8_point 88 = .ok (.aload 8, 2) := by decide +kernel
theorem dX8_point_90 : decode cX8_point 90 = .ok (.getfield 229, 3) := by decide +kernel
theorem dX8_point_93 : decode cX8_point 93 = .ok (.iload 5, 2) := by decide +kernel
theorem dX8_point_95 : decode cX8_point 95 = .ok (.iaload, 1) := by decide +kernel
theorem dX8_point_96 : decode cX8_point 96 = .ok (.ireturn, 1) := by decide +kernel
theorem dX8_flips_0 : decode cX8_flips 0 = .ok (.aload_n 0, 1) := by decide +kernel
theorem dX8_flips_1 : decode cX8_flips 1 = .ok (.iload_n 1, 1) := by decide +kernel
theorem dX8_flips_2 : decode cX8_flips 2 = .ok (.invokevirtual 104, 3) := by decide +kernel
theorem dX8_flips_5 : decode cX8_flips 5 = .ok (.astore_n 3, 1) := by decide +kernel
theorem dX8_flips_6 : decode cX8_flips 6 = .ok (.aload_n 0, 1) := by decide +kernel
theorem dX8_flips_7 : decode cX8_flips 7 = .ok (.getfield 48, 3) := by decide +kernel
theorem dX8_flips_10 : decode cX8_flips 10 = .ok (.aload_n 3, 1) := by decide +kernel
theorem dX8_flips_11 : decode cX8_flips 11 = .ok (.aload_n 0, 1) := by decide +kernel
theorem dX8_flips_12 : decode cX8_flips 12 = .ok (.iload_n 2, 1) := by decide +kernel
theorem dX8_flips_13 : decode cX8_flips 13 = .ok (.invokevirtual 186, 3) := by decide +kernel
theorem dX8_flips_16 : decode cX8_flips 16 = .ok (.aload_n 0, 1) := by decide +kernel
theorem dX8_flips_17 : decode cX8_flips 17 = .ok (.getfield 41, 3) := by decide +kernel
theorem dX8_flips_20 : decode cX8_flips 20 = .ok (.invokevirtual 232, 3) := by decide +kernel
theorem dX8_flips_23 : decode cX8_flips 23 = .ok (.aload_n 0, 1) := by decide +kernel
theorem dX8_flips_24 : decode cX8_flips 24 = .ok (.getfield 48, 3) := by decide +kernel
theorem dX8_flips_27 : decode cX8_flips 27 = .ok (.getfield 236, 3) := by decide +kernel
theorem dX8_flips_30 : decode cX8_flips 30 = .ok (.ireturn, 1) := by decide +kernel
theorem dX8_flipsAnew_0 : decode cX8_flipsAnew 0 = .ok (.aload_n 0, 1) := by decide +kernel
theorem dX8_flipsAnew_1 : decode cX8_flipsAnew 1 = .ok (.iload_n 1, 1) := by decide +kernel
theorem dX8_flipsAnew_2 : decode cX8_flipsAnew 2 = .ok (.invokevirtual 104, 3) := by decide +kernel
theorem dX8_flipsAnew_5 : decode cX8_flipsAnew 5 = .ok (.astore_n 3, 1) := by decide +kernel
theorem dX8_flipsAnew_6 : decode cX8_flipsAnew 6 = .ok (.aload_n 0, 1) := by decide +kernel
theorem dX8_flipsAnew_7 : decode cX8_flipsAnew 7 = .ok (.getfield 48, 3) := by decide +kernel
theorem dX8_flipsAnew_10 : decode cX8_flipsAnew 10 = .ok (.aload_n 3, 1) := by decide +kernel
theorem dX8_flipsAnew_11 : decode cX8_flipsAnew 11 = .ok (.aload_n 0, 1) := by decide +kernel
theorem dX8_flipsAnew_12 : decode cX8_flipsAnew 12 = .ok (.iload_n 2, 1) := by decide +kernel
theorem dX8_flipsAnew_13 : decode cX8_flipsAnew 13 = .ok (.invokevirtual 186, 3) := by decide +kernel
theorem dX8_flipsAnew_16 : decode cX8_flipsAnew 16 = .ok (.aload_n 0, 1) := by decide +kernel
theorem dX8_flipsAnew_17 : decode cX8_flipsAnew 17 = .ok (.getfield 41, 3) := by decide +kernel
theorem dX8_flipsAnew_20 : decode cX8_flipsAnew 20 = .ok (.invokevirtual 239, 3) := by decide +kernel
theorem dX8_flipsAnew_23 : decode cX8_flipsAnew 23 = .ok (.ireturn, 1) := by decide +kernel
theorem dX8_ordered_0 : decode cX8_ordered 0 = .ok (.aload_n 0, 1) := by decide +kernel
theorem dX8_ordered_1 : decode cX8_ordered 1 = .ok (.iload_n 1, 1) := by decide +kernel
theorem dX8_ordered_2 : decode cX8_ordered 2 = .ok (.invokevirtual 104, 3) := by decide +kernel
theorem dX8_ordered_5 : decode cX8_ordered 5 = .ok (.astore 4, 2) := by decide +kernel
theorem dX8_ordered_7 : decode cX8_ordered 7 = .ok (.aload_n 0, 1) := by decide +kernel
theorem dX8_ordered_8 : decode cX8_ordered 8 = .ok (.iload_n 2, 1) := by decide +kernel
theorem dX8_ordered_9 : decode cX8_ordered 9 = .ok (.invokevirtual 186, 3) := by decide +kernel
theorem dX8_ordered_12 : decode cX8_ordered 12 = .ok (.astore 5, 2) := by decide +kernel
theorem dX8_ordered_14 : decode cX8_ordered 14 = .ok (.iload_n 3, 1) := by decide +kernel
theorem dX8_ordered_15 : decode cX8_ordered 15 = .ok (.ifCond .ge 13, 3) := by decide +kernel
theorem dX8_ordered_18 : decode cX8_ordered 18 = .ok (.new 131, 3) := by decide +kernel
theorem dX8_ordered_21 : decode cX8_ordered 21 = .ok (.dup, 1) := by decide +kernel
theorem dX8_ordered_22 : decode cX8_ordered 22 = .ok (.ldc 243, 2) := by decide +kernel
theorem dX8_ordered_24 : decode cX8_ordered 24 = .ok (.invokespecial 135, 3) := by decide +kernel
theorem dX8_ordered_27 : decode cX8_ordered 27 = .ok (.athrow, 1) := by decide +kernel
theorem dX8_ordered_28 : decode cX8_ordered 28 = .ok (.aload_n 0, 1) := by decide +kernel
theorem dX8_ordered_29 : decode cX8_ordered 29 = .ok (.getfield 48, 3) := by decide +kernel
theorem dX8_ordered_32 : decode cX8_ordered 32 = .ok (.aload 4, 2) := by decide +kernel
theorem dX8_ordered_34 : decode cX8_ordered 34 = .ok (.aload 5, 2) := by decide +kernel
theorem dX8_ordered_36 : decode cX8_ordered 36 = .ok (.aload_n 0, 1) := by decide +kernel
theorem dX8_ordered_37 : decode cX8_ordered 37 = .ok (.getfield 41, 3) := by decide +kernel
theorem dX8_ordered_40 : decode cX8_ordered 40 = .ok (.invokevirtual 232, 3) := by decide +kernel
theorem dX8_ordered_43 : decode cX8_ordered 43 = .ok (.iload_n 3, 1) := by decide +kernel
theorem dX8_ordered_44 : decode cX8_ordered 44 = .ok (.aload_n 0, 1) := by decide +kernel
theorem dX8_ordered_45 : decode cX8_ordered 45 = .ok (.getfield 48, 3) := by decide +kernel
theorem dX8_ordered_48 : decode cX8_ordered 48 = .ok (.getfield 245, 3) := by decide +kernel
theorem dX8_ordered_51 : decode cX8_ordered 51 = .ok (.if_icmp .ge 15, 3) := by decide +kernel
theorem dX8_ordered_54 : decode cX8_ordered 54 = .ok (.aload_n 0, 1) := by decide +kernel
theorem dX8_ordered_55 : decode cX8_ordered 55 = .ok (.getfield 48, 3) := by decide +kernel
theorem dX8_ordered_58 : decode cX8_ordered 58 = .ok (.getfield 248, 3) := by decide +kernel
theorem dX8_ordered_61 : decode cX8_ordered 61 = .ok (.iload_n 3, 1) := by decide +kernel
theorem dX8_ordered_62 : decode cX8_ordered 62 = .ok (.iaload, 1) := by decide +kernel
theorem dX8_ordered_63 : decode cX8_ordered 63 = .ok (.goto 4, 3) := by decide +kernel
theorem dX8_ordered_66 : decode cX8_ordered 66 = .ok (.iconst (-1), 1) := by decide +kernel
theorem dX8_ordered_67 : decode cX8_ordered 67 = .ok (.ireturn, 1) := by decide +kernel
theorem dX8_want_0 : decode cX8_want 0 = .ok (.aload_n 0, 1) := by decide +kernel
theorem dX8_want_1 : decode cX8_want 1 = .ok (.iload_n 1, 1) := by decide +kernel
theorem dX8_want_2 : decode cX8_want 2 = .ok (.invokevirtual 104, 3) := by decide +kernel
theorem dX8_want_5 : decode cX8_want 5 = .ok (.pop, 1) := by decide +kernel
theorem dX8_want_6 : decode cX8_want 6 = .ok (.iload_n 2, 1) := by decide +kernel
theorem dX8_want_7 : decode cX8_want 7 = .ok (.iconst 1, 1) := by decide +kernel
theorem dX8_want_8 : decode cX8_want 8 = .ok (.bipush 40, 2) := by decide +kernel
theorem dX8_want_10 : decode cX8_want 10 = .ok (.invokestatic 62, 3) := by decide +kernel
theorem dX8_want_13 : decode cX8_want 13 = .ok (.ifCond .eq 13, 3) := by decide +kernel
theorem dX8_want_16 : decode cX8_want 16 = .ok (.new 66, 3) := by decide +kernel
theorem dX8_want_19 : decode cX8_want 19 = .ok (.dup, 1) := by decide +kernel
theorem dX8_want_20 : decode cX8_want 20 = .ok (.ldc 251, 2) := by decide +kernel
theorem dX8_want_22 : decode cX8_want 22 = .ok (.invokespecial 70, 3) := by decide +kernel
theorem dX8_want_25 : decode cX8_want 25 = .ok (.athrow, 1) := by decide +kernel
theorem dX8_want_26 : decode cX8_want 26 = .ok (.aload_n 0, 1) := by decide +kernel
theorem dX8_want_27 : decode cX8_want 27 = .ok (.getfield 253, 3) := by decide +kernel
theorem dX8_want_30 : decode cX8_want 30 = .ok (.iload_n 2, 1) := by decide +kernel
theorem dX8_want_31 : decode cX8_want 31 = .ok (.iadd, 1) := by decide +kernel
theorem dX8_want_32 : decode cX8_want 32 = .ok (.bipush 40, 2) := by decide +kernel
theorem dX8_want_34 : decode cX8_want 34 = .ok (.if_icmp .le 14, 3) := by decide +kernel
theorem dX8_want_37 : decode cX8_want 37 = .ok (.new 77, 3) := by decide +kernel
theorem dX8_want_40 : decode cX8_want 40 = .ok (.dup, 1) := by decide +kernel
theorem dX8_want_41 : decode cX8_want 41 = .ok (.ldc_w 256, 3) := by decide +kernel
theorem dX8_want_44 : decode cX8_want 44 = .ok (.invokespecial 81, 3) := by decide +kernel
theorem dX8_want_47 : decode cX8_want 47 = .ok (.athrow, 1) := by decide +kernel
theorem dX8_want_48 : decode cX8_want 48 = .ok (.aload_n 0, 1) := by decide +kernel
theorem dX8_want_49 : decode cX8_want 49 = .ok (.getfield 28, 3) := by decide +kernel
theorem dX8_want_52 : decode cX8_want 52 = .ok (.iload_n 1, 1) := by decide +kernel
theorem dX8_want_53 : decode cX8_want 53 = .ok (.dup2, 1) := by decide +kernel
theorem dX8_want_54 : decode cX8_want 54 = .ok (.iaload, 1) := by decide +kernel
theorem dX8_want_55 : decode cX8_want 55 = .ok (.iload_n 2, 1) := by decide +kernel
theorem dX8_want_56 : decode cX8_want 56 = .ok (.iadd, 1) := by decide +kernel
theorem dX8_want_57 : decode cX8_want 57 = .ok (.iastore, 1) := by decide +kernel
theorem dX8_want_58 : decode cX8_want 58 = .ok (.aload_n 0, 1) := by decide +kernel
theorem dX8_want_59 : decode cX8_want 59 = .ok (.dup, 1) := by decide +kernel
theorem dX8_want_60 : decode cX8_want 60 = .ok (.getfield 253, 3) := by decide +kernel
theorem dX8_want_63 : decode cX8_want 63 = .ok (.iload_n 2, 1) := by decide +kernel
theorem dX8_want_64 : decode cX8_want 64 = .ok (.iadd, 1) := by decide +kernel
theorem dX8_want_65 : decode cX8_want 65 = .ok (.putfield 253, 3) := by decide +kernel
theorem dX8_want_68 : decode cX8_want 68 = .ok (.aload_n 0, 1) := by decide +kernel
theorem dX8_want_69 : decode cX8_want 69 = .ok (.getfield 253, 3) := by decide +kernel
theorem dX8_want_72 : decode cX8_want 72 = .ok (.ireturn, 1) := by decide +kernel
theorem dX8_clear_0 : decode cX8_clear 0 = .ok (.aload_n 0, 1) := by decide +kernel
theorem dX8_clear_1 : decode cX8_clear 1 = .ok (.getfield 253, 3) := by decide +kernel
theorem dX8_clear_4 : decode cX8_clear 4 = .ok (.istore_n 1, 1) := by decide +kernel
theorem dX8_clear_5 : decode cX8_clear 5 = .ok (.iconst 0, 1) := by decide +kernel
theorem dX8_clear_6 : decode cX8_clear 6 = .ok (.istore_n 2, 1) := by decide +kernel
theorem dX8_clear_7 : decode cX8_clear 7 = .ok (.iload_n 2, 1) := by decide +kernel
theorem dX8_clear_8 : decode cX8_clear 8 = .ok (.bipush 8, 2) := by decide +kernel
theorem dX8_clear_10 : decode cX8_clear 10 = .ok (.if_icmp .ge 16, 3) := by decide +kernel
theorem dX8_clear_13 : decode cX8_clear 13 = .ok (.aload_n 0, 1) := by decide +kernel
theorem dX8_clear_14 : decode cX8_clear 14 = .ok (.getfield 28, 3) := by decide +kernel
theorem dX8_clear_17 : decode cX8_clear 17 = .ok (.iload_n 2, 1) := by decide +kernel
theorem dX8_clear_18 : decode cX8_clear 18 = .ok (.iconst 0, 1) := by decide +kernel
theorem dX8_clear_19 : decode cX8_clear 19 = .ok (.iastore, 1) := by decide +kernel
theorem dX8_clear_20 : decode cX8_clear 20 = .ok (.iinc 2 1, 3) := by decide +kernel
theorem dX8_clear_23 : decode cX8_clear 23 = .ok (.goto (-16), 3) := by decide +kernel
theorem dX8_clear_26 : decode cX8_clear 26 = .ok (.aload_n 0, 1) := by decide +kernel
theorem dX8_clear_27 : decode cX8_clear 27 = .ok (.iconst 0, 1) := by decide +kernel
theorem dX8_clear_28 : decode cX8_clear 28 = .ok (.putfield 253, 3) := by decide +kernel
theorem dX8_clear_31 : decode cX8_clear 31 = .ok (.iload_n 1, 1) := by decide +kernel
theorem dX8_clear_32 : decode cX8_clear 32 = .ok (.ireturn, 1) := by decide +kernel
theorem dX8_nest_0 : decode cX8_nest 0 = .ok (.aload_n 0, 1) := by decide +kernel
theorem dX8_nest_1 : decode cX8_nest 1 = .ok (.iload_n 1, 1) := by decide +kernel
theorem dX8_nest_2 : decode cX8_nest 2 = .ok (.invokevirtual 186, 3) := by decide +kernel
theorem dX8_nest_5 : decode cX8_nest 5 = .ok (.astore 5, 2) := by decide +kernel
theorem dX8_nest_7 : decode cX8_nest 7 = .ok (.iload_n 2, 1) := by decide +kernel
theorem dX8_nest_8 : decode cX8_nest 8 = .ok (.bipush 50, 2) := by decide +kernel
theorem dX8_nest_10 : decode cX8_nest 10 = .ok (.sipush 3000, 3) := by decide +kernel
theorem dX8_nest_13 : decode cX8_nest 13 = .ok (.invokestatic 62, 3) := by decide +kernel
theorem dX8_nest_16 : decode cX8_nest 16 = .ok (.ifCond .ne 29, 3) := by decide +kernel
theorem dX8_nest_19 : decode cX8_nest 19 = .ok (.iload_n 3, 1) := by decide +kernel
theorem dX8_nest_20 : decode cX8_nest 20 = .ok (.bipush 50, 2) := by decide +kernel
theorem dX8_nest_22 : decode cX8_nest 22 = .ok (.sipush 1500, 3) := by decide +kernel
theorem dX8_nest_25 : decode cX8_nest 25 = .ok (.iload_n 2, 1) := by decide +kernel
theorem dX8_nest_26 : decode cX8_nest 26 = .ok (.invokestatic 258, 3) := by decide +kernel
theorem dX8_nest_29 : decode cX8_nest 29 = .ok (.invokestatic 62, 3) := by decide +kernel
theorem dX8_nest_32 : decode cX8_nest 32 = .ok (.ifCond .ne 13, 3) := by decide +kernel
theorem dX8_nest_35 : decode cX8_nest 35 = .ok (.iload 4, 2) := by decide +kernel
theorem dX8_nest_37 : decode cX8_nest 37 = .ok (.iconst 0, 1) := by decide +kernel
theorem dX8_nest_38 : decode cX8_nest 38 = .ok (.iconst 3, 1) := by decide +kernel
theorem dX8_nest_39 : decode cX8_nest 39 = .ok (.invokestatic 62, 3) := by decide +kernel
theorem dX8_nest_42 : decode cX8_nest 42 = .ok (.ifCond .eq 14, 3) := by decide +kernel
theorem dX8_nest_45 : decode cX8_nest 45 = .ok (.new 66, 3) := by decide +kernel
theorem dX8_nest_48 : decode cX8_nest 48 = .ok (.dup, 1) := by decide +kernel
theorem dX8_nest_49 : decode cX8_nest 49 = .ok (.ldc_w 264, 3) := by decide +kernel
theorem dX8_nest_52 : decode cX8_nest 52 = .ok (.invokespecial 70, 3) := by decide +kernel
theorem dX8_nest_55 : decode cX8_nest 55 = .ok (.athrow, 1) := by decide +kernel
theorem dX8_nest_56 : decode cX8_nest 56 = .ok (.aload_n 0, 1) := by decide +kernel
theorem dX8_nest_57 : decode cX8_nest 57 = .ok (.getfield 55, 3) := by decide +kernel
theorem dX8_nest_60 : decode cX8_nest 60 = .ok (.iload_n 2, 1) := by decide +kernel
theorem dX8_nest_61 : decode cX8_nest 61 = .ok (.iload_n 3, 1) := by decide +kernel
theorem dX8_nest_62 : decode cX8_nest 62 = .ok (.invokevirtual 266, 3) := by decide +kernel
theorem dX8_nest_65 : decode cX8_nest 65 = .ok (.iconst 0, 1) := by decide +kernel
theorem dX8_nest_66 : decode cX8_nest 66 = .ok (.istore 6, 2) := by decide +kernel
theorem dX8_nest_68 : decode cX8_nest 68 = .ok (.iload 6, 2) := by decide +kernel
theorem dX8_nest_70 : decode cX8_nest 70 = .ok (.aload_n 0, 1) := by decide +kernel
theorem dX8_nest_71 : decode cX8_nest 71 = .ok (.getfield 95, 3) := by decide +kernel
theorem dX8_nest_74 : decode cX8_nest 74 = .ok (.if_icmp .ge 55, 3) := by decide +kernel
theorem dX8_nest_77 : decode cX8_nest 77 = .ok (.aload_n 0, 1) := by decide +kernel
theorem dX8_nest_78 : decode cX8_nest 78 = .ok (.getfield 28, 3) := by decide +kernel
theorem dX8_nest_81 : decode cX8_nest 81 = .ok (.iload 6, 2) := by decide +kernel
theorem dX8_nest_83 : decode cX8_nest 83 = .ok (.iaload, 1) := by decide +kernel
theorem dX8_nest_84 : decode cX8_nest 84 = .ok (.ifCond .le 39, 3) := by decide +kernel
theorem dX8_nest_87 : decode cX8_nest 87 = .ok (.aload_n 0, 1) := by decide +kernel
theorem dX8_nest_88 : decode cX8_nest 88 = .ok (.getfield 55, 3) := by decide +kernel
theorem dX8_nest_91 : decode cX8_nest 91 = .ok (.aload_n 0, 1) := by decide +kernel
theorem dX8_nest_92 : decode cX8_nest 92 = .ok (.getfield 18, 3) := by decide +kernel
theorem dX8_nest_95 : decode cX8_nest 95 = .ok (.iload 6, 2) := by decide +kernel
theorem dX8_nest_97 : decode cX8_nest 97 = .ok (.aaload, 1) := by decide +kernel
theorem dX8_nest_98 : decode cX8_nest 98 = .ok (.aload 5, 2) := by decide +kernel
theorem dX8_nest_100 : decode cX8_nest 100 = .ok (.invokevirtual 195, 3) := by decide +kernel
theorem dX8_nest_103 : decode cX8_nest 103 = .ok (.aload_n 0, 1) := by decide +kernel
theorem dX8_nest_104 : decode cX8_nest 104 = .ok (.getfield 18, 3) := by decide +kernel
theorem dX8_nest_107 : decode cX8_nest 107 = .ok (.iload 6, 2) := by decide +kernel
theorem dX8_nest_109 : decode cX8_nest 109 = .ok (.aaload, 1) := by decide +kernel
theorem dX8_nest_110 : decode cX8_nest 110 = .ok (.getfield 111, 3) := by decide +kernel
theorem dX8_nest_113 : decode cX8_nest 113 = .ok (.aload_n 0, 1) := by decide +kernel
theorem dX8_nest_114 : decode cX8_nest 114 = .ok (.getfield 28, 3) := by decide +kernel
theorem dX8_nest_117 : decode cX8_nest 117 = .ok (.iload 6, 2) := by decide +kernel
theorem dX8_nest_119 : decode cX8_nest 119 = .ok (.iaload, 1) := by decide +kernel
theorem dX8_nest_120 : decode cX8_nest 120 = .ok (.invokevirtual 269, 3) := by decide +kernel
theorem dX8_nest_123 : decode cX8_nest 123 = .ok (.iinc 6 1, 3) := by decide +kernel
theorem dX8_nest_126 : decode cX8_nest 126 = .ok (.goto (-58), 3) := by decide +kernel
theorem dX8_nest_129 : decode cX8_nest 129 = .ok (.aload_n 0, 1) := by decide +kernel
theorem dX8_nest_130 : decode cX8_nest 130 = .ok (.getfield 55, 3) := by decide +kernel
theorem dX8_nest_133 : decode cX8_nest 133 = .ok (.invokevirtual 273, 3) := by decide +kernel
theorem dX8_nest_136 : decode cX8_nest 136 = .ok (.ifCond .ne 7, 3) := by decide +kernel
theorem dX8_nest_139 : decode cX8_nest 139 = .ok (.ldc2_w 277, 3) := by decide +kernel
theorem dX8_nest_142 : decode cX8_nest 142 = .ok (.lreturn, 1) := by decide +kernel
theorem dX8_nest_143 : decode cX8_nest 143 = .ok (.aload_n 0, 1) := by decide +kernel
theorem dX8_nest_144 : decode cX8_nest 144 = .ok (.getfield 55, 3) := by decide +kernel
theorem dX8_nest_147 : decode cX8_nest 147 = .ok (.invokevirtual 279, 3) := by decide +kernel
theorem dX8_nest_150 : decode cX8_nest 150 = .ok (.aload_n 0, 1) := by decide +kernel
theorem dX8_nest_151 : decode cX8_nest 151 = .ok (.getfield 55, 3) := by decide +kernel
theorem dX8_nest_154 : decode cX8_nest 154 = .ok (.iload 4, 2) := by decide +kernel
theorem dX8_nest_156 : decode cX8_nest 156 = .ok (.invokevirtual 282, 3) := by decide +kernel
theorem dX8_nest_159 : decode cX8_nest 159 = .ok (.lreturn, 1) := by decide +kernel
theorem dX8_batch_0 : decode cX8_batch 0 = .ok (.aload_n 0, 1) := by decide +kernel
theorem dX8_batch_1 : decode cX8_batch 1 = .ok (.iload_n 1, 1) := by decide +kernel
theorem dX8_batch_2 : decode cX8_batch 2 = .ok (.invokevirtual 104, 3) := by decide +kernel
theorem dX8_batch_5 : decode cX8_batch 5 = .ok (.astore 4, 2) := by decide +kernel
theorem dX8_batch_7 : decode cX8_batch 7 = .ok (.aload_n 0, 1) := by decide +kernel
theorem dX8_batch_8 : decode cX8_batch 8 = .ok (.iload_n 2, 1) := by decide +kernel
theorem dX8_batch_9 : decode cX8_batch 9 = .ok (.invokevirtual 186, 3) := by decide +kernel
theorem dX8_batch_12 : decode cX8_batch 12 = .ok (.astore 5, 2) := by decide +kernel
theorem dX8_batch_14 : decode cX8_batch 14 = .ok (.iload_n 3, 1) := by decide +kernel
theorem dX8_batch_15 : decode cX8_batch 15 = .ok (.iconst 1, 1) := by decide +kernel
theorem dX8_batch_16 : decode cX8_batch 16 = .ok (.bipush 50, 2) := by decide +kernel
theorem dX8_batch_18 : decode cX8_batch 18 = .ok (.invokestatic 62, 3) := by decide +kernel
theorem dX8_batch_21 : decode cX8_batch 21 = .ok (.ifCond .eq 13, 3) := by decide +kernel
theorem dX8_batch_24 : decode cX8_batch 24 = .ok (.new 66, 3) := by decide +kernel
theorem dX8_batch_27 : decode cX8_batch 27 = .ok (.dup, 1) := by decide +kernel
theorem dX8_batch_28 : decode cX8_batch 28 = .ok (.ldc 251, 2) := by decide +kernel
theorem dX8_batch_30 : decode cX8_batch 30 = .ok (.invokespecial 70, 3) := by decide +kernel
theorem dX8_batch_33 : decode cX8_batch 33 = .ok (.athrow, 1) := by decide +kernel
theorem dX8_batch_34 : decode cX8_batch 34 = .ok (.aload_n 0, 1) := by decide +kernel
theorem dX8_batch_35 : decode cX8_batch 35 = .ok (.getfield 286, 3) := by decide +kernel
theorem dX8_batch_38 : decode cX8_batch 38 = .ok (.bipush 20, 2) := by decide +kernel
theorem dX8_batch_40 : decode cX8_batch 40 = .ok (.if_icmp .lt 14, 3) := by decide +kernel
theorem dX8_batch_43 : decode cX8_batch 43 = .ok (.new 77, 3) := by decide +kernel
theorem dX8_batch_46 : decode cX8_batch 46 = .ok (.dup, 1) := by decide +kernel
theorem dX8_batch_47 : decode cX8_batch 47 = .ok (.ldc_w 289, 3) := by decide +kernel
theorem dX8_batch_50 : decode cX8_batch 50 = .ok (.invokespecial 81, 3) := by decide +kernel
theorem dX8_batch_53 : decode cX8_batch 53 = .ok (.athrow, 1) := by decide +kernel
theorem dX8_batch_54 : decode cX8_batch 54 = .ok (.aload_n 0, 1) := by decide +kernel
theorem dX8_batch_55 : decode cX8_batch 55 = .ok (.getfield 34, 3) := by decide +kernel
theorem dX8_batch_58 : decode cX8_batch 58 = .ok (.aload_n 0, 1) := by decide +kernel
theorem dX8_batch_59 : decode cX8_batch 59 = .ok (.getfield 286, 3) := by decide +kernel
theorem dX8_batch_62 : decode cX8_batch 62 = .ok (.aaload, 1) := by decide +kernel
theorem dX8_batch_63 : decode cX8_batch 63 = .ok (.astore 6, 2) := by decide +kernel
theorem dX8_batch_65 : decode cX8_batch 65 = .ok (.aload 6, 2) := by decide +kernel
theorem dX8_batch_67 : decode cX8_batch 67 = .ok (.iload_n 1, 1) := by decide +kernel
theorem dX8_batch_68 : decode cX8_batch 68 = .ok (.putfield 291, 3) := by decide +kernel
theorem dX8_batch_71 : decode cX8_batch 71 = .ok (.aload 6, 2) := by decide +kernel
theorem dX8_batch_73 : decode cX8_batch 73 = .ok (.iload_n 2, 1) := by decide +kernel
theorem dX8_batch_74 : decode cX8_batch 74 = .ok (.putfield 294, 3) := by decide +kernel
theorem dX8_batch_77 : decode cX8_batch 77 = .ok (.aload 6, 2) := by decide +kernel
theorem dX8_batch_79 : decode cX8_batch 79 = .ok (.iconst 0, 1) := by decide +kernel
theorem dX8_batch_80 : decode cX8_batch 80 = .ok (.putfield 297, 3) := by decide +kernel
theorem dX8_batch_83 : decode cX8_batch 83 = .ok (.aload 6, 2) := by decide +kernel
theorem dX8_batch_85 : decode cX8_batch 85 = .ok (.iload_n 3, 1) := by decide +kernel
theorem dX8_batch_86 : decode cX8_batch 86 = .ok (.putfield 300, 3) := by decide +kernel
theorem dX8_batch_89 : decode cX8_batch 89 = .ok (.aload 6, 2) := by decide +kernel
theorem dX8_batch_91 : decode cX8_batch 91 = .ok (.aload 4, 2) := by decide +kernel
theorem dX8_batch_93 : decode cX8_batch 93 = .ok (.getfield 124, 3) := by decide +kernel
theorem dX8_batch_96 : decode cX8_batch 96 = .ok (.putfield 303, 3) := by decide +kernel
theorem dX8_batch_99 : decode cX8_batch 99 = .ok (.aload 6, 2) := by decide +kernel
theorem dX8_batch_101 : decode cX8_batch 101 = .ok (.aload 4, 2) := by decide +kernel
theorem dX8_batch_103 : decode cX8_batch 103 = .ok (.aload 5, 2) := by decide +kernel
theorem dX8_batch_105 : decode cX8_batch 105 = .ok (.invokevirtual 195, 3) := by decide +kernel
theorem dX8_batch_108 : decode cX8_batch 108 = .ok (.putfield 304, 3) := by decide +kernel
theorem dX8_batch_111 : decode cX8_batch 111 = .ok (.aload_n 0, 1) := by decide +kernel
theorem dX8_batch_112 : decode cX8_batch 112 = .ok (.dup, 1) := by decide +kernel
theorem dX8_batch_113 : decode cX8_batch 113 = .ok (.getfield 286, 3) := by decide +kernel
theorem dX8_batch_116 : decode cX8_batch 116 = .ok (.iconst 1, 1) := by decide +kernel
theorem dX8_batch_117 : decode cX8_batch 117 = .ok (.iadd, 1) := by decide +kernel
theorem dX8_batch_118 : decode cX8_batch 118 = .ok (.putfield 286, 3) := by decide +kernel
theorem dX8_batch_121 : decode cX8_batch 121 = .ok (.aload_n 0, 1) := by decide +kernel
theorem dX8_batch_122 : decode cX8_batch 122 = .ok (.getfield 286, 3) := by decide +kernel
theorem dX8_batch_125 : decode cX8_batch 125 = .ok (.iconst 1, 1) := by decide +kernel
theorem dX8_batch_126 : decode cX8_batch 126 = .ok (.isub, 1) := by decide +kernel
theorem dX8_batch_127 : decode cX8_batch 127 = .ok (.ireturn, 1) := by decide +kernel
theorem dX8_work_0 : decode cX8_work 0 = .ok (.aload_n 0, 1) := by decide +kernel
theorem dX8_work_1 : decode cX8_work 1 = .ok (.iload_n 1, 1) := by decide +kernel
theorem dX8_work_2 : decode cX8_work 2 = .ok (.invokevirtual 307, 3) := by decide +kernel
theorem dX8_work_5 : decode cX8_work 5 = .ok (.astore_n 2, 1) := by decide +kernel
theorem dX8_work_6 : decode cX8_work 6 = .ok (.aload_n 2, 1) := by decide +kernel
theorem dX8_work_7 : decode cX8_work 7 = .ok (.getfield 297, 3) := by decide +kernel
theorem dX8_work_10 : decode cX8_work 10 = .ok (.ifCond .eq 22, 3) := by decide +kernel
theorem dX8_work_13 : decode cX8_work 13 = .ok (.aload_n 2, 1) := by decide +kernel
theorem dX8_work_14 : decode cX8_work 14 = .ok (.getfield 297, 3) := by decide +kernel
theorem dX8_work_17 : decode cX8_work 17 = .ok (.iconst 1, 1) := by decide +kernel
theorem dX8_work_18 : decode cX8_work 18 = .ok (.if_icmp .eq 14, 3) := by decide +kernel
theorem dX8_work_21 : decode cX8_work 21 = .ok (.new 77, 3) := by decide +kernel
theorem dX8_work_24 : decode cX8_work 24 = .ok (.dup, 1) := by decide +kernel
theorem dX8_work_25 : decode cX8_work 25 = .ok (.ldc_w 311, 3) := by decide +kernel
theorem dX8_work_28 : decode cX8_work 28 = .ok (.invokespecial 81, 3) := by decide +kernel
theorem dX8_work_31 : decode cX8_work 31 = .ok (.athrow, 1) := by decide +kernel
theorem dX8_work_32 : decode cX8_work 32 = .ok (.aload_n 2, 1) := by decide +kernel
theorem dX8_work_33 : decode cX8_work 33 = .ok (.getfield 297, 3) := by decide +kernel
theorem dX8_work_36 : decode cX8_work 36 = .ok (.ifCond .ne 22, 3) := by decide +kernel
theorem dX8_work_39 : decode cX8_work 39 = .ok (.aload_n 0, 1) := by decide +kernel
theorem dX8_work_40 : decode cX8_work 40 = .ok (.aload_n 2, 1) := by decide +kernel
theorem dX8_work_41 : decode cX8_work 41 = .ok (.invokevirtual 313, 3) := by decide +kernel
theorem dX8_work_44 : decode cX8_work 44 = .ok (.ifCond .ne 14, 3) := by decide +kernel
theorem dX8_work_47 : decode cX8_work 47 = .ok (.new 77, 3) := by decide +kernel
theorem dX8_work_50 : decode cX8_work 50 = .ok (.dup, 1) := by decide +kernel
theorem dX8_work_51 : decode cX8_work 51 = .ok (.ldc_w 317, 3) := by decide +kernel
theorem dX8_work_54 : decode cX8_work 54 = .ok (.invokespecial 81, 3) := by decide +kernel
theorem dX8_work_57 : decode cX8_work 57 = .ok (.athrow, 1) := by decide +kernel
theorem dX8_work_58 : decode cX8_work 58 = .ok (.aload_n 2, 1) := by decide +kernel
theorem dX8_work_59 : decode cX8_work 59 = .ok (.aload_n 2, 1) := by decide +kernel
theorem dX8_work_60 : decode cX8_work 60 = .ok (.getfield 297, 3) := by decide +kernel
theorem dX8_work_63 : decode cX8_work 63 = .ok (.ifCond .ne 7, 3) := by decide +kernel
theorem dX8_work_66 : decode cX8_work 66 = .ok (.iconst 1, 1) := by decide +kernel
theorem dX8_work_67 : decode cX8_work 67 = .ok (.goto 4, 3) := by decide +kernel
theorem dX8_work_70 : decode cX8_work 70 = .ok (.iconst 2, 1) := by decide +kernel
theorem dX8_work_71 : decode cX8_work 71 = .ok (.putfield 297, 3) := by decide +kernel
theorem dX8_work_74 : decode cX8_work 74 = .ok (.aload_n 2, 1) := by decide +kernel
theorem dX8_work_75 : decode cX8_work 75 = .ok (.getfield 297, 3) := by decide +kernel
theorem dX8_work_78 : decode cX8_work 78 = .ok (.ireturn, 1) := by decide +kernel
theorem dX8_batchOf_0 : decode cX8_batchOf 0 = .ok (.aload_n 0, 1) := by decide +kernel
theorem dX8_batchOf_1 : decode cX8_batchOf 1 = .ok (.iload_n 1, 1) := by decide +kernel
theorem dX8_batchOf_2 : decode cX8_batchOf 2 = .ok (.invokevirtual 307, 3) := by decide +kernel
theorem dX8_batchOf_5 : decode cX8_batchOf 5 = .ok (.astore_n 3, 1) := by decide +kernel
theorem dX8_batchOf_6 : decode cX8_batchOf 6 = .ok (.iload_n 2, 1) := by decide +kernel
theorem dX8_batchOf_7 : decode cX8_batchOf 7 = .ok (.tableswitch 49 0 3 #[29, 34, 39, 44], 29) := by decide +kernel
theorem dX8_batchOf_36 : decode cX8_batchOf 36 = .ok (.aload_n 3, 1) := by decide +kernel
theorem dX8_batchOf_37 : decode cX8_batchOf 37 = .ok (.getfield 297, 3) := by decide +kernel
theorem dX8_batchOf_40 : decode cX8_batchOf 40 = .ok (.ireturn, 1) := by decide +kernel
theorem dX8_batchOf_41 : decode cX8_batchOf 41 = .ok (.aload_n 3, 1) := by decide +kernel
theorem dX8_batchOf_42 : decode cX8_batchOf 42 = .ok (.getfield 300, 3) := by decide +kernel
theorem dX8_batchOf_45 : decode cX8_batchOf 45 = .ok (.ireturn, 1) := by decide +kernel
theorem dX8_batchOf_46 : decode cX8_batchOf 46 = .ok (.aload_n 3, 1) := by decide +kernel
theorem dX8_batchOf_47 : decode cX8_batchOf 47 = .ok (.getfield 303, 3) := by decide +kernel
theorem dX8_batchOf_50 : decode cX8_batchOf 50 = .ok (.ireturn, 1) := by decide +kernel
theorem dX8_batchOf_51 : decode cX8_batchOf 51 = .ok (.aload_n 3, 1) := by decide +kernel
theorem dX8_batchOf_52 : decode cX8_batchOf 52 = .ok (.getfield 304, 3) := by decide +kernel
theorem dX8_batchOf_55 : decode cX8_batchOf 55 = .ok (.ireturn, 1) := by decide +kernel
theorem dX8_batchOf_56 : decode cX8_batchOf 56 = .ok (.new 66, 3) := by decide +kernel
theorem dX8_batchOf_59 : decode cX8_batchOf 59 = .ok (.dup, 1) := by decide +kernel
theorem dX8_batchOf_60 : decode cX8_batchOf 60 = .ok (.ldc 162, 2) := by decide +kernel
theorem dX8_batchOf_62 : decode cX8_batchOf 62 = .ok (.invokespecial 70, 3) := by decide +kernel
theorem dX8_batchOf_65 : decode cX8_batchOf 65 = .ok (.athrow, 1) := by decide +kernel
theorem dX8_kits_0 : decode cX8_kits 0 = .ok (.aload_n 0, 1) := by decide +kernel
theorem dX8_kits_1 : decode cX8_kits 1 = .ok (.iload_n 1, 1) := by decide +kernel
theorem dX8_kits_2 : decode cX8_kits 2 = .ok (.invokevirtual 319, 3) := by decide +kernel
theorem dX8_kits_5 : decode cX8_kits 5 = .ok (.aload_n 0, 1) := by decide +kernel
theorem dX8_kits_6 : decode cX8_kits 6 = .ok (.iload_n 1, 1) := by decide +kernel
theorem dX8_kits_7 : decode cX8_kits 7 = .ok (.invokevirtual 323, 3) := by decide +kernel
theorem dX8_kits_10 : decode cX8_kits 10 = .ok (.ireturn, 1) := by decide +kernel
theorem dX8_take_0 : decode cX8_take 0 = .ok (.aload_n 0, 1) := by decide +kernel
theorem dX8_take_1 : decode cX8_take 1 = .ok (.iload_n 1, 1) := by decide +kernel
theorem dX8_take_2 : decode cX8_take 2 = .ok (.invokevirtual 319, 3) := by decide +kernel
theorem dX8_take_5 : decode cX8_take 5 = .ok (.iload_n 2, 1) := by decide +kernel
theorem dX8_take_6 : decode cX8_take 6 = .ok (.iconst 1, 1) := by decide +kernel
theorem dX8_take_7 : decode cX8_take 7 = .ok (.bipush 50, 2) := by decide +kernel
theorem dX8_take_9 : decode cX8_take 9 = .ok (.invokestatic 62, 3) := by decide +kernel
theorem dX8_take_12 : decode cX8_take 12 = .ok (.ifCond .eq 13, 3) := by decide +kernel
theorem dX8_take_15 : decode cX8_take 15 = .ok (.new 66, 3) := by decide +kernel
theorem dX8_take_18 : decode cX8_take 18 = .ok (.dup, 1) := by decide +kernel
theorem dX8_take_19 : decode cX8_take 19 = .ok (.ldc 251, 2) := by decide +kernel
theorem dX8_take_21 : decode cX8_take 21 = .ok (.invokespecial 70, 3) := by decide +kernel
theorem dX8_take_24 : decode cX8_take 24 = .ok (.athrow, 1) := by decide +kernel
theorem dX8_take_25 : decode cX8_take 25 = .ok (.aload_n 0, 1) := by decide +kernel
theorem dX8_take_26 : decode cX8_take 26 = .ok (.iload_n 1, 1) := by decide +kernel
theorem dX8_take_27 : decode cX8_take 27 = .ok (.invokevirtual 323, 3) := by decide +kernel
theorem dX8_take_30 : decode cX8_take 30 = .ok (.iload_n 2, 1) := by decide +kernel
theorem dX8_take_31 : decode cX8_take 31 = .ok (.if_icmp .ge 14, 3) := by decide +kernel
theorem dX8_take_34 : decode cX8_take 34 = .ok (.new 77, 3) := by decide +kernel
theorem dX8_take_37 : decode cX8_take 37 = .ok (.dup, 1) := by decide +kernel
theorem dX8_take_38 : decode cX8_take 38 = .ok (.ldc_w 327, 3) := by decide +kernel
theorem dX8_take_41 : decode cX8_take 41 = .ok (.invokespecial 81, 3) := by decide +kernel
theorem dX8_take_44 : decode cX8_take 44 = .ok (.athrow, 1) := by decide +kernel
theorem dX8_take_45 : decode cX8_take 45 = .ok (.iconst 0, 1) := by decide +kernel
theorem dX8_take_46 : decode cX8_take 46 = .ok (.istore_n 3, 1) := by decide +kernel
theorem dX8_take_47 : decode cX8_take 47 = .ok (.iconst 0, 1) := by decide +kernel
theorem dX8_take_48 : decode cX8_take 48 = .ok (.istore 4, 2) := by decide +kernel
theorem dX8_take_50 : decode cX8_take 50 = .ok (.iload 4, 2) := by decide +kernel
theorem dX8_take_52 : decode cX8_take 52 = .ok (.aload_n 0, 1) := by decide +kernel
theorem dX8_take_53 : decode cX8_take 53 = .ok (.getfield 95, 3) := by decide +kernel
theorem dX8_take_56 : decode cX8_take 56 = .ok (.if_icmp .ge 28, 3) := by decide +kernel
theorem dX8_take_59 : decode cX8_take 59 = .ok (.iload_n 1, 1) := by decide +kernel
theorem dX8_take_60 : decode cX8_take 60 = .ok (.iload 4, 2) := by decide +kernel
theorem dX8_take_62 : decode cX8_take 62 = .ok (.invokestatic 329, 3) := by decide +kernel
theorem dX8_take_65 : decode cX8_take 65 = .ok (.ifCond .eq 13, 3) := by decide +kernel
theorem dX8_take_68 : decode cX8_take 68 = .ok (.iload_n 3, 1) := by decide +kernel
theorem dX8_take_69 : decode cX8_take 69 = .ok (.aload_n 0, 1) := by decide +kernel
theorem dX8_take_70 : decode cX8_take 70 = .ok (.iload 4, 2) := by decide +kernel
theorem dX8_take_72 : decode cX8_take 72 = .ok (.iload_n 2, 1) := by decide +kernel
theorem dX8_take_73 : decode cX8_take 73 = .ok (.invokevirtual 333, 3) := by decide +kernel
theorem dX8_take_76 : decode cX8_take 76 = .ok (.iadd, 1) := by decide +kernel
theorem dX8_take_77 : decode cX8_take 77 = .ok (.istore_n 3, 1) := by decide +kernel
theorem dX8_take_78 : decode cX8_take 78 = .ok (.iinc 4 1, 3) := by decide +kernel
theorem dX8_take_81 : decode cX8_take 81 = .ok (.goto (-31), 3) := by decide +kernel
theorem dX8_take_84 : decode cX8_take 84 = .ok (.iload_n 3, 1) := by decide +kernel
theorem dX8_take_85 : decode cX8_take 85 = .ok (.ireturn, 1) := by decide +kernel
theorem dX8_isOut_0 : decode cX8_isOut 0 = .ok (.iload_n 0, 1) := by decide +kernel
theorem dX8_isOut_1 : decode cX8_isOut 1 = .ok (.iload_n 1, 1) := by decide +kernel
theorem dX8_isOut_2 : decode cX8_isOut 2 = .ok (.if_icmp .lt 8, 3) := by decide +kernel
theorem dX8_isOut_5 : decode cX8_isOut 5 = .ok (.iload_n 0, 1) := by decide +kernel
theorem dX8_isOut_6 : decode cX8_isOut 6 = .ok (.iload_n 2, 1) := by decide +kernel
theorem dX8_isOut_7 : decode cX8_isOut 7 = .ok (.if_icmp .le 7, 3) := by decide +kernel
theorem dX8_isOut_10 : decode cX8_isOut 10 = .ok (.iconst 1, 1) := by decide +kernel
theorem dX8_isOut_11 : decode cX8_isOut 11 = .ok (.goto 4, 3) := by decide +kernel
theorem dX8_isOut_14 : decode cX8_isOut 14 = .ok (.iconst 0, 1) := by decide +kernel
theorem dX8_isOut_15 : decode cX8_isOut 15 = .ok (.ireturn, 1) := by decide +kernel
theorem dX8_hasBit_0 : decode cX8_hasBit 0 = .ok (.iload_n 0, 1) := by decide +kernel
theorem dX8_hasBit_1 : decode cX8_hasBit 1 = .ok (.iload_n 1, 1) := by decide +kernel
theorem dX8_hasBit_2 : decode cX8_hasBit 2 = .ok (.ishr, 1) := by decide +kernel
theorem dX8_hasBit_3 : decode cX8_hasBit 3 = .ok (.iconst 1, 1) := by decide +kernel
theorem dX8_hasBit_4 : decode cX8_hasBit 4 = .ok (.iand, 1) := by decide +kernel
theorem dX8_hasBit_5 : decode cX8_hasBit 5 = .ok (.ifCond .eq 7, 3) := by decide +kernel
theorem dX8_hasBit_8 : decode cX8_hasBit 8 = .ok (.iconst 1, 1) := by decide +kernel
theorem dX8_hasBit_9 : decode cX8_hasBit 9 = .ok (.goto 4, 3) := by decide +kernel
theorem dX8_hasBit_12 : decode cX8_hasBit 12 = .ok (.iconst 0, 1) := by decide +kernel
theorem dX8_hasBit_13 : decode cX8_hasBit 13 = .ok (.ireturn, 1) := by decide +kernel
theorem dX8_partAt_0 : decode cX8_partAt 0 = .ok (.iload_n 1, 1) := by decide +kernel
theorem dX8_partAt_1 : decode cX8_partAt 1 = .ok (.iconst 0, 1) := by decide +kernel
theorem dX8_partAt_2 : decode cX8_partAt 2 = .ok (.aload_n 0, 1) := by decide +kernel
theorem dX8_partAt_3 : decode cX8_partAt 3 = .ok (.getfield 95, 3) := by decide +kernel
theorem dX8_partAt_6 : decode cX8_partAt 6 = .ok (.iconst 1, 1) := by decide +kernel
theorem dX8_partAt_7 : decode cX8_partAt 7 = .ok (.isub, 1) := by decide +kernel
theorem dX8_partAt_8 : decode cX8_partAt 8 = .ok (.invokestatic 62, 3) := by decide +kernel
theorem dX8_partAt_11 : decode cX8_partAt 11 = .ok (.ifCond .eq 14, 3) := by decide +kernel
theorem dX8_partAt_14 : decode cX8_partAt 14 = .ok (.new 131, 3) := by decide +kernel
theorem dX8_partAt_17 : decode cX8_partAt 17 = .ok (.dup, 1) := by decide +kernel
theorem dX8_partAt_18 : decode cX8_partAt 18 = .ok (.ldc_w 336, 3) := by decide +kernel
theorem dX8_partAt_21 : decode cX8_partAt 21 = .ok (.invokespecial 135, 3) := by decide +kernel
theorem dX8_partAt_24 : decode cX8_partAt 24 = .ok (.athrow, 1) := by decide +kernel
theorem dX8_partAt_25 : decode cX8_partAt 25 = .ok (.aload_n 0, 1) := by decide +kernel
theorem dX8_partAt_26 : decode cX8_partAt 26 = .ok (.getfield 18, 3) := by decide +kernel
theorem dX8_partAt_29 : decode cX8_partAt 29 = .ok (.iload_n 1, 1) := by decide +kernel
theorem dX8_partAt_30 : decode cX8_partAt 30 = .ok (.aaload, 1) := by decide +kernel
theorem dX8_partAt_31 : decode cX8_partAt 31 = .ok (.areturn, 1) := by decide +kernel
theorem dX8_toolAt_0 : decode cX8_toolAt 0 = .ok (.iload_n 1, 1) := by decide +kernel
theorem dX8_toolAt_1 : decode cX8_toolAt 1 = .ok (.iconst 0, 1) := by decide +kernel
theorem dX8_toolAt_2 : decode cX8_toolAt 2 = .ok (.aload_n 0, 1) := by decide +kernel
theorem dX8_toolAt_3 : decode cX8_toolAt 3 = .ok (.getfield 166, 3) := by decide +kernel
theorem dX8_toolAt_6 : decode cX8_toolAt 6 = .ok (.iconst 1, 1) := by decide +kernel
theorem dX8_toolAt_7 : decode cX8_toolAt 7 = .ok (.isub, 1) := by decide +kernel
theorem dX8_toolAt_8 : decode cX8_toolAt 8 = .ok (.invokestatic 62, 3) := by decide +kernel
theorem dX8_toolAt_11 : decode cX8_toolAt 11 = .ok (.ifCond .eq 14, 3) := by decide +kernel
theorem dX8_toolAt_14 : decode cX8_toolAt 14 = .ok (.new 131, 3) := by decide +kernel
theorem dX8_toolAt_17 : decode cX8_toolAt 17 = .ok (.dup, 1) := by decide +kernel
theorem dX8_toolAt_18 : decode cX8_toolAt 18 = .ok (.ldc_w 338, 3) := by decide +kernel
theorem dX8_toolAt_21 : decode cX8_toolAt 21 = .ok (.invokespecial 135, 3) := by decide +kernel
theorem dX8_toolAt_24 : decode cX8_toolAt 24 = .ok (.athrow, 1) := by decide +kernel
theorem dX8_toolAt_25 : decode cX8_toolAt 25 = .ok (.aload_n 0, 1) := by decide +kernel
theorem dX8_toolAt_26 : decode cX8_toolAt 26 = .ok (.getfield 24, 3) := by decide +kernel
theorem dX8_toolAt_29 : decode cX8_toolAt 29 = .ok (.iload_n 1, 1) := by decide +kernel
theorem dX8_toolAt_30 : decode cX8_toolAt 30 = .ok (.aaload, 1) := by decide +kernel
theorem dX8_toolAt_31 : decode cX8_toolAt 31 = .ok (.areturn, 1) := by decide +kernel
theorem dX8_batchAt_0 : decode cX8_batchAt 0 = .ok (.iload_n 1, 1) := by decide +kernel
theorem dX8_batchAt_1 : decode cX8_batchAt 1 = .ok (.iconst 0, 1) := by decide +kernel
theorem dX8_batchAt_2 : decode cX8_batchAt 2 = .ok (.aload_n 0, 1) := by decide +kernel
theorem dX8_batchAt_3 : decode cX8_batchAt 3 = .ok (.getfield 286, 3) := by decide +kernel
theorem dX8_batchAt_6 : decode cX8_batchAt 6 = .ok (.iconst 1, 1) := by decide +kernel
theorem dX8_batchAt_7 : decode cX8_batchAt 7 = .ok (.isub, 1) := by decide +kernel
theorem dX8_batchAt_8 : decode cX8_batchAt 8 = .ok (.invokestatic 62, 3) := by decide +kernel
theorem dX8_batchAt_11 : decode cX8_batchAt 11 = .ok (.ifCond .eq 14, 3) := by decide +kernel
theorem dX8_batchAt_14 : decode cX8_batchAt 14 = .ok (.new 131, 3) := by decide +kernel
theorem dX8_batchAt_17 : decode cX8_batchAt 17 = .ok (.dup, 1) := by decide +kernel
theorem dX8_batchAt_18 : decode cX8_batchAt 18 = .ok (.ldc_w 340, 3) := by decide +kernel
theorem dX8_batchAt_21 : decode cX8_batchAt 21 = .ok (.invokespecial 135, 3) := by decide +kernel
theorem dX8_batchAt_24 : decode cX8_batchAt 24 = .ok (.athrow, 1) := by decide +kernel
theorem dX8_batchAt_25 : decode cX8_batchAt 25 = .ok (.aload_n 0, 1) := by decide +kernel
theorem dX8_batchAt_26 : decode cX8_batchAt 26 = .ok (.getfield 34, 3) := by decide +kernel
theorem dX8_batchAt_29 : decode cX8_batchAt 29 = .ok (.iload_n 1, 1) := by decide +kernel
theorem dX8_batchAt_30 : decode cX8_batchAt 30 = .ok (.aaload, 1) := by decide +kernel
theorem dX8_batchAt_31 : decode cX8_batchAt 31 = .ok (.areturn, 1) := by decide +kernel
theorem dX8_checkSheet_0 : decode cX8_checkSheet 0 = .ok (.iload_n 0, 1) := by decide +kernel
theorem dX8_checkSheet_1 : decode cX8_checkSheet 1 = .ok (.bipush 10, 2) := by decide +kernel
theorem dX8_checkSheet_3 : decode cX8_checkSheet 3 = .ok (.sipush 300, 3) := by decide +kernel
theorem dX8_checkSheet_6 : decode cX8_checkSheet 6 = .ok (.invokestatic 62, 3) := by decide +kernel
theorem dX8_checkSheet_9 : decode cX8_checkSheet 9 = .ok (.ifCond .ne 12, 3) := by decide +kernel
theorem dX8_checkSheet_12 : decode cX8_checkSheet 12 = .ok (.iload_n 1, 1) := by decide +kernel
theorem dX8_checkSheet_13 : decode cX8_checkSheet 13 = .ok (.iconst 1, 1) := by decide +kernel
theorem dX8_checkSheet_14 : decode cX8_checkSheet 14 = .ok (.iconst 4, 1) := by decide +kernel
theorem dX8_checkSheet_15 : decode cX8_checkSheet 15 = .ok (.invokestatic 62, 3) := by decide +kernel
theorem dX8_checkSheet_18 : decode cX8_checkSheet 18 = .ok (.ifCond .eq 14, 3) := by decide +kernel
theorem dX8_checkSheet_21 : decode cX8_checkSheet 21 = .ok (.new 66, 3) := by decide +kernel
theorem dX8_checkSheet_24 : decode cX8_checkSheet 24 = .ok (.dup, 1) := by decide +kernel
theorem dX8_checkSheet_25 : decode cX8_checkSheet 25 = .ok (.ldc_w 342, 3) := by decide +kernel
theorem dX8_checkSheet_28 : decode cX8_checkSheet 28 = .ok (.invokespecial 70, 3) := by decide +kernel
theorem dX8_checkSheet_31 : decode cX8_checkSheet 31 = .ok (.athrow, 1) := by decide +kernel
theorem dX8_checkSheet_32 : decode cX8_checkSheet 32 = .ok (.return_, 1) := by decide +kernel
theorem dX8_checkPad_0 : decode cX8_checkPad 0 = .ok (.aload_n 0, 1) := by decide +kernel
theorem dX8_checkPad_1 : decode cX8_checkPad 1 = .ok (.getfield 12, 3) := by decide +kernel
theorem dX8_checkPad_4 : decode cX8_checkPad 4 = .ok (.getfield 73, 3) := by decide +kernel
theorem dX8_checkPad_7 : decode cX8_checkPad 7 = .ok (.ifCond .ne 14, 3) := by decide +kernel
theorem dX8_checkPad_10 : decode cX8_checkPad 10 = .ok (.new 77, 3) := by decide +kernel
theorem dX8_checkPad_13 : decode cX8_checkPad 13 = .ok (.dup, 1) := by decide +kernel
theorem dX8_checkPad_14 : decode cX8_checkPad 14 = .ok (.ldc_w 344, 3) := by decide +kernel
theorem dX8_checkPad_17 : decode cX8_checkPad 17 = .ok (.invokespecial 81, 3) := by decide +kernel
theorem dX8_checkPad_20 : decode cX8_checkPad 20 = .ok (.athrow, 1) := by decide +kernel
theorem dX8_checkPad_21 : decode cX8_checkPad 21 = .ok (.return_, 1) := by decide +kernel
theorem dX8_checkBend_0 : decode cX8_checkBend 0 = .ok (.iload_n 1, 1) := by decide +kernel
theorem dX8_checkBend_1 : decode cX8_checkBend 1 = .ok (.iconst 0, 1) := by decide +kernel
theorem dX8_checkBend_2 : decode cX8_checkBend 2 = .ok (.aload_n 0, 1) := by decide +kernel
theorem dX8_checkBend_3 : decode cX8_checkBend 3 = .ok (.invokevirtual 346, 3) := by decide +kernel
theorem dX8_checkBend_6 : decode cX8_checkBend 6 = .ok (.iconst 1, 1) := by decide +kernel
theorem dX8_checkBend_7 : decode cX8_checkBend 7 = .ok (.isub, 1) := by decide +kernel
theorem dX8_checkBend_8 : decode cX8_checkBend 8 = .ok (.invokestatic 62, 3) := by decide +kernel
theorem dX8_checkBend_11 : decode cX8_checkBend 11 = .ok (.ifCond .eq 14, 3) := by decide +kernel
theorem dX8_checkBend_14 : decode cX8_checkBend 14 = .ok (.new 131, 3) := by decide +kernel
theorem dX8_checkBend_17 : decode cX8_checkBend 17 = .ok (.dup, 1) := by decide +kernel
theorem dX8_checkBend_18 : decode cX8_checkBend 18 = .ok (.ldc_w 349, 3) := by decide +kernel
theorem dX8_checkBend_21 : decode cX8_checkBend 21 = .ok (.invokespecial 135, 3) := by decide +kernel
theorem dX8_checkBend_24 : decode cX8_checkBend 24 = .ok (.athrow, 1) := by decide +kernel
theorem dX8_checkBend_25 : decode cX8_checkBend 25 = .ok (.return_, 1) := by decide +kernel
theorem dX8_checkDone_0 : decode cX8_checkDone 0 = .ok (.iload_n 1, 1) := by decide +kernel
theorem dX8_checkDone_1 : decode cX8_checkDone 1 = .ok (.aload_n 0, 1) := by decide +kernel
theorem dX8_checkDone_2 : decode cX8_checkDone 2 = .ok (.invokevirtual 346, 3) := by decide +kernel
theorem dX8_checkDone_5 : decode cX8_checkDone 5 = .ok (.iushr, 1) := by decide +kernel
theorem dX8_checkDone_6 : decode cX8_checkDone 6 = .ok (.ifCond .ne 11, 3) := by decide +kernel
theorem dX8_checkDone_9 : decode cX8_checkDone 9 = .ok (.iload_n 1, 1) := by decide +kernel
theorem dX8_checkDone_10 : decode cX8_checkDone 10 = .ok (.iload_n 2, 1) := by decide +kernel
theorem dX8_checkDone_11 : decode cX8_checkDone 11 = .ok (.invokestatic 329, 3) := by decide +kernel
theorem dX8_checkDone_14 : decode cX8_checkDone 14 = .ok (.ifCond .eq 14, 3) := by decide +kernel
theorem dX8_checkDone_17 : decode cX8_checkDone 17 = .ok (.new 66, 3) := by decide +kernel
theorem dX8_checkDone_20 : decode cX8_checkDone 20 = .ok (.dup, 1) := by decide +kernel
theorem dX8_checkDone_21 : decode cX8_checkDone 21 = .ok (.ldc_w 351, 3) := by decide +kernel
theorem dX8_checkDone_24 : decode cX8_checkDone 24 = .ok (.invokespecial 70, 3) := by decide +kernel
theorem dX8_checkDone_27 : decode cX8_checkDone 27 = .ok (.athrow, 1) := by decide +kernel
theorem dX8_checkDone_28 : decode cX8_checkDone 28 = .ok (.return_, 1) := by decide +kernel
theorem dX8_checkKit_0 : decode cX8_checkKit 0 = .ok (.iload_n 1, 1) := by decide +kernel
theorem dX8_checkKit_1 : decode cX8_checkKit 1 = .ok (.ifCond .eq 12, 3) := by decide +kernel
theorem dX8_checkKit_4 : decode cX8_checkKit 4 = .ok (.iload_n 1, 1) := by decide +kernel
theorem dX8_checkKit_5 : decode cX8_checkKit 5 = .ok (.aload_n 0, 1) := by decide +kernel
theorem dX8_checkKit_6 : decode cX8_checkKit 6 = .ok (.getfield 95, 3) := by decide +kernel
theorem dX8_checkKit_9 : decode cX8_checkKit 9 = .ok (.iushr, 1) := by decide +kernel
theorem dX8_checkKit_10 : decode cX8_checkKit 10 = .ok (.ifCond .eq 14, 3) := by decide +kernel
theorem dX8_checkKit_13 : decode cX8_checkKit 13 = .ok (.new 66, 3) := by decide +kernel
theorem dX8_checkKit_16 : decode cX8_checkKit 16 = .ok (.dup, 1) := by decide +kernel
theorem dX8_checkKit_17 : decode cX8_checkKit 17 = .ok (.ldc_w 353, 3) := by decide +kernel
theorem dX8_checkKit_20 : decode cX8_checkKit 20 = .ok (.invokespecial 70, 3) := by decide +kernel
theorem dX8_checkKit_23 : decode cX8_checkKit 23 = .ok (.athrow, 1) := by decide +kernel
theorem dX8_checkKit_24 : decode cX8_checkKit 24 = .ok (.return_, 1) := by decide +kernel
theorem dX8_hasBatch_0 : decode cX8_hasBatch 0 = .ok (.iconst 0, 1) := by decide +kernel
theorem dX8_hasBatch_1 : decode cX8_hasBatch 1 = .ok (.istore_n 2, 1) := by decide +kernel
theorem dX8_hasBatch_2 : decode cX8_hasBatch 2 = .ok (.iload_n 2, 1) := by decide +kernel
theorem dX8_hasBatch_3 : decode cX8_hasBatch 3 = .ok (.aload_n 0, 1) := by decide +kernel
theorem dX8_hasBatch_4 : decode cX8_hasBatch 4 = .ok (.getfield 286, 3) := by decide +kernel
theorem dX8_hasBatch_7 : decode cX8_hasBatch 7 = .ok (.if_icmp .ge 37, 3) := by decide +kernel
theorem dX8_hasBatch_10 : decode cX8_hasBatch 10 = .ok (.aload_n 0, 1) := by decide +kernel
theorem dX8_hasBatch_11 : decode cX8_hasBatch 11 = .ok (.getfield 34, 3) := by decide +kernel
theorem dX8_hasBatch_14 : decode cX8_hasBatch 14 = .ok (.iload_n 2, 1) := by decide +kernel
theorem dX8_hasBatch_15 : decode cX8_hasBatch 15 = .ok (.aaload, 1) := by decide +kernel
theorem dX8_hasBatch_16 : decode cX8_hasBatch 16 = .ok (.getfield 291, 3) := by decide +kernel
theorem dX8_hasBatch_19 : decode cX8_hasBatch 19 = .ok (.iload_n 1, 1) := by decide +kernel
theorem dX8_hasBatch_20 : decode cX8_hasBatch 20 = .ok (.if_icmp .ne 18, 3) := by decide +kernel
theorem dX8_hasBatch_23 : decode cX8_hasBatch 23 = .ok (.aload_n 0, 1) := by decide +kernel
theorem dX8_hasBatch_24 : decode cX8_hasBatch 24 = .ok (.getfield 34, 3) := by decide +kernel
theorem dX8_hasBatch_27 : decode cX8_hasBatch 27 = .ok (.iload_n 2, 1) := by decide +kernel
theorem dX8_hasBatch_28 : decode cX8_hasBatch 28 = .ok (.aaload, 1) := by decide +kernel
theorem dX8_hasBatch_29 : decode cX8_hasBatch 29 = .ok (.getfield 297, 3) := by decide +kernel
theorem dX8_hasBatch_32 : decode cX8_hasBatch 32 = .ok (.iconst 3, 1) := by decide +kernel
theorem dX8_hasBatch_33 : decode cX8_hasBatch 33 = .ok (.if_icmp .eq 5, 3) := by decide +kernel
theorem dX8_hasBatch_36 : decode cX8_hasBatch 36 = .ok (.iconst 1, 1) := by decide +kernel
theorem dX8_hasBatch_37 : decode cX8_hasBatch 37 = .ok (.ireturn, 1) := by decide +kernel
theorem dX8_hasBatch_38 : decode cX8_hasBatch 38 = .ok (.iinc 2 1, 3) := by decide +kernel
theorem dX8_hasBatch_41 : decode cX8_hasBatch 41 = .ok (.goto (-39), 3) := by decide +kernel
theorem dX8_hasBatch_44 : decode cX8_hasBatch 44 = .ok (.iconst 0, 1) := by decide +kernel
theorem dX8_hasBatch_45 : decode cX8_hasBatch 45 = .ok (.ireturn, 1) := by decide +kernel
theorem dX8_hasOrder_0 : decode cX8_hasOrder 0 = .ok (.aload_n 0, 1) := by decide +kernel
theorem dX8_hasOrder_1 : decode cX8_hasOrder 1 = .ok (.getfield 48, 3) := by decide +kernel
theorem dX8_hasOrder_4 : decode cX8_hasOrder 4 = .ok (.aload_n 0, 1) := by decide +kernel
theorem dX8_hasOrder_5 : decode cX8_hasOrder 5 = .ok (.getfield 18, 3) := by decide +kernel
theorem dX8_hasOrder_8 : decode cX8_hasOrder 8 = .ok (.aload_n 1, 1) := by decide +kernel
theorem dX8_hasOrder_9 : decode cX8_hasOrder 9 = .ok (.getfield 291, 3) := by decide +kernel
theorem dX8_hasOrder_12 : decode cX8_hasOrder 12 = .ok (.aaload, 1) := by decide +kernel
theorem dX8_hasOrder_13 : decode cX8_hasOrder 13 = .ok (.aload_n 0, 1) := by decide +kernel
theorem dX8_hasOrder_14 : decode cX8_hasOrder 14 = .ok (.getfield 24, 3) := by decide +kernel
theorem dX8_hasOrder_17 : decode cX8_hasOrder 17 = .ok (.aload_n 1, 1) := by decide +kernel
theorem dX8_hasOrder_18 : decode cX8_hasOrder 18 = .ok (.getfield 294, 3) := by decide +kernel
theorem dX8_hasOrder_21 : decode cX8_hasOrder 21 = .ok (.aaload, 1) := by decide +kernel
theorem dX8_hasOrder_22 : decode cX8_hasOrder 22 = .ok (.aload_n 0, 1) := by decide +kernel
theorem dX8_hasOrder_23 : decode cX8_hasOrder 23 = .ok (.getfield 41, 3) := by decide +kernel
theorem dX8_hasOrder_26 : decode cX8_hasOrder 26 = .ok (.invokevirtual 232, 3) := by decide +kernel
theorem dX8_hasOrder_29 : decode cX8_hasOrder 29 = .ok (.aload_n 0, 1) := by decide +kernel
theorem dX8_hasOrder_30 : decode cX8_hasOrder 30 = .ok (.getfield 48, 3) := by decide +kernel
theorem dX8_hasOrder_33 : decode cX8_hasOrder 33 = .ok (.getfield 236, 3) := by decide +kernel
theorem dX8_hasOrder_36 : decode cX8_hasOrder 36 = .ok (.iconst (-1), 1) := by decide +kernel
theorem dX8_hasOrder_37 : decode cX8_hasOrder 37 = .ok (.if_icmp .eq 7, 3) := by decide +kernel
theorem dX8_hasOrder_40 : decode cX8_hasOrder 40 = .ok (.iconst 1, 1) := by decide +kernel
theorem dX8_hasOrder_41 : decode cX8_hasOrder 41 = .ok (.goto 4, 3) := by decide +kernel
theorem dX8_hasOrder_44 : decode cX8_hasOrder 44 = .ok (.iconst 0, 1) := by decide +kernel
theorem dX8_hasOrder_45 : decode cX8_hasOrder 45 = .ok (.ireturn, 1) := by decide +kernel
theorem dX8_changeBatches_0 : decode cX8_changeBatches 0 = .ok (.iconst 0, 1) := by decide +kernel
theorem dX8_changeBatches_1 : decode cX8_changeBatches 1 = .ok (.istore 4, 2) := by decide +kernel
theorem dX8_changeBatches_3 : decode cX8_changeBatches 3 = .ok (.iconst 0, 1) := by decide +kernel
theorem dX8_changeBatches_4 : decode cX8_changeBatches 4 = .ok (.istore 5, 2) := by decide +kernel
theorem dX8_changeBatches_6 : decode cX8_changeBatches 6 = .ok (.iload 5, 2) := by decide +kernel
theorem dX8_changeBatches_8 : decode cX8_changeBatches 8 = .ok (.aload_n 0, 1) := by decide +kernel
theorem dX8_changeBatches_9 : decode cX8_changeBatches 9 = .ok (.getfield 286, 3) := by decide +kernel
theorem dX8_changeBatches_12 : decode cX8_changeBatches 12 = .ok (.if_icmp .ge 127, 3) := by decide +kernel
theorem dX8_changeBatches_15 : decode cX8_changeBatches 15 = .ok (.aload_n 0, 1) := by decide +kernel
theorem dX8_changeBatches_16 : decode cX8_changeBatches 16 = .ok (.getfield 34, 3) := by decide +kernel
theorem dX8_changeBatches_19 : decode cX8_changeBatches 19 = .ok (.iload 5, 2) := by decide +kernel
theorem dX8_changeBatches_21 : decode cX8_changeBatches 21 = .ok (.aaload, 1) := by decide +kernel
theorem dX8_changeBatches_22 : decode cX8_changeBatches 22 = .ok (.astore 6, 2) := by decide +kernel
theorem dX8_changeBatches_24 : decode cX8_changeBatches 24 = .ok (.aload 6, 2) := by decide +kernel
theorem dX8_changeBatches_26 : decode cX8_changeBatches 26 = .ok (.getfield 291, 3) := by decide +kernel
theorem dX8_changeBatches_29 : decode cX8_changeBatches 29 = .ok (.iload_n 1, 1) := by decide +kernel
theorem dX8_changeBatches_30 : decode cX8_changeBatches 30 = .ok (.if_icmp .ne 103, 3) := by decide +kernel
theorem dX8_changeBatches_33 : decode cX8_changeBatches 33 = .ok (.aload 6, 2) := by decide +kernel
theorem dX8_changeBatches_35 : decode cX8_changeBatches 35 = .ok (.getfield 297, 3) := by decide +kernel
theorem dX8_changeBatches_38 : decode cX8_changeBatches 38 = .ok (.iconst 3, 1) := by decide +kernel
theorem dX8_changeBatches_39 : decode cX8_changeBatches 39 = .ok (.if_icmp .ne 6, 3) := by decide +kernel
theorem dX8_changeBatches_42 : decode cX8_changeBatches 42 = .ok (.goto 91, 3) := by decide +kernel
theorem dX8_changeBatches_45 : decode cX8_changeBatches 45 = .ok (.aload 6, 2) := by decide +kernel
theorem dX8_changeBatches_47 : decode cX8_changeBatches 47 = .ok (.getfield 297, 3) := by decide +kernel
theorem dX8_changeBatches_50 : decode cX8_changeBatches 50 = .ok (.ifCond .ne 38, 3) := by decide +kernel
theorem dX8_changeBatches_53 : decode cX8_changeBatches 53 = .ok (.aload 6, 2) := by decide +kernel
theorem dX8_changeBatches_55 : decode cX8_changeBatches 55 = .ok (.getfield 304, 3) := by decide +kernel
theorem dX8_changeBatches_58 : decode cX8_changeBatches 58 = .ok (.aload_n 0, 1) := by decide +kernel
theorem dX8_changeBatches_59 : decode cX8_changeBatches 59 = .ok (.getfield 18, 3) := by decide +kernel
theorem dX8_changeBatches_62 : decode cX8_changeBatches 62 = .ok (.iload_n 1, 1) := by decide +kernel
theorem dX8_changeBatches_63 : decode cX8_changeBatches 63 = .ok (.aaload, 1) := by decide +kernel
theorem dX8_changeBatches_64 : decode cX8_changeBatches 64 = .ok (.aload_n 0, 1) := by decide +kernel
theorem dX8_changeBatches_65 : decode cX8_changeBatches 65 = .ok (.getfield 24, 3) := by decide +kernel
theorem dX8_changeBatches_68 : decode cX8_changeBatches 68 = .ok (.aload 6, 2) := by decide +kernel
theorem dX8_changeBatches_70 : decode cX8_changeBatches 70 = .ok (.getfield 294, 3) := by decide +kernel
theorem dX8_changeBatches_73 : decode cX8_changeBatches 73 = .ok (.aaload, 1) := by decide +kernel
theorem dX8_changeBatches_74 : decode cX8_changeBatches 74 = .ok (.invokevirtual 195, 3) := by decide +kernel
theorem dX8_changeBatches_77 : decode cX8_changeBatches 77 = .ok (.if_icmp .ne 7, 3) := by decide +kernel
theorem dX8_changeBatches_80 : decode cX8_changeBatches 80 = .ok (.iconst 1, 1) := by decide +kernel
theorem dX8_changeBatches_81 : decode cX8_changeBatches 81 = .ok (.goto 8, 3) := by decide +kernel
theorem dX8_changeBatches_84 : decode cX8_changeBatches 84 = .ok (.iconst 0, 1) := by decide +kernel
theorem dX8_changeBatches_85 : decode cX8_changeBatches 85 = .ok (.goto 4, 3) := by decide +kernel
theorem dX8_changeBatches_88 : decode cX8_changeBatches 88 = .ok (.iload_n 3, 1) := by decide +kernel
theorem dX8_changeBatches_89 : decode cX8_changeBatches 89 = .ok (.istore 7, 2) := by decide +kernel
theorem dX8_changeBatches_91 : decode cX8_changeBatches 91 = .ok (.iload_n 2, 1) := by decide +kernel
theorem dX8_changeBatches_92 : decode cX8_changeBatches 92 = .ok (.ifCond .eq 25, 3) := by decide +kernel
theorem dX8_changeBatches_95 : decode cX8_changeBatches 95 = .ok (.iload 7, 2) := by decide +kernel
theorem dX8_changeBatches_97 : decode cX8_changeBatches 97 = .ok (.ifCond .eq 20, 3) := by decide +kernel
theorem dX8_changeBatches_100 : decode cX8_changeBatches 100 = .ok (.aload 6, 2) := by decide +kernel
theorem dX8_changeBatches_102 : decode cX8_changeBatches 102 = .ok (.aload_n 0, 1) := by decide +kernel
theorem dX8_changeBatches_103 : decode cX8_changeBatches 103 = .ok (.getfield 18, 3) := by decide +kernel
theorem dX8_changeBatches_106 : decode cX8_changeBatches 106 = .ok (.iload_n 1, 1) := by decide +kernel
theorem dX8_changeBatches_107 : decode cX8_changeBatches 107 = .ok (.aaload, 1) := by decide +kernel
theorem dX8_changeBatches_108 : decode cX8_changeBatches 108 = .ok (.getfield 124, 3) := by decide +kernel
theorem dX8_changeBatches_111 : decode cX8_changeBatches 111 = .ok (.putfield 303, 3) := by decide +kernel
theorem dX8_changeBatches_114 : decode cX8_changeBatches 114 = .ok (.goto 19, 3) := by decide +kernel
theorem dX8_changeBatches_117 : decode cX8_changeBatches 117 = .ok (.aload 6, 2) := by decide +kernel
theorem dX8_changeBatches_119 : decode cX8_changeBatches 119 = .ok (.iconst 3, 1) := by decide +kernel
theorem dX8_changeBatches_120 : decode cX8_changeBatches 120 = .ok (.putfield 297, 3) := by decide +kernel
theorem dX8_changeBatches_123 : decode cX8_changeBatches 123 = .ok (.iload 4, 2) := by decide +kernel
theorem dX8_changeBatches_125 : decode cX8_changeBatches 125 = .ok (.aload 6, 2) := by decide +kernel
theorem dX8_changeBatches_127 : decode cX8_changeBatches 127 = .ok (.getfield 300, 3) := by decide +kernel
theorem dX8_changeBatches_130 : decode cX8_changeBatches 130 = .ok (.iadd, 1) := by decide +kernel
theorem dX8_changeBatches_131 : decode cX8_changeBatches 131 = .ok (.istore 4, 2) := by decide +kernel
theorem dX8_changeBatches_133 : decode cX8_changeBatches 133 = .ok (.iinc 5 1, 3) := by decide +kernel
theorem dX8_changeBatches_136 : decode cX8_changeBatches 136 = .ok (.goto (-130), 3) := by decide +kernel
theorem dX8_changeBatches_139 : decode cX8_changeBatches 139 = .ok (.iload 4, 2) := by decide +kernel
theorem dX8_changeBatches_141 : decode cX8_changeBatches 141 = .ok (.ireturn, 1) := by decide +kernel
theorem dX8_kitsOf_0 : decode cX8_kitsOf 0 = .ok (.sipush 1000, 3) := by decide +kernel
theorem dX8_kitsOf_3 : decode cX8_kitsOf 3 = .ok (.istore_n 2, 1) := by decide +kernel
theorem dX8_kitsOf_4 : decode cX8_kitsOf 4 = .ok (.iconst 0, 1) := by decide +kernel
theorem dX8_kitsOf_5 : decode cX8_kitsOf 5 = .ok (.istore_n 3, 1) := by decide +kernel
theorem dX8_kitsOf_6 : decode cX8_kitsOf 6 = .ok (.iload_n 3, 1) := by decide +kernel
theorem dX8_kitsOf_7 : decode cX8_kitsOf 7 = .ok (.aload_n 0, 1) := by decide +kernel
theorem dX8_kitsOf_8 : decode cX8_kitsOf 8 = .ok (.getfield 95, 3) := by decide +kernel
theorem dX8_kitsOf_11 : decode cX8_kitsOf 11 = .ok (.if_icmp .ge 27, 3) := by decide +kernel
theorem dX8_kitsOf_14 : decode cX8_kitsOf 14 = .ok (.iload_n 1, 1) := by decide +kernel
theorem dX8_kitsOf_15 : decode cX8_kitsOf 15 = .ok (.iload_n 3, 1) := by decide +kernel
theorem dX8_kitsOf_16 : decode cX8_kitsOf 16 = .ok (.invokestatic 329, 3) := by decide +kernel
theorem dX8_kitsOf_19 : decode cX8_kitsOf 19 = .ok (.ifCond .eq 13, 3) := by decide +kernel
theorem dX8_kitsOf_22 : decode cX8_kitsOf 22 = .ok (.iload_n 2, 1) := by decide +kernel
theorem dX8_kitsOf_23 : decode cX8_kitsOf 23 = .ok (.aload_n 0, 1) := by decide +kernel
theorem dX8_kitsOf_24 : decode cX8_kitsOf 24 = .ok (.iload_n 3, 1) := by decide +kernel
theorem dX8_kitsOf_25 : decode cX8_kitsOf 25 = .ok (.invokevirtual 355, 3) := by decide +kernel
theorem dX8_kitsOf_28 : decode cX8_kitsOf 28 = .ok (.invokestatic 258, 3) := by decide +kernel
theorem dX8_kitsOf_31 : decode cX8_kitsOf 31 = .ok (.istore_n 2, 1) := by decide +kernel
theorem dX8_kitsOf_32 : decode cX8_kitsOf 32 = .ok (.iinc 3 1, 3) := by decide +kernel
theorem dX8_kitsOf_35 : decode cX8_kitsOf 35 = .ok (.goto (-29), 3) := by decide +kernel
theorem dX8_kitsOf_38 : decode cX8_kitsOf 38 = .ok (.iload_n 2, 1) := by decide +kernel
theorem dX8_kitsOf_39 : decode cX8_kitsOf 39 = .ok (.ireturn, 1) := by decide +kernel
theorem dX8_coatedPieces_0 : decode cX8_coatedPieces 0 = .ok (.iconst 0, 1) := by decide +kernel
theorem dX8_coatedPieces_1 : decode cX8_coatedPieces 1 = .ok (.istore_n 2, 1) := by decide +kernel
theorem dX8_coatedPieces_2 : decode cX8_coatedPieces 2 = .ok (.iconst 0, 1) := by decide +kernel
theorem dX8_coatedPieces_3 : decode cX8_coatedPieces 3 = .ok (.istore_n 3, 1) := by decide +kernel
theorem dX8_coatedPieces_4 : decode cX8_coatedPieces 4 = .ok (.iload_n 3, 1) := by decide +kernel
theorem dX8_coatedPieces_5 : decode cX8_coatedPieces 5 = .ok (.aload_n 0, 1) := by decide +kernel
theorem dX8_coatedPieces_6 : decode cX8_coatedPieces 6 = .ok (.getfield 286, 3) := by decide +kernel
theorem dX8_coatedPieces_9 : decode cX8_coatedPieces 9 = .ok (.if_icmp .ge 47, 3) := by decide +kernel
theorem dX8_coatedPieces_12 : decode cX8_coatedPieces 12 = .ok (.aload_n 0, 1) := by decide +kernel
theorem dX8_coatedPieces_13 : decode cX8_coatedPieces 13 = .ok (.getfield 34, 3) := by decide +kernel
theorem dX8_coatedPieces_16 : decode cX8_coatedPieces 16 = .ok (.iload_n 3, 1) := by decide +kernel
theorem dX8_coatedPieces_17 : decode cX8_coatedPieces 17 = .ok (.aaload, 1) := by decide +kernel
theorem dX8_coatedPieces_18 : decode cX8_coatedPieces 18 = .ok (.getfield 291, 3) := by decide +kernel
theorem dX8_coatedPieces_21 : decode cX8_coatedPieces 21 = .ok (.iload_n 1, 1) := by decide +kernel
theorem dX8_coatedPieces_22 : decode cX8_coatedPieces 22 = .ok (.if_icmp .ne 28, 3) := by decide +kernel
theorem dX8_coatedPieces_25 : decode cX8_coatedPieces 25 = .ok (.aload_n 0, 1) := by decide +kernel
theorem dX8_coatedPieces_26 : decode cX8_coatedPieces 26 = .ok (.getfield 34, 3) := by decide +kernel
theorem dX8_coatedPieces_29 : decode cX8_coatedPieces 29 = .ok (.iload_n 3, 1) := by decide +kernel
theorem dX8_coatedPieces_30 : decode cX8_coatedPieces 30 = .ok (.aaload, 1) := by decide +kernel
theorem dX8_coatedPieces_31 : decode cX8_coatedPieces 31 = .ok (.getfield 297, 3) := by decide +kernel
theorem dX8_coatedPieces_34 : decode cX8_coatedPieces 34 = .ok (.iconst 2, 1) := by decide +kernel
theorem dX8_coatedPieces_35 : decode cX8_coatedPieces 35 = .ok (.if_icmp .ne 15, 3) := by decide +kernel
theorem dX8_coatedPieces_38 : decode cX8_coatedPieces 38 = .ok (.iload_n 2, 1) := by decide +kernel
theorem dX8_coatedPieces_39 : decode cX8_coatedPieces 39 = .ok (.aload_n 0, 1) := by decide +kernel
theorem dX8_coatedPieces_40 : decode cX8_coatedPieces 40 = .ok (.getfield 34, 3) := by decide +kernel
theorem dX8_coatedPieces_43 : decode cX8_coatedPieces 43 = .ok (.iload_n 3, 1) := by decide +kernel
theorem dX8_coatedPieces_44 : decode cX8_coatedPieces 44 = .ok (.aaload, 1) := by decide +kernel
theorem dX8_coatedPieces_45 : decode cX8_coatedPieces 45 = .ok (.getfield 300, 3) := by decide +kernel
theorem dX8_coatedPieces_48 : decode cX8_coatedPieces 48 = .ok (.iadd, 1) := by decide +kernel
theorem dX8_coatedPieces_49 : decode cX8_coatedPieces 49 = .ok (.istore_n 2, 1) := by decide +kernel
theorem dX8_coatedPieces_50 : decode cX8_coatedPieces 50 = .ok (.iinc 3 1, 3) := by decide +kernel
theorem dX8_coatedPieces_53 : decode cX8_coatedPieces 53 = .ok (.goto (-49), 3) := by decide +kernel
theorem dX8_coatedPieces_56 : decode cX8_coatedPieces 56 = .ok (.iload_n 2, 1) := by decide +kernel
theorem dX8_coatedPieces_57 : decode cX8_coatedPieces 57 = .ok (.ireturn, 1) := by decide +kernel
theorem dX8_takePieces_0 : decode cX8_takePieces 0 = .ok (.iload_n 2, 1) := by decide +kernel
theorem dX8_takePieces_1 : decode cX8_takePieces 1 = .ok (.istore_n 3, 1) := by decide +kernel
theorem dX8_takePieces_2 : decode cX8_takePieces 2 = .ok (.iconst 0, 1) := by decide +kernel
theorem dX8_takePieces_3 : decode cX8_takePieces 3 = .ok (.istore 4, 2) := by decide +kernel
theorem dX8_takePieces_5 : decode cX8_takePieces 5 = .ok (.iconst 0, 1) := by decide +kernel
theorem dX8_takePieces_6 : decode cX8_takePieces 6 = .ok (.istore 5, 2) := by decide +kernel
theorem dX8_takePieces_8 : decode cX8_takePieces 8 = .ok (.iload 5, 2) := by decide +kernel
theorem dX8_takePieces_10 : decode cX8_takePieces 10 = .ok (.aload_n 0, 1) := by decide +kernel
theorem dX8_takePieces_11 : decode cX8_takePieces 11 = .ok (.getfield 286, 3) := by decide +kernel
theorem dX8_takePieces_14 : decode cX8_takePieces 14 = .ok (.if_icmp .ge 94, 3) := by decide +kernel
theorem dX8_takePieces_17 : decode cX8_takePieces 17 = .ok (.iload_n 3, 1) := by decide +kernel
theorem dX8_takePieces_18 : decode cX8_takePieces 18 = .ok (.ifCond .le 90, 3) := by decide +kernel
theorem dX8_takePieces_21 : decode cX8_takePieces 21 = .ok (.aload_n 0, 1) := by decide +kernel
theorem dX8_takePieces_22 : decode cX8_takePieces 22 = .ok (.getfield 34, 3) := by decide +kernel
theorem dX8_takePieces_25 : decode cX8_takePieces 25 = .ok (.iload 5, 2) := by decide +kernel
theorem dX8_takePieces_27 : decode cX8_takePieces 27 = .ok (.aaload, 1) := by decide +kernel
theorem dX8_takePieces_28 : decode cX8_takePieces 28 = .ok (.astore 6, 2) := by decide +kernel
theorem dX8_takePieces_30 : decode cX8_takePieces 30 = .ok (.aload 6, 2) := by decide +kernel
theorem dX8_takePieces_32 : decode cX8_takePieces 32 = .ok (.getfield 291, 3) := by decide +kernel
theorem dX8_takePieces_35 : decode cX8_takePieces 35 = .ok (.iload_n 1, 1) := by decide +kernel
theorem dX8_takePieces_36 : decode cX8_takePieces 36 = .ok (.if_icmp .ne 66, 3) := by decide +kernel
theorem dX8_takePieces_39 : decode cX8_takePieces 39 = .ok (.aload 6, 2) := by decide +kernel
theorem dX8_takePieces_41 : decode cX8_takePieces 41 = .ok (.getfield 297, 3) := by decide +kernel
theorem dX8_takePieces_44 : decode cX8_takePieces 44 = .ok (.iconst 2, 1) := by decide +kernel
theorem dX8_takePieces_45 : decode cX8_takePieces 45 = .ok (.if_icmp .ne 57, 3) := by decide +kernel
theorem dX8_takePieces_48 : decode cX8_takePieces 48 = .ok (.aload 6, 2) := by decide +kernel
theorem dX8_takePieces_50 : decode cX8_takePieces 50 = .ok (.getfield 300, 3) := by decide +kernel
theorem dX8_takePieces_53 : decode cX8_takePieces 53 = .ok (.ifCond .le 49, 3) := by decide +kernel
theorem dX8_takePieces_56 : decode cX8_takePieces 56 = .ok (.iload_n 3, 1) := by decide +kernel
theorem dX8_takePieces_57 : decode cX8_takePieces 57 = .ok (.aload 6, 2) := by decide +kernel
theorem dX8_takePieces_59 : decode cX8_takePieces 59 = .ok (.getfield 300, 3) := by decide +kernel
theorem dX8_takePieces_62 : decode cX8_takePieces 62 = .ok (.invokestatic 258, 3) := by decide +kernel
theorem dX8_takePieces_65 : decode cX8_takePieces 65 = .ok (.istore 7, 2) := by decide +kernel
theorem dX8_takePieces_67 : decode cX8_takePieces 67 = .ok (.aload 6, 2) := by decide +kernel
theorem dX8_takePieces_69 : decode cX8_takePieces 69 = .ok (.dup, 1) := by decide +kernel
theorem dX8_takePieces_70 : decode cX8_takePieces 70 = .ok (.getfield 300, 3) := by decide +kernel
theorem dX8_takePieces_73 : decode cX8_takePieces 73 = .ok (.iload 7, 2) := by decide +kernel
theorem dX8_takePieces_75 : decode cX8_takePieces 75 = .ok (.isub, 1) := by decide +kernel
theorem dX8_takePieces_76 : decode cX8_takePieces 76 = .ok (.putfield 300, 3) := by decide +kernel
theorem dX8_takePieces_79 : decode cX8_takePieces 79 = .ok (.iload_n 3, 1) := by decide +kernel
theorem dX8_takePieces_80 : decode cX8_takePieces 80 = .ok (.iload 7, 2) := by decide +kernel
theorem dX8_takePieces_82 : decode cX8_takePieces 82 = .ok (.isub, 1) := by decide +kernel
theorem dX8_takePieces_83 : decode cX8_takePieces 83 = .ok (.istore_n 3, 1) := by decide +kernel
theorem dX8_takePieces_84 : decode cX8_takePieces 84 = .ok (.iload 4, 2) := by decide +kernel
theorem dX8_takePieces_86 : decode cX8_takePieces 86 = .ok (.aload 6, 2) := by decide +kernel
theorem dX8_takePieces_88 : decode cX8_takePieces 88 = .ok (.getfield 300, 3) := by decide +kernel
theorem dX8_takePieces_91 : decode cX8_takePieces 91 = .ok (.ifCond .ne 7, 3) := by decide +kernel
theorem dX8_takePieces_94 : decode cX8_takePieces 94 = .ok (.iconst 1, 1) := by decide +kernel
theorem dX8_takePieces_95 : decode cX8_takePieces 95 = .ok (.goto 4, 3) := by decide +kernel
theorem dX8_takePieces_98 : decode cX8_takePieces 98 = .ok (.iconst 0, 1) := by decide +kernel
theorem dX8_takePieces_99 : decode cX8_takePieces 99 = .ok (.iadd, 1) := by decide +kernel
theorem dX8_takePieces_100 : decode cX8_takePieces 100 = .ok (.istore 4, 2) := by decide +kernel
theorem dX8_takePieces_102 : decode cX8_takePieces 102 = .ok (.iinc 5 1, 3) := by decide +kernel
theorem dX8_takePieces_105 : decode cX8_takePieces 105 = .ok (.goto (-97), 3) := by decide +kernel
theorem dX8_takePieces_108 : decode cX8_takePieces 108 = .ok (.iload 4, 2) := by decide +kernel
theorem dX8_takePieces_110 : decode cX8_takePieces 110 = .ok (.ireturn, 1) := by decide +kernel
