theorem dX0_init_0 : decode cX0_init 0 = .ok (.aload_n 0, 1) := by decide +kernel
theorem dX0_init_1 : decode cX0_init 1 = .ok (.invokespecial 1, 3) := by decide +kernel
theorem dX0_init_4 : decode cX0_init 4 = .ok (.return_, 1) := by decide +kernel
theorem dX1_init_0 : decode cX1_init 0 = .ok (.aload_n 0, 1) := by decide +kernel
theorem dX1_init_1 : decode cX1_init 1 = .ok (.invokespecial 3, 3) := by decide +kernel
theorem dX1_init_4 : decode cX1_init 4 = .ok (.aload_n 0, 1) := by decide +kernel
theorem dX1_init_5 : decode cX1_init 5 = .ok (.new 9, 3) := by decide +kernel
theorem dX1_init_8 : decode cX1_init 8 = .ok (.dup, 1) := by decide +kernel
theorem dX1_init_9 : decode cX1_init 9 = .ok (.invokespecial 11, 3) := by decide +kernel
theorem dX1_init_12 : decode cX1_init 12 = .ok (.putfield 12, 3) := by decide +kernel
theorem dX1_init_15 : decode cX1_init 15 = .ok (.aload_n 0, 1) := by decide +kernel
theorem dX1_init_16 : decode cX1_init 16 = .ok (.new 9, 3) := by decide +kernel
theorem dX1_init_19 : decode cX1_init 19 = .ok (.dup, 1) := by decide +kernel
theorem dX1_init_20 : decode cX1_init 20 = .ok (.invokespecial 11, 3) := by decide +kernel
theorem dX1_init_23 : decode cX1_init 23 = .ok (.putfield 18, 3) := by decide +kernel
theorem dX1_init_26 : decode cX1_init 26 = .ok (.return_, 1) := by decide +kernel
theorem dX1_reason_0 : decode cX1_reason 0 = .ok (.aload_n 0, 1) := by decide +kernel
theorem dX1_reason_1 : decode cX1_reason 1 = .ok (.getfield 12, 3) := by decide +kernel
theorem dX1_reason_4 : decode cX1_reason 4 = .ok (.aload_n 1, 1) := by decide +kernel
theorem dX1_reason_5 : decode cX1_reason 5 = .ok (.getfield 21, 3) := by decide +kernel
theorem dX1_reason_8 : decode cX1_reason 8 = .ok (.iload_n 3, 1) := by decide +kernel
theorem dX1_reason_9 : decode cX1_reason 9 = .ok (.iload 4, 2) := by decide +kernel
theorem dX1_reason_11 : decode cX1_reason 11 = .ok (.iconst 1, 1) := by decide +kernel
theorem dX1_reason_12 : decode cX1_reason 12 = .ok (.invokevirtual 27, 3) := by decide +kernel
theorem dX1_reason_15 : decode cX1_reason 15 = .ok (.aload_n 0, 1) := by decide +kernel
theorem dX1_reason_16 : decode cX1_reason 16 = .ok (.getfield 18, 3) := by decide +kernel
theorem dX1_reason_19 : decode cX1_reason 19 = .ok (.aload_n 1, 1) := by decide +kernel
theorem dX1_reason_20 : decode cX1_reason 20 = .ok (.getfield 21, 3) := by decide +kernel
theorem dX1_reason_23 : decode cX1_reason 23 = .ok (.iload_n 3, 1) := by decide +kernel
theorem dX1_reason_24 : decode cX1_reason 24 = .ok (.iload 4, 2) := by decide +kernel
theorem dX1_reason_26 : decode cX1_reason 26 = .ok (.iconst 0, 1) := by decide +kernel
theorem dX1_reason_27 : decode cX1_reason 27 = .ok (.invokevirtual 27, 3) := by decide +kernel
theorem dX1_reason_30 : decode cX1_reason 30 = .ok (.aload_n 0, 1) := by decide +kernel
theorem dX1_reason_31 : decode cX1_reason 31 = .ok (.getfield 12, 3) := by decide +kernel
theorem dX1_reason_34 : decode cX1_reason 34 = .ok (.getfield 31, 3) := by decide +kernel
theorem dX1_reason_37 : decode cX1_reason 37 = .ok (.aload_n 0, 1) := by decide +kernel
theorem dX1_reason_38 : decode cX1_reason 38 = .ok (.getfield 18, 3) := by decide +kernel
theorem dX1_reason_41 : decode cX1_reason 41 = .ok (.getfield 31, 3) := by decide +kernel
theorem dX1_reason_44 : decode cX1_reason 44 = .ok (.invokestatic 35, 3) := by decide +kernel
theorem dX1_reason_47 : decode cX1_reason 47 = .ok (.aload_n 2, 1) := by decide +kernel
theorem dX1_reason_48 : decode cX1_reason 48 = .ok (.getfield 41, 3) := by decide +kernel
theorem dX1_reason_51 : decode cX1_reason 51 = .ok (.iconst 2, 1) := by decide +kernel
theorem dX1_reason_52 : decode cX1_reason 52 = .ok (.idiv, 1) := by decide +kernel
theorem dX1_reason_53 : decode cX1_reason 53 = .ok (.aload_n 1, 1) := by decide +kernel
theorem dX1_reason_54 : decode cX1_reason 54 = .ok (.getfield 46, 3) := by decide +kernel
theorem dX1_reason_57 : decode cX1_reason 57 = .ok (.iadd, 1) := by decide +kernel
theorem dX1_reason_58 : decode cX1_reason 58 = .ok (.if_icmp .ge 5, 3) := by decide +kernel
theorem dX1_reason_61 : decode cX1_reason 61 = .ok (.iconst 1, 1) := by decide +kernel
theorem dX1_reason_62 : decode cX1_reason 62 = .ok (.ireturn, 1) := by decide +kernel
theorem dX1_reason_63 : decode cX1_reason 63 = .ok (.aload_n 0, 1) := by decide +kernel
theorem dX1_reason_64 : decode cX1_reason 64 = .ok (.getfield 12, 3) := by decide +kernel
theorem dX1_reason_67 : decode cX1_reason 67 = .ok (.getfield 31, 3) := by decide +kernel
theorem dX1_reason_70 : decode cX1_reason 70 = .ok (.aload_n 0, 1) := by decide +kernel
theorem dX1_reason_71 : decode cX1_reason 71 = .ok (.getfield 18, 3) := by decide +kernel
theorem dX1_reason_74 : decode cX1_reason 74 = .ok (.getfield 31, 3) := by decide +kernel
theorem dX1_reason_77 : decode cX1_reason 77 = .ok (.invokestatic 35, 3) := by decide +kernel
theorem dX1_reason_80 : decode cX1_reason 80 = .ok (.aload_n 2, 1) := by decide +kernel
theorem dX1_reason_81 : decode cX1_reason 81 = .ok (.getfield 49, 3) := by decide +kernel
theorem dX1_reason_84 : decode cX1_reason 84 = .ok (.if_icmp .le 5, 3) := by decide +kernel
theorem dX1_reason_87 : decode cX1_reason 87 = .ok (.iconst 2, 1) := by decide +kernel
theorem dX1_reason_88 : decode cX1_reason 88 = .ok (.ireturn, 1) := by decide +kernel
theorem dX1_reason_89 : decode cX1_reason 89 = .ok (.aload_n 0, 1) := by decide +kernel
theorem dX1_reason_90 : decode cX1_reason 90 = .ok (.getfield 12, 3) := by decide +kernel
theorem dX1_reason_93 : decode cX1_reason 93 = .ok (.aload_n 2, 1) := by decide +kernel
theorem dX1_reason_94 : decode cX1_reason 94 = .ok (.getfield 52, 3) := by decide +kernel
theorem dX1_reason_97 : decode cX1_reason 97 = .ok (.invokevirtual 55, 3) := by decide +kernel
theorem dX1_reason_100 : decode cX1_reason 100 = .ok (.ifCond .ne 17, 3) := by decide +kernel
theorem dX1_reason_103 : decode cX1_reason 103 = .ok (.aload_n 0, 1) := by decide +kernel
theorem dX1_reason_104 : decode cX1_reason 104 = .ok (.getfield 18, 3) := by decide +kernel
theorem dX1_reason_107 : decode cX1_reason 107 = .ok (.aload_n 2, 1) := by decide +kernel
theorem dX1_reason_108 : decode cX1_reason 108 = .ok (.getfield 52, 3) := by decide +kernel
theorem dX1_reason_111 : decode cX1_reason 111 = .ok (.invokevirtual 55, 3) := by decide +kernel
theorem dX1_reason_114 : decode cX1_reason 114 = .ok (.ifCond .eq 5, 3) := by decide +kernel
theorem dX1_reason_117 : decode cX1_reason 117 = .ok (.iconst 3, 1) := by decide +kernel
theorem dX1_reason_118 : decode cX1_reason 118 = .ok (.ireturn, 1) := by decide +kernel
theorem dX1_reason_119 : decode cX1_reason 119 = .ok (.aload_n 0, 1) := by decide +kernel
theorem dX1_reason_120 : decode cX1_reason 120 = .ok (.getfield 12, 3) := by decide +kernel
theorem dX1_reason_123 : decode cX1_reason 123 = .ok (.aload_n 2, 1) := by decide +kernel
theorem dX1_reason_124 : decode cX1_reason 124 = .ok (.getfield 59, 3) := by decide +kernel
theorem dX1_reason_127 : decode cX1_reason 127 = .ok (.aload_n 2, 1) := by decide +kernel
theorem dX1_reason_128 : decode cX1_reason 128 = .ok (.getfield 62, 3) := by decide +kernel
theorem dX1_reason_131 : decode cX1_reason 131 = .ok (.invokevirtual 65, 3) := by decide +kernel
theorem dX1_reason_134 : decode cX1_reason 134 = .ok (.ifCond .ne 21, 3) := by decide +kernel
theorem dX1_reason_137 : decode cX1_reason 137 = .ok (.aload_n 0, 1) := by decide +kernel
theorem dX1_reason_138 : decode cX1_reason 138 = .ok (.getfield 18, 3) := by decide +kernel
theorem dX1_reason_141 : decode cX1_reason 141 = .ok (.aload_n 2, 1) := by decide +kernel
theorem dX1_reason_142 : decode cX1_reason 142 = .ok (.getfield 59, 3) := by decide +kernel
theorem dX1_reason_145 : decode cX1_reason 145 = .ok (.aload_n 2, 1) := by decide +kernel
theorem dX1_reason_146 : decode cX1_reason 146 = .ok (.getfield 62, 3) := by decide +kernel
theorem dX1_reason_149 : decode cX1_reason 149 = .ok (.invokevirtual 65, 3) := by decide +kernel
theorem dX1_reason_152 : decode cX1_reason 152 = .ok (.ifCond .eq 5, 3) := by decide +kernel
theorem dX1_reason_155 : decode cX1_reason 155 = .ok (.iconst 4, 1) := by decide +kernel
theorem dX1_reason_156 : decode cX1_reason 156 = .ok (.ireturn, 1) := by decide +kernel
theorem dX1_reason_157 : decode cX1_reason 157 = .ok (.iconst 0, 1) := by decide +kernel
theorem dX1_reason_158 : decode cX1_reason 158 = .ok (.ireturn, 1) := by decide +kernel
theorem dX2_init_0 : decode cX2_init 0 = .ok (.aload_n 0, 1) := by decide +kernel
theorem dX2_init_1 : decode cX2_init 1 = .ok (.invokespecial 3, 3) := by decide +kernel
theorem dX2_init_4 : decode cX2_init 4 = .ok (.aload_n 0, 1) := by decide +kernel
theorem dX2_init_5 : decode cX2_init 5 = .ok (.bipush 6, 2) := by decide +kernel
theorem dX2_init_7 : decode cX2_init 7 = .ok (.newarray .int, 2) := by decide +kernel
theorem dX2_init_9 : decode cX2_init 9 = .ok (.putfield 9, 3) := by decide +kernel
theorem dX2_init_12 : decode cX2_init 12 = .ok (.aload_n 0, 1) := by decide +kernel
theorem dX2_init_13 : decode cX2_init 13 = .ok (.bipush 6, 2) := by decide +kernel
theorem dX2_init_15 : decode cX2_init 15 = .ok (.newarray .int, 2) := by decide +kernel
theorem dX2_init_17 : decode cX2_init 17 = .ok (.putfield 15, 3) := by decide +kernel
theorem dX2_init_20 : decode cX2_init 20 = .ok (.return_, 1) := by decide +kernel
theorem dX2_bends_0 : decode cX2_bends 0 = .ok (.aload_n 0, 1) := by decide +kernel
theorem dX2_bends_1 : decode cX2_bends 1 = .ok (.getfield 18, 3) := by decide +kernel
theorem dX2_bends_4 : decode cX2_bends 4 = .ok (.ifCond .le 12, 3) := by decide +kernel
theorem dX2_bends_7 : decode cX2_bends 7 = .ok (.aload_n 0, 1) := by decide +kernel
theorem dX2_bends_8 : decode cX2_bends 8 = .ok (.getfield 18, 3) := by decide +kernel
theorem dX2_bends_11 : decode cX2_bends 11 = .ok (.iconst 1, 1) := by decide +kernel
theorem dX2_bends_12 : decode cX2_bends 12 = .ok (.isub, 1) := by decide +kernel
theorem dX2_bends_13 : decode cX2_bends 13 = .ok (.goto 4, 3) := by decide +kernel
theorem dX2_bends_16 : decode cX2_bends 16 = .ok (.iconst 0, 1) := by decide +kernel
theorem dX2_bends_17 : decode cX2_bends 17 = .ok (.ireturn, 1) := by decide +kernel
theorem dX2_directionOf_0 : decode cX2_directionOf 0 = .ok (.aload_n 0, 1) := by decide +kernel
theorem dX2_directionOf_1 : decode cX2_directionOf 1 = .ok (.getfield 15, 3) := by decide +kernel
theorem dX2_directionOf_4 : decode cX2_directionOf 4 = .ok (.iload_n 1, 1) := by decide +kernel
theorem dX2_directionOf_5 : decode cX2_directionOf 5 = .ok (.iconst 1, 1) := by decide +kernel
theorem dX2_directionOf_6 : decode cX2_directionOf 6 = .ok (.iadd, 1) := by decide +kernel
theorem dX2_directionOf_7 : decode cX2_directionOf 7 = .ok (.iaload, 1) := by decide +kernel
theorem dX2_directionOf_8 : decode cX2_directionOf 8 = .ok (.ireturn, 1) := by decide +kernel
theorem dX2_wingFaces_0 : decode cX2_wingFaces 0 = .ok (.iload_n 2, 1) := by decide +kernel
theorem dX2_wingFaces_1 : decode cX2_wingFaces 1 = .ok (.ifCond .eq 14, 3) := by decide +kernel
theorem dX2_wingFaces_4 : decode cX2_wingFaces 4 = .ok (.aload_n 0, 1) := by decide +kernel
theorem dX2_wingFaces_5 : decode cX2_wingFaces 5 = .ok (.getfield 18, 3) := by decide +kernel
theorem dX2_wingFaces_8 : decode cX2_wingFaces 8 = .ok (.iconst 1, 1) := by decide +kernel
theorem dX2_wingFaces_9 : decode cX2_wingFaces 9 = .ok (.isub, 1) := by decide +kernel
theorem dX2_wingFaces_10 : decode cX2_wingFaces 10 = .ok (.iload_n 1, 1) := by decide +kernel
theorem dX2_wingFaces_11 : decode cX2_wingFaces 11 = .ok (.isub, 1) := by decide +kernel
theorem dX2_wingFaces_12 : decode cX2_wingFaces 12 = .ok (.goto 6, 3) := by decide +kernel
theorem dX2_wingFaces_15 : decode cX2_wingFaces 15 = .ok (.iload_n 1, 1) := by decide +kernel
theorem dX2_wingFaces_16 : decode cX2_wingFaces 16 = .ok (.iconst 1, 1) := by decide +kernel
theorem dX2_wingFaces_17 : decode cX2_wingFaces 17 = .ok (.iadd, 1) := by decide +kernel
theorem dX2_wingFaces_18 : decode cX2_wingFaces 18 = .ok (.ireturn, 1) := by decide +kernel
theorem dX2_flatLength_0 : decode cX2_flatLength 0 = .ok (.iconst 0, 1) := by decide +kernel
theorem dX2_flatLength_1 : decode cX2_flatLength 1 = .ok (.istore_n 1, 1) := by decide +kernel
theorem dX2_flatLength_2 : decode cX2_flatLength 2 = .ok (.iconst 0, 1) := by decide +kernel
theorem dX2_flatLength_3 : decode cX2_flatLength 3 = .ok (.istore_n 2, 1) := by decide +kernel
theorem dX2_flatLength_4 : decode cX2_flatLength 4 = .ok (.iload_n 2, 1) := by decide +kernel
theorem dX2_flatLength_5 : decode cX2_flatLength 5 = .ok (.aload_n 0, 1) := by decide +kernel
theorem dX2_flatLength_6 : decode cX2_flatLength 6 = .ok (.getfield 18, 3) := by decide +kernel
theorem dX2_flatLength_9 : decode cX2_flatLength 9 = .ok (.if_icmp .ge 18, 3) := by decide +kernel
theorem dX2_flatLength_12 : decode cX2_flatLength 12 = .ok (.iload_n 1, 1) := by decide +kernel
theorem dX2_flatLength_13 : decode cX2_flatLength 13 = .ok (.aload_n 0, 1) := by decide +kernel
theorem dX2_flatLength_14 : decode cX2_flatLength 14 = .ok (.getfield 9, 3) := by decide +kernel
theorem dX2_flatLength_17 : decode cX2_flatLength 17 = .ok (.iload_n 2, 1) := by decide +kernel
theorem dX2_flatLength_18 : decode cX2_flatLength 18 = .ok (.iaload, 1) := by decide +kernel
theorem dX2_flatLength_19 : decode cX2_flatLength 19 = .ok (.iadd, 1) := by decide +kernel
theorem dX2_flatLength_20 : decode cX2_flatLength 20 = .ok (.istore_n 1, 1) := by decide +kernel
theorem dX2_flatLength_21 : decode cX2_flatLength 21 = .ok (.iinc 2 1, 3) := by decide +kernel
theorem dX2_flatLength_24 : decode cX2_flatLength 24 = .ok (.goto (-20), 3) := by decide +kernel
theorem dX2_flatLength_27 : decode cX2_flatLength 27 = .ok (.iload_n 1, 1) := by decide +kernel
theorem dX2_flatLength_28 : decode cX2_flatLength 28 = .ok (.ireturn, 1) := by decide +kernel
theorem dX2_copy_0 : decode cX2_copy 0 = .ok (.aload_n 0, 1) := by decide +kernel
theorem dX2_copy_1 : decode cX2_copy 1 = .ok (.aload_n 1, 1) := by decide +kernel
theorem dX2_copy_2 : decode cX2_copy 2 = .ok (.getfield 18, 3) := by decide +kernel
theorem dX2_copy_5 : decode cX2_copy 5 = .ok (.putfield 18, 3) := by decide +kernel
theorem dX2_copy_8 : decode cX2_copy 8 = .ok (.iconst 0, 1) := by decide +kernel
theorem dX2_copy_9 : decode cX2_copy 9 = .ok (.istore_n 2, 1) := by decide +kernel
theorem dX2_copy_10 : decode cX2_copy 10 = .ok (.iload_n 2, 1) := by decide +kernel
theorem dX2_copy_11 : decode cX2_copy 11 = .ok (.bipush 6, 2) := by decide +kernel
theorem dX2_copy_13 : decode cX2_copy 13 = .ok (.if_icmp .ge 33, 3) := by decide +kernel
theorem dX2_copy_16 : decode cX2_copy 16 = .ok (.aload_n 0, 1) := by decide +kernel
theorem dX2_copy_17 : decode cX2_copy 17 = .ok (.getfield 9, 3) := by decide +kernel
theorem dX2_copy_20 : decode cX2_copy 20 = .ok (.iload_n 2, 1) := by decide +kernel
theorem dX2_copy_21 : decode cX2_copy 21 = .ok (.aload_n 1, 1) := by decide +kernel
theorem dX2_copy_22 : decode cX2_copy 22 = .ok (.getfield 9, 3) := by decide +kernel
theorem dX2_copy_25 : decode cX2_copy 25 = .ok (.iload_n 2, 1) := by decide +kernel
theorem dX2_copy_26 : decode cX2_copy 26 = .ok (.iaload, 1) := by decide +kernel
theorem dX2_copy_27 : decode cX2_copy 27 = .ok (.iastore, 1) := by decide +kernel
theorem dX2_copy_28 : decode cX2_copy 28 = .ok (.aload_n 0, 1) := by decide +kernel
theorem dX2_copy_29 : decode cX2_copy 29 = .ok (.getfield 15, 3) := by decide +kernel
theorem dX2_copy_32 : decode cX2_copy 32 = .ok (.iload_n 2, 1) := by decide +kernel
theorem dX2_copy_33 : decode cX2_copy 33 = .ok (.aload_n 1, 1) := by decide +kernel
theorem dX2_copy_34 : decode cX2_copy 34 = .ok (.getfield 15, 3) := by decide +kernel
theorem dX2_copy_37 : decode cX2_copy 37 = .ok (.iload_n 2, 1) := by decide +kernel
theorem dX2_copy_38 : decode cX2_copy 38 = .ok (.iaload, 1) := by decide +kernel
theorem dX2_copy_39 : decode cX2_copy 39 = .ok (.iastore, 1) := by decide +kernel
theorem dX2_copy_40 : decode cX2_copy 40 = .ok (.iinc 2 1, 3) := by decide +kernel
theorem dX2_copy_43 : decode cX2_copy 43 = .ok (.goto (-33), 3) := by decide +kernel
theorem dX2_copy_46 : decode cX2_copy 46 = .ok (.return_, 1) := by decide +kernel
theorem dX2_isAs_0 : decode cX2_isAs 0 = .ok (.aload_n 0, 1) := by decide +kernel
theorem dX2_isAs_1 : decode cX2_isAs 1 = .ok (.getfield 18, 3) := by decide +kernel
theorem dX2_isAs_4 : decode cX2_isAs 4 = .ok (.aload_n 1, 1) := by decide +kernel
theorem dX2_isAs_5 : decode cX2_isAs 5 = .ok (.getfield 18, 3) := by decide +kernel
theorem dX2_isAs_8 : decode cX2_isAs 8 = .ok (.if_icmp .eq 5, 3) := by decide +kernel
theorem dX2_isAs_11 : decode cX2_isAs 11 = .ok (.iconst 0, 1) := by decide +kernel
theorem dX2_isAs_12 : decode cX2_isAs 12 = .ok (.ireturn, 1) := by decide +kernel
theorem dX2_isAs_13 : decode cX2_isAs 13 = .ok (.iconst 0, 1) := by decide +kernel
theorem dX2_isAs_14 : decode cX2_isAs 14 = .ok (.istore_n 2, 1) := by decide +kernel
theorem dX2_isAs_15 : decode cX2_isAs 15 = .ok (.iload_n 2, 1) := by decide +kernel
theorem dX2_isAs_16 : decode cX2_isAs 16 = .ok (.aload_n 0, 1) := by decide +kernel
theorem dX2_isAs_17 : decode cX2_isAs 17 = .ok (.getfield 18, 3) := by decide +kernel
theorem dX2_isAs_20 : decode cX2_isAs 20 = .ok (.if_icmp .ge 55, 3) := by decide +kernel
theorem dX2_isAs_23 : decode cX2_isAs 23 = .ok (.iload_n 2, 1) := by decide +kernel
theorem dX2_isAs_24 : decode cX2_isAs 24 = .ok (.ifCond .le 22, 3) := by decide +kernel
theorem dX2_isAs_27 : decode cX2_isAs 27 = .ok (.aload_n 0, 1) := by decide +kernel
theorem dX2_isAs_28 : decode cX2_isAs 28 = .ok (.getfield 15, 3) := by decide +kernel
theorem dX2_isAs_31 : decode cX2_isAs 31 = .ok (.iload_n 2, 1) := by decide +kernel
theorem dX2_isAs_32 : decode cX2_isAs 32 = .ok (.iaload, 1) := by decide +kernel
theorem dX2_isAs_33 : decode cX2_isAs 33 = .ok (.aload_n 1, 1) := by decide +kernel
theorem dX2_isAs_34 : decode cX2_isAs 34 = .ok (.getfield 15, 3) := by decide +kernel
theorem dX2_isAs_37 : decode cX2_isAs 37 = .ok (.iload_n 2, 1) := by decide +kernel
theorem dX2_isAs_38 : decode cX2_isAs 38 = .ok (.iaload, 1) := by decide +kernel
theorem dX2_isAs_39 : decode cX2_isAs 39 = .ok (.if_icmp .eq 7, 3) := by decide +kernel
theorem dX2_isAs_42 : decode cX2_isAs 42 = .ok (.iconst 1, 1) := by decide +kernel
theorem dX2_isAs_43 : decode cX2_isAs 43 = .ok (.goto 4, 3) := by decide +kernel
theorem dX2_isAs_46 : decode cX2_isAs 46 = .ok (.iconst 0, 1) := by decide +kernel
theorem dX2_isAs_47 : decode cX2_isAs 47 = .ok (.istore_n 3, 1) := by decide +kernel
theorem dX2_isAs_48 : decode cX2_isAs 48 = .ok (.iload_n 3, 1) := by decide +kernel
theorem dX2_isAs_49 : decode cX2_isAs 49 = .ok (.ifCond .ne 18, 3) := by decide +kernel
theorem dX2_isAs_52 : decode cX2_isAs 52 = .ok (.aload_n 0, 1) := by decide +kernel
theorem dX2_isAs_53 : decode cX2_isAs 53 = .ok (.getfield 9, 3) := by decide +kernel
theorem dX2_isAs_56 : decode cX2_isAs 56 = .ok (.iload_n 2, 1) := by decide +kernel
theorem dX2_isAs_57 : decode cX2_isAs 57 = .ok (.iaload, 1) := by decide +kernel
theorem dX2_isAs_58 : decode cX2_isAs 58 = .ok (.aload_n 1, 1) := by decide +kernel
theorem dX2_isAs_59 : decode cX2_isAs 59 = .ok (.getfield 9, 3) := by decide +kernel
theorem dX2_isAs_62 : decode cX2_isAs 62 = .ok (.iload_n 2, 1) := by decide +kernel
theorem dX2_isAs_63 : decode cX2_isAs 63 = .ok (.iaload, 1) := by decide +kernel
theorem dX2_isAs_64 : decode cX2_isAs 64 = .ok (.if_icmp .eq 5, 3) := by decide +kernel
theorem dX2_isAs_67 : decode cX2_isAs 67 = .ok (.iconst 0, 1) := by decide +kernel
theorem dX2_isAs_68 : decode cX2_isAs 68 = .ok (.ireturn, 1) := by decide +kernel
theorem dX2_isAs_69 : decode cX2_isAs 69 = .ok (.iinc 2 1, 3) := by decide +kernel
theorem dX2_isAs_72 : decode cX2_isAs 72 = .ok (.goto (-57), 3) := by decide +kernel
theorem dX2_isAs_75 : decode cX2_isAs 75 = .ok (.iconst 1, 1) := by decide +kernel
theorem dX2_isAs_76 : decode cX2_isAs 76 = .ok (.ireturn, 1) := by decide +kernel
theorem dX3_init_0 : decode cX3_init 0 = .ok (.aload_n 0, 1) := by decide +kernel
theorem dX3_init_1 : decode cX3_init 1 = .ok (.invokespecial 3, 3) := by decide +kernel
theorem dX3_init_4 : decode cX3_init 4 = .ok (.aload_n 0, 1) := by decide +kernel
theorem dX3_init_5 : decode cX3_init 5 = .ok (.bipush 8, 2) := by decide +kernel
theorem dX3_init_7 : decode cX3_init 7 = .ok (.newarray .int, 2) := by decide +kernel
theorem dX3_init_9 : decode cX3_init 9 = .ok (.putfield 9, 3) := by decide +kernel
theorem dX3_init_12 : decode cX3_init 12 = .ok (.aload_n 0, 1) := by decide +kernel
theorem dX3_init_13 : decode cX3_init 13 = .ok (.bipush 8, 2) := by decide +kernel
theorem dX3_init_15 : decode cX3_init 15 = .ok (.newarray .int, 2) := by decide +kernel
theorem dX3_init_17 : decode cX3_init 17 = .ok (.putfield 15, 3) := by decide +kernel
theorem dX3_init_20 : decode cX3_init 20 = .ok (.aload_n 0, 1) := by decide +kernel
theorem dX3_init_21 : decode cX3_init 21 = .ok (.bipush 8, 2) := by decide +kernel
theorem dX3_init_23 : decode cX3_init 23 = .ok (.newarray .int, 2) := by decide +kernel
theorem dX3_init_25 : decode cX3_init 25 = .ok (.putfield 18, 3) := by decide +kernel
theorem dX3_init_28 : decode cX3_init 28 = .ok (.aload_n 0, 1) := by decide +kernel
theorem dX3_init_29 : decode cX3_init 29 = .ok (.bipush 40, 2) := by decide +kernel
theorem dX3_init_31 : decode cX3_init 31 = .ok (.newarray .int, 2) := by decide +kernel
theorem dX3_init_33 : decode cX3_init 33 = .ok (.putfield 21, 3) := by decide +kernel
theorem dX3_init_36 : decode cX3_init 36 = .ok (.aload_n 0, 1) := by decide +kernel
theorem dX3_init_37 : decode cX3_init 37 = .ok (.bipush 40, 2) := by decide +kernel
theorem dX3_init_39 : decode cX3_init 39 = .ok (.newarray .int, 2) := by decide +kernel
theorem dX3_init_41 : decode cX3_init 41 = .ok (.putfield 24, 3) := by decide +kernel
theorem dX3_init_44 : decode cX3_init 44 = .ok (.aload_n 0, 1) := by decide +kernel
theorem dX3_init_45 : decode cX3_init 45 = .ok (.bipush 40, 2) := by decide +kernel
theorem dX3_init_47 : decode cX3_init 47 = .ok (.newarray .int, 2) := by decide +kernel
theorem dX3_init_49 : decode cX3_init 49 = .ok (.putfield 27, 3) := by decide +kernel
theorem dX3_init_52 : decode cX3_init 52 = .ok (.aload_n 0, 1) := by decide +kernel
theorem dX3_init_53 : decode cX3_init 53 = .ok (.bipush 40, 2) := by decide +kernel
theorem dX3_init_55 : decode cX3_init 55 = .ok (.newarray .int, 2) := by decide +kernel
theorem dX3_init_57 : decode cX3_init 57 = .ok (.putfield 30, 3) := by decide +kernel
theorem dX3_init_60 : decode cX3_init 60 = .ok (.aload_n 0, 1) := by decide +kernel
theorem dX3_init_61 : decode cX3_init 61 = .ok (.bipush 40, 2) := by decide +kernel
theorem dX3_init_63 : decode cX3_init 63 = .ok (.newarray .int, 2) := by decide +kernel
theorem dX3_init_65 : decode cX3_init 65 = .ok (.putfield 33, 3) := by decide +kernel
theorem dX3_init_68 : decode cX3_init 68 = .ok (.return_, 1) := by decide +kernel
theorem dX3_start_0 : decode cX3_start 0 = .ok (.aload_n 0, 1) := by decide +kernel
theorem dX3_start_1 : decode cX3_start 1 = .ok (.iload_n 1, 1) := by decide +kernel
theorem dX3_start_2 : decode cX3_start 2 = .ok (.putfield 36, 3) := by decide +kernel
theorem dX3_start_5 : decode cX3_start 5 = .ok (.aload_n 0, 1) := by decide +kernel
theorem dX3_start_6 : decode cX3_start 6 = .ok (.iload_n 2, 1) := by decide +kernel
theorem dX3_start_7 : decode cX3_start 7 = .ok (.putfield 40, 3) := by decide +kernel
theorem dX3_start_10 : decode cX3_start 10 = .ok (.aload_n 0, 1) := by decide +kernel
theorem dX3_start_11 : decode cX3_start 11 = .ok (.iconst 0, 1) := by decide +kernel
theorem dX3_start_12 : decode cX3_start 12 = .ok (.putfield 43, 3) := by decide +kernel
theorem dX3_start_15 : decode cX3_start 15 = .ok (.aload_n 0, 1) := by decide +kernel
theorem dX3_start_16 : decode cX3_start 16 = .ok (.iconst 0, 1) := by decide +kernel
theorem dX3_start_17 : decode cX3_start 17 = .ok (.putfield 46, 3) := by decide +kernel
theorem dX3_start_20 : decode cX3_start 20 = .ok (.aload_n 0, 1) := by decide +kernel
theorem dX3_start_21 : decode cX3_start 21 = .ok (.iconst 0, 1) := by decide +kernel
theorem dX3_start_22 : decode cX3_start 22 = .ok (.putfield 49, 3) := by decide +kernel
theorem dX3_start_25 : decode cX3_start 25 = .ok (.aload_n 0, 1) := by decide +kernel
theorem dX3_start_26 : decode cX3_start 26 = .ok (.lconst 0, 1) := by decide +kernel
theorem dX3_start_27 : decode cX3_start 27 = .ok (.putfield 52, 3) := by decide +kernel
theorem dX3_start_30 : decode cX3_start 30 = .ok (.aload_n 0, 1) := by decide +kernel
theorem dX3_start_31 : decode cX3_start 31 = .ok (.lconst 0, 1) := by decide +kernel
theorem dX3_start_32 : decode cX3_start 32 = .ok (.putfield 56, 3) := by decide +kernel
theorem dX3_start_35 : decode cX3_start 35 = .ok (.return_, 1) := by decide +kernel
theorem dX3_addKind_0 : decode cX3_addKind 0 = .ok (.aload_n 0, 1) := by decide +kernel
theorem dX3_addKind_1 : decode cX3_addKind 1 = .ok (.getfield 43, 3) := by decide +kernel
theorem dX3_addKind_4 : decode cX3_addKind 4 = .ok (.bipush 8, 2) := by decide +kernel
theorem dX3_addKind_6 : decode cX3_addKind 6 = .ok (.if_icmp .lt 4, 3) := by decide +kernel
theorem dX3_addKind_9 : decode cX3_addKind 9 = .ok (.return_, 1) := by decide +kernel
theorem dX3_addKind_10 : decode cX3_addKind 10 = .ok (.iload_n 1, 1) := by decide +kernel
theorem dX3_addKind_11 : decode cX3_addKind 11 = .ok (.iload_n 2, 1) := by decide +kernel
theorem dX3_addKind_12 : decode cX3_addKind 12 = .ok (.invokestatic 59, 3) := by decide +kernel
theorem dX3_addKind_15 : decode cX3_addKind 15 = .ok (.istore 4, 2) := by decide +kernel
theorem dX3_addKind_17 : decode cX3_addKind 17 = .ok (.iload_n 1, 1) := by decide +kernel
theorem dX3_addKind_18 : decode cX3_addKind 18 = .ok (.iload_n 2, 1) := by decide +kernel
theorem dX3_addKind_19 : decode cX3_addKind 19 = .ok (.invokestatic 65, 3) := by decide +kernel
theorem dX3_addKind_22 : decode cX3_addKind 22 = .ok (.istore 5, 2) := by decide +kernel
theorem dX3_addKind_24 : decode cX3_addKind 24 = .ok (.aload_n 0, 1) := by decide +kernel
theorem dX3_addKind_25 : decode cX3_addKind 25 = .ok (.getfield 43, 3) := by decide +kernel
theorem dX3_addKind_28 : decode cX3_addKind 28 = .ok (.istore 6, 2) := by decide +kernel
theorem dX3_addKind_30 : decode cX3_addKind 30 = .ok (.iload 6, 2) := by decide +kernel
theorem dX3_addKind_32 : decode cX3_addKind 32 = .ok (.ifCond .le 72, 3) := by decide +kernel
theorem dX3_addKind_35 : decode cX3_addKind 35 = .ok (.aload_n 0, 1) := by decide +kernel
theorem dX3_addKind_36 : decode cX3_addKind 36 = .ok (.iload 4, 2) := by decide +kernel
theorem dX3_addKind_38 : decode cX3_addKind 38 = .ok (.iload 5, 2) := by decide +kernel
theorem dX3_addKind_40 : decode cX3_addKind 40 = .ok (.iload 6, 2) := by decide +kernel
theorem dX3_addKind_42 : decode cX3_addKind 42 = .ok (.iconst 1, 1) := by decide +kernel
theorem dX3_addKind_43 : decode cX3_addKind 43 = .ok (.isub, 1) := by decide +kernel
theorem dX3_addKind_44 : decode cX3_addKind 44 = .ok (.invokevirtual 68, 3) := by decide +kernel
theorem dX3_addKind_47 : decode cX3_addKind 47 = .ok (.ifCond .eq 57, 3) := by decide +kernel
theorem dX3_addKind_50 : decode cX3_addKind 50 = .ok (.aload_n 0, 1) := by decide +kernel
theorem dX3_addKind_51 : decode cX3_addKind 51 = .ok (.getfield 9, 3) := by decide +kernel
theorem dX3_addKind_54 : decode cX3_addKind 54 = .ok (.iload 6, 2) := by decide +kernel
theorem dX3_addKind_56 : decode cX3_addKind 56 = .ok (.aload_n 0, 1) := by decide +kernel
theorem dX3_addKind_57 : decode cX3_addKind 57 = .ok (.getfield 9, 3) := by decide +kernel
theorem dX3_addKind_60 : decode cX3_addKind 60 = .ok (.iload 6, 2) := by decide +kernel
theorem dX3_addKind_62 : decode cX3_addKind 62 = .ok (.iconst 1, 1) := by decide +kernel
theorem dX3_addKind_63 : decode cX3_addKind 63 = .ok (.isub, 1) := by decide +kernel
theorem dX3_addKind_64 : decode cX3_addKind 64 = .ok (.iaload, 1) := by decide +kernel
theorem dX3_addKind_65 : decode cX3_addKind 65 = .ok (.iastore, 1) := by decide +kernel
theorem dX3_addKind_66 : decode cX3_addKind 66 = .ok (.aload_n 0, 1) := by decide +kernel
theorem dX3_addKind_67 : decode cX3_addKind 67 = .ok (.getfield 15, 3) := by decide +kernel
theorem dX3_addKind_70 : decode cX3_addKind 70 = .ok (.iload 6, 2) := by decide +kernel
theorem dX3_addKind_72 : decode cX3_addKind 72 = .ok (.aload_n 0, 1) := by decide +kernel
theorem dX3_addKind_73 : decode cX3_addKind 73 = .ok (.getfield 15, 3) := by decide +kernel
theorem dX3_addKind_76 : decode cX3_addKind 76 = .ok (.iload 6, 2) := by decide +kernel
theorem dX3_addKind_78 : decode cX3_addKind 78 = .ok (.iconst 1, 1) := by decide +kernel
theorem dX3_addKind_79 : decode cX3_addKind 79 = .ok (.isub, 1) := by decide +kernel
theorem dX3_addKind_80 : decode cX3_addKind 80 = .ok (.iaload, 1) := by decide +kernel
theorem dX3_addKind_81 : decode cX3_addKind 81 = .ok (.iastore, 1) := by decide +kernel
theorem dX3_addKind_82 : decode cX3_addKind 82 = .ok (.aload_n 0, 1) := by decide +kernel
theorem dX3_addKind_83 : decode cX3_addKind 83 = .ok (.getfield 18, 3) := by decide +kernel
theorem dX3_addKind_86 : decode cX3_addKind 86 = .ok (.iload 6, 2) := by decide +kernel
theorem dX3_addKind_88 : decode cX3_addKind 88 = .ok (.aload_n 0, 1) := by decide +kernel
theorem dX3_addKind_89 : decode cX3_addKind 89 = .ok (.getfield 18, 3) := by decide +kernel
theorem dX3_addKind_92 : decode cX3_addKind 92 = .ok (.iload 6, 2) := by decide +kernel
theorem dX3_addKind_94 : decode cX3_addKind 94 = .ok (.iconst 1, 1) := by decide +kernel
theorem dX3_addKind_95 : decode cX3_addKind 95 = .ok (.isub, 1) := by decide +kernel
theorem dX3_addKind_96 : decode cX3_addKind 96 = .ok (.iaload, 1) := by decide +kernel
theorem dX3_addKind_97 : decode cX3_addKind 97 = .ok (.iastore, 1) := by decide +kernel
theorem dX3_addKind_98 : decode cX3_addKind 98 = .ok (.iinc 6 (-1), 3) := by decide +kernel
theorem dX3_addKind_101 : decode cX3_addKind 101 = .ok (.goto (-71), 3) := by decide +kernel
theorem dX3_addKind_104 : decode cX3_addKind 104 = .ok (.aload_n 0, 1) := by decide +kernel
theorem dX3_addKind_105 : decode cX3_addKind 105 = .ok (.getfield 9, 3) := by decide +kernel
theorem dX3_addKind_108 : decode cX3_addKind 108 = .ok (.iload 6, 2) := by decide +kernel
theorem dX3_addKind_110 : decode cX3_addKind 110 = .ok (.iload 4, 2) := by decide +kernel
theorem dX3_addKind_112 : decode cX3_addKind 112 = .ok (.iastore, 1) := by decide +kernel
theorem dX3_addKind_113 : decode cX3_addKind 113 = .ok (.aload_n 0, 1) := by decide +kernel
theorem dX3_addKind_114 : decode cX3_addKind 114 = .ok (.getfield 15, 3) := by decide +kernel
theorem dX3_addKind_117 : decode cX3_addKind 117 = .ok (.iload 6, 2) := by decide +kernel
theorem dX3_addKind_119 : decode cX3_addKind 119 = .ok (.iload 5, 2) := by decide +kernel
theorem dX3_addKind_121 : decode cX3_addKind 121 = .ok (.iastore, 1) := by decide +kernel
theorem dX3_addKind_122 : decode cX3_addKind 122 = .ok (.aload_n 0, 1) := by decide +kernel
theorem dX3_addKind_123 : decode cX3_addKind 123 = .ok (.getfield 18, 3) := by decide +kernel
theorem dX3_addKind_126 : decode cX3_addKind 126 = .ok (.iload 6, 2) := by decide +kernel
theorem dX3_addKind_128 : decode cX3_addKind 128 = .ok (.iload_n 3, 1) := by decide +kernel
theorem dX3_addKind_129 : decode cX3_addKind 129 = .ok (.iastore, 1) := by decide +kernel
theorem dX3_addKind_130 : decode cX3_addKind 130 = .ok (.aload_n 0, 1) := by decide +kernel
theorem dX3_addKind_131 : decode cX3_addKind 131 = .ok (.dup, 1) := by decide +kernel
theorem dX3_addKind_132 : decode cX3_addKind 132 = .ok (.getfield 43, 3) := by decide +kernel
theorem dX3_addKind_135 : decode cX3_addKind 135 = .ok (.iconst 1, 1) := by decide +kernel
theorem dX3_addKind_136 : decode cX3_addKind 136 = .ok (.iadd, 1) := by decide +kernel
theorem dX3_addKind_137 : decode cX3_addKind 137 = .ok (.putfield 43, 3) := by decide +kernel
theorem dX3_addKind_140 : decode cX3_addKind 140 = .ok (.return_, 1) := by decide +kernel
theorem dX3_isBigger_0 : decode cX3_isBigger 0 = .ok (.iload_n 1, 1) := by decide +kernel
theorem dX3_isBigger_1 : decode cX3_isBigger 1 = .ok (.aload_n 0, 1) := by decide +kernel
theorem dX3_isBigger_2 : decode cX3_isBigger 2 = .ok (.getfield 9, 3) := by decide +kernel
theorem dX3_isBigger_5 : decode cX3_isBigger 5 = .ok (.iload_n 3, 1) := by decide +kernel
theorem dX3_isBigger_6 : decode cX3_isBigger 6 = .ok (.iaload, 1) := by decide +kernel
theorem dX3_isBigger_7 : decode cX3_isBigger 7 = .ok (.if_icmp .gt 23, 3) := by decide +kernel
theorem dX3_isBigger_10 : decode cX3_isBigger 10 = .ok (.iload_n 1, 1) := by decide +kernel
theorem dX3_isBigger_11 : decode cX3_isBigger 11 = .ok (.aload_n 0, 1) := by decide +kernel
theorem dX3_isBigger_12 : decode cX3_isBigger 12 = .ok (.getfield 9, 3) := by decide +kernel
theorem dX3_isBigger_15 : decode cX3_isBigger 15 = .ok (.iload_n 3, 1) := by decide +kernel
theorem dX3_isBigger_16 : decode cX3_isBigger 16 = .ok (.iaload, 1) := by decide +kernel
theorem dX3_isBigger_17 : decode cX3_isBigger 17 = .ok (.if_icmp .ne 17, 3) := by decide +kernel
theorem dX3_isBigger_20 : decode cX3_isBigger 20 = .ok (.iload_n 2, 1) := by decide +kernel
theorem dX3_isBigger_21 : decode cX3_isBigger 21 = .ok (.aload_n 0, 1) := by decide +kernel
theorem dX3_isBigger_22 : decode cX3_isBigger 22 = .ok (.getfield 15, 3) := by decide +kernel
theorem dX3_isBigger_25 : decode cX3_isBigger 25 = .ok (.iload_n 3, 1) := by decide +kernel
theorem dX3_isBigger_26 : decode cX3_isBigger 26 = .ok (.iaload, 1) := by decide +kernel
theorem dX3_isBigger_27 : decode cX3_isBigger 27 = .ok (.if_icmp .le 7, 3) := by decide +kernel
theorem dX3_isBigger_30 : decode cX3_isBigger 30 = .ok (.iconst 1, 1) := by decide +kernel
theorem dX3_isBigger_31 : decode cX3_isBigger 31 = .ok (.goto 4, 3) := by decide +kernel
theorem dX3_isBigger_34 : decode cX3_isBigger 34 = .ok (.iconst 0, 1) := by decide +kernel
theorem dX3_isBigger_35 : decode cX3_isBigger 35 = .ok (.ireturn, 1) := by decide +kernel
theorem dX3_doAllFit_0 : decode cX3_doAllFit 0 = .ok (.iconst 0, 1) := by decide +kernel
theorem dX3_doAllFit_1 : decode cX3_doAllFit 1 = .ok (.istore_n 1, 1) := by decide +kernel
theorem dX3_doAllFit_2 : decode cX3_doAllFit 2 = .ok (.iload_n 1, 1) := by decide +kernel
theorem dX3_doAllFit_3 : decode cX3_doAllFit 3 = .ok (.aload_n 0, 1) := by decide +kernel
theorem dX3_doAllFit_4 : decode cX3_doAllFit 4 = .ok (.getfield 43, 3) := by decide +kernel
theorem dX3_doAllFit_7 : decode cX3_doAllFit 7 = .ok (.if_icmp .ge 37, 3) := by decide +kernel
theorem dX3_doAllFit_10 : decode cX3_doAllFit 10 = .ok (.aload_n 0, 1) := by decide +kernel
theorem dX3_doAllFit_11 : decode cX3_doAllFit 11 = .ok (.getfield 9, 3) := by decide +kernel
theorem dX3_doAllFit_14 : decode cX3_doAllFit 14 = .ok (.iload_n 1, 1) := by decide +kernel
theorem dX3_doAllFit_15 : decode cX3_doAllFit 15 = .ok (.iaload, 1) := by decide +kernel
theorem dX3_doAllFit_16 : decode cX3_doAllFit 16 = .ok (.aload_n 0, 1) := by decide +kernel
theorem dX3_doAllFit_17 : decode cX3_doAllFit 17 = .ok (.getfield 36, 3) := by decide +kernel
theorem dX3_doAllFit_20 : decode cX3_doAllFit 20 = .ok (.if_icmp .gt 16, 3) := by decide +kernel
theorem dX3_doAllFit_23 : decode cX3_doAllFit 23 = .ok (.aload_n 0, 1) := by decide +kernel
theorem dX3_doAllFit_24 : decode cX3_doAllFit 24 = .ok (.getfield 15, 3) := by decide +kernel
theorem dX3_doAllFit_27 : decode cX3_doAllFit 27 = .ok (.iload_n 1, 1) := by decide +kernel
theorem dX3_doAllFit_28 : decode cX3_doAllFit 28 = .ok (.iaload, 1) := by decide +kernel
theorem dX3_doAllFit_29 : decode cX3_doAllFit 29 = .ok (.aload_n 0, 1) := by decide +kernel
theorem dX3_doAllFit_30 : decode cX3_doAllFit 30 = .ok (.getfield 40, 3) := by decide +kernel
theorem dX3_doAllFit_33 : decode cX3_doAllFit 33 = .ok (.if_icmp .le 5, 3) := by decide +kernel
theorem dX3_doAllFit_36 : decode cX3_doAllFit 36 = .ok (.iconst 0, 1) := by decide +kernel
theorem dX3_doAllFit_37 : decode cX3_doAllFit 37 = .ok (.ireturn, 1) := by decide +kernel
theorem dX3_doAllFit_38 : decode cX3_doAllFit 38 = .ok (.iinc 1 1, 3) := by decide +kernel
theorem dX3_doAllFit_41 : decode cX3_doAllFit 41 = .ok (.goto (-39), 3) := by decide +kernel
theorem dX3_doAllFit_44 : decode cX3_doAllFit 44 = .ok (.iconst 1, 1) := by decide +kernel
theorem dX3_doAllFit_45 : decode cX3_doAllFit 45 = .ok (.ireturn, 1) := by decide +kernel
theorem dX3_layAll_0 : decode cX3_layAll 0 = .ok (.iconst 0, 1) := by decide +kernel
theorem dX3_layAll_1 : decode cX3_layAll 1 = .ok (.istore_n 1, 1) := by decide +kernel
theorem dX3_layAll_2 : decode cX3_layAll 2 = .ok (.iload_n 1, 1) := by decide +kernel
theorem dX3_layAll_3 : decode cX3_layAll 3 = .ok (.aload_n 0, 1) := by decide +kernel
theorem dX3_layAll_4 : decode cX3_layAll 4 = .ok (.getfield 43, 3) := by decide +kernel
theorem dX3_layAll_7 : decode cX3_layAll 7 = .ok (.if_icmp .ge 43, 3) := by decide +kernel
theorem dX3_layAll_10 : decode cX3_layAll 10 = .ok (.iconst 0, 1) := by decide +kernel
theorem dX3_layAll_11 : decode cX3_layAll 11 = .ok (.istore_n 2, 1) := by decide +kernel
theorem dX3_layAll_12 : decode cX3_layAll 12 = .ok (.iload_n 2, 1) := by decide +kernel
theorem dX3_layAll_13 : decode cX3_layAll 13 = .ok (.aload_n 0, 1) := by decide +kernel
theorem dX3_layAll_14 : decode cX3_layAll 14 = .ok (.getfield 18, 3) := by decide +kernel
theorem dX3_layAll_17 : decode cX3_layAll 17 = .ok (.iload_n 1, 1) := by decide +kernel
theorem dX3_layAll_18 : decode cX3_layAll 18 = .ok (.iaload, 1) := by decide +kernel
theorem dX3_layAll_19 : decode cX3_layAll 19 = .ok (.if_icmp .ge 25, 3) := by decide +kernel
theorem dX3_layAll_22 : decode cX3_layAll 22 = .ok (.aload_n 0, 1) := by decide +kernel
theorem dX3_layAll_23 : decode cX3_layAll 23 = .ok (.aload_n 0, 1) := by decide +kernel
theorem dX3_layAll_24 : decode cX3_layAll 24 = .ok (.getfield 9, 3) := by decide +kernel
theorem dX3_layAll_27 : decode cX3_layAll 27 = .ok (.iload_n 1, 1) := by decide +kernel
theorem dX3_layAll_28 : decode cX3_layAll 28 = .ok (.iaload, 1) := by decide +kernel
theorem dX3_layAll_29 : decode cX3_layAll 29 = .ok (.aload_n 0, 1) := by decide +kernel
theorem dX3_layAll_30 : decode cX3_layAll 30 = .ok (.getfield 15, 3) := by decide +kernel
theorem dX3_layAll_33 : decode cX3_layAll 33 = .ok (.iload_n 1, 1) := by decide +kernel
theorem dX3_layAll_34 : decode cX3_layAll 34 = .ok (.iaload, 1) := by decide +kernel
theorem dX3_layAll_35 : decode cX3_layAll 35 = .ok (.invokevirtual 72, 3) := by decide +kernel
theorem dX3_layAll_38 : decode cX3_layAll 38 = .ok (.iinc 2 1, 3) := by decide +kernel
theorem dX3_layAll_41 : decode cX3_layAll 41 = .ok (.goto (-29), 3) := by decide +kernel
theorem dX3_layAll_44 : decode cX3_layAll 44 = .ok (.iinc 1 1, 3) := by decide +kernel
theorem dX3_layAll_47 : decode cX3_layAll 47 = .ok (.goto (-45), 3) := by decide +kernel
theorem dX3_layAll_50 : decode cX3_layAll 50 = .ok (.return_, 1) := by decide +kernel
theorem dX3_lay_0 : decode cX3_lay 0 = .ok (.aload_n 0, 1) := by decide +kernel
theorem dX3_lay_1 : decode cX3_lay 1 = .ok (.iload_n 1, 1) := by decide +kernel
theorem dX3_lay_2 : decode cX3_lay 2 = .ok (.iload_n 2, 1) := by decide +kernel
theorem dX3_lay_3 : decode cX3_lay 3 = .ok (.invokevirtual 76, 3) := by decide +kernel
theorem dX3_lay_6 : decode cX3_lay 6 = .ok (.istore_n 3, 1) := by decide +kernel
theorem dX3_lay_7 : decode cX3_lay 7 = .ok (.iload_n 3, 1) := by decide +kernel
theorem dX3_lay_8 : decode cX3_lay 8 = .ok (.iconst (-1), 1) := by decide +kernel
theorem dX3_lay_9 : decode cX3_lay 9 = .ok (.if_icmp .ne 9, 3) := by decide +kernel
theorem dX3_lay_12 : decode cX3_lay 12 = .ok (.aload_n 0, 1) := by decide +kernel
theorem dX3_lay_13 : decode cX3_lay 13 = .ok (.iload_n 2, 1) := by decide +kernel
theorem dX3_lay_14 : decode cX3_lay 14 = .ok (.invokevirtual 79, 3) := by decide +kernel
theorem dX3_lay_17 : decode cX3_lay 17 = .ok (.istore_n 3, 1) := by decide +kernel
theorem dX3_lay_18 : decode cX3_lay 18 = .ok (.iload_n 3, 1) := by decide +kernel
theorem dX3_lay_19 : decode cX3_lay 19 = .ok (.iconst (-1), 1) := by decide +kernel
theorem dX3_lay_20 : decode cX3_lay 20 = .ok (.if_icmp .ne 4, 3) := by decide +kernel
theorem dX3_lay_23 : decode cX3_lay 23 = .ok (.return_, 1) := by decide +kernel
theorem dX3_lay_24 : decode cX3_lay 24 = .ok (.aload_n 0, 1) := by decide +kernel
theorem dX3_lay_25 : decode cX3_lay 25 = .ok (.dup, 1) := by decide +kernel
theorem dX3_lay_26 : decode cX3_lay 26 = .ok (.getfield 52, 3) := by decide +kernel
theorem dX3_lay_29 : decode cX3_lay 29 = .ok (.iconst 2, 1) := by decide +kernel
theorem dX3_lay_30 : decode cX3_lay 30 = .ok (.iload_n 1, 1) := by decide +kernel
theorem dX3_lay_31 : decode cX3_lay 31 = .ok (.iload_n 2, 1) := by decide +kernel
theorem dX3_lay_32 : decode cX3_lay 32 = .ok (.iadd, 1) := by decide +kernel
theorem dX3_lay_33 : decode cX3_lay 33 = .ok (.imul, 1) := by decide +kernel
theorem dX3_lay_34 : decode cX3_lay 34 = .ok (.i2l, 1) := by decide +kernel
theorem dX3_lay_35 : decode cX3_lay 35 = .ok (.ladd, 1) := by decide +kernel
theorem dX3_lay_36 : decode cX3_lay 36 = .ok (.putfield 52, 3) := by decide +kernel
theorem dX3_lay_39 : decode cX3_lay 39 = .ok (.aload_n 0, 1) := by decide +kernel
theorem dX3_lay_40 : decode cX3_lay 40 = .ok (.getfield 30, 3) := by decide +kernel
theorem dX3_lay_43 : decode cX3_lay 43 = .ok (.iload_n 3, 1) := by decide +kernel
theorem dX3_lay_44 : decode cX3_lay 44 = .ok (.iaload, 1) := by decide +kernel
theorem dX3_lay_45 : decode cX3_lay 45 = .ok (.iload_n 2, 1) := by decide +kernel
theorem dX3_lay_46 : decode cX3_lay 46 = .ok (.if_icmp .ne 14, 3) := by decide +kernel
theorem dX3_lay_49 : decode cX3_lay 49 = .ok (.aload_n 0, 1) := by decide +kernel
theorem dX3_lay_50 : decode cX3_lay 50 = .ok (.dup, 1) := by decide +kernel
theorem dX3_lay_51 : decode cX3_lay 51 = .ok (.getfield 52, 3) := by decide +kernel
theorem dX3_lay_54 : decode cX3_lay 54 = .ok (.iload_n 2, 1) := by decide +kernel
theorem dX3_lay_55 : decode cX3_lay 55 = .ok (.i2l, 1) := by decide +kernel
theorem dX3_lay_56 : decode cX3_lay 56 = .ok (.lsub, 1) := by decide +kernel
theorem dX3_lay_57 : decode cX3_lay 57 = .ok (.putfield 52, 3) := by decide +kernel
theorem dX3_lay_60 : decode cX3_lay 60 = .ok (.aload_n 0, 1) := by decide +kernel
theorem dX3_lay_61 : decode cX3_lay 61 = .ok (.dup, 1) := by decide +kernel
theorem dX3_lay_62 : decode cX3_lay 62 = .ok (.getfield 56, 3) := by decide +kernel
theorem dX3_lay_65 : decode cX3_lay 65 = .ok (.iload_n 1, 1) := by decide +kernel
theorem dX3_lay_66 : decode cX3_lay 66 = .ok (.iload_n 2, 1) := by decide +kernel
theorem dX3_lay_67 : decode cX3_lay 67 = .ok (.imul, 1) := by decide +kernel
theorem dX3_lay_68 : decode cX3_lay 68 = .ok (.i2l, 1) := by decide +kernel
theorem dX3_lay_69 : decode cX3_lay 69 = .ok (.ladd, 1) := by decide +kernel
theorem dX3_lay_70 : decode cX3_lay 70 = .ok (.putfield 56, 3) := by decide +kernel
theorem dX3_lay_73 : decode cX3_lay 73 = .ok (.aload_n 0, 1) := by decide +kernel
theorem dX3_lay_74 : decode cX3_lay 74 = .ok (.getfield 27, 3) := by decide +kernel
theorem dX3_lay_77 : decode cX3_lay 77 = .ok (.iload_n 3, 1) := by decide +kernel
theorem dX3_lay_78 : decode cX3_lay 78 = .ok (.dup2, 1) := by decide +kernel
theorem dX3_lay_79 : decode cX3_lay 79 = .ok (.iaload, 1) := by decide +kernel
theorem dX3_lay_80 : decode cX3_lay 80 = .ok (.iload_n 1, 1) := by decide +kernel
theorem dX3_lay_81 : decode cX3_lay 81 = .ok (.isub, 1) := by decide +kernel
theorem dX3_lay_82 : decode cX3_lay 82 = .ok (.iastore, 1) := by decide +kernel
theorem dX3_lay_83 : decode cX3_lay 83 = .ok (.aload_n 0, 1) := by decide +kernel
theorem dX3_lay_84 : decode cX3_lay 84 = .ok (.getfield 30, 3) := by decide +kernel
theorem dX3_lay_87 : decode cX3_lay 87 = .ok (.iload_n 3, 1) := by decide +kernel
theorem dX3_lay_88 : decode cX3_lay 88 = .ok (.iload_n 2, 1) := by decide +kernel
theorem dX3_lay_89 : decode cX3_lay 89 = .ok (.iastore, 1) := by decide +kernel
theorem dX3_lay_90 : decode cX3_lay 90 = .ok (.return_, 1) := by decide +kernel
theorem dX3_rowFor_0 : decode cX3_rowFor 0 = .ok (.iconst (-1), 1) := by decide +kernel
theorem dX3_rowFor_1 : decode cX3_rowFor 1 = .ok (.istore_n 3, 1) := by decide +kernel
theorem dX3_rowFor_2 : decode cX3_rowFor 2 = .ok (.iconst 0, 1) := by decide +kernel
theorem dX3_rowFor_3 : decode cX3_rowFor 3 = .ok (.istore 4, 2) := by decide +kernel
theorem dX3_rowFor_5 : decode cX3_rowFor 5 = .ok (.iload 4, 2) := by decide +kernel
theorem dX3_rowFor_7 : decode cX3_rowFor 7 = .ok (.aload_n 0, 1) := by decide +kernel
theorem dX3_rowFor_8 : decode cX3_rowFor 8 = .ok (.getfield 46, 3) := by decide +kernel
theorem dX3_rowFor_11 : decode cX3_rowFor 11 = .ok (.if_icmp .ge 67, 3) := by decide +kernel
theorem dX3_rowFor_14 : decode cX3_rowFor 14 = .ok (.aload_n 0, 1) := by decide +kernel
theorem dX3_rowFor_15 : decode cX3_rowFor 15 = .ok (.getfield 24, 3) := by decide +kernel
theorem dX3_rowFor_18 : decode cX3_rowFor 18 = .ok (.iload 4, 2) := by decide +kernel
theorem dX3_rowFor_20 : decode cX3_rowFor 20 = .ok (.iaload, 1) := by decide +kernel
theorem dX3_rowFor_21 : decode cX3_rowFor 21 = .ok (.iload_n 2, 1) := by decide +kernel
theorem dX3_rowFor_22 : decode cX3_rowFor 22 = .ok (.if_icmp .lt 18, 3) := by decide +kernel
theorem dX3_rowFor_25 : decode cX3_rowFor 25 = .ok (.aload_n 0, 1) := by decide +kernel
theorem dX3_rowFor_26 : decode cX3_rowFor 26 = .ok (.getfield 27, 3) := by decide +kernel
theorem dX3_rowFor_29 : decode cX3_rowFor 29 = .ok (.iload 4, 2) := by decide +kernel
theorem dX3_rowFor_31 : decode cX3_rowFor 31 = .ok (.iaload, 1) := by decide +kernel
theorem dX3_rowFor_32 : decode cX3_rowFor 32 = .ok (.iload_n 1, 1) := by decide +kernel
theorem dX3_rowFor_33 : decode cX3_rowFor 33 = .ok (.if_icmp .lt 7, 3) := by decide +kernel
theorem dX3_rowFor_36 : decode cX3_rowFor 36 = .ok (.iconst 1, 1) := by decide +kernel
theorem dX3_rowFor_37 : decode cX3_rowFor 37 = .ok (.goto 4, 3) := by decide +kernel
theorem dX3_rowFor_40 : decode cX3_rowFor 40 = .ok (.iconst 0, 1) := by decide +kernel
theorem dX3_rowFor_41 : decode cX3_rowFor 41 = .ok (.istore 5, 2) := by decide +kernel
theorem dX3_rowFor_43 : decode cX3_rowFor 43 = .ok (.iload 5, 2) := by decide +kernel
theorem dX3_rowFor_45 : decode cX3_rowFor 45 = .ok (.ifCond .eq 27, 3) := by decide +kernel
theorem dX3_rowFor_48 : decode cX3_rowFor 48 = .ok (.iload_n 3, 1) := by decide +kernel
theorem dX3_rowFor_49 : decode cX3_rowFor 49 = .ok (.iconst (-1), 1) := by decide +kernel
theorem dX3_rowFor_50 : decode cX3_rowFor 50 = .ok (.if_icmp .eq 19, 3) := by decide +kernel
theorem dX3_rowFor_53 : decode cX3_rowFor 53 = .ok (.aload_n 0, 1) := by decide +kernel
theorem dX3_rowFor_54 : decode cX3_rowFor 54 = .ok (.getfield 21, 3) := by decide +kernel
theorem dX3_rowFor_57 : decode cX3_rowFor 57 = .ok (.iload 4, 2) := by decide +kernel
theorem dX3_rowFor_59 : decode cX3_rowFor 59 = .ok (.iaload, 1) := by decide +kernel
theorem dX3_rowFor_60 : decode cX3_rowFor 60 = .ok (.aload_n 0, 1) := by decide +kernel
theorem dX3_rowFor_61 : decode cX3_rowFor 61 = .ok (.getfield 21, 3) := by decide +kernel
theorem dX3_rowFor_64 : decode cX3_rowFor 64 = .ok (.iload_n 3, 1) := by decide +kernel
theorem dX3_rowFor_65 : decode cX3_rowFor 65 = .ok (.iaload, 1) := by decide +kernel
theorem dX3_rowFor_66 : decode cX3_rowFor 66 = .ok (.if_icmp .ge 6, 3) := by decide +kernel
theorem dX3_rowFor_69 : decode cX3_rowFor 69 = .ok (.iload 4, 2) := by decide +kernel
theorem dX3_rowFor_71 : decode cX3_rowFor 71 = .ok (.istore_n 3, 1) := by decide +kernel
theorem dX3_rowFor_72 : decode cX3_rowFor 72 = .ok (.iinc 4 1, 3) := by decide +kernel
theorem dX3_rowFor_75 : decode cX3_rowFor 75 = .ok (.goto (-70), 3) := by decide +kernel
theorem dX3_rowFor_78 : decode cX3_rowFor 78 = .ok (.iload_n 3, 1) := by decide +kernel
theorem dX3_rowFor_79 : decode cX3_rowFor 79 = .ok (.ireturn, 1) := by decide +kernel
theorem dX3_newRow_0 : decode cX3_newRow 0 = .ok (.aload_n 0, 1) := by decide +kernel
theorem dX3_newRow_1 : decode cX3_newRow 1 = .ok (.iload_n 1, 1) := by decide +kernel
theorem dX3_newRow_2 : decode cX3_newRow 2 = .ok (.invokevirtual 83, 3) := by decide +kernel
theorem dX3_newRow_5 : decode cX3_newRow 5 = .ok (.istore_n 2, 1) := by decide +kernel
theorem dX3_newRow_6 : decode cX3_newRow 6 = .ok (.iload_n 2, 1) := by decide +kernel
theorem dX3_newRow_7 : decode cX3_newRow 7 = .ok (.iconst (-1), 1) := by decide +kernel
theorem dX3_newRow_8 : decode cX3_newRow 8 = .ok (.if_icmp .eq 12, 3) := by decide +kernel
theorem dX3_newRow_11 : decode cX3_newRow 11 = .ok (.aload_n 0, 1) := by decide +kernel
theorem dX3_newRow_12 : decode cX3_newRow 12 = .ok (.getfield 46, 3) := by decide +kernel
theorem dX3_newRow_15 : decode cX3_newRow 15 = .ok (.bipush 40, 2) := by decide +kernel
theorem dX3_newRow_17 : decode cX3_newRow 17 = .ok (.if_icmp .lt 5, 3) := by decide +kernel
theorem dX3_newRow_20 : decode cX3_newRow 20 = .ok (.iconst (-1), 1) := by decide +kernel
theorem dX3_newRow_21 : decode cX3_newRow 21 = .ok (.ireturn, 1) := by decide +kernel
theorem dX3_newRow_22 : decode cX3_newRow 22 = .ok (.aload_n 0, 1) := by decide +kernel
theorem dX3_newRow_23 : decode cX3_newRow 23 = .ok (.getfield 33, 3) := by decide +kernel
theorem dX3_newRow_26 : decode cX3_newRow 26 = .ok (.iload_n 2, 1) := by decide +kernel
theorem dX3_newRow_27 : decode cX3_newRow 27 = .ok (.dup2, 1) := by decide +kernel
theorem dX3_newRow_28 : decode cX3_newRow 28 = .ok (.iaload, 1) := by decide +kernel
theorem dX3_newRow_29 : decode cX3_newRow 29 = .ok (.iload_n 1, 1) := by decide +kernel
theorem dX3_newRow_30 : decode cX3_newRow 30 = .ok (.isub, 1) := by decide +kernel
theorem dX3_newRow_31 : decode cX3_newRow 31 = .ok (.iastore, 1) := by decide +kernel
theorem dX3_newRow_32 : decode cX3_newRow 32 = .ok (.aload_n 0, 1) := by decide +kernel
theorem dX3_newRow_33 : decode cX3_newRow 33 = .ok (.getfield 21, 3) := by decide +kernel
theorem dX3_newRow_36 : decode cX3_newRow 36 = .ok (.aload_n 0, 1) := by decide +kernel
theorem dX3_newRow_37 : decode cX3_newRow 37 = .ok (.getfield 46, 3) := by decide +kernel
theorem dX3_newRow_40 : decode cX3_newRow 40 = .ok (.iload_n 2, 1) := by decide +kernel
theorem dX3_newRow_41 : decode cX3_newRow 41 = .ok (.iastore, 1) := by decide +kernel
theorem dX3_newRow_42 : decode cX3_newRow 42 = .ok (.aload_n 0, 1) := by decide +kernel
theorem dX3_newRow_43 : decode cX3_newRow 43 = .ok (.getfield 24, 3) := by decide +kernel
theorem dX3_newRow_46 : decode cX3_newRow 46 = .ok (.aload_n 0, 1) := by decide +kernel
theorem dX3_newRow_47 : decode cX3_newRow 47 = .ok (.getfield 46, 3) := by decide +kernel
theorem dX3_newRow_50 : decode cX3_newRow 50 = .ok (.iload_n 1, 1) := by decide +kernel
theorem dX3_newRow_51 : decode cX3_newRow 51 = .ok (.iastore, 1) := by decide +kernel
theorem dX3_newRow_52 : decode cX3_newRow 52 = .ok (.aload_n 0, 1) := by decide +kernel
theorem dX3_newRow_53 : decode cX3_newRow 53 = .ok (.getfield 27, 3) := by decide +kernel
theorem dX3_newRow_56 : decode cX3_newRow 56 = .ok (.aload_n 0, 1) := by decide +kernel
theorem dX3_newRow_57 : decode cX3_newRow 57 = .ok (.getfield 46, 3) := by decide +kernel
theorem dX3_newRow_60 : decode cX3_newRow 60 = .ok (.aload_n 0, 1) := by decide +kernel
theorem dX3_newRow_61 : decode cX3_newRow 61 = .ok (.getfield 36, 3) := by decide +kernel
theorem dX3_newRow_64 : decode cX3_newRow 64 = .ok (.iastore, 1) := by decide +kernel
theorem dX3_newRow_65 : decode cX3_newRow 65 = .ok (.aload_n 0, 1) := by decide +kernel
theorem dX3_newRow_66 : decode cX3_newRow 66 = .ok (.getfield 30, 3) := by decide +kernel
theorem dX3_newRow_69 : decode cX3_newRow 69 = .ok (.aload_n 0, 1) := by decide +kernel
theorem dX3_newRow_70 : decode cX3_newRow 70 = .ok (.getfield 46, 3) := by decide +kernel
theorem dX3_newRow_73 : decode cX3_newRow 73 = .ok (.iconst 0, 1) := by decide +kernel
theorem dX3_newRow_74 : decode cX3_newRow 74 = .ok (.iastore, 1) := by decide +kernel
theorem dX3_newRow_75 : decode cX3_newRow 75 = .ok (.aload_n 0, 1) := by decide +kernel
theorem dX3_newRow_76 : decode cX3_newRow 76 = .ok (.dup, 1) := by decide +kernel
theorem dX3_newRow_77 : decode cX3_newRow 77 = .ok (.getfield 46, 3) := by decide +kernel
theorem dX3_newRow_80 : decode cX3_newRow 80 = .ok (.iconst 1, 1) := by decide +kernel
theorem dX3_newRow_81 : decode cX3_newRow 81 = .ok (.iadd, 1) := by decide +kernel
theorem dX3_newRow_82 : decode cX3_newRow 82 = .ok (.putfield 46, 3) := by decide +kernel
theorem dX3_newRow_85 : decode cX3_newRow 85 = .ok (.aload_n 0, 1) := by decide +kernel
theorem dX3_newRow_86 : decode cX3_newRow 86 = .ok (.getfield 46, 3) := by decide +kernel
theorem dX3_newRow_89 : decode cX3_newRow 89 = .ok (.iconst 1, 1) := by decide +kernel
theorem dX3_newRow_90 : decode cX3_newRow 90 = .ok (.isub, 1) := by decide +kernel
theorem dX3_newRow_91 : decode cX3_newRow 91 = .ok (.ireturn, 1) := by decide +kernel
theorem dX3_sheetFor_0 : decode cX3_sheetFor 0 = .ok (.iconst 0, 1) := by decide +kernel
theorem dX3_sheetFor_1 : decode cX3_sheetFor 1 = .ok (.istore_n 2, 1) := by decide +kernel
theorem dX3_sheetFor_2 : decode cX3_sheetFor 2 = .ok (.iload_n 2, 1) := by decide +kernel
theorem dX3_sheetFor_3 : decode cX3_sheetFor 3 = .ok (.aload_n 0, 1) := by decide +kernel
theorem dX3_sheetFor_4 : decode cX3_sheetFor 4 = .ok (.getfield 49, 3) := by decide +kernel
theorem dX3_sheetFor_7 : decode cX3_sheetFor 7 = .ok (.if_icmp .ge 21, 3) := by decide +kernel
theorem dX3_sheetFor_10 : decode cX3_sheetFor 10 = .ok (.aload_n 0, 1) := by decide +kernel
theorem dX3_sheetFor_11 : decode cX3_sheetFor 11 = .ok (.getfield 33, 3) := by decide +kernel
theorem dX3_sheetFor_14 : decode cX3_sheetFor 14 = .ok (.iload_n 2, 1) := by decide +kernel
theorem dX3_sheetFor_15 : decode cX3_sheetFor 15 = .ok (.iaload, 1) := by decide +kernel
theorem dX3_sheetFor_16 : decode cX3_sheetFor 16 = .ok (.iload_n 1, 1) := by decide +kernel
theorem dX3_sheetFor_17 : decode cX3_sheetFor 17 = .ok (.if_icmp .lt 5, 3) := by decide +kernel
theorem dX3_sheetFor_20 : decode cX3_sheetFor 20 = .ok (.iload_n 2, 1) := by decide +kernel
theorem dX3_sheetFor_21 : decode cX3_sheetFor 21 = .ok (.ireturn, 1) := by decide +kernel
theorem dX3_sheetFor_22 : decode cX3_sheetFor 22 = .ok (.iinc 2 1, 3) := by decide +kernel
theorem dX3_sheetFor_25 : decode cX3_sheetFor 25 = .ok (.goto (-23), 3) := by decide +kernel
theorem dX3_sheetFor_28 : decode cX3_sheetFor 28 = .ok (.aload_n 0, 1) := by decide +kernel
theorem dX3_sheetFor_29 : decode cX3_sheetFor 29 = .ok (.getfield 49, 3) := by decide +kernel
theorem dX3_sheetFor_32 : decode cX3_sheetFor 32 = .ok (.bipush 40, 2) := by decide +kernel
theorem dX3_sheetFor_34 : decode cX3_sheetFor 34 = .ok (.if_icmp .lt 5, 3) := by decide +kernel
theorem dX3_sheetFor_37 : decode cX3_sheetFor 37 = .ok (.iconst (-1), 1) := by decide +kernel
theorem dX3_sheetFor_38 : decode cX3_sheetFor 38 = .ok (.ireturn, 1) := by decide +kernel
theorem dX3_sheetFor_39 : decode cX3_sheetFor 39 = .ok (.aload_n 0, 1) := by decide +kernel
theorem dX3_sheetFor_40 : decode cX3_sheetFor 40 = .ok (.getfield 33, 3) := by decide +kernel
theorem dX3_sheetFor_43 : decode cX3_sheetFor 43 = .ok (.aload_n 0, 1) := by decide +kernel
theorem dX3_sheetFor_44 : decode cX3_sheetFor 44 = .ok (.getfield 49, 3) := by decide +kernel
theorem dX3_sheetFor_47 : decode cX3_sheetFor 47 = .ok (.aload_n 0, 1) := by decide +kernel
theorem dX3_sheetFor_48 : decode cX3_sheetFor 48 = .ok (.getfield 40, 3) := by decide +kernel
theorem dX3_sheetFor_51 : decode cX3_sheetFor 51 = .ok (.iastore, 1) := by decide +kernel
theorem dX3_sheetFor_52 : decode cX3_sheetFor 52 = .ok (.aload_n 0, 1) := by decide +kernel
theorem dX3_sheetFor_53 : decode cX3_sheetFor 53 = .ok (.dup, 1) := by decide +kernel
theorem dX3_sheetFor_54 : decode cX3_sheetFor 54 = .ok (.getfield 49, 3) := by decide +kernel
theorem dX3_sheetFor_57 : decode cX3_sheetFor 57 = .ok (.iconst 1, 1) := by decide +kernel
theorem dX3_sheetFor_58 : decode cX3_sheetFor 58 = .ok (.iadd, 1) := by decide +kernel
theorem dX3_sheetFor_59 : decode cX3_sheetFor 59 = .ok (.putfield 49, 3) := by decide +kernel
theorem dX3_sheetFor_62 : decode cX3_sheetFor 62 = .ok (.aload_n 0, 1) := by decide +kernel
theorem dX3_sheetFor_63 : decode cX3_sheetFor 63 = .ok (.getfield 49, 3) := by decide +kernel
theorem dX3_sheetFor_66 : decode cX3_sheetFor 66 = .ok (.iconst 1, 1) := by decide +kernel
theorem dX3_sheetFor_67 : decode cX3_sheetFor 67 = .ok (.isub, 1) := by decide +kernel
theorem dX3_sheetFor_68 : decode cX3_sheetFor 68 = .ok (.ireturn, 1) := by decide +kernel
theorem dX3_tell_0 : decode cX3_tell 0 = .ok (.iload_n 1, 1) := by decide +kernel
theorem dX3_tell_1 : decode cX3_tell 1 = .ok (.tableswitch 44 0 2 #[27, 33, 39], 27) := by decide +kernel
theorem dX3_tell_28 : decode cX3_tell 28 = .ok (.aload_n 0, 1) := by decide +kernel
theorem dX3_tell_29 : decode cX3_tell 29 = .ok (.getfield 49, 3) := by decide +kernel
theorem dX3_tell_32 : decode cX3_tell 32 = .ok (.i2l, 1) := by decide +kernel
theorem dX3_tell_33 : decode cX3_tell 33 = .ok (.lreturn, 1) := by decide +kernel
theorem dX3_tell_34 : decode cX3_tell 34 = .ok (.aload_n 0, 1) := by decide +kernel
theorem dX3_tell_35 : decode cX3_tell 35 = .ok (.getfield 46, 3) := by decide +kernel
theorem dX3_tell_38 : decode cX3_tell 38 = .ok (.i2l, 1) := by decide +kernel
theorem dX3_tell_39 : decode cX3_tell 39 = .ok (.lreturn, 1) := by decide +kernel
theorem dX3_tell_40 : decode cX3_tell 40 = .ok (.aload_n 0, 1) := by decide +kernel
theorem dX3_tell_41 : decode cX3_tell 41 = .ok (.getfield 52, 3) := by decide +kernel
theorem dX3_tell_44 : decode cX3_tell 44 = .ok (.lreturn, 1) := by decide +kernel
theorem dX3_tell_45 : decode cX3_tell 45 = .ok (.aload_n 0, 1) := by decide +kernel
theorem dX3_tell_46 : decode cX3_tell 46 = .ok (.getfield 49, 3) := by decide +kernel
theorem dX3_tell_49 : decode cX3_tell 49 = .ok (.i2l, 1) := by decide +kernel
theorem dX3_tell_50 : decode cX3_tell 50 = .ok (.aload_n 0, 1) := by decide +kernel
theorem dX3_tell_51 : decode cX3_tell 51 = .ok (.getfield 36, 3) := by decide +kernel
theorem dX3_tell_54 : decode cX3_tell 54 = .ok (.i2l, 1) := by decide +kernel
theorem dX3_tell_55 : decode cX3_tell 55 = .ok (.lmul, 1) := by decide +kernel
theorem dX3_tell_56 : decode cX3_tell 56 = .ok (.aload_n 0, 1) := by decide +kernel
theorem dX3_tell_57 : decode cX3_tell 57 = .ok (.getfield 40, 3) := by decide +kernel
theorem dX3_tell_60 : decode cX3_tell 60 = .ok (.i2l, 1) := by decide +kernel
theorem dX3_tell_61 : decode cX3_tell 61 = .ok (.lmul, 1) := by decide +kernel
theorem dX3_tell_62 : decode cX3_tell 62 = .ok (.aload_n 0, 1) := by decide +kernel
theorem dX3_tell_63 : decode cX3_tell 63 = .ok (.getfield 56, 3) := by decide +kernel
theorem dX3_tell_66 : decode cX3_tell 66 = .ok (.lsub, 1) := by decide +kernel
theorem dX3_tell_67 : decode cX3_tell 67 = .ok (.lreturn, 1) := by decide +kernel
theorem dX4_init_0 : decode cX4_init 0 = .ok (.aload_n 0, 1) := by decide +kernel
theorem dX4_init_1 : decode cX4_init 1 = .ok (.invokespecial 3, 3) := by decide +kernel
theorem dX4_init_4 : decode cX4_init 4 = .ok (.aload_n 0, 1) := by decide +kernel
theorem dX4_init_5 : decode cX4_init 5 = .ok (.new 9, 3) := by decide +kernel
theorem dX4_init_8 : decode cX4_init 8 = .ok (.dup, 1) := by decide +kernel
theorem dX4_init_9 : decode cX4_init 9 = .ok (.invokespecial 11, 3) := by decide +kernel
theorem dX4_init_12 : decode cX4_init 12 = .ok (.putfield 12, 3) := by decide +kernel
theorem dX4_init_15 : decode cX4_init 15 = .ok (.aload_n 0, 1) := by decide +kernel
theorem dX4_init_16 : decode cX4_init 16 = .ok (.bipush 6, 2) := by decide +kernel
theorem dX4_init_18 : decode cX4_init 18 = .ok (.newarray .int, 2) := by decide +kernel
theorem dX4_init_20 : decode cX4_init 20 = .ok (.putfield 18, 3) := by decide +kernel
theorem dX4_init_23 : decode cX4_init 23 = .ok (.aload_n 0, 1) := by decide +kernel
theorem dX4_init_24 : decode cX4_init 24 = .ok (.bipush 6, 2) := by decide +kernel
theorem dX4_init_26 : decode cX4_init 26 = .ok (.newarray .int, 2) := by decide +kernel
theorem dX4_init_28 : decode cX4_init 28 = .ok (.putfield 22, 3) := by decide +kernel
theorem dX4_init_31 : decode cX4_init 31 = .ok (.aload_n 0, 1) := by decide +kernel
theorem dX4_init_32 : decode cX4_init 32 = .ok (.bipush 6, 2) := by decide +kernel
theorem dX4_init_34 : decode cX4_init 34 = .ok (.newarray .int, 2) := by decide +kernel
theorem dX4_init_36 : decode cX4_init 36 = .ok (.putfield 25, 3) := by decide +kernel
theorem dX4_init_39 : decode cX4_init 39 = .ok (.return_, 1) := by decide +kernel
theorem dX4_draw_0 : decode cX4_draw 0 = .ok (.aload_n 0, 1) := by decide +kernel
theorem dX4_draw_1 : decode cX4_draw 1 = .ok (.getfield 12, 3) := by decide +kernel
theorem dX4_draw_4 : decode cX4_draw 4 = .ok (.aload_n 1, 1) := by decide +kernel
theorem dX4_draw_5 : decode cX4_draw 5 = .ok (.invokevirtual 28, 3) := by decide +kernel
theorem dX4_draw_8 : decode cX4_draw 8 = .ok (.aload_n 0, 1) := by decide +kernel
theorem dX4_draw_9 : decode cX4_draw 9 = .ok (.iload_n 2, 1) := by decide +kernel
theorem dX4_draw_10 : decode cX4_draw 10 = .ok (.putfield 32, 3) := by decide +kernel
theorem dX4_draw_13 : decode cX4_draw 13 = .ok (.aload_n 0, 1) := by decide +kernel
theorem dX4_draw_14 : decode cX4_draw 14 = .ok (.iload_n 3, 1) := by decide +kernel
theorem dX4_draw_15 : decode cX4_draw 15 = .ok (.putfield 36, 3) := by decide +kernel
theorem dX4_draw_18 : decode cX4_draw 18 = .ok (.aload_n 0, 1) := by decide +kernel
theorem dX4_draw_19 : decode cX4_draw 19 = .ok (.iconst 0, 1) := by decide +kernel
theorem dX4_draw_20 : decode cX4_draw 20 = .ok (.putfield 39, 3) := by decide +kernel
theorem dX4_draw_23 : decode cX4_draw 23 = .ok (.return_, 1) := by decide +kernel
theorem dX4_blankBy_0 : decode cX4_blankBy 0 = .ok (.aload_n 0, 1) := by decide +kernel
theorem dX4_blankBy_1 : decode cX4_blankBy 1 = .ok (.getfield 12, 3) := by decide +kernel
theorem dX4_blankBy_4 : decode cX4_blankBy 4 = .ok (.invokevirtual 42, 3) := by decide +kernel
theorem dX4_blankBy_7 : decode cX4_blankBy 7 = .ok (.aload_n 0, 1) := by decide +kernel
theorem dX4_blankBy_8 : decode cX4_blankBy 8 = .ok (.getfield 12, 3) := by decide +kernel
theorem dX4_blankBy_11 : decode cX4_blankBy 11 = .ok (.invokevirtual 46, 3) := by decide +kernel
theorem dX4_blankBy_14 : decode cX4_blankBy 14 = .ok (.aload_n 1, 1) := by decide +kernel
theorem dX4_blankBy_15 : decode cX4_blankBy 15 = .ok (.getfield 49, 3) := by decide +kernel
theorem dX4_blankBy_18 : decode cX4_blankBy 18 = .ok (.aload_n 0, 1) := by decide +kernel
theorem dX4_blankBy_19 : decode cX4_blankBy 19 = .ok (.getfield 36, 3) := by decide +kernel
theorem dX4_blankBy_22 : decode cX4_blankBy 22 = .ok (.iaload, 1) := by decide +kernel
theorem dX4_blankBy_23 : decode cX4_blankBy 23 = .ok (.imul, 1) := by decide +kernel
theorem dX4_blankBy_24 : decode cX4_blankBy 24 = .ok (.isub, 1) := by decide +kernel
theorem dX4_blankBy_25 : decode cX4_blankBy 25 = .ok (.ireturn, 1) := by decide +kernel
theorem dX4_isHoleNear_0 : decode cX4_isHoleNear 0 = .ok (.aload_n 0, 1) := by decide +kernel
theorem dX4_isHoleNear_1 : decode cX4_isHoleNear 1 = .ok (.getfield 18, 3) := by decide +kernel
theorem dX4_isHoleNear_4 : decode cX4_isHoleNear 4 = .ok (.iload_n 1, 1) := by decide +kernel
theorem dX4_isHoleNear_5 : decode cX4_isHoleNear 5 = .ok (.iaload, 1) := by decide +kernel
theorem dX4_isHoleNear_6 : decode cX4_isHoleNear 6 = .ok (.istore_n 2, 1) := by decide +kernel
theorem dX4_isHoleNear_7 : decode cX4_isHoleNear 7 = .ok (.iconst 2, 1) := by decide +kernel
theorem dX4_isHoleNear_8 : decode cX4_isHoleNear 8 = .ok (.aload_n 0, 1) := by decide +kernel
theorem dX4_isHoleNear_9 : decode cX4_isHoleNear 9 = .ok (.getfield 36, 3) := by decide +kernel
theorem dX4_isHoleNear_12 : decode cX4_isHoleNear 12 = .ok (.imul, 1) := by decide +kernel
theorem dX4_isHoleNear_13 : decode cX4_isHoleNear 13 = .ok (.aload_n 0, 1) := by decide +kernel
theorem dX4_isHoleNear_14 : decode cX4_isHoleNear 14 = .ok (.getfield 25, 3) := by decide +kernel
theorem dX4_isHoleNear_17 : decode cX4_isHoleNear 17 = .ok (.iload_n 1, 1) := by decide +kernel
theorem dX4_isHoleNear_18 : decode cX4_isHoleNear 18 = .ok (.iaload, 1) := by decide +kernel
theorem dX4_isHoleNear_19 : decode cX4_isHoleNear 19 = .ok (.iconst 2, 1) := by decide +kernel
theorem dX4_isHoleNear_20 : decode cX4_isHoleNear 20 = .ok (.idiv, 1) := by decide +kernel
theorem dX4_isHoleNear_21 : decode cX4_isHoleNear 21 = .ok (.iadd, 1) := by decide +kernel
theorem dX4_isHoleNear_22 : decode cX4_isHoleNear 22 = .ok (.istore_n 3, 1) := by decide +kernel
theorem dX4_isHoleNear_23 : decode cX4_isHoleNear 23 = .ok (.iload_n 2, 1) := by decide +kernel
theorem dX4_isHoleNear_24 : decode cX4_isHoleNear 24 = .ok (.ifCond .le 17, 3) := by decide +kernel
theorem dX4_isHoleNear_27 : decode cX4_isHoleNear 27 = .ok (.aload_n 0, 1) := by decide +kernel
theorem dX4_isHoleNear_28 : decode cX4_isHoleNear 28 = .ok (.getfield 22, 3) := by decide +kernel
theorem dX4_isHoleNear_31 : decode cX4_isHoleNear 31 = .ok (.iload_n 1, 1) := by decide +kernel
theorem dX4_isHoleNear_32 : decode cX4_isHoleNear 32 = .ok (.iaload, 1) := by decide +kernel
theorem dX4_isHoleNear_33 : decode cX4_isHoleNear 33 = .ok (.iload_n 3, 1) := by decide +kernel
theorem dX4_isHoleNear_34 : decode cX4_isHoleNear 34 = .ok (.if_icmp .ge 7, 3) := by decide +kernel
theorem dX4_isHoleNear_37 : decode cX4_isHoleNear 37 = .ok (.iconst 1, 1) := by decide +kernel
theorem dX4_isHoleNear_38 : decode cX4_isHoleNear 38 = .ok (.goto 4, 3) := by decide +kernel
theorem dX4_isHoleNear_41 : decode cX4_isHoleNear 41 = .ok (.iconst 0, 1) := by decide +kernel
theorem dX4_isHoleNear_42 : decode cX4_isHoleNear 42 = .ok (.istore 4, 2) := by decide +kernel
theorem dX4_isHoleNear_44 : decode cX4_isHoleNear 44 = .ok (.iload_n 2, 1) := by decide +kernel
theorem dX4_isHoleNear_45 : decode cX4_isHoleNear 45 = .ok (.aload_n 0, 1) := by decide +kernel
theorem dX4_isHoleNear_46 : decode cX4_isHoleNear 46 = .ok (.getfield 12, 3) := by decide +kernel
theorem dX4_isHoleNear_49 : decode cX4_isHoleNear 49 = .ok (.getfield 54, 3) := by decide +kernel
theorem dX4_isHoleNear_52 : decode cX4_isHoleNear 52 = .ok (.iconst 1, 1) := by decide +kernel
theorem dX4_isHoleNear_53 : decode cX4_isHoleNear 53 = .ok (.isub, 1) := by decide +kernel
theorem dX4_isHoleNear_54 : decode cX4_isHoleNear 54 = .ok (.if_icmp .ge 27, 3) := by decide +kernel
theorem dX4_isHoleNear_57 : decode cX4_isHoleNear 57 = .ok (.aload_n 0, 1) := by decide +kernel
theorem dX4_isHoleNear_58 : decode cX4_isHoleNear 58 = .ok (.getfield 12, 3) := by decide +kernel
theorem dX4_isHoleNear_61 : decode cX4_isHoleNear 61 = .ok (.getfield 57, 3) := by decide +kernel
theorem dX4_isHoleNear_64 : decode cX4_isHoleNear 64 = .ok (.iload_n 2, 1) := by decide +kernel
theorem dX4_isHoleNear_65 : decode cX4_isHoleNear 65 = .ok (.iaload, 1) := by decide +kernel
theorem dX4_isHoleNear_66 : decode cX4_isHoleNear 66 = .ok (.aload_n 0, 1) := by decide +kernel
theorem dX4_isHoleNear_67 : decode cX4_isHoleNear 67 = .ok (.getfield 22, 3) := by decide +kernel
theorem dX4_isHoleNear_70 : decode cX4_isHoleNear 70 = .ok (.iload_n 1, 1) := by decide +kernel
theorem dX4_isHoleNear_71 : decode cX4_isHoleNear 71 = .ok (.iaload, 1) := by decide +kernel
theorem dX4_isHoleNear_72 : decode cX4_isHoleNear 72 = .ok (.isub, 1) := by decide +kernel
theorem dX4_isHoleNear_73 : decode cX4_isHoleNear 73 = .ok (.iload_n 3, 1) := by decide +kernel
theorem dX4_isHoleNear_74 : decode cX4_isHoleNear 74 = .ok (.if_icmp .ge 7, 3) := by decide +kernel
theorem dX4_isHoleNear_77 : decode cX4_isHoleNear 77 = .ok (.iconst 1, 1) := by decide +kernel
theorem dX4_isHoleNear_78 : decode cX4_isHoleNear 78 = .ok (.goto 4, 3) := by decide +kernel
theorem dX4_isHoleNear_81 : decode cX4_isHoleNear 81 = .ok (.iconst 0, 1) := by decide +kernel
theorem dX4_isHoleNear_82 : decode cX4_isHoleNear 82 = .ok (.istore 5, 2) := by decide +kernel
theorem dX4_isHoleNear_84 : decode cX4_isHoleNear 84 = .ok (.iload 4, 2) := by decide +kernel
theorem dX4_isHoleNear_86 : decode cX4_isHoleNear 86 = .ok (.ifCond .ne 8, 3) := by decide +kernel
theorem dX4_isHoleNear_89 : decode cX4_isHoleNear 89 = .ok (.iload 5, 2) := by decide +kernel
theorem dX4_isHoleNear_91 : decode cX4_isHoleNear 91 = .ok (.ifCond .eq 7, 3) := by decide +kernel
theorem dX4_isHoleNear_94 : decode cX4_isHoleNear 94 = .ok (.iconst 1, 1) := by decide +kernel
theorem dX4_isHoleNear_95 : decode cX4_isHoleNear 95 = .ok (.goto 4, 3) := by decide +kernel
theorem dX4_isHoleNear_98 : decode cX4_isHoleNear 98 = .ok (.iconst 0, 1) := by decide +kernel
theorem dX4_isHoleNear_99 : decode cX4_isHoleNear 99 = .ok (.ireturn, 1) := by decide +kernel
theorem dX4_nearHoles_0 : decode cX4_nearHoles 0 = .ok (.iconst 0, 1) := by decide +kernel
theorem dX4_nearHoles_1 : decode cX4_nearHoles 1 = .ok (.istore_n 1, 1) := by decide +kernel
theorem dX4_nearHoles_2 : decode cX4_nearHoles 2 = .ok (.iconst 0, 1) := by decide +kernel
theorem dX4_nearHoles_3 : decode cX4_nearHoles 3 = .ok (.istore_n 2, 1) := by decide +kernel
theorem dX4_nearHoles_4 : decode cX4_nearHoles 4 = .ok (.iload_n 2, 1) := by decide +kernel
theorem dX4_nearHoles_5 : decode cX4_nearHoles 5 = .ok (.aload_n 0, 1) := by decide +kernel
theorem dX4_nearHoles_6 : decode cX4_nearHoles 6 = .ok (.getfield 39, 3) := by decide +kernel
theorem dX4_nearHoles_9 : decode cX4_nearHoles 9 = .ok (.if_icmp .ge 25, 3) := by decide +kernel
theorem dX4_nearHoles_12 : decode cX4_nearHoles 12 = .ok (.iload_n 1, 1) := by decide +kernel
theorem dX4_nearHoles_13 : decode cX4_nearHoles 13 = .ok (.aload_n 0, 1) := by decide +kernel
theorem dX4_nearHoles_14 : decode cX4_nearHoles 14 = .ok (.iload_n 2, 1) := by decide +kernel
theorem dX4_nearHoles_15 : decode cX4_nearHoles 15 = .ok (.invokevirtual 60, 3) := by decide +kernel
theorem dX4_nearHoles_18 : decode cX4_nearHoles 18 = .ok (.ifCond .eq 7, 3) := by decide +kernel
theorem dX4_nearHoles_21 : decode cX4_nearHoles 21 = .ok (.iconst 1, 1) := by decide +kernel
theorem dX4_nearHoles_22 : decode cX4_nearHoles 22 = .ok (.goto 4, 3) := by decide +kernel
theorem dX4_nearHoles_25 : decode cX4_nearHoles 25 = .ok (.iconst 0, 1) := by decide +kernel
theorem dX4_nearHoles_26 : decode cX4_nearHoles 26 = .ok (.iadd, 1) := by decide +kernel
theorem dX4_nearHoles_27 : decode cX4_nearHoles 27 = .ok (.istore_n 1, 1) := by decide +kernel
theorem dX4_nearHoles_28 : decode cX4_nearHoles 28 = .ok (.iinc 2 1, 3) := by decide +kernel
theorem dX4_nearHoles_31 : decode cX4_nearHoles 31 = .ok (.goto (-27), 3) := by decide +kernel
theorem dX4_nearHoles_34 : decode cX4_nearHoles 34 = .ok (.iload_n 1, 1) := by decide +kernel
theorem dX4_nearHoles_35 : decode cX4_nearHoles 35 = .ok (.ireturn, 1) := by decide +kernel
theorem dX5_init_0 : decode cX5_init 0 = .ok (.aload_n 0, 1) := by decide +kernel
theorem dX5_init_1 : decode cX5_init 1 = .ok (.invokespecial 3, 3) := by decide +kernel
theorem dX5_init_4 : decode cX5_init 4 = .ok (.aload_n 0, 1) := by decide +kernel
theorem dX5_init_5 : decode cX5_init 5 = .ok (.bipush 32, 2) := by decide +kernel
theorem dX5_init_7 : decode cX5_init 7 = .ok (.newarray .int, 2) := by decide +kernel
theorem dX5_init_9 : decode cX5_init 9 = .ok (.putfield 9, 3) := by decide +kernel
theorem dX5_init_12 : decode cX5_init 12 = .ok (.aload_n 0, 1) := by decide +kernel
theorem dX5_init_13 : decode cX5_init 13 = .ok (.bipush 96, 2) := by decide +kernel
theorem dX5_init_15 : decode cX5_init 15 = .ok (.newarray .int, 2) := by decide +kernel
theorem dX5_init_17 : decode cX5_init 17 = .ok (.putfield 15, 3) := by decide +kernel
theorem dX5_init_20 : decode cX5_init 20 = .ok (.aload_n 0, 1) := by decide +kernel
theorem dX5_init_21 : decode cX5_init 21 = .ok (.iconst 5, 1) := by decide +kernel
theorem dX5_init_22 : decode cX5_init 22 = .ok (.newarray .int, 2) := by decide +kernel
theorem dX5_init_24 : decode cX5_init 24 = .ok (.putfield 18, 3) := by decide +kernel
theorem dX5_init_27 : decode cX5_init 27 = .ok (.aload_n 0, 1) := by decide +kernel
theorem dX5_init_28 : decode cX5_init 28 = .ok (.iconst 5, 1) := by decide +kernel
theorem dX5_init_29 : decode cX5_init 29 = .ok (.newarray .int, 2) := by decide +kernel
theorem dX5_init_31 : decode cX5_init 31 = .ok (.putfield 21, 3) := by decide +kernel
theorem dX5_init_34 : decode cX5_init 34 = .ok (.return_, 1) := by decide +kernel
theorem dX5_plan_0 : decode cX5_plan 0 = .ok (.aload_n 0, 1) := by decide +kernel
theorem dX5_plan_1 : decode cX5_plan 1 = .ok (.aload_n 1, 1) := by decide +kernel
theorem dX5_plan_2 : decode cX5_plan 2 = .ok (.aload_n 2, 1) := by decide +kernel
theorem dX5_plan_3 : decode cX5_plan 3 = .ok (.aload_n 3, 1) := by decide +kernel
theorem dX5_plan_4 : decode cX5_plan 4 = .ok (.invokevirtual 24, 3) := by decide +kernel
theorem dX5_plan_7 : decode cX5_plan 7 = .ok (.iconst 1, 1) := by decide +kernel
theorem dX5_plan_8 : decode cX5_plan 8 = .ok (.aload_n 0, 1) := by decide +kernel
theorem dX5_plan_9 : decode cX5_plan 9 = .ok (.getfield 28, 3) := by decide +kernel
theorem dX5_plan_12 : decode cX5_plan 12 = .ok (.ishl, 1) := by decide +kernel
theorem dX5_plan_13 : decode cX5_plan 13 = .ok (.iconst 1, 1) := by decide +kernel
theorem dX5_plan_14 : decode cX5_plan 14 = .ok (.isub, 1) := by decide +kernel
theorem dX5_plan_15 : decode cX5_plan 15 = .ok (.istore 4, 2) := by decide +kernel
theorem dX5_plan_17 : decode cX5_plan 17 = .ok (.iload 4, 2) := by decide +kernel
theorem dX5_plan_19 : decode cX5_plan 19 = .ok (.ifCond .lt 71, 3) := by decide +kernel
theorem dX5_plan_22 : decode cX5_plan 22 = .ok (.iconst 0, 1) := by decide +kernel
theorem dX5_plan_23 : decode cX5_plan 23 = .ok (.istore 5, 2) := by decide +kernel
theorem dX5_plan_25 : decode cX5_plan 25 = .ok (.iload 5, 2) := by decide +kernel
theorem dX5_plan_27 : decode cX5_plan 27 = .ok (.iconst 3, 1) := by decide +kernel
theorem dX5_plan_28 : decode cX5_plan 28 = .ok (.if_icmp .ge 56, 3) := by decide +kernel
theorem dX5_plan_31 : decode cX5_plan 31 = .ok (.aload_n 0, 1) := by decide +kernel
theorem dX5_plan_32 : decode cX5_plan 32 = .ok (.iload 4, 2) := by decide +kernel
theorem dX5_plan_34 : decode cX5_plan 34 = .ok (.iload 5, 2) := by decide +kernel
theorem dX5_plan_36 : decode cX5_plan 36 = .ok (.invokevirtual 32, 3) := by decide +kernel
theorem dX5_plan_39 : decode cX5_plan 39 = .ok (.istore 6, 2) := by decide +kernel
theorem dX5_plan_41 : decode cX5_plan 41 = .ok (.aload_n 0, 1) := by decide +kernel
theorem dX5_plan_42 : decode cX5_plan 42 = .ok (.getfield 15, 3) := by decide +kernel
theorem dX5_plan_45 : decode cX5_plan 45 = .ok (.iload 4, 2) := by decide +kernel
theorem dX5_plan_47 : decode cX5_plan 47 = .ok (.iconst 3, 1) := by decide +kernel
theorem dX5_plan_48 : decode cX5_plan 48 = .ok (.imul, 1) := by decide +kernel
theorem dX5_plan_49 : decode cX5_plan 49 = .ok (.iload 5, 2) := by decide +kernel
theorem dX5_plan_51 : decode cX5_plan 51 = .ok (.iadd, 1) := by decide +kernel
theorem dX5_plan_52 : decode cX5_plan 52 = .ok (.iload 6, 2) := by decide +kernel
theorem dX5_plan_54 : decode cX5_plan 54 = .ok (.iconst (-1), 1) := by decide +kernel
theorem dX5_plan_55 : decode cX5_plan 55 = .ok (.if_icmp .ne 12, 3) := by decide +kernel
theorem dX5_plan_58 : decode cX5_plan 58 = .ok (.aload_n 0, 1) := by decide +kernel
theorem dX5_plan_59 : decode cX5_plan 59 = .ok (.iload 4, 2) := by decide +kernel
theorem dX5_plan_61 : decode cX5_plan 61 = .ok (.invokevirtual 36, 3) := by decide +kernel
theorem dX5_plan_64 : decode cX5_plan 64 = .ok (.goto 13, 3) := by decide +kernel
theorem dX5_plan_67 : decode cX5_plan 67 = .ok (.aload_n 0, 1) := by decide +kernel
theorem dX5_plan_68 : decode cX5_plan 68 = .ok (.iload 4, 2) := by decide +kernel
theorem dX5_plan_70 : decode cX5_plan 70 = .ok (.iload 5, 2) := by decide +kernel
theorem dX5_plan_72 : decode cX5_plan 72 = .ok (.iload 6, 2) := by decide +kernel
theorem dX5_plan_74 : decode cX5_plan 74 = .ok (.invokevirtual 40, 3) := by decide +kernel
theorem dX5_plan_77 : decode cX5_plan 77 = .ok (.iastore, 1) := by decide +kernel
theorem dX5_plan_78 : decode cX5_plan 78 = .ok (.iinc 5 1, 3) := by decide +kernel
theorem dX5_plan_81 : decode cX5_plan 81 = .ok (.goto (-56), 3) := by decide +kernel
theorem dX5_plan_84 : decode cX5_plan 84 = .ok (.iinc 4 (-1), 3) := by decide +kernel
theorem dX5_plan_87 : decode cX5_plan 87 = .ok (.goto (-70), 3) := by decide +kernel
theorem dX5_plan_90 : decode cX5_plan 90 = .ok (.aload_n 0, 1) := by decide +kernel
theorem dX5_plan_91 : decode cX5_plan 91 = .ok (.aload_n 0, 1) := by decide +kernel
theorem dX5_plan_92 : decode cX5_plan 92 = .ok (.getfield 15, 3) := by decide +kernel
theorem dX5_plan_95 : decode cX5_plan 95 = .ok (.iconst 2, 1) := by decide +kernel
theorem dX5_plan_96 : decode cX5_plan 96 = .ok (.iaload, 1) := by decide +kernel
theorem dX5_plan_97 : decode cX5_plan 97 = .ok (.putfield 44, 3) := by decide +kernel
theorem dX5_plan_100 : decode cX5_plan 100 = .ok (.aload_n 0, 1) := by decide +kernel
theorem dX5_plan_101 : decode cX5_plan 101 = .ok (.aload_n 0, 1) := by decide +kernel
theorem dX5_plan_102 : decode cX5_plan 102 = .ok (.getfield 44, 3) := by decide +kernel
theorem dX5_plan_105 : decode cX5_plan 105 = .ok (.iconst (-1), 1) := by decide +kernel
theorem dX5_plan_106 : decode cX5_plan 106 = .ok (.if_icmp .ne 7, 3) := by decide +kernel
theorem dX5_plan_109 : decode cX5_plan 109 = .ok (.iconst 0, 1) := by decide +kernel
theorem dX5_plan_110 : decode cX5_plan 110 = .ok (.goto 7, 3) := by decide +kernel
theorem dX5_plan_113 : decode cX5_plan 113 = .ok (.aload_n 0, 1) := by decide +kernel
theorem dX5_plan_114 : decode cX5_plan 114 = .ok (.getfield 28, 3) := by decide +kernel
theorem dX5_plan_117 : decode cX5_plan 117 = .ok (.putfield 47, 3) := by decide +kernel
theorem dX5_plan_120 : decode cX5_plan 120 = .ok (.iconst 0, 1) := by decide +kernel
theorem dX5_plan_121 : decode cX5_plan 121 = .ok (.istore 4, 2) := by decide +kernel
theorem dX5_plan_123 : decode cX5_plan 123 = .ok (.iconst 2, 1) := by decide +kernel
theorem dX5_plan_124 : decode cX5_plan 124 = .ok (.istore 5, 2) := by decide +kernel
theorem dX5_plan_126 : decode cX5_plan 126 = .ok (.iconst 0, 1) := by decide +kernel
theorem dX5_plan_127 : decode cX5_plan 127 = .ok (.istore 6, 2) := by decide +kernel
theorem dX5_plan_129 : decode cX5_plan 129 = .ok (.iload 6, 2) := by decide +kernel
theorem dX5_plan_131 : decode cX5_plan 131 = .ok (.aload_n 0, 1) := by decide +kernel
theorem dX5_plan_132 : decode cX5_plan 132 = .ok (.getfield 47, 3) := by decide +kernel
theorem dX5_plan_135 : decode cX5_plan 135 = .ok (.if_icmp .ge 53, 3) := by decide +kernel
theorem dX5_plan_138 : decode cX5_plan 138 = .ok (.aload_n 0, 1) := by decide +kernel
theorem dX5_plan_139 : decode cX5_plan 139 = .ok (.iload 4, 2) := by decide +kernel
theorem dX5_plan_141 : decode cX5_plan 141 = .ok (.iload 5, 2) := by decide +kernel
theorem dX5_plan_143 : decode cX5_plan 143 = .ok (.invokevirtual 32, 3) := by decide +kernel
theorem dX5_plan_146 : decode cX5_plan 146 = .ok (.istore 7, 2) := by decide +kernel
theorem dX5_plan_148 : decode cX5_plan 148 = .ok (.iload 7, 2) := by decide +kernel
theorem dX5_plan_150 : decode cX5_plan 150 = .ok (.iconst (-1), 1) := by decide +kernel
theorem dX5_plan_151 : decode cX5_plan 151 = .ok (.if_icmp .ne 4, 3) := by decide +kernel
theorem dX5_plan_154 : decode cX5_plan 154 = .ok (.return_, 1) := by decide +kernel
theorem dX5_plan_155 : decode cX5_plan 155 = .ok (.aload_n 0, 1) := by decide +kernel
theorem dX5_plan_156 : decode cX5_plan 156 = .ok (.getfield 21, 3) := by decide +kernel
theorem dX5_plan_159 : decode cX5_plan 159 = .ok (.iload 6, 2) := by decide +kernel
theorem dX5_plan_161 : decode cX5_plan 161 = .ok (.iload 7, 2) := by decide +kernel
theorem dX5_plan_163 : decode cX5_plan 163 = .ok (.iastore, 1) := by decide +kernel
theorem dX5_plan_164 : decode cX5_plan 164 = .ok (.iload 4, 2) := by decide +kernel
theorem dX5_plan_166 : decode cX5_plan 166 = .ok (.iconst 1, 1) := by decide +kernel
theorem dX5_plan_167 : decode cX5_plan 167 = .ok (.iload 7, 2) := by decide +kernel
theorem dX5_plan_169 : decode cX5_plan 169 = .ok (.ishl, 1) := by decide +kernel
theorem dX5_plan_170 : decode cX5_plan 170 = .ok (.ior, 1) := by decide +kernel
theorem dX5_plan_171 : decode cX5_plan 171 = .ok (.istore 4, 2) := by decide +kernel
theorem dX5_plan_173 : decode cX5_plan 173 = .ok (.aload_n 0, 1) := by decide +kernel
theorem dX5_plan_174 : decode cX5_plan 174 = .ok (.getfield 18, 3) := by decide +kernel
theorem dX5_plan_177 : decode cX5_plan 177 = .ok (.iload 7, 2) := by decide +kernel
theorem dX5_plan_179 : decode cX5_plan 179 = .ok (.iaload, 1) := by decide +kernel
theorem dX5_plan_180 : decode cX5_plan 180 = .ok (.istore 5, 2) := by decide +kernel
theorem dX5_plan_182 : decode cX5_plan 182 = .ok (.iinc 6 1, 3) := by decide +kernel
theorem dX5_plan_185 : decode cX5_plan 185 = .ok (.goto (-56), 3) := by decide +kernel
theorem dX5_plan_188 : decode cX5_plan 188 = .ok (.return_, 1) := by decide +kernel
theorem dX5_fewestOfAll_0 : decode cX5_fewestOfAll 0 = .ok (.aload_n 0, 1) := by decide +kernel
theorem dX5_fewestOfAll_1 : decode cX5_fewestOfAll 1 = .ok (.aload_n 1, 1) := by decide +kernel
theorem dX5_fewestOfAll_2 : decode cX5_fewestOfAll 2 = .ok (.aload_n 2, 1) := by decide +kernel
theorem dX5_fewestOfAll_3 : decode cX5_fewestOfAll 3 = .ok (.aload_n 3, 1) := by decide +kernel
theorem dX5_fewestOfAll_4 : decode cX5_fewestOfAll 4 = .ok (.invokevirtual 24, 3) := by decide +kernel
theorem dX5_fewestOfAll_7 : decode cX5_fewestOfAll 7 = .ok (.aload_n 0, 1) := by decide +kernel
theorem dX5_fewestOfAll_8 : decode cX5_fewestOfAll 8 = .ok (.iconst 0, 1) := by decide +kernel
theorem dX5_fewestOfAll_9 : decode cX5_fewestOfAll 9 = .ok (.iconst 2, 1) := by decide +kernel
theorem dX5_fewestOfAll_10 : decode cX5_fewestOfAll 10 = .ok (.iconst 0, 1) := by decide +kernel
theorem dX5_fewestOfAll_11 : decode cX5_fewestOfAll 11 = .ok (.invokestatic 50, 3) := by decide +kernel
theorem dX5_fewestOfAll_14 : decode cX5_fewestOfAll 14 = .ok (.ireturn, 1) := by decide +kernel
theorem dX5_look_0 : decode cX5_look 0 = .ok (.aload_n 0, 1) := by decide +kernel
theorem dX5_look_1 : decode cX5_look 1 = .ok (.aload_n 1, 1) := by decide +kernel
theorem dX5_look_2 : decode cX5_look 2 = .ok (.getfield 54, 3) := by decide +kernel
theorem dX5_look_5 : decode cX5_look 5 = .ok (.invokevirtual 60, 3) := by decide +kernel
theorem dX5_look_8 : decode cX5_look 8 = .ok (.putfield 28, 3) := by decide +kernel
theorem dX5_look_11 : decode cX5_look 11 = .ok (.iconst 0, 1) := by decide +kernel
theorem dX5_look_12 : decode cX5_look 12 = .ok (.istore 4, 2) := by decide +kernel
theorem dX5_look_14 : decode cX5_look 14 = .ok (.iload 4, 2) := by decide +kernel
theorem dX5_look_16 : decode cX5_look 16 = .ok (.aload_n 0, 1) := by decide +kernel
theorem dX5_look_17 : decode cX5_look 17 = .ok (.getfield 28, 3) := by decide +kernel
theorem dX5_look_20 : decode cX5_look 20 = .ok (.if_icmp .ge 25, 3) := by decide +kernel
theorem dX5_look_23 : decode cX5_look 23 = .ok (.aload_n 0, 1) := by decide +kernel
theorem dX5_look_24 : decode cX5_look 24 = .ok (.getfield 18, 3) := by decide +kernel
theorem dX5_look_27 : decode cX5_look 27 = .ok (.iload 4, 2) := by decide +kernel
theorem dX5_look_29 : decode cX5_look 29 = .ok (.aload_n 1, 1) := by decide +kernel
theorem dX5_look_30 : decode cX5_look 30 = .ok (.getfield 54, 3) := by decide +kernel
theorem dX5_look_33 : decode cX5_look 33 = .ok (.iload 4, 2) := by decide +kernel
theorem dX5_look_35 : decode cX5_look 35 = .ok (.invokevirtual 65, 3) := by decide +kernel
theorem dX5_look_38 : decode cX5_look 38 = .ok (.iastore, 1) := by decide +kernel
theorem dX5_look_39 : decode cX5_look 39 = .ok (.iinc 4 1, 3) := by decide +kernel
theorem dX5_look_42 : decode cX5_look 42 = .ok (.goto (-28), 3) := by decide +kernel
theorem dX5_look_45 : decode cX5_look 45 = .ok (.iconst 0, 1) := by decide +kernel
theorem dX5_look_46 : decode cX5_look 46 = .ok (.istore 4, 2) := by decide +kernel
theorem dX5_look_48 : decode cX5_look 48 = .ok (.iload 4, 2) := by decide +kernel
theorem dX5_look_50 : decode cX5_look 50 = .ok (.iconst 1, 1) := by decide +kernel
theorem dX5_look_51 : decode cX5_look 51 = .ok (.aload_n 0, 1) := by decide +kernel
theorem dX5_look_52 : decode cX5_look 52 = .ok (.getfield 28, 3) := by decide +kernel
theorem dX5_look_55 : decode cX5_look 55 = .ok (.ishl, 1) := by decide +kernel
theorem dX5_look_56 : decode cX5_look 56 = .ok (.if_icmp .ge 72, 3) := by decide +kernel
theorem dX5_look_59 : decode cX5_look 59 = .ok (.aload_n 0, 1) := by decide +kernel
theorem dX5_look_60 : decode cX5_look 60 = .ok (.getfield 9, 3) := by decide +kernel
theorem dX5_look_63 : decode cX5_look 63 = .ok (.iload 4, 2) := by decide +kernel
theorem dX5_look_65 : decode cX5_look 65 = .ok (.iconst 0, 1) := by decide +kernel
theorem dX5_look_66 : decode cX5_look 66 = .ok (.iastore, 1) := by decide +kernel
theorem dX5_look_67 : decode cX5_look 67 = .ok (.iconst 0, 1) := by decide +kernel
theorem dX5_look_68 : decode cX5_look 68 = .ok (.istore 5, 2) := by decide +kernel
theorem dX5_look_70 : decode cX5_look 70 = .ok (.iload 5, 2) := by decide +kernel
theorem dX5_look_72 : decode cX5_look 72 = .ok (.aload_n 0, 1) := by decide +kernel
theorem dX5_look_73 : decode cX5_look 73 = .ok (.getfield 28, 3) := by decide +kernel
theorem dX5_look_76 : decode cX5_look 76 = .ok (.if_icmp .ge 46, 3) := by decide +kernel
theorem dX5_look_79 : decode cX5_look 79 = .ok (.iload 4, 2) := by decide +kernel
theorem dX5_look_81 : decode cX5_look 81 = .ok (.iload 5, 2) := by decide +kernel
theorem dX5_look_83 : decode cX5_look 83 = .ok (.invokestatic 68, 3) := by decide +kernel
theorem dX5_look_86 : decode cX5_look 86 = .ok (.ifCond .ne 30, 3) := by decide +kernel
theorem dX5_look_89 : decode cX5_look 89 = .ok (.aload_n 3, 1) := by decide +kernel
theorem dX5_look_90 : decode cX5_look 90 = .ok (.aload_n 1, 1) := by decide +kernel
theorem dX5_look_91 : decode cX5_look 91 = .ok (.aload_n 2, 1) := by decide +kernel
theorem dX5_look_92 : decode cX5_look 92 = .ok (.iload 4, 2) := by decide +kernel
theorem dX5_look_94 : decode cX5_look 94 = .ok (.iload 5, 2) := by decide +kernel
theorem dX5_look_96 : decode cX5_look 96 = .ok (.invokevirtual 72, 3) := by decide +kernel
theorem dX5_look_99 : decode cX5_look 99 = .ok (.ifCond .ne 17, 3) := by decide +kernel
theorem dX5_look_102 : decode cX5_look 102 = .ok (.aload_n 0, 1) := by decide +kernel
theorem dX5_look_103 : decode cX5_look 103 = .ok (.getfield 9, 3) := by decide +kernel
theorem dX5_look_106 : decode cX5_look 106 = .ok (.iload 4, 2) := by decide +kernel
theorem dX5_look_108 : decode cX5_look 108 = .ok (.dup2, 1) := by decide +kernel
theorem dX5_look_109 : decode cX5_look 109 = .ok (.iaload, 1) := by decide +kernel
theorem dX5_look_110 : decode cX5_look 110 = .ok (.iconst 1, 1) := by decide +kernel
theorem dX5_look_111 : decode cX5_look 111 = .ok (.iload 5, 2) := by decide +kernel
theorem dX5_look_113 : decode cX5_look 113 = .ok (.ishl, 1) := by decide +kernel
theorem dX5_look_114 : decode cX5_look 114 = .ok (.ior, 1) := by decide +kernel
theorem dX5_look_115 : decode cX5_look 115 = .ok (.iastore, 1) := by decide +kernel
theorem dX5_look_116 : decode cX5_look 116 = .ok (.iinc 5 1, 3) := by decide +kernel
theorem dX5_look_119 : decode cX5_look 119 = .ok (.goto (-49), 3) := by decide +kernel
theorem dX5_look_122 : decode cX5_look 122 = .ok (.iinc 4 1, 3) := by decide +kernel
theorem dX5_look_125 : decode cX5_look 125 = .ok (.goto (-77), 3) := by decide +kernel
theorem dX5_look_128 : decode cX5_look 128 = .ok (.return_, 1) := by decide +kernel
theorem dX5_bestNext_0 : decode cX5_bestNext 0 = .ok (.iconst (-1), 1) := by decide +kernel
theorem dX5_bestNext_1 : decode cX5_bestNext 1 = .ok (.istore_n 3, 1) := by decide +kernel
theorem dX5_bestNext_2 : decode cX5_bestNext 2 = .ok (.iconst (-1), 1) := by decide +kernel
theorem dX5_bestNext_3 : decode cX5_bestNext 3 = .ok (.istore 4, 2) := by decide +kernel
theorem dX5_bestNext_5 : decode cX5_bestNext 5 = .ok (.iconst 0, 1) := by decide +kernel
theorem dX5_bestNext_6 : decode cX5_bestNext 6 = .ok (.istore 5, 2) := by decide +kernel
theorem dX5_bestNext_8 : decode cX5_bestNext 8 = .ok (.iload 5, 2) := by decide +kernel
theorem dX5_bestNext_10 : decode cX5_bestNext 10 = .ok (.aload_n 0, 1) := by decide +kernel
theorem dX5_bestNext_11 : decode cX5_bestNext 11 = .ok (.getfield 28, 3) := by decide +kernel
theorem dX5_bestNext_14 : decode cX5_bestNext 14 = .ok (.if_icmp .ge 62, 3) := by decide +kernel
theorem dX5_bestNext_17 : decode cX5_bestNext 17 = .ok (.aload_n 0, 1) := by decide +kernel
theorem dX5_bestNext_18 : decode cX5_bestNext 18 = .ok (.getfield 9, 3) := by decide +kernel
theorem dX5_bestNext_21 : decode cX5_bestNext 21 = .ok (.iload_n 1, 1) := by decide +kernel
theorem dX5_bestNext_22 : decode cX5_bestNext 22 = .ok (.iaload, 1) := by decide +kernel
theorem dX5_bestNext_23 : decode cX5_bestNext 23 = .ok (.iload 5, 2) := by decide +kernel
theorem dX5_bestNext_25 : decode cX5_bestNext 25 = .ok (.invokestatic 68, 3) := by decide +kernel
theorem dX5_bestNext_28 : decode cX5_bestNext 28 = .ok (.ifCond .eq 14, 3) := by decide +kernel
theorem dX5_bestNext_31 : decode cX5_bestNext 31 = .ok (.aload_n 0, 1) := by decide +kernel
theorem dX5_bestNext_32 : decode cX5_bestNext 32 = .ok (.iload_n 1, 1) := by decide +kernel
theorem dX5_bestNext_33 : decode cX5_bestNext 33 = .ok (.iload_n 2, 1) := by decide +kernel
theorem dX5_bestNext_34 : decode cX5_bestNext 34 = .ok (.iload 5, 2) := by decide +kernel
theorem dX5_bestNext_36 : decode cX5_bestNext 36 = .ok (.invokevirtual 40, 3) := by decide +kernel
theorem dX5_bestNext_39 : decode cX5_bestNext 39 = .ok (.goto 4, 3) := by decide +kernel
theorem dX5_bestNext_42 : decode cX5_bestNext 42 = .ok (.iconst (-1), 1) := by decide +kernel
theorem dX5_bestNext_43 : decode cX5_bestNext 43 = .ok (.istore 6, 2) := by decide +kernel
theorem dX5_bestNext_45 : decode cX5_bestNext 45 = .ok (.iload 6, 2) := by decide +kernel
theorem dX5_bestNext_47 : decode cX5_bestNext 47 = .ok (.iconst (-1), 1) := by decide +kernel
theorem dX5_bestNext_48 : decode cX5_bestNext 48 = .ok (.if_icmp .eq 22, 3) := by decide +kernel
theorem dX5_bestNext_51 : decode cX5_bestNext 51 = .ok (.iload_n 3, 1) := by decide +kernel
theorem dX5_bestNext_52 : decode cX5_bestNext 52 = .ok (.iconst (-1), 1) := by decide +kernel
theorem dX5_bestNext_53 : decode cX5_bestNext 53 = .ok (.if_icmp .eq 10, 3) := by decide +kernel
theorem dX5_bestNext_56 : decode cX5_bestNext 56 = .ok (.iload 6, 2) := by decide +kernel
theorem dX5_bestNext_58 : decode cX5_bestNext 58 = .ok (.iload 4, 2) := by decide +kernel
theorem dX5_bestNext_60 : decode cX5_bestNext 60 = .ok (.if_icmp .ge 10, 3) := by decide +kernel
theorem dX5_bestNext_63 : decode cX5_bestNext 63 = .ok (.iload 5, 2) := by decide +kernel
theorem dX5_bestNext_65 : decode cX5_bestNext 65 = .ok (.istore_n 3, 1) := by decide +kernel
theorem dX5_bestNext_66 : decode cX5_bestNext 66 = .ok (.iload 6, 2) := by decide +kernel
theorem dX5_bestNext_68 : decode cX5_bestNext 68 = .ok (.istore 4, 2) := by decide +kernel
theorem dX5_bestNext_70 : decode cX5_bestNext 70 = .ok (.iinc 5 1, 3) := by decide +kernel
theorem dX5_bestNext_73 : decode cX5_bestNext 73 = .ok (.goto (-65), 3) := by decide +kernel
theorem dX5_bestNext_76 : decode cX5_bestNext 76 = .ok (.iload_n 3, 1) := by decide +kernel
theorem dX5_bestNext_77 : decode cX5_bestNext 77 = .ok (.ireturn, 1) := by decide +kernel
theorem dX5_turnsBy_0 : decode cX5_turnsBy 0 = .ok (.aload_n 0, 1) := by decide +kernel
theorem dX5_turnsBy_1 : decode cX5_turnsBy 1 = .ok (.getfield 15, 3) := by decide +kernel
theorem dX5_turnsBy_4 : decode cX5_turnsBy 4 = .ok (.iload_n 1, 1) := by decide +kernel
theorem dX5_turnsBy_5 : decode cX5_turnsBy 5 = .ok (.iconst 1, 1) := by decide +kernel
theorem dX5_turnsBy_6 : decode cX5_turnsBy 6 = .ok (.iload_n 3, 1) := by decide +kernel
theorem dX5_turnsBy_7 : decode cX5_turnsBy 7 = .ok (.ishl, 1) := by decide +kernel
theorem dX5_turnsBy_8 : decode cX5_turnsBy 8 = .ok (.ior, 1) := by decide +kernel
theorem dX5_turnsBy_9 : decode cX5_turnsBy 9 = .ok (.iconst 3, 1) := by decide +kernel
theorem dX5_turnsBy_10 : decode cX5_turnsBy 10 = .ok (.imul, 1) := by decide +kernel
theorem dX5_turnsBy_11 : decode cX5_turnsBy 11 = .ok (.aload_n 0, 1) := by decide +kernel
theorem dX5_turnsBy_12 : decode cX5_turnsBy 12 = .ok (.getfield 18, 3) := by decide +kernel
theorem dX5_turnsBy_15 : decode cX5_turnsBy 15 = .ok (.iload_n 3, 1) := by decide +kernel
theorem dX5_turnsBy_16 : decode cX5_turnsBy 16 = .ok (.iaload, 1) := by decide +kernel
theorem dX5_turnsBy_17 : decode cX5_turnsBy 17 = .ok (.iadd, 1) := by decide +kernel
theorem dX5_turnsBy_18 : decode cX5_turnsBy 18 = .ok (.iaload, 1) := by decide +kernel
theorem dX5_turnsBy_19 : decode cX5_turnsBy 19 = .ok (.istore 4, 2) := by decide +kernel
theorem dX5_turnsBy_21 : decode cX5_turnsBy 21 = .ok (.iload 4, 2) := by decide +kernel
theorem dX5_turnsBy_23 : decode cX5_turnsBy 23 = .ok (.iconst (-1), 1) := by decide +kernel
theorem dX5_turnsBy_24 : decode cX5_turnsBy 24 = .ok (.if_icmp .ne 7, 3) := by decide +kernel
theorem dX5_turnsBy_27 : decode cX5_turnsBy 27 = .ok (.iconst (-1), 1) := by decide +kernel
theorem dX5_turnsBy_28 : decode cX5_turnsBy 28 = .ok (.goto 12, 3) := by decide +kernel
theorem dX5_turnsBy_31 : decode cX5_turnsBy 31 = .ok (.iload 4, 2) := by decide +kernel
theorem dX5_turnsBy_33 : decode cX5_turnsBy 33 = .ok (.aload_n 0, 1) := by decide +kernel
theorem dX5_turnsBy_34 : decode cX5_turnsBy 34 = .ok (.iload_n 2, 1) := by decide +kernel
theorem dX5_turnsBy_35 : decode cX5_turnsBy 35 = .ok (.iload_n 3, 1) := by decide +kernel
theorem dX5_turnsBy_36 : decode cX5_turnsBy 36 = .ok (.invokevirtual 78, 3) := by decide +kernel
theorem dX5_turnsBy_39 : decode cX5_turnsBy 39 = .ok (.iadd, 1) := by decide +kernel
theorem dX5_turnsBy_40 : decode cX5_turnsBy 40 = .ok (.ireturn, 1) := by decide +kernel
theorem dX5_restOfNone_0 : decode cX5_restOfNone 0 = .ok (.iload_n 1, 1) := by decide +kernel
theorem dX5_restOfNone_1 : decode cX5_restOfNone 1 = .ok (.iconst 1, 1) := by decide +kernel
theorem dX5_restOfNone_2 : decode cX5_restOfNone 2 = .ok (.aload_n 0, 1) := by decide +kernel
theorem dX5_restOfNone_3 : decode cX5_restOfNone 3 = .ok (.getfield 28, 3) := by decide +kernel
theorem dX5_restOfNone_6 : decode cX5_restOfNone 6 = .ok (.ishl, 1) := by decide +kernel
theorem dX5_restOfNone_7 : decode cX5_restOfNone 7 = .ok (.iconst 1, 1) := by decide +kernel
theorem dX5_restOfNone_8 : decode cX5_restOfNone 8 = .ok (.isub, 1) := by decide +kernel
theorem dX5_restOfNone_9 : decode cX5_restOfNone 9 = .ok (.if_icmp .ne 7, 3) := by decide +kernel
theorem dX5_restOfNone_12 : decode cX5_restOfNone 12 = .ok (.iconst 0, 1) := by decide +kernel
theorem dX5_restOfNone_13 : decode cX5_restOfNone 13 = .ok (.goto 4, 3) := by decide +kernel
theorem dX5_restOfNone_16 : decode cX5_restOfNone 16 = .ok (.iconst (-1), 1) := by decide +kernel
theorem dX5_restOfNone_17 : decode cX5_restOfNone 17 = .ok (.ireturn, 1) := by decide +kernel
theorem dX5_turn_0 : decode cX5_turn 0 = .ok (.iload_n 1, 1) := by decide +kernel
theorem dX5_turn_1 : decode cX5_turn 1 = .ok (.iconst 2, 1) := by decide +kernel
theorem dX5_turn_2 : decode cX5_turn 2 = .ok (.if_icmp .eq 13, 3) := by decide +kernel
theorem dX5_turn_5 : decode cX5_turn 5 = .ok (.iload_n 1, 1) := by decide +kernel
theorem dX5_turn_6 : decode cX5_turn 6 = .ok (.aload_n 0, 1) := by decide +kernel
theorem dX5_turn_7 : decode cX5_turn 7 = .ok (.getfield 18, 3) := by decide +kernel
theorem dX5_turn_10 : decode cX5_turn 10 = .ok (.iload_n 2, 1) := by decide +kernel
theorem dX5_turn_11 : decode cX5_turn 11 = .ok (.iaload, 1) := by decide +kernel
theorem dX5_turn_12 : decode cX5_turn 12 = .ok (.if_icmp .ne 7, 3) := by decide +kernel
theorem dX5_turn_15 : decode cX5_turn 15 = .ok (.iconst 0, 1) := by decide +kernel
theorem dX5_turn_16 : decode cX5_turn 16 = .ok (.goto 4, 3) := by decide +kernel
theorem dX5_turn_19 : decode cX5_turn 19 = .ok (.iconst 1, 1) := by decide +kernel
theorem dX5_turn_20 : decode cX5_turn 20 = .ok (.ireturn, 1) := by decide +kernel
theorem dX5_fewestBeyond_0 : decode cX5_fewestBeyond 0 = .ok (.iload_n 3, 1) := by decide +kernel
theorem dX5_fewestBeyond_1 : decode cX5_fewestBeyond 1 = .ok (.aload_n 0, 1) := by decide +kernel
theorem dX5_fewestBeyond_2 : decode cX5_fewestBeyond 2 = .ok (.getfield 28, 3) := by decide +kernel
theorem dX5_fewestBeyond_5 : decode cX5_fewestBeyond 5 = .ok (.if_icmp .lt 5, 3) := by decide +kernel
theorem dX5_fewestBeyond_8 : decode cX5_fewestBeyond 8 = .ok (.iconst 0, 1) := by decide +kernel
theorem dX5_fewestBeyond_9 : decode cX5_fewestBeyond 9 = .ok (.ireturn, 1) := by decide +kernel
theorem dX5_fewestBeyond_10 : decode cX5_fewestBeyond 10 = .ok (.iconst (-1), 1) := by decide +kernel
theorem dX5_fewestBeyond_11 : decode cX5_fewestBeyond 11 = .ok (.istore 4, 2) := by decide +kernel
theorem dX5_fewestBeyond_13 : decode cX5_fewestBeyond 13 = .ok (.iconst 0, 1) := by decide +kernel
theorem dX5_fewestBeyond_14 : decode cX5_fewestBeyond 14 = .ok (.istore 5, 2) := by decide +kernel
theorem dX5_fewestBeyond_16 : decode cX5_fewestBeyond 16 = .ok (.iload 5, 2) := by decide +kernel
theorem dX5_fewestBeyond_18 : decode cX5_fewestBeyond 18 = .ok (.aload_n 0, 1) := by decide +kernel
theorem dX5_fewestBeyond_19 : decode cX5_fewestBeyond 19 = .ok (.getfield 28, 3) := by decide +kernel
theorem dX5_fewestBeyond_22 : decode cX5_fewestBeyond 22 = .ok (.if_icmp .ge 87, 3) := by decide +kernel
theorem dX5_fewestBeyond_25 : decode cX5_fewestBeyond 25 = .ok (.aload_n 0, 1) := by decide +kernel
theorem dX5_fewestBeyond_26 : decode cX5_fewestBeyond 26 = .ok (.getfield 9, 3) := by decide +kernel
theorem dX5_fewestBeyond_29 : decode cX5_fewestBeyond 29 = .ok (.iload_n 1, 1) := by decide +kernel
theorem dX5_fewestBeyond_30 : decode cX5_fewestBeyond 30 = .ok (.iaload, 1) := by decide +kernel
theorem dX5_fewestBeyond_31 : decode cX5_fewestBeyond 31 = .ok (.iload 5, 2) := by decide +kernel
theorem dX5_fewestBeyond_33 : decode cX5_fewestBeyond 33 = .ok (.invokestatic 68, 3) := by decide +kernel
theorem dX5_fewestBeyond_36 : decode cX5_fewestBeyond 36 = .ok (.ifCond .ne 6, 3) := by decide +kernel
theorem dX5_fewestBeyond_39 : decode cX5_fewestBeyond 39 = .ok (.goto 64, 3) := by decide +kernel
theorem dX5_fewestBeyond_42 : decode cX5_fewestBeyond 42 = .ok (.aload_n 0, 1) := by decide +kernel
theorem dX5_fewestBeyond_43 : decode cX5_fewestBeyond 43 = .ok (.iload_n 1, 1) := by decide +kernel
theorem dX5_fewestBeyond_44 : decode cX5_fewestBeyond 44 = .ok (.iconst 1, 1) := by decide +kernel
theorem dX5_fewestBeyond_45 : decode cX5_fewestBeyond 45 = .ok (.iload 5, 2) := by decide +kernel
theorem dX5_fewestBeyond_47 : decode cX5_fewestBeyond 47 = .ok (.ishl, 1) := by decide +kernel
theorem dX5_fewestBeyond_48 : decode cX5_fewestBeyond 48 = .ok (.ior, 1) := by decide +kernel
theorem dX5_fewestBeyond_49 : decode cX5_fewestBeyond 49 = .ok (.aload_n 0, 1) := by decide +kernel
theorem dX5_fewestBeyond_50 : decode cX5_fewestBeyond 50 = .ok (.getfield 18, 3) := by decide +kernel
theorem dX5_fewestBeyond_53 : decode cX5_fewestBeyond 53 = .ok (.iload 5, 2) := by decide +kernel
theorem dX5_fewestBeyond_55 : decode cX5_fewestBeyond 55 = .ok (.iaload, 1) := by decide +kernel
theorem dX5_fewestBeyond_56 : decode cX5_fewestBeyond 56 = .ok (.iload_n 3, 1) := by decide +kernel
theorem dX5_fewestBeyond_57 : decode cX5_fewestBeyond 57 = .ok (.iconst 1, 1) := by decide +kernel
theorem dX5_fewestBeyond_58 : decode cX5_fewestBeyond 58 = .ok (.iadd, 1) := by decide +kernel
theorem dX5_fewestBeyond_59 : decode cX5_fewestBeyond 59 = .ok (.invokestatic 50, 3) := by decide +kernel
theorem dX5_fewestBeyond_62 : decode cX5_fewestBeyond 62 = .ok (.istore 6, 2) := by decide +kernel
theorem dX5_fewestBeyond_64 : decode cX5_fewestBeyond 64 = .ok (.iload 6, 2) := by decide +kernel
theorem dX5_fewestBeyond_66 : decode cX5_fewestBeyond 66 = .ok (.iconst (-1), 1) := by decide +kernel
theorem dX5_fewestBeyond_67 : decode cX5_fewestBeyond 67 = .ok (.if_icmp .eq 36, 3) := by decide +kernel
theorem dX5_fewestBeyond_70 : decode cX5_fewestBeyond 70 = .ok (.iload 4, 2) := by decide +kernel
theorem dX5_fewestBeyond_72 : decode cX5_fewestBeyond 72 = .ok (.iconst (-1), 1) := by decide +kernel
theorem dX5_fewestBeyond_73 : decode cX5_fewestBeyond 73 = .ok (.if_icmp .eq 18, 3) := by decide +kernel
theorem dX5_fewestBeyond_76 : decode cX5_fewestBeyond 76 = .ok (.iload 6, 2) := by decide +kernel
theorem dX5_fewestBeyond_78 : decode cX5_fewestBeyond 78 = .ok (.aload_n 0, 1) := by decide +kernel
theorem dX5_fewestBeyond_79 : decode cX5_fewestBeyond 79 = .ok (.iload_n 2, 1) := by decide +kernel
theorem dX5_fewestBeyond_80 : decode cX5_fewestBeyond 80 = .ok (.iload 5, 2) := by decide +kernel
theorem dX5_fewestBeyond_82 : decode cX5_fewestBeyond 82 = .ok (.invokevirtual 78, 3) := by decide +kernel
theorem dX5_fewestBeyond_85 : decode cX5_fewestBeyond 85 = .ok (.iadd, 1) := by decide +kernel
theorem dX5_fewestBeyond_86 : decode cX5_fewestBeyond 86 = .ok (.iload 4, 2) := by decide +kernel
theorem dX5_fewestBeyond_88 : decode cX5_fewestBeyond 88 = .ok (.if_icmp .ge 15, 3) := by decide +kernel
theorem dX5_fewestBeyond_91 : decode cX5_fewestBeyond 91 = .ok (.iload 6, 2) := by decide +kernel
theorem dX5_fewestBeyond_93 : decode cX5_fewestBeyond 93 = .ok (.aload_n 0, 1) := by decide +kernel
theorem dX5_fewestBeyond_94 : decode cX5_fewestBeyond 94 = .ok (.iload_n 2, 1) := by decide +kernel
theorem dX5_fewestBeyond_95 : decode cX5_fewestBeyond 95 = .ok (.iload 5, 2) := by decide +kernel
theorem dX5_fewestBeyond_97 : decode cX5_fewestBeyond 97 = .ok (.invokevirtual 78, 3) := by decide +kernel
theorem dX5_fewestBeyond_100 : decode cX5_fewestBeyond 100 = .ok (.iadd, 1) := by decide +kernel
theorem dX5_fewestBeyond_101 : decode cX5_fewestBeyond 101 = .ok (.istore 4, 2) := by decide +kernel
theorem dX5_fewestBeyond_103 : decode cX5_fewestBeyond 103 = .ok (.iinc 5 1, 3) := by decide +kernel
theorem dX5_fewestBeyond_106 : decode cX5_fewestBeyond 106 = .ok (.goto (-90), 3) := by decide +kernel
theorem dX5_fewestBeyond_109 : decode cX5_fewestBeyond 109 = .ok (.iload 4, 2) := by decide +kernel
theorem dX5_fewestBeyond_111 : decode cX5_fewestBeyond 111 = .ok (.ireturn, 1) := by decide +kernel
theorem dX6_init_0 : decode cX6_init 0 = .ok (.aload_n 0, 1) := by decide +kernel
theorem dX6_init_1 : decode cX6_init 1 = .ok (.invokespecial 3, 3) := by decide +kernel
theorem dX6_init_4 : decode cX6_init 4 = .ok (.aload_n 0, 1) := by decide +kernel
theorem dX6_init_5 : decode cX6_init 5 = .ok (.iconst 5, 1) := by decide +kernel
theorem dX6_init_6 : decode cX6_init 6 = .ok (.newarray .int, 2) := by decide +kernel
theorem dX6_init_8 : decode cX6_init 8 = .ok (.putfield 9, 3) := by decide +kernel
theorem dX6_init_11 : decode cX6_init 11 = .ok (.iconst 1, 1) := by decide +kernel
theorem dX6_init_12 : decode cX6_init 12 = .ok (.istore_n 1, 1) := by decide +kernel
theorem dX6_init_13 : decode cX6_init 13 = .ok (.iload_n 1, 1) := by decide +kernel
theorem dX6_init_14 : decode cX6_init 14 = .ok (.iconst 4, 1) := by decide +kernel
theorem dX6_init_15 : decode cX6_init 15 = .ok (.if_icmp .gt 18, 3) := by decide +kernel
theorem dX6_init_18 : decode cX6_init 18 = .ok (.aload_n 0, 1) := by decide +kernel
theorem dX6_init_19 : decode cX6_init 19 = .ok (.getfield 9, 3) := by decide +kernel
theorem dX6_init_22 : decode cX6_init 22 = .ok (.iload_n 1, 1) := by decide +kernel
theorem dX6_init_23 : decode cX6_init 23 = .ok (.iconst 2, 1) := by decide +kernel
theorem dX6_init_24 : decode cX6_init 24 = .ok (.iload_n 1, 1) := by decide +kernel
theorem dX6_init_25 : decode cX6_init 25 = .ok (.imul, 1) := by decide +kernel
theorem dX6_init_26 : decode cX6_init 26 = .ok (.iastore, 1) := by decide +kernel
theorem dX6_init_27 : decode cX6_init 27 = .ok (.iinc 1 1, 3) := by decide +kernel
theorem dX6_init_30 : decode cX6_init 30 = .ok (.goto (-17), 3) := by decide +kernel
theorem dX6_init_33 : decode cX6_init 33 = .ok (.return_, 1) := by decide +kernel
theorem dX7_init_0 : decode cX7_init 0 = .ok (.aload_n 0, 1) := by decide +kernel
theorem dX7_init_1 : decode cX7_init 1 = .ok (.invokespecial 3, 3) := by decide +kernel
theorem dX7_init_4 : decode cX7_init 4 = .ok (.aload_n 0, 1) := by decide +kernel
theorem dX7_init_5 : decode cX7_init 5 = .ok (.bipush 6, 2) := by decide +kernel
theorem dX7_init_7 : decode cX7_init 7 = .ok (.newarray .int, 2) := by decide +kernel
theorem dX7_init_9 : decode cX7_init 9 = .ok (.putfield 9, 3) := by decide +kernel
theorem dX7_init_12 : decode cX7_init 12 = .ok (.aload_n 0, 1) := by decide +kernel
theorem dX7_init_13 : decode cX7_init 13 = .ok (.bipush 6, 2) := by decide +kernel
theorem dX7_init_15 : decode cX7_init 15 = .ok (.newarray .int, 2) := by decide +kernel
theorem dX7_init_17 : decode cX7_init 17 = .ok (.putfield 15, 3) := by decide +kernel
theorem dX7_init_20 : decode cX7_init 20 = .ok (.return_, 1) := by decide +kernel
theorem dX7_unroll_0 : decode cX7_unroll 0 = .ok (.aload_n 0, 1) := by decide +kernel
theorem dX7_unroll_1 : decode cX7_unroll 1 = .ok (.aload_n 1, 1) := by decide +kernel
theorem dX7_unroll_2 : decode cX7_unroll 2 = .ok (.iload_n 3, 1) := by decide +kernel
theorem dX7_unroll_3 : decode cX7_unroll 3 = .ok (.iload 4, 2) := by decide +kernel
theorem dX7_unroll_5 : decode cX7_unroll 5 = .ok (.invokevirtual 18, 3) := by decide +kernel
theorem dX7_unroll_8 : decode cX7_unroll 8 = .ok (.putfield 24, 3) := by decide +kernel
theorem dX7_unroll_11 : decode cX7_unroll 11 = .ok (.aload_n 0, 1) := by decide +kernel
theorem dX7_unroll_12 : decode cX7_unroll 12 = .ok (.iconst 0, 1) := by decide +kernel
theorem dX7_unroll_13 : decode cX7_unroll 13 = .ok (.putfield 28, 3) := by decide +kernel
theorem dX7_unroll_16 : decode cX7_unroll 16 = .ok (.iload 4, 2) := by decide +kernel
theorem dX7_unroll_18 : decode cX7_unroll 18 = .ok (.ifCond .eq 7, 3) := by decide +kernel
theorem dX7_unroll_21 : decode cX7_unroll 21 = .ok (.iconst 1, 1) := by decide +kernel
theorem dX7_unroll_22 : decode cX7_unroll 22 = .ok (.goto 4, 3) := by decide +kernel
theorem dX7_unroll_25 : decode cX7_unroll 25 = .ok (.iconst (-1), 1) := by decide +kernel
theorem dX7_unroll_26 : decode cX7_unroll 26 = .ok (.istore 5, 2) := by decide +kernel
theorem dX7_unroll_28 : decode cX7_unroll 28 = .ok (.iconst 0, 1) := by decide +kernel
theorem dX7_unroll_29 : decode cX7_unroll 29 = .ok (.istore 6, 2) := by decide +kernel
theorem dX7_unroll_31 : decode cX7_unroll 31 = .ok (.iconst 0, 1) := by decide +kernel
theorem dX7_unroll_32 : decode cX7_unroll 32 = .ok (.istore 7, 2) := by decide +kernel
theorem dX7_unroll_34 : decode cX7_unroll 34 = .ok (.iconst 1, 1) := by decide +kernel
theorem dX7_unroll_35 : decode cX7_unroll 35 = .ok (.istore 8, 2) := by decide +kernel
theorem dX7_unroll_37 : decode cX7_unroll 37 = .ok (.iconst 0, 1) := by decide +kernel
theorem dX7_unroll_38 : decode cX7_unroll 38 = .ok (.istore 9, 2) := by decide +kernel
theorem dX7_unroll_40 : decode cX7_unroll 40 = .ok (.iconst 1, 1) := by decide +kernel
theorem dX7_unroll_41 : decode cX7_unroll 41 = .ok (.istore 10, 2) := by decide +kernel
theorem dX7_unroll_43 : decode cX7_unroll 43 = .ok (.iconst 0, 1) := by decide +kernel
theorem dX7_unroll_44 : decode cX7_unroll 44 = .ok (.istore 11, 2) := by decide +kernel
theorem dX7_unroll_46 : decode cX7_unroll 46 = .ok (.iload 11, 2) := by decide +kernel
theorem dX7_unroll_48 : decode cX7_unroll 48 = .ok (.aload_n 0, 1) := by decide +kernel
theorem dX7_unroll_49 : decode cX7_unroll 49 = .ok (.getfield 24, 3) := by decide +kernel
theorem dX7_unroll_52 : decode cX7_unroll 52 = .ok (.if_icmp .ge 149, 3) := by decide +kernel
theorem dX7_unroll_55 : decode cX7_unroll 55 = .ok (.iload_n 3, 1) := by decide +kernel
theorem dX7_unroll_56 : decode cX7_unroll 56 = .ok (.iload 5, 2) := by decide +kernel
theorem dX7_unroll_58 : decode cX7_unroll 58 = .ok (.iload 11, 2) := by decide +kernel
theorem dX7_unroll_60 : decode cX7_unroll 60 = .ok (.imul, 1) := by decide +kernel
theorem dX7_unroll_61 : decode cX7_unroll 61 = .ok (.iadd, 1) := by decide +kernel
theorem dX7_unroll_62 : decode cX7_unroll 62 = .ok (.istore 12, 2) := by decide +kernel
theorem dX7_unroll_64 : decode cX7_unroll 64 = .ok (.iload_n 2, 1) := by decide +kernel
theorem dX7_unroll_65 : decode cX7_unroll 65 = .ok (.iload 12, 2) := by decide +kernel
theorem dX7_unroll_67 : decode cX7_unroll 67 = .ok (.invokestatic 31, 3) := by decide +kernel
theorem dX7_unroll_70 : decode cX7_unroll 70 = .ok (.ifCond .eq 46, 3) := by decide +kernel
theorem dX7_unroll_73 : decode cX7_unroll 73 = .ok (.aload_n 1, 1) := by decide +kernel
theorem dX7_unroll_74 : decode cX7_unroll 74 = .ok (.iload 12, 2) := by decide +kernel
theorem dX7_unroll_76 : decode cX7_unroll 76 = .ok (.invokevirtual 35, 3) := by decide +kernel
theorem dX7_unroll_79 : decode cX7_unroll 79 = .ok (.aload_n 1, 1) := by decide +kernel
theorem dX7_unroll_80 : decode cX7_unroll 80 = .ok (.iload_n 3, 1) := by decide +kernel
theorem dX7_unroll_81 : decode cX7_unroll 81 = .ok (.invokevirtual 35, 3) := by decide +kernel
theorem dX7_unroll_84 : decode cX7_unroll 84 = .ok (.if_icmp .ne 7, 3) := by decide +kernel
theorem dX7_unroll_87 : decode cX7_unroll 87 = .ok (.iconst 1, 1) := by decide +kernel
theorem dX7_unroll_88 : decode cX7_unroll 88 = .ok (.goto 4, 3) := by decide +kernel
theorem dX7_unroll_91 : decode cX7_unroll 91 = .ok (.iconst (-1), 1) := by decide +kernel
theorem dX7_unroll_92 : decode cX7_unroll 92 = .ok (.istore 13, 2) := by decide +kernel
theorem dX7_unroll_94 : decode cX7_unroll 94 = .ok (.iload 13, 2) := by decide +kernel
theorem dX7_unroll_96 : decode cX7_unroll 96 = .ok (.ineg, 1) := by decide +kernel
theorem dX7_unroll_97 : decode cX7_unroll 97 = .ok (.iload 9, 2) := by decide +kernel
theorem dX7_unroll_99 : decode cX7_unroll 99 = .ok (.imul, 1) := by decide +kernel
theorem dX7_unroll_100 : decode cX7_unroll 100 = .ok (.istore 14, 2) := by decide +kernel
theorem dX7_unroll_102 : decode cX7_unroll 102 = .ok (.iload 13, 2) := by decide +kernel
theorem dX7_unroll_104 : decode cX7_unroll 104 = .ok (.iload 8, 2) := by decide +kernel
theorem dX7_unroll_106 : decode cX7_unroll 106 = .ok (.imul, 1) := by decide +kernel
theorem dX7_unroll_107 : decode cX7_unroll 107 = .ok (.istore 9, 2) := by decide +kernel
theorem dX7_unroll_109 : decode cX7_unroll 109 = .ok (.iload 14, 2) := by decide +kernel
theorem dX7_unroll_111 : decode cX7_unroll 111 = .ok (.istore 8, 2) := by decide +kernel
theorem dX7_unroll_113 : decode cX7_unroll 113 = .ok (.iconst 0, 1) := by decide +kernel
theorem dX7_unroll_114 : decode cX7_unroll 114 = .ok (.istore 10, 2) := by decide +kernel
theorem dX7_unroll_116 : decode cX7_unroll 116 = .ok (.aload_n 1, 1) := by decide +kernel
theorem dX7_unroll_117 : decode cX7_unroll 117 = .ok (.getfield 39, 3) := by decide +kernel
theorem dX7_unroll_120 : decode cX7_unroll 120 = .ok (.iload 4, 2) := by decide +kernel
theorem dX7_unroll_122 : decode cX7_unroll 122 = .ok (.ifCond .eq 10, 3) := by decide +kernel
theorem dX7_unroll_125 : decode cX7_unroll 125 = .ok (.iload 12, 2) := by decide +kernel
theorem dX7_unroll_127 : decode cX7_unroll 127 = .ok (.iconst 1, 1) := by decide +kernel
theorem dX7_unroll_128 : decode cX7_unroll 128 = .ok (.iadd, 1) := by decide +kernel
theorem dX7_unroll_129 : decode cX7_unroll 129 = .ok (.goto 5, 3) := by decide +kernel
theorem dX7_unroll_132 : decode cX7_unroll 132 = .ok (.iload 12, 2) := by decide +kernel
theorem dX7_unroll_134 : decode cX7_unroll 134 = .ok (.iaload, 1) := by decide +kernel
theorem dX7_unroll_135 : decode cX7_unroll 135 = .ok (.istore 13, 2) := by decide +kernel
theorem dX7_unroll_137 : decode cX7_unroll 137 = .ok (.iload 6, 2) := by decide +kernel
theorem dX7_unroll_139 : decode cX7_unroll 139 = .ok (.iload 8, 2) := by decide +kernel
theorem dX7_unroll_141 : decode cX7_unroll 141 = .ok (.iload 13, 2) := by decide +kernel
theorem dX7_unroll_143 : decode cX7_unroll 143 = .ok (.imul, 1) := by decide +kernel
theorem dX7_unroll_144 : decode cX7_unroll 144 = .ok (.iadd, 1) := by decide +kernel
theorem dX7_unroll_145 : decode cX7_unroll 145 = .ok (.istore 6, 2) := by decide +kernel
theorem dX7_unroll_147 : decode cX7_unroll 147 = .ok (.iload 7, 2) := by decide +kernel
theorem dX7_unroll_149 : decode cX7_unroll 149 = .ok (.iload 9, 2) := by decide +kernel
theorem dX7_unroll_151 : decode cX7_unroll 151 = .ok (.iload 13, 2) := by decide +kernel
theorem dX7_unroll_153 : decode cX7_unroll 153 = .ok (.imul, 1) := by decide +kernel
theorem dX7_unroll_154 : decode cX7_unroll 154 = .ok (.iadd, 1) := by decide +kernel
theorem dX7_unroll_155 : decode cX7_unroll 155 = .ok (.istore 7, 2) := by decide +kernel
theorem dX7_unroll_157 : decode cX7_unroll 157 = .ok (.aload_n 0, 1) := by decide +kernel
theorem dX7_unroll_158 : decode cX7_unroll 158 = .ok (.getfield 9, 3) := by decide +kernel
theorem dX7_unroll_161 : decode cX7_unroll 161 = .ok (.iload 11, 2) := by decide +kernel
theorem dX7_unroll_163 : decode cX7_unroll 163 = .ok (.iload 6, 2) := by decide +kernel
theorem dX7_unroll_165 : decode cX7_unroll 165 = .ok (.iastore, 1) := by decide +kernel
theorem dX7_unroll_166 : decode cX7_unroll 166 = .ok (.aload_n 0, 1) := by decide +kernel
theorem dX7_unroll_167 : decode cX7_unroll 167 = .ok (.getfield 15, 3) := by decide +kernel
theorem dX7_unroll_170 : decode cX7_unroll 170 = .ok (.iload 11, 2) := by decide +kernel
theorem dX7_unroll_172 : decode cX7_unroll 172 = .ok (.iload 7, 2) := by decide +kernel
theorem dX7_unroll_174 : decode cX7_unroll 174 = .ok (.iastore, 1) := by decide +kernel
theorem dX7_unroll_175 : decode cX7_unroll 175 = .ok (.aload_n 0, 1) := by decide +kernel
theorem dX7_unroll_176 : decode cX7_unroll 176 = .ok (.dup, 1) := by decide +kernel
theorem dX7_unroll_177 : decode cX7_unroll 177 = .ok (.getfield 28, 3) := by decide +kernel
theorem dX7_unroll_180 : decode cX7_unroll 180 = .ok (.iload 10, 2) := by decide +kernel
theorem dX7_unroll_182 : decode cX7_unroll 182 = .ok (.ifCond .eq 8, 3) := by decide +kernel
theorem dX7_unroll_185 : decode cX7_unroll 185 = .ok (.iload 13, 2) := by decide +kernel
theorem dX7_unroll_187 : decode cX7_unroll 187 = .ok (.goto 4, 3) := by decide +kernel
theorem dX7_unroll_190 : decode cX7_unroll 190 = .ok (.iconst 0, 1) := by decide +kernel
theorem dX7_unroll_191 : decode cX7_unroll 191 = .ok (.iadd, 1) := by decide +kernel
theorem dX7_unroll_192 : decode cX7_unroll 192 = .ok (.putfield 28, 3) := by decide +kernel
theorem dX7_unroll_195 : decode cX7_unroll 195 = .ok (.iinc 11 1, 3) := by decide +kernel
theorem dX7_unroll_198 : decode cX7_unroll 198 = .ok (.goto (-152), 3) := by decide +kernel
theorem dX7_unroll_201 : decode cX7_unroll 201 = .ok (.return_, 1) := by decide +kernel
theorem dX7_hitsPunch_0 : decode cX7_hitsPunch 0 = .ok (.iconst 0, 1) := by decide +kernel
theorem dX7_hitsPunch_1 : decode cX7_hitsPunch 1 = .ok (.istore_n 2, 1) := by decide +kernel
theorem dX7_hitsPunch_2 : decode cX7_hitsPunch 2 = .ok (.iload_n 2, 1) := by decide +kernel
theorem dX7_hitsPunch_3 : decode cX7_hitsPunch 3 = .ok (.aload_n 0, 1) := by decide +kernel
theorem dX7_hitsPunch_4 : decode cX7_hitsPunch 4 = .ok (.getfield 24, 3) := by decide +kernel
theorem dX7_hitsPunch_7 : decode cX7_hitsPunch 7 = .ok (.if_icmp .ge 37, 3) := by decide +kernel
theorem dX7_hitsPunch_10 : decode cX7_hitsPunch 10 = .ok (.aload_n 0, 1) := by decide +kernel
theorem dX7_hitsPunch_11 : decode cX7_hitsPunch 11 = .ok (.getfield 15, 3) := by decide +kernel
theorem dX7_hitsPunch_14 : decode cX7_hitsPunch 14 = .ok (.iload_n 2, 1) := by decide +kernel
theorem dX7_hitsPunch_15 : decode cX7_hitsPunch 15 = .ok (.iaload, 1) := by decide +kernel
theorem dX7_hitsPunch_16 : decode cX7_hitsPunch 16 = .ok (.ifCond .le 22, 3) := by decide +kernel
theorem dX7_hitsPunch_19 : decode cX7_hitsPunch 19 = .ok (.aload_n 0, 1) := by decide +kernel
theorem dX7_hitsPunch_20 : decode cX7_hitsPunch 20 = .ok (.getfield 15, 3) := by decide +kernel
theorem dX7_hitsPunch_23 : decode cX7_hitsPunch 23 = .ok (.iload_n 2, 1) := by decide +kernel
theorem dX7_hitsPunch_24 : decode cX7_hitsPunch 24 = .ok (.iaload, 1) := by decide +kernel
theorem dX7_hitsPunch_25 : decode cX7_hitsPunch 25 = .ok (.iload_n 1, 1) := by decide +kernel
theorem dX7_hitsPunch_26 : decode cX7_hitsPunch 26 = .ok (.iadd, 1) := by decide +kernel
theorem dX7_hitsPunch_27 : decode cX7_hitsPunch 27 = .ok (.aload_n 0, 1) := by decide +kernel
theorem dX7_hitsPunch_28 : decode cX7_hitsPunch 28 = .ok (.getfield 9, 3) := by decide +kernel
theorem dX7_hitsPunch_31 : decode cX7_hitsPunch 31 = .ok (.iload_n 2, 1) := by decide +kernel
theorem dX7_hitsPunch_32 : decode cX7_hitsPunch 32 = .ok (.iaload, 1) := by decide +kernel
theorem dX7_hitsPunch_33 : decode cX7_hitsPunch 33 = .ok (.if_icmp .le 5, 3) := by decide +kernel
theorem dX7_hitsPunch_36 : decode cX7_hitsPunch 36 = .ok (.iconst 1, 1) := by decide +kernel
theorem dX7_hitsPunch_37 : decode cX7_hitsPunch 37 = .ok (.ireturn, 1) := by decide +kernel
theorem dX7_hitsPunch_38 : decode cX7_hitsPunch 38 = .ok (.iinc 2 1, 3) := by decide +kernel
theorem dX7_hitsPunch_41 : decode cX7_hitsPunch 41 = .ok (.goto (-39), 3) := by decide +kernel
theorem dX7_hitsPunch_44 : decode cX7_hitsPunch 44 = .ok (.iconst 0, 1) := by decide +kernel
theorem dX7_hitsPunch_45 : decode cX7_hitsPunch 45 = .ok (.ireturn, 1) := by decide +kernel
theorem dX7_hitsTable_0 : decode cX7_hitsTable 0 = .ok (.iconst 0, 1) := by decide +kernel
theorem dX7_hitsTable_1 : decode cX7_hitsTable 1 = .ok (.istore_n 3, 1) := by decide +kernel
theorem dX7_hitsTable_2 : decode cX7_hitsTable 2 = .ok (.iload_n 3, 1) := by decide +kernel
theorem dX7_hitsTable_3 : decode cX7_hitsTable 3 = .ok (.aload_n 0, 1) := by decide +kernel
theorem dX7_hitsTable_4 : decode cX7_hitsTable 4 = .ok (.getfield 24, 3) := by decide +kernel
theorem dX7_hitsTable_7 : decode cX7_hitsTable 7 = .ok (.if_icmp .ge 32, 3) := by decide +kernel
theorem dX7_hitsTable_10 : decode cX7_hitsTable 10 = .ok (.aload_n 0, 1) := by decide +kernel
theorem dX7_hitsTable_11 : decode cX7_hitsTable 11 = .ok (.getfield 15, 3) := by decide +kernel
theorem dX7_hitsTable_14 : decode cX7_hitsTable 14 = .ok (.iload_n 3, 1) := by decide +kernel
theorem dX7_hitsTable_15 : decode cX7_hitsTable 15 = .ok (.iaload, 1) := by decide +kernel
theorem dX7_hitsTable_16 : decode cX7_hitsTable 16 = .ok (.ineg, 1) := by decide +kernel
theorem dX7_hitsTable_17 : decode cX7_hitsTable 17 = .ok (.iload_n 1, 1) := by decide +kernel
theorem dX7_hitsTable_18 : decode cX7_hitsTable 18 = .ok (.if_icmp .le 15, 3) := by decide +kernel
theorem dX7_hitsTable_21 : decode cX7_hitsTable 21 = .ok (.aload_n 0, 1) := by decide +kernel
theorem dX7_hitsTable_22 : decode cX7_hitsTable 22 = .ok (.getfield 9, 3) := by decide +kernel
theorem dX7_hitsTable_25 : decode cX7_hitsTable 25 = .ok (.iload_n 3, 1) := by decide +kernel
theorem dX7_hitsTable_26 : decode cX7_hitsTable 26 = .ok (.iaload, 1) := by decide +kernel
theorem dX7_hitsTable_27 : decode cX7_hitsTable 27 = .ok (.iload_n 2, 1) := by decide +kernel
theorem dX7_hitsTable_28 : decode cX7_hitsTable 28 = .ok (.if_icmp .ge 5, 3) := by decide +kernel
theorem dX7_hitsTable_31 : decode cX7_hitsTable 31 = .ok (.iconst 1, 1) := by decide +kernel
theorem dX7_hitsTable_32 : decode cX7_hitsTable 32 = .ok (.ireturn, 1) := by decide +kernel
theorem dX7_hitsTable_33 : decode cX7_hitsTable 33 = .ok (.iinc 3 1, 3) := by decide +kernel
theorem dX7_hitsTable_36 : decode cX7_hitsTable 36 = .ok (.goto (-34), 3) := by decide +kernel
theorem dX7_hitsTable_39 : decode cX7_hitsTable 39 = .ok (.iconst 0, 1) := by decide +kernel
theorem dX7_hitsTable_40 : decode cX7_hitsTable 40 = .ok (.ireturn, 1) := by decide +kernel
theorem dJ9_max_7cf53_0 : decode cJ9_max_7cf53 0 = .ok (.iload_n 0, 1) := by decide +kernel
theorem dJ9_max_7cf53_1 : decode cJ9_max_7cf53 1 = .ok (.iload_n 1, 1) := by decide +kernel
theorem dJ9_max_7cf53_2 : decode cJ9_max_7cf53 2 = .ok (.if_icmp .lt 7, 3) := by decide +kernel
theorem dJ9_max_7cf53_5 : decode cJ9_max_7cf53 5 = .ok (.iload_n 0, 1) := by decide +kernel
theorem dJ9_max_7cf53_6 : decode cJ9_max_7cf53 6 = .ok (.goto 4, 3) := by decide +kernel
theorem dJ9_max_7cf53_9 : decode cJ9_max_7cf53 9 = .ok (.iload_n 1, 1) := by decide +kernel
theorem dJ9_max_7cf53_10 : decode cJ9_max_7cf53 10 = .ok (.ireturn, 1) := by decide +kernel
theorem dJ9_min_7cf53_0 : decode cJ9_min_7cf53 0 = .ok (.iload_n 0, 1) := by decide +kernel
theorem dJ9_min_7cf53_1 : decode cJ9_min_7cf53 1 = .ok (.iload_n 1, 1) := by decide +kernel
theorem dJ9_min_7cf53_2 : decode cJ9_min_7cf53 2 = .ok (.if_icmp .gt 7, 3) := by decide +kernel
theorem dJ9_min_7cf53_5 : decode cJ9_min_7cf53 5 = .ok (.iload_n 0, 1) := by decide +kernel
theorem dJ9_min_7cf53_6 : decode cJ9_min_7cf53 6 = .ok (.goto 4, 3) := by decide +kernel
theorem dJ9_min_7cf53_9 : decode cJ9_min_7cf53 9 = .ok (.iload_n 1, 1) := by decide +kernel
theorem dJ9_min_7cf53_10 : decode cJ9_min_7cf53 10 = .ok (.ireturn, 1) := by decide +kernel
