theorem dX9_init_0 : decode cX9_init 0 = .ok (.aload_n 0, 1) := by decide +kernel
theorem dX9_init_1 : decode cX9_init 1 = .ok (.invokespecial 1, 3) := by decide +kernel
theorem dX9_init_4 : decode cX9_init 4 = .ok (.aload_n 0, 1) := by decide +kernel
theorem dX9_init_5 : decode cX9_init 5 = .ok (.bipush 6, 2) := by decide +kernel
theorem dX9_init_7 : decode cX9_init 7 = .ok (.newarray .int, 2) := by decide +kernel
theorem dX9_init_9 : decode cX9_init 9 = .ok (.putfield 7, 3) := by decide +kernel
theorem dX9_init_12 : decode cX9_init 12 = .ok (.aload_n 0, 1) := by decide +kernel
theorem dX9_init_13 : decode cX9_init 13 = .ok (.bipush 6, 2) := by decide +kernel
theorem dX9_init_15 : decode cX9_init 15 = .ok (.newarray .int, 2) := by decide +kernel
theorem dX9_init_17 : decode cX9_init 17 = .ok (.putfield 13, 3) := by decide +kernel
theorem dX9_init_20 : decode cX9_init 20 = .ok (.aload_n 0, 1) := by decide +kernel
theorem dX9_init_21 : decode cX9_init 21 = .ok (.bipush 8, 2) := by decide +kernel
theorem dX9_init_23 : decode cX9_init 23 = .ok (.newarray .int, 2) := by decide +kernel
theorem dX9_init_25 : decode cX9_init 25 = .ok (.putfield 16, 3) := by decide +kernel
theorem dX9_init_28 : decode cX9_init 28 = .ok (.aload_n 0, 1) := by decide +kernel
theorem dX9_init_29 : decode cX9_init 29 = .ok (.bipush 48, 2) := by decide +kernel
theorem dX9_init_31 : decode cX9_init 31 = .ok (.newarray .int, 2) := by decide +kernel
theorem dX9_init_33 : decode cX9_init 33 = .ok (.putfield 19, 3) := by decide +kernel
theorem dX9_init_36 : decode cX9_init 36 = .ok (.aload_n 0, 1) := by decide +kernel
theorem dX9_init_37 : decode cX9_init 37 = .ok (.bipush 48, 2) := by decide +kernel
theorem dX9_init_39 : decode cX9_init 39 = .ok (.newarray .int, 2) := by decide +kernel
theorem dX9_init_41 : decode cX9_init 41 = .ok (.putfield 22, 3) := by decide +kernel
theorem dX9_init_44 : decode cX9_init 44 = .ok (.aload_n 0, 1) := by decide +kernel
theorem dX9_init_45 : decode cX9_init 45 = .ok (.bipush 8, 2) := by decide +kernel
theorem dX9_init_47 : decode cX9_init 47 = .ok (.newarray .int, 2) := by decide +kernel
theorem dX9_init_49 : decode cX9_init 49 = .ok (.putfield 25, 3) := by decide +kernel
theorem dX9_init_52 : decode cX9_init 52 = .ok (.aload_n 0, 1) := by decide +kernel
theorem dX9_init_53 : decode cX9_init 53 = .ok (.bipush 8, 2) := by decide +kernel
theorem dX9_init_55 : decode cX9_init 55 = .ok (.newarray .int, 2) := by decide +kernel
theorem dX9_init_57 : decode cX9_init 57 = .ok (.putfield 28, 3) := by decide +kernel
theorem dX9_init_60 : decode cX9_init 60 = .ok (.aload_n 0, 1) := by decide +kernel
theorem dX9_init_61 : decode cX9_init 61 = .ok (.bipush 8, 2) := by decide +kernel
theorem dX9_init_63 : decode cX9_init 63 = .ok (.newarray .int, 2) := by decide +kernel
theorem dX9_init_65 : decode cX9_init 65 = .ok (.putfield 31, 3) := by decide +kernel
theorem dX9_init_68 : decode cX9_init 68 = .ok (.aload_n 0, 1) := by decide +kernel
theorem dX9_init_69 : decode cX9_init 69 = .ok (.bipush 8, 2) := by decide +kernel
theorem dX9_init_71 : decode cX9_init 71 = .ok (.newarray .int, 2) := by decide +kernel
theorem dX9_init_73 : decode cX9_init 73 = .ok (.putfield 34, 3) := by decide +kernel
theorem dX9_init_76 : decode cX9_init 76 = .ok (.aload_n 0, 1) := by decide +kernel
theorem dX9_init_77 : decode cX9_init 77 = .ok (.bipush 48, 2) := by decide +kernel
theorem dX9_init_79 : decode cX9_init 79 = .ok (.newarray .int, 2) := by decide +kernel
theorem dX9_init_81 : decode cX9_init 81 = .ok (.putfield 37, 3) := by decide +kernel
theorem dX9_init_84 : decode cX9_init 84 = .ok (.aload_n 0, 1) := by decide +kernel
theorem dX9_init_85 : decode cX9_init 85 = .ok (.bipush 48, 2) := by decide +kernel
theorem dX9_init_87 : decode cX9_init 87 = .ok (.newarray .int, 2) := by decide +kernel
theorem dX9_init_89 : decode cX9_init 89 = .ok (.putfield 40, 3) := by decide +kernel
theorem dX9_init_92 : decode cX9_init 92 = .ok (.aload_n 0, 1) := by decide +kernel
theorem dX9_init_93 : decode cX9_init 93 = .ok (.bipush 48, 2) := by decide +kernel
theorem dX9_init_95 : decode cX9_init 95 = .ok (.newarray .int, 2) := by decide +kernel
theorem dX9_init_97 : decode cX9_init 97 = .ok (.putfield 43, 3) := by decide +kernel
theorem dX9_init_100 : decode cX9_init 100 = .ok (.aload_n 0, 1) := by decide +kernel
theorem dX9_init_101 : decode cX9_init 101 = .ok (.iconst 4, 1) := by decide +kernel
theorem dX9_init_102 : decode cX9_init 102 = .ok (.newarray .int, 2) := by decide +kernel
theorem dX9_init_104 : decode cX9_init 104 = .ok (.putfield 46, 3) := by decide +kernel
theorem dX9_init_107 : decode cX9_init 107 = .ok (.aload_n 0, 1) := by decide +kernel
theorem dX9_init_108 : decode cX9_init 108 = .ok (.iconst 4, 1) := by decide +kernel
theorem dX9_init_109 : decode cX9_init 109 = .ok (.newarray .int, 2) := by decide +kernel
theorem dX9_init_111 : decode cX9_init 111 = .ok (.putfield 49, 3) := by decide +kernel
theorem dX9_init_114 : decode cX9_init 114 = .ok (.aload_n 0, 1) := by decide +kernel
theorem dX9_init_115 : decode cX9_init 115 = .ok (.iconst 4, 1) := by decide +kernel
theorem dX9_init_116 : decode cX9_init 116 = .ok (.newarray .int, 2) := by decide +kernel
theorem dX9_init_118 : decode cX9_init 118 = .ok (.putfield 52, 3) := by decide +kernel
theorem dX9_init_121 : decode cX9_init 121 = .ok (.aload_n 0, 1) := by decide +kernel
theorem dX9_init_122 : decode cX9_init 122 = .ok (.iconst 4, 1) := by decide +kernel
theorem dX9_init_123 : decode cX9_init 123 = .ok (.newarray .int, 2) := by decide +kernel
theorem dX9_init_125 : decode cX9_init 125 = .ok (.putfield 55, 3) := by decide +kernel
theorem dX9_init_128 : decode cX9_init 128 = .ok (.aload_n 0, 1) := by decide +kernel
theorem dX9_init_129 : decode cX9_init 129 = .ok (.iconst 4, 1) := by decide +kernel
theorem dX9_init_130 : decode cX9_init 130 = .ok (.newarray .int, 2) := by decide +kernel
theorem dX9_init_132 : decode cX9_init 132 = .ok (.putfield 58, 3) := by decide +kernel
theorem dX9_init_135 : decode cX9_init 135 = .ok (.aload_n 0, 1) := by decide +kernel
theorem dX9_init_136 : decode cX9_init 136 = .ok (.bipush 20, 2) := by decide +kernel
theorem dX9_init_138 : decode cX9_init 138 = .ok (.newarray .int, 2) := by decide +kernel
theorem dX9_init_140 : decode cX9_init 140 = .ok (.putfield 61, 3) := by decide +kernel
theorem dX9_init_143 : decode cX9_init 143 = .ok (.aload_n 0, 1) := by decide +kernel
theorem dX9_init_144 : decode cX9_init 144 = .ok (.bipush 8, 2) := by decide +kernel
theorem dX9_init_146 : decode cX9_init 146 = .ok (.newarray .int, 2) := by decide +kernel
theorem dX9_init_148 : decode cX9_init 148 = .ok (.putfield 64, 3) := by decide +kernel
theorem dX9_init_151 : decode cX9_init 151 = .ok (.aload_n 0, 1) := by decide +kernel
theorem dX9_init_152 : decode cX9_init 152 = .ok (.bipush 20, 2) := by decide +kernel
theorem dX9_init_154 : decode cX9_init 154 = .ok (.newarray .int, 2) := by decide +kernel
theorem dX9_init_156 : decode cX9_init 156 = .ok (.putfield 67, 3) := by decide +kernel
theorem dX9_init_159 : decode cX9_init 159 = .ok (.aload_n 0, 1) := by decide +kernel
theorem dX9_init_160 : decode cX9_init 160 = .ok (.bipush 20, 2) := by decide +kernel
theorem dX9_init_162 : decode cX9_init 162 = .ok (.newarray .int, 2) := by decide +kernel
theorem dX9_init_164 : decode cX9_init 164 = .ok (.putfield 70, 3) := by decide +kernel
theorem dX9_init_167 : decode cX9_init 167 = .ok (.aload_n 0, 1) := by decide +kernel
theorem dX9_init_168 : decode cX9_init 168 = .ok (.bipush 20, 2) := by decide +kernel
theorem dX9_init_170 : decode cX9_init 170 = .ok (.newarray .int, 2) := by decide +kernel
theorem dX9_init_172 : decode cX9_init 172 = .ok (.putfield 73, 3) := by decide +kernel
theorem dX9_init_175 : decode cX9_init 175 = .ok (.aload_n 0, 1) := by decide +kernel
theorem dX9_init_176 : decode cX9_init 176 = .ok (.bipush 20, 2) := by decide +kernel
theorem dX9_init_178 : decode cX9_init 178 = .ok (.newarray .int, 2) := by decide +kernel
theorem dX9_init_180 : decode cX9_init 180 = .ok (.putfield 76, 3) := by decide +kernel
theorem dX9_init_183 : decode cX9_init 183 = .ok (.aload_n 0, 1) := by decide +kernel
theorem dX9_init_184 : decode cX9_init 184 = .ok (.bipush 20, 2) := by decide +kernel
theorem dX9_init_186 : decode cX9_init 186 = .ok (.newarray .int, 2) := by decide +kernel
theorem dX9_init_188 : decode cX9_init 188 = .ok (.putfield 79, 3) := by decide +kernel
theorem dX9_init_191 : decode cX9_init 191 = .ok (.aload_n 0, 1) := by decide +kernel
theorem dX9_init_192 : decode cX9_init 192 = .ok (.bipush 20, 2) := by decide +kernel
theorem dX9_init_194 : decode cX9_init 194 = .ok (.newarray .int, 2) := by decide +kernel
theorem dX9_init_196 : decode cX9_init 196 = .ok (.putfield 82, 3) := by decide +kernel
theorem dX9_init_199 : decode cX9_init 199 = .ok (.aload_n 0, 1) := by decide +kernel
theorem dX9_init_200 : decode cX9_init 200 = .ok (.sipush 224, 3) := by decide +kernel
theorem dX9_init_203 : decode cX9_init 203 = .ok (.newarray .int, 2) := by decide +kernel
theorem dX9_init_205 : decode cX9_init 205 = .ok (.putfield 85, 3) := by decide +kernel
theorem dX9_init_208 : decode cX9_init 208 = .ok (.aload_n 0, 1) := by decide +kernel
theorem dX9_init_209 : decode cX9_init 209 = .ok (.bipush 8, 2) := by decide +kernel
theorem dX9_init_211 : decode cX9_init 211 = .ok (.newarray .int, 2) := by decide +kernel
theorem dX9_init_213 : decode cX9_init 213 = .ok (.putfield 88, 3) := by decide +kernel
theorem dX9_init_216 : decode cX9_init 216 = .ok (.aload_n 0, 1) := by decide +kernel
theorem dX9_init_217 : decode cX9_init 217 = .ok (.bipush 40, 2) := by decide +kernel
theorem dX9_init_219 : decode cX9_init 219 = .ok (.newarray .int, 2) := by decide +kernel
theorem dX9_init_221 : decode cX9_init 221 = .ok (.putfield 91, 3) := by decide +kernel
theorem dX9_init_224 : decode cX9_init 224 = .ok (.aload_n 0, 1) := by decide +kernel
theorem dX9_init_225 : decode cX9_init 225 = .ok (.bipush 40, 2) := by decide +kernel
theorem dX9_init_227 : decode cX9_init 227 = .ok (.newarray .int, 2) := by decide +kernel
theorem dX9_init_229 : decode cX9_init 229 = .ok (.putfield 94, 3) := by decide +kernel
theorem dX9_init_232 : decode cX9_init 232 = .ok (.aload_n 0, 1) := by decide +kernel
theorem dX9_init_233 : decode cX9_init 233 = .ok (.bipush 40, 2) := by decide +kernel
theorem dX9_init_235 : decode cX9_init 235 = .ok (.newarray .int, 2) := by decide +kernel
theorem dX9_init_237 : decode cX9_init 237 = .ok (.putfield 97, 3) := by decide +kernel
theorem dX9_init_240 : decode cX9_init 240 = .ok (.aload_n 0, 1) := by decide +kernel
theorem dX9_init_241 : decode cX9_init 241 = .ok (.bipush 40, 2) := by decide +kernel
theorem dX9_init_243 : decode cX9_init 243 = .ok (.newarray .int, 2) := by decide +kernel
theorem dX9_init_245 : decode cX9_init 245 = .ok (.putfield 100, 3) := by decide +kernel
theorem dX9_init_248 : decode cX9_init 248 = .ok (.aload_n 0, 1) := by decide +kernel
theorem dX9_init_249 : decode cX9_init 249 = .ok (.bipush 40, 2) := by decide +kernel
theorem dX9_init_251 : decode cX9_init 251 = .ok (.newarray .int, 2) := by decide +kernel
theorem dX9_init_253 : decode cX9_init 253 = .ok (.putfield 103, 3) := by decide +kernel
theorem dX9_init_256 : decode cX9_init 256 = .ok (.return_, 1) := by decide +kernel
theorem dX9_thrown_0 : decode cX9_thrown 0 = .ok (.aload_n 0, 1) := by decide +kernel
theorem dX9_thrown_1 : decode cX9_thrown 1 = .ok (.getfield 106, 3) := by decide +kernel
theorem dX9_thrown_4 : decode cX9_thrown 4 = .ok (.ireturn, 1) := by decide +kernel
theorem dX9_goesWell_0 : decode cX9_goesWell 0 = .ok (.aload_n 0, 1) := by decide +kernel
theorem dX9_goesWell_1 : decode cX9_goesWell 1 = .ok (.iload_n 1, 1) := by decide +kernel
theorem dX9_goesWell_2 : decode cX9_goesWell 2 = .ok (.putfield 106, 3) := by decide +kernel
theorem dX9_goesWell_5 : decode cX9_goesWell 5 = .ok (.iload_n 1, 1) := by decide +kernel
theorem dX9_goesWell_6 : decode cX9_goesWell 6 = .ok (.ifCond .ne 7, 3) := by decide +kernel
theorem dX9_goesWell_9 : decode cX9_goesWell 9 = .ok (.iconst 1, 1) := by decide +kernel
theorem dX9_goesWell_10 : decode cX9_goesWell 10 = .ok (.goto 4, 3) := by decide +kernel
theorem dX9_goesWell_13 : decode cX9_goesWell 13 = .ok (.iconst 0, 1) := by decide +kernel
theorem dX9_goesWell_14 : decode cX9_goesWell 14 = .ok (.ireturn, 1) := by decide +kernel
theorem dX9_in_0 : decode cX9_in 0 = .ok (.iload_n 0, 1) := by decide +kernel
theorem dX9_in_1 : decode cX9_in 1 = .ok (.iload_n 1, 1) := by decide +kernel
theorem dX9_in_2 : decode cX9_in 2 = .ok (.if_icmp .lt 12, 3) := by decide +kernel
theorem dX9_in_5 : decode cX9_in 5 = .ok (.iload_n 0, 1) := by decide +kernel
theorem dX9_in_6 : decode cX9_in 6 = .ok (.iload_n 2, 1) := by decide +kernel
theorem dX9_in_7 : decode cX9_in 7 = .ok (.if_icmp .gt 7, 3) := by decide +kernel
theorem dX9_in_10 : decode cX9_in 10 = .ok (.iconst 1, 1) := by decide +kernel
theorem dX9_in_11 : decode cX9_in 11 = .ok (.goto 4, 3) := by decide +kernel
theorem dX9_in_14 : decode cX9_in 14 = .ok (.iconst 0, 1) := by decide +kernel
theorem dX9_in_15 : decode cX9_in 15 = .ok (.ireturn, 1) := by decide +kernel
theorem dX9_isPart_0 : decode cX9_isPart 0 = .ok (.iload_n 1, 1) := by decide +kernel
theorem dX9_isPart_1 : decode cX9_isPart 1 = .ok (.iconst 0, 1) := by decide +kernel
theorem dX9_isPart_2 : decode cX9_isPart 2 = .ok (.aload_n 0, 1) := by decide +kernel
theorem dX9_isPart_3 : decode cX9_isPart 3 = .ok (.getfield 110, 3) := by decide +kernel
theorem dX9_isPart_6 : decode cX9_isPart 6 = .ok (.iconst 1, 1) := by decide +kernel
theorem dX9_isPart_7 : decode cX9_isPart 7 = .ok (.isub, 1) := by decide +kernel
theorem dX9_isPart_8 : decode cX9_isPart 8 = .ok (.invokestatic 113, 3) := by decide +kernel
theorem dX9_isPart_11 : decode cX9_isPart 11 = .ok (.ireturn, 1) := by decide +kernel
theorem dX9_isTool_0 : decode cX9_isTool 0 = .ok (.iload_n 1, 1) := by decide +kernel
theorem dX9_isTool_1 : decode cX9_isTool 1 = .ok (.iconst 0, 1) := by decide +kernel
theorem dX9_isTool_2 : decode cX9_isTool 2 = .ok (.aload_n 0, 1) := by decide +kernel
theorem dX9_isTool_3 : decode cX9_isTool 3 = .ok (.getfield 117, 3) := by decide +kernel
theorem dX9_isTool_6 : decode cX9_isTool 6 = .ok (.iconst 1, 1) := by decide +kernel
theorem dX9_isTool_7 : decode cX9_isTool 7 = .ok (.isub, 1) := by decide +kernel
theorem dX9_isTool_8 : decode cX9_isTool 8 = .ok (.invokestatic 113, 3) := by decide +kernel
theorem dX9_isTool_11 : decode cX9_isTool 11 = .ok (.ireturn, 1) := by decide +kernel
theorem dX9_isBatch_0 : decode cX9_isBatch 0 = .ok (.iload_n 1, 1) := by decide +kernel
theorem dX9_isBatch_1 : decode cX9_isBatch 1 = .ok (.iconst 0, 1) := by decide +kernel
theorem dX9_isBatch_2 : decode cX9_isBatch 2 = .ok (.aload_n 0, 1) := by decide +kernel
theorem dX9_isBatch_3 : decode cX9_isBatch 3 = .ok (.getfield 120, 3) := by decide +kernel
theorem dX9_isBatch_6 : decode cX9_isBatch 6 = .ok (.iconst 1, 1) := by decide +kernel
theorem dX9_isBatch_7 : decode cX9_isBatch 7 = .ok (.isub, 1) := by decide +kernel
theorem dX9_isBatch_8 : decode cX9_isBatch 8 = .ok (.invokestatic 113, 3) := by decide +kernel
theorem dX9_isBatch_11 : decode cX9_isBatch 11 = .ok (.ireturn, 1) := by decide +kernel
theorem dX9_face_0 : decode cX9_face 0 = .ok (.iload_n 1, 1) := by decide +kernel
theorem dX9_face_1 : decode cX9_face 1 = .ok (.bipush 10, 2) := by decide +kernel
theorem dX9_face_3 : decode cX9_face 3 = .ok (.sipush 200, 3) := by decide +kernel
theorem dX9_face_6 : decode cX9_face 6 = .ok (.invokestatic 113, 3) := by decide +kernel
theorem dX9_face_9 : decode cX9_face 9 = .ok (.ifCond .eq 16, 3) := by decide +kernel
theorem dX9_face_12 : decode cX9_face 12 = .ok (.iload_n 2, 1) := by decide +kernel
theorem dX9_face_13 : decode cX9_face 13 = .ok (.iconst 0, 1) := by decide +kernel
theorem dX9_face_14 : decode cX9_face 14 = .ok (.iconst 1, 1) := by decide +kernel
theorem dX9_face_15 : decode cX9_face 15 = .ok (.invokestatic 113, 3) := by decide +kernel
theorem dX9_face_18 : decode cX9_face 18 = .ok (.ifCond .eq 7, 3) := by decide +kernel
theorem dX9_face_21 : decode cX9_face 21 = .ok (.iconst 1, 1) := by decide +kernel
theorem dX9_face_22 : decode cX9_face 22 = .ok (.goto 4, 3) := by decide +kernel
theorem dX9_face_25 : decode cX9_face 25 = .ok (.iconst 0, 1) := by decide +kernel
theorem dX9_face_26 : decode cX9_face 26 = .ok (.istore_n 3, 1) := by decide +kernel
theorem dX9_face_27 : decode cX9_face 27 = .ok (.aload_n 0, 1) := by decide +kernel
theorem dX9_face_28 : decode cX9_face 28 = .ok (.iload_n 3, 1) := by decide +kernel
theorem dX9_face_29 : decode cX9_face 29 = .ok (.ifCond .ne 7, 3) := by decide +kernel
theorem dX9_face_32 : decode cX9_face 32 = .ok (.iconst 1, 1) := by decide +kernel
theorem dX9_face_33 : decode cX9_face 33 = .ok (.goto 17, 3) := by decide +kernel
theorem dX9_face_36 : decode cX9_face 36 = .ok (.aload_n 0, 1) := by decide +kernel
theorem dX9_face_37 : decode cX9_face 37 = .ok (.getfield 123, 3) := by decide +kernel
theorem dX9_face_40 : decode cX9_face 40 = .ok (.bipush 6, 2) := by decide +kernel
theorem dX9_face_42 : decode cX9_face 42 = .ok (.if_icmp .ne 7, 3) := by decide +kernel
theorem dX9_face_45 : decode cX9_face 45 = .ok (.iconst 2, 1) := by decide +kernel
theorem dX9_face_46 : decode cX9_face 46 = .ok (.goto 4, 3) := by decide +kernel
theorem dX9_face_49 : decode cX9_face 49 = .ok (.iconst 0, 1) := by decide +kernel
theorem dX9_face_50 : decode cX9_face 50 = .ok (.invokevirtual 126, 3) := by decide +kernel
theorem dX9_face_53 : decode cX9_face 53 = .ok (.ifCond .ne 5, 3) := by decide +kernel
theorem dX9_face_56 : decode cX9_face 56 = .ok (.iconst 0, 1) := by decide +kernel
theorem dX9_face_57 : decode cX9_face 57 = .ok (.ireturn, 1) := by decide +kernel
theorem dX9_face_58 : decode cX9_face 58 = .ok (.aload_n 0, 1) := by decide +kernel
theorem dX9_face_59 : decode cX9_face 59 = .ok (.getfield 7, 3) := by decide +kernel
theorem dX9_face_62 : decode cX9_face 62 = .ok (.aload_n 0, 1) := by decide +kernel
theorem dX9_face_63 : decode cX9_face 63 = .ok (.getfield 123, 3) := by decide +kernel
theorem dX9_face_66 : decode cX9_face 66 = .ok (.iload_n 1, 1) := by decide +kernel
theorem dX9_face_67 : decode cX9_face 67 = .ok (.iastore, 1) := by decide +kernel
theorem dX9_face_68 : decode cX9_face 68 = .ok (.aload_n 0, 1) := by decide +kernel
theorem dX9_face_69 : decode cX9_face 69 = .ok (.getfield 123, 3) := by decide +kernel
theorem dX9_face_72 : decode cX9_face 72 = .ok (.ifCond .le 15, 3) := by decide +kernel
theorem dX9_face_75 : decode cX9_face 75 = .ok (.aload_n 0, 1) := by decide +kernel
theorem dX9_face_76 : decode cX9_face 76 = .ok (.getfield 13, 3) := by decide +kernel
theorem dX9_face_79 : decode cX9_face 79 = .ok (.aload_n 0, 1) := by decide +kernel
theorem dX9_face_80 : decode cX9_face 80 = .ok (.getfield 123, 3) := by decide +kernel
theorem dX9_face_83 : decode cX9_face 83 = .ok (.iconst 1, 1) := by decide +kernel
theorem dX9_face_84 : decode cX9_face 84 = .ok (.isub, 1) := by decide +kernel
theorem dX9_face_85 : decode cX9_face 85 = .ok (.iload_n 2, 1) := by decide +kernel
theorem dX9_face_86 : decode cX9_face 86 = .ok (.iastore, 1) := by decide +kernel
theorem dX9_face_87 : decode cX9_face 87 = .ok (.aload_n 0, 1) := by decide +kernel
theorem dX9_face_88 : decode cX9_face 88 = .ok (.dup, 1) := by decide +kernel
theorem dX9_face_89 : decode cX9_face 89 = .ok (.getfield 123, 3) := by decide +kernel
theorem dX9_face_92 : decode cX9_face 92 = .ok (.iconst 1, 1) := by decide +kernel
theorem dX9_face_93 : decode cX9_face 93 = .ok (.iadd, 1) := by decide +kernel
theorem dX9_face_94 : decode cX9_face 94 = .ok (.putfield 123, 3) := by decide +kernel
theorem dX9_face_97 : decode cX9_face 97 = .ok (.aload_n 0, 1) := by decide +kernel
theorem dX9_face_98 : decode cX9_face 98 = .ok (.getfield 123, 3) := by decide +kernel
theorem dX9_face_101 : decode cX9_face 101 = .ok (.ireturn, 1) := by decide +kernel
theorem dX9_wipe_0 : decode cX9_wipe 0 = .ok (.aload_n 0, 1) := by decide +kernel
theorem dX9_wipe_1 : decode cX9_wipe 1 = .ok (.iconst 0, 1) := by decide +kernel
theorem dX9_wipe_2 : decode cX9_wipe 2 = .ok (.putfield 106, 3) := by decide +kernel
theorem dX9_wipe_5 : decode cX9_wipe 5 = .ok (.aload_n 0, 1) := by decide +kernel
theorem dX9_wipe_6 : decode cX9_wipe 6 = .ok (.getfield 123, 3) := by decide +kernel
theorem dX9_wipe_9 : decode cX9_wipe 9 = .ok (.istore_n 1, 1) := by decide +kernel
theorem dX9_wipe_10 : decode cX9_wipe 10 = .ok (.aload_n 0, 1) := by decide +kernel
theorem dX9_wipe_11 : decode cX9_wipe 11 = .ok (.iconst 0, 1) := by decide +kernel
theorem dX9_wipe_12 : decode cX9_wipe 12 = .ok (.putfield 123, 3) := by decide +kernel
theorem dX9_wipe_15 : decode cX9_wipe 15 = .ok (.iload_n 1, 1) := by decide +kernel
theorem dX9_wipe_16 : decode cX9_wipe 16 = .ok (.ireturn, 1) := by decide +kernel
theorem dX9_isSheet_0 : decode cX9_isSheet 0 = .ok (.iload_n 0, 1) := by decide +kernel
theorem dX9_isSheet_1 : decode cX9_isSheet 1 = .ok (.bipush 10, 2) := by decide +kernel
theorem dX9_isSheet_3 : decode cX9_isSheet 3 = .ok (.sipush 300, 3) := by decide +kernel
theorem dX9_isSheet_6 : decode cX9_isSheet 6 = .ok (.invokestatic 113, 3) := by decide +kernel
theorem dX9_isSheet_9 : decode cX9_isSheet 9 = .ok (.ifCond .eq 16, 3) := by decide +kernel
theorem dX9_isSheet_12 : decode cX9_isSheet 12 = .ok (.iload_n 1, 1) := by decide +kernel
theorem dX9_isSheet_13 : decode cX9_isSheet 13 = .ok (.iconst 1, 1) := by decide +kernel
theorem dX9_isSheet_14 : decode cX9_isSheet 14 = .ok (.iconst 4, 1) := by decide +kernel
theorem dX9_isSheet_15 : decode cX9_isSheet 15 = .ok (.invokestatic 113, 3) := by decide +kernel
theorem dX9_isSheet_18 : decode cX9_isSheet 18 = .ok (.ifCond .eq 7, 3) := by decide +kernel
theorem dX9_isSheet_21 : decode cX9_isSheet 21 = .ok (.iconst 1, 1) := by decide +kernel
theorem dX9_isSheet_22 : decode cX9_isSheet 22 = .ok (.goto 4, 3) := by decide +kernel
theorem dX9_isSheet_25 : decode cX9_isSheet 25 = .ok (.iconst 0, 1) := by decide +kernel
theorem dX9_isSheet_26 : decode cX9_isSheet 26 = .ok (.ireturn, 1) := by decide +kernel
theorem dX9_draw_0 : decode cX9_draw 0 = .ok (.aload_n 0, 1) := by decide +kernel
theorem dX9_draw_1 : decode cX9_draw 1 = .ok (.getfield 16, 3) := by decide +kernel
theorem dX9_draw_4 : decode cX9_draw 4 = .ok (.iload_n 1, 1) := by decide +kernel
theorem dX9_draw_5 : decode cX9_draw 5 = .ok (.aload_n 0, 1) := by decide +kernel
theorem dX9_draw_6 : decode cX9_draw 6 = .ok (.getfield 123, 3) := by decide +kernel
theorem dX9_draw_9 : decode cX9_draw 9 = .ok (.iastore, 1) := by decide +kernel
theorem dX9_draw_10 : decode cX9_draw 10 = .ok (.iconst 0, 1) := by decide +kernel
theorem dX9_draw_11 : decode cX9_draw 11 = .ok (.istore 4, 2) := by decide +kernel
theorem dX9_draw_13 : decode cX9_draw 13 = .ok (.iload 4, 2) := by decide +kernel
theorem dX9_draw_15 : decode cX9_draw 15 = .ok (.aload_n 0, 1) := by decide +kernel
theorem dX9_draw_16 : decode cX9_draw 16 = .ok (.getfield 123, 3) := by decide +kernel
theorem dX9_draw_19 : decode cX9_draw 19 = .ok (.if_icmp .ge 47, 3) := by decide +kernel
theorem dX9_draw_22 : decode cX9_draw 22 = .ok (.aload_n 0, 1) := by decide +kernel
theorem dX9_draw_23 : decode cX9_draw 23 = .ok (.getfield 19, 3) := by decide +kernel
theorem dX9_draw_26 : decode cX9_draw 26 = .ok (.bipush 6, 2) := by decide +kernel
theorem dX9_draw_28 : decode cX9_draw 28 = .ok (.iload_n 1, 1) := by decide +kernel
theorem dX9_draw_29 : decode cX9_draw 29 = .ok (.imul, 1) := by decide +kernel
theorem dX9_draw_30 : decode cX9_draw 30 = .ok (.iload 4, 2) := by decide +kernel
theorem dX9_draw_32 : decode cX9_draw 32 = .ok (.iadd, 1) := by decide +kernel
theorem dX9_draw_33 : decode cX9_draw 33 = .ok (.aload_n 0, 1) := by decide +kernel
theorem dX9_draw_34 : decode cX9_draw 34 = .ok (.getfield 7, 3) := by decide +kernel
theorem dX9_draw_37 : decode cX9_draw 37 = .ok (.iload 4, 2) := by decide +kernel
theorem dX9_draw_39 : decode cX9_draw 39 = .ok (.iaload, 1) := by decide +kernel
theorem dX9_draw_40 : decode cX9_draw 40 = .ok (.iastore, 1) := by decide +kernel
theorem dX9_draw_41 : decode cX9_draw 41 = .ok (.aload_n 0, 1) := by decide +kernel
theorem dX9_draw_42 : decode cX9_draw 42 = .ok (.getfield 22, 3) := by decide +kernel
theorem dX9_draw_45 : decode cX9_draw 45 = .ok (.bipush 6, 2) := by decide +kernel
theorem dX9_draw_47 : decode cX9_draw 47 = .ok (.iload_n 1, 1) := by decide +kernel
theorem dX9_draw_48 : decode cX9_draw 48 = .ok (.imul, 1) := by decide +kernel
theorem dX9_draw_49 : decode cX9_draw 49 = .ok (.iload 4, 2) := by decide +kernel
theorem dX9_draw_51 : decode cX9_draw 51 = .ok (.iadd, 1) := by decide +kernel
theorem dX9_draw_52 : decode cX9_draw 52 = .ok (.aload_n 0, 1) := by decide +kernel
theorem dX9_draw_53 : decode cX9_draw 53 = .ok (.getfield 13, 3) := by decide +kernel
theorem dX9_draw_56 : decode cX9_draw 56 = .ok (.iload 4, 2) := by decide +kernel
theorem dX9_draw_58 : decode cX9_draw 58 = .ok (.iaload, 1) := by decide +kernel
theorem dX9_draw_59 : decode cX9_draw 59 = .ok (.iastore, 1) := by decide +kernel
theorem dX9_draw_60 : decode cX9_draw 60 = .ok (.iinc 4 1, 3) := by decide +kernel
theorem dX9_draw_63 : decode cX9_draw 63 = .ok (.goto (-50), 3) := by decide +kernel
theorem dX9_draw_66 : decode cX9_draw 66 = .ok (.aload_n 0, 1) := by decide +kernel
theorem dX9_draw_67 : decode cX9_draw 67 = .ok (.getfield 25, 3) := by decide +kernel
theorem dX9_draw_70 : decode cX9_draw 70 = .ok (.iload_n 1, 1) := by decide +kernel
theorem dX9_draw_71 : decode cX9_draw 71 = .ok (.iload_n 2, 1) := by decide +kernel
theorem dX9_draw_72 : decode cX9_draw 72 = .ok (.iastore, 1) := by decide +kernel
theorem dX9_draw_73 : decode cX9_draw 73 = .ok (.aload_n 0, 1) := by decide +kernel
theorem dX9_draw_74 : decode cX9_draw 74 = .ok (.getfield 28, 3) := by decide +kernel
theorem dX9_draw_77 : decode cX9_draw 77 = .ok (.iload_n 1, 1) := by decide +kernel
theorem dX9_draw_78 : decode cX9_draw 78 = .ok (.iload_n 3, 1) := by decide +kernel
theorem dX9_draw_79 : decode cX9_draw 79 = .ok (.iastore, 1) := by decide +kernel
theorem dX9_draw_80 : decode cX9_draw 80 = .ok (.aload_n 0, 1) := by decide +kernel
theorem dX9_draw_81 : decode cX9_draw 81 = .ok (.getfield 34, 3) := by decide +kernel
theorem dX9_draw_84 : decode cX9_draw 84 = .ok (.iload_n 1, 1) := by decide +kernel
theorem dX9_draw_85 : decode cX9_draw 85 = .ok (.iconst 0, 1) := by decide +kernel
theorem dX9_draw_86 : decode cX9_draw 86 = .ok (.iastore, 1) := by decide +kernel
theorem dX9_draw_87 : decode cX9_draw 87 = .ok (.aload_n 0, 1) := by decide +kernel
theorem dX9_draw_88 : decode cX9_draw 88 = .ok (.iconst 0, 1) := by decide +kernel
theorem dX9_draw_89 : decode cX9_draw 89 = .ok (.putfield 123, 3) := by decide +kernel
theorem dX9_draw_92 : decode cX9_draw 92 = .ok (.return_, 1) := by decide +kernel
theorem dX9_part_0 : decode cX9_part 0 = .ok (.iload_n 1, 1) := by decide +kernel
theorem dX9_part_1 : decode cX9_part 1 = .ok (.iload_n 2, 1) := by decide +kernel
theorem dX9_part_2 : decode cX9_part 2 = .ok (.invokestatic 130, 3) := by decide +kernel
theorem dX9_part_5 : decode cX9_part 5 = .ok (.istore_n 3, 1) := by decide +kernel
theorem dX9_part_6 : decode cX9_part 6 = .ok (.aload_n 0, 1) := by decide +kernel
theorem dX9_part_7 : decode cX9_part 7 = .ok (.iload_n 3, 1) := by decide +kernel
theorem dX9_part_8 : decode cX9_part 8 = .ok (.ifCond .ne 7, 3) := by decide +kernel
theorem dX9_part_11 : decode cX9_part 11 = .ok (.iconst 1, 1) := by decide +kernel
theorem dX9_part_12 : decode cX9_part 12 = .ok (.goto 24, 3) := by decide +kernel
theorem dX9_part_15 : decode cX9_part 15 = .ok (.aload_n 0, 1) := by decide +kernel
theorem dX9_part_16 : decode cX9_part 16 = .ok (.getfield 123, 3) := by decide +kernel
theorem dX9_part_19 : decode cX9_part 19 = .ok (.ifCond .eq 12, 3) := by decide +kernel
theorem dX9_part_22 : decode cX9_part 22 = .ok (.aload_n 0, 1) := by decide +kernel
theorem dX9_part_23 : decode cX9_part 23 = .ok (.getfield 110, 3) := by decide +kernel
theorem dX9_part_26 : decode cX9_part 26 = .ok (.bipush 8, 2) := by decide +kernel
theorem dX9_part_28 : decode cX9_part 28 = .ok (.if_icmp .ne 7, 3) := by decide +kernel
theorem dX9_part_31 : decode cX9_part 31 = .ok (.iconst 2, 1) := by decide +kernel
theorem dX9_part_32 : decode cX9_part 32 = .ok (.goto 4, 3) := by decide +kernel
theorem dX9_part_35 : decode cX9_part 35 = .ok (.iconst 0, 1) := by decide +kernel
theorem dX9_part_36 : decode cX9_part 36 = .ok (.invokevirtual 126, 3) := by decide +kernel
theorem dX9_part_39 : decode cX9_part 39 = .ok (.ifCond .ne 5, 3) := by decide +kernel
theorem dX9_part_42 : decode cX9_part 42 = .ok (.iconst 0, 1) := by decide +kernel
theorem dX9_part_43 : decode cX9_part 43 = .ok (.ireturn, 1) := by decide +kernel
theorem dX9_part_44 : decode cX9_part 44 = .ok (.aload_n 0, 1) := by decide +kernel
theorem dX9_part_45 : decode cX9_part 45 = .ok (.aload_n 0, 1) := by decide +kernel
theorem dX9_part_46 : decode cX9_part 46 = .ok (.getfield 110, 3) := by decide +kernel
theorem dX9_part_49 : decode cX9_part 49 = .ok (.iload_n 1, 1) := by decide +kernel
theorem dX9_part_50 : decode cX9_part 50 = .ok (.iload_n 2, 1) := by decide +kernel
theorem dX9_part_51 : decode cX9_part 51 = .ok (.invokevirtual 134, 3) := by decide +kernel
theorem dX9_part_54 : decode cX9_part 54 = .ok (.aload_n 0, 1) := by decide +kernel
theorem dX9_part_55 : decode cX9_part 55 = .ok (.dup, 1) := by decide +kernel
theorem dX9_part_56 : decode cX9_part 56 = .ok (.getfield 110, 3) := by decide +kernel
theorem dX9_part_59 : decode cX9_part 59 = .ok (.iconst 1, 1) := by decide +kernel
theorem dX9_part_60 : decode cX9_part 60 = .ok (.iadd, 1) := by decide +kernel
theorem dX9_part_61 : decode cX9_part 61 = .ok (.putfield 110, 3) := by decide +kernel
theorem dX9_part_64 : decode cX9_part 64 = .ok (.aload_n 0, 1) := by decide +kernel
theorem dX9_part_65 : decode cX9_part 65 = .ok (.getfield 110, 3) := by decide +kernel
theorem dX9_part_68 : decode cX9_part 68 = .ok (.iconst 1, 1) := by decide +kernel
theorem dX9_part_69 : decode cX9_part 69 = .ok (.isub, 1) := by decide +kernel
theorem dX9_part_70 : decode cX9_part 70 = .ok (.ireturn, 1) := by decide +kernel
theorem dX9_isSame_0 : decode cX9_isSame 0 = .ok (.aload_n 0, 1) := by decide +kernel
theorem dX9_isSame_1 : decode cX9_isSame 1 = .ok (.getfield 16, 3) := by decide +kernel
theorem dX9_isSame_4 : decode cX9_isSame 4 = .ok (.iload_n 1, 1) := by decide +kernel
theorem dX9_isSame_5 : decode cX9_isSame 5 = .ok (.iaload, 1) := by decide +kernel
theorem dX9_isSame_6 : decode cX9_isSame 6 = .ok (.aload_n 0, 1) := by decide +kernel
theorem dX9_isSame_7 : decode cX9_isSame 7 = .ok (.getfield 123, 3) := by decide +kernel
theorem dX9_isSame_10 : decode cX9_isSame 10 = .ok (.if_icmp .ne 27, 3) := by decide +kernel
theorem dX9_isSame_13 : decode cX9_isSame 13 = .ok (.aload_n 0, 1) := by decide +kernel
theorem dX9_isSame_14 : decode cX9_isSame 14 = .ok (.getfield 25, 3) := by decide +kernel
theorem dX9_isSame_17 : decode cX9_isSame 17 = .ok (.iload_n 1, 1) := by decide +kernel
theorem dX9_isSame_18 : decode cX9_isSame 18 = .ok (.iaload, 1) := by decide +kernel
theorem dX9_isSame_19 : decode cX9_isSame 19 = .ok (.iload_n 2, 1) := by decide +kernel
theorem dX9_isSame_20 : decode cX9_isSame 20 = .ok (.if_icmp .ne 17, 3) := by decide +kernel
theorem dX9_isSame_23 : decode cX9_isSame 23 = .ok (.aload_n 0, 1) := by decide +kernel
theorem dX9_isSame_24 : decode cX9_isSame 24 = .ok (.getfield 28, 3) := by decide +kernel
theorem dX9_isSame_27 : decode cX9_isSame 27 = .ok (.iload_n 1, 1) := by decide +kernel
theorem dX9_isSame_28 : decode cX9_isSame 28 = .ok (.iaload, 1) := by decide +kernel
theorem dX9_isSame_29 : decode cX9_isSame 29 = .ok (.iload_n 3, 1) := by decide +kernel
theorem dX9_isSame_30 : decode cX9_isSame 30 = .ok (.if_icmp .ne 7, 3) := by decide +kernel
theorem dX9_isSame_33 : decode cX9_isSame 33 = .ok (.iconst 1, 1) := by decide +kernel
theorem dX9_isSame_34 : decode cX9_isSame 34 = .ok (.goto 4, 3) := by decide +kernel
theorem dX9_isSame_37 : decode cX9_isSame 37 = .ok (.iconst 0, 1) := by decide +kernel
theorem dX9_isSame_38 : decode cX9_isSame 38 = .ok (.istore 4, 2) := by decide +kernel
theorem dX9_isSame_40 : decode cX9_isSame 40 = .ok (.iconst 0, 1) := by decide +kernel
theorem dX9_isSame_41 : decode cX9_isSame 41 = .ok (.istore 5, 2) := by decide +kernel
theorem dX9_isSame_43 : decode cX9_isSame 43 = .ok (.iload 5, 2) := by decide +kernel
theorem dX9_isSame_45 : decode cX9_isSame 45 = .ok (.aload_n 0, 1) := by decide +kernel
theorem dX9_isSame_46 : decode cX9_isSame 46 = .ok (.getfield 123, 3) := by decide +kernel
theorem dX9_isSame_49 : decode cX9_isSame 49 = .ok (.if_icmp .ge 76, 3) := by decide +kernel
theorem dX9_isSame_52 : decode cX9_isSame 52 = .ok (.iload 4, 2) := by decide +kernel
theorem dX9_isSame_54 : decode cX9_isSame 54 = .ok (.ifCond .eq 71, 3) := by decide +kernel
theorem dX9_isSame_57 : decode cX9_isSame 57 = .ok (.aload_n 0, 1) := by decide +kernel
theorem dX9_isSame_58 : decode cX9_isSame 58 = .ok (.getfield 19, 3) := by decide +kernel
theorem dX9_isSame_61 : decode cX9_isSame 61 = .ok (.bipush 6, 2) := by decide +kernel
theorem dX9_isSame_63 : decode cX9_isSame 63 = .ok (.iload_n 1, 1) := by decide +kernel
theorem dX9_isSame_64 : decode cX9_isSame 64 = .ok (.imul, 1) := by decide +kernel
theorem dX9_isSame_65 : decode cX9_isSame 65 = .ok (.iload 5, 2) := by decide +kernel
theorem dX9_isSame_67 : decode cX9_isSame 67 = .ok (.iadd, 1) := by decide +kernel
theorem dX9_isSame_68 : decode cX9_isSame 68 = .ok (.iaload, 1) := by decide +kernel
theorem dX9_isSame_69 : decode cX9_isSame 69 = .ok (.aload_n 0, 1) := by decide +kernel
theorem dX9_isSame_70 : decode cX9_isSame 70 = .ok (.getfield 7, 3) := by decide +kernel
theorem dX9_isSame_73 : decode cX9_isSame 73 = .ok (.iload 5, 2) := by decide +kernel
theorem dX9_isSame_75 : decode cX9_isSame 75 = .ok (.iaload, 1) := by decide +kernel
theorem dX9_isSame_76 : decode cX9_isSame 76 = .ok (.if_icmp .ne 40, 3) := by decide +kernel
theorem dX9_isSame_79 : decode cX9_isSame 79 = .ok (.iload 5, 2) := by decide +kernel
theorem dX9_isSame_81 : decode cX9_isSame 81 = .ok (.iconst 1, 1) := by decide +kernel
theorem dX9_isSame_82 : decode cX9_isSame 82 = .ok (.iadd, 1) := by decide +kernel
theorem dX9_isSame_83 : decode cX9_isSame 83 = .ok (.aload_n 0, 1) := by decide +kernel
theorem dX9_isSame_84 : decode cX9_isSame 84 = .ok (.getfield 123, 3) := by decide +kernel
theorem dX9_isSame_87 : decode cX9_isSame 87 = .ok (.if_icmp .eq 25, 3) := by decide +kernel
theorem dX9_isSame_90 : decode cX9_isSame 90 = .ok (.aload_n 0, 1) := by decide +kernel
theorem dX9_isSame_91 : decode cX9_isSame 91 = .ok (.getfield 22, 3) := by decide +kernel
theorem dX9_isSame_94 : decode cX9_isSame 94 = .ok (.bipush 6, 2) := by decide +kernel
theorem dX9_isSame_96 : decode cX9_isSame 96 = .ok (.iload_n 1, 1) := by decide +kernel
theorem dX9_isSame_97 : decode cX9_isSame 97 = .ok (.imul, 1) := by decide +kernel
theorem dX9_isSame_98 : decode cX9_isSame 98 = .ok (.iload 5, 2) := by decide +kernel
theorem dX9_isSame_100 : decode cX9_isSame 100 = .ok (.iadd, 1) := by decide +kernel
theorem dX9_isSame_101 : decode cX9_isSame 101 = .ok (.iaload, 1) := by decide +kernel
theorem dX9_isSame_102 : decode cX9_isSame 102 = .ok (.aload_n 0, 1) := by decide +kernel
theorem dX9_isSame_103 : decode cX9_isSame 103 = .ok (.getfield 13, 3) := by decide +kernel
theorem dX9_isSame_106 : decode cX9_isSame 106 = .ok (.iload 5, 2) := by decide +kernel
theorem dX9_isSame_108 : decode cX9_isSame 108 = .ok (.iaload, 1) := by decide +kernel
theorem dX9_isSame_109 : decode cX9_isSame 109 = .ok (.if_icmp .ne 7, 3) := by decide +kernel
theorem dX9_isSame_112 : decode cX9_isSame 112 = .ok (.iconst 1, 1) := by decide +kernel
theorem dX9_isSame_113 : decode cX9_isSame 113 = .ok (.goto 4, 3) := by decide +kernel
theorem dX9_isSame_116 : decode cX9_isSame 116 = .ok (.iconst 0, 1) := by decide +kernel
theorem dX9_isSame_117 : decode cX9_isSame 117 = .ok (.istore 4, 2) := by decide +kernel
theorem dX9_isSame_119 : decode cX9_isSame 119 = .ok (.iinc 5 1, 3) := by decide +kernel
theorem dX9_isSame_122 : decode cX9_isSame 122 = .ok (.goto (-79), 3) := by decide +kernel
theorem dX9_isSame_125 : decode cX9_isSame 125 = .ok (.iload 4, 2) := by decide +kernel
theorem dX9_isSame_127 : decode cX9_isSame 127 = .ok (.ireturn, 1) := by decide +kernel
theorem dX9_redraw_0 : decode cX9_redraw 0 = .ok (.aload_n 0, 1) := by decide +kernel
theorem dX9_redraw_1 : decode cX9_redraw 1 = .ok (.iload_n 1, 1) := by decide +kernel
theorem dX9_redraw_2 : decode cX9_redraw 2 = .ok (.invokevirtual 138, 3) := by decide +kernel
theorem dX9_redraw_5 : decode cX9_redraw 5 = .ok (.istore 4, 2) := by decide +kernel
theorem dX9_redraw_7 : decode cX9_redraw 7 = .ok (.aload_n 0, 1) := by decide +kernel
theorem dX9_redraw_8 : decode cX9_redraw 8 = .ok (.iload 4, 2) := by decide +kernel
theorem dX9_redraw_10 : decode cX9_redraw 10 = .ok (.ifCond .ne 7, 3) := by decide +kernel
theorem dX9_redraw_13 : decode cX9_redraw 13 = .ok (.iconst 1, 1) := by decide +kernel
theorem dX9_redraw_14 : decode cX9_redraw 14 = .ok (.goto 27, 3) := by decide +kernel
theorem dX9_redraw_17 : decode cX9_redraw 17 = .ok (.iload_n 2, 1) := by decide +kernel
theorem dX9_redraw_18 : decode cX9_redraw 18 = .ok (.iload_n 3, 1) := by decide +kernel
theorem dX9_redraw_19 : decode cX9_redraw 19 = .ok (.invokestatic 130, 3) := by decide +kernel
theorem dX9_redraw_22 : decode cX9_redraw 22 = .ok (.ifCond .ne 7, 3) := by decide +kernel
theorem dX9_redraw_25 : decode cX9_redraw 25 = .ok (.iconst 2, 1) := by decide +kernel
theorem dX9_redraw_26 : decode cX9_redraw 26 = .ok (.goto 15, 3) := by decide +kernel
theorem dX9_redraw_29 : decode cX9_redraw 29 = .ok (.aload_n 0, 1) := by decide +kernel
theorem dX9_redraw_30 : decode cX9_redraw 30 = .ok (.getfield 123, 3) := by decide +kernel
theorem dX9_redraw_33 : decode cX9_redraw 33 = .ok (.ifCond .ne 7, 3) := by decide +kernel
theorem dX9_redraw_36 : decode cX9_redraw 36 = .ok (.iconst 3, 1) := by decide +kernel
theorem dX9_redraw_37 : decode cX9_redraw 37 = .ok (.goto 4, 3) := by decide +kernel
theorem dX9_redraw_40 : decode cX9_redraw 40 = .ok (.iconst 0, 1) := by decide +kernel
theorem dX9_redraw_41 : decode cX9_redraw 41 = .ok (.invokevirtual 126, 3) := by decide +kernel
theorem dX9_redraw_44 : decode cX9_redraw 44 = .ok (.ifCond .ne 5, 3) := by decide +kernel
theorem dX9_redraw_47 : decode cX9_redraw 47 = .ok (.iconst 0, 1) := by decide +kernel
theorem dX9_redraw_48 : decode cX9_redraw 48 = .ok (.ireturn, 1) := by decide +kernel
theorem dX9_redraw_49 : decode cX9_redraw 49 = .ok (.aload_n 0, 1) := by decide +kernel
theorem dX9_redraw_50 : decode cX9_redraw 50 = .ok (.iload_n 1, 1) := by decide +kernel
theorem dX9_redraw_51 : decode cX9_redraw 51 = .ok (.iload_n 2, 1) := by decide +kernel
theorem dX9_redraw_52 : decode cX9_redraw 52 = .ok (.iload_n 3, 1) := by decide +kernel
theorem dX9_redraw_53 : decode cX9_redraw 53 = .ok (.invokevirtual 141, 3) := by decide +kernel
theorem dX9_redraw_56 : decode cX9_redraw 56 = .ok (.ifCond .eq 16, 3) := by decide +kernel
theorem dX9_redraw_59 : decode cX9_redraw 59 = .ok (.aload_n 0, 1) := by decide +kernel
theorem dX9_redraw_60 : decode cX9_redraw 60 = .ok (.getfield 34, 3) := by decide +kernel
theorem dX9_redraw_63 : decode cX9_redraw 63 = .ok (.iload_n 1, 1) := by decide +kernel
theorem dX9_redraw_64 : decode cX9_redraw 64 = .ok (.iaload, 1) := by decide +kernel
theorem dX9_redraw_65 : decode cX9_redraw 65 = .ok (.ifCond .ne 7, 3) := by decide +kernel
theorem dX9_redraw_68 : decode cX9_redraw 68 = .ok (.iconst 1, 1) := by decide +kernel
theorem dX9_redraw_69 : decode cX9_redraw 69 = .ok (.goto 4, 3) := by decide +kernel
theorem dX9_redraw_72 : decode cX9_redraw 72 = .ok (.iconst 0, 1) := by decide +kernel
theorem dX9_redraw_73 : decode cX9_redraw 73 = .ok (.istore 5, 2) := by decide +kernel
theorem dX9_redraw_75 : decode cX9_redraw 75 = .ok (.aload_n 0, 1) := by decide +kernel
theorem dX9_redraw_76 : decode cX9_redraw 76 = .ok (.getfield 25, 3) := by decide +kernel
theorem dX9_redraw_79 : decode cX9_redraw 79 = .ok (.iload_n 1, 1) := by decide +kernel
theorem dX9_redraw_80 : decode cX9_redraw 80 = .ok (.iaload, 1) := by decide +kernel
theorem dX9_redraw_81 : decode cX9_redraw 81 = .ok (.iload_n 2, 1) := by decide +kernel
theorem dX9_redraw_82 : decode cX9_redraw 82 = .ok (.if_icmp .ne 26, 3) := by decide +kernel
theorem dX9_redraw_85 : decode cX9_redraw 85 = .ok (.aload_n 0, 1) := by decide +kernel
theorem dX9_redraw_86 : decode cX9_redraw 86 = .ok (.getfield 28, 3) := by decide +kernel
theorem dX9_redraw_89 : decode cX9_redraw 89 = .ok (.iload_n 1, 1) := by decide +kernel
theorem dX9_redraw_90 : decode cX9_redraw 90 = .ok (.iaload, 1) := by decide +kernel
theorem dX9_redraw_91 : decode cX9_redraw 91 = .ok (.iload_n 3, 1) := by decide +kernel
theorem dX9_redraw_92 : decode cX9_redraw 92 = .ok (.if_icmp .ne 16, 3) := by decide +kernel
theorem dX9_redraw_95 : decode cX9_redraw 95 = .ok (.aload_n 0, 1) := by decide +kernel
theorem dX9_redraw_96 : decode cX9_redraw 96 = .ok (.getfield 34, 3) := by decide +kernel
theorem dX9_redraw_99 : decode cX9_redraw 99 = .ok (.iload_n 1, 1) := by decide +kernel
theorem dX9_redraw_100 : decode cX9_redraw 100 = .ok (.iaload, 1) := by decide +kernel
theorem dX9_redraw_101 : decode cX9_redraw 101 = .ok (.ifCond .ne 7, 3) := by decide +kernel
theorem dX9_redraw_104 : decode cX9_redraw 104 = .ok (.iconst 1, 1) := by decide +kernel
theorem dX9_redraw_105 : decode cX9_redraw 105 = .ok (.goto 4, 3) := by decide +kernel
theorem dX9_redraw_108 : decode cX9_redraw 108 = .ok (.iconst 0, 1) := by decide +kernel
theorem dX9_redraw_109 : decode cX9_redraw 109 = .ok (.istore 6, 2) := by decide +kernel
theorem dX9_redraw_111 : decode cX9_redraw 111 = .ok (.aload_n 0, 1) := by decide +kernel
theorem dX9_redraw_112 : decode cX9_redraw 112 = .ok (.iload_n 1, 1) := by decide +kernel
theorem dX9_redraw_113 : decode cX9_redraw 113 = .ok (.iload_n 2, 1) := by decide +kernel
theorem dX9_redraw_114 : decode cX9_redraw 114 = .ok (.iload_n 3, 1) := by decide +kernel
theorem dX9_redraw_115 : decode cX9_redraw 115 = .ok (.invokevirtual 134, 3) := by decide +kernel
theorem dX9_redraw_118 : decode cX9_redraw 118 = .ok (.aload_n 0, 1) := by decide +kernel
theorem dX9_redraw_119 : decode cX9_redraw 119 = .ok (.getfield 31, 3) := by decide +kernel
theorem dX9_redraw_122 : decode cX9_redraw 122 = .ok (.iload_n 1, 1) := by decide +kernel
theorem dX9_redraw_123 : decode cX9_redraw 123 = .ok (.dup2, 1) := by decide +kernel
theorem dX9_redraw_124 : decode cX9_redraw 124 = .ok (.iaload, 1) := by decide +kernel
theorem dX9_redraw_125 : decode cX9_redraw 125 = .ok (.iconst 1, 1) := by decide +kernel
theorem dX9_redraw_126 : decode cX9_redraw 126 = .ok (.iadd, 1) := by decide +kernel
theorem dX9_redraw_127 : decode cX9_redraw 127 = .ok (.iastore, 1) := by decide +kernel
theorem dX9_redraw_128 : decode cX9_redraw 128 = .ok (.iconst 0, 1) := by decide +kernel
theorem dX9_redraw_129 : decode cX9_redraw 129 = .ok (.istore 7, 2) := by decide +kernel
theorem dX9_redraw_131 : decode cX9_redraw 131 = .ok (.iconst 0, 1) := by decide +kernel
theorem dX9_redraw_132 : decode cX9_redraw 132 = .ok (.istore 8, 2) := by decide +kernel
theorem dX9_redraw_134 : decode cX9_redraw 134 = .ok (.iload 8, 2) := by decide +kernel
theorem dX9_redraw_136 : decode cX9_redraw 136 = .ok (.aload_n 0, 1) := by decide +kernel
theorem dX9_redraw_137 : decode cX9_redraw 137 = .ok (.getfield 120, 3) := by decide +kernel
theorem dX9_redraw_140 : decode cX9_redraw 140 = .ok (.if_icmp .ge 152, 3) := by decide +kernel
theorem dX9_redraw_143 : decode cX9_redraw 143 = .ok (.aload_n 0, 1) := by decide +kernel
theorem dX9_redraw_144 : decode cX9_redraw 144 = .ok (.getfield 67, 3) := by decide +kernel
theorem dX9_redraw_147 : decode cX9_redraw 147 = .ok (.iload 8, 2) := by decide +kernel
theorem dX9_redraw_149 : decode cX9_redraw 149 = .ok (.iaload, 1) := by decide +kernel
theorem dX9_redraw_150 : decode cX9_redraw 150 = .ok (.iload_n 1, 1) := by decide +kernel
theorem dX9_redraw_151 : decode cX9_redraw 151 = .ok (.if_icmp .ne 135, 3) := by decide +kernel
theorem dX9_redraw_154 : decode cX9_redraw 154 = .ok (.aload_n 0, 1) := by decide +kernel
theorem dX9_redraw_155 : decode cX9_redraw 155 = .ok (.getfield 76, 3) := by decide +kernel
theorem dX9_redraw_158 : decode cX9_redraw 158 = .ok (.iload 8, 2) := by decide +kernel
theorem dX9_redraw_160 : decode cX9_redraw 160 = .ok (.iaload, 1) := by decide +kernel
theorem dX9_redraw_161 : decode cX9_redraw 161 = .ok (.iconst 3, 1) := by decide +kernel
theorem dX9_redraw_162 : decode cX9_redraw 162 = .ok (.if_icmp .eq 124, 3) := by decide +kernel
theorem dX9_redraw_165 : decode cX9_redraw 165 = .ok (.aload_n 0, 1) := by decide +kernel
theorem dX9_redraw_166 : decode cX9_redraw 166 = .ok (.getfield 76, 3) := by decide +kernel
theorem dX9_redraw_169 : decode cX9_redraw 169 = .ok (.iload 8, 2) := by decide +kernel
theorem dX9_redraw_171 : decode cX9_redraw 171 = .ok (.iaload, 1) := by decide +kernel
theorem dX9_redraw_172 : decode cX9_redraw 172 = .ok (.ifCond .ne 38, 3) := by decide +kernel
theorem dX9_redraw_175 : decode cX9_redraw 175 = .ok (.iload 6, 2) := by decide +kernel
theorem dX9_redraw_177 : decode cX9_redraw 177 = .ok (.ifCond .eq 29, 3) := by decide +kernel
theorem dX9_redraw_180 : decode cX9_redraw 180 = .ok (.aload_n 0, 1) := by decide +kernel
theorem dX9_redraw_181 : decode cX9_redraw 181 = .ok (.getfield 82, 3) := by decide +kernel
theorem dX9_redraw_184 : decode cX9_redraw 184 = .ok (.iload 8, 2) := by decide +kernel
theorem dX9_redraw_186 : decode cX9_redraw 186 = .ok (.iaload, 1) := by decide +kernel
theorem dX9_redraw_187 : decode cX9_redraw 187 = .ok (.aload_n 0, 1) := by decide +kernel
theorem dX9_redraw_188 : decode cX9_redraw 188 = .ok (.iload_n 1, 1) := by decide +kernel
theorem dX9_redraw_189 : decode cX9_redraw 189 = .ok (.aload_n 0, 1) := by decide +kernel
theorem dX9_redraw_190 : decode cX9_redraw 190 = .ok (.getfield 70, 3) := by decide +kernel
theorem dX9_redraw_193 : decode cX9_redraw 193 = .ok (.iload 8, 2) := by decide +kernel
theorem dX9_redraw_195 : decode cX9_redraw 195 = .ok (.iaload, 1) := by decide +kernel
theorem dX9_redraw_196 : decode cX9_redraw 196 = .ok (.invokevirtual 144, 3) := by decide +kernel
theorem dX9_redraw_199 : decode cX9_redraw 199 = .ok (.if_icmp .ne 7, 3) := by decide +kernel
theorem dX9_redraw_202 : decode cX9_redraw 202 = .ok (.iconst 1, 1) := by decide +kernel
theorem dX9_redraw_203 : decode cX9_redraw 203 = .ok (.goto 9, 3) := by decide +kernel
theorem dX9_redraw_206 : decode cX9_redraw 206 = .ok (.iconst 0, 1) := by decide +kernel
theorem dX9_redraw_207 : decode cX9_redraw 207 = .ok (.goto 5, 3) := by decide +kernel
theorem dX9_redraw_210 : decode cX9_redraw 210 = .ok (.iload 5, 2) := by decide +kernel
theorem dX9_redraw_212 : decode cX9_redraw 212 = .ok (.istore 9, 2) := by decide +kernel
theorem dX9_redraw_214 : decode cX9_redraw 214 = .ok (.aload_n 0, 1) := by decide +kernel
theorem dX9_redraw_215 : decode cX9_redraw 215 = .ok (.getfield 79, 3) := by decide +kernel
theorem dX9_redraw_218 : decode cX9_redraw 218 = .ok (.iload 8, 2) := by decide +kernel
theorem dX9_redraw_220 : decode cX9_redraw 220 = .ok (.iload 9, 2) := by decide +kernel
theorem dX9_redraw_222 : decode cX9_redraw 222 = .ok (.ifCond .eq 12, 3) := by decide +kernel
theorem dX9_redraw_225 : decode cX9_redraw 225 = .ok (.aload_n 0, 1) := by decide +kernel
theorem dX9_redraw_226 : decode cX9_redraw 226 = .ok (.getfield 31, 3) := by decide +kernel
theorem dX9_redraw_229 : decode cX9_redraw 229 = .ok (.iload_n 1, 1) := by decide +kernel
theorem dX9_redraw_230 : decode cX9_redraw 230 = .ok (.iaload, 1) := by decide +kernel
theorem dX9_redraw_231 : decode cX9_redraw 231 = .ok (.goto 10, 3) := by decide +kernel
theorem dX9_redraw_234 : decode cX9_redraw 234 = .ok (.aload_n 0, 1) := by decide +kernel
theorem dX9_redraw_235 : decode cX9_redraw 235 = .ok (.getfield 79, 3) := by decide +kernel
theorem dX9_redraw_238 : decode cX9_redraw 238 = .ok (.iload 8, 2) := by decide +kernel
theorem dX9_redraw_240 : decode cX9_redraw 240 = .ok (.iaload, 1) := by decide +kernel
theorem dX9_redraw_241 : decode cX9_redraw 241 = .ok (.iastore, 1) := by decide +kernel
theorem dX9_redraw_242 : decode cX9_redraw 242 = .ok (.aload_n 0, 1) := by decide +kernel
theorem dX9_redraw_243 : decode cX9_redraw 243 = .ok (.getfield 76, 3) := by decide +kernel
theorem dX9_redraw_246 : decode cX9_redraw 246 = .ok (.iload 8, 2) := by decide +kernel
theorem dX9_redraw_248 : decode cX9_redraw 248 = .ok (.iload 9, 2) := by decide +kernel
theorem dX9_redraw_250 : decode cX9_redraw 250 = .ok (.ifCond .eq 13, 3) := by decide +kernel
theorem dX9_redraw_253 : decode cX9_redraw 253 = .ok (.aload_n 0, 1) := by decide +kernel
theorem dX9_redraw_254 : decode cX9_redraw 254 = .ok (.getfield 76, 3) := by decide +kernel
theorem dX9_redraw_257 : decode cX9_redraw 257 = .ok (.iload 8, 2) := by decide +kernel
theorem dX9_redraw_259 : decode cX9_redraw 259 = .ok (.iaload, 1) := by decide +kernel
theorem dX9_redraw_260 : decode cX9_redraw 260 = .ok (.goto 4, 3) := by decide +kernel
theorem dX9_redraw_263 : decode cX9_redraw 263 = .ok (.iconst 3, 1) := by decide +kernel
theorem dX9_redraw_264 : decode cX9_redraw 264 = .ok (.iastore, 1) := by decide +kernel
theorem dX9_redraw_265 : decode cX9_redraw 265 = .ok (.iload 7, 2) := by decide +kernel
theorem dX9_redraw_267 : decode cX9_redraw 267 = .ok (.iload 9, 2) := by decide +kernel
theorem dX9_redraw_269 : decode cX9_redraw 269 = .ok (.ifCond .eq 7, 3) := by decide +kernel
theorem dX9_redraw_272 : decode cX9_redraw 272 = .ok (.iconst 0, 1) := by decide +kernel
theorem dX9_redraw_273 : decode cX9_redraw 273 = .ok (.goto 10, 3) := by decide +kernel
theorem dX9_redraw_276 : decode cX9_redraw 276 = .ok (.aload_n 0, 1) := by decide +kernel
theorem dX9_redraw_277 : decode cX9_redraw 277 = .ok (.getfield 73, 3) := by decide +kernel
theorem dX9_redraw_280 : decode cX9_redraw 280 = .ok (.iload 8, 2) := by decide +kernel
theorem dX9_redraw_282 : decode cX9_redraw 282 = .ok (.iaload, 1) := by decide +kernel
theorem dX9_redraw_283 : decode cX9_redraw 283 = .ok (.iadd, 1) := by decide +kernel
theorem dX9_redraw_284 : decode cX9_redraw 284 = .ok (.istore 7, 2) := by decide +kernel
theorem dX9_redraw_286 : decode cX9_redraw 286 = .ok (.iinc 8 1, 3) := by decide +kernel
theorem dX9_redraw_289 : decode cX9_redraw 289 = .ok (.goto (-155), 3) := by decide +kernel
theorem dX9_redraw_292 : decode cX9_redraw 292 = .ok (.iload 7, 2) := by decide +kernel
theorem dX9_redraw_294 : decode cX9_redraw 294 = .ok (.ireturn, 1) := by decide +kernel
theorem dX9_hole_0 : decode cX9_hole 0 = .ok (.aload_n 0, 1) := by decide +kernel
theorem dX9_hole_1 : decode cX9_hole 1 = .ok (.iload_n 1, 1) := by decide +kernel
theorem dX9_hole_2 : decode cX9_hole 2 = .ok (.invokevirtual 138, 3) := by decide +kernel
theorem dX9_hole_5 : decode cX9_hole 5 = .ok (.ifCond .eq 23, 3) := by decide +kernel
theorem dX9_hole_8 : decode cX9_hole 8 = .ok (.iload_n 2, 1) := by decide +kernel
theorem dX9_hole_9 : decode cX9_hole 9 = .ok (.iconst 0, 1) := by decide +kernel
theorem dX9_hole_10 : decode cX9_hole 10 = .ok (.aload_n 0, 1) := by decide +kernel
theorem dX9_hole_11 : decode cX9_hole 11 = .ok (.getfield 16, 3) := by decide +kernel
theorem dX9_hole_14 : decode cX9_hole 14 = .ok (.iload_n 1, 1) := by decide +kernel
theorem dX9_hole_15 : decode cX9_hole 15 = .ok (.iaload, 1) := by decide +kernel
theorem dX9_hole_16 : decode cX9_hole 16 = .ok (.iconst 1, 1) := by decide +kernel
theorem dX9_hole_17 : decode cX9_hole 17 = .ok (.isub, 1) := by decide +kernel
theorem dX9_hole_18 : decode cX9_hole 18 = .ok (.invokestatic 113, 3) := by decide +kernel
theorem dX9_hole_21 : decode cX9_hole 21 = .ok (.ifCond .eq 7, 3) := by decide +kernel
theorem dX9_hole_24 : decode cX9_hole 24 = .ok (.iconst 1, 1) := by decide +kernel
theorem dX9_hole_25 : decode cX9_hole 25 = .ok (.goto 4, 3) := by decide +kernel
theorem dX9_hole_28 : decode cX9_hole 28 = .ok (.iconst 0, 1) := by decide +kernel
theorem dX9_hole_29 : decode cX9_hole 29 = .ok (.istore 5, 2) := by decide +kernel
theorem dX9_hole_31 : decode cX9_hole 31 = .ok (.iload 5, 2) := by decide +kernel
theorem dX9_hole_33 : decode cX9_hole 33 = .ok (.ifCond .eq 39, 3) := by decide +kernel
theorem dX9_hole_36 : decode cX9_hole 36 = .ok (.iload_n 3, 1) := by decide +kernel
theorem dX9_hole_37 : decode cX9_hole 37 = .ok (.iconst 1, 1) := by decide +kernel
theorem dX9_hole_38 : decode cX9_hole 38 = .ok (.aload_n 0, 1) := by decide +kernel
theorem dX9_hole_39 : decode cX9_hole 39 = .ok (.getfield 19, 3) := by decide +kernel
theorem dX9_hole_42 : decode cX9_hole 42 = .ok (.bipush 6, 2) := by decide +kernel
theorem dX9_hole_44 : decode cX9_hole 44 = .ok (.iload_n 1, 1) := by decide +kernel
theorem dX9_hole_45 : decode cX9_hole 45 = .ok (.imul, 1) := by decide +kernel
theorem dX9_hole_46 : decode cX9_hole 46 = .ok (.iload_n 2, 1) := by decide +kernel
theorem dX9_hole_47 : decode cX9_hole 47 = .ok (.iadd, 1) := by decide +kernel
theorem dX9_hole_48 : decode cX9_hole 48 = .ok (.iaload, 1) := by decide +kernel
theorem dX9_hole_49 : decode cX9_hole 49 = .ok (.iconst 1, 1) := by decide +kernel
theorem dX9_hole_50 : decode cX9_hole 50 = .ok (.isub, 1) := by decide +kernel
theorem dX9_hole_51 : decode cX9_hole 51 = .ok (.invokestatic 113, 3) := by decide +kernel
theorem dX9_hole_54 : decode cX9_hole 54 = .ok (.ifCond .eq 18, 3) := by decide +kernel
theorem dX9_hole_57 : decode cX9_hole 57 = .ok (.iload 4, 2) := by decide +kernel
theorem dX9_hole_59 : decode cX9_hole 59 = .ok (.iconst 1, 1) := by decide +kernel
theorem dX9_hole_60 : decode cX9_hole 60 = .ok (.bipush 20, 2) := by decide +kernel
theorem dX9_hole_62 : decode cX9_hole 62 = .ok (.invokestatic 113, 3) := by decide +kernel
theorem dX9_hole_65 : decode cX9_hole 65 = .ok (.ifCond .eq 7, 3) := by decide +kernel
theorem dX9_hole_68 : decode cX9_hole 68 = .ok (.iconst 1, 1) := by decide +kernel
theorem dX9_hole_69 : decode cX9_hole 69 = .ok (.goto 4, 3) := by decide +kernel
theorem dX9_hole_72 : decode cX9_hole 72 = .ok (.iconst 0, 1) := by decide +kernel
theorem dX9_hole_73 : decode cX9_hole 73 = .ok (.istore 6, 2) := by decide +kernel
theorem dX9_hole_75 : decode cX9_hole 75 = .ok (.iconst 1, 1) := by decide +kernel
theorem dX9_hole_76 : decode cX9_hole 76 = .ok (.istore 7, 2) := by decide +kernel
theorem dX9_hole_78 : decode cX9_hole 78 = .ok (.iconst 0, 1) := by decide +kernel
theorem dX9_hole_79 : decode cX9_hole 79 = .ok (.istore 8, 2) := by decide +kernel
theorem dX9_hole_81 : decode cX9_hole 81 = .ok (.iload 8, 2) := by decide +kernel
theorem dX9_hole_83 : decode cX9_hole 83 = .ok (.aload_n 0, 1) := by decide +kernel
theorem dX9_hole_84 : decode cX9_hole 84 = .ok (.getfield 120, 3) := by decide +kernel
theorem dX9_hole_87 : decode cX9_hole 87 = .ok (.if_icmp .ge 43, 3) := by decide +kernel
theorem dX9_hole_90 : decode cX9_hole 90 = .ok (.iload 7, 2) := by decide +kernel
theorem dX9_hole_92 : decode cX9_hole 92 = .ok (.ifCond .eq 29, 3) := by decide +kernel
theorem dX9_hole_95 : decode cX9_hole 95 = .ok (.aload_n 0, 1) := by decide +kernel
theorem dX9_hole_96 : decode cX9_hole 96 = .ok (.getfield 67, 3) := by decide +kernel
theorem dX9_hole_99 : decode cX9_hole 99 = .ok (.iload 8, 2) := by decide +kernel
theorem dX9_hole_101 : decode cX9_hole 101 = .ok (.iaload, 1) := by decide +kernel
theorem dX9_hole_102 : decode cX9_hole 102 = .ok (.iload_n 1, 1) := by decide +kernel
theorem dX9_hole_103 : decode cX9_hole 103 = .ok (.if_icmp .ne 14, 3) := by decide +kernel
theorem dX9_hole_106 : decode cX9_hole 106 = .ok (.aload_n 0, 1) := by decide +kernel
theorem dX9_hole_107 : decode cX9_hole 107 = .ok (.getfield 76, 3) := by decide +kernel
theorem dX9_hole_110 : decode cX9_hole 110 = .ok (.iload 8, 2) := by decide +kernel
theorem dX9_hole_112 : decode cX9_hole 112 = .ok (.iaload, 1) := by decide +kernel
theorem dX9_hole_113 : decode cX9_hole 113 = .ok (.iconst 3, 1) := by decide +kernel
theorem dX9_hole_114 : decode cX9_hole 114 = .ok (.if_icmp .ne 7, 3) := by decide +kernel
theorem dX9_hole_117 : decode cX9_hole 117 = .ok (.iconst 1, 1) := by decide +kernel
theorem dX9_hole_118 : decode cX9_hole 118 = .ok (.goto 4, 3) := by decide +kernel
theorem dX9_hole_121 : decode cX9_hole 121 = .ok (.iconst 0, 1) := by decide +kernel
theorem dX9_hole_122 : decode cX9_hole 122 = .ok (.istore 7, 2) := by decide +kernel
theorem dX9_hole_124 : decode cX9_hole 124 = .ok (.iinc 8 1, 3) := by decide +kernel
theorem dX9_hole_127 : decode cX9_hole 127 = .ok (.goto (-46), 3) := by decide +kernel
theorem dX9_hole_130 : decode cX9_hole 130 = .ok (.aload_n 0, 1) := by decide +kernel
theorem dX9_hole_131 : decode cX9_hole 131 = .ok (.iload 5, 2) := by decide +kernel
theorem dX9_hole_133 : decode cX9_hole 133 = .ok (.ifCond .ne 7, 3) := by decide +kernel
theorem dX9_hole_136 : decode cX9_hole 136 = .ok (.iconst 1, 1) := by decide +kernel
theorem dX9_hole_137 : decode cX9_hole 137 = .ok (.goto 33, 3) := by decide +kernel
theorem dX9_hole_140 : decode cX9_hole 140 = .ok (.iload 6, 2) := by decide +kernel
theorem dX9_hole_142 : decode cX9_hole 142 = .ok (.ifCond .ne 7, 3) := by decide +kernel
theorem dX9_hole_145 : decode cX9_hole 145 = .ok (.iconst 2, 1) := by decide +kernel
theorem dX9_hole_146 : decode cX9_hole 146 = .ok (.goto 24, 3) := by decide +kernel
theorem dX9_hole_149 : decode cX9_hole 149 = .ok (.aload_n 0, 1) := by decide +kernel
theorem dX9_hole_150 : decode cX9_hole 150 = .ok (.getfield 34, 3) := by decide +kernel
theorem dX9_hole_153 : decode cX9_hole 153 = .ok (.iload_n 1, 1) := by decide +kernel
theorem dX9_hole_154 : decode cX9_hole 154 = .ok (.iaload, 1) := by decide +kernel
theorem dX9_hole_155 : decode cX9_hole 155 = .ok (.bipush 6, 2) := by decide +kernel
theorem dX9_hole_157 : decode cX9_hole 157 = .ok (.if_icmp .eq 8, 3) := by decide +kernel
theorem dX9_hole_160 : decode cX9_hole 160 = .ok (.iload 7, 2) := by decide +kernel
theorem dX9_hole_162 : decode cX9_hole 162 = .ok (.ifCond .ne 7, 3) := by decide +kernel
theorem dX9_hole_165 : decode cX9_hole 165 = .ok (.iconst 3, 1) := by decide +kernel
theorem dX9_hole_166 : decode cX9_hole 166 = .ok (.goto 4, 3) := by decide +kernel
theorem dX9_hole_169 : decode cX9_hole 169 = .ok (.iconst 0, 1) := by decide +kernel
theorem dX9_hole_170 : decode cX9_hole 170 = .ok (.invokevirtual 126, 3) := by decide +kernel
theorem dX9_hole_173 : decode cX9_hole 173 = .ok (.ifCond .ne 5, 3) := by decide +kernel
theorem dX9_hole_176 : decode cX9_hole 176 = .ok (.iconst 0, 1) := by decide +kernel
theorem dX9_hole_177 : decode cX9_hole 177 = .ok (.ireturn, 1) := by decide +kernel
theorem dX9_hole_178 : decode cX9_hole 178 = .ok (.bipush 6, 2) := by decide +kernel
theorem dX9_hole_180 : decode cX9_hole 180 = .ok (.iload_n 1, 1) := by decide +kernel
theorem dX9_hole_181 : decode cX9_hole 181 = .ok (.imul, 1) := by decide +kernel
theorem dX9_hole_182 : decode cX9_hole 182 = .ok (.aload_n 0, 1) := by decide +kernel
theorem dX9_hole_183 : decode cX9_hole 183 = .ok (.getfield 34, 3) := by decide +kernel
theorem dX9_hole_186 : decode cX9_hole 186 = .ok (.iload_n 1, 1) := by decide +kernel
theorem dX9_hole_187 : decode cX9_hole 187 = .ok (.iaload, 1) := by decide +kernel
theorem dX9_hole_188 : decode cX9_hole 188 = .ok (.iadd, 1) := by decide +kernel
theorem dX9_hole_189 : decode cX9_hole 189 = .ok (.istore 8, 2) := by decide +kernel
theorem dX9_hole_191 : decode cX9_hole 191 = .ok (.aload_n 0, 1) := by decide +kernel
theorem dX9_hole_192 : decode cX9_hole 192 = .ok (.getfield 37, 3) := by decide +kernel
theorem dX9_hole_195 : decode cX9_hole 195 = .ok (.iload 8, 2) := by decide +kernel
theorem dX9_hole_197 : decode cX9_hole 197 = .ok (.iload_n 2, 1) := by decide +kernel
theorem dX9_hole_198 : decode cX9_hole 198 = .ok (.iastore, 1) := by decide +kernel
theorem dX9_hole_199 : decode cX9_hole 199 = .ok (.aload_n 0, 1) := by decide +kernel
theorem dX9_hole_200 : decode cX9_hole 200 = .ok (.getfield 40, 3) := by decide +kernel
theorem dX9_hole_203 : decode cX9_hole 203 = .ok (.iload 8, 2) := by decide +kernel
theorem dX9_hole_205 : decode cX9_hole 205 = .ok (.iload_n 3, 1) := by decide +kernel
theorem dX9_hole_206 : decode cX9_hole 206 = .ok (.iastore, 1) := by decide +kernel
theorem dX9_hole_207 : decode cX9_hole 207 = .ok (.aload_n 0, 1) := by decide +kernel
theorem dX9_hole_208 : decode cX9_hole 208 = .ok (.getfield 43, 3) := by decide +kernel
theorem dX9_hole_211 : decode cX9_hole 211 = .ok (.iload 8, 2) := by decide +kernel
theorem dX9_hole_213 : decode cX9_hole 213 = .ok (.iload 4, 2) := by decide +kernel
theorem dX9_hole_215 : decode cX9_hole 215 = .ok (.iastore, 1) := by decide +kernel
theorem dX9_hole_216 : decode cX9_hole 216 = .ok (.aload_n 0, 1) := by decide +kernel
theorem dX9_hole_217 : decode cX9_hole 217 = .ok (.getfield 34, 3) := by decide +kernel
theorem dX9_hole_220 : decode cX9_hole 220 = .ok (.iload_n 1, 1) := by decide +kernel
theorem dX9_hole_221 : decode cX9_hole 221 = .ok (.dup2, 1) := by decide +kernel
theorem dX9_hole_222 : decode cX9_hole 222 = .ok (.iaload, 1) := by decide +kernel
theorem dX9_hole_223 : decode cX9_hole 223 = .ok (.iconst 1, 1) := by decide +kernel
theorem dX9_hole_224 : decode cX9_hole 224 = .ok (.iadd, 1) := by decide +kernel
theorem dX9_hole_225 : decode cX9_hole 225 = .ok (.iastore, 1) := by decide +kernel
theorem dX9_hole_226 : decode cX9_hole 226 = .ok (.aload_n 0, 1) := by decide +kernel
theorem dX9_hole_227 : decode cX9_hole 227 = .ok (.getfield 34, 3) := by decide +kernel
theorem dX9_hole_230 : decode cX9_hole 230 = .ok (.iload_n 1, 1) := by decide +kernel
theorem dX9_hole_231 : decode cX9_hole 231 = .ok (.iaload, 1) := by decide +kernel
theorem dX9_hole_232 : decode cX9_hole 232 = .ok (.iconst 1, 1) := by decide +kernel
theorem dX9_hole_233 : decode cX9_hole 233 = .ok (.isub, 1) := by decide +kernel
theorem dX9_hole_234 : decode cX9_hole 234 = .ok (.ireturn, 1) := by decide +kernel
theorem dX9_isClose_0 : decode cX9_isClose 0 = .ok (.aload_n 0, 1) := by decide +kernel
theorem dX9_isClose_1 : decode cX9_isClose 1 = .ok (.getfield 37, 3) := by decide +kernel
theorem dX9_isClose_4 : decode cX9_isClose 4 = .ok (.bipush 6, 2) := by decide +kernel
theorem dX9_isClose_6 : decode cX9_isClose 6 = .ok (.iload_n 1, 1) := by decide +kernel
theorem dX9_isClose_7 : decode cX9_isClose 7 = .ok (.imul, 1) := by decide +kernel
theorem dX9_isClose_8 : decode cX9_isClose 8 = .ok (.iload_n 2, 1) := by decide +kernel
theorem dX9_isClose_9 : decode cX9_isClose 9 = .ok (.iadd, 1) := by decide +kernel
theorem dX9_isClose_10 : decode cX9_isClose 10 = .ok (.iaload, 1) := by decide +kernel
theorem dX9_isClose_11 : decode cX9_isClose 11 = .ok (.istore_n 3, 1) := by decide +kernel
theorem dX9_isClose_12 : decode cX9_isClose 12 = .ok (.aload_n 0, 1) := by decide +kernel
theorem dX9_isClose_13 : decode cX9_isClose 13 = .ok (.getfield 40, 3) := by decide +kernel
theorem dX9_isClose_16 : decode cX9_isClose 16 = .ok (.bipush 6, 2) := by decide +kernel
theorem dX9_isClose_18 : decode cX9_isClose 18 = .ok (.iload_n 1, 1) := by decide +kernel
theorem dX9_isClose_19 : decode cX9_isClose 19 = .ok (.imul, 1) := by decide +kernel
theorem dX9_isClose_20 : decode cX9_isClose 20 = .ok (.iload_n 2, 1) := by decide +kernel
theorem dX9_isClose_21 : decode cX9_isClose 21 = .ok (.iadd, 1) := by decide +kernel
theorem dX9_isClose_22 : decode cX9_isClose 22 = .ok (.iaload, 1) := by decide +kernel
theorem dX9_isClose_23 : decode cX9_isClose 23 = .ok (.istore 4, 2) := by decide +kernel
theorem dX9_isClose_25 : decode cX9_isClose 25 = .ok (.iconst 2, 1) := by decide +kernel
theorem dX9_isClose_26 : decode cX9_isClose 26 = .ok (.aload_n 0, 1) := by decide +kernel
theorem dX9_isClose_27 : decode cX9_isClose 27 = .ok (.getfield 28, 3) := by decide +kernel
theorem dX9_isClose_30 : decode cX9_isClose 30 = .ok (.iload_n 1, 1) := by decide +kernel
theorem dX9_isClose_31 : decode cX9_isClose 31 = .ok (.iaload, 1) := by decide +kernel
theorem dX9_isClose_32 : decode cX9_isClose 32 = .ok (.imul, 1) := by decide +kernel
theorem dX9_isClose_33 : decode cX9_isClose 33 = .ok (.aload_n 0, 1) := by decide +kernel
theorem dX9_isClose_34 : decode cX9_isClose 34 = .ok (.getfield 43, 3) := by decide +kernel
theorem dX9_isClose_37 : decode cX9_isClose 37 = .ok (.bipush 6, 2) := by decide +kernel
theorem dX9_isClose_39 : decode cX9_isClose 39 = .ok (.iload_n 1, 1) := by decide +kernel
theorem dX9_isClose_40 : decode cX9_isClose 40 = .ok (.imul, 1) := by decide +kernel
theorem dX9_isClose_41 : decode cX9_isClose 41 = .ok (.iload_n 2, 1) := by decide +kernel
theorem dX9_isClose_42 : decode cX9_isClose 42 = .ok (.iadd, 1) := by decide +kernel
theorem dX9_isClose_43 : decode cX9_isClose 43 = .ok (.iaload, 1) := by decide +kernel
theorem dX9_isClose_44 : decode cX9_isClose 44 = .ok (.iconst 2, 1) := by decide +kernel
theorem dX9_isClose_45 : decode cX9_isClose 45 = .ok (.idiv, 1) := by decide +kernel
theorem dX9_isClose_46 : decode cX9_isClose 46 = .ok (.iadd, 1) := by decide +kernel
theorem dX9_isClose_47 : decode cX9_isClose 47 = .ok (.istore 5, 2) := by decide +kernel
theorem dX9_isClose_49 : decode cX9_isClose 49 = .ok (.iload_n 3, 1) := by decide +kernel
theorem dX9_isClose_50 : decode cX9_isClose 50 = .ok (.ifCond .le 10, 3) := by decide +kernel
theorem dX9_isClose_53 : decode cX9_isClose 53 = .ok (.iload 4, 2) := by decide +kernel
theorem dX9_isClose_55 : decode cX9_isClose 55 = .ok (.iload 5, 2) := by decide +kernel
theorem dX9_isClose_57 : decode cX9_isClose 57 = .ok (.if_icmp .lt 34, 3) := by decide +kernel
theorem dX9_isClose_60 : decode cX9_isClose 60 = .ok (.iload_n 3, 1) := by decide +kernel
theorem dX9_isClose_61 : decode cX9_isClose 61 = .ok (.iconst 1, 1) := by decide +kernel
theorem dX9_isClose_62 : decode cX9_isClose 62 = .ok (.iadd, 1) := by decide +kernel
theorem dX9_isClose_63 : decode cX9_isClose 63 = .ok (.aload_n 0, 1) := by decide +kernel
theorem dX9_isClose_64 : decode cX9_isClose 64 = .ok (.getfield 16, 3) := by decide +kernel
theorem dX9_isClose_67 : decode cX9_isClose 67 = .ok (.iload_n 1, 1) := by decide +kernel
theorem dX9_isClose_68 : decode cX9_isClose 68 = .ok (.iaload, 1) := by decide +kernel
theorem dX9_isClose_69 : decode cX9_isClose 69 = .ok (.if_icmp .ge 26, 3) := by decide +kernel
theorem dX9_isClose_72 : decode cX9_isClose 72 = .ok (.aload_n 0, 1) := by decide +kernel
theorem dX9_isClose_73 : decode cX9_isClose 73 = .ok (.getfield 19, 3) := by decide +kernel
theorem dX9_isClose_76 : decode cX9_isClose 76 = .ok (.bipush 6, 2) := by decide +kernel
theorem dX9_isClose_78 : decode cX9_isClose 78 = .ok (.iload_n 1, 1) := by decide +kernel
theorem dX9_isClose_79 : decode cX9_isClose 79 = .ok (.imul, 1) := by decide +kernel
theorem dX9_isClose_80 : decode cX9_isClose 80 = .ok (.iload_n 3, 1) := by decide +kernel
theorem dX9_isClose_81 : decode cX9_isClose 81 = .ok (.iadd, 1) := by decide +kernel
theorem dX9_isClose_82 : decode cX9_isClose 82 = .ok (.iaload, 1) := by decide +kernel
theorem dX9_isClose_83 : decode cX9_isClose 83 = .ok (.iload 4, 2) := by decide +kernel
theorem dX9_isClose_85 : decode cX9_isClose 85 = .ok (.isub, 1) := by decide +kernel
theorem dX9_isClose_86 : decode cX9_isClose 86 = .ok (.iload 5, 2) := by decide +kernel
theorem dX9_isClose_88 : decode cX9_isClose 88 = .ok (.if_icmp .ge 7, 3) := by decide +kernel
theorem dX9_isClose_91 : decode cX9_isClose 91 = .ok (.iconst 1, 1) := by decide +kernel
theorem dX9_isClose_92 : decode cX9_isClose 92 = .ok (.goto 4, 3) := by decide +kernel
theorem dX9_isClose_95 : decode cX9_isClose 95 = .ok (.iconst 0, 1) := by decide +kernel
theorem dX9_isClose_96 : decode cX9_isClose 96 = .ok (.ireturn, 1) := by decide +kernel
theorem dX9_isNear_0 : decode cX9_isNear 0 = .ok (.aload_n 0, 1) := by decide +kernel
theorem dX9_isNear_1 : decode cX9_isNear 1 = .ok (.aload_n 0, 1) := by decide +kernel
theorem dX9_isNear_2 : decode cX9_isNear 2 = .ok (.iload_n 1, 1) := by decide +kernel
theorem dX9_isNear_3 : decode cX9_isNear 3 = .ok (.invokevirtual 138, 3) := by decide +kernel
theorem dX9_isNear_6 : decode cX9_isNear 6 = .ok (.ifCond .eq 23, 3) := by decide +kernel
theorem dX9_isNear_9 : decode cX9_isNear 9 = .ok (.iload_n 2, 1) := by decide +kernel
theorem dX9_isNear_10 : decode cX9_isNear 10 = .ok (.iconst 0, 1) := by decide +kernel
theorem dX9_isNear_11 : decode cX9_isNear 11 = .ok (.aload_n 0, 1) := by decide +kernel
theorem dX9_isNear_12 : decode cX9_isNear 12 = .ok (.getfield 34, 3) := by decide +kernel
theorem dX9_isNear_15 : decode cX9_isNear 15 = .ok (.iload_n 1, 1) := by decide +kernel
theorem dX9_isNear_16 : decode cX9_isNear 16 = .ok (.iaload, 1) := by decide +kernel
theorem dX9_isNear_17 : decode cX9_isNear 17 = .ok (.iconst 1, 1) := by decide +kernel
theorem dX9_isNear_18 : decode cX9_isNear 18 = .ok (.isub, 1) := by decide +kernel
theorem dX9_isNear_19 : decode cX9_isNear 19 = .ok (.invokestatic 113, 3) := by decide +kernel
theorem dX9_isNear_22 : decode cX9_isNear 22 = .ok (.ifCond .eq 7, 3) := by decide +kernel
theorem dX9_isNear_25 : decode cX9_isNear 25 = .ok (.iconst 0, 1) := by decide +kernel
theorem dX9_isNear_26 : decode cX9_isNear 26 = .ok (.goto 4, 3) := by decide +kernel
theorem dX9_isNear_29 : decode cX9_isNear 29 = .ok (.iconst 1, 1) := by decide +kernel
theorem dX9_isNear_30 : decode cX9_isNear 30 = .ok (.invokevirtual 126, 3) := by decide +kernel
theorem dX9_isNear_33 : decode cX9_isNear 33 = .ok (.ifCond .eq 16, 3) := by decide +kernel
theorem dX9_isNear_36 : decode cX9_isNear 36 = .ok (.aload_n 0, 1) := by decide +kernel
theorem dX9_isNear_37 : decode cX9_isNear 37 = .ok (.iload_n 1, 1) := by decide +kernel
theorem dX9_isNear_38 : decode cX9_isNear 38 = .ok (.iload_n 2, 1) := by decide +kernel
theorem dX9_isNear_39 : decode cX9_isNear 39 = .ok (.invokevirtual 148, 3) := by decide +kernel
theorem dX9_isNear_42 : decode cX9_isNear 42 = .ok (.ifCond .eq 7, 3) := by decide +kernel
theorem dX9_isNear_45 : decode cX9_isNear 45 = .ok (.iconst 1, 1) := by decide +kernel
theorem dX9_isNear_46 : decode cX9_isNear 46 = .ok (.goto 4, 3) := by decide +kernel
theorem dX9_isNear_49 : decode cX9_isNear 49 = .ok (.iconst 0, 1) := by decide +kernel
theorem dX9_isNear_50 : decode cX9_isNear 50 = .ok (.ireturn, 1) := by decide +kernel
theorem dX9_told_0 : decode cX9_told 0 = .ok (.aload_n 0, 1) := by decide +kernel
theorem dX9_told_1 : decode cX9_told 1 = .ok (.iload_n 1, 1) := by decide +kernel
theorem dX9_told_2 : decode cX9_told 2 = .ok (.invokevirtual 138, 3) := by decide +kernel
theorem dX9_told_5 : decode cX9_told 5 = .ok (.istore_n 3, 1) := by decide +kernel
theorem dX9_told_6 : decode cX9_told 6 = .ok (.aload_n 0, 1) := by decide +kernel
theorem dX9_told_7 : decode cX9_told 7 = .ok (.iload_n 3, 1) := by decide +kernel
theorem dX9_told_8 : decode cX9_told 8 = .ok (.ifCond .ne 7, 3) := by decide +kernel
theorem dX9_told_11 : decode cX9_told 11 = .ok (.iconst 1, 1) := by decide +kernel
theorem dX9_told_12 : decode cX9_told 12 = .ok (.goto 17, 3) := by decide +kernel
theorem dX9_told_15 : decode cX9_told 15 = .ok (.iload_n 2, 1) := by decide +kernel
theorem dX9_told_16 : decode cX9_told 16 = .ok (.iconst 0, 1) := by decide +kernel
theorem dX9_told_17 : decode cX9_told 17 = .ok (.iconst 5, 1) := by decide +kernel
theorem dX9_told_18 : decode cX9_told 18 = .ok (.invokestatic 113, 3) := by decide +kernel
theorem dX9_told_21 : decode cX9_told 21 = .ok (.ifCond .eq 7, 3) := by decide +kernel
theorem dX9_told_24 : decode cX9_told 24 = .ok (.iconst 0, 1) := by decide +kernel
theorem dX9_told_25 : decode cX9_told 25 = .ok (.goto 4, 3) := by decide +kernel
theorem dX9_told_28 : decode cX9_told 28 = .ok (.iconst 2, 1) := by decide +kernel
theorem dX9_told_29 : decode cX9_told 29 = .ok (.invokevirtual 126, 3) := by decide +kernel
theorem dX9_told_32 : decode cX9_told 32 = .ok (.ifCond .ne 5, 3) := by decide +kernel
theorem dX9_told_35 : decode cX9_told 35 = .ok (.iconst 0, 1) := by decide +kernel
theorem dX9_told_36 : decode cX9_told 36 = .ok (.ireturn, 1) := by decide +kernel
theorem dX9_told_37 : decode cX9_told 37 = .ok (.iconst 0, 1) := by decide +kernel
theorem dX9_told_38 : decode cX9_told 38 = .ok (.istore 4, 2) := by decide +kernel
theorem dX9_told_40 : decode cX9_told 40 = .ok (.iconst 0, 1) := by decide +kernel
theorem dX9_told_41 : decode cX9_told 41 = .ok (.istore 5, 2) := by decide +kernel
theorem dX9_told_43 : decode cX9_told 43 = .ok (.iload 5, 2) := by decide +kernel
theorem dX9_told_45 : decode cX9_told 45 = .ok (.aload_n 0, 1) := by decide +kernel
theorem dX9_told_46 : decode cX9_told 46 = .ok (.getfield 34, 3) := by decide +kernel
theorem dX9_told_49 : decode cX9_told 49 = .ok (.iload_n 1, 1) := by decide +kernel
theorem dX9_told_50 : decode cX9_told 50 = .ok (.iaload, 1) := by decide +kernel
theorem dX9_told_51 : decode cX9_told 51 = .ok (.if_icmp .ge 29, 3) := by decide +kernel
theorem dX9_told_54 : decode cX9_told 54 = .ok (.iload 4, 2) := by decide +kernel
theorem dX9_told_56 : decode cX9_told 56 = .ok (.aload_n 0, 1) := by decide +kernel
theorem dX9_told_57 : decode cX9_told 57 = .ok (.iload_n 1, 1) := by decide +kernel
theorem dX9_told_58 : decode cX9_told 58 = .ok (.iload 5, 2) := by decide +kernel
theorem dX9_told_60 : decode cX9_told 60 = .ok (.invokevirtual 148, 3) := by decide +kernel
theorem dX9_told_63 : decode cX9_told 63 = .ok (.ifCond .eq 7, 3) := by decide +kernel
theorem dX9_told_66 : decode cX9_told 66 = .ok (.iconst 1, 1) := by decide +kernel
theorem dX9_told_67 : decode cX9_told 67 = .ok (.goto 4, 3) := by decide +kernel
theorem dX9_told_70 : decode cX9_told 70 = .ok (.iconst 0, 1) := by decide +kernel
theorem dX9_told_71 : decode cX9_told 71 = .ok (.iadd, 1) := by decide +kernel
theorem dX9_told_72 : decode cX9_told 72 = .ok (.istore 4, 2) := by decide +kernel
theorem dX9_told_74 : decode cX9_told 74 = .ok (.iinc 5 1, 3) := by decide +kernel
theorem dX9_told_77 : decode cX9_told 77 = .ok (.goto (-34), 3) := by decide +kernel
theorem dX9_told_80 : decode cX9_told 80 = .ok (.iload_n 2, 1) := by decide +kernel
theorem dX9_told_81 : decode cX9_told 81 = .ok (.tableswitch 70 0 4 #[35, 42, 49, 56, 63], 35) := by decide +kernel
theorem dX9_told_116 : decode cX9_told 116 = .ok (.aload_n 0, 1) := by decide +kernel
theorem dX9_told_117 : decode cX9_told 117 = .ok (.getfield 31, 3) := by decide +kernel
theorem dX9_told_120 : decode cX9_told 120 = .ok (.iload_n 1, 1) := by decide +kernel
theorem dX9_told_121 : decode cX9_told 121 = .ok (.iaload, 1) := by decide +kernel
theorem dX9_told_122 : decode cX9_told 122 = .ok (.ireturn, 1) := by decide +kernel
theorem dX9_told_123 : decode cX9_told 123 = .ok (.aload_n 0, 1) := by decide +kernel
theorem dX9_told_124 : decode cX9_told 124 = .ok (.getfield 16, 3) := by decide +kernel
theorem dX9_told_127 : decode cX9_told 127 = .ok (.iload_n 1, 1) := by decide +kernel
theorem dX9_told_128 : decode cX9_told 128 = .ok (.iaload, 1) := by decide +kernel
theorem dX9_told_129 : decode cX9_told 129 = .ok (.ireturn, 1) := by decide +kernel
theorem dX9_told_130 : decode cX9_told 130 = .ok (.aload_n 0, 1) := by decide +kernel
theorem dX9_told_131 : decode cX9_told 131 = .ok (.getfield 25, 3) := by decide +kernel
theorem dX9_told_134 : decode cX9_told 134 = .ok (.iload_n 1, 1) := by decide +kernel
theorem dX9_told_135 : decode cX9_told 135 = .ok (.iaload, 1) := by decide +kernel
theorem dX9_told_136 : decode cX9_told 136 = .ok (.ireturn, 1) := by decide +kernel
theorem dX9_told_137 : decode cX9_told 137 = .ok (.aload_n 0, 1) := by decide +kernel
theorem dX9_told_138 : decode cX9_told 138 = .ok (.getfield 28, 3) := by decide +kernel
theorem dX9_told_141 : decode cX9_told 141 = .ok (.iload_n 1, 1) := by decide +kernel
theorem dX9_told_142 : decode cX9_told 142 = .ok (.iaload, 1) := by decide +kernel
theorem dX9_told_143 : decode cX9_told 143 = .ok (.ireturn, 1) := by decide +kernel
theorem dX9_told_144 : decode cX9_told 144 = .ok (.aload_n 0, 1) := by decide +kernel
theorem dX9_told_145 : decode cX9_told 145 = .ok (.getfield 34, 3) := by decide +kernel
theorem dX9_told_148 : decode cX9_told 148 = .ok (.iload_n 1, 1) := by decide +kernel
theorem dX9_told_149 : decode cX9_told 149 = .ok (.iaload, 1) := by decide +kernel
theorem dX9_told_150 : decode cX9_told 150 = .ok (.ireturn, 1) := by decide +kernel
theorem dX9_told_151 : decode cX9_told 151 = .ok (.iload 4, 2) := by decide +kernel
theorem dX9_told_153 : decode cX9_told 153 = .ok (.ireturn, 1) := by decide +kernel
theorem dX9_tool_0 : decode cX9_tool 0 = .ok (.iload_n 1, 1) := by decide +kernel
theorem dX9_tool_1 : decode cX9_tool 1 = .ok (.iconst 4, 1) := by decide +kernel
theorem dX9_tool_2 : decode cX9_tool 2 = .ok (.bipush 60, 2) := by decide +kernel
theorem dX9_tool_4 : decode cX9_tool 4 = .ok (.invokestatic 113, 3) := by decide +kernel
theorem dX9_tool_7 : decode cX9_tool 7 = .ok (.ifCond .eq 55, 3) := by decide +kernel
theorem dX9_tool_10 : decode cX9_tool 10 = .ok (.iload_n 2, 1) := by decide +kernel
theorem dX9_tool_11 : decode cX9_tool 11 = .ok (.iconst 0, 1) := by decide +kernel
theorem dX9_tool_12 : decode cX9_tool 12 = .ok (.bipush 30, 2) := by decide +kernel
theorem dX9_tool_14 : decode cX9_tool 14 = .ok (.invokestatic 113, 3) := by decide +kernel
theorem dX9_tool_17 : decode cX9_tool 17 = .ok (.ifCond .eq 45, 3) := by decide +kernel
theorem dX9_tool_20 : decode cX9_tool 20 = .ok (.iload_n 3, 1) := by decide +kernel
theorem dX9_tool_21 : decode cX9_tool 21 = .ok (.bipush 10, 2) := by decide +kernel
theorem dX9_tool_23 : decode cX9_tool 23 = .ok (.sipush 200, 3) := by decide +kernel
theorem dX9_tool_26 : decode cX9_tool 26 = .ok (.invokestatic 113, 3) := by decide +kernel
theorem dX9_tool_29 : decode cX9_tool 29 = .ok (.ifCond .eq 33, 3) := by decide +kernel
theorem dX9_tool_32 : decode cX9_tool 32 = .ok (.iload 4, 2) := by decide +kernel
theorem dX9_tool_34 : decode cX9_tool 34 = .ok (.bipush 10, 2) := by decide +kernel
theorem dX9_tool_36 : decode cX9_tool 36 = .ok (.sipush 200, 3) := by decide +kernel
theorem dX9_tool_39 : decode cX9_tool 39 = .ok (.invokestatic 113, 3) := by decide +kernel
theorem dX9_tool_42 : decode cX9_tool 42 = .ok (.ifCond .eq 20, 3) := by decide +kernel
theorem dX9_tool_45 : decode cX9_tool 45 = .ok (.iload 5, 2) := by decide +kernel
theorem dX9_tool_47 : decode cX9_tool 47 = .ok (.bipush 20, 2) := by decide +kernel
theorem dX9_tool_49 : decode cX9_tool 49 = .ok (.sipush 600, 3) := by decide +kernel
theorem dX9_tool_52 : decode cX9_tool 52 = .ok (.invokestatic 113, 3) := by decide +kernel
theorem dX9_tool_55 : decode cX9_tool 55 = .ok (.ifCond .eq 7, 3) := by decide +kernel
theorem dX9_tool_58 : decode cX9_tool 58 = .ok (.iconst 1, 1) := by decide +kernel
theorem dX9_tool_59 : decode cX9_tool 59 = .ok (.goto 4, 3) := by decide +kernel
theorem dX9_tool_62 : decode cX9_tool 62 = .ok (.iconst 0, 1) := by decide +kernel
theorem dX9_tool_63 : decode cX9_tool 63 = .ok (.istore 6, 2) := by decide +kernel
theorem dX9_tool_65 : decode cX9_tool 65 = .ok (.aload_n 0, 1) := by decide +kernel
theorem dX9_tool_66 : decode cX9_tool 66 = .ok (.iload 6, 2) := by decide +kernel
theorem dX9_tool_68 : decode cX9_tool 68 = .ok (.ifCond .ne 7, 3) := by decide +kernel
theorem dX9_tool_71 : decode cX9_tool 71 = .ok (.iconst 1, 1) := by decide +kernel
theorem dX9_tool_72 : decode cX9_tool 72 = .ok (.goto 16, 3) := by decide +kernel
theorem dX9_tool_75 : decode cX9_tool 75 = .ok (.aload_n 0, 1) := by decide +kernel
theorem dX9_tool_76 : decode cX9_tool 76 = .ok (.getfield 117, 3) := by decide +kernel
theorem dX9_tool_79 : decode cX9_tool 79 = .ok (.iconst 4, 1) := by decide +kernel
theorem dX9_tool_80 : decode cX9_tool 80 = .ok (.if_icmp .ne 7, 3) := by decide +kernel
theorem dX9_tool_83 : decode cX9_tool 83 = .ok (.iconst 2, 1) := by decide +kernel
theorem dX9_tool_84 : decode cX9_tool 84 = .ok (.goto 4, 3) := by decide +kernel
theorem dX9_tool_87 : decode cX9_tool 87 = .ok (.iconst 0, 1) := by decide +kernel
theorem dX9_tool_88 : decode cX9_tool 88 = .ok (.invokevirtual 126, 3) := by decide +kernel
theorem dX9_tool_91 : decode cX9_tool 91 = .ok (.ifCond .ne 5, 3) := by decide +kernel
theorem dX9_tool_94 : decode cX9_tool 94 = .ok (.iconst 0, 1) := by decide +kernel
theorem dX9_tool_95 : decode cX9_tool 95 = .ok (.ireturn, 1) := by decide +kernel
theorem dX9_tool_96 : decode cX9_tool 96 = .ok (.aload_n 0, 1) := by decide +kernel
theorem dX9_tool_97 : decode cX9_tool 97 = .ok (.getfield 46, 3) := by decide +kernel
theorem dX9_tool_100 : decode cX9_tool 100 = .ok (.aload_n 0, 1) := by decide +kernel
theorem dX9_tool_101 : decode cX9_tool 101 = .ok (.getfield 117, 3) := by decide +kernel
theorem dX9_tool_104 : decode cX9_tool 104 = .ok (.iload_n 1, 1) := by decide +kernel
theorem dX9_tool_105 : decode cX9_tool 105 = .ok (.iastore, 1) := by decide +kernel
theorem dX9_tool_106 : decode cX9_tool 106 = .ok (.aload_n 0, 1) := by decide +kernel
theorem dX9_tool_107 : decode cX9_tool 107 = .ok (.getfield 49, 3) := by decide +kernel
theorem dX9_tool_110 : decode cX9_tool 110 = .ok (.aload_n 0, 1) := by decide +kernel
theorem dX9_tool_111 : decode cX9_tool 111 = .ok (.getfield 117, 3) := by decide +kernel
theorem dX9_tool_114 : decode cX9_tool 114 = .ok (.iload_n 2, 1) := by decide +kernel
theorem dX9_tool_115 : decode cX9_tool 115 = .ok (.iastore, 1) := by decide +kernel
theorem dX9_tool_116 : decode cX9_tool 116 = .ok (.aload_n 0, 1) := by decide +kernel
theorem dX9_tool_117 : decode cX9_tool 117 = .ok (.getfield 52, 3) := by decide +kernel
theorem dX9_tool_120 : decode cX9_tool 120 = .ok (.aload_n 0, 1) := by decide +kernel
theorem dX9_tool_121 : decode cX9_tool 121 = .ok (.getfield 117, 3) := by decide +kernel
theorem dX9_tool_124 : decode cX9_tool 124 = .ok (.iload_n 3, 1) := by decide +kernel
theorem dX9_tool_125 : decode cX9_tool 125 = .ok (.iastore, 1) := by decide +kernel
theorem dX9_tool_126 : decode cX9_tool 126 = .ok (.aload_n 0, 1) := by decide +kernel
theorem dX9_tool_127 : decode cX9_tool 127 = .ok (.getfield 55, 3) := by decide +kernel
theorem dX9_tool_130 : decode cX9_tool 130 = .ok (.aload_n 0, 1) := by decide +kernel
theorem dX9_tool_131 : decode cX9_tool 131 = .ok (.getfield 117, 3) := by decide +kernel
theorem dX9_tool_134 : decode cX9_tool 134 = .ok (.iload 4, 2) := by decide +kernel
theorem dX9_tool_136 : decode cX9_tool 136 = .ok (.iastore, 1) := by decide +kernel
theorem dX9_tool_137 : decode cX9_tool 137 = .ok (.aload_n 0, 1) := by decide +kernel
theorem dX9_tool_138 : decode cX9_tool 138 = .ok (.getfield 58, 3) := by decide +kernel
theorem dX9_tool_141 : decode cX9_tool 141 = .ok (.aload_n 0, 1) := by decide +kernel
theorem dX9_tool_142 : decode cX9_tool 142 = .ok (.getfield 117, 3) := by decide +kernel
theorem dX9_tool_145 : decode cX9_tool 145 = .ok (.iload 5, 2) := by decide +kernel
theorem dX9_tool_147 : decode cX9_tool 147 = .ok (.iastore, 1) := by decide +kernel
theorem dX9_tool_148 : decode cX9_tool 148 = .ok (.iconst 1, 1) := by decide +kernel
theorem dX9_tool_149 : decode cX9_tool 149 = .ok (.istore 7, 2) := by decide +kernel
theorem dX9_tool_151 : decode cX9_tool 151 = .ok (.iload 7, 2) := by decide +kernel
theorem dX9_tool_153 : decode cX9_tool 153 = .ok (.iconst 5, 1) := by decide +kernel
theorem dX9_tool_154 : decode cX9_tool 154 = .ok (.if_icmp .ge 27, 3) := by decide +kernel
theorem dX9_tool_157 : decode cX9_tool 157 = .ok (.aload_n 0, 1) := by decide +kernel
theorem dX9_tool_158 : decode cX9_tool 158 = .ok (.getfield 61, 3) := by decide +kernel
theorem dX9_tool_161 : decode cX9_tool 161 = .ok (.iconst 5, 1) := by decide +kernel
theorem dX9_tool_162 : decode cX9_tool 162 = .ok (.aload_n 0, 1) := by decide +kernel
theorem dX9_tool_163 : decode cX9_tool 163 = .ok (.getfield 117, 3) := by decide +kernel
theorem dX9_tool_166 : decode cX9_tool 166 = .ok (.imul, 1) := by decide +kernel
theorem dX9_tool_167 : decode cX9_tool 167 = .ok (.iload 7, 2) := by decide +kernel
theorem dX9_tool_169 : decode cX9_tool 169 = .ok (.iadd, 1) := by decide +kernel
theorem dX9_tool_170 : decode cX9_tool 170 = .ok (.iconst 2, 1) := by decide +kernel
theorem dX9_tool_171 : decode cX9_tool 171 = .ok (.iload 7, 2) := by decide +kernel
theorem dX9_tool_173 : decode cX9_tool 173 = .ok (.imul, 1) := by decide +kernel
theorem dX9_tool_174 : decode cX9_tool 174 = .ok (.iastore, 1) := by decide +kernel
theorem dX9_tool_175 : decode cX9_tool 175 = .ok (.iinc 7 1, 3) := by decide +kernel
theorem dX9_tool_178 : decode cX9_tool 178 = .ok (.goto (-27), 3) := by decide +kernel
theorem dX9_tool_181 : decode cX9_tool 181 = .ok (.aload_n 0, 1) := by decide +kernel
theorem dX9_tool_182 : decode cX9_tool 182 = .ok (.dup, 1) := by decide +kernel
theorem dX9_tool_183 : decode cX9_tool 183 = .ok (.getfield 117, 3) := by decide +kernel
theorem dX9_tool_186 : decode cX9_tool 186 = .ok (.iconst 1, 1) := by decide +kernel
theorem dX9_tool_187 : decode cX9_tool 187 = .ok (.iadd, 1) := by decide +kernel
theorem dX9_tool_188 : decode cX9_tool 188 = .ok (.putfield 117, 3) := by decide +kernel
theorem dX9_tool_191 : decode cX9_tool 191 = .ok (.aload_n 0, 1) := by decide +kernel
theorem dX9_tool_192 : decode cX9_tool 192 = .ok (.getfield 117, 3) := by decide +kernel
theorem dX9_tool_195 : decode cX9_tool 195 = .ok (.iconst 1, 1) := by decide +kernel
theorem dX9_tool_196 : decode cX9_tool 196 = .ok (.isub, 1) := by decide +kernel
theorem dX9_tool_197 : decode cX9_tool 197 = .ok (.ireturn, 1) := by decide +kernel
theorem dX9_trial_0 : decode cX9_trial 0 = .ok (.aload_n 0, 1) := by decide +kernel
theorem dX9_trial_1 : decode cX9_trial 1 = .ok (.iload_n 1, 1) := by decide +kernel
theorem dX9_trial_2 : decode cX9_trial 2 = .ok (.invokevirtual 151, 3) := by decide +kernel
theorem dX9_trial_5 : decode cX9_trial 5 = .ok (.istore 4, 2) := by decide +kernel
theorem dX9_trial_7 : decode cX9_trial 7 = .ok (.aload_n 0, 1) := by decide +kernel
theorem dX9_trial_8 : decode cX9_trial 8 = .ok (.iload 4, 2) := by decide +kernel
theorem dX9_trial_10 : decode cX9_trial 10 = .ok (.ifCond .ne 7, 3) := by decide +kernel
theorem dX9_trial_13 : decode cX9_trial 13 = .ok (.iconst 1, 1) := by decide +kernel
theorem dX9_trial_14 : decode cX9_trial 14 = .ok (.goto 27, 3) := by decide +kernel
theorem dX9_trial_17 : decode cX9_trial 17 = .ok (.iload_n 2, 1) := by decide +kernel
theorem dX9_trial_18 : decode cX9_trial 18 = .ok (.iconst 1, 1) := by decide +kernel
theorem dX9_trial_19 : decode cX9_trial 19 = .ok (.iconst 4, 1) := by decide +kernel
theorem dX9_trial_20 : decode cX9_trial 20 = .ok (.invokestatic 113, 3) := by decide +kernel
theorem dX9_trial_23 : decode cX9_trial 23 = .ok (.ifCond .eq 17, 3) := by decide +kernel
theorem dX9_trial_26 : decode cX9_trial 26 = .ok (.iload_n 3, 1) := by decide +kernel
theorem dX9_trial_27 : decode cX9_trial 27 = .ok (.iconst 0, 1) := by decide +kernel
theorem dX9_trial_28 : decode cX9_trial 28 = .ok (.bipush 9, 2) := by decide +kernel
theorem dX9_trial_30 : decode cX9_trial 30 = .ok (.invokestatic 113, 3) := by decide +kernel
theorem dX9_trial_33 : decode cX9_trial 33 = .ok (.ifCond .eq 7, 3) := by decide +kernel
theorem dX9_trial_36 : decode cX9_trial 36 = .ok (.iconst 0, 1) := by decide +kernel
theorem dX9_trial_37 : decode cX9_trial 37 = .ok (.goto 4, 3) := by decide +kernel
theorem dX9_trial_40 : decode cX9_trial 40 = .ok (.iconst 2, 1) := by decide +kernel
theorem dX9_trial_41 : decode cX9_trial 41 = .ok (.invokevirtual 126, 3) := by decide +kernel
theorem dX9_trial_44 : decode cX9_trial 44 = .ok (.ifCond .ne 5, 3) := by decide +kernel
theorem dX9_trial_47 : decode cX9_trial 47 = .ok (.iconst 0, 1) := by decide +kernel
theorem dX9_trial_48 : decode cX9_trial 48 = .ok (.ireturn, 1) := by decide +kernel
theorem dX9_trial_49 : decode cX9_trial 49 = .ok (.aload_n 0, 1) := by decide +kernel
theorem dX9_trial_50 : decode cX9_trial 50 = .ok (.getfield 61, 3) := by decide +kernel
theorem dX9_trial_53 : decode cX9_trial 53 = .ok (.iconst 5, 1) := by decide +kernel
theorem dX9_trial_54 : decode cX9_trial 54 = .ok (.iload_n 1, 1) := by decide +kernel
theorem dX9_trial_55 : decode cX9_trial 55 = .ok (.imul, 1) := by decide +kernel
theorem dX9_trial_56 : decode cX9_trial 56 = .ok (.iload_n 2, 1) := by decide +kernel
theorem dX9_trial_57 : decode cX9_trial 57 = .ok (.iadd, 1) := by decide +kernel
theorem dX9_trial_58 : decode cX9_trial 58 = .ok (.iaload, 1) := by decide +kernel
theorem dX9_trial_59 : decode cX9_trial 59 = .ok (.istore 5, 2) := by decide +kernel
theorem dX9_trial_61 : decode cX9_trial 61 = .ok (.aload_n 0, 1) := by decide +kernel
theorem dX9_trial_62 : decode cX9_trial 62 = .ok (.getfield 61, 3) := by decide +kernel
theorem dX9_trial_65 : decode cX9_trial 65 = .ok (.iconst 5, 1) := by decide +kernel
theorem dX9_trial_66 : decode cX9_trial 66 = .ok (.iload_n 1, 1) := by decide +kernel
theorem dX9_trial_67 : decode cX9_trial 67 = .ok (.imul, 1) := by decide +kernel
theorem dX9_trial_68 : decode cX9_trial 68 = .ok (.iload_n 2, 1) := by decide +kernel
theorem dX9_trial_69 : decode cX9_trial 69 = .ok (.iadd, 1) := by decide +kernel
theorem dX9_trial_70 : decode cX9_trial 70 = .ok (.iload_n 3, 1) := by decide +kernel
theorem dX9_trial_71 : decode cX9_trial 71 = .ok (.iastore, 1) := by decide +kernel
theorem dX9_trial_72 : decode cX9_trial 72 = .ok (.iload 5, 2) := by decide +kernel
theorem dX9_trial_74 : decode cX9_trial 74 = .ok (.ireturn, 1) := by decide +kernel
theorem dX9_blankBy_0 : decode cX9_blankBy 0 = .ok (.iconst 0, 1) := by decide +kernel
theorem dX9_blankBy_1 : decode cX9_blankBy 1 = .ok (.istore_n 3, 1) := by decide +kernel
theorem dX9_blankBy_2 : decode cX9_blankBy 2 = .ok (.iconst 0, 1) := by decide +kernel
theorem dX9_blankBy_3 : decode cX9_blankBy 3 = .ok (.istore 4, 2) := by decide +kernel
theorem dX9_blankBy_5 : decode cX9_blankBy 5 = .ok (.iload 4, 2) := by decide +kernel
theorem dX9_blankBy_7 : decode cX9_blankBy 7 = .ok (.aload_n 0, 1) := by decide +kernel
theorem dX9_blankBy_8 : decode cX9_blankBy 8 = .ok (.getfield 16, 3) := by decide +kernel
theorem dX9_blankBy_11 : decode cX9_blankBy 11 = .ok (.iload_n 1, 1) := by decide +kernel
theorem dX9_blankBy_12 : decode cX9_blankBy 12 = .ok (.iaload, 1) := by decide +kernel
theorem dX9_blankBy_13 : decode cX9_blankBy 13 = .ok (.if_icmp .ge 24, 3) := by decide +kernel
theorem dX9_blankBy_16 : decode cX9_blankBy 16 = .ok (.iload_n 3, 1) := by decide +kernel
theorem dX9_blankBy_17 : decode cX9_blankBy 17 = .ok (.aload_n 0, 1) := by decide +kernel
theorem dX9_blankBy_18 : decode cX9_blankBy 18 = .ok (.getfield 19, 3) := by decide +kernel
theorem dX9_blankBy_21 : decode cX9_blankBy 21 = .ok (.bipush 6, 2) := by decide +kernel
theorem dX9_blankBy_23 : decode cX9_blankBy 23 = .ok (.iload_n 1, 1) := by decide +kernel
theorem dX9_blankBy_24 : decode cX9_blankBy 24 = .ok (.imul, 1) := by decide +kernel
theorem dX9_blankBy_25 : decode cX9_blankBy 25 = .ok (.iload 4, 2) := by decide +kernel
theorem dX9_blankBy_27 : decode cX9_blankBy 27 = .ok (.iadd, 1) := by decide +kernel
theorem dX9_blankBy_28 : decode cX9_blankBy 28 = .ok (.iaload, 1) := by decide +kernel
theorem dX9_blankBy_29 : decode cX9_blankBy 29 = .ok (.iadd, 1) := by decide +kernel
theorem dX9_blankBy_30 : decode cX9_blankBy 30 = .ok (.istore_n 3, 1) := by decide +kernel
theorem dX9_blankBy_31 : decode cX9_blankBy 31 = .ok (.iinc 4 1, 3) := by decide +kernel
theorem dX9_blankBy_34 : decode cX9_blankBy 34 = .ok (.goto (-29), 3) := by decide +kernel
theorem dX9_blankBy_37 : decode cX9_blankBy 37 = .ok (.iload_n 3, 1) := by decide +kernel
theorem dX9_blankBy_38 : decode cX9_blankBy 38 = .ok (.aload_n 0, 1) := by decide +kernel
theorem dX9_blankBy_39 : decode cX9_blankBy 39 = .ok (.getfield 61, 3) := by decide +kernel
theorem dX9_blankBy_42 : decode cX9_blankBy 42 = .ok (.iconst 5, 1) := by decide +kernel
theorem dX9_blankBy_43 : decode cX9_blankBy 43 = .ok (.iload_n 2, 1) := by decide +kernel
theorem dX9_blankBy_44 : decode cX9_blankBy 44 = .ok (.imul, 1) := by decide +kernel
theorem dX9_blankBy_45 : decode cX9_blankBy 45 = .ok (.aload_n 0, 1) := by decide +kernel
theorem dX9_blankBy_46 : decode cX9_blankBy 46 = .ok (.getfield 28, 3) := by decide +kernel
theorem dX9_blankBy_49 : decode cX9_blankBy 49 = .ok (.iload_n 1, 1) := by decide +kernel
theorem dX9_blankBy_50 : decode cX9_blankBy 50 = .ok (.iaload, 1) := by decide +kernel
theorem dX9_blankBy_51 : decode cX9_blankBy 51 = .ok (.iadd, 1) := by decide +kernel
theorem dX9_blankBy_52 : decode cX9_blankBy 52 = .ok (.iaload, 1) := by decide +kernel
theorem dX9_blankBy_53 : decode cX9_blankBy 53 = .ok (.aload_n 0, 1) := by decide +kernel
theorem dX9_blankBy_54 : decode cX9_blankBy 54 = .ok (.getfield 16, 3) := by decide +kernel
theorem dX9_blankBy_57 : decode cX9_blankBy 57 = .ok (.iload_n 1, 1) := by decide +kernel
theorem dX9_blankBy_58 : decode cX9_blankBy 58 = .ok (.iaload, 1) := by decide +kernel
theorem dX9_blankBy_59 : decode cX9_blankBy 59 = .ok (.iconst 1, 1) := by decide +kernel
theorem dX9_blankBy_60 : decode cX9_blankBy 60 = .ok (.isub, 1) := by decide +kernel
theorem dX9_blankBy_61 : decode cX9_blankBy 61 = .ok (.imul, 1) := by decide +kernel
theorem dX9_blankBy_62 : decode cX9_blankBy 62 = .ok (.isub, 1) := by decide +kernel
theorem dX9_blankBy_63 : decode cX9_blankBy 63 = .ok (.ireturn, 1) := by decide +kernel
theorem dX9_blank_0 : decode cX9_blank 0 = .ok (.aload_n 0, 1) := by decide +kernel
theorem dX9_blank_1 : decode cX9_blank 1 = .ok (.aload_n 0, 1) := by decide +kernel
theorem dX9_blank_2 : decode cX9_blank 2 = .ok (.iload_n 1, 1) := by decide +kernel
theorem dX9_blank_3 : decode cX9_blank 3 = .ok (.invokevirtual 138, 3) := by decide +kernel
theorem dX9_blank_6 : decode cX9_blank 6 = .ok (.ifCond .eq 15, 3) := by decide +kernel
theorem dX9_blank_9 : decode cX9_blank 9 = .ok (.aload_n 0, 1) := by decide +kernel
theorem dX9_blank_10 : decode cX9_blank 10 = .ok (.iload_n 2, 1) := by decide +kernel
theorem dX9_blank_11 : decode cX9_blank 11 = .ok (.invokevirtual 151, 3) := by decide +kernel
theorem dX9_blank_14 : decode cX9_blank 14 = .ok (.ifCond .eq 7, 3) := by decide +kernel
theorem dX9_blank_17 : decode cX9_blank 17 = .ok (.iconst 0, 1) := by decide +kernel
theorem dX9_blank_18 : decode cX9_blank 18 = .ok (.goto 4, 3) := by decide +kernel
theorem dX9_blank_21 : decode cX9_blank 21 = .ok (.iconst 1, 1) := by decide +kernel
theorem dX9_blank_22 : decode cX9_blank 22 = .ok (.invokevirtual 126, 3) := by decide +kernel
theorem dX9_blank_25 : decode cX9_blank 25 = .ok (.ifCond .eq 12, 3) := by decide +kernel
theorem dX9_blank_28 : decode cX9_blank 28 = .ok (.aload_n 0, 1) := by decide +kernel
theorem dX9_blank_29 : decode cX9_blank 29 = .ok (.iload_n 1, 1) := by decide +kernel
theorem dX9_blank_30 : decode cX9_blank 30 = .ok (.iload_n 2, 1) := by decide +kernel
theorem dX9_blank_31 : decode cX9_blank 31 = .ok (.invokevirtual 144, 3) := by decide +kernel
theorem dX9_blank_34 : decode cX9_blank 34 = .ok (.goto 4, 3) := by decide +kernel
theorem dX9_blank_37 : decode cX9_blank 37 = .ok (.iconst 0, 1) := by decide +kernel
theorem dX9_blank_38 : decode cX9_blank 38 = .ok (.ireturn, 1) := by decide +kernel
theorem dX9_start_0 : decode cX9_start 0 = .ok (.aload_n 0, 1) := by decide +kernel
theorem dX9_start_1 : decode cX9_start 1 = .ok (.iconst 0, 1) := by decide +kernel
theorem dX9_start_2 : decode cX9_start 2 = .ok (.putfield 154, 3) := by decide +kernel
theorem dX9_start_5 : decode cX9_start 5 = .ok (.aload_n 0, 1) := by decide +kernel
theorem dX9_start_6 : decode cX9_start 6 = .ok (.iconst 0, 1) := by decide +kernel
theorem dX9_start_7 : decode cX9_start 7 = .ok (.putfield 157, 3) := by decide +kernel
theorem dX9_start_10 : decode cX9_start 10 = .ok (.aload_n 0, 1) := by decide +kernel
theorem dX9_start_11 : decode cX9_start 11 = .ok (.iconst 1, 1) := by decide +kernel
theorem dX9_start_12 : decode cX9_start 12 = .ok (.putfield 160, 3) := by decide +kernel
theorem dX9_start_15 : decode cX9_start 15 = .ok (.aload_n 0, 1) := by decide +kernel
theorem dX9_start_16 : decode cX9_start 16 = .ok (.iconst 0, 1) := by decide +kernel
theorem dX9_start_17 : decode cX9_start 17 = .ok (.putfield 163, 3) := by decide +kernel
theorem dX9_start_20 : decode cX9_start 20 = .ok (.aload_n 0, 1) := by decide +kernel
theorem dX9_start_21 : decode cX9_start 21 = .ok (.iconst 0, 1) := by decide +kernel
theorem dX9_start_22 : decode cX9_start 22 = .ok (.putfield 166, 3) := by decide +kernel
theorem dX9_start_25 : decode cX9_start 25 = .ok (.aload_n 0, 1) := by decide +kernel
theorem dX9_start_26 : decode cX9_start 26 = .ok (.iconst 1, 1) := by decide +kernel
theorem dX9_start_27 : decode cX9_start 27 = .ok (.putfield 169, 3) := by decide +kernel
theorem dX9_start_30 : decode cX9_start 30 = .ok (.return_, 1) := by decide +kernel
theorem dX9_go_0 : decode cX9_go 0 = .ok (.iload 4, 2) := by decide +kernel
theorem dX9_go_2 : decode cX9_go 2 = .ok (.ifCond .le 12, 3) := by decide +kernel
theorem dX9_go_5 : decode cX9_go 5 = .ok (.iload_n 3, 1) := by decide +kernel
theorem dX9_go_6 : decode cX9_go 6 = .ok (.iconst 1, 1) := by decide +kernel
theorem dX9_go_7 : decode cX9_go 7 = .ok (.iadd, 1) := by decide +kernel
theorem dX9_go_8 : decode cX9_go 8 = .ok (.iload 5, 2) := by decide +kernel
theorem dX9_go_10 : decode cX9_go 10 = .ok (.iadd, 1) := by decide +kernel
theorem dX9_go_11 : decode cX9_go 11 = .ok (.goto 7, 3) := by decide +kernel
theorem dX9_go_14 : decode cX9_go 14 = .ok (.iload_n 3, 1) := by decide +kernel
theorem dX9_go_15 : decode cX9_go 15 = .ok (.iload 5, 2) := by decide +kernel
theorem dX9_go_17 : decode cX9_go 17 = .ok (.isub, 1) := by decide +kernel
theorem dX9_go_18 : decode cX9_go 18 = .ok (.istore 6, 2) := by decide +kernel
theorem dX9_go_20 : decode cX9_go 20 = .ok (.iload 4, 2) := by decide +kernel
theorem dX9_go_22 : decode cX9_go 22 = .ok (.ifCond .le 10, 3) := by decide +kernel
theorem dX9_go_25 : decode cX9_go 25 = .ok (.iload 6, 2) := by decide +kernel
theorem dX9_go_27 : decode cX9_go 27 = .ok (.iconst 1, 1) := by decide +kernel
theorem dX9_go_28 : decode cX9_go 28 = .ok (.isub, 1) := by decide +kernel
theorem dX9_go_29 : decode cX9_go 29 = .ok (.goto 5, 3) := by decide +kernel
theorem dX9_go_32 : decode cX9_go 32 = .ok (.iload 6, 2) := by decide +kernel
theorem dX9_go_34 : decode cX9_go 34 = .ok (.istore 7, 2) := by decide +kernel
theorem dX9_go_36 : decode cX9_go 36 = .ok (.iload 5, 2) := by decide +kernel
theorem dX9_go_38 : decode cX9_go 38 = .ok (.ifCond .le 95, 3) := by decide +kernel
theorem dX9_go_41 : decode cX9_go 41 = .ok (.iload_n 2, 1) := by decide +kernel
theorem dX9_go_42 : decode cX9_go 42 = .ok (.iload 7, 2) := by decide +kernel
theorem dX9_go_44 : decode cX9_go 44 = .ok (.ishr, 1) := by decide +kernel
theorem dX9_go_45 : decode cX9_go 45 = .ok (.iconst 1, 1) := by decide +kernel
theorem dX9_go_46 : decode cX9_go 46 = .ok (.iand, 1) := by decide +kernel
theorem dX9_go_47 : decode cX9_go 47 = .ok (.iconst 1, 1) := by decide +kernel
theorem dX9_go_48 : decode cX9_go 48 = .ok (.if_icmp .ne 85, 3) := by decide +kernel
theorem dX9_go_51 : decode cX9_go 51 = .ok (.aload_n 0, 1) := by decide +kernel
theorem dX9_go_52 : decode cX9_go 52 = .ok (.getfield 22, 3) := by decide +kernel
theorem dX9_go_55 : decode cX9_go 55 = .ok (.bipush 6, 2) := by decide +kernel
theorem dX9_go_57 : decode cX9_go 57 = .ok (.iload_n 1, 1) := by decide +kernel
theorem dX9_go_58 : decode cX9_go 58 = .ok (.imul, 1) := by decide +kernel
theorem dX9_go_59 : decode cX9_go 59 = .ok (.iload 7, 2) := by decide +kernel
theorem dX9_go_61 : decode cX9_go 61 = .ok (.iadd, 1) := by decide +kernel
theorem dX9_go_62 : decode cX9_go 62 = .ok (.iaload, 1) := by decide +kernel
theorem dX9_go_63 : decode cX9_go 63 = .ok (.aload_n 0, 1) := by decide +kernel
theorem dX9_go_64 : decode cX9_go 64 = .ok (.getfield 22, 3) := by decide +kernel
theorem dX9_go_67 : decode cX9_go 67 = .ok (.bipush 6, 2) := by decide +kernel
theorem dX9_go_69 : decode cX9_go 69 = .ok (.iload_n 1, 1) := by decide +kernel
theorem dX9_go_70 : decode cX9_go 70 = .ok (.imul, 1) := by decide +kernel
theorem dX9_go_71 : decode cX9_go 71 = .ok (.iload_n 3, 1) := by decide +kernel
theorem dX9_go_72 : decode cX9_go 72 = .ok (.iadd, 1) := by decide +kernel
theorem dX9_go_73 : decode cX9_go 73 = .ok (.iaload, 1) := by decide +kernel
theorem dX9_go_74 : decode cX9_go 74 = .ok (.if_icmp .ne 7, 3) := by decide +kernel
theorem dX9_go_77 : decode cX9_go 77 = .ok (.iconst 1, 1) := by decide +kernel
theorem dX9_go_78 : decode cX9_go 78 = .ok (.goto 4, 3) := by decide +kernel
theorem dX9_go_81 : decode cX9_go 81 = .ok (.iconst 0, 1) := by decide +kernel
theorem dX9_go_82 : decode cX9_go 82 = .ok (.istore 8, 2) := by decide +kernel
theorem dX9_go_84 : decode cX9_go 84 = .ok (.aload_n 0, 1) := by decide +kernel
theorem dX9_go_85 : decode cX9_go 85 = .ok (.getfield 160, 3) := by decide +kernel
theorem dX9_go_88 : decode cX9_go 88 = .ok (.istore 9, 2) := by decide +kernel
theorem dX9_go_90 : decode cX9_go 90 = .ok (.aload_n 0, 1) := by decide +kernel
theorem dX9_go_91 : decode cX9_go 91 = .ok (.iload 8, 2) := by decide +kernel
theorem dX9_go_93 : decode cX9_go 93 = .ok (.ifCond .eq 11, 3) := by decide +kernel
theorem dX9_go_96 : decode cX9_go 96 = .ok (.aload_n 0, 1) := by decide +kernel
theorem dX9_go_97 : decode cX9_go 97 = .ok (.getfield 163, 3) := by decide +kernel
theorem dX9_go_100 : decode cX9_go 100 = .ok (.ineg, 1) := by decide +kernel
theorem dX9_go_101 : decode cX9_go 101 = .ok (.goto 7, 3) := by decide +kernel
theorem dX9_go_104 : decode cX9_go 104 = .ok (.aload_n 0, 1) := by decide +kernel
theorem dX9_go_105 : decode cX9_go 105 = .ok (.getfield 163, 3) := by decide +kernel
theorem dX9_go_108 : decode cX9_go 108 = .ok (.putfield 160, 3) := by decide +kernel
theorem dX9_go_111 : decode cX9_go 111 = .ok (.aload_n 0, 1) := by decide +kernel
theorem dX9_go_112 : decode cX9_go 112 = .ok (.iload 8, 2) := by decide +kernel
theorem dX9_go_114 : decode cX9_go 114 = .ok (.ifCond .eq 8, 3) := by decide +kernel
theorem dX9_go_117 : decode cX9_go 117 = .ok (.iload 9, 2) := by decide +kernel
theorem dX9_go_119 : decode cX9_go 119 = .ok (.goto 6, 3) := by decide +kernel
theorem dX9_go_122 : decode cX9_go 122 = .ok (.iload 9, 2) := by decide +kernel
theorem dX9_go_124 : decode cX9_go 124 = .ok (.ineg, 1) := by decide +kernel
theorem dX9_go_125 : decode cX9_go 125 = .ok (.putfield 163, 3) := by decide +kernel
theorem dX9_go_128 : decode cX9_go 128 = .ok (.aload_n 0, 1) := by decide +kernel
theorem dX9_go_129 : decode cX9_go 129 = .ok (.iconst 0, 1) := by decide +kernel
theorem dX9_go_130 : decode cX9_go 130 = .ok (.putfield 169, 3) := by decide +kernel
theorem dX9_go_133 : decode cX9_go 133 = .ok (.aload_n 0, 1) := by decide +kernel
theorem dX9_go_134 : decode cX9_go 134 = .ok (.dup, 1) := by decide +kernel
theorem dX9_go_135 : decode cX9_go 135 = .ok (.getfield 154, 3) := by decide +kernel
theorem dX9_go_138 : decode cX9_go 138 = .ok (.aload_n 0, 1) := by decide +kernel
theorem dX9_go_139 : decode cX9_go 139 = .ok (.getfield 160, 3) := by decide +kernel
theorem dX9_go_142 : decode cX9_go 142 = .ok (.aload_n 0, 1) := by decide +kernel
theorem dX9_go_143 : decode cX9_go 143 = .ok (.getfield 19, 3) := by decide +kernel
theorem dX9_go_146 : decode cX9_go 146 = .ok (.bipush 6, 2) := by decide +kernel
theorem dX9_go_148 : decode cX9_go 148 = .ok (.iload_n 1, 1) := by decide +kernel
theorem dX9_go_149 : decode cX9_go 149 = .ok (.imul, 1) := by decide +kernel
theorem dX9_go_150 : decode cX9_go 150 = .ok (.iload 6, 2) := by decide +kernel
theorem dX9_go_152 : decode cX9_go 152 = .ok (.iadd, 1) := by decide +kernel
theorem dX9_go_153 : decode cX9_go 153 = .ok (.iaload, 1) := by decide +kernel
theorem dX9_go_154 : decode cX9_go 154 = .ok (.imul, 1) := by decide +kernel
theorem dX9_go_155 : decode cX9_go 155 = .ok (.iadd, 1) := by decide +kernel
theorem dX9_go_156 : decode cX9_go 156 = .ok (.putfield 154, 3) := by decide +kernel
theorem dX9_go_159 : decode cX9_go 159 = .ok (.aload_n 0, 1) := by decide +kernel
theorem dX9_go_160 : decode cX9_go 160 = .ok (.dup, 1) := by decide +kernel
theorem dX9_go_161 : decode cX9_go 161 = .ok (.getfield 157, 3) := by decide +kernel
theorem dX9_go_164 : decode cX9_go 164 = .ok (.aload_n 0, 1) := by decide +kernel
theorem dX9_go_165 : decode cX9_go 165 = .ok (.getfield 163, 3) := by decide +kernel
theorem dX9_go_168 : decode cX9_go 168 = .ok (.aload_n 0, 1) := by decide +kernel
theorem dX9_go_169 : decode cX9_go 169 = .ok (.getfield 19, 3) := by decide +kernel
theorem dX9_go_172 : decode cX9_go 172 = .ok (.bipush 6, 2) := by decide +kernel
theorem dX9_go_174 : decode cX9_go 174 = .ok (.iload_n 1, 1) := by decide +kernel
theorem dX9_go_175 : decode cX9_go 175 = .ok (.imul, 1) := by decide +kernel
theorem dX9_go_176 : decode cX9_go 176 = .ok (.iload 6, 2) := by decide +kernel
theorem dX9_go_178 : decode cX9_go 178 = .ok (.iadd, 1) := by decide +kernel
theorem dX9_go_179 : decode cX9_go 179 = .ok (.iaload, 1) := by decide +kernel
theorem dX9_go_180 : decode cX9_go 180 = .ok (.imul, 1) := by decide +kernel
theorem dX9_go_181 : decode cX9_go 181 = .ok (.iadd, 1) := by decide +kernel
theorem dX9_go_182 : decode cX9_go 182 = .ok (.putfield 157, 3) := by decide +kernel
theorem dX9_go_185 : decode cX9_go 185 = .ok (.aload_n 0, 1) := by decide +kernel
theorem dX9_go_186 : decode cX9_go 186 = .ok (.dup, 1) := by decide +kernel
theorem dX9_go_187 : decode cX9_go 187 = .ok (.getfield 166, 3) := by decide +kernel
theorem dX9_go_190 : decode cX9_go 190 = .ok (.aload_n 0, 1) := by decide +kernel
theorem dX9_go_191 : decode cX9_go 191 = .ok (.getfield 169, 3) := by decide +kernel
theorem dX9_go_194 : decode cX9_go 194 = .ok (.ifCond .eq 18, 3) := by decide +kernel
theorem dX9_go_197 : decode cX9_go 197 = .ok (.aload_n 0, 1) := by decide +kernel
theorem dX9_go_198 : decode cX9_go 198 = .ok (.getfield 19, 3) := by decide +kernel
theorem dX9_go_201 : decode cX9_go 201 = .ok (.bipush 6, 2) := by decide +kernel
theorem dX9_go_203 : decode cX9_go 203 = .ok (.iload_n 1, 1) := by decide +kernel
theorem dX9_go_204 : decode cX9_go 204 = .ok (.imul, 1) := by decide +kernel
theorem dX9_go_205 : decode cX9_go 205 = .ok (.iload 6, 2) := by decide +kernel
theorem dX9_go_207 : decode cX9_go 207 = .ok (.iadd, 1) := by decide +kernel
theorem dX9_go_208 : decode cX9_go 208 = .ok (.iaload, 1) := by decide +kernel
theorem dX9_go_209 : decode cX9_go 209 = .ok (.goto 4, 3) := by decide +kernel
theorem dX9_go_212 : decode cX9_go 212 = .ok (.iconst 0, 1) := by decide +kernel
theorem dX9_go_213 : decode cX9_go 213 = .ok (.iadd, 1) := by decide +kernel
theorem dX9_go_214 : decode cX9_go 214 = .ok (.putfield 166, 3) := by decide +kernel
theorem dX9_go_217 : decode cX9_go 217 = .ok (.return_, 1) := by decide +kernel
theorem dX9_wing_0 : decode cX9_wing 0 = .ok (.iload_n 3, 1) := by decide +kernel
theorem dX9_wing_1 : decode cX9_wing 1 = .ok (.ifCond .le 16, 3) := by decide +kernel
theorem dX9_wing_4 : decode cX9_wing 4 = .ok (.aload_n 0, 1) := by decide +kernel
theorem dX9_wing_5 : decode cX9_wing 5 = .ok (.getfield 16, 3) := by decide +kernel
theorem dX9_wing_8 : decode cX9_wing 8 = .ok (.iload_n 1, 1) := by decide +kernel
theorem dX9_wing_9 : decode cX9_wing 9 = .ok (.iaload, 1) := by decide +kernel
theorem dX9_wing_10 : decode cX9_wing 10 = .ok (.iconst 1, 1) := by decide +kernel
theorem dX9_wing_11 : decode cX9_wing 11 = .ok (.isub, 1) := by decide +kernel
theorem dX9_wing_12 : decode cX9_wing 12 = .ok (.iload_n 2, 1) := by decide +kernel
theorem dX9_wing_13 : decode cX9_wing 13 = .ok (.isub, 1) := by decide +kernel
theorem dX9_wing_14 : decode cX9_wing 14 = .ok (.goto 6, 3) := by decide +kernel
theorem dX9_wing_17 : decode cX9_wing 17 = .ok (.iload_n 2, 1) := by decide +kernel
theorem dX9_wing_18 : decode cX9_wing 18 = .ok (.iconst 1, 1) := by decide +kernel
theorem dX9_wing_19 : decode cX9_wing 19 = .ok (.iadd, 1) := by decide +kernel
theorem dX9_wing_20 : decode cX9_wing 20 = .ok (.ireturn, 1) := by decide +kernel
theorem dX9_reason_0 : decode cX9_reason 0 = .ok (.iconst 0, 1) := by decide +kernel
theorem dX9_reason_1 : decode cX9_reason 1 = .ok (.istore 5, 2) := by decide +kernel
theorem dX9_reason_3 : decode cX9_reason 3 = .ok (.iconst 1, 1) := by decide +kernel
theorem dX9_reason_4 : decode cX9_reason 4 = .ok (.istore 6, 2) := by decide +kernel
theorem dX9_reason_6 : decode cX9_reason 6 = .ok (.iconst 0, 1) := by decide +kernel
theorem dX9_reason_7 : decode cX9_reason 7 = .ok (.istore 7, 2) := by decide +kernel
theorem dX9_reason_9 : decode cX9_reason 9 = .ok (.iconst 0, 1) := by decide +kernel
theorem dX9_reason_10 : decode cX9_reason 10 = .ok (.istore 8, 2) := by decide +kernel
theorem dX9_reason_12 : decode cX9_reason 12 = .ok (.iconst (-1), 1) := by decide +kernel
theorem dX9_reason_13 : decode cX9_reason 13 = .ok (.istore 9, 2) := by decide +kernel
theorem dX9_reason_15 : decode cX9_reason 15 = .ok (.iload 9, 2) := by decide +kernel
theorem dX9_reason_17 : decode cX9_reason 17 = .ok (.iconst 2, 1) := by decide +kernel
theorem dX9_reason_18 : decode cX9_reason 18 = .ok (.if_icmp .ge 183, 3) := by decide +kernel
theorem dX9_reason_21 : decode cX9_reason 21 = .ok (.aload_n 0, 1) := by decide +kernel
theorem dX9_reason_22 : decode cX9_reason 22 = .ok (.invokevirtual 173, 3) := by decide +kernel
theorem dX9_reason_25 : decode cX9_reason 25 = .ok (.iconst 0, 1) := by decide +kernel
theorem dX9_reason_26 : decode cX9_reason 26 = .ok (.istore 10, 2) := by decide +kernel
theorem dX9_reason_28 : decode cX9_reason 28 = .ok (.iload 10, 2) := by decide +kernel
theorem dX9_reason_30 : decode cX9_reason 30 = .ok (.aload_n 0, 1) := by decide +kernel
theorem dX9_reason_31 : decode cX9_reason 31 = .ok (.iload_n 1, 1) := by decide +kernel
theorem dX9_reason_32 : decode cX9_reason 32 = .ok (.iload 4, 2) := by decide +kernel
theorem dX9_reason_34 : decode cX9_reason 34 = .ok (.iload 9, 2) := by decide +kernel
theorem dX9_reason_36 : decode cX9_reason 36 = .ok (.invokevirtual 176, 3) := by decide +kernel
theorem dX9_reason_39 : decode cX9_reason 39 = .ok (.if_icmp .ge 97, 3) := by decide +kernel
theorem dX9_reason_42 : decode cX9_reason 42 = .ok (.aload_n 0, 1) := by decide +kernel
theorem dX9_reason_43 : decode cX9_reason 43 = .ok (.iload_n 1, 1) := by decide +kernel
theorem dX9_reason_44 : decode cX9_reason 44 = .ok (.iload_n 3, 1) := by decide +kernel
theorem dX9_reason_45 : decode cX9_reason 45 = .ok (.iload 4, 2) := by decide +kernel
theorem dX9_reason_47 : decode cX9_reason 47 = .ok (.iload 9, 2) := by decide +kernel
theorem dX9_reason_49 : decode cX9_reason 49 = .ok (.iload 10, 2) := by decide +kernel
theorem dX9_reason_51 : decode cX9_reason 51 = .ok (.invokevirtual 180, 3) := by decide +kernel
theorem dX9_reason_54 : decode cX9_reason 54 = .ok (.iload 7, 2) := by decide +kernel
theorem dX9_reason_56 : decode cX9_reason 56 = .ok (.ifCond .ne 28, 3) := by decide +kernel
theorem dX9_reason_59 : decode cX9_reason 59 = .ok (.aload_n 0, 1) := by decide +kernel
theorem dX9_reason_60 : decode cX9_reason 60 = .ok (.getfield 157, 3) := by decide +kernel
theorem dX9_reason_63 : decode cX9_reason 63 = .ok (.ifCond .le 25, 3) := by decide +kernel
theorem dX9_reason_66 : decode cX9_reason 66 = .ok (.aload_n 0, 1) := by decide +kernel
theorem dX9_reason_67 : decode cX9_reason 67 = .ok (.getfield 157, 3) := by decide +kernel
theorem dX9_reason_70 : decode cX9_reason 70 = .ok (.aload_n 0, 1) := by decide +kernel
theorem dX9_reason_71 : decode cX9_reason 71 = .ok (.getfield 49, 3) := by decide +kernel
theorem dX9_reason_74 : decode cX9_reason 74 = .ok (.iload_n 2, 1) := by decide +kernel
theorem dX9_reason_75 : decode cX9_reason 75 = .ok (.iaload, 1) := by decide +kernel
theorem dX9_reason_76 : decode cX9_reason 76 = .ok (.iadd, 1) := by decide +kernel
theorem dX9_reason_77 : decode cX9_reason 77 = .ok (.aload_n 0, 1) := by decide +kernel
theorem dX9_reason_78 : decode cX9_reason 78 = .ok (.getfield 154, 3) := by decide +kernel
theorem dX9_reason_81 : decode cX9_reason 81 = .ok (.if_icmp .le 7, 3) := by decide +kernel
theorem dX9_reason_84 : decode cX9_reason 84 = .ok (.iconst 1, 1) := by decide +kernel
theorem dX9_reason_85 : decode cX9_reason 85 = .ok (.goto 4, 3) := by decide +kernel
theorem dX9_reason_88 : decode cX9_reason 88 = .ok (.iconst 0, 1) := by decide +kernel
theorem dX9_reason_89 : decode cX9_reason 89 = .ok (.istore 7, 2) := by decide +kernel
theorem dX9_reason_91 : decode cX9_reason 91 = .ok (.iload 8, 2) := by decide +kernel
theorem dX9_reason_93 : decode cX9_reason 93 = .ok (.ifCond .ne 30, 3) := by decide +kernel
theorem dX9_reason_96 : decode cX9_reason 96 = .ok (.aload_n 0, 1) := by decide +kernel
theorem dX9_reason_97 : decode cX9_reason 97 = .ok (.getfield 157, 3) := by decide +kernel
theorem dX9_reason_100 : decode cX9_reason 100 = .ok (.ineg, 1) := by decide +kernel
theorem dX9_reason_101 : decode cX9_reason 101 = .ok (.aload_n 0, 1) := by decide +kernel
theorem dX9_reason_102 : decode cX9_reason 102 = .ok (.getfield 52, 3) := by decide +kernel
theorem dX9_reason_105 : decode cX9_reason 105 = .ok (.iload_n 2, 1) := by decide +kernel
theorem dX9_reason_106 : decode cX9_reason 106 = .ok (.iaload, 1) := by decide +kernel
theorem dX9_reason_107 : decode cX9_reason 107 = .ok (.if_icmp .le 20, 3) := by decide +kernel
theorem dX9_reason_110 : decode cX9_reason 110 = .ok (.aload_n 0, 1) := by decide +kernel
theorem dX9_reason_111 : decode cX9_reason 111 = .ok (.getfield 154, 3) := by decide +kernel
theorem dX9_reason_114 : decode cX9_reason 114 = .ok (.aload_n 0, 1) := by decide +kernel
theorem dX9_reason_115 : decode cX9_reason 115 = .ok (.getfield 55, 3) := by decide +kernel
theorem dX9_reason_118 : decode cX9_reason 118 = .ok (.iload_n 2, 1) := by decide +kernel
theorem dX9_reason_119 : decode cX9_reason 119 = .ok (.iaload, 1) := by decide +kernel
theorem dX9_reason_120 : decode cX9_reason 120 = .ok (.if_icmp .ge 7, 3) := by decide +kernel
theorem dX9_reason_123 : decode cX9_reason 123 = .ok (.iconst 1, 1) := by decide +kernel
theorem dX9_reason_124 : decode cX9_reason 124 = .ok (.goto 4, 3) := by decide +kernel
theorem dX9_reason_127 : decode cX9_reason 127 = .ok (.iconst 0, 1) := by decide +kernel
theorem dX9_reason_128 : decode cX9_reason 128 = .ok (.istore 8, 2) := by decide +kernel
theorem dX9_reason_130 : decode cX9_reason 130 = .ok (.iinc 10 1, 3) := by decide +kernel
theorem dX9_reason_133 : decode cX9_reason 133 = .ok (.goto (-105), 3) := by decide +kernel
theorem dX9_reason_136 : decode cX9_reason 136 = .ok (.iload 5, 2) := by decide +kernel
theorem dX9_reason_138 : decode cX9_reason 138 = .ok (.ifCond .ne 25, 3) := by decide +kernel
theorem dX9_reason_141 : decode cX9_reason 141 = .ok (.aload_n 0, 1) := by decide +kernel
theorem dX9_reason_142 : decode cX9_reason 142 = .ok (.getfield 166, 3) := by decide +kernel
theorem dX9_reason_145 : decode cX9_reason 145 = .ok (.aload_n 0, 1) := by decide +kernel
theorem dX9_reason_146 : decode cX9_reason 146 = .ok (.getfield 46, 3) := by decide +kernel
theorem dX9_reason_149 : decode cX9_reason 149 = .ok (.iload_n 2, 1) := by decide +kernel
theorem dX9_reason_150 : decode cX9_reason 150 = .ok (.iaload, 1) := by decide +kernel
theorem dX9_reason_151 : decode cX9_reason 151 = .ok (.iconst 2, 1) := by decide +kernel
theorem dX9_reason_152 : decode cX9_reason 152 = .ok (.idiv, 1) := by decide +kernel
theorem dX9_reason_153 : decode cX9_reason 153 = .ok (.aload_n 0, 1) := by decide +kernel
theorem dX9_reason_154 : decode cX9_reason 154 = .ok (.getfield 28, 3) := by decide +kernel
theorem dX9_reason_157 : decode cX9_reason 157 = .ok (.iload_n 1, 1) := by decide +kernel
theorem dX9_reason_158 : decode cX9_reason 158 = .ok (.iaload, 1) := by decide +kernel
theorem dX9_reason_159 : decode cX9_reason 159 = .ok (.iadd, 1) := by decide +kernel
theorem dX9_reason_160 : decode cX9_reason 160 = .ok (.if_icmp .ge 7, 3) := by decide +kernel
theorem dX9_reason_163 : decode cX9_reason 163 = .ok (.iconst 1, 1) := by decide +kernel
theorem dX9_reason_164 : decode cX9_reason 164 = .ok (.goto 4, 3) := by decide +kernel
theorem dX9_reason_167 : decode cX9_reason 167 = .ok (.iconst 0, 1) := by decide +kernel
theorem dX9_reason_168 : decode cX9_reason 168 = .ok (.istore 5, 2) := by decide +kernel
theorem dX9_reason_170 : decode cX9_reason 170 = .ok (.iload 6, 2) := by decide +kernel
theorem dX9_reason_172 : decode cX9_reason 172 = .ok (.ifCond .eq 20, 3) := by decide +kernel
theorem dX9_reason_175 : decode cX9_reason 175 = .ok (.aload_n 0, 1) := by decide +kernel
theorem dX9_reason_176 : decode cX9_reason 176 = .ok (.getfield 166, 3) := by decide +kernel
theorem dX9_reason_179 : decode cX9_reason 179 = .ok (.aload_n 0, 1) := by decide +kernel
theorem dX9_reason_180 : decode cX9_reason 180 = .ok (.getfield 58, 3) := by decide +kernel
theorem dX9_reason_183 : decode cX9_reason 183 = .ok (.iload_n 2, 1) := by decide +kernel
theorem dX9_reason_184 : decode cX9_reason 184 = .ok (.iaload, 1) := by decide +kernel
theorem dX9_reason_185 : decode cX9_reason 185 = .ok (.if_icmp .le 7, 3) := by decide +kernel
theorem dX9_reason_188 : decode cX9_reason 188 = .ok (.iconst 1, 1) := by decide +kernel
theorem dX9_reason_189 : decode cX9_reason 189 = .ok (.goto 4, 3) := by decide +kernel
theorem dX9_reason_192 : decode cX9_reason 192 = .ok (.iconst 0, 1) := by decide +kernel
theorem dX9_reason_193 : decode cX9_reason 193 = .ok (.istore 6, 2) := by decide +kernel
theorem dX9_reason_195 : decode cX9_reason 195 = .ok (.iinc 9 2, 3) := by decide +kernel
theorem dX9_reason_198 : decode cX9_reason 198 = .ok (.goto (-183), 3) := by decide +kernel
theorem dX9_reason_201 : decode cX9_reason 201 = .ok (.iload 5, 2) := by decide +kernel
theorem dX9_reason_203 : decode cX9_reason 203 = .ok (.ifCond .eq 7, 3) := by decide +kernel
theorem dX9_reason_206 : decode cX9_reason 206 = .ok (.iconst 1, 1) := by decide +kernel
theorem dX9_reason_207 : decode cX9_reason 207 = .ok (.goto 31, 3) := by decide +kernel
theorem dX9_reason_210 : decode cX9_reason 210 = .ok (.iload 6, 2) := by decide +kernel
theorem dX9_reason_212 : decode cX9_reason 212 = .ok (.ifCond .eq 7, 3) := by decide +kernel
theorem dX9_reason_215 : decode cX9_reason 215 = .ok (.iconst 2, 1) := by decide +kernel
theorem dX9_reason_216 : decode cX9_reason 216 = .ok (.goto 22, 3) := by decide +kernel
theorem dX9_reason_219 : decode cX9_reason 219 = .ok (.iload 7, 2) := by decide +kernel
theorem dX9_reason_221 : decode cX9_reason 221 = .ok (.ifCond .eq 7, 3) := by decide +kernel
theorem dX9_reason_224 : decode cX9_reason 224 = .ok (.iconst 3, 1) := by decide +kernel
theorem dX9_reason_225 : decode cX9_reason 225 = .ok (.goto 13, 3) := by decide +kernel
theorem dX9_reason_228 : decode cX9_reason 228 = .ok (.iload 8, 2) := by decide +kernel
theorem dX9_reason_230 : decode cX9_reason 230 = .ok (.ifCond .eq 7, 3) := by decide +kernel
theorem dX9_reason_233 : decode cX9_reason 233 = .ok (.iconst 4, 1) := by decide +kernel
theorem dX9_reason_234 : decode cX9_reason 234 = .ok (.goto 4, 3) := by decide +kernel
theorem dX9_reason_237 : decode cX9_reason 237 = .ok (.iconst 0, 1) := by decide +kernel
theorem dX9_reason_238 : decode cX9_reason 238 = .ok (.ireturn, 1) := by decide +kernel
theorem dX9_isDone_0 : decode cX9_isDone 0 = .ok (.iload_n 2, 1) := by decide +kernel
theorem dX9_isDone_1 : decode cX9_isDone 1 = .ok (.ifCond .lt 29, 3) := by decide +kernel
theorem dX9_isDone_4 : decode cX9_isDone 4 = .ok (.iload_n 2, 1) := by decide +kernel
theorem dX9_isDone_5 : decode cX9_isDone 5 = .ok (.iconst 1, 1) := by decide +kernel
theorem dX9_isDone_6 : decode cX9_isDone 6 = .ok (.aload_n 0, 1) := by decide +kernel
theorem dX9_isDone_7 : decode cX9_isDone 7 = .ok (.getfield 16, 3) := by decide +kernel
theorem dX9_isDone_10 : decode cX9_isDone 10 = .ok (.iload_n 1, 1) := by decide +kernel
theorem dX9_isDone_11 : decode cX9_isDone 11 = .ok (.iaload, 1) := by decide +kernel
theorem dX9_isDone_12 : decode cX9_isDone 12 = .ok (.iconst 1, 1) := by decide +kernel
theorem dX9_isDone_13 : decode cX9_isDone 13 = .ok (.isub, 1) := by decide +kernel
theorem dX9_isDone_14 : decode cX9_isDone 14 = .ok (.ishl, 1) := by decide +kernel
theorem dX9_isDone_15 : decode cX9_isDone 15 = .ok (.if_icmp .ge 15, 3) := by decide +kernel
theorem dX9_isDone_18 : decode cX9_isDone 18 = .ok (.iload_n 2, 1) := by decide +kernel
theorem dX9_isDone_19 : decode cX9_isDone 19 = .ok (.iload_n 3, 1) := by decide +kernel
theorem dX9_isDone_20 : decode cX9_isDone 20 = .ok (.ishr, 1) := by decide +kernel
theorem dX9_isDone_21 : decode cX9_isDone 21 = .ok (.iconst 1, 1) := by decide +kernel
theorem dX9_isDone_22 : decode cX9_isDone 22 = .ok (.iand, 1) := by decide +kernel
theorem dX9_isDone_23 : decode cX9_isDone 23 = .ok (.ifCond .ne 7, 3) := by decide +kernel
theorem dX9_isDone_26 : decode cX9_isDone 26 = .ok (.iconst 1, 1) := by decide +kernel
theorem dX9_isDone_27 : decode cX9_isDone 27 = .ok (.goto 4, 3) := by decide +kernel
theorem dX9_isDone_30 : decode cX9_isDone 30 = .ok (.iconst 0, 1) := by decide +kernel
theorem dX9_isDone_31 : decode cX9_isDone 31 = .ok (.ireturn, 1) := by decide +kernel
theorem dX9_why_0 : decode cX9_why 0 = .ok (.aload_n 0, 1) := by decide +kernel
theorem dX9_why_1 : decode cX9_why 1 = .ok (.iload_n 1, 1) := by decide +kernel
theorem dX9_why_2 : decode cX9_why 2 = .ok (.invokevirtual 138, 3) := by decide +kernel
theorem dX9_why_5 : decode cX9_why 5 = .ok (.ifCond .eq 32, 3) := by decide +kernel
theorem dX9_why_8 : decode cX9_why 8 = .ok (.aload_n 0, 1) := by decide +kernel
theorem dX9_why_9 : decode cX9_why 9 = .ok (.iload_n 2, 1) := by decide +kernel
theorem dX9_why_10 : decode cX9_why 10 = .ok (.invokevirtual 151, 3) := by decide +kernel
theorem dX9_why_13 : decode cX9_why 13 = .ok (.ifCond .eq 24, 3) := by decide +kernel
theorem dX9_why_16 : decode cX9_why 16 = .ok (.iload 4, 2) := by decide +kernel
theorem dX9_why_18 : decode cX9_why 18 = .ok (.iconst 0, 1) := by decide +kernel
theorem dX9_why_19 : decode cX9_why 19 = .ok (.aload_n 0, 1) := by decide +kernel
theorem dX9_why_20 : decode cX9_why 20 = .ok (.getfield 16, 3) := by decide +kernel
theorem dX9_why_23 : decode cX9_why 23 = .ok (.iload_n 1, 1) := by decide +kernel
theorem dX9_why_24 : decode cX9_why 24 = .ok (.iaload, 1) := by decide +kernel
theorem dX9_why_25 : decode cX9_why 25 = .ok (.iconst 2, 1) := by decide +kernel
theorem dX9_why_26 : decode cX9_why 26 = .ok (.isub, 1) := by decide +kernel
theorem dX9_why_27 : decode cX9_why 27 = .ok (.invokestatic 113, 3) := by decide +kernel
theorem dX9_why_30 : decode cX9_why 30 = .ok (.ifCond .eq 7, 3) := by decide +kernel
theorem dX9_why_33 : decode cX9_why 33 = .ok (.iconst 1, 1) := by decide +kernel
theorem dX9_why_34 : decode cX9_why 34 = .ok (.goto 4, 3) := by decide +kernel
theorem dX9_why_37 : decode cX9_why 37 = .ok (.iconst 0, 1) := by decide +kernel
theorem dX9_why_38 : decode cX9_why 38 = .ok (.istore 5, 2) := by decide +kernel
theorem dX9_why_40 : decode cX9_why 40 = .ok (.aload_n 0, 1) := by decide +kernel
theorem dX9_why_41 : decode cX9_why 41 = .ok (.iload 5, 2) := by decide +kernel
theorem dX9_why_43 : decode cX9_why 43 = .ok (.ifCond .ne 7, 3) := by decide +kernel
theorem dX9_why_46 : decode cX9_why 46 = .ok (.iconst 1, 1) := by decide +kernel
theorem dX9_why_47 : decode cX9_why 47 = .ok (.goto 19, 3) := by decide +kernel
theorem dX9_why_50 : decode cX9_why 50 = .ok (.aload_n 0, 1) := by decide +kernel
theorem dX9_why_51 : decode cX9_why 51 = .ok (.iload_n 1, 1) := by decide +kernel
theorem dX9_why_52 : decode cX9_why 52 = .ok (.iload_n 3, 1) := by decide +kernel
theorem dX9_why_53 : decode cX9_why 53 = .ok (.iload 4, 2) := by decide +kernel
theorem dX9_why_55 : decode cX9_why 55 = .ok (.invokevirtual 184, 3) := by decide +kernel
theorem dX9_why_58 : decode cX9_why 58 = .ok (.ifCond .eq 7, 3) := by decide +kernel
theorem dX9_why_61 : decode cX9_why 61 = .ok (.iconst 0, 1) := by decide +kernel
theorem dX9_why_62 : decode cX9_why 62 = .ok (.goto 4, 3) := by decide +kernel
theorem dX9_why_65 : decode cX9_why 65 = .ok (.iconst 2, 1) := by decide +kernel
theorem dX9_why_66 : decode cX9_why 66 = .ok (.invokevirtual 126, 3) := by decide +kernel
theorem dX9_why_69 : decode cX9_why 69 = .ok (.ifCond .eq 15, 3) := by decide +kernel
theorem dX9_why_72 : decode cX9_why 72 = .ok (.aload_n 0, 1) := by decide +kernel
theorem dX9_why_73 : decode cX9_why 73 = .ok (.iload_n 1, 1) := by decide +kernel
theorem dX9_why_74 : decode cX9_why 74 = .ok (.iload_n 2, 1) := by decide +kernel
theorem dX9_why_75 : decode cX9_why 75 = .ok (.iload_n 3, 1) := by decide +kernel
theorem dX9_why_76 : decode cX9_why 76 = .ok (.iload 4, 2) := by decide +kernel
theorem dX9_why_78 : decode cX9_why 78 = .ok (.invokevirtual 187, 3) := by decide +kernel
theorem dX9_why_81 : decode cX9_why 81 = .ok (.goto 4, 3) := by decide +kernel
theorem dX9_why_84 : decode cX9_why 84 = .ok (.iconst 0, 1) := by decide +kernel
theorem dX9_why_85 : decode cX9_why 85 = .ok (.ireturn, 1) := by decide +kernel
theorem dX9_point_0 : decode cX9_point 0 = .ok (.aload_n 0, 1) := by decide +kernel
theorem dX9_point_1 : decode cX9_point 1 = .ok (.iload_n 1, 1) := by decide +kernel
theorem dX9_point_2 : decode cX9_point 2 = .ok (.invokevirtual 138, 3) := by decide +kernel
theorem dX9_point_5 : decode cX9_point 5 = .ok (.ifCond .eq 50, 3) := by decide +kernel
theorem dX9_point_8 : decode cX9_point 8 = .ok (.iload_n 3, 1) := by decide +kernel
theorem dX9_point_9 : decode cX9_point 9 = .ok (.iconst 0, 1) := by decide +kernel
theorem dX9_point_10 : decode cX9_point 10 = .ok (.aload_n 0, 1) := by decide +kernel
theorem dX9_point_11 : decode cX9_point 11 = .ok (.getfield 16, 3) := by decide +kernel
theorem dX9_point_14 : decode cX9_point 14 = .ok (.iload_n 1, 1) := by decide +kernel
theorem dX9_point_15 : decode cX9_point 15 = .ok (.iaload, 1) := by decide +kernel
theorem dX9_point_16 : decode cX9_point 16 = .ok (.iconst 2, 1) := by decide +kernel
theorem dX9_point_17 : decode cX9_point 17 = .ok (.isub, 1) := by decide +kernel
theorem dX9_point_18 : decode cX9_point 18 = .ok (.invokestatic 113, 3) := by decide +kernel
theorem dX9_point_21 : decode cX9_point 21 = .ok (.ifCond .eq 34, 3) := by decide +kernel
theorem dX9_point_24 : decode cX9_point 24 = .ok (.iload 5, 2) := by decide +kernel
theorem dX9_point_26 : decode cX9_point 26 = .ok (.iconst 0, 1) := by decide +kernel
theorem dX9_point_27 : decode cX9_point 27 = .ok (.aload_n 0, 1) := by decide +kernel
theorem dX9_point_28 : decode cX9_point 28 = .ok (.iload_n 1, 1) := by decide +kernel
theorem dX9_point_29 : decode cX9_point 29 = .ok (.iload_n 3, 1) := by decide +kernel
theorem dX9_point_30 : decode cX9_point 30 = .ok (.iload 4, 2) := by decide +kernel
theorem dX9_point_32 : decode cX9_point 32 = .ok (.ifCond .eq 7, 3) := by decide +kernel
theorem dX9_point_35 : decode cX9_point 35 = .ok (.iconst 1, 1) := by decide +kernel
theorem dX9_point_36 : decode cX9_point 36 = .ok (.goto 4, 3) := by decide +kernel
theorem dX9_point_39 : decode cX9_point 39 = .ok (.iconst (-1), 1) := by decide +kernel
theorem dX9_point_40 : decode cX9_point 40 = .ok (.invokevirtual 176, 3) := by decide +kernel
theorem dX9_point_43 : decode cX9_point 43 = .ok (.iconst 1, 1) := by decide +kernel
theorem dX9_point_44 : decode cX9_point 44 = .ok (.isub, 1) := by decide +kernel
theorem dX9_point_45 : decode cX9_point 45 = .ok (.invokestatic 113, 3) := by decide +kernel
theorem dX9_point_48 : decode cX9_point 48 = .ok (.ifCond .eq 7, 3) := by decide +kernel
theorem dX9_point_51 : decode cX9_point 51 = .ok (.iconst 1, 1) := by decide +kernel
theorem dX9_point_52 : decode cX9_point 52 = .ok (.goto 4, 3) := by decide +kernel
theorem dX9_point_55 : decode cX9_point 55 = .ok (.iconst 0, 1) := by decide +kernel
theorem dX9_point_56 : decode cX9_point 56 = .ok (.istore 7, 2) := by decide +kernel
theorem dX9_point_58 : decode cX9_point 58 = .ok (.aload_n 0, 1) := by decide +kernel
theorem dX9_point_59 : decode cX9_point 59 = .ok (.iload 7, 2) := by decide +kernel
theorem dX9_point_61 : decode cX9_point 61 = .ok (.ifCond .ne 7, 3) := by decide +kernel
theorem dX9_point_64 : decode cX9_point 64 = .ok (.iconst 1, 1) := by decide +kernel
theorem dX9_point_65 : decode cX9_point 65 = .ok (.goto 18, 3) := by decide +kernel
theorem dX9_point_68 : decode cX9_point 68 = .ok (.aload_n 0, 1) := by decide +kernel
theorem dX9_point_69 : decode cX9_point 69 = .ok (.iload_n 1, 1) := by decide +kernel
theorem dX9_point_70 : decode cX9_point 70 = .ok (.iload_n 2, 1) := by decide +kernel
theorem dX9_point_71 : decode cX9_point 71 = .ok (.iload_n 3, 1) := by decide +kernel
theorem dX9_point_72 : decode cX9_point 72 = .ok (.invokevirtual 184, 3) := by decide +kernel
theorem dX9_point_75 : decode cX9_point 75 = .ok (.ifCond .eq 7, 3) := by decide +kernel
theorem dX9_point_78 : decode cX9_point 78 = .ok (.iconst 0, 1) := by decide +kernel
theorem dX9_point_79 : decode cX9_point 79 = .ok (.goto 4, 3) := by decide +kernel
theorem dX9_point_82 : decode cX9_point 82 = .ok (.iconst 2, 1) := by decide +kernel
theorem dX9_point_83 : decode cX9_point 83 = .ok (.invokevirtual 126, 3) := by decide +kernel
theorem dX9_point_86 : decode cX9_point 86 = .ok (.ifCond .ne 5, 3) := by decide +kernel
theorem dX9_point_89 : decode cX9_point 89 = .ok (.iconst 0, 1) := by decide +kernel
theorem dX9_point_90 : decode cX9_point 90 = .ok (.ireturn, 1) := by decide +kernel
theorem dX9_point_91 : decode cX9_point 91 = .ok (.aload_n 0, 1) := by decide +kernel
theorem dX9_point_92 : decode cX9_point 92 = .ok (.invokevirtual 173, 3) := by decide +kernel
theorem dX9_point_95 : decode cX9_point 95 = .ok (.iconst 0, 1) := by decide +kernel
theorem dX9_point_96 : decode cX9_point 96 = .ok (.istore 8, 2) := by decide +kernel
theorem dX9_point_98 : decode cX9_point 98 = .ok (.iload 8, 2) := by decide +kernel
theorem dX9_point_100 : decode cX9_point 100 = .ok (.iload 5, 2) := by decide +kernel
theorem dX9_point_102 : decode cX9_point 102 = .ok (.if_icmp .gt 28, 3) := by decide +kernel
theorem dX9_point_105 : decode cX9_point 105 = .ok (.aload_n 0, 1) := by decide +kernel
theorem dX9_point_106 : decode cX9_point 106 = .ok (.iload_n 1, 1) := by decide +kernel
theorem dX9_point_107 : decode cX9_point 107 = .ok (.iload_n 2, 1) := by decide +kernel
theorem dX9_point_108 : decode cX9_point 108 = .ok (.iload_n 3, 1) := by decide +kernel
theorem dX9_point_109 : decode cX9_point 109 = .ok (.iload 4, 2) := by decide +kernel
theorem dX9_point_111 : decode cX9_point 111 = .ok (.ifCond .eq 7, 3) := by decide +kernel
theorem dX9_point_114 : decode cX9_point 114 = .ok (.iconst 1, 1) := by decide +kernel
theorem dX9_point_115 : decode cX9_point 115 = .ok (.goto 4, 3) := by decide +kernel
theorem dX9_point_118 : decode cX9_point 118 = .ok (.iconst (-1), 1) := by decide +kernel
theorem dX9_point_119 : decode cX9_point 119 = .ok (.iload 8, 2) := by decide +kernel
theorem dX9_point_121 : decode cX9_point 121 = .ok (.invokevirtual 180, 3) := by decide +kernel
theorem dX9_point_124 : decode cX9_point 124 = .ok (.iinc 8 1, 3) := by decide +kernel
theorem dX9_point_127 : decode cX9_point 127 = .ok (.goto (-29), 3) := by decide +kernel
theorem dX9_point_130 : decode cX9_point 130 = .ok (.iload 6, 2) := by decide +kernel
theorem dX9_point_132 : decode cX9_point 132 = .ok (.ifCond .eq 10, 3) := by decide +kernel
theorem dX9_point_135 : decode cX9_point 135 = .ok (.aload_n 0, 1) := by decide +kernel
theorem dX9_point_136 : decode cX9_point 136 = .ok (.getfield 157, 3) := by decide +kernel
theorem dX9_point_139 : decode cX9_point 139 = .ok (.goto 7, 3) := by decide +kernel
theorem dX9_point_142 : decode cX9_point 142 = .ok (.aload_n 0, 1) := by decide +kernel
theorem dX9_point_143 : decode cX9_point 143 = .ok (.getfield 154, 3) := by decide +kernel
theorem dX9_point_146 : decode cX9_point 146 = .ok (.ireturn, 1) := by decide +kernel
theorem dX9_findOrders_0 : decode cX9_findOrders 0 = .ok (.aload_n 0, 1) := by decide +kernel
theorem dX9_findOrders_1 : decode cX9_findOrders 1 = .ok (.getfield 16, 3) := by decide +kernel
theorem dX9_findOrders_4 : decode cX9_findOrders 4 = .ok (.iload_n 1, 1) := by decide +kernel
theorem dX9_findOrders_5 : decode cX9_findOrders 5 = .ok (.iaload, 1) := by decide +kernel
theorem dX9_findOrders_6 : decode cX9_findOrders 6 = .ok (.iconst 1, 1) := by decide +kernel
theorem dX9_findOrders_7 : decode cX9_findOrders 7 = .ok (.isub, 1) := by decide +kernel
theorem dX9_findOrders_8 : decode cX9_findOrders 8 = .ok (.istore_n 3, 1) := by decide +kernel
theorem dX9_findOrders_9 : decode cX9_findOrders 9 = .ok (.iconst 1, 1) := by decide +kernel
theorem dX9_findOrders_10 : decode cX9_findOrders 10 = .ok (.iload_n 3, 1) := by decide +kernel
theorem dX9_findOrders_11 : decode cX9_findOrders 11 = .ok (.ishl, 1) := by decide +kernel
theorem dX9_findOrders_12 : decode cX9_findOrders 12 = .ok (.iconst 1, 1) := by decide +kernel
theorem dX9_findOrders_13 : decode cX9_findOrders 13 = .ok (.isub, 1) := by decide +kernel
theorem dX9_findOrders_14 : decode cX9_findOrders 14 = .ok (.istore 4, 2) := by decide +kernel
theorem dX9_findOrders_16 : decode cX9_findOrders 16 = .ok (.iload 4, 2) := by decide +kernel
theorem dX9_findOrders_18 : decode cX9_findOrders 18 = .ok (.ifCond .lt 199, 3) := by decide +kernel
theorem dX9_findOrders_21 : decode cX9_findOrders 21 = .ok (.iconst 0, 1) := by decide +kernel
theorem dX9_findOrders_22 : decode cX9_findOrders 22 = .ok (.istore 5, 2) := by decide +kernel
theorem dX9_findOrders_24 : decode cX9_findOrders 24 = .ok (.iload 5, 2) := by decide +kernel
theorem dX9_findOrders_26 : decode cX9_findOrders 26 = .ok (.bipush 7, 2) := by decide +kernel
theorem dX9_findOrders_28 : decode cX9_findOrders 28 = .ok (.if_icmp .ge 38, 3) := by decide +kernel
theorem dX9_findOrders_31 : decode cX9_findOrders 31 = .ok (.aload_n 0, 1) := by decide +kernel
theorem dX9_findOrders_32 : decode cX9_findOrders 32 = .ok (.getfield 85, 3) := by decide +kernel
theorem dX9_findOrders_35 : decode cX9_findOrders 35 = .ok (.bipush 7, 2) := by decide +kernel
theorem dX9_findOrders_37 : decode cX9_findOrders 37 = .ok (.iload 4, 2) := by decide +kernel
theorem dX9_findOrders_39 : decode cX9_findOrders 39 = .ok (.imul, 1) := by decide +kernel
theorem dX9_findOrders_40 : decode cX9_findOrders 40 = .ok (.iload 5, 2) := by decide +kernel
theorem dX9_findOrders_42 : decode cX9_findOrders 42 = .ok (.iadd, 1) := by decide +kernel
theorem dX9_findOrders_43 : decode cX9_findOrders 43 = .ok (.iload 4, 2) := by decide +kernel
theorem dX9_findOrders_45 : decode cX9_findOrders 45 = .ok (.iconst 1, 1) := by decide +kernel
theorem dX9_findOrders_46 : decode cX9_findOrders 46 = .ok (.iload_n 3, 1) := by decide +kernel
theorem dX9_findOrders_47 : decode cX9_findOrders 47 = .ok (.ishl, 1) := by decide +kernel
theorem dX9_findOrders_48 : decode cX9_findOrders 48 = .ok (.iconst 1, 1) := by decide +kernel
theorem dX9_findOrders_49 : decode cX9_findOrders 49 = .ok (.isub, 1) := by decide +kernel
theorem dX9_findOrders_50 : decode cX9_findOrders 50 = .ok (.if_icmp .ne 7, 3) := by decide +kernel
theorem dX9_findOrders_53 : decode cX9_findOrders 53 = .ok (.iconst 0, 1) := by decide +kernel
theorem dX9_findOrders_54 : decode cX9_findOrders 54 = .ok (.goto 5, 3) := by decide +kernel
theorem dX9_findOrders_57 : decode cX9_findOrders 57 = .ok (.bipush 99, 2) := by decide +kernel
theorem dX9_findOrders_59 : decode cX9_findOrders 59 = .ok (.iastore, 1) := by decide +kernel
theorem dX9_findOrders_60 : decode cX9_findOrders 60 = .ok (.iinc 5 1, 3) := by decide +kernel
theorem dX9_findOrders_63 : decode cX9_findOrders 63 = .ok (.goto (-39), 3) := by decide +kernel
theorem dX9_findOrders_66 : decode cX9_findOrders 66 = .ok (.iconst 0, 1) := by decide +kernel
theorem dX9_findOrders_67 : decode cX9_findOrders 67 = .ok (.istore 5, 2) := by decide +kernel
theorem dX9_findOrders_69 : decode cX9_findOrders 69 = .ok (.iload 5, 2) := by decide +kernel
theorem dX9_findOrders_71 : decode cX9_findOrders 71 = .ok (.iload_n 3, 1) := by decide +kernel
theorem dX9_findOrders_72 : decode cX9_findOrders 72 = .ok (.if_icmp .ge 139, 3) := by decide +kernel
theorem dX9_findOrders_75 : decode cX9_findOrders 75 = .ok (.iload 4, 2) := by decide +kernel
theorem dX9_findOrders_77 : decode cX9_findOrders 77 = .ok (.iload 5, 2) := by decide +kernel
theorem dX9_findOrders_79 : decode cX9_findOrders 79 = .ok (.ishr, 1) := by decide +kernel
theorem dX9_findOrders_80 : decode cX9_findOrders 80 = .ok (.iconst 1, 1) := by decide +kernel
theorem dX9_findOrders_81 : decode cX9_findOrders 81 = .ok (.iand, 1) := by decide +kernel
theorem dX9_findOrders_82 : decode cX9_findOrders 82 = .ok (.ifCond .ne 20, 3) := by decide +kernel
theorem dX9_findOrders_85 : decode cX9_findOrders 85 = .ok (.aload_n 0, 1) := by decide +kernel
theorem dX9_findOrders_86 : decode cX9_findOrders 86 = .ok (.iload_n 1, 1) := by decide +kernel
theorem dX9_findOrders_87 : decode cX9_findOrders 87 = .ok (.iload_n 2, 1) := by decide +kernel
theorem dX9_findOrders_88 : decode cX9_findOrders 88 = .ok (.iload 4, 2) := by decide +kernel
theorem dX9_findOrders_90 : decode cX9_findOrders 90 = .ok (.iload 5, 2) := by decide +kernel
theorem dX9_findOrders_92 : decode cX9_findOrders 92 = .ok (.invokevirtual 187, 3) := by decide +kernel
theorem dX9_findOrders_95 : decode cX9_findOrders 95 = .ok (.ifCond .ne 7, 3) := by decide +kernel
theorem dX9_findOrders_98 : decode cX9_findOrders 98 = .ok (.iconst 1, 1) := by decide +kernel
theorem dX9_findOrders_99 : decode cX9_findOrders 99 = .ok (.goto 4, 3) := by decide +kernel
theorem dX9_findOrders_102 : decode cX9_findOrders 102 = .ok (.iconst 0, 1) := by decide +kernel
theorem dX9_findOrders_103 : decode cX9_findOrders 103 = .ok (.istore 6, 2) := by decide +kernel
theorem dX9_findOrders_105 : decode cX9_findOrders 105 = .ok (.iconst 0, 1) := by decide +kernel
theorem dX9_findOrders_106 : decode cX9_findOrders 106 = .ok (.istore 7, 2) := by decide +kernel
theorem dX9_findOrders_108 : decode cX9_findOrders 108 = .ok (.iload 7, 2) := by decide +kernel
theorem dX9_findOrders_110 : decode cX9_findOrders 110 = .ok (.bipush 7, 2) := by decide +kernel
theorem dX9_findOrders_112 : decode cX9_findOrders 112 = .ok (.if_icmp .ge 93, 3) := by decide +kernel
theorem dX9_findOrders_115 : decode cX9_findOrders 115 = .ok (.iload 6, 2) := by decide +kernel
theorem dX9_findOrders_117 : decode cX9_findOrders 117 = .ok (.ifCond .eq 88, 3) := by decide +kernel
theorem dX9_findOrders_120 : decode cX9_findOrders 120 = .ok (.aload_n 0, 1) := by decide +kernel
theorem dX9_findOrders_121 : decode cX9_findOrders 121 = .ok (.iload_n 1, 1) := by decide +kernel
theorem dX9_findOrders_122 : decode cX9_findOrders 122 = .ok (.iload 7, 2) := by decide +kernel
theorem dX9_findOrders_124 : decode cX9_findOrders 124 = .ok (.iload 5, 2) := by decide +kernel
theorem dX9_findOrders_126 : decode cX9_findOrders 126 = .ok (.invokevirtual 191, 3) := by decide +kernel
theorem dX9_findOrders_129 : decode cX9_findOrders 129 = .ok (.aload_n 0, 1) := by decide +kernel
theorem dX9_findOrders_130 : decode cX9_findOrders 130 = .ok (.getfield 85, 3) := by decide +kernel
theorem dX9_findOrders_133 : decode cX9_findOrders 133 = .ok (.bipush 7, 2) := by decide +kernel
theorem dX9_findOrders_135 : decode cX9_findOrders 135 = .ok (.iload 4, 2) := by decide +kernel
theorem dX9_findOrders_137 : decode cX9_findOrders 137 = .ok (.iconst 1, 1) := by decide +kernel
theorem dX9_findOrders_138 : decode cX9_findOrders 138 = .ok (.iload 5, 2) := by decide +kernel
theorem dX9_findOrders_140 : decode cX9_findOrders 140 = .ok (.ishl, 1) := by decide +kernel
theorem dX9_findOrders_141 : decode cX9_findOrders 141 = .ok (.ior, 1) := by decide +kernel
theorem dX9_findOrders_142 : decode cX9_findOrders 142 = .ok (.imul, 1) := by decide +kernel
theorem dX9_findOrders_143 : decode cX9_findOrders 143 = .ok (.iload 5, 2) := by decide +kernel
theorem dX9_findOrders_145 : decode cX9_findOrders 145 = .ok (.iadd, 1) := by decide +kernel
theorem dX9_findOrders_146 : decode cX9_findOrders 146 = .ok (.iaload, 1) := by decide +kernel
theorem dX9_findOrders_147 : decode cX9_findOrders 147 = .ok (.iadd, 1) := by decide +kernel
theorem dX9_findOrders_148 : decode cX9_findOrders 148 = .ok (.istore 8, 2) := by decide +kernel
theorem dX9_findOrders_150 : decode cX9_findOrders 150 = .ok (.aload_n 0, 1) := by decide +kernel
theorem dX9_findOrders_151 : decode cX9_findOrders 151 = .ok (.getfield 85, 3) := by decide +kernel
theorem dX9_findOrders_154 : decode cX9_findOrders 154 = .ok (.bipush 7, 2) := by decide +kernel
theorem dX9_findOrders_156 : decode cX9_findOrders 156 = .ok (.iload 4, 2) := by decide +kernel
theorem dX9_findOrders_158 : decode cX9_findOrders 158 = .ok (.imul, 1) := by decide +kernel
theorem dX9_findOrders_159 : decode cX9_findOrders 159 = .ok (.iload 7, 2) := by decide +kernel
theorem dX9_findOrders_161 : decode cX9_findOrders 161 = .ok (.iadd, 1) := by decide +kernel
theorem dX9_findOrders_162 : decode cX9_findOrders 162 = .ok (.iload 8, 2) := by decide +kernel
theorem dX9_findOrders_164 : decode cX9_findOrders 164 = .ok (.aload_n 0, 1) := by decide +kernel
theorem dX9_findOrders_165 : decode cX9_findOrders 165 = .ok (.getfield 85, 3) := by decide +kernel
theorem dX9_findOrders_168 : decode cX9_findOrders 168 = .ok (.bipush 7, 2) := by decide +kernel
theorem dX9_findOrders_170 : decode cX9_findOrders 170 = .ok (.iload 4, 2) := by decide +kernel
theorem dX9_findOrders_172 : decode cX9_findOrders 172 = .ok (.imul, 1) := by decide +kernel
theorem dX9_findOrders_173 : decode cX9_findOrders 173 = .ok (.iload 7, 2) := by decide +kernel
theorem dX9_findOrders_175 : decode cX9_findOrders 175 = .ok (.iadd, 1) := by decide +kernel
theorem dX9_findOrders_176 : decode cX9_findOrders 176 = .ok (.iaload, 1) := by decide +kernel
theorem dX9_findOrders_177 : decode cX9_findOrders 177 = .ok (.if_icmp .ge 8, 3) := by decide +kernel
theorem dX9_findOrders_180 : decode cX9_findOrders 180 = .ok (.iload 8, 2) := by decide +kernel
theorem dX9_findOrders_182 : decode cX9_findOrders 182 = .ok (.goto 16, 3) := by decide +kernel
theorem dX9_findOrders_185 : decode cX9_findOrders 185 = .ok (.aload_n 0, 1) := by decide +kernel
theorem dX9_findOrders_186 : decode cX9_findOrders 186 = .ok (.getfield 85, 3) := by decide +kernel
theorem dX9_findOrders_189 : decode cX9_findOrders 189 = .ok (.bipush 7, 2) := by decide +kernel
theorem dX9_findOrders_191 : decode cX9_findOrders 191 = .ok (.iload 4, 2) := by decide +kernel
theorem dX9_findOrders_193 : decode cX9_findOrders 193 = .ok (.imul, 1) := by decide +kernel
theorem dX9_findOrders_194 : decode cX9_findOrders 194 = .ok (.iload 7, 2) := by decide +kernel
theorem dX9_findOrders_196 : decode cX9_findOrders 196 = .ok (.iadd, 1) := by decide +kernel
theorem dX9_findOrders_197 : decode cX9_findOrders 197 = .ok (.iaload, 1) := by decide +kernel
theorem dX9_findOrders_198 : decode cX9_findOrders 198 = .ok (.iastore, 1) := by decide +kernel
theorem dX9_findOrders_199 : decode cX9_findOrders 199 = .ok (.iinc 7 1, 3) := by decide +kernel
theorem dX9_findOrders_202 : decode cX9_findOrders 202 = .ok (.goto (-94), 3) := by decide +kernel
theorem dX9_findOrders_205 : decode cX9_findOrders 205 = .ok (.iinc 5 1, 3) := by decide +kernel
theorem dX9_findOrders_208 : decode cX9_findOrders 208 = .ok (.goto (-139), 3) := by decide +kernel
theorem dX9_findOrders_211 : decode cX9_findOrders 211 = .ok (.iinc 4 (-1), 3) := by decide +kernel
theorem dX9_findOrders_214 : decode cX9_findOrders 214 = .ok (.goto (-198), 3) := by decide +kernel
theorem dX9_findOrders_217 : decode cX9_findOrders 217 = .ok (.return_, 1) := by decide +kernel
theorem dX9_turn_0 : decode cX9_turn 0 = .ok (.iload_n 2, 1) := by decide +kernel
theorem dX9_turn_1 : decode cX9_turn 1 = .ok (.aload_n 0, 1) := by decide +kernel
theorem dX9_turn_2 : decode cX9_turn 2 = .ok (.getfield 16, 3) := by decide +kernel
theorem dX9_turn_5 : decode cX9_turn 5 = .ok (.iload_n 1, 1) := by decide +kernel
theorem dX9_turn_6 : decode cX9_turn 6 = .ok (.iaload, 1) := by decide +kernel
theorem dX9_turn_7 : decode cX9_turn 7 = .ok (.iconst 1, 1) := by decide +kernel
theorem dX9_turn_8 : decode cX9_turn 8 = .ok (.isub, 1) := by decide +kernel
theorem dX9_turn_9 : decode cX9_turn 9 = .ok (.if_icmp .ge 32, 3) := by decide +kernel
theorem dX9_turn_12 : decode cX9_turn 12 = .ok (.aload_n 0, 1) := by decide +kernel
theorem dX9_turn_13 : decode cX9_turn 13 = .ok (.getfield 22, 3) := by decide +kernel
theorem dX9_turn_16 : decode cX9_turn 16 = .ok (.bipush 6, 2) := by decide +kernel
theorem dX9_turn_18 : decode cX9_turn 18 = .ok (.iload_n 1, 1) := by decide +kernel
theorem dX9_turn_19 : decode cX9_turn 19 = .ok (.imul, 1) := by decide +kernel
theorem dX9_turn_20 : decode cX9_turn 20 = .ok (.iload_n 2, 1) := by decide +kernel
theorem dX9_turn_21 : decode cX9_turn 21 = .ok (.iadd, 1) := by decide +kernel
theorem dX9_turn_22 : decode cX9_turn 22 = .ok (.iaload, 1) := by decide +kernel
theorem dX9_turn_23 : decode cX9_turn 23 = .ok (.aload_n 0, 1) := by decide +kernel
theorem dX9_turn_24 : decode cX9_turn 24 = .ok (.getfield 22, 3) := by decide +kernel
theorem dX9_turn_27 : decode cX9_turn 27 = .ok (.bipush 6, 2) := by decide +kernel
theorem dX9_turn_29 : decode cX9_turn 29 = .ok (.iload_n 1, 1) := by decide +kernel
theorem dX9_turn_30 : decode cX9_turn 30 = .ok (.imul, 1) := by decide +kernel
theorem dX9_turn_31 : decode cX9_turn 31 = .ok (.iload_n 3, 1) := by decide +kernel
theorem dX9_turn_32 : decode cX9_turn 32 = .ok (.iadd, 1) := by decide +kernel
theorem dX9_turn_33 : decode cX9_turn 33 = .ok (.iaload, 1) := by decide +kernel
theorem dX9_turn_34 : decode cX9_turn 34 = .ok (.if_icmp .eq 7, 3) := by decide +kernel
theorem dX9_turn_37 : decode cX9_turn 37 = .ok (.iconst 1, 1) := by decide +kernel
theorem dX9_turn_38 : decode cX9_turn 38 = .ok (.goto 4, 3) := by decide +kernel
theorem dX9_turn_41 : decode cX9_turn 41 = .ok (.iconst 0, 1) := by decide +kernel
theorem dX9_turn_42 : decode cX9_turn 42 = .ok (.ireturn, 1) := by decide +kernel
theorem dX9_turns_0 : decode cX9_turns 0 = .ok (.aload_n 0, 1) := by decide +kernel
theorem dX9_turns_1 : decode cX9_turns 1 = .ok (.iload_n 1, 1) := by decide +kernel
theorem dX9_turns_2 : decode cX9_turns 2 = .ok (.iload_n 2, 1) := by decide +kernel
theorem dX9_turns_3 : decode cX9_turns 3 = .ok (.invokevirtual 194, 3) := by decide +kernel
theorem dX9_turns_6 : decode cX9_turns 6 = .ok (.aload_n 0, 1) := by decide +kernel
theorem dX9_turns_7 : decode cX9_turns 7 = .ok (.getfield 85, 3) := by decide +kernel
theorem dX9_turns_10 : decode cX9_turns 10 = .ok (.bipush 6, 2) := by decide +kernel
theorem dX9_turns_12 : decode cX9_turns 12 = .ok (.iaload, 1) := by decide +kernel
theorem dX9_turns_13 : decode cX9_turns 13 = .ok (.bipush 99, 2) := by decide +kernel
theorem dX9_turns_15 : decode cX9_turns 15 = .ok (.if_icmp .ge 13, 3) := by decide +kernel
theorem dX9_turns_18 : decode cX9_turns 18 = .ok (.aload_n 0, 1) := by decide +kernel
theorem dX9_turns_19 : decode cX9_turns 19 = .ok (.getfield 85, 3) := by decide +kernel
theorem dX9_turns_22 : decode cX9_turns 22 = .ok (.bipush 6, 2) := by decide +kernel
theorem dX9_turns_24 : decode cX9_turns 24 = .ok (.iaload, 1) := by decide +kernel
theorem dX9_turns_25 : decode cX9_turns 25 = .ok (.goto 4, 3) := by decide +kernel
theorem dX9_turns_28 : decode cX9_turns 28 = .ok (.iconst (-1), 1) := by decide +kernel
theorem dX9_turns_29 : decode cX9_turns 29 = .ok (.ireturn, 1) := by decide +kernel
theorem dX9_flips_0 : decode cX9_flips 0 = .ok (.aload_n 0, 1) := by decide +kernel
theorem dX9_flips_1 : decode cX9_flips 1 = .ok (.aload_n 0, 1) := by decide +kernel
theorem dX9_flips_2 : decode cX9_flips 2 = .ok (.iload_n 1, 1) := by decide +kernel
theorem dX9_flips_3 : decode cX9_flips 3 = .ok (.invokevirtual 138, 3) := by decide +kernel
theorem dX9_flips_6 : decode cX9_flips 6 = .ok (.ifCond .eq 15, 3) := by decide +kernel
theorem dX9_flips_9 : decode cX9_flips 9 = .ok (.aload_n 0, 1) := by decide +kernel
theorem dX9_flips_10 : decode cX9_flips 10 = .ok (.iload_n 2, 1) := by decide +kernel
theorem dX9_flips_11 : decode cX9_flips 11 = .ok (.invokevirtual 151, 3) := by decide +kernel
theorem dX9_flips_14 : decode cX9_flips 14 = .ok (.ifCond .eq 7, 3) := by decide +kernel
theorem dX9_flips_17 : decode cX9_flips 17 = .ok (.iconst 0, 1) := by decide +kernel
theorem dX9_flips_18 : decode cX9_flips 18 = .ok (.goto 4, 3) := by decide +kernel
theorem dX9_flips_21 : decode cX9_flips 21 = .ok (.iconst 1, 1) := by decide +kernel
theorem dX9_flips_22 : decode cX9_flips 22 = .ok (.invokevirtual 126, 3) := by decide +kernel
theorem dX9_flips_25 : decode cX9_flips 25 = .ok (.ifCond .eq 12, 3) := by decide +kernel
theorem dX9_flips_28 : decode cX9_flips 28 = .ok (.aload_n 0, 1) := by decide +kernel
theorem dX9_flips_29 : decode cX9_flips 29 = .ok (.iload_n 1, 1) := by decide +kernel
theorem dX9_flips_30 : decode cX9_flips 30 = .ok (.iload_n 2, 1) := by decide +kernel
theorem dX9_flips_31 : decode cX9_flips 31 = .ok (.invokevirtual 198, 3) := by decide +kernel
theorem dX9_flips_34 : decode cX9_flips 34 = .ok (.goto 4, 3) := by decide +kernel
theorem dX9_flips_37 : decode cX9_flips 37 = .ok (.iconst 0, 1) := by decide +kernel
theorem dX9_flips_38 : decode cX9_flips 38 = .ok (.ireturn, 1) := by decide +kernel
theorem dX9_flipsAnew_0 : decode cX9_flipsAnew 0 = .ok (.aload_n 0, 1) := by decide +kernel
theorem dX9_flipsAnew_1 : decode cX9_flipsAnew 1 = .ok (.aload_n 0, 1) := by decide +kernel
theorem dX9_flipsAnew_2 : decode cX9_flipsAnew 2 = .ok (.iload_n 1, 1) := by decide +kernel
theorem dX9_flipsAnew_3 : decode cX9_flipsAnew 3 = .ok (.invokevirtual 138, 3) := by decide +kernel
theorem dX9_flipsAnew_6 : decode cX9_flipsAnew 6 = .ok (.ifCond .eq 15, 3) := by decide +kernel
theorem dX9_flipsAnew_9 : decode cX9_flipsAnew 9 = .ok (.aload_n 0, 1) := by decide +kernel
theorem dX9_flipsAnew_10 : decode cX9_flipsAnew 10 = .ok (.iload_n 2, 1) := by decide +kernel
theorem dX9_flipsAnew_11 : decode cX9_flipsAnew 11 = .ok (.invokevirtual 151, 3) := by decide +kernel
theorem dX9_flipsAnew_14 : decode cX9_flipsAnew 14 = .ok (.ifCond .eq 7, 3) := by decide +kernel
theorem dX9_flipsAnew_17 : decode cX9_flipsAnew 17 = .ok (.iconst 0, 1) := by decide +kernel
theorem dX9_flipsAnew_18 : decode cX9_flipsAnew 18 = .ok (.goto 4, 3) := by decide +kernel
theorem dX9_flipsAnew_21 : decode cX9_flipsAnew 21 = .ok (.iconst 1, 1) := by decide +kernel
theorem dX9_flipsAnew_22 : decode cX9_flipsAnew 22 = .ok (.invokevirtual 126, 3) := by decide +kernel
theorem dX9_flipsAnew_25 : decode cX9_flipsAnew 25 = .ok (.ifCond .eq 12, 3) := by decide +kernel
theorem dX9_flipsAnew_28 : decode cX9_flipsAnew 28 = .ok (.aload_n 0, 1) := by decide +kernel
theorem dX9_flipsAnew_29 : decode cX9_flipsAnew 29 = .ok (.iload_n 1, 1) := by decide +kernel
theorem dX9_flipsAnew_30 : decode cX9_flipsAnew 30 = .ok (.iload_n 2, 1) := by decide +kernel
theorem dX9_flipsAnew_31 : decode cX9_flipsAnew 31 = .ok (.invokevirtual 198, 3) := by decide +kernel
theorem dX9_flipsAnew_34 : decode cX9_flipsAnew 34 = .ok (.goto 4, 3) := by decide +kernel
theorem dX9_flipsAnew_37 : decode cX9_flipsAnew 37 = .ok (.iconst 0, 1) := by decide +kernel
theorem dX9_flipsAnew_38 : decode cX9_flipsAnew 38 = .ok (.ireturn, 1) := by decide +kernel
theorem dX9_ordered_0 : decode cX9_ordered 0 = .ok (.aload_n 0, 1) := by decide +kernel
theorem dX9_ordered_1 : decode cX9_ordered 1 = .ok (.aload_n 0, 1) := by decide +kernel
theorem dX9_ordered_2 : decode cX9_ordered 2 = .ok (.iload_n 1, 1) := by decide +kernel
theorem dX9_ordered_3 : decode cX9_ordered 3 = .ok (.invokevirtual 138, 3) := by decide +kernel
theorem dX9_ordered_6 : decode cX9_ordered 6 = .ok (.ifCond .eq 19, 3) := by decide +kernel
theorem dX9_ordered_9 : decode cX9_ordered 9 = .ok (.aload_n 0, 1) := by decide +kernel
theorem dX9_ordered_10 : decode cX9_ordered 10 = .ok (.iload_n 2, 1) := by decide +kernel
theorem dX9_ordered_11 : decode cX9_ordered 11 = .ok (.invokevirtual 151, 3) := by decide +kernel
theorem dX9_ordered_14 : decode cX9_ordered 14 = .ok (.ifCond .eq 11, 3) := by decide +kernel
theorem dX9_ordered_17 : decode cX9_ordered 17 = .ok (.iload_n 3, 1) := by decide +kernel
theorem dX9_ordered_18 : decode cX9_ordered 18 = .ok (.ifCond .lt 7, 3) := by decide +kernel
theorem dX9_ordered_21 : decode cX9_ordered 21 = .ok (.iconst 0, 1) := by decide +kernel
theorem dX9_ordered_22 : decode cX9_ordered 22 = .ok (.goto 4, 3) := by decide +kernel
theorem dX9_ordered_25 : decode cX9_ordered 25 = .ok (.iconst 1, 1) := by decide +kernel
theorem dX9_ordered_26 : decode cX9_ordered 26 = .ok (.invokevirtual 126, 3) := by decide +kernel
theorem dX9_ordered_29 : decode cX9_ordered 29 = .ok (.ifCond .ne 5, 3) := by decide +kernel
theorem dX9_ordered_32 : decode cX9_ordered 32 = .ok (.iconst 0, 1) := by decide +kernel
theorem dX9_ordered_33 : decode cX9_ordered 33 = .ok (.ireturn, 1) := by decide +kernel
theorem dX9_ordered_34 : decode cX9_ordered 34 = .ok (.aload_n 0, 1) := by decide +kernel
theorem dX9_ordered_35 : decode cX9_ordered 35 = .ok (.iload_n 1, 1) := by decide +kernel
theorem dX9_ordered_36 : decode cX9_ordered 36 = .ok (.iload_n 2, 1) := by decide +kernel
theorem dX9_ordered_37 : decode cX9_ordered 37 = .ok (.invokevirtual 198, 3) := by decide +kernel
theorem dX9_ordered_40 : decode cX9_ordered 40 = .ok (.iconst (-1), 1) := by decide +kernel
theorem dX9_ordered_41 : decode cX9_ordered 41 = .ok (.if_icmp .eq 15, 3) := by decide +kernel
theorem dX9_ordered_44 : decode cX9_ordered 44 = .ok (.iload_n 3, 1) := by decide +kernel
theorem dX9_ordered_45 : decode cX9_ordered 45 = .ok (.aload_n 0, 1) := by decide +kernel
theorem dX9_ordered_46 : decode cX9_ordered 46 = .ok (.getfield 16, 3) := by decide +kernel
theorem dX9_ordered_49 : decode cX9_ordered 49 = .ok (.iload_n 1, 1) := by decide +kernel
theorem dX9_ordered_50 : decode cX9_ordered 50 = .ok (.iaload, 1) := by decide +kernel
theorem dX9_ordered_51 : decode cX9_ordered 51 = .ok (.iconst 1, 1) := by decide +kernel
theorem dX9_ordered_52 : decode cX9_ordered 52 = .ok (.isub, 1) := by decide +kernel
theorem dX9_ordered_53 : decode cX9_ordered 53 = .ok (.if_icmp .lt 5, 3) := by decide +kernel
theorem dX9_ordered_56 : decode cX9_ordered 56 = .ok (.iconst (-1), 1) := by decide +kernel
theorem dX9_ordered_57 : decode cX9_ordered 57 = .ok (.ireturn, 1) := by decide +kernel
theorem dX9_ordered_58 : decode cX9_ordered 58 = .ok (.iconst 0, 1) := by decide +kernel
theorem dX9_ordered_59 : decode cX9_ordered 59 = .ok (.istore 4, 2) := by decide +kernel
theorem dX9_ordered_61 : decode cX9_ordered 61 = .ok (.bipush 6, 2) := by decide +kernel
theorem dX9_ordered_63 : decode cX9_ordered 63 = .ok (.istore 5, 2) := by decide +kernel
theorem dX9_ordered_65 : decode cX9_ordered 65 = .ok (.iconst 0, 1) := by decide +kernel
theorem dX9_ordered_66 : decode cX9_ordered 66 = .ok (.istore 6, 2) := by decide +kernel
theorem dX9_ordered_68 : decode cX9_ordered 68 = .ok (.iload 6, 2) := by decide +kernel
theorem dX9_ordered_70 : decode cX9_ordered 70 = .ok (.iload_n 3, 1) := by decide +kernel
theorem dX9_ordered_71 : decode cX9_ordered 71 = .ok (.if_icmp .gt 134, 3) := by decide +kernel
theorem dX9_ordered_74 : decode cX9_ordered 74 = .ok (.iconst (-1), 1) := by decide +kernel
theorem dX9_ordered_75 : decode cX9_ordered 75 = .ok (.istore 7, 2) := by decide +kernel
theorem dX9_ordered_77 : decode cX9_ordered 77 = .ok (.aload_n 0, 1) := by decide +kernel
theorem dX9_ordered_78 : decode cX9_ordered 78 = .ok (.getfield 16, 3) := by decide +kernel
theorem dX9_ordered_81 : decode cX9_ordered 81 = .ok (.iload_n 1, 1) := by decide +kernel
theorem dX9_ordered_82 : decode cX9_ordered 82 = .ok (.iaload, 1) := by decide +kernel
theorem dX9_ordered_83 : decode cX9_ordered 83 = .ok (.iconst 2, 1) := by decide +kernel
theorem dX9_ordered_84 : decode cX9_ordered 84 = .ok (.isub, 1) := by decide +kernel
theorem dX9_ordered_85 : decode cX9_ordered 85 = .ok (.istore 8, 2) := by decide +kernel
theorem dX9_ordered_87 : decode cX9_ordered 87 = .ok (.iload 8, 2) := by decide +kernel
theorem dX9_ordered_89 : decode cX9_ordered 89 = .ok (.ifCond .lt 97, 3) := by decide +kernel
theorem dX9_ordered_92 : decode cX9_ordered 92 = .ok (.iload 4, 2) := by decide +kernel
theorem dX9_ordered_94 : decode cX9_ordered 94 = .ok (.iload 8, 2) := by decide +kernel
theorem dX9_ordered_96 : decode cX9_ordered 96 = .ok (.ishr, 1) := by decide +kernel
theorem dX9_ordered_97 : decode cX9_ordered 97 = .ok (.iconst 1, 1) := by decide +kernel
theorem dX9_ordered_98 : decode cX9_ordered 98 = .ok (.iand, 1) := by decide +kernel
theorem dX9_ordered_99 : decode cX9_ordered 99 = .ok (.ifCond .ne 20, 3) := by decide +kernel
theorem dX9_ordered_102 : decode cX9_ordered 102 = .ok (.aload_n 0, 1) := by decide +kernel
theorem dX9_ordered_103 : decode cX9_ordered 103 = .ok (.iload_n 1, 1) := by decide +kernel
theorem dX9_ordered_104 : decode cX9_ordered 104 = .ok (.iload_n 2, 1) := by decide +kernel
theorem dX9_ordered_105 : decode cX9_ordered 105 = .ok (.iload 4, 2) := by decide +kernel
theorem dX9_ordered_107 : decode cX9_ordered 107 = .ok (.iload 8, 2) := by decide +kernel
theorem dX9_ordered_109 : decode cX9_ordered 109 = .ok (.invokevirtual 187, 3) := by decide +kernel
theorem dX9_ordered_112 : decode cX9_ordered 112 = .ok (.ifCond .ne 7, 3) := by decide +kernel
theorem dX9_ordered_115 : decode cX9_ordered 115 = .ok (.iconst 1, 1) := by decide +kernel
theorem dX9_ordered_116 : decode cX9_ordered 116 = .ok (.goto 4, 3) := by decide +kernel
theorem dX9_ordered_119 : decode cX9_ordered 119 = .ok (.iconst 0, 1) := by decide +kernel
theorem dX9_ordered_120 : decode cX9_ordered 120 = .ok (.istore 9, 2) := by decide +kernel
theorem dX9_ordered_122 : decode cX9_ordered 122 = .ok (.iload 9, 2) := by decide +kernel
theorem dX9_ordered_124 : decode cX9_ordered 124 = .ok (.ifCond .eq 52, 3) := by decide +kernel
theorem dX9_ordered_127 : decode cX9_ordered 127 = .ok (.aload_n 0, 1) := by decide +kernel
theorem dX9_ordered_128 : decode cX9_ordered 128 = .ok (.iload_n 1, 1) := by decide +kernel
theorem dX9_ordered_129 : decode cX9_ordered 129 = .ok (.iload 5, 2) := by decide +kernel
theorem dX9_ordered_131 : decode cX9_ordered 131 = .ok (.iload 8, 2) := by decide +kernel
theorem dX9_ordered_133 : decode cX9_ordered 133 = .ok (.invokevirtual 191, 3) := by decide +kernel
theorem dX9_ordered_136 : decode cX9_ordered 136 = .ok (.aload_n 0, 1) := by decide +kernel
theorem dX9_ordered_137 : decode cX9_ordered 137 = .ok (.getfield 85, 3) := by decide +kernel
theorem dX9_ordered_140 : decode cX9_ordered 140 = .ok (.bipush 7, 2) := by decide +kernel
theorem dX9_ordered_142 : decode cX9_ordered 142 = .ok (.iload 4, 2) := by decide +kernel
theorem dX9_ordered_144 : decode cX9_ordered 144 = .ok (.iconst 1, 1) := by decide +kernel
theorem dX9_ordered_145 : decode cX9_ordered 145 = .ok (.iload 8, 2) := by decide +kernel
theorem dX9_ordered_147 : decode cX9_ordered 147 = .ok (.ishl, 1) := by decide +kernel
theorem dX9_ordered_148 : decode cX9_ordered 148 = .ok (.ior, 1) := by decide +kernel
theorem dX9_ordered_149 : decode cX9_ordered 149 = .ok (.imul, 1) := by decide +kernel
theorem dX9_ordered_150 : decode cX9_ordered 150 = .ok (.iload 8, 2) := by decide +kernel
theorem dX9_ordered_152 : decode cX9_ordered 152 = .ok (.iadd, 1) := by decide +kernel
theorem dX9_ordered_153 : decode cX9_ordered 153 = .ok (.iaload, 1) := by decide +kernel
theorem dX9_ordered_154 : decode cX9_ordered 154 = .ok (.iadd, 1) := by decide +kernel
theorem dX9_ordered_155 : decode cX9_ordered 155 = .ok (.aload_n 0, 1) := by decide +kernel
theorem dX9_ordered_156 : decode cX9_ordered 156 = .ok (.getfield 85, 3) := by decide +kernel
theorem dX9_ordered_159 : decode cX9_ordered 159 = .ok (.bipush 7, 2) := by decide +kernel
theorem dX9_ordered_161 : decode cX9_ordered 161 = .ok (.iload 4, 2) := by decide +kernel
theorem dX9_ordered_163 : decode cX9_ordered 163 = .ok (.imul, 1) := by decide +kernel
theorem dX9_ordered_164 : decode cX9_ordered 164 = .ok (.iload 5, 2) := by decide +kernel
theorem dX9_ordered_166 : decode cX9_ordered 166 = .ok (.iadd, 1) := by decide +kernel
theorem dX9_ordered_167 : decode cX9_ordered 167 = .ok (.iaload, 1) := by decide +kernel
theorem dX9_ordered_168 : decode cX9_ordered 168 = .ok (.if_icmp .ne 8, 3) := by decide +kernel
theorem dX9_ordered_171 : decode cX9_ordered 171 = .ok (.iload 8, 2) := by decide +kernel
theorem dX9_ordered_173 : decode cX9_ordered 173 = .ok (.goto 5, 3) := by decide +kernel
theorem dX9_ordered_176 : decode cX9_ordered 176 = .ok (.iload 7, 2) := by decide +kernel
theorem dX9_ordered_178 : decode cX9_ordered 178 = .ok (.istore 7, 2) := by decide +kernel
theorem dX9_ordered_180 : decode cX9_ordered 180 = .ok (.iinc 8 (-1), 3) := by decide +kernel
theorem dX9_ordered_183 : decode cX9_ordered 183 = .ok (.goto (-96), 3) := by decide +kernel
theorem dX9_ordered_186 : decode cX9_ordered 186 = .ok (.iload 4, 2) := by decide +kernel
theorem dX9_ordered_188 : decode cX9_ordered 188 = .ok (.iconst 1, 1) := by decide +kernel
theorem dX9_ordered_189 : decode cX9_ordered 189 = .ok (.iload 7, 2) := by decide +kernel
theorem dX9_ordered_191 : decode cX9_ordered 191 = .ok (.ishl, 1) := by decide +kernel
theorem dX9_ordered_192 : decode cX9_ordered 192 = .ok (.ior, 1) := by decide +kernel
theorem dX9_ordered_193 : decode cX9_ordered 193 = .ok (.istore 4, 2) := by decide +kernel
theorem dX9_ordered_195 : decode cX9_ordered 195 = .ok (.iload 7, 2) := by decide +kernel
theorem dX9_ordered_197 : decode cX9_ordered 197 = .ok (.istore 5, 2) := by decide +kernel
theorem dX9_ordered_199 : decode cX9_ordered 199 = .ok (.iinc 6 1, 3) := by decide +kernel
theorem dX9_ordered_202 : decode cX9_ordered 202 = .ok (.goto (-134), 3) := by decide +kernel
theorem dX9_ordered_205 : decode cX9_ordered 205 = .ok (.iload 5, 2) := by decide +kernel
theorem dX9_ordered_207 : decode cX9_ordered 207 = .ok (.ireturn, 1) := by decide +kernel
theorem dX9_wanted_0 : decode cX9_wanted 0 = .ok (.iconst 0, 1) := by decide +kernel
theorem dX9_wanted_1 : decode cX9_wanted 1 = .ok (.istore_n 1, 1) := by decide +kernel
theorem dX9_wanted_2 : decode cX9_wanted 2 = .ok (.iconst 0, 1) := by decide +kernel
theorem dX9_wanted_3 : decode cX9_wanted 3 = .ok (.istore_n 2, 1) := by decide +kernel
theorem dX9_wanted_4 : decode cX9_wanted 4 = .ok (.iload_n 2, 1) := by decide +kernel
theorem dX9_wanted_5 : decode cX9_wanted 5 = .ok (.aload_n 0, 1) := by decide +kernel
theorem dX9_wanted_6 : decode cX9_wanted 6 = .ok (.getfield 110, 3) := by decide +kernel
theorem dX9_wanted_9 : decode cX9_wanted 9 = .ok (.if_icmp .ge 18, 3) := by decide +kernel
theorem dX9_wanted_12 : decode cX9_wanted 12 = .ok (.iload_n 1, 1) := by decide +kernel
theorem dX9_wanted_13 : decode cX9_wanted 13 = .ok (.aload_n 0, 1) := by decide +kernel
theorem dX9_wanted_14 : decode cX9_wanted 14 = .ok (.getfield 64, 3) := by decide +kernel
theorem dX9_wanted_17 : decode cX9_wanted 17 = .ok (.iload_n 2, 1) := by decide +kernel
theorem dX9_wanted_18 : decode cX9_wanted 18 = .ok (.iaload, 1) := by decide +kernel
theorem dX9_wanted_19 : decode cX9_wanted 19 = .ok (.iadd, 1) := by decide +kernel
theorem dX9_wanted_20 : decode cX9_wanted 20 = .ok (.istore_n 1, 1) := by decide +kernel
theorem dX9_wanted_21 : decode cX9_wanted 21 = .ok (.iinc 2 1, 3) := by decide +kernel
theorem dX9_wanted_24 : decode cX9_wanted 24 = .ok (.goto (-20), 3) := by decide +kernel
theorem dX9_wanted_27 : decode cX9_wanted 27 = .ok (.iload_n 1, 1) := by decide +kernel
theorem dX9_wanted_28 : decode cX9_wanted 28 = .ok (.ireturn, 1) := by decide +kernel
theorem dX9_want_0 : decode cX9_want 0 = .ok (.aload_n 0, 1) := by decide +kernel
theorem dX9_want_1 : decode cX9_want 1 = .ok (.iload_n 1, 1) := by decide +kernel
theorem dX9_want_2 : decode cX9_want 2 = .ok (.invokevirtual 138, 3) := by decide +kernel
theorem dX9_want_5 : decode cX9_want 5 = .ok (.istore_n 3, 1) := by decide +kernel
theorem dX9_want_6 : decode cX9_want 6 = .ok (.aload_n 0, 1) := by decide +kernel
theorem dX9_want_7 : decode cX9_want 7 = .ok (.iload_n 3, 1) := by decide +kernel
theorem dX9_want_8 : decode cX9_want 8 = .ok (.ifCond .ne 7, 3) := by decide +kernel
theorem dX9_want_11 : decode cX9_want 11 = .ok (.iconst 1, 1) := by decide +kernel
theorem dX9_want_12 : decode cX9_want 12 = .ok (.goto 33, 3) := by decide +kernel
theorem dX9_want_15 : decode cX9_want 15 = .ok (.iload_n 2, 1) := by decide +kernel
theorem dX9_want_16 : decode cX9_want 16 = .ok (.iconst 1, 1) := by decide +kernel
theorem dX9_want_17 : decode cX9_want 17 = .ok (.bipush 40, 2) := by decide +kernel
theorem dX9_want_19 : decode cX9_want 19 = .ok (.invokestatic 113, 3) := by decide +kernel
theorem dX9_want_22 : decode cX9_want 22 = .ok (.ifCond .ne 7, 3) := by decide +kernel
theorem dX9_want_25 : decode cX9_want 25 = .ok (.iconst 2, 1) := by decide +kernel
theorem dX9_want_26 : decode cX9_want 26 = .ok (.goto 19, 3) := by decide +kernel
theorem dX9_want_29 : decode cX9_want 29 = .ok (.aload_n 0, 1) := by decide +kernel
theorem dX9_want_30 : decode cX9_want 30 = .ok (.invokevirtual 201, 3) := by decide +kernel
theorem dX9_want_33 : decode cX9_want 33 = .ok (.iload_n 2, 1) := by decide +kernel
theorem dX9_want_34 : decode cX9_want 34 = .ok (.iadd, 1) := by decide +kernel
theorem dX9_want_35 : decode cX9_want 35 = .ok (.bipush 40, 2) := by decide +kernel
theorem dX9_want_37 : decode cX9_want 37 = .ok (.if_icmp .le 7, 3) := by decide +kernel
theorem dX9_want_40 : decode cX9_want 40 = .ok (.iconst 3, 1) := by decide +kernel
theorem dX9_want_41 : decode cX9_want 41 = .ok (.goto 4, 3) := by decide +kernel
theorem dX9_want_44 : decode cX9_want 44 = .ok (.iconst 0, 1) := by decide +kernel
theorem dX9_want_45 : decode cX9_want 45 = .ok (.invokevirtual 126, 3) := by decide +kernel
theorem dX9_want_48 : decode cX9_want 48 = .ok (.ifCond .ne 5, 3) := by decide +kernel
theorem dX9_want_51 : decode cX9_want 51 = .ok (.iconst 0, 1) := by decide +kernel
theorem dX9_want_52 : decode cX9_want 52 = .ok (.ireturn, 1) := by decide +kernel
theorem dX9_want_53 : decode cX9_want 53 = .ok (.aload_n 0, 1) := by decide +kernel
theorem dX9_want_54 : decode cX9_want 54 = .ok (.getfield 64, 3) := by decide +kernel
theorem dX9_want_57 : decode cX9_want 57 = .ok (.iload_n 1, 1) := by decide +kernel
theorem dX9_want_58 : decode cX9_want 58 = .ok (.dup2, 1) := by decide +kernel
theorem dX9_want_59 : decode cX9_want 59 = .ok (.iaload, 1) := by decide +kernel
theorem dX9_want_60 : decode cX9_want 60 = .ok (.iload_n 2, 1) := by decide +kernel
theorem dX9_want_61 : decode cX9_want 61 = .ok (.iadd, 1) := by decide +kernel
theorem dX9_want_62 : decode cX9_want 62 = .ok (.iastore, 1) := by decide +kernel
theorem dX9_want_63 : decode cX9_want 63 = .ok (.aload_n 0, 1) := by decide +kernel
theorem dX9_want_64 : decode cX9_want 64 = .ok (.invokevirtual 201, 3) := by decide +kernel
theorem dX9_want_67 : decode cX9_want 67 = .ok (.ireturn, 1) := by decide +kernel
theorem dX9_clear_0 : decode cX9_clear 0 = .ok (.aload_n 0, 1) := by decide +kernel
theorem dX9_clear_1 : decode cX9_clear 1 = .ok (.iconst 0, 1) := by decide +kernel
theorem dX9_clear_2 : decode cX9_clear 2 = .ok (.putfield 106, 3) := by decide +kernel
theorem dX9_clear_5 : decode cX9_clear 5 = .ok (.aload_n 0, 1) := by decide +kernel
theorem dX9_clear_6 : decode cX9_clear 6 = .ok (.invokevirtual 201, 3) := by decide +kernel
theorem dX9_clear_9 : decode cX9_clear 9 = .ok (.istore_n 1, 1) := by decide +kernel
theorem dX9_clear_10 : decode cX9_clear 10 = .ok (.iconst 0, 1) := by decide +kernel
theorem dX9_clear_11 : decode cX9_clear 11 = .ok (.istore_n 2, 1) := by decide +kernel
theorem dX9_clear_12 : decode cX9_clear 12 = .ok (.iload_n 2, 1) := by decide +kernel
theorem dX9_clear_13 : decode cX9_clear 13 = .ok (.bipush 8, 2) := by decide +kernel
theorem dX9_clear_15 : decode cX9_clear 15 = .ok (.if_icmp .ge 16, 3) := by decide +kernel
theorem dX9_clear_18 : decode cX9_clear 18 = .ok (.aload_n 0, 1) := by decide +kernel
theorem dX9_clear_19 : decode cX9_clear 19 = .ok (.getfield 64, 3) := by decide +kernel
theorem dX9_clear_22 : decode cX9_clear 22 = .ok (.iload_n 2, 1) := by decide +kernel
theorem dX9_clear_23 : decode cX9_clear 23 = .ok (.iconst 0, 1) := by decide +kernel
theorem dX9_clear_24 : decode cX9_clear 24 = .ok (.iastore, 1) := by decide +kernel
theorem dX9_clear_25 : decode cX9_clear 25 = .ok (.iinc 2 1, 3) := by decide +kernel
theorem dX9_clear_28 : decode cX9_clear 28 = .ok (.goto (-16), 3) := by decide +kernel
theorem dX9_clear_31 : decode cX9_clear 31 = .ok (.iload_n 1, 1) := by decide +kernel
theorem dX9_clear_32 : decode cX9_clear 32 = .ok (.ireturn, 1) := by decide +kernel
theorem dX9_longer_0 : decode cX9_longer 0 = .ok (.aload_n 0, 1) := by decide +kernel
theorem dX9_longer_1 : decode cX9_longer 1 = .ok (.iload_n 1, 1) := by decide +kernel
theorem dX9_longer_2 : decode cX9_longer 2 = .ok (.iload_n 2, 1) := by decide +kernel
theorem dX9_longer_3 : decode cX9_longer 3 = .ok (.invokevirtual 144, 3) := by decide +kernel
theorem dX9_longer_6 : decode cX9_longer 6 = .ok (.aload_n 0, 1) := by decide +kernel
theorem dX9_longer_7 : decode cX9_longer 7 = .ok (.getfield 25, 3) := by decide +kernel
theorem dX9_longer_10 : decode cX9_longer 10 = .ok (.iload_n 1, 1) := by decide +kernel
theorem dX9_longer_11 : decode cX9_longer 11 = .ok (.iaload, 1) := by decide +kernel
theorem dX9_longer_12 : decode cX9_longer 12 = .ok (.if_icmp .le 12, 3) := by decide +kernel
theorem dX9_longer_15 : decode cX9_longer 15 = .ok (.aload_n 0, 1) := by decide +kernel
theorem dX9_longer_16 : decode cX9_longer 16 = .ok (.iload_n 1, 1) := by decide +kernel
theorem dX9_longer_17 : decode cX9_longer 17 = .ok (.iload_n 2, 1) := by decide +kernel
theorem dX9_longer_18 : decode cX9_longer 18 = .ok (.invokevirtual 144, 3) := by decide +kernel
theorem dX9_longer_21 : decode cX9_longer 21 = .ok (.goto 9, 3) := by decide +kernel
theorem dX9_longer_24 : decode cX9_longer 24 = .ok (.aload_n 0, 1) := by decide +kernel
theorem dX9_longer_25 : decode cX9_longer 25 = .ok (.getfield 25, 3) := by decide +kernel
theorem dX9_longer_28 : decode cX9_longer 28 = .ok (.iload_n 1, 1) := by decide +kernel
theorem dX9_longer_29 : decode cX9_longer 29 = .ok (.iaload, 1) := by decide +kernel
theorem dX9_longer_30 : decode cX9_longer 30 = .ok (.ireturn, 1) := by decide +kernel
theorem dX9_shorter_0 : decode cX9_shorter 0 = .ok (.aload_n 0, 1) := by decide +kernel
theorem dX9_shorter_1 : decode cX9_shorter 1 = .ok (.iload_n 1, 1) := by decide +kernel
theorem dX9_shorter_2 : decode cX9_shorter 2 = .ok (.iload_n 2, 1) := by decide +kernel
theorem dX9_shorter_3 : decode cX9_shorter 3 = .ok (.invokevirtual 144, 3) := by decide +kernel
theorem dX9_shorter_6 : decode cX9_shorter 6 = .ok (.aload_n 0, 1) := by decide +kernel
theorem dX9_shorter_7 : decode cX9_shorter 7 = .ok (.getfield 25, 3) := by decide +kernel
theorem dX9_shorter_10 : decode cX9_shorter 10 = .ok (.iload_n 1, 1) := by decide +kernel
theorem dX9_shorter_11 : decode cX9_shorter 11 = .ok (.iaload, 1) := by decide +kernel
theorem dX9_shorter_12 : decode cX9_shorter 12 = .ok (.if_icmp .le 12, 3) := by decide +kernel
theorem dX9_shorter_15 : decode cX9_shorter 15 = .ok (.aload_n 0, 1) := by decide +kernel
theorem dX9_shorter_16 : decode cX9_shorter 16 = .ok (.getfield 25, 3) := by decide +kernel
theorem dX9_shorter_19 : decode cX9_shorter 19 = .ok (.iload_n 1, 1) := by decide +kernel
theorem dX9_shorter_20 : decode cX9_shorter 20 = .ok (.iaload, 1) := by decide +kernel
theorem dX9_shorter_21 : decode cX9_shorter 21 = .ok (.goto 9, 3) := by decide +kernel
theorem dX9_shorter_24 : decode cX9_shorter 24 = .ok (.aload_n 0, 1) := by decide +kernel
theorem dX9_shorter_25 : decode cX9_shorter 25 = .ok (.iload_n 1, 1) := by decide +kernel
theorem dX9_shorter_26 : decode cX9_shorter 26 = .ok (.iload_n 2, 1) := by decide +kernel
theorem dX9_shorter_27 : decode cX9_shorter 27 = .ok (.invokevirtual 144, 3) := by decide +kernel
theorem dX9_shorter_30 : decode cX9_shorter 30 = .ok (.ireturn, 1) := by decide +kernel
theorem dX9_nextPiece_0 : decode cX9_nextPiece 0 = .ok (.iconst (-1), 1) := by decide +kernel
theorem dX9_nextPiece_1 : decode cX9_nextPiece 1 = .ok (.istore_n 2, 1) := by decide +kernel
theorem dX9_nextPiece_2 : decode cX9_nextPiece 2 = .ok (.iconst 0, 1) := by decide +kernel
theorem dX9_nextPiece_3 : decode cX9_nextPiece 3 = .ok (.istore_n 3, 1) := by decide +kernel
theorem dX9_nextPiece_4 : decode cX9_nextPiece 4 = .ok (.iload_n 3, 1) := by decide +kernel
theorem dX9_nextPiece_5 : decode cX9_nextPiece 5 = .ok (.aload_n 0, 1) := by decide +kernel
theorem dX9_nextPiece_6 : decode cX9_nextPiece 6 = .ok (.getfield 110, 3) := by decide +kernel
theorem dX9_nextPiece_9 : decode cX9_nextPiece 9 = .ok (.if_icmp .ge 97, 3) := by decide +kernel
theorem dX9_nextPiece_12 : decode cX9_nextPiece 12 = .ok (.iload_n 2, 1) := by decide +kernel
theorem dX9_nextPiece_13 : decode cX9_nextPiece 13 = .ok (.iconst (-1), 1) := by decide +kernel
theorem dX9_nextPiece_14 : decode cX9_nextPiece 14 = .ok (.if_icmp .eq 52, 3) := by decide +kernel
theorem dX9_nextPiece_17 : decode cX9_nextPiece 17 = .ok (.aload_n 0, 1) := by decide +kernel
theorem dX9_nextPiece_18 : decode cX9_nextPiece 18 = .ok (.iload_n 3, 1) := by decide +kernel
theorem dX9_nextPiece_19 : decode cX9_nextPiece 19 = .ok (.iload_n 1, 1) := by decide +kernel
theorem dX9_nextPiece_20 : decode cX9_nextPiece 20 = .ok (.invokevirtual 205, 3) := by decide +kernel
theorem dX9_nextPiece_23 : decode cX9_nextPiece 23 = .ok (.aload_n 0, 1) := by decide +kernel
theorem dX9_nextPiece_24 : decode cX9_nextPiece 24 = .ok (.iload_n 2, 1) := by decide +kernel
theorem dX9_nextPiece_25 : decode cX9_nextPiece 25 = .ok (.iload_n 1, 1) := by decide +kernel
theorem dX9_nextPiece_26 : decode cX9_nextPiece 26 = .ok (.invokevirtual 205, 3) := by decide +kernel
theorem dX9_nextPiece_29 : decode cX9_nextPiece 29 = .ok (.if_icmp .gt 33, 3) := by decide +kernel
theorem dX9_nextPiece_32 : decode cX9_nextPiece 32 = .ok (.aload_n 0, 1) := by decide +kernel
theorem dX9_nextPiece_33 : decode cX9_nextPiece 33 = .ok (.iload_n 3, 1) := by decide +kernel
theorem dX9_nextPiece_34 : decode cX9_nextPiece 34 = .ok (.iload_n 1, 1) := by decide +kernel
theorem dX9_nextPiece_35 : decode cX9_nextPiece 35 = .ok (.invokevirtual 205, 3) := by decide +kernel
theorem dX9_nextPiece_38 : decode cX9_nextPiece 38 = .ok (.aload_n 0, 1) := by decide +kernel
theorem dX9_nextPiece_39 : decode cX9_nextPiece 39 = .ok (.iload_n 2, 1) := by decide +kernel
theorem dX9_nextPiece_40 : decode cX9_nextPiece 40 = .ok (.iload_n 1, 1) := by decide +kernel
theorem dX9_nextPiece_41 : decode cX9_nextPiece 41 = .ok (.invokevirtual 205, 3) := by decide +kernel
theorem dX9_nextPiece_44 : decode cX9_nextPiece 44 = .ok (.if_icmp .ne 22, 3) := by decide +kernel
theorem dX9_nextPiece_47 : decode cX9_nextPiece 47 = .ok (.aload_n 0, 1) := by decide +kernel
theorem dX9_nextPiece_48 : decode cX9_nextPiece 48 = .ok (.iload_n 3, 1) := by decide +kernel
theorem dX9_nextPiece_49 : decode cX9_nextPiece 49 = .ok (.iload_n 1, 1) := by decide +kernel
theorem dX9_nextPiece_50 : decode cX9_nextPiece 50 = .ok (.invokevirtual 208, 3) := by decide +kernel
theorem dX9_nextPiece_53 : decode cX9_nextPiece 53 = .ok (.aload_n 0, 1) := by decide +kernel
theorem dX9_nextPiece_54 : decode cX9_nextPiece 54 = .ok (.iload_n 2, 1) := by decide +kernel
theorem dX9_nextPiece_55 : decode cX9_nextPiece 55 = .ok (.iload_n 1, 1) := by decide +kernel
theorem dX9_nextPiece_56 : decode cX9_nextPiece 56 = .ok (.invokevirtual 208, 3) := by decide +kernel
theorem dX9_nextPiece_59 : decode cX9_nextPiece 59 = .ok (.if_icmp .le 7, 3) := by decide +kernel
theorem dX9_nextPiece_62 : decode cX9_nextPiece 62 = .ok (.iconst 1, 1) := by decide +kernel
theorem dX9_nextPiece_63 : decode cX9_nextPiece 63 = .ok (.goto 4, 3) := by decide +kernel
theorem dX9_nextPiece_66 : decode cX9_nextPiece 66 = .ok (.iconst 0, 1) := by decide +kernel
theorem dX9_nextPiece_67 : decode cX9_nextPiece 67 = .ok (.istore 4, 2) := by decide +kernel
theorem dX9_nextPiece_69 : decode cX9_nextPiece 69 = .ok (.aload_n 0, 1) := by decide +kernel
theorem dX9_nextPiece_70 : decode cX9_nextPiece 70 = .ok (.getfield 88, 3) := by decide +kernel
theorem dX9_nextPiece_73 : decode cX9_nextPiece 73 = .ok (.iload_n 3, 1) := by decide +kernel
theorem dX9_nextPiece_74 : decode cX9_nextPiece 74 = .ok (.iaload, 1) := by decide +kernel
theorem dX9_nextPiece_75 : decode cX9_nextPiece 75 = .ok (.aload_n 0, 1) := by decide +kernel
theorem dX9_nextPiece_76 : decode cX9_nextPiece 76 = .ok (.getfield 64, 3) := by decide +kernel
theorem dX9_nextPiece_79 : decode cX9_nextPiece 79 = .ok (.iload_n 3, 1) := by decide +kernel
theorem dX9_nextPiece_80 : decode cX9_nextPiece 80 = .ok (.iaload, 1) := by decide +kernel
theorem dX9_nextPiece_81 : decode cX9_nextPiece 81 = .ok (.if_icmp .ge 17, 3) := by decide +kernel
theorem dX9_nextPiece_84 : decode cX9_nextPiece 84 = .ok (.iload_n 2, 1) := by decide +kernel
theorem dX9_nextPiece_85 : decode cX9_nextPiece 85 = .ok (.iconst (-1), 1) := by decide +kernel
theorem dX9_nextPiece_86 : decode cX9_nextPiece 86 = .ok (.if_icmp .eq 8, 3) := by decide +kernel
theorem dX9_nextPiece_89 : decode cX9_nextPiece 89 = .ok (.iload 4, 2) := by decide +kernel
theorem dX9_nextPiece_91 : decode cX9_nextPiece 91 = .ok (.ifCond .eq 7, 3) := by decide +kernel
theorem dX9_nextPiece_94 : decode cX9_nextPiece 94 = .ok (.iload_n 3, 1) := by decide +kernel
theorem dX9_nextPiece_95 : decode cX9_nextPiece 95 = .ok (.goto 4, 3) := by decide +kernel
theorem dX9_nextPiece_98 : decode cX9_nextPiece 98 = .ok (.iload_n 2, 1) := by decide +kernel
theorem dX9_nextPiece_99 : decode cX9_nextPiece 99 = .ok (.istore_n 2, 1) := by decide +kernel
theorem dX9_nextPiece_100 : decode cX9_nextPiece 100 = .ok (.iinc 3 1, 3) := by decide +kernel
theorem dX9_nextPiece_103 : decode cX9_nextPiece 103 = .ok (.goto (-99), 3) := by decide +kernel
theorem dX9_nextPiece_106 : decode cX9_nextPiece 106 = .ok (.iload_n 2, 1) := by decide +kernel
theorem dX9_nextPiece_107 : decode cX9_nextPiece 107 = .ok (.ireturn, 1) := by decide +kernel
theorem dX9_rowFor_0 : decode cX9_rowFor 0 = .ok (.iconst (-1), 1) := by decide +kernel
theorem dX9_rowFor_1 : decode cX9_rowFor 1 = .ok (.istore 5, 2) := by decide +kernel
theorem dX9_rowFor_3 : decode cX9_rowFor 3 = .ok (.iconst 0, 1) := by decide +kernel
theorem dX9_rowFor_4 : decode cX9_rowFor 4 = .ok (.istore 6, 2) := by decide +kernel
theorem dX9_rowFor_6 : decode cX9_rowFor 6 = .ok (.iload 6, 2) := by decide +kernel
theorem dX9_rowFor_8 : decode cX9_rowFor 8 = .ok (.aload_n 0, 1) := by decide +kernel
theorem dX9_rowFor_9 : decode cX9_rowFor 9 = .ok (.getfield 211, 3) := by decide +kernel
theorem dX9_rowFor_12 : decode cX9_rowFor 12 = .ok (.if_icmp .ge 75, 3) := by decide +kernel
theorem dX9_rowFor_15 : decode cX9_rowFor 15 = .ok (.aload_n 0, 1) := by decide +kernel
theorem dX9_rowFor_16 : decode cX9_rowFor 16 = .ok (.getfield 97, 3) := by decide +kernel
theorem dX9_rowFor_19 : decode cX9_rowFor 19 = .ok (.iload 6, 2) := by decide +kernel
theorem dX9_rowFor_21 : decode cX9_rowFor 21 = .ok (.iaload, 1) := by decide +kernel
theorem dX9_rowFor_22 : decode cX9_rowFor 22 = .ok (.iload_n 2, 1) := by decide +kernel
theorem dX9_rowFor_23 : decode cX9_rowFor 23 = .ok (.if_icmp .lt 18, 3) := by decide +kernel
theorem dX9_rowFor_26 : decode cX9_rowFor 26 = .ok (.aload_n 0, 1) := by decide +kernel
theorem dX9_rowFor_27 : decode cX9_rowFor 27 = .ok (.getfield 100, 3) := by decide +kernel
theorem dX9_rowFor_30 : decode cX9_rowFor 30 = .ok (.iload 6, 2) := by decide +kernel
theorem dX9_rowFor_32 : decode cX9_rowFor 32 = .ok (.iaload, 1) := by decide +kernel
theorem dX9_rowFor_33 : decode cX9_rowFor 33 = .ok (.iload_n 1, 1) := by decide +kernel
theorem dX9_rowFor_34 : decode cX9_rowFor 34 = .ok (.if_icmp .lt 7, 3) := by decide +kernel
theorem dX9_rowFor_37 : decode cX9_rowFor 37 = .ok (.iconst 1, 1) := by decide +kernel
theorem dX9_rowFor_38 : decode cX9_rowFor 38 = .ok (.goto 4, 3) := by decide +kernel
theorem dX9_rowFor_41 : decode cX9_rowFor 41 = .ok (.iconst 0, 1) := by decide +kernel
theorem dX9_rowFor_42 : decode cX9_rowFor 42 = .ok (.istore 7, 2) := by decide +kernel
theorem dX9_rowFor_44 : decode cX9_rowFor 44 = .ok (.iload 7, 2) := by decide +kernel
theorem dX9_rowFor_46 : decode cX9_rowFor 46 = .ok (.ifCond .eq 31, 3) := by decide +kernel
theorem dX9_rowFor_49 : decode cX9_rowFor 49 = .ok (.iload 5, 2) := by decide +kernel
theorem dX9_rowFor_51 : decode cX9_rowFor 51 = .ok (.iconst (-1), 1) := by decide +kernel
theorem dX9_rowFor_52 : decode cX9_rowFor 52 = .ok (.if_icmp .eq 20, 3) := by decide +kernel
theorem dX9_rowFor_55 : decode cX9_rowFor 55 = .ok (.aload_n 0, 1) := by decide +kernel
theorem dX9_rowFor_56 : decode cX9_rowFor 56 = .ok (.getfield 94, 3) := by decide +kernel
theorem dX9_rowFor_59 : decode cX9_rowFor 59 = .ok (.iload 6, 2) := by decide +kernel
theorem dX9_rowFor_61 : decode cX9_rowFor 61 = .ok (.iaload, 1) := by decide +kernel
theorem dX9_rowFor_62 : decode cX9_rowFor 62 = .ok (.aload_n 0, 1) := by decide +kernel
theorem dX9_rowFor_63 : decode cX9_rowFor 63 = .ok (.getfield 94, 3) := by decide +kernel
theorem dX9_rowFor_66 : decode cX9_rowFor 66 = .ok (.iload 5, 2) := by decide +kernel
theorem dX9_rowFor_68 : decode cX9_rowFor 68 = .ok (.iaload, 1) := by decide +kernel
theorem dX9_rowFor_69 : decode cX9_rowFor 69 = .ok (.if_icmp .ge 8, 3) := by decide +kernel
theorem dX9_rowFor_72 : decode cX9_rowFor 72 = .ok (.iload 6, 2) := by decide +kernel
theorem dX9_rowFor_74 : decode cX9_rowFor 74 = .ok (.goto 5, 3) := by decide +kernel
theorem dX9_rowFor_77 : decode cX9_rowFor 77 = .ok (.iload 5, 2) := by decide +kernel
theorem dX9_rowFor_79 : decode cX9_rowFor 79 = .ok (.istore 5, 2) := by decide +kernel
theorem dX9_rowFor_81 : decode cX9_rowFor 81 = .ok (.iinc 6 1, 3) := by decide +kernel
theorem dX9_rowFor_84 : decode cX9_rowFor 84 = .ok (.goto (-78), 3) := by decide +kernel
theorem dX9_rowFor_87 : decode cX9_rowFor 87 = .ok (.iload 5, 2) := by decide +kernel
theorem dX9_rowFor_89 : decode cX9_rowFor 89 = .ok (.iconst (-1), 1) := by decide +kernel
theorem dX9_rowFor_90 : decode cX9_rowFor 90 = .ok (.if_icmp .eq 6, 3) := by decide +kernel
theorem dX9_rowFor_93 : decode cX9_rowFor 93 = .ok (.iload 5, 2) := by decide +kernel
theorem dX9_rowFor_95 : decode cX9_rowFor 95 = .ok (.ireturn, 1) := by decide +kernel
theorem dX9_rowFor_96 : decode cX9_rowFor 96 = .ok (.iconst 0, 1) := by decide +kernel
theorem dX9_rowFor_97 : decode cX9_rowFor 97 = .ok (.istore 6, 2) := by decide +kernel
theorem dX9_rowFor_99 : decode cX9_rowFor 99 = .ok (.iload 6, 2) := by decide +kernel
theorem dX9_rowFor_101 : decode cX9_rowFor 101 = .ok (.aload_n 0, 1) := by decide +kernel
theorem dX9_rowFor_102 : decode cX9_rowFor 102 = .ok (.getfield 214, 3) := by decide +kernel
theorem dX9_rowFor_105 : decode cX9_rowFor 105 = .ok (.if_icmp .ge 20, 3) := by decide +kernel
theorem dX9_rowFor_108 : decode cX9_rowFor 108 = .ok (.aload_n 0, 1) := by decide +kernel
theorem dX9_rowFor_109 : decode cX9_rowFor 109 = .ok (.getfield 91, 3) := by decide +kernel
theorem dX9_rowFor_112 : decode cX9_rowFor 112 = .ok (.iload 6, 2) := by decide +kernel
theorem dX9_rowFor_114 : decode cX9_rowFor 114 = .ok (.iaload, 1) := by decide +kernel
theorem dX9_rowFor_115 : decode cX9_rowFor 115 = .ok (.iload_n 2, 1) := by decide +kernel
theorem dX9_rowFor_116 : decode cX9_rowFor 116 = .ok (.if_icmp .ge 9, 3) := by decide +kernel
theorem dX9_rowFor_119 : decode cX9_rowFor 119 = .ok (.iinc 6 1, 3) := by decide +kernel
theorem dX9_rowFor_122 : decode cX9_rowFor 122 = .ok (.goto (-23), 3) := by decide +kernel
theorem dX9_rowFor_125 : decode cX9_rowFor 125 = .ok (.iload 6, 2) := by decide +kernel
theorem dX9_rowFor_127 : decode cX9_rowFor 127 = .ok (.aload_n 0, 1) := by decide +kernel
theorem dX9_rowFor_128 : decode cX9_rowFor 128 = .ok (.getfield 214, 3) := by decide +kernel
theorem dX9_rowFor_131 : decode cX9_rowFor 131 = .ok (.if_icmp .ne 22, 3) := by decide +kernel
theorem dX9_rowFor_134 : decode cX9_rowFor 134 = .ok (.aload_n 0, 1) := by decide +kernel
theorem dX9_rowFor_135 : decode cX9_rowFor 135 = .ok (.getfield 91, 3) := by decide +kernel
theorem dX9_rowFor_138 : decode cX9_rowFor 138 = .ok (.iload 6, 2) := by decide +kernel
theorem dX9_rowFor_140 : decode cX9_rowFor 140 = .ok (.iload 4, 2) := by decide +kernel
theorem dX9_rowFor_142 : decode cX9_rowFor 142 = .ok (.iastore, 1) := by decide +kernel
theorem dX9_rowFor_143 : decode cX9_rowFor 143 = .ok (.aload_n 0, 1) := by decide +kernel
theorem dX9_rowFor_144 : decode cX9_rowFor 144 = .ok (.dup, 1) := by decide +kernel
theorem dX9_rowFor_145 : decode cX9_rowFor 145 = .ok (.getfield 214, 3) := by decide +kernel
theorem dX9_rowFor_148 : decode cX9_rowFor 148 = .ok (.iconst 1, 1) := by decide +kernel
theorem dX9_rowFor_149 : decode cX9_rowFor 149 = .ok (.iadd, 1) := by decide +kernel
theorem dX9_rowFor_150 : decode cX9_rowFor 150 = .ok (.putfield 214, 3) := by decide +kernel
theorem dX9_rowFor_153 : decode cX9_rowFor 153 = .ok (.aload_n 0, 1) := by decide +kernel
theorem dX9_rowFor_154 : decode cX9_rowFor 154 = .ok (.getfield 91, 3) := by decide +kernel
theorem dX9_rowFor_157 : decode cX9_rowFor 157 = .ok (.iload 6, 2) := by decide +kernel
theorem dX9_rowFor_159 : decode cX9_rowFor 159 = .ok (.dup2, 1) := by decide +kernel
theorem dX9_rowFor_160 : decode cX9_rowFor 160 = .ok (.iaload, 1) := by decide +kernel
theorem dX9_rowFor_161 : decode cX9_rowFor 161 = .ok (.iload_n 2, 1) := by decide +kernel
theorem dX9_rowFor_162 : decode cX9_rowFor 162 = .ok (.isub, 1) := by decide +kernel
theorem dX9_rowFor_163 : decode cX9_rowFor 163 = .ok (.iastore, 1) := by decide +kernel
theorem dX9_rowFor_164 : decode cX9_rowFor 164 = .ok (.aload_n 0, 1) := by decide +kernel
theorem dX9_rowFor_165 : decode cX9_rowFor 165 = .ok (.getfield 94, 3) := by decide +kernel
theorem dX9_rowFor_168 : decode cX9_rowFor 168 = .ok (.aload_n 0, 1) := by decide +kernel
theorem dX9_rowFor_169 : decode cX9_rowFor 169 = .ok (.getfield 211, 3) := by decide +kernel
theorem dX9_rowFor_172 : decode cX9_rowFor 172 = .ok (.iload 6, 2) := by decide +kernel
theorem dX9_rowFor_174 : decode cX9_rowFor 174 = .ok (.iastore, 1) := by decide +kernel
theorem dX9_rowFor_175 : decode cX9_rowFor 175 = .ok (.aload_n 0, 1) := by decide +kernel
theorem dX9_rowFor_176 : decode cX9_rowFor 176 = .ok (.getfield 97, 3) := by decide +kernel
theorem dX9_rowFor_179 : decode cX9_rowFor 179 = .ok (.aload_n 0, 1) := by decide +kernel
theorem dX9_rowFor_180 : decode cX9_rowFor 180 = .ok (.getfield 211, 3) := by decide +kernel
theorem dX9_rowFor_183 : decode cX9_rowFor 183 = .ok (.iload_n 2, 1) := by decide +kernel
theorem dX9_rowFor_184 : decode cX9_rowFor 184 = .ok (.iastore, 1) := by decide +kernel
theorem dX9_rowFor_185 : decode cX9_rowFor 185 = .ok (.aload_n 0, 1) := by decide +kernel
theorem dX9_rowFor_186 : decode cX9_rowFor 186 = .ok (.getfield 100, 3) := by decide +kernel
theorem dX9_rowFor_189 : decode cX9_rowFor 189 = .ok (.aload_n 0, 1) := by decide +kernel
theorem dX9_rowFor_190 : decode cX9_rowFor 190 = .ok (.getfield 211, 3) := by decide +kernel
theorem dX9_rowFor_193 : decode cX9_rowFor 193 = .ok (.iload_n 3, 1) := by decide +kernel
theorem dX9_rowFor_194 : decode cX9_rowFor 194 = .ok (.iastore, 1) := by decide +kernel
theorem dX9_rowFor_195 : decode cX9_rowFor 195 = .ok (.aload_n 0, 1) := by decide +kernel
theorem dX9_rowFor_196 : decode cX9_rowFor 196 = .ok (.getfield 103, 3) := by decide +kernel
theorem dX9_rowFor_199 : decode cX9_rowFor 199 = .ok (.aload_n 0, 1) := by decide +kernel
theorem dX9_rowFor_200 : decode cX9_rowFor 200 = .ok (.getfield 211, 3) := by decide +kernel
theorem dX9_rowFor_203 : decode cX9_rowFor 203 = .ok (.iconst 0, 1) := by decide +kernel
theorem dX9_rowFor_204 : decode cX9_rowFor 204 = .ok (.iastore, 1) := by decide +kernel
theorem dX9_rowFor_205 : decode cX9_rowFor 205 = .ok (.aload_n 0, 1) := by decide +kernel
theorem dX9_rowFor_206 : decode cX9_rowFor 206 = .ok (.dup, 1) := by decide +kernel
theorem dX9_rowFor_207 : decode cX9_rowFor 207 = .ok (.getfield 211, 3) := by decide +kernel
theorem dX9_rowFor_210 : decode cX9_rowFor 210 = .ok (.iconst 1, 1) := by decide +kernel
theorem dX9_rowFor_211 : decode cX9_rowFor 211 = .ok (.iadd, 1) := by decide +kernel
theorem dX9_rowFor_212 : decode cX9_rowFor 212 = .ok (.putfield 211, 3) := by decide +kernel
theorem dX9_rowFor_215 : decode cX9_rowFor 215 = .ok (.aload_n 0, 1) := by decide +kernel
theorem dX9_rowFor_216 : decode cX9_rowFor 216 = .ok (.getfield 211, 3) := by decide +kernel
theorem dX9_rowFor_219 : decode cX9_rowFor 219 = .ok (.iconst 1, 1) := by decide +kernel
theorem dX9_rowFor_220 : decode cX9_rowFor 220 = .ok (.isub, 1) := by decide +kernel
theorem dX9_rowFor_221 : decode cX9_rowFor 221 = .ok (.ireturn, 1) := by decide +kernel
theorem dX9_nest_0 : decode cX9_nest 0 = .ok (.aload_n 0, 1) := by decide +kernel
theorem dX9_nest_1 : decode cX9_nest 1 = .ok (.iload_n 1, 1) := by decide +kernel
theorem dX9_nest_2 : decode cX9_nest 2 = .ok (.invokevirtual 151, 3) := by decide +kernel
theorem dX9_nest_5 : decode cX9_nest 5 = .ok (.istore 5, 2) := by decide +kernel
theorem dX9_nest_7 : decode cX9_nest 7 = .ok (.iload_n 2, 1) := by decide +kernel
theorem dX9_nest_8 : decode cX9_nest 8 = .ok (.bipush 50, 2) := by decide +kernel
theorem dX9_nest_10 : decode cX9_nest 10 = .ok (.sipush 3000, 3) := by decide +kernel
theorem dX9_nest_13 : decode cX9_nest 13 = .ok (.invokestatic 113, 3) := by decide +kernel
theorem dX9_nest_16 : decode cX9_nest 16 = .ok (.ifCond .eq 34, 3) := by decide +kernel
theorem dX9_nest_19 : decode cX9_nest 19 = .ok (.iload_n 3, 1) := by decide +kernel
theorem dX9_nest_20 : decode cX9_nest 20 = .ok (.bipush 50, 2) := by decide +kernel
theorem dX9_nest_22 : decode cX9_nest 22 = .ok (.sipush 1500, 3) := by decide +kernel
theorem dX9_nest_25 : decode cX9_nest 25 = .ok (.invokestatic 113, 3) := by decide +kernel
theorem dX9_nest_28 : decode cX9_nest 28 = .ok (.ifCond .eq 22, 3) := by decide +kernel
theorem dX9_nest_31 : decode cX9_nest 31 = .ok (.iload_n 3, 1) := by decide +kernel
theorem dX9_nest_32 : decode cX9_nest 32 = .ok (.iload_n 2, 1) := by decide +kernel
theorem dX9_nest_33 : decode cX9_nest 33 = .ok (.if_icmp .gt 17, 3) := by decide +kernel
theorem dX9_nest_36 : decode cX9_nest 36 = .ok (.iload 4, 2) := by decide +kernel
theorem dX9_nest_38 : decode cX9_nest 38 = .ok (.iconst 0, 1) := by decide +kernel
theorem dX9_nest_39 : decode cX9_nest 39 = .ok (.iconst 3, 1) := by decide +kernel
theorem dX9_nest_40 : decode cX9_nest 40 = .ok (.invokestatic 113, 3) := by decide +kernel
theorem dX9_nest_43 : decode cX9_nest 43 = .ok (.ifCond .eq 7, 3) := by decide +kernel
theorem dX9_nest_46 : decode cX9_nest 46 = .ok (.iconst 1, 1) := by decide +kernel
theorem dX9_nest_47 : decode cX9_nest 47 = .ok (.goto 4, 3) := by decide +kernel
theorem dX9_nest_50 : decode cX9_nest 50 = .ok (.iconst 0, 1) := by decide +kernel
theorem dX9_nest_51 : decode cX9_nest 51 = .ok (.istore 6, 2) := by decide +kernel
theorem dX9_nest_53 : decode cX9_nest 53 = .ok (.aload_n 0, 1) := by decide +kernel
theorem dX9_nest_54 : decode cX9_nest 54 = .ok (.iload 5, 2) := by decide +kernel
theorem dX9_nest_56 : decode cX9_nest 56 = .ok (.ifCond .ne 7, 3) := by decide +kernel
theorem dX9_nest_59 : decode cX9_nest 59 = .ok (.iconst 1, 1) := by decide +kernel
theorem dX9_nest_60 : decode cX9_nest 60 = .ok (.goto 13, 3) := by decide +kernel
theorem dX9_nest_63 : decode cX9_nest 63 = .ok (.iload 6, 2) := by decide +kernel
theorem dX9_nest_65 : decode cX9_nest 65 = .ok (.ifCond .eq 7, 3) := by decide +kernel
theorem dX9_nest_68 : decode cX9_nest 68 = .ok (.iconst 0, 1) := by decide +kernel
theorem dX9_nest_69 : decode cX9_nest 69 = .ok (.goto 4, 3) := by decide +kernel
theorem dX9_nest_72 : decode cX9_nest 72 = .ok (.iconst 2, 1) := by decide +kernel
theorem dX9_nest_73 : decode cX9_nest 73 = .ok (.invokevirtual 126, 3) := by decide +kernel
theorem dX9_nest_76 : decode cX9_nest 76 = .ok (.ifCond .ne 5, 3) := by decide +kernel
theorem dX9_nest_79 : decode cX9_nest 79 = .ok (.lconst 0, 1) := by decide +kernel
theorem dX9_nest_80 : decode cX9_nest 80 = .ok (.lreturn, 1) := by decide +kernel
theorem dX9_nest_81 : decode cX9_nest 81 = .ok (.aload_n 0, 1) := by decide +kernel
theorem dX9_nest_82 : decode cX9_nest 82 = .ok (.iconst 0, 1) := by decide +kernel
theorem dX9_nest_83 : decode cX9_nest 83 = .ok (.putfield 214, 3) := by decide +kernel
theorem dX9_nest_86 : decode cX9_nest 86 = .ok (.aload_n 0, 1) := by decide +kernel
theorem dX9_nest_87 : decode cX9_nest 87 = .ok (.iconst 0, 1) := by decide +kernel
theorem dX9_nest_88 : decode cX9_nest 88 = .ok (.putfield 211, 3) := by decide +kernel
theorem dX9_nest_91 : decode cX9_nest 91 = .ok (.iconst 0, 1) := by decide +kernel
theorem dX9_nest_92 : decode cX9_nest 92 = .ok (.istore 7, 2) := by decide +kernel
theorem dX9_nest_94 : decode cX9_nest 94 = .ok (.iload 7, 2) := by decide +kernel
theorem dX9_nest_96 : decode cX9_nest 96 = .ok (.bipush 8, 2) := by decide +kernel
theorem dX9_nest_98 : decode cX9_nest 98 = .ok (.if_icmp .ge 17, 3) := by decide +kernel
theorem dX9_nest_101 : decode cX9_nest 101 = .ok (.aload_n 0, 1) := by decide +kernel
theorem dX9_nest_102 : decode cX9_nest 102 = .ok (.getfield 88, 3) := by decide +kernel
theorem dX9_nest_105 : decode cX9_nest 105 = .ok (.iload 7, 2) := by decide +kernel
theorem dX9_nest_107 : decode cX9_nest 107 = .ok (.iconst 0, 1) := by decide +kernel
theorem dX9_nest_108 : decode cX9_nest 108 = .ok (.iastore, 1) := by decide +kernel
theorem dX9_nest_109 : decode cX9_nest 109 = .ok (.iinc 7 1, 3) := by decide +kernel
theorem dX9_nest_112 : decode cX9_nest 112 = .ok (.goto (-18), 3) := by decide +kernel
theorem dX9_nest_115 : decode cX9_nest 115 = .ok (.lconst 0, 1) := by decide +kernel
theorem dX9_nest_116 : decode cX9_nest 116 = .ok (.lstore 7, 2) := by decide +kernel
theorem dX9_nest_118 : decode cX9_nest 118 = .ok (.lconst 0, 1) := by decide +kernel
theorem dX9_nest_119 : decode cX9_nest 119 = .ok (.lstore 9, 2) := by decide +kernel
theorem dX9_nest_121 : decode cX9_nest 121 = .ok (.aload_n 0, 1) := by decide +kernel
theorem dX9_nest_122 : decode cX9_nest 122 = .ok (.iload_n 1, 1) := by decide +kernel
theorem dX9_nest_123 : decode cX9_nest 123 = .ok (.invokevirtual 217, 3) := by decide +kernel
theorem dX9_nest_126 : decode cX9_nest 126 = .ok (.istore 11, 2) := by decide +kernel
theorem dX9_nest_128 : decode cX9_nest 128 = .ok (.iload 11, 2) := by decide +kernel
theorem dX9_nest_130 : decode cX9_nest 130 = .ok (.iconst (-1), 1) := by decide +kernel
theorem dX9_nest_131 : decode cX9_nest 131 = .ok (.if_icmp .eq 138, 3) := by decide +kernel
theorem dX9_nest_134 : decode cX9_nest 134 = .ok (.aload_n 0, 1) := by decide +kernel
theorem dX9_nest_135 : decode cX9_nest 135 = .ok (.iload 11, 2) := by decide +kernel
theorem dX9_nest_137 : decode cX9_nest 137 = .ok (.iload_n 1, 1) := by decide +kernel
theorem dX9_nest_138 : decode cX9_nest 138 = .ok (.invokevirtual 205, 3) := by decide +kernel
theorem dX9_nest_141 : decode cX9_nest 141 = .ok (.istore 12, 2) := by decide +kernel
theorem dX9_nest_143 : decode cX9_nest 143 = .ok (.aload_n 0, 1) := by decide +kernel
theorem dX9_nest_144 : decode cX9_nest 144 = .ok (.iload 11, 2) := by decide +kernel
theorem dX9_nest_146 : decode cX9_nest 146 = .ok (.iload_n 1, 1) := by decide +kernel
theorem dX9_nest_147 : decode cX9_nest 147 = .ok (.invokevirtual 208, 3) := by decide +kernel
theorem dX9_nest_150 : decode cX9_nest 150 = .ok (.istore 13, 2) := by decide +kernel
theorem dX9_nest_152 : decode cX9_nest 152 = .ok (.iload 12, 2) := by decide +kernel
theorem dX9_nest_154 : decode cX9_nest 154 = .ok (.iload_n 2, 1) := by decide +kernel
theorem dX9_nest_155 : decode cX9_nest 155 = .ok (.if_icmp .gt 9, 3) := by decide +kernel
theorem dX9_nest_158 : decode cX9_nest 158 = .ok (.iload 13, 2) := by decide +kernel
theorem dX9_nest_160 : decode cX9_nest 160 = .ok (.iload_n 3, 1) := by decide +kernel
theorem dX9_nest_161 : decode cX9_nest 161 = .ok (.if_icmp .le 7, 3) := by decide +kernel
theorem dX9_nest_164 : decode cX9_nest 164 = .ok (.ldc2_w 221, 3) := by decide +kernel
theorem dX9_nest_167 : decode cX9_nest 167 = .ok (.lreturn, 1) := by decide +kernel
theorem dX9_nest_168 : decode cX9_nest 168 = .ok (.aload_n 0, 1) := by decide +kernel
theorem dX9_nest_169 : decode cX9_nest 169 = .ok (.iload 12, 2) := by decide +kernel
theorem dX9_nest_171 : decode cX9_nest 171 = .ok (.iload 13, 2) := by decide +kernel
theorem dX9_nest_173 : decode cX9_nest 173 = .ok (.iload_n 2, 1) := by decide +kernel
theorem dX9_nest_174 : decode cX9_nest 174 = .ok (.iload_n 3, 1) := by decide +kernel
theorem dX9_nest_175 : decode cX9_nest 175 = .ok (.invokevirtual 223, 3) := by decide +kernel
theorem dX9_nest_178 : decode cX9_nest 178 = .ok (.istore 14, 2) := by decide +kernel
theorem dX9_nest_180 : decode cX9_nest 180 = .ok (.lload 7, 2) := by decide +kernel
theorem dX9_nest_182 : decode cX9_nest 182 = .ok (.ldc2_w 226, 3) := by decide +kernel
theorem dX9_nest_185 : decode cX9_nest 185 = .ok (.iload 12, 2) := by decide +kernel
theorem dX9_nest_187 : decode cX9_nest 187 = .ok (.iload 13, 2) := by decide +kernel
theorem dX9_nest_189 : decode cX9_nest 189 = .ok (.iadd, 1) := by decide +kernel
theorem dX9_nest_190 : decode cX9_nest 190 = .ok (.i2l, 1) := by decide +kernel
theorem dX9_nest_191 : decode cX9_nest 191 = .ok (.lmul, 1) := by decide +kernel
theorem dX9_nest_192 : decode cX9_nest 192 = .ok (.aload_n 0, 1) := by decide +kernel
theorem dX9_nest_193 : decode cX9_nest 193 = .ok (.getfield 103, 3) := by decide +kernel
theorem dX9_nest_196 : decode cX9_nest 196 = .ok (.iload 14, 2) := by decide +kernel
theorem dX9_nest_198 : decode cX9_nest 198 = .ok (.iaload, 1) := by decide +kernel
theorem dX9_nest_199 : decode cX9_nest 199 = .ok (.iload 13, 2) := by decide +kernel
theorem dX9_nest_201 : decode cX9_nest 201 = .ok (.if_icmp .ne 8, 3) := by decide +kernel
theorem dX9_nest_204 : decode cX9_nest 204 = .ok (.iload 13, 2) := by decide +kernel
theorem dX9_nest_206 : decode cX9_nest 206 = .ok (.goto 4, 3) := by decide +kernel
theorem dX9_nest_209 : decode cX9_nest 209 = .ok (.iconst 0, 1) := by decide +kernel
theorem dX9_nest_210 : decode cX9_nest 210 = .ok (.i2l, 1) := by decide +kernel
theorem dX9_nest_211 : decode cX9_nest 211 = .ok (.lsub, 1) := by decide +kernel
theorem dX9_nest_212 : decode cX9_nest 212 = .ok (.ladd, 1) := by decide +kernel
theorem dX9_nest_213 : decode cX9_nest 213 = .ok (.lstore 7, 2) := by decide +kernel
theorem dX9_nest_215 : decode cX9_nest 215 = .ok (.lload 9, 2) := by decide +kernel
theorem dX9_nest_217 : decode cX9_nest 217 = .ok (.iload 12, 2) := by decide +kernel
theorem dX9_nest_219 : decode cX9_nest 219 = .ok (.i2l, 1) := by decide +kernel
theorem dX9_nest_220 : decode cX9_nest 220 = .ok (.iload 13, 2) := by decide +kernel
theorem dX9_nest_222 : decode cX9_nest 222 = .ok (.i2l, 1) := by decide +kernel
theorem dX9_nest_223 : decode cX9_nest 223 = .ok (.lmul, 1) := by decide +kernel
theorem dX9_nest_224 : decode cX9_nest 224 = .ok (.ladd, 1) := by decide +kernel
theorem dX9_nest_225 : decode cX9_nest 225 = .ok (.lstore 9, 2) := by decide +kernel
theorem dX9_nest_227 : decode cX9_nest 227 = .ok (.aload_n 0, 1) := by decide +kernel
theorem dX9_nest_228 : decode cX9_nest 228 = .ok (.getfield 100, 3) := by decide +kernel
theorem dX9_nest_231 : decode cX9_nest 231 = .ok (.iload 14, 2) := by decide +kernel
theorem dX9_nest_233 : decode cX9_nest 233 = .ok (.dup2, 1) := by decide +kernel
theorem dX9_nest_234 : decode cX9_nest 234 = .ok (.iaload, 1) := by decide +kernel
theorem dX9_nest_235 : decode cX9_nest 235 = .ok (.iload 12, 2) := by decide +kernel
theorem dX9_nest_237 : decode cX9_nest 237 = .ok (.isub, 1) := by decide +kernel
theorem dX9_nest_238 : decode cX9_nest 238 = .ok (.iastore, 1) := by decide +kernel
theorem dX9_nest_239 : decode cX9_nest 239 = .ok (.aload_n 0, 1) := by decide +kernel
theorem dX9_nest_240 : decode cX9_nest 240 = .ok (.getfield 103, 3) := by decide +kernel
theorem dX9_nest_243 : decode cX9_nest 243 = .ok (.iload 14, 2) := by decide +kernel
theorem dX9_nest_245 : decode cX9_nest 245 = .ok (.iload 13, 2) := by decide +kernel
theorem dX9_nest_247 : decode cX9_nest 247 = .ok (.iastore, 1) := by decide +kernel
theorem dX9_nest_248 : decode cX9_nest 248 = .ok (.aload_n 0, 1) := by decide +kernel
theorem dX9_nest_249 : decode cX9_nest 249 = .ok (.getfield 88, 3) := by decide +kernel
theorem dX9_nest_252 : decode cX9_nest 252 = .ok (.iload 11, 2) := by decide +kernel
theorem dX9_nest_254 : decode cX9_nest 254 = .ok (.dup2, 1) := by decide +kernel
theorem dX9_nest_255 : decode cX9_nest 255 = .ok (.iaload, 1) := by decide +kernel
theorem dX9_nest_256 : decode cX9_nest 256 = .ok (.iconst 1, 1) := by decide +kernel
theorem dX9_nest_257 : decode cX9_nest 257 = .ok (.iadd, 1) := by decide +kernel
theorem dX9_nest_258 : decode cX9_nest 258 = .ok (.iastore, 1) := by decide +kernel
theorem dX9_nest_259 : decode cX9_nest 259 = .ok (.aload_n 0, 1) := by decide +kernel
theorem dX9_nest_260 : decode cX9_nest 260 = .ok (.iload_n 1, 1) := by decide +kernel
theorem dX9_nest_261 : decode cX9_nest 261 = .ok (.invokevirtual 217, 3) := by decide +kernel
theorem dX9_nest_264 : decode cX9_nest 264 = .ok (.istore 11, 2) := by decide +kernel
theorem dX9_nest_266 : decode cX9_nest 266 = .ok (.goto (-138), 3) := by decide +kernel
theorem dX9_nest_269 : decode cX9_nest 269 = .ok (.iload 4, 2) := by decide +kernel
theorem dX9_nest_271 : decode cX9_nest 271 = .ok (.ifCond .ne 11, 3) := by decide +kernel
theorem dX9_nest_274 : decode cX9_nest 274 = .ok (.aload_n 0, 1) := by decide +kernel
theorem dX9_nest_275 : decode cX9_nest 275 = .ok (.getfield 214, 3) := by decide +kernel
theorem dX9_nest_278 : decode cX9_nest 278 = .ok (.i2l, 1) := by decide +kernel
theorem dX9_nest_279 : decode cX9_nest 279 = .ok (.goto 42, 3) := by decide +kernel
theorem dX9_nest_282 : decode cX9_nest 282 = .ok (.iload 4, 2) := by decide +kernel
theorem dX9_nest_284 : decode cX9_nest 284 = .ok (.iconst 1, 1) := by decide +kernel
theorem dX9_nest_285 : decode cX9_nest 285 = .ok (.if_icmp .ne 11, 3) := by decide +kernel
theorem dX9_nest_288 : decode cX9_nest 288 = .ok (.aload_n 0, 1) := by decide +kernel
theorem dX9_nest_289 : decode cX9_nest 289 = .ok (.getfield 211, 3) := by decide +kernel
theorem dX9_nest_292 : decode cX9_nest 292 = .ok (.i2l, 1) := by decide +kernel
theorem dX9_nest_293 : decode cX9_nest 293 = .ok (.goto 28, 3) := by decide +kernel
theorem dX9_nest_296 : decode cX9_nest 296 = .ok (.iload 4, 2) := by decide +kernel
theorem dX9_nest_298 : decode cX9_nest 298 = .ok (.iconst 2, 1) := by decide +kernel
theorem dX9_nest_299 : decode cX9_nest 299 = .ok (.if_icmp .ne 8, 3) := by decide +kernel
theorem dX9_nest_302 : decode cX9_nest 302 = .ok (.lload 7, 2) := by decide +kernel
theorem dX9_nest_304 : decode cX9_nest 304 = .ok (.goto 17, 3) := by decide +kernel
theorem dX9_nest_307 : decode cX9_nest 307 = .ok (.aload_n 0, 1) := by decide +kernel
theorem dX9_nest_308 : decode cX9_nest 308 = .ok (.getfield 214, 3) := by decide +kernel
theorem dX9_nest_311 : decode cX9_nest 311 = .ok (.i2l, 1) := by decide +kernel
theorem dX9_nest_312 : decode cX9_nest 312 = .ok (.iload_n 2, 1) := by decide +kernel
theorem dX9_nest_313 : decode cX9_nest 313 = .ok (.i2l, 1) := by decide +kernel
theorem dX9_nest_314 : decode cX9_nest 314 = .ok (.lmul, 1) := by decide +kernel
theorem dX9_nest_315 : decode cX9_nest 315 = .ok (.iload_n 3, 1) := by decide +kernel
theorem dX9_nest_316 : decode cX9_nest 316 = .ok (.i2l, 1) := by decide +kernel
theorem dX9_nest_317 : decode cX9_nest 317 = .ok (.lmul, 1) := by decide +kernel
theorem dX9_nest_318 : decode cX9_nest 318 = .ok (.lload 9, 2) := by decide +kernel
theorem dX9_nest_320 : decode cX9_nest 320 = .ok (.lsub, 1) := by decide +kernel
theorem dX9_nest_321 : decode cX9_nest 321 = .ok (.lreturn, 1) := by decide +kernel
theorem dX9_batch_0 : decode cX9_batch 0 = .ok (.aload_n 0, 1) := by decide +kernel
theorem dX9_batch_1 : decode cX9_batch 1 = .ok (.iload_n 1, 1) := by decide +kernel
theorem dX9_batch_2 : decode cX9_batch 2 = .ok (.invokevirtual 138, 3) := by decide +kernel
theorem dX9_batch_5 : decode cX9_batch 5 = .ok (.ifCond .eq 15, 3) := by decide +kernel
theorem dX9_batch_8 : decode cX9_batch 8 = .ok (.aload_n 0, 1) := by decide +kernel
theorem dX9_batch_9 : decode cX9_batch 9 = .ok (.iload_n 2, 1) := by decide +kernel
theorem dX9_batch_10 : decode cX9_batch 10 = .ok (.invokevirtual 151, 3) := by decide +kernel
theorem dX9_batch_13 : decode cX9_batch 13 = .ok (.ifCond .eq 7, 3) := by decide +kernel
theorem dX9_batch_16 : decode cX9_batch 16 = .ok (.iconst 1, 1) := by decide +kernel
theorem dX9_batch_17 : decode cX9_batch 17 = .ok (.goto 4, 3) := by decide +kernel
theorem dX9_batch_20 : decode cX9_batch 20 = .ok (.iconst 0, 1) := by decide +kernel
theorem dX9_batch_21 : decode cX9_batch 21 = .ok (.istore 4, 2) := by decide +kernel
theorem dX9_batch_23 : decode cX9_batch 23 = .ok (.aload_n 0, 1) := by decide +kernel
theorem dX9_batch_24 : decode cX9_batch 24 = .ok (.iload 4, 2) := by decide +kernel
theorem dX9_batch_26 : decode cX9_batch 26 = .ok (.ifCond .ne 7, 3) := by decide +kernel
theorem dX9_batch_29 : decode cX9_batch 29 = .ok (.iconst 1, 1) := by decide +kernel
theorem dX9_batch_30 : decode cX9_batch 30 = .ok (.goto 31, 3) := by decide +kernel
theorem dX9_batch_33 : decode cX9_batch 33 = .ok (.iload_n 3, 1) := by decide +kernel
theorem dX9_batch_34 : decode cX9_batch 34 = .ok (.iconst 1, 1) := by decide +kernel
theorem dX9_batch_35 : decode cX9_batch 35 = .ok (.bipush 50, 2) := by decide +kernel
theorem dX9_batch_37 : decode cX9_batch 37 = .ok (.invokestatic 113, 3) := by decide +kernel
theorem dX9_batch_40 : decode cX9_batch 40 = .ok (.ifCond .ne 7, 3) := by decide +kernel
theorem dX9_batch_43 : decode cX9_batch 43 = .ok (.iconst 2, 1) := by decide +kernel
theorem dX9_batch_44 : decode cX9_batch 44 = .ok (.goto 17, 3) := by decide +kernel
theorem dX9_batch_47 : decode cX9_batch 47 = .ok (.aload_n 0, 1) := by decide +kernel
theorem dX9_batch_48 : decode cX9_batch 48 = .ok (.getfield 120, 3) := by decide +kernel
theorem dX9_batch_51 : decode cX9_batch 51 = .ok (.bipush 20, 2) := by decide +kernel
theorem dX9_batch_53 : decode cX9_batch 53 = .ok (.if_icmp .ne 7, 3) := by decide +kernel
theorem dX9_batch_56 : decode cX9_batch 56 = .ok (.iconst 3, 1) := by decide +kernel
theorem dX9_batch_57 : decode cX9_batch 57 = .ok (.goto 4, 3) := by decide +kernel
theorem dX9_batch_60 : decode cX9_batch 60 = .ok (.iconst 0, 1) := by decide +kernel
theorem dX9_batch_61 : decode cX9_batch 61 = .ok (.invokevirtual 126, 3) := by decide +kernel
theorem dX9_batch_64 : decode cX9_batch 64 = .ok (.ifCond .ne 5, 3) := by decide +kernel
theorem dX9_batch_67 : decode cX9_batch 67 = .ok (.iconst 0, 1) := by decide +kernel
theorem dX9_batch_68 : decode cX9_batch 68 = .ok (.ireturn, 1) := by decide +kernel
theorem dX9_batch_69 : decode cX9_batch 69 = .ok (.aload_n 0, 1) := by decide +kernel
theorem dX9_batch_70 : decode cX9_batch 70 = .ok (.getfield 67, 3) := by decide +kernel
theorem dX9_batch_73 : decode cX9_batch 73 = .ok (.aload_n 0, 1) := by decide +kernel
theorem dX9_batch_74 : decode cX9_batch 74 = .ok (.getfield 120, 3) := by decide +kernel
theorem dX9_batch_77 : decode cX9_batch 77 = .ok (.iload_n 1, 1) := by decide +kernel
theorem dX9_batch_78 : decode cX9_batch 78 = .ok (.iastore, 1) := by decide +kernel
theorem dX9_batch_79 : decode cX9_batch 79 = .ok (.aload_n 0, 1) := by decide +kernel
theorem dX9_batch_80 : decode cX9_batch 80 = .ok (.getfield 70, 3) := by decide +kernel
theorem dX9_batch_83 : decode cX9_batch 83 = .ok (.aload_n 0, 1) := by decide +kernel
theorem dX9_batch_84 : decode cX9_batch 84 = .ok (.getfield 120, 3) := by decide +kernel
theorem dX9_batch_87 : decode cX9_batch 87 = .ok (.iload_n 2, 1) := by decide +kernel
theorem dX9_batch_88 : decode cX9_batch 88 = .ok (.iastore, 1) := by decide +kernel
theorem dX9_batch_89 : decode cX9_batch 89 = .ok (.aload_n 0, 1) := by decide +kernel
theorem dX9_batch_90 : decode cX9_batch 90 = .ok (.getfield 73, 3) := by decide +kernel
theorem dX9_batch_93 : decode cX9_batch 93 = .ok (.aload_n 0, 1) := by decide +kernel
theorem dX9_batch_94 : decode cX9_batch 94 = .ok (.getfield 120, 3) := by decide +kernel
theorem dX9_batch_97 : decode cX9_batch 97 = .ok (.iload_n 3, 1) := by decide +kernel
theorem dX9_batch_98 : decode cX9_batch 98 = .ok (.iastore, 1) := by decide +kernel
theorem dX9_batch_99 : decode cX9_batch 99 = .ok (.aload_n 0, 1) := by decide +kernel
theorem dX9_batch_100 : decode cX9_batch 100 = .ok (.getfield 76, 3) := by decide +kernel
theorem dX9_batch_103 : decode cX9_batch 103 = .ok (.aload_n 0, 1) := by decide +kernel
theorem dX9_batch_104 : decode cX9_batch 104 = .ok (.getfield 120, 3) := by decide +kernel
theorem dX9_batch_107 : decode cX9_batch 107 = .ok (.iconst 0, 1) := by decide +kernel
theorem dX9_batch_108 : decode cX9_batch 108 = .ok (.iastore, 1) := by decide +kernel
theorem dX9_batch_109 : decode cX9_batch 109 = .ok (.aload_n 0, 1) := by decide +kernel
theorem dX9_batch_110 : decode cX9_batch 110 = .ok (.getfield 79, 3) := by decide +kernel
theorem dX9_batch_113 : decode cX9_batch 113 = .ok (.aload_n 0, 1) := by decide +kernel
theorem dX9_batch_114 : decode cX9_batch 114 = .ok (.getfield 120, 3) := by decide +kernel
theorem dX9_batch_117 : decode cX9_batch 117 = .ok (.aload_n 0, 1) := by decide +kernel
theorem dX9_batch_118 : decode cX9_batch 118 = .ok (.getfield 31, 3) := by decide +kernel
theorem dX9_batch_121 : decode cX9_batch 121 = .ok (.iload_n 1, 1) := by decide +kernel
theorem dX9_batch_122 : decode cX9_batch 122 = .ok (.iaload, 1) := by decide +kernel
theorem dX9_batch_123 : decode cX9_batch 123 = .ok (.iastore, 1) := by decide +kernel
theorem dX9_batch_124 : decode cX9_batch 124 = .ok (.aload_n 0, 1) := by decide +kernel
theorem dX9_batch_125 : decode cX9_batch 125 = .ok (.getfield 82, 3) := by decide +kernel
theorem dX9_batch_128 : decode cX9_batch 128 = .ok (.aload_n 0, 1) := by decide +kernel
theorem dX9_batch_129 : decode cX9_batch 129 = .ok (.getfield 120, 3) := by decide +kernel
theorem dX9_batch_132 : decode cX9_batch 132 = .ok (.aload_n 0, 1) := by decide +kernel
theorem dX9_batch_133 : decode cX9_batch 133 = .ok (.iload_n 1, 1) := by decide +kernel
theorem dX9_batch_134 : decode cX9_batch 134 = .ok (.iload_n 2, 1) := by decide +kernel
theorem dX9_batch_135 : decode cX9_batch 135 = .ok (.invokevirtual 144, 3) := by decide +kernel
theorem dX9_batch_138 : decode cX9_batch 138 = .ok (.iastore, 1) := by decide +kernel
theorem dX9_batch_139 : decode cX9_batch 139 = .ok (.aload_n 0, 1) := by decide +kernel
theorem dX9_batch_140 : decode cX9_batch 140 = .ok (.dup, 1) := by decide +kernel
theorem dX9_batch_141 : decode cX9_batch 141 = .ok (.getfield 120, 3) := by decide +kernel
theorem dX9_batch_144 : decode cX9_batch 144 = .ok (.iconst 1, 1) := by decide +kernel
theorem dX9_batch_145 : decode cX9_batch 145 = .ok (.iadd, 1) := by decide +kernel
theorem dX9_batch_146 : decode cX9_batch 146 = .ok (.putfield 120, 3) := by decide +kernel
theorem dX9_batch_149 : decode cX9_batch 149 = .ok (.aload_n 0, 1) := by decide +kernel
theorem dX9_batch_150 : decode cX9_batch 150 = .ok (.getfield 120, 3) := by decide +kernel
theorem dX9_batch_153 : decode cX9_batch 153 = .ok (.iconst 1, 1) := by decide +kernel
theorem dX9_batch_154 : decode cX9_batch 154 = .ok (.isub, 1) := by decide +kernel
theorem dX9_batch_155 : decode cX9_batch 155 = .ok (.ireturn, 1) := by decide +kernel
theorem dX9_work_0 : decode cX9_work 0 = .ok (.aload_n 0, 1) := by decide +kernel
theorem dX9_work_1 : decode cX9_work 1 = .ok (.iload_n 1, 1) := by decide +kernel
theorem dX9_work_2 : decode cX9_work 2 = .ok (.invokevirtual 228, 3) := by decide +kernel
theorem dX9_work_5 : decode cX9_work 5 = .ok (.istore_n 2, 1) := by decide +kernel
theorem dX9_work_6 : decode cX9_work 6 = .ok (.iload_n 2, 1) := by decide +kernel
theorem dX9_work_7 : decode cX9_work 7 = .ok (.ifCond .eq 46, 3) := by decide +kernel
theorem dX9_work_10 : decode cX9_work 10 = .ok (.aload_n 0, 1) := by decide +kernel
theorem dX9_work_11 : decode cX9_work 11 = .ok (.getfield 76, 3) := by decide +kernel
theorem dX9_work_14 : decode cX9_work 14 = .ok (.iload_n 1, 1) := by decide +kernel
theorem dX9_work_15 : decode cX9_work 15 = .ok (.iaload, 1) := by decide +kernel
theorem dX9_work_16 : decode cX9_work 16 = .ok (.iconst 1, 1) := by decide +kernel
theorem dX9_work_17 : decode cX9_work 17 = .ok (.if_icmp .eq 32, 3) := by decide +kernel
theorem dX9_work_20 : decode cX9_work 20 = .ok (.aload_n 0, 1) := by decide +kernel
theorem dX9_work_21 : decode cX9_work 21 = .ok (.getfield 76, 3) := by decide +kernel
theorem dX9_work_24 : decode cX9_work 24 = .ok (.iload_n 1, 1) := by decide +kernel
theorem dX9_work_25 : decode cX9_work 25 = .ok (.iaload, 1) := by decide +kernel
theorem dX9_work_26 : decode cX9_work 26 = .ok (.ifCond .ne 27, 3) := by decide +kernel
theorem dX9_work_29 : decode cX9_work 29 = .ok (.aload_n 0, 1) := by decide +kernel
theorem dX9_work_30 : decode cX9_work 30 = .ok (.aload_n 0, 1) := by decide +kernel
theorem dX9_work_31 : decode cX9_work 31 = .ok (.getfield 67, 3) := by decide +kernel
theorem dX9_work_34 : decode cX9_work 34 = .ok (.iload_n 1, 1) := by decide +kernel
theorem dX9_work_35 : decode cX9_work 35 = .ok (.iaload, 1) := by decide +kernel
theorem dX9_work_36 : decode cX9_work 36 = .ok (.aload_n 0, 1) := by decide +kernel
theorem dX9_work_37 : decode cX9_work 37 = .ok (.getfield 70, 3) := by decide +kernel
theorem dX9_work_40 : decode cX9_work 40 = .ok (.iload_n 1, 1) := by decide +kernel
theorem dX9_work_41 : decode cX9_work 41 = .ok (.iaload, 1) := by decide +kernel
theorem dX9_work_42 : decode cX9_work 42 = .ok (.invokevirtual 198, 3) := by decide +kernel
theorem dX9_work_45 : decode cX9_work 45 = .ok (.iconst (-1), 1) := by decide +kernel
theorem dX9_work_46 : decode cX9_work 46 = .ok (.if_icmp .eq 7, 3) := by decide +kernel
theorem dX9_work_49 : decode cX9_work 49 = .ok (.iconst 1, 1) := by decide +kernel
theorem dX9_work_50 : decode cX9_work 50 = .ok (.goto 4, 3) := by decide +kernel
theorem dX9_work_53 : decode cX9_work 53 = .ok (.iconst 0, 1) := by decide +kernel
theorem dX9_work_54 : decode cX9_work 54 = .ok (.istore_n 3, 1) := by decide +kernel
theorem dX9_work_55 : decode cX9_work 55 = .ok (.aload_n 0, 1) := by decide +kernel
theorem dX9_work_56 : decode cX9_work 56 = .ok (.iload_n 2, 1) := by decide +kernel
theorem dX9_work_57 : decode cX9_work 57 = .ok (.ifCond .ne 7, 3) := by decide +kernel
theorem dX9_work_60 : decode cX9_work 60 = .ok (.iconst 1, 1) := by decide +kernel
theorem dX9_work_61 : decode cX9_work 61 = .ok (.goto 12, 3) := by decide +kernel
theorem dX9_work_64 : decode cX9_work 64 = .ok (.iload_n 3, 1) := by decide +kernel
theorem dX9_work_65 : decode cX9_work 65 = .ok (.ifCond .eq 7, 3) := by decide +kernel
theorem dX9_work_68 : decode cX9_work 68 = .ok (.iconst 0, 1) := by decide +kernel
theorem dX9_work_69 : decode cX9_work 69 = .ok (.goto 4, 3) := by decide +kernel
theorem dX9_work_72 : decode cX9_work 72 = .ok (.iconst 2, 1) := by decide +kernel
theorem dX9_work_73 : decode cX9_work 73 = .ok (.invokevirtual 126, 3) := by decide +kernel
theorem dX9_work_76 : decode cX9_work 76 = .ok (.ifCond .ne 5, 3) := by decide +kernel
theorem dX9_work_79 : decode cX9_work 79 = .ok (.iconst 0, 1) := by decide +kernel
theorem dX9_work_80 : decode cX9_work 80 = .ok (.ireturn, 1) := by decide +kernel
theorem dX9_work_81 : decode cX9_work 81 = .ok (.aload_n 0, 1) := by decide +kernel
theorem dX9_work_82 : decode cX9_work 82 = .ok (.getfield 76, 3) := by decide +kernel
theorem dX9_work_85 : decode cX9_work 85 = .ok (.iload_n 1, 1) := by decide +kernel
theorem dX9_work_86 : decode cX9_work 86 = .ok (.dup2, 1) := by decide +kernel
theorem dX9_work_87 : decode cX9_work 87 = .ok (.iaload, 1) := by decide +kernel
theorem dX9_work_88 : decode cX9_work 88 = .ok (.iconst 1, 1) := by decide +kernel
theorem dX9_work_89 : decode cX9_work 89 = .ok (.iadd, 1) := by decide +kernel
theorem dX9_work_90 : decode cX9_work 90 = .ok (.iastore, 1) := by decide +kernel
theorem dX9_work_91 : decode cX9_work 91 = .ok (.aload_n 0, 1) := by decide +kernel
theorem dX9_work_92 : decode cX9_work 92 = .ok (.getfield 76, 3) := by decide +kernel
theorem dX9_work_95 : decode cX9_work 95 = .ok (.iload_n 1, 1) := by decide +kernel
theorem dX9_work_96 : decode cX9_work 96 = .ok (.iaload, 1) := by decide +kernel
theorem dX9_work_97 : decode cX9_work 97 = .ok (.ireturn, 1) := by decide +kernel
theorem dX9_batchOf_0 : decode cX9_batchOf 0 = .ok (.aload_n 0, 1) := by decide +kernel
theorem dX9_batchOf_1 : decode cX9_batchOf 1 = .ok (.iload_n 1, 1) := by decide +kernel
theorem dX9_batchOf_2 : decode cX9_batchOf 2 = .ok (.invokevirtual 228, 3) := by decide +kernel
theorem dX9_batchOf_5 : decode cX9_batchOf 5 = .ok (.istore_n 3, 1) := by decide +kernel
theorem dX9_batchOf_6 : decode cX9_batchOf 6 = .ok (.aload_n 0, 1) := by decide +kernel
theorem dX9_batchOf_7 : decode cX9_batchOf 7 = .ok (.iload_n 3, 1) := by decide +kernel
theorem dX9_batchOf_8 : decode cX9_batchOf 8 = .ok (.ifCond .ne 7, 3) := by decide +kernel
theorem dX9_batchOf_11 : decode cX9_batchOf 11 = .ok (.iconst 1, 1) := by decide +kernel
theorem dX9_batchOf_12 : decode cX9_batchOf 12 = .ok (.goto 17, 3) := by decide +kernel
theorem dX9_batchOf_15 : decode cX9_batchOf 15 = .ok (.iload_n 2, 1) := by decide +kernel
theorem dX9_batchOf_16 : decode cX9_batchOf 16 = .ok (.iconst 0, 1) := by decide +kernel
theorem dX9_batchOf_17 : decode cX9_batchOf 17 = .ok (.iconst 3, 1) := by decide +kernel
theorem dX9_batchOf_18 : decode cX9_batchOf 18 = .ok (.invokestatic 113, 3) := by decide +kernel
theorem dX9_batchOf_21 : decode cX9_batchOf 21 = .ok (.ifCond .eq 7, 3) := by decide +kernel
theorem dX9_batchOf_24 : decode cX9_batchOf 24 = .ok (.iconst 0, 1) := by decide +kernel
theorem dX9_batchOf_25 : decode cX9_batchOf 25 = .ok (.goto 4, 3) := by decide +kernel
theorem dX9_batchOf_28 : decode cX9_batchOf 28 = .ok (.iconst 2, 1) := by decide +kernel
theorem dX9_batchOf_29 : decode cX9_batchOf 29 = .ok (.invokevirtual 126, 3) := by decide +kernel
theorem dX9_batchOf_32 : decode cX9_batchOf 32 = .ok (.ifCond .ne 5, 3) := by decide +kernel
theorem dX9_batchOf_35 : decode cX9_batchOf 35 = .ok (.iconst 0, 1) := by decide +kernel
theorem dX9_batchOf_36 : decode cX9_batchOf 36 = .ok (.ireturn, 1) := by decide +kernel
theorem dX9_batchOf_37 : decode cX9_batchOf 37 = .ok (.iload_n 2, 1) := by decide +kernel
theorem dX9_batchOf_38 : decode cX9_batchOf 38 = .ok (.ifCond .ne 12, 3) := by decide +kernel
theorem dX9_batchOf_41 : decode cX9_batchOf 41 = .ok (.aload_n 0, 1) := by decide +kernel
theorem dX9_batchOf_42 : decode cX9_batchOf 42 = .ok (.getfield 76, 3) := by decide +kernel
theorem dX9_batchOf_45 : decode cX9_batchOf 45 = .ok (.iload_n 1, 1) := by decide +kernel
theorem dX9_batchOf_46 : decode cX9_batchOf 46 = .ok (.iaload, 1) := by decide +kernel
theorem dX9_batchOf_47 : decode cX9_batchOf 47 = .ok (.goto 37, 3) := by decide +kernel
theorem dX9_batchOf_50 : decode cX9_batchOf 50 = .ok (.iload_n 2, 1) := by decide +kernel
theorem dX9_batchOf_51 : decode cX9_batchOf 51 = .ok (.iconst 1, 1) := by decide +kernel
theorem dX9_batchOf_52 : decode cX9_batchOf 52 = .ok (.if_icmp .ne 12, 3) := by decide +kernel
theorem dX9_batchOf_55 : decode cX9_batchOf 55 = .ok (.aload_n 0, 1) := by decide +kernel
theorem dX9_batchOf_56 : decode cX9_batchOf 56 = .ok (.getfield 73, 3) := by decide +kernel
theorem dX9_batchOf_59 : decode cX9_batchOf 59 = .ok (.iload_n 1, 1) := by decide +kernel
theorem dX9_batchOf_60 : decode cX9_batchOf 60 = .ok (.iaload, 1) := by decide +kernel
theorem dX9_batchOf_61 : decode cX9_batchOf 61 = .ok (.goto 23, 3) := by decide +kernel
theorem dX9_batchOf_64 : decode cX9_batchOf 64 = .ok (.iload_n 2, 1) := by decide +kernel
theorem dX9_batchOf_65 : decode cX9_batchOf 65 = .ok (.iconst 2, 1) := by decide +kernel
theorem dX9_batchOf_66 : decode cX9_batchOf 66 = .ok (.if_icmp .ne 12, 3) := by decide +kernel
theorem dX9_batchOf_69 : decode cX9_batchOf 69 = .ok (.aload_n 0, 1) := by decide +kernel
theorem dX9_batchOf_70 : decode cX9_batchOf 70 = .ok (.getfield 79, 3) := by decide +kernel
theorem dX9_batchOf_73 : decode cX9_batchOf 73 = .ok (.iload_n 1, 1) := by decide +kernel
theorem dX9_batchOf_74 : decode cX9_batchOf 74 = .ok (.iaload, 1) := by decide +kernel
theorem dX9_batchOf_75 : decode cX9_batchOf 75 = .ok (.goto 9, 3) := by decide +kernel
theorem dX9_batchOf_78 : decode cX9_batchOf 78 = .ok (.aload_n 0, 1) := by decide +kernel
theorem dX9_batchOf_79 : decode cX9_batchOf 79 = .ok (.getfield 82, 3) := by decide +kernel
theorem dX9_batchOf_82 : decode cX9_batchOf 82 = .ok (.iload_n 1, 1) := by decide +kernel
theorem dX9_batchOf_83 : decode cX9_batchOf 83 = .ok (.iaload, 1) := by decide +kernel
theorem dX9_batchOf_84 : decode cX9_batchOf 84 = .ok (.ireturn, 1) := by decide +kernel
theorem dX9_kitsOf_0 : decode cX9_kitsOf 0 = .ok (.sipush 1000, 3) := by decide +kernel
theorem dX9_kitsOf_3 : decode cX9_kitsOf 3 = .ok (.istore_n 2, 1) := by decide +kernel
theorem dX9_kitsOf_4 : decode cX9_kitsOf 4 = .ok (.iconst 0, 1) := by decide +kernel
theorem dX9_kitsOf_5 : decode cX9_kitsOf 5 = .ok (.istore_n 3, 1) := by decide +kernel
theorem dX9_kitsOf_6 : decode cX9_kitsOf 6 = .ok (.iload_n 3, 1) := by decide +kernel
theorem dX9_kitsOf_7 : decode cX9_kitsOf 7 = .ok (.aload_n 0, 1) := by decide +kernel
theorem dX9_kitsOf_8 : decode cX9_kitsOf 8 = .ok (.getfield 110, 3) := by decide +kernel
theorem dX9_kitsOf_11 : decode cX9_kitsOf 11 = .ok (.if_icmp .ge 90, 3) := by decide +kernel
theorem dX9_kitsOf_14 : decode cX9_kitsOf 14 = .ok (.iconst 0, 1) := by decide +kernel
theorem dX9_kitsOf_15 : decode cX9_kitsOf 15 = .ok (.istore 4, 2) := by decide +kernel
theorem dX9_kitsOf_17 : decode cX9_kitsOf 17 = .ok (.iconst 0, 1) := by decide +kernel
theorem dX9_kitsOf_18 : decode cX9_kitsOf 18 = .ok (.istore 5, 2) := by decide +kernel
theorem dX9_kitsOf_20 : decode cX9_kitsOf 20 = .ok (.iload 5, 2) := by decide +kernel
theorem dX9_kitsOf_22 : decode cX9_kitsOf 22 = .ok (.aload_n 0, 1) := by decide +kernel
theorem dX9_kitsOf_23 : decode cX9_kitsOf 23 = .ok (.getfield 120, 3) := by decide +kernel
theorem dX9_kitsOf_26 : decode cX9_kitsOf 26 = .ok (.if_icmp .ge 47, 3) := by decide +kernel
theorem dX9_kitsOf_29 : decode cX9_kitsOf 29 = .ok (.iload 4, 2) := by decide +kernel
theorem dX9_kitsOf_31 : decode cX9_kitsOf 31 = .ok (.aload_n 0, 1) := by decide +kernel
theorem dX9_kitsOf_32 : decode cX9_kitsOf 32 = .ok (.getfield 67, 3) := by decide +kernel
theorem dX9_kitsOf_35 : decode cX9_kitsOf 35 = .ok (.iload 5, 2) := by decide +kernel
theorem dX9_kitsOf_37 : decode cX9_kitsOf 37 = .ok (.iaload, 1) := by decide +kernel
theorem dX9_kitsOf_38 : decode cX9_kitsOf 38 = .ok (.iload_n 3, 1) := by decide +kernel
theorem dX9_kitsOf_39 : decode cX9_kitsOf 39 = .ok (.if_icmp .ne 24, 3) := by decide +kernel
theorem dX9_kitsOf_42 : decode cX9_kitsOf 42 = .ok (.aload_n 0, 1) := by decide +kernel
theorem dX9_kitsOf_43 : decode cX9_kitsOf 43 = .ok (.getfield 76, 3) := by decide +kernel
theorem dX9_kitsOf_46 : decode cX9_kitsOf 46 = .ok (.iload 5, 2) := by decide +kernel
theorem dX9_kitsOf_48 : decode cX9_kitsOf 48 = .ok (.iaload, 1) := by decide +kernel
theorem dX9_kitsOf_49 : decode cX9_kitsOf 49 = .ok (.iconst 2, 1) := by decide +kernel
theorem dX9_kitsOf_50 : decode cX9_kitsOf 50 = .ok (.if_icmp .ne 13, 3) := by decide +kernel
theorem dX9_kitsOf_53 : decode cX9_kitsOf 53 = .ok (.aload_n 0, 1) := by decide +kernel
theorem dX9_kitsOf_54 : decode cX9_kitsOf 54 = .ok (.getfield 73, 3) := by decide +kernel
theorem dX9_kitsOf_57 : decode cX9_kitsOf 57 = .ok (.iload 5, 2) := by decide +kernel
theorem dX9_kitsOf_59 : decode cX9_kitsOf 59 = .ok (.iaload, 1) := by decide +kernel
theorem dX9_kitsOf_60 : decode cX9_kitsOf 60 = .ok (.goto 4, 3) := by decide +kernel
theorem dX9_kitsOf_63 : decode cX9_kitsOf 63 = .ok (.iconst 0, 1) := by decide +kernel
theorem dX9_kitsOf_64 : decode cX9_kitsOf 64 = .ok (.iadd, 1) := by decide +kernel
theorem dX9_kitsOf_65 : decode cX9_kitsOf 65 = .ok (.istore 4, 2) := by decide +kernel
theorem dX9_kitsOf_67 : decode cX9_kitsOf 67 = .ok (.iinc 5 1, 3) := by decide +kernel
theorem dX9_kitsOf_70 : decode cX9_kitsOf 70 = .ok (.goto (-50), 3) := by decide +kernel
theorem dX9_kitsOf_73 : decode cX9_kitsOf 73 = .ok (.iload_n 1, 1) := by decide +kernel
theorem dX9_kitsOf_74 : decode cX9_kitsOf 74 = .ok (.iload_n 3, 1) := by decide +kernel
theorem dX9_kitsOf_75 : decode cX9_kitsOf 75 = .ok (.ishr, 1) := by decide +kernel
theorem dX9_kitsOf_76 : decode cX9_kitsOf 76 = .ok (.iconst 1, 1) := by decide +kernel
theorem dX9_kitsOf_77 : decode cX9_kitsOf 77 = .ok (.iand, 1) := by decide +kernel
theorem dX9_kitsOf_78 : decode cX9_kitsOf 78 = .ok (.iconst 1, 1) := by decide +kernel
theorem dX9_kitsOf_79 : decode cX9_kitsOf 79 = .ok (.if_icmp .ne 14, 3) := by decide +kernel
theorem dX9_kitsOf_82 : decode cX9_kitsOf 82 = .ok (.iload 4, 2) := by decide +kernel
theorem dX9_kitsOf_84 : decode cX9_kitsOf 84 = .ok (.iload_n 2, 1) := by decide +kernel
theorem dX9_kitsOf_85 : decode cX9_kitsOf 85 = .ok (.if_icmp .ge 8, 3) := by decide +kernel
theorem dX9_kitsOf_88 : decode cX9_kitsOf 88 = .ok (.iload 4, 2) := by decide +kernel
theorem dX9_kitsOf_90 : decode cX9_kitsOf 90 = .ok (.goto 4, 3) := by decide +kernel
theorem dX9_kitsOf_93 : decode cX9_kitsOf 93 = .ok (.iload_n 2, 1) := by decide +kernel
theorem dX9_kitsOf_94 : decode cX9_kitsOf 94 = .ok (.istore_n 2, 1) := by decide +kernel
theorem dX9_kitsOf_95 : decode cX9_kitsOf 95 = .ok (.iinc 3 1, 3) := by decide +kernel
theorem dX9_kitsOf_98 : decode cX9_kitsOf 98 = .ok (.goto (-92), 3) := by decide +kernel
theorem dX9_kitsOf_101 : decode cX9_kitsOf 101 = .ok (.iload_n 2, 1) := by decide +kernel
theorem dX9_kitsOf_102 : decode cX9_kitsOf 102 = .ok (.ireturn, 1) := by decide +kernel
theorem dX9_isKit_0 : decode cX9_isKit 0 = .ok (.iload_n 1, 1) := by decide +kernel
theorem dX9_isKit_1 : decode cX9_isKit 1 = .ok (.ifCond .le 17, 3) := by decide +kernel
theorem dX9_isKit_4 : decode cX9_isKit 4 = .ok (.iload_n 1, 1) := by decide +kernel
theorem dX9_isKit_5 : decode cX9_isKit 5 = .ok (.iconst 1, 1) := by decide +kernel
theorem dX9_isKit_6 : decode cX9_isKit 6 = .ok (.aload_n 0, 1) := by decide +kernel
theorem dX9_isKit_7 : decode cX9_isKit 7 = .ok (.getfield 110, 3) := by decide +kernel
theorem dX9_isKit_10 : decode cX9_isKit 10 = .ok (.ishl, 1) := by decide +kernel
theorem dX9_isKit_11 : decode cX9_isKit 11 = .ok (.if_icmp .ge 7, 3) := by decide +kernel
theorem dX9_isKit_14 : decode cX9_isKit 14 = .ok (.iconst 1, 1) := by decide +kernel
theorem dX9_isKit_15 : decode cX9_isKit 15 = .ok (.goto 4, 3) := by decide +kernel
theorem dX9_isKit_18 : decode cX9_isKit 18 = .ok (.iconst 0, 1) := by decide +kernel
theorem dX9_isKit_19 : decode cX9_isKit 19 = .ok (.ireturn, 1) := by decide +kernel
theorem dX9_kits_0 : decode cX9_kits 0 = .ok (.aload_n 0, 1) := by decide +kernel
theorem dX9_kits_1 : decode cX9_kits 1 = .ok (.aload_n 0, 1) := by decide +kernel
theorem dX9_kits_2 : decode cX9_kits 2 = .ok (.iload_n 1, 1) := by decide +kernel
theorem dX9_kits_3 : decode cX9_kits 3 = .ok (.invokevirtual 231, 3) := by decide +kernel
theorem dX9_kits_6 : decode cX9_kits 6 = .ok (.ifCond .eq 7, 3) := by decide +kernel
theorem dX9_kits_9 : decode cX9_kits 9 = .ok (.iconst 0, 1) := by decide +kernel
theorem dX9_kits_10 : decode cX9_kits 10 = .ok (.goto 4, 3) := by decide +kernel
theorem dX9_kits_13 : decode cX9_kits 13 = .ok (.iconst 1, 1) := by decide +kernel
theorem dX9_kits_14 : decode cX9_kits 14 = .ok (.invokevirtual 126, 3) := by decide +kernel
theorem dX9_kits_17 : decode cX9_kits 17 = .ok (.ifCond .eq 11, 3) := by decide +kernel
theorem dX9_kits_20 : decode cX9_kits 20 = .ok (.aload_n 0, 1) := by decide +kernel
theorem dX9_kits_21 : decode cX9_kits 21 = .ok (.iload_n 1, 1) := by decide +kernel
theorem dX9_kits_22 : decode cX9_kits 22 = .ok (.invokevirtual 234, 3) := by decide +kernel
theorem dX9_kits_25 : decode cX9_kits 25 = .ok (.goto 4, 3) := by decide +kernel
theorem dX9_kits_28 : decode cX9_kits 28 = .ok (.iconst 0, 1) := by decide +kernel
theorem dX9_kits_29 : decode cX9_kits 29 = .ok (.ireturn, 1) := by decide +kernel
theorem dX9_take_0 : decode cX9_take 0 = .ok (.aload_n 0, 1) := by decide +kernel
theorem dX9_take_1 : decode cX9_take 1 = .ok (.iload_n 1, 1) := by decide +kernel
theorem dX9_take_2 : decode cX9_take 2 = .ok (.invokevirtual 231, 3) := by decide +kernel
theorem dX9_take_5 : decode cX9_take 5 = .ok (.ifCond .eq 17, 3) := by decide +kernel
theorem dX9_take_8 : decode cX9_take 8 = .ok (.iload_n 2, 1) := by decide +kernel
theorem dX9_take_9 : decode cX9_take 9 = .ok (.iconst 1, 1) := by decide +kernel
theorem dX9_take_10 : decode cX9_take 10 = .ok (.bipush 50, 2) := by decide +kernel
theorem dX9_take_12 : decode cX9_take 12 = .ok (.invokestatic 113, 3) := by decide +kernel
theorem dX9_take_15 : decode cX9_take 15 = .ok (.ifCond .eq 7, 3) := by decide +kernel
theorem dX9_take_18 : decode cX9_take 18 = .ok (.iconst 1, 1) := by decide +kernel
theorem dX9_take_19 : decode cX9_take 19 = .ok (.goto 4, 3) := by decide +kernel
theorem dX9_take_22 : decode cX9_take 22 = .ok (.iconst 0, 1) := by decide +kernel
theorem dX9_take_23 : decode cX9_take 23 = .ok (.istore_n 3, 1) := by decide +kernel
theorem dX9_take_24 : decode cX9_take 24 = .ok (.aload_n 0, 1) := by decide +kernel
theorem dX9_take_25 : decode cX9_take 25 = .ok (.iload_n 3, 1) := by decide +kernel
theorem dX9_take_26 : decode cX9_take 26 = .ok (.ifCond .ne 7, 3) := by decide +kernel
theorem dX9_take_29 : decode cX9_take 29 = .ok (.iconst 1, 1) := by decide +kernel
theorem dX9_take_30 : decode cX9_take 30 = .ok (.goto 17, 3) := by decide +kernel
theorem dX9_take_33 : decode cX9_take 33 = .ok (.aload_n 0, 1) := by decide +kernel
theorem dX9_take_34 : decode cX9_take 34 = .ok (.iload_n 1, 1) := by decide +kernel
theorem dX9_take_35 : decode cX9_take 35 = .ok (.invokevirtual 234, 3) := by decide +kernel
theorem dX9_take_38 : decode cX9_take 38 = .ok (.iload_n 2, 1) := by decide +kernel
theorem dX9_take_39 : decode cX9_take 39 = .ok (.if_icmp .ge 7, 3) := by decide +kernel
theorem dX9_take_42 : decode cX9_take 42 = .ok (.iconst 2, 1) := by decide +kernel
theorem dX9_take_43 : decode cX9_take 43 = .ok (.goto 4, 3) := by decide +kernel
theorem dX9_take_46 : decode cX9_take 46 = .ok (.iconst 0, 1) := by decide +kernel
theorem dX9_take_47 : decode cX9_take 47 = .ok (.invokevirtual 126, 3) := by decide +kernel
theorem dX9_take_50 : decode cX9_take 50 = .ok (.ifCond .ne 5, 3) := by decide +kernel
theorem dX9_take_53 : decode cX9_take 53 = .ok (.iconst 0, 1) := by decide +kernel
theorem dX9_take_54 : decode cX9_take 54 = .ok (.ireturn, 1) := by decide +kernel
theorem dX9_take_55 : decode cX9_take 55 = .ok (.iconst 0, 1) := by decide +kernel
theorem dX9_take_56 : decode cX9_take 56 = .ok (.istore 4, 2) := by decide +kernel
theorem dX9_take_58 : decode cX9_take 58 = .ok (.iconst 0, 1) := by decide +kernel
theorem dX9_take_59 : decode cX9_take 59 = .ok (.istore 5, 2) := by decide +kernel
theorem dX9_take_61 : decode cX9_take 61 = .ok (.iload 5, 2) := by decide +kernel
theorem dX9_take_63 : decode cX9_take 63 = .ok (.aload_n 0, 1) := by decide +kernel
theorem dX9_take_64 : decode cX9_take 64 = .ok (.getfield 110, 3) := by decide +kernel
theorem dX9_take_67 : decode cX9_take 67 = .ok (.if_icmp .ge 147, 3) := by decide +kernel
theorem dX9_take_70 : decode cX9_take 70 = .ok (.iload_n 1, 1) := by decide +kernel
theorem dX9_take_71 : decode cX9_take 71 = .ok (.iload 5, 2) := by decide +kernel
theorem dX9_take_73 : decode cX9_take 73 = .ok (.ishr, 1) := by decide +kernel
theorem dX9_take_74 : decode cX9_take 74 = .ok (.iconst 1, 1) := by decide +kernel
theorem dX9_take_75 : decode cX9_take 75 = .ok (.iand, 1) := by decide +kernel
theorem dX9_take_76 : decode cX9_take 76 = .ok (.iconst 1, 1) := by decide +kernel
theorem dX9_take_77 : decode cX9_take 77 = .ok (.if_icmp .ne 7, 3) := by decide +kernel
theorem dX9_take_80 : decode cX9_take 80 = .ok (.iload_n 2, 1) := by decide +kernel
theorem dX9_take_81 : decode cX9_take 81 = .ok (.goto 4, 3) := by decide +kernel
theorem dX9_take_84 : decode cX9_take 84 = .ok (.iconst 0, 1) := by decide +kernel
theorem dX9_take_85 : decode cX9_take 85 = .ok (.istore 6, 2) := by decide +kernel
theorem dX9_take_87 : decode cX9_take 87 = .ok (.iconst 0, 1) := by decide +kernel
theorem dX9_take_88 : decode cX9_take 88 = .ok (.istore 7, 2) := by decide +kernel
theorem dX9_take_90 : decode cX9_take 90 = .ok (.iload 7, 2) := by decide +kernel
theorem dX9_take_92 : decode cX9_take 92 = .ok (.aload_n 0, 1) := by decide +kernel
theorem dX9_take_93 : decode cX9_take 93 = .ok (.getfield 120, 3) := by decide +kernel
theorem dX9_take_96 : decode cX9_take 96 = .ok (.if_icmp .ge 112, 3) := by decide +kernel
theorem dX9_take_99 : decode cX9_take 99 = .ok (.iload 6, 2) := by decide +kernel
theorem dX9_take_101 : decode cX9_take 101 = .ok (.ifCond .le 107, 3) := by decide +kernel
theorem dX9_take_104 : decode cX9_take 104 = .ok (.aload_n 0, 1) := by decide +kernel
theorem dX9_take_105 : decode cX9_take 105 = .ok (.getfield 67, 3) := by decide +kernel
theorem dX9_take_108 : decode cX9_take 108 = .ok (.iload 7, 2) := by decide +kernel
theorem dX9_take_110 : decode cX9_take 110 = .ok (.iaload, 1) := by decide +kernel
theorem dX9_take_111 : decode cX9_take 111 = .ok (.iload 5, 2) := by decide +kernel
theorem dX9_take_113 : decode cX9_take 113 = .ok (.if_icmp .ne 89, 3) := by decide +kernel
theorem dX9_take_116 : decode cX9_take 116 = .ok (.aload_n 0, 1) := by decide +kernel
theorem dX9_take_117 : decode cX9_take 117 = .ok (.getfield 76, 3) := by decide +kernel
theorem dX9_take_120 : decode cX9_take 120 = .ok (.iload 7, 2) := by decide +kernel
theorem dX9_take_122 : decode cX9_take 122 = .ok (.iaload, 1) := by decide +kernel
theorem dX9_take_123 : decode cX9_take 123 = .ok (.iconst 2, 1) := by decide +kernel
theorem dX9_take_124 : decode cX9_take 124 = .ok (.if_icmp .ne 78, 3) := by decide +kernel
theorem dX9_take_127 : decode cX9_take 127 = .ok (.aload_n 0, 1) := by decide +kernel
theorem dX9_take_128 : decode cX9_take 128 = .ok (.getfield 73, 3) := by decide +kernel
theorem dX9_take_131 : decode cX9_take 131 = .ok (.iload 7, 2) := by decide +kernel
theorem dX9_take_133 : decode cX9_take 133 = .ok (.iaload, 1) := by decide +kernel
theorem dX9_take_134 : decode cX9_take 134 = .ok (.ifCond .le 68, 3) := by decide +kernel
theorem dX9_take_137 : decode cX9_take 137 = .ok (.aload_n 0, 1) := by decide +kernel
theorem dX9_take_138 : decode cX9_take 138 = .ok (.getfield 73, 3) := by decide +kernel
theorem dX9_take_141 : decode cX9_take 141 = .ok (.iload 7, 2) := by decide +kernel
theorem dX9_take_143 : decode cX9_take 143 = .ok (.iaload, 1) := by decide +kernel
theorem dX9_take_144 : decode cX9_take 144 = .ok (.iload 6, 2) := by decide +kernel
theorem dX9_take_146 : decode cX9_take 146 = .ok (.if_icmp .ge 13, 3) := by decide +kernel
theorem dX9_take_149 : decode cX9_take 149 = .ok (.aload_n 0, 1) := by decide +kernel
theorem dX9_take_150 : decode cX9_take 150 = .ok (.getfield 73, 3) := by decide +kernel
theorem dX9_take_153 : decode cX9_take 153 = .ok (.iload 7, 2) := by decide +kernel
theorem dX9_take_155 : decode cX9_take 155 = .ok (.iaload, 1) := by decide +kernel
theorem dX9_take_156 : decode cX9_take 156 = .ok (.goto 5, 3) := by decide +kernel
theorem dX9_take_159 : decode cX9_take 159 = .ok (.iload 6, 2) := by decide +kernel
theorem dX9_take_161 : decode cX9_take 161 = .ok (.istore 8, 2) := by decide +kernel
theorem dX9_take_163 : decode cX9_take 163 = .ok (.aload_n 0, 1) := by decide +kernel
theorem dX9_take_164 : decode cX9_take 164 = .ok (.getfield 73, 3) := by decide +kernel
theorem dX9_take_167 : decode cX9_take 167 = .ok (.iload 7, 2) := by decide +kernel
theorem dX9_take_169 : decode cX9_take 169 = .ok (.dup2, 1) := by decide +kernel
theorem dX9_take_170 : decode cX9_take 170 = .ok (.iaload, 1) := by decide +kernel
theorem dX9_take_171 : decode cX9_take 171 = .ok (.iload 8, 2) := by decide +kernel
theorem dX9_take_173 : decode cX9_take 173 = .ok (.isub, 1) := by decide +kernel
theorem dX9_take_174 : decode cX9_take 174 = .ok (.iastore, 1) := by decide +kernel
theorem dX9_take_175 : decode cX9_take 175 = .ok (.iload 6, 2) := by decide +kernel
theorem dX9_take_177 : decode cX9_take 177 = .ok (.iload 8, 2) := by decide +kernel
theorem dX9_take_179 : decode cX9_take 179 = .ok (.isub, 1) := by decide +kernel
theorem dX9_take_180 : decode cX9_take 180 = .ok (.istore 6, 2) := by decide +kernel
theorem dX9_take_182 : decode cX9_take 182 = .ok (.iload 4, 2) := by decide +kernel
theorem dX9_take_184 : decode cX9_take 184 = .ok (.aload_n 0, 1) := by decide +kernel
theorem dX9_take_185 : decode cX9_take 185 = .ok (.getfield 73, 3) := by decide +kernel
theorem dX9_take_188 : decode cX9_take 188 = .ok (.iload 7, 2) := by decide +kernel
theorem dX9_take_190 : decode cX9_take 190 = .ok (.iaload, 1) := by decide +kernel
theorem dX9_take_191 : decode cX9_take 191 = .ok (.ifCond .ne 7, 3) := by decide +kernel
theorem dX9_take_194 : decode cX9_take 194 = .ok (.iconst 1, 1) := by decide +kernel
theorem dX9_take_195 : decode cX9_take 195 = .ok (.goto 4, 3) := by decide +kernel
theorem dX9_take_198 : decode cX9_take 198 = .ok (.iconst 0, 1) := by decide +kernel
theorem dX9_take_199 : decode cX9_take 199 = .ok (.iadd, 1) := by decide +kernel
theorem dX9_take_200 : decode cX9_take 200 = .ok (.istore 4, 2) := by decide +kernel
theorem dX9_take_202 : decode cX9_take 202 = .ok (.iinc 7 1, 3) := by decide +kernel
theorem dX9_take_205 : decode cX9_take 205 = .ok (.goto (-115), 3) := by decide +kernel
theorem dX9_take_208 : decode cX9_take 208 = .ok (.iinc 5 1, 3) := by decide +kernel
theorem dX9_take_211 : decode cX9_take 211 = .ok (.goto (-150), 3) := by decide +kernel
theorem dX9_take_214 : decode cX9_take 214 = .ok (.iload 4, 2) := by decide +kernel
theorem dX9_take_216 : decode cX9_take 216 = .ok (.ireturn, 1) := by decide +kernel
