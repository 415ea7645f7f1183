theorem dX7_init_0 : decode cX7_init 0 = .ok (.aload_n 0, 1) := by decide +kernel
theorem dX7_init_1 : decode cX7_init 1 = .ok (.invokespecial 3, 3) := by decide +kernel
theorem dX7_init_4 : decode cX7_init 4 = .ok (.aload_n 0, 1) := by decide +kernel
theorem dX7_init_5 : decode cX7_init 5 = .ok (.bipush 8, 2) := by decide +kernel
theorem dX7_init_7 : decode cX7_init 7 = .ok (.newarray .int, 2) := by decide +kernel
theorem dX7_init_9 : decode cX7_init 9 = .ok (.putfield 9, 3) := by decide +kernel
theorem dX7_init_12 : decode cX7_init 12 = .ok (.aload_n 0, 1) := by decide +kernel
theorem dX7_init_13 : decode cX7_init 13 = .ok (.bipush 64, 2) := by decide +kernel
theorem dX7_init_15 : decode cX7_init 15 = .ok (.newarray .int, 2) := by decide +kernel
theorem dX7_init_17 : decode cX7_init 17 = .ok (.putfield 13, 3) := by decide +kernel
theorem dX7_init_20 : decode cX7_init 20 = .ok (.aload_n 0, 1) := by decide +kernel
theorem dX7_init_21 : decode cX7_init 21 = .ok (.sipush 1024, 3) := by decide +kernel
theorem dX7_init_24 : decode cX7_init 24 = .ok (.newarray .int, 2) := by decide +kernel
theorem dX7_init_26 : decode cX7_init 26 = .ok (.putfield 16, 3) := by decide +kernel
theorem dX7_init_29 : decode cX7_init 29 = .ok (.aload_n 0, 1) := by decide +kernel
theorem dX7_init_30 : decode cX7_init 30 = .ok (.bipush 8, 2) := by decide +kernel
theorem dX7_init_32 : decode cX7_init 32 = .ok (.newarray .int, 2) := by decide +kernel
theorem dX7_init_34 : decode cX7_init 34 = .ok (.putfield 19, 3) := by decide +kernel
theorem dX7_init_37 : decode cX7_init 37 = .ok (.aload_n 0, 1) := by decide +kernel
theorem dX7_init_38 : decode cX7_init 38 = .ok (.sipush 128, 3) := by decide +kernel
theorem dX7_init_41 : decode cX7_init 41 = .ok (.newarray .int, 2) := by decide +kernel
theorem dX7_init_43 : decode cX7_init 43 = .ok (.putfield 22, 3) := by decide +kernel
theorem dX7_init_46 : decode cX7_init 46 = .ok (.aload_n 0, 1) := by decide +kernel
theorem dX7_init_47 : decode cX7_init 47 = .ok (.sipush 260, 3) := by decide +kernel
theorem dX7_init_50 : decode cX7_init 50 = .ok (.sipush 130, 3) := by decide +kernel
theorem dX7_init_53 : decode cX7_init 53 = .ok (.multianewarray 25 2, 4) := by decide +kernel
theorem dX7_init_57 : decode cX7_init 57 = .ok (.putfield 27, 3) := by decide +kernel
theorem dX7_init_60 : decode cX7_init 60 = .ok (.aload_n 0, 1) := by decide +kernel
theorem dX7_init_61 : decode cX7_init 61 = .ok (.sipush 260, 3) := by decide +kernel
theorem dX7_init_64 : decode cX7_init 64 = .ok (.newarray .int, 2) := by decide +kernel
theorem dX7_init_66 : decode cX7_init 66 = .ok (.putfield 30, 3) := by decide +kernel
theorem dX7_init_69 : decode cX7_init 69 = .ok (.aload_n 0, 1) := by decide +kernel
theorem dX7_init_70 : decode cX7_init 70 = .ok (.bipush 9, 2) := by decide +kernel
theorem dX7_init_72 : decode cX7_init 72 = .ok (.newarray .int, 2) := by decide +kernel
theorem dX7_init_74 : decode cX7_init 74 = .ok (.putfield 33, 3) := by decide +kernel
theorem dX7_init_77 : decode cX7_init 77 = .ok (.aload_n 0, 1) := by decide +kernel
theorem dX7_init_78 : decode cX7_init 78 = .ok (.bipush 9, 2) := by decide +kernel
theorem dX7_init_80 : decode cX7_init 80 = .ok (.newarray .int, 2) := by decide +kernel
theorem dX7_init_82 : decode cX7_init 82 = .ok (.putfield 36, 3) := by decide +kernel
theorem dX7_init_85 : decode cX7_init 85 = .ok (.aload_n 0, 1) := by decide +kernel
theorem dX7_init_86 : decode cX7_init 86 = .ok (.bipush 33, 2) := by decide +kernel
theorem dX7_init_88 : decode cX7_init 88 = .ok (.iconst 4, 1) := by decide +kernel
theorem dX7_init_89 : decode cX7_init 89 = .ok (.multianewarray 25 2, 4) := by decide +kernel
theorem dX7_init_93 : decode cX7_init 93 = .ok (.putfield 39, 3) := by decide +kernel
theorem dX7_init_96 : decode cX7_init 96 = .ok (.aload_n 0, 1) := by decide +kernel
theorem dX7_init_97 : decode cX7_init 97 = .ok (.iconst 4, 1) := by decide +kernel
theorem dX7_init_98 : decode cX7_init 98 = .ok (.newarray .int, 2) := by decide +kernel
theorem dX7_init_100 : decode cX7_init 100 = .ok (.putfield 42, 3) := by decide +kernel
theorem dX7_init_103 : decode cX7_init 103 = .ok (.aload_n 0, 1) := by decide +kernel
theorem dX7_init_104 : decode cX7_init 104 = .ok (.iconst 4, 1) := by decide +kernel
theorem dX7_init_105 : decode cX7_init 105 = .ok (.newarray .int, 2) := by decide +kernel
theorem dX7_init_107 : decode cX7_init 107 = .ok (.putfield 45, 3) := by decide +kernel
theorem dX7_init_110 : decode cX7_init 110 = .ok (.aload_n 0, 1) := by decide +kernel
theorem dX7_init_111 : decode cX7_init 111 = .ok (.bipush 64, 2) := by decide +kernel
theorem dX7_init_113 : decode cX7_init 113 = .ok (.newarray .int, 2) := by decide +kernel
theorem dX7_init_115 : decode cX7_init 115 = .ok (.putfield 48, 3) := by decide +kernel
theorem dX7_init_118 : decode cX7_init 118 = .ok (.aload_n 0, 1) := by decide +kernel
theorem dX7_init_119 : decode cX7_init 119 = .ok (.bipush 64, 2) := by decide +kernel
theorem dX7_init_121 : decode cX7_init 121 = .ok (.newarray .int, 2) := by decide +kernel
theorem dX7_init_123 : decode cX7_init 123 = .ok (.putfield 51, 3) := by decide +kernel
theorem dX7_init_126 : decode cX7_init 126 = .ok (.aload_n 0, 1) := by decide +kernel
theorem dX7_init_127 : decode cX7_init 127 = .ok (.iconst 2, 1) := by decide +kernel
theorem dX7_init_128 : decode cX7_init 128 = .ok (.newarray .int, 2) := by decide +kernel
theorem dX7_init_130 : decode cX7_init 130 = .ok (.putfield 54, 3) := by decide +kernel
theorem dX7_init_133 : decode cX7_init 133 = .ok (.aload_n 0, 1) := by decide +kernel
theorem dX7_init_134 : decode cX7_init 134 = .ok (.bipush 32, 2) := by decide +kernel
theorem dX7_init_136 : decode cX7_init 136 = .ok (.newarray .int, 2) := by decide +kernel
theorem dX7_init_138 : decode cX7_init 138 = .ok (.putfield 57, 3) := by decide +kernel
theorem dX7_init_141 : decode cX7_init 141 = .ok (.aload_n 0, 1) := by decide +kernel
theorem dX7_init_142 : decode cX7_init 142 = .ok (.bipush 32, 2) := by decide +kernel
theorem dX7_init_144 : decode cX7_init 144 = .ok (.newarray .boolean, 2) := by decide +kernel
theorem dX7_init_146 : decode cX7_init 146 = .ok (.putfield 60, 3) := by decide +kernel
theorem dX7_init_149 : decode cX7_init 149 = .ok (.aload_n 0, 1) := by decide +kernel
theorem dX7_init_150 : decode cX7_init 150 = .ok (.bipush 9, 2) := by decide +kernel
theorem dX7_init_152 : decode cX7_init 152 = .ok (.bipush 9, 2) := by decide +kernel
theorem dX7_init_154 : decode cX7_init 154 = .ok (.multianewarray 64 2, 4) := by decide +kernel
theorem dX7_init_158 : decode cX7_init 158 = .ok (.putfield 66, 3) := by decide +kernel
theorem dX7_init_161 : decode cX7_init 161 = .ok (.aload_n 0, 1) := by decide +kernel
theorem dX7_init_162 : decode cX7_init 162 = .ok (.bipush 9, 2) := by decide +kernel
theorem dX7_init_164 : decode cX7_init 164 = .ok (.newarray .int, 2) := by decide +kernel
theorem dX7_init_166 : decode cX7_init 166 = .ok (.putfield 69, 3) := by decide +kernel
theorem dX7_init_169 : decode cX7_init 169 = .ok (.aload_n 0, 1) := by decide +kernel
theorem dX7_init_170 : decode cX7_init 170 = .ok (.sipush 200, 3) := by decide +kernel
theorem dX7_init_173 : decode cX7_init 173 = .ok (.bipush 9, 2) := by decide +kernel
theorem dX7_init_175 : decode cX7_init 175 = .ok (.multianewarray 72 2, 4) := by decide +kernel
theorem dX7_init_179 : decode cX7_init 179 = .ok (.putfield 74, 3) := by decide +kernel
theorem dX7_init_182 : decode cX7_init 182 = .ok (.iconst 2, 1) := by decide +kernel
theorem dX7_init_183 : decode cX7_init 183 = .ok (.istore_n 3, 1) := by decide +kernel
theorem dX7_init_184 : decode cX7_init 184 = .ok (.iconst 0, 1) := by decide +kernel
theorem dX7_init_185 : decode cX7_init 185 = .ok (.istore 4, 2) := by decide +kernel
theorem dX7_init_187 : decode cX7_init 187 = .ok (.iload 4, 2) := by decide +kernel
theorem dX7_init_189 : decode cX7_init 189 = .ok (.getstatic 77, 3) := by decide +kernel
theorem dX7_init_192 : decode cX7_init 192 = .ok (.arraylength, 1) := by decide +kernel
theorem dX7_init_193 : decode cX7_init 193 = .ok (.if_icmp .ge 26, 3) := by decide +kernel
theorem dX7_init_196 : decode cX7_init 196 = .ok (.getstatic 77, 3) := by decide +kernel
theorem dX7_init_199 : decode cX7_init 199 = .ok (.iload 4, 2) := by decide +kernel
theorem dX7_init_201 : decode cX7_init 201 = .ok (.iaload, 1) := by decide +kernel
theorem dX7_init_202 : decode cX7_init 202 = .ok (.iload_n 1, 1) := by decide +kernel
theorem dX7_init_203 : decode cX7_init 203 = .ok (.if_icmp .gt 10, 3) := by decide +kernel
theorem dX7_init_206 : decode cX7_init 206 = .ok (.getstatic 77, 3) := by decide +kernel
theorem dX7_init_209 : decode cX7_init 209 = .ok (.iload 4, 2) := by decide +kernel
theorem dX7_init_211 : decode cX7_init 211 = .ok (.iaload, 1) := by decide +kernel
theorem dX7_init_212 : decode cX7_init 212 = .ok (.istore_n 3, 1) := by decide +kernel
theorem dX7_init_213 : decode cX7_init 213 = .ok (.iinc 4 1, 3) := by decide +kernel
theorem dX7_init_216 : decode cX7_init 216 = .ok (.goto (-29), 3) := by decide +kernel
theorem dX7_init_219 : decode cX7_init 219 = .ok (.aload_n 0, 1) := by decide +kernel
theorem dX7_init_220 : decode cX7_init 220 = .ok (.iload_n 3, 1) := by decide +kernel
theorem dX7_init_221 : decode cX7_init 221 = .ok (.putfield 80, 3) := by decide +kernel
theorem dX7_init_224 : decode cX7_init 224 = .ok (.aload_n 0, 1) := by decide +kernel
theorem dX7_init_225 : decode cX7_init 225 = .ok (.iconst 1, 1) := by decide +kernel
theorem dX7_init_226 : decode cX7_init 226 = .ok (.bipush 8, 2) := by decide +kernel
theorem dX7_init_228 : decode cX7_init 228 = .ok (.iload_n 2, 1) := by decide +kernel
theorem dX7_init_229 : decode cX7_init 229 = .ok (.invokestatic 84, 3) := by decide +kernel
theorem dX7_init_232 : decode cX7_init 232 = .ok (.invokestatic 90, 3) := by decide +kernel
theorem dX7_init_235 : decode cX7_init 235 = .ok (.putfield 93, 3) := by decide +kernel
theorem dX7_init_238 : decode cX7_init 238 = .ok (.return_, 1) := by decide +kernel
theorem dX7_in_0 : decode cX7_in 0 = .ok (.iload_n 0, 1) := by decide +kernel
theorem dX7_in_1 : decode cX7_in 1 = .ok (.iload_n 1, 1) := by decide +kernel
theorem dX7_in_2 : decode cX7_in 2 = .ok (.if_icmp .lt 12, 3) := by decide +kernel
theorem dX7_in_5 : decode cX7_in 5 = .ok (.iload_n 0, 1) := by decide +kernel
theorem dX7_in_6 : decode cX7_in 6 = .ok (.iload_n 2, 1) := by decide +kernel
theorem dX7_in_7 : decode cX7_in 7 = .ok (.if_icmp .gt 7, 3) := by decide +kernel
theorem dX7_in_10 : decode cX7_in 10 = .ok (.iconst 1, 1) := by decide +kernel
theorem dX7_in_11 : decode cX7_in 11 = .ok (.goto 4, 3) := by decide +kernel
theorem dX7_in_14 : decode cX7_in 14 = .ok (.iconst 0, 1) := by decide +kernel
theorem dX7_in_15 : decode cX7_in 15 = .ok (.ireturn, 1) := by decide +kernel
theorem dX7_isLaying_0 : decode cX7_isLaying 0 = .ok (.iload_n 0, 1) := by decide +kernel
theorem dX7_isLaying_1 : decode cX7_isLaying 1 = .ok (.iconst 0, 1) := by decide +kernel
theorem dX7_isLaying_2 : decode cX7_isLaying 2 = .ok (.bipush 7, 2) := by decide +kernel
theorem dX7_isLaying_4 : decode cX7_isLaying 4 = .ok (.invokestatic 96, 3) := by decide +kernel
theorem dX7_isLaying_7 : decode cX7_isLaying 7 = .ok (.ireturn, 1) := by decide +kernel
theorem dX7_isPost_0 : decode cX7_isPost 0 = .ok (.iload_n 1, 1) := by decide +kernel
theorem dX7_isPost_1 : decode cX7_isPost 1 = .ok (.iconst 0, 1) := by decide +kernel
theorem dX7_isPost_2 : decode cX7_isPost 2 = .ok (.aload_n 0, 1) := by decide +kernel
theorem dX7_isPost_3 : decode cX7_isPost 3 = .ok (.getfield 93, 3) := by decide +kernel
theorem dX7_isPost_6 : decode cX7_isPost 6 = .ok (.iconst 1, 1) := by decide +kernel
theorem dX7_isPost_7 : decode cX7_isPost 7 = .ok (.isub, 1) := by decide +kernel
theorem dX7_isPost_8 : decode cX7_isPost 8 = .ok (.invokestatic 96, 3) := by decide +kernel
theorem dX7_isPost_11 : decode cX7_isPost 11 = .ok (.ireturn, 1) := by decide +kernel
theorem dX7_rest_0 : decode cX7_rest 0 = .ok (.iload_n 1, 1) := by decide +kernel
theorem dX7_rest_1 : decode cX7_rest 1 = .ok (.aload_n 0, 1) := by decide +kernel
theorem dX7_rest_2 : decode cX7_rest 2 = .ok (.getfield 80, 3) := by decide +kernel
theorem dX7_rest_5 : decode cX7_rest 5 = .ok (.irem, 1) := by decide +kernel
theorem dX7_rest_6 : decode cX7_rest 6 = .ok (.istore_n 2, 1) := by decide +kernel
theorem dX7_rest_7 : decode cX7_rest 7 = .ok (.iload_n 2, 1) := by decide +kernel
theorem dX7_rest_8 : decode cX7_rest 8 = .ok (.ifCond .ge 12, 3) := by decide +kernel
theorem dX7_rest_11 : decode cX7_rest 11 = .ok (.iload_n 2, 1) := by decide +kernel
theorem dX7_rest_12 : decode cX7_rest 12 = .ok (.aload_n 0, 1) := by decide +kernel
theorem dX7_rest_13 : decode cX7_rest 13 = .ok (.getfield 80, 3) := by decide +kernel
theorem dX7_rest_16 : decode cX7_rest 16 = .ok (.iadd, 1) := by decide +kernel
theorem dX7_rest_17 : decode cX7_rest 17 = .ok (.goto 4, 3) := by decide +kernel
theorem dX7_rest_20 : decode cX7_rest 20 = .ok (.iload_n 2, 1) := by decide +kernel
theorem dX7_rest_21 : decode cX7_rest 21 = .ok (.ireturn, 1) := by decide +kernel
theorem dX7_inverse_0 : decode cX7_inverse 0 = .ok (.iconst 1, 1) := by decide +kernel
theorem dX7_inverse_1 : decode cX7_inverse 1 = .ok (.istore_n 2, 1) := by decide +kernel
theorem dX7_inverse_2 : decode cX7_inverse 2 = .ok (.iload_n 2, 1) := by decide +kernel
theorem dX7_inverse_3 : decode cX7_inverse 3 = .ok (.iload_n 1, 1) := by decide +kernel
theorem dX7_inverse_4 : decode cX7_inverse 4 = .ok (.imul, 1) := by decide +kernel
theorem dX7_inverse_5 : decode cX7_inverse 5 = .ok (.aload_n 0, 1) := by decide +kernel
theorem dX7_inverse_6 : decode cX7_inverse 6 = .ok (.getfield 80, 3) := by decide +kernel
theorem dX7_inverse_9 : decode cX7_inverse 9 = .ok (.irem, 1) := by decide +kernel
theorem dX7_inverse_10 : decode cX7_inverse 10 = .ok (.iconst 1, 1) := by decide +kernel
theorem dX7_inverse_11 : decode cX7_inverse 11 = .ok (.if_icmp .eq 9, 3) := by decide +kernel
theorem dX7_inverse_14 : decode cX7_inverse 14 = .ok (.iinc 2 1, 3) := by decide +kernel
theorem dX7_inverse_17 : decode cX7_inverse 17 = .ok (.goto (-15), 3) := by decide +kernel
theorem dX7_inverse_20 : decode cX7_inverse 20 = .ok (.iload_n 2, 1) := by decide +kernel
theorem dX7_inverse_21 : decode cX7_inverse 21 = .ok (.ireturn, 1) := by decide +kernel
theorem dX7_cell_0 : decode cX7_cell 0 = .ok (.iload_n 0, 1) := by decide +kernel
theorem dX7_cell_1 : decode cX7_cell 1 = .ok (.bipush 8, 2) := by decide +kernel
theorem dX7_cell_3 : decode cX7_cell 3 = .ok (.imul, 1) := by decide +kernel
theorem dX7_cell_4 : decode cX7_cell 4 = .ok (.iload_n 1, 1) := by decide +kernel
theorem dX7_cell_5 : decode cX7_cell 5 = .ok (.iadd, 1) := by decide +kernel
theorem dX7_cell_6 : decode cX7_cell 6 = .ok (.iconst 4, 1) := by decide +kernel
theorem dX7_cell_7 : decode cX7_cell 7 = .ok (.imul, 1) := by decide +kernel
theorem dX7_cell_8 : decode cX7_cell 8 = .ok (.iload_n 2, 1) := by decide +kernel
theorem dX7_cell_9 : decode cX7_cell 9 = .ok (.iadd, 1) := by decide +kernel
theorem dX7_cell_10 : decode cX7_cell 10 = .ok (.iconst 4, 1) := by decide +kernel
theorem dX7_cell_11 : decode cX7_cell 11 = .ok (.imul, 1) := by decide +kernel
theorem dX7_cell_12 : decode cX7_cell 12 = .ok (.iload_n 3, 1) := by decide +kernel
theorem dX7_cell_13 : decode cX7_cell 13 = .ok (.iadd, 1) := by decide +kernel
theorem dX7_cell_14 : decode cX7_cell 14 = .ok (.ireturn, 1) := by decide +kernel
theorem dX7_isLeft_0 : decode cX7_isLeft 0 = .ok (.aload_n 0, 1) := by decide +kernel
theorem dX7_isLeft_1 : decode cX7_isLeft 1 = .ok (.getfield 9, 3) := by decide +kernel
theorem dX7_isLeft_4 : decode cX7_isLeft 4 = .ok (.iload_n 1, 1) := by decide +kernel
theorem dX7_isLeft_5 : decode cX7_isLeft 5 = .ok (.iaload, 1) := by decide +kernel
theorem dX7_isLeft_6 : decode cX7_isLeft 6 = .ok (.iload_n 2, 1) := by decide +kernel
theorem dX7_isLeft_7 : decode cX7_isLeft 7 = .ok (.ishr, 1) := by decide +kernel
theorem dX7_isLeft_8 : decode cX7_isLeft 8 = .ok (.iconst 1, 1) := by decide +kernel
theorem dX7_isLeft_9 : decode cX7_isLeft 9 = .ok (.iand, 1) := by decide +kernel
theorem dX7_isLeft_10 : decode cX7_isLeft 10 = .ok (.iconst 1, 1) := by decide +kernel
theorem dX7_isLeft_11 : decode cX7_isLeft 11 = .ok (.if_icmp .ne 7, 3) := by decide +kernel
theorem dX7_isLeft_14 : decode cX7_isLeft 14 = .ok (.iconst 1, 1) := by decide +kernel
theorem dX7_isLeft_15 : decode cX7_isLeft 15 = .ok (.goto 4, 3) := by decide +kernel
theorem dX7_isLeft_18 : decode cX7_isLeft 18 = .ok (.iconst 0, 1) := by decide +kernel
theorem dX7_isLeft_19 : decode cX7_isLeft 19 = .ok (.ireturn, 1) := by decide +kernel
theorem dX7_source_0 : decode cX7_source 0 = .ok (.aload_n 0, 1) := by decide +kernel
theorem dX7_source_1 : decode cX7_source 1 = .ok (.iload_n 1, 1) := by decide +kernel
theorem dX7_source_2 : decode cX7_source 2 = .ok (.iload_n 2, 1) := by decide +kernel
theorem dX7_source_3 : decode cX7_source 3 = .ok (.invokevirtual 100, 3) := by decide +kernel
theorem dX7_source_6 : decode cX7_source 6 = .ok (.ifCond .eq 9, 3) := by decide +kernel
theorem dX7_source_9 : decode cX7_source 9 = .ok (.iload_n 2, 1) := by decide +kernel
theorem dX7_source_10 : decode cX7_source 10 = .ok (.iconst 1, 1) := by decide +kernel
theorem dX7_source_11 : decode cX7_source 11 = .ok (.iadd, 1) := by decide +kernel
theorem dX7_source_12 : decode cX7_source 12 = .ok (.goto 4, 3) := by decide +kernel
theorem dX7_source_15 : decode cX7_source 15 = .ok (.iload_n 2, 1) := by decide +kernel
theorem dX7_source_16 : decode cX7_source 16 = .ok (.ireturn, 1) := by decide +kernel
theorem dX7_target_0 : decode cX7_target 0 = .ok (.aload_n 0, 1) := by decide +kernel
theorem dX7_target_1 : decode cX7_target 1 = .ok (.iload_n 1, 1) := by decide +kernel
theorem dX7_target_2 : decode cX7_target 2 = .ok (.iload_n 2, 1) := by decide +kernel
theorem dX7_target_3 : decode cX7_target 3 = .ok (.invokevirtual 100, 3) := by decide +kernel
theorem dX7_target_6 : decode cX7_target 6 = .ok (.ifCond .eq 7, 3) := by decide +kernel
theorem dX7_target_9 : decode cX7_target 9 = .ok (.iload_n 2, 1) := by decide +kernel
theorem dX7_target_10 : decode cX7_target 10 = .ok (.goto 6, 3) := by decide +kernel
theorem dX7_target_13 : decode cX7_target 13 = .ok (.iload_n 2, 1) := by decide +kernel
theorem dX7_target_14 : decode cX7_target 14 = .ok (.iconst 1, 1) := by decide +kernel
theorem dX7_target_15 : decode cX7_target 15 = .ok (.iadd, 1) := by decide +kernel
theorem dX7_target_16 : decode cX7_target 16 = .ok (.ireturn, 1) := by decide +kernel
theorem dX7_at_0 : decode cX7_at 0 = .ok (.aload_n 0, 1) := by decide +kernel
theorem dX7_at_1 : decode cX7_at 1 = .ok (.getfield 13, 3) := by decide +kernel
theorem dX7_at_4 : decode cX7_at 4 = .ok (.bipush 8, 2) := by decide +kernel
theorem dX7_at_6 : decode cX7_at 6 = .ok (.iload_n 1, 1) := by decide +kernel
theorem dX7_at_7 : decode cX7_at 7 = .ok (.imul, 1) := by decide +kernel
theorem dX7_at_8 : decode cX7_at 8 = .ok (.iload_n 2, 1) := by decide +kernel
theorem dX7_at_9 : decode cX7_at 9 = .ok (.iadd, 1) := by decide +kernel
theorem dX7_at_10 : decode cX7_at 10 = .ok (.iaload, 1) := by decide +kernel
theorem dX7_at_11 : decode cX7_at 11 = .ok (.ireturn, 1) := by decide +kernel
theorem dX7_areWays_0 : decode cX7_areWays 0 = .ok (.iload_n 1, 1) := by decide +kernel
theorem dX7_areWays_1 : decode cX7_areWays 1 = .ok (.iconst 0, 1) := by decide +kernel
theorem dX7_areWays_2 : decode cX7_areWays 2 = .ok (.iconst 1, 1) := by decide +kernel
theorem dX7_areWays_3 : decode cX7_areWays 3 = .ok (.aload_n 0, 1) := by decide +kernel
theorem dX7_areWays_4 : decode cX7_areWays 4 = .ok (.getfield 93, 3) := by decide +kernel
theorem dX7_areWays_7 : decode cX7_areWays 7 = .ok (.iconst 1, 1) := by decide +kernel
theorem dX7_areWays_8 : decode cX7_areWays 8 = .ok (.isub, 1) := by decide +kernel
theorem dX7_areWays_9 : decode cX7_areWays 9 = .ok (.ishl, 1) := by decide +kernel
theorem dX7_areWays_10 : decode cX7_areWays 10 = .ok (.iconst 1, 1) := by decide +kernel
theorem dX7_areWays_11 : decode cX7_areWays 11 = .ok (.isub, 1) := by decide +kernel
theorem dX7_areWays_12 : decode cX7_areWays 12 = .ok (.invokestatic 96, 3) := by decide +kernel
theorem dX7_areWays_15 : decode cX7_areWays 15 = .ok (.ireturn, 1) := by decide +kernel
theorem dX7_clear_0 : decode cX7_clear 0 = .ok (.aload_n 0, 1) := by decide +kernel
theorem dX7_clear_1 : decode cX7_clear 1 = .ok (.getfield 9, 3) := by decide +kernel
theorem dX7_clear_4 : decode cX7_clear 4 = .ok (.iload_n 1, 1) := by decide +kernel
theorem dX7_clear_5 : decode cX7_clear 5 = .ok (.iload_n 2, 1) := by decide +kernel
theorem dX7_clear_6 : decode cX7_clear 6 = .ok (.iastore, 1) := by decide +kernel
theorem dX7_clear_7 : decode cX7_clear 7 = .ok (.iconst 0, 1) := by decide +kernel
theorem dX7_clear_8 : decode cX7_clear 8 = .ok (.istore_n 3, 1) := by decide +kernel
theorem dX7_clear_9 : decode cX7_clear 9 = .ok (.iload_n 3, 1) := by decide +kernel
theorem dX7_clear_10 : decode cX7_clear 10 = .ok (.bipush 8, 2) := by decide +kernel
theorem dX7_clear_12 : decode cX7_clear 12 = .ok (.if_icmp .ge 21, 3) := by decide +kernel
theorem dX7_clear_15 : decode cX7_clear 15 = .ok (.aload_n 0, 1) := by decide +kernel
theorem dX7_clear_16 : decode cX7_clear 16 = .ok (.getfield 13, 3) := by decide +kernel
theorem dX7_clear_19 : decode cX7_clear 19 = .ok (.bipush 8, 2) := by decide +kernel
theorem dX7_clear_21 : decode cX7_clear 21 = .ok (.iload_n 1, 1) := by decide +kernel
theorem dX7_clear_22 : decode cX7_clear 22 = .ok (.imul, 1) := by decide +kernel
theorem dX7_clear_23 : decode cX7_clear 23 = .ok (.iload_n 3, 1) := by decide +kernel
theorem dX7_clear_24 : decode cX7_clear 24 = .ok (.iadd, 1) := by decide +kernel
theorem dX7_clear_25 : decode cX7_clear 25 = .ok (.iconst 0, 1) := by decide +kernel
theorem dX7_clear_26 : decode cX7_clear 26 = .ok (.iastore, 1) := by decide +kernel
theorem dX7_clear_27 : decode cX7_clear 27 = .ok (.iinc 3 1, 3) := by decide +kernel
theorem dX7_clear_30 : decode cX7_clear 30 = .ok (.goto (-21), 3) := by decide +kernel
theorem dX7_clear_33 : decode cX7_clear 33 = .ok (.iconst 0, 1) := by decide +kernel
theorem dX7_clear_34 : decode cX7_clear 34 = .ok (.istore_n 3, 1) := by decide +kernel
theorem dX7_clear_35 : decode cX7_clear 35 = .ok (.iload_n 3, 1) := by decide +kernel
theorem dX7_clear_36 : decode cX7_clear 36 = .ok (.sipush 128, 3) := by decide +kernel
theorem dX7_clear_39 : decode cX7_clear 39 = .ok (.if_icmp .ge 22, 3) := by decide +kernel
theorem dX7_clear_42 : decode cX7_clear 42 = .ok (.aload_n 0, 1) := by decide +kernel
theorem dX7_clear_43 : decode cX7_clear 43 = .ok (.getfield 16, 3) := by decide +kernel
theorem dX7_clear_46 : decode cX7_clear 46 = .ok (.sipush 128, 3) := by decide +kernel
theorem dX7_clear_49 : decode cX7_clear 49 = .ok (.iload_n 1, 1) := by decide +kernel
theorem dX7_clear_50 : decode cX7_clear 50 = .ok (.imul, 1) := by decide +kernel
theorem dX7_clear_51 : decode cX7_clear 51 = .ok (.iload_n 3, 1) := by decide +kernel
theorem dX7_clear_52 : decode cX7_clear 52 = .ok (.iadd, 1) := by decide +kernel
theorem dX7_clear_53 : decode cX7_clear 53 = .ok (.iconst 0, 1) := by decide +kernel
theorem dX7_clear_54 : decode cX7_clear 54 = .ok (.iastore, 1) := by decide +kernel
theorem dX7_clear_55 : decode cX7_clear 55 = .ok (.iinc 3 1, 3) := by decide +kernel
theorem dX7_clear_58 : decode cX7_clear 58 = .ok (.goto (-23), 3) := by decide +kernel
theorem dX7_clear_61 : decode cX7_clear 61 = .ok (.return_, 1) := by decide +kernel
theorem dX7_lay_0 : decode cX7_lay 0 = .ok (.iload_n 1, 1) := by decide +kernel
theorem dX7_lay_1 : decode cX7_lay 1 = .ok (.invokestatic 104, 3) := by decide +kernel
theorem dX7_lay_4 : decode cX7_lay 4 = .ok (.ifCond .eq 27, 3) := by decide +kernel
theorem dX7_lay_7 : decode cX7_lay 7 = .ok (.aload_n 0, 1) := by decide +kernel
theorem dX7_lay_8 : decode cX7_lay 8 = .ok (.iload_n 2, 1) := by decide +kernel
theorem dX7_lay_9 : decode cX7_lay 9 = .ok (.invokevirtual 108, 3) := by decide +kernel
theorem dX7_lay_12 : decode cX7_lay 12 = .ok (.ifCond .eq 19, 3) := by decide +kernel
theorem dX7_lay_15 : decode cX7_lay 15 = .ok (.iload_n 3, 1) := by decide +kernel
theorem dX7_lay_16 : decode cX7_lay 16 = .ok (.ifCond .lt 15, 3) := by decide +kernel
theorem dX7_lay_19 : decode cX7_lay 19 = .ok (.iload_n 3, 1) := by decide +kernel
theorem dX7_lay_20 : decode cX7_lay 20 = .ok (.iconst 1, 1) := by decide +kernel
theorem dX7_lay_21 : decode cX7_lay 21 = .ok (.iconst 3, 1) := by decide +kernel
theorem dX7_lay_22 : decode cX7_lay 22 = .ok (.aload_n 0, 1) := by decide +kernel
theorem dX7_lay_23 : decode cX7_lay 23 = .ok (.getfield 93, 3) := by decide +kernel
theorem dX7_lay_26 : decode cX7_lay 26 = .ok (.imul, 1) := by decide +kernel
theorem dX7_lay_27 : decode cX7_lay 27 = .ok (.ishl, 1) := by decide +kernel
theorem dX7_lay_28 : decode cX7_lay 28 = .ok (.if_icmp .lt 5, 3) := by decide +kernel
theorem dX7_lay_31 : decode cX7_lay 31 = .ok (.iconst 0, 1) := by decide +kernel
theorem dX7_lay_32 : decode cX7_lay 32 = .ok (.ireturn, 1) := by decide +kernel
theorem dX7_lay_33 : decode cX7_lay 33 = .ok (.iconst 0, 1) := by decide +kernel
theorem dX7_lay_34 : decode cX7_lay 34 = .ok (.istore 4, 2) := by decide +kernel
theorem dX7_lay_36 : decode cX7_lay 36 = .ok (.iload 4, 2) := by decide +kernel
theorem dX7_lay_38 : decode cX7_lay 38 = .ok (.aload_n 0, 1) := by decide +kernel
theorem dX7_lay_39 : decode cX7_lay 39 = .ok (.getfield 93, 3) := by decide +kernel
theorem dX7_lay_42 : decode cX7_lay 42 = .ok (.if_icmp .ge 24, 3) := by decide +kernel
theorem dX7_lay_45 : decode cX7_lay 45 = .ok (.iload_n 3, 1) := by decide +kernel
theorem dX7_lay_46 : decode cX7_lay 46 = .ok (.iconst 3, 1) := by decide +kernel
theorem dX7_lay_47 : decode cX7_lay 47 = .ok (.iload 4, 2) := by decide +kernel
theorem dX7_lay_49 : decode cX7_lay 49 = .ok (.imul, 1) := by decide +kernel
theorem dX7_lay_50 : decode cX7_lay 50 = .ok (.ishr, 1) := by decide +kernel
theorem dX7_lay_51 : decode cX7_lay 51 = .ok (.bipush 7, 2) := by decide +kernel
theorem dX7_lay_53 : decode cX7_lay 53 = .ok (.iand, 1) := by decide +kernel
theorem dX7_lay_54 : decode cX7_lay 54 = .ok (.iconst 4, 1) := by decide +kernel
theorem dX7_lay_55 : decode cX7_lay 55 = .ok (.if_icmp .le 5, 3) := by decide +kernel
theorem dX7_lay_58 : decode cX7_lay 58 = .ok (.iconst 0, 1) := by decide +kernel
theorem dX7_lay_59 : decode cX7_lay 59 = .ok (.ireturn, 1) := by decide +kernel
theorem dX7_lay_60 : decode cX7_lay 60 = .ok (.iinc 4 1, 3) := by decide +kernel
theorem dX7_lay_63 : decode cX7_lay 63 = .ok (.goto (-27), 3) := by decide +kernel
theorem dX7_lay_66 : decode cX7_lay 66 = .ok (.aload_n 0, 1) := by decide +kernel
theorem dX7_lay_67 : decode cX7_lay 67 = .ok (.iload_n 1, 1) := by decide +kernel
theorem dX7_lay_68 : decode cX7_lay 68 = .ok (.iload_n 2, 1) := by decide +kernel
theorem dX7_lay_69 : decode cX7_lay 69 = .ok (.invokevirtual 111, 3) := by decide +kernel
theorem dX7_lay_72 : decode cX7_lay 72 = .ok (.iconst 0, 1) := by decide +kernel
theorem dX7_lay_73 : decode cX7_lay 73 = .ok (.istore 4, 2) := by decide +kernel
theorem dX7_lay_75 : decode cX7_lay 75 = .ok (.iload 4, 2) := by decide +kernel
theorem dX7_lay_77 : decode cX7_lay 77 = .ok (.aload_n 0, 1) := by decide +kernel
theorem dX7_lay_78 : decode cX7_lay 78 = .ok (.getfield 93, 3) := by decide +kernel
theorem dX7_lay_81 : decode cX7_lay 81 = .ok (.if_icmp .ge 30, 3) := by decide +kernel
theorem dX7_lay_84 : decode cX7_lay 84 = .ok (.aload_n 0, 1) := by decide +kernel
theorem dX7_lay_85 : decode cX7_lay 85 = .ok (.getfield 13, 3) := by decide +kernel
theorem dX7_lay_88 : decode cX7_lay 88 = .ok (.bipush 8, 2) := by decide +kernel
theorem dX7_lay_90 : decode cX7_lay 90 = .ok (.iload_n 1, 1) := by decide +kernel
theorem dX7_lay_91 : decode cX7_lay 91 = .ok (.imul, 1) := by decide +kernel
theorem dX7_lay_92 : decode cX7_lay 92 = .ok (.iload 4, 2) := by decide +kernel
theorem dX7_lay_94 : decode cX7_lay 94 = .ok (.iadd, 1) := by decide +kernel
theorem dX7_lay_95 : decode cX7_lay 95 = .ok (.iload_n 3, 1) := by decide +kernel
theorem dX7_lay_96 : decode cX7_lay 96 = .ok (.iconst 3, 1) := by decide +kernel
theorem dX7_lay_97 : decode cX7_lay 97 = .ok (.iload 4, 2) := by decide +kernel
theorem dX7_lay_99 : decode cX7_lay 99 = .ok (.imul, 1) := by decide +kernel
theorem dX7_lay_100 : decode cX7_lay 100 = .ok (.ishr, 1) := by decide +kernel
theorem dX7_lay_101 : decode cX7_lay 101 = .ok (.bipush 7, 2) := by decide +kernel
theorem dX7_lay_103 : decode cX7_lay 103 = .ok (.iand, 1) := by decide +kernel
theorem dX7_lay_104 : decode cX7_lay 104 = .ok (.iastore, 1) := by decide +kernel
theorem dX7_lay_105 : decode cX7_lay 105 = .ok (.iinc 4 1, 3) := by decide +kernel
theorem dX7_lay_108 : decode cX7_lay 108 = .ok (.goto (-33), 3) := by decide +kernel
theorem dX7_lay_111 : decode cX7_lay 111 = .ok (.iconst 1, 1) := by decide +kernel
theorem dX7_lay_112 : decode cX7_lay 112 = .ok (.ireturn, 1) := by decide +kernel
theorem dX7_isCell_0 : decode cX7_isCell 0 = .ok (.iload_n 1, 1) := by decide +kernel
theorem dX7_isCell_1 : decode cX7_isCell 1 = .ok (.invokestatic 104, 3) := by decide +kernel
theorem dX7_isCell_4 : decode cX7_isCell 4 = .ok (.ifCond .eq 64, 3) := by decide +kernel
theorem dX7_isCell_7 : decode cX7_isCell 7 = .ok (.iload_n 2, 1) := by decide +kernel
theorem dX7_isCell_8 : decode cX7_isCell 8 = .ok (.iconst 0, 1) := by decide +kernel
theorem dX7_isCell_9 : decode cX7_isCell 9 = .ok (.aload_n 0, 1) := by decide +kernel
theorem dX7_isCell_10 : decode cX7_isCell 10 = .ok (.getfield 93, 3) := by decide +kernel
theorem dX7_isCell_13 : decode cX7_isCell 13 = .ok (.iconst 2, 1) := by decide +kernel
theorem dX7_isCell_14 : decode cX7_isCell 14 = .ok (.isub, 1) := by decide +kernel
theorem dX7_isCell_15 : decode cX7_isCell 15 = .ok (.invokestatic 96, 3) := by decide +kernel
theorem dX7_isCell_18 : decode cX7_isCell 18 = .ok (.ifCond .eq 50, 3) := by decide +kernel
theorem dX7_isCell_21 : decode cX7_isCell 21 = .ok (.iload_n 3, 1) := by decide +kernel
theorem dX7_isCell_22 : decode cX7_isCell 22 = .ok (.iconst 0, 1) := by decide +kernel
theorem dX7_isCell_23 : decode cX7_isCell 23 = .ok (.aload_n 0, 1) := by decide +kernel
theorem dX7_isCell_24 : decode cX7_isCell 24 = .ok (.iload_n 1, 1) := by decide +kernel
theorem dX7_isCell_25 : decode cX7_isCell 25 = .ok (.aload_n 0, 1) := by decide +kernel
theorem dX7_isCell_26 : decode cX7_isCell 26 = .ok (.iload_n 1, 1) := by decide +kernel
theorem dX7_isCell_27 : decode cX7_isCell 27 = .ok (.iload_n 2, 1) := by decide +kernel
theorem dX7_isCell_28 : decode cX7_isCell 28 = .ok (.invokevirtual 115, 3) := by decide +kernel
theorem dX7_isCell_31 : decode cX7_isCell 31 = .ok (.invokevirtual 118, 3) := by decide +kernel
theorem dX7_isCell_34 : decode cX7_isCell 34 = .ok (.iconst 1, 1) := by decide +kernel
theorem dX7_isCell_35 : decode cX7_isCell 35 = .ok (.isub, 1) := by decide +kernel
theorem dX7_isCell_36 : decode cX7_isCell 36 = .ok (.invokestatic 96, 3) := by decide +kernel
theorem dX7_isCell_39 : decode cX7_isCell 39 = .ok (.ifCond .eq 29, 3) := by decide +kernel
theorem dX7_isCell_42 : decode cX7_isCell 42 = .ok (.iload 4, 2) := by decide +kernel
theorem dX7_isCell_44 : decode cX7_isCell 44 = .ok (.iconst 0, 1) := by decide +kernel
theorem dX7_isCell_45 : decode cX7_isCell 45 = .ok (.aload_n 0, 1) := by decide +kernel
theorem dX7_isCell_46 : decode cX7_isCell 46 = .ok (.iload_n 1, 1) := by decide +kernel
theorem dX7_isCell_47 : decode cX7_isCell 47 = .ok (.aload_n 0, 1) := by decide +kernel
theorem dX7_isCell_48 : decode cX7_isCell 48 = .ok (.iload_n 1, 1) := by decide +kernel
theorem dX7_isCell_49 : decode cX7_isCell 49 = .ok (.iload_n 2, 1) := by decide +kernel
theorem dX7_isCell_50 : decode cX7_isCell 50 = .ok (.invokevirtual 121, 3) := by decide +kernel
theorem dX7_isCell_53 : decode cX7_isCell 53 = .ok (.invokevirtual 118, 3) := by decide +kernel
theorem dX7_isCell_56 : decode cX7_isCell 56 = .ok (.iconst 1, 1) := by decide +kernel
theorem dX7_isCell_57 : decode cX7_isCell 57 = .ok (.isub, 1) := by decide +kernel
theorem dX7_isCell_58 : decode cX7_isCell 58 = .ok (.invokestatic 96, 3) := by decide +kernel
theorem dX7_isCell_61 : decode cX7_isCell 61 = .ok (.ifCond .eq 7, 3) := by decide +kernel
theorem dX7_isCell_64 : decode cX7_isCell 64 = .ok (.iconst 1, 1) := by decide +kernel
theorem dX7_isCell_65 : decode cX7_isCell 65 = .ok (.goto 4, 3) := by decide +kernel
theorem dX7_isCell_68 : decode cX7_isCell 68 = .ok (.iconst 0, 1) := by decide +kernel
theorem dX7_isCell_69 : decode cX7_isCell 69 = .ok (.ireturn, 1) := by decide +kernel
theorem dX7_set_0 : decode cX7_set 0 = .ok (.aload_n 0, 1) := by decide +kernel
theorem dX7_set_1 : decode cX7_set 1 = .ok (.iload_n 1, 1) := by decide +kernel
theorem dX7_set_2 : decode cX7_set 2 = .ok (.iload_n 2, 1) := by decide +kernel
theorem dX7_set_3 : decode cX7_set 3 = .ok (.iload_n 3, 1) := by decide +kernel
theorem dX7_set_4 : decode cX7_set 4 = .ok (.iload 4, 2) := by decide +kernel
theorem dX7_set_6 : decode cX7_set 6 = .ok (.invokevirtual 124, 3) := by decide +kernel
theorem dX7_set_9 : decode cX7_set 9 = .ok (.ifCond .ne 5, 3) := by decide +kernel
theorem dX7_set_12 : decode cX7_set 12 = .ok (.iconst 0, 1) := by decide +kernel
theorem dX7_set_13 : decode cX7_set 13 = .ok (.ireturn, 1) := by decide +kernel
theorem dX7_set_14 : decode cX7_set 14 = .ok (.aload_n 0, 1) := by decide +kernel
theorem dX7_set_15 : decode cX7_set 15 = .ok (.getfield 16, 3) := by decide +kernel
theorem dX7_set_18 : decode cX7_set 18 = .ok (.iload_n 1, 1) := by decide +kernel
theorem dX7_set_19 : decode cX7_set 19 = .ok (.iload_n 2, 1) := by decide +kernel
theorem dX7_set_20 : decode cX7_set 20 = .ok (.iload_n 3, 1) := by decide +kernel
theorem dX7_set_21 : decode cX7_set 21 = .ok (.iload 4, 2) := by decide +kernel
theorem dX7_set_23 : decode cX7_set 23 = .ok (.invokestatic 128, 3) := by decide +kernel
theorem dX7_set_26 : decode cX7_set 26 = .ok (.aload_n 0, 1) := by decide +kernel
theorem dX7_set_27 : decode cX7_set 27 = .ok (.iload 5, 2) := by decide +kernel
theorem dX7_set_29 : decode cX7_set 29 = .ok (.invokevirtual 132, 3) := by decide +kernel
theorem dX7_set_32 : decode cX7_set 32 = .ok (.iastore, 1) := by decide +kernel
theorem dX7_set_33 : decode cX7_set 33 = .ok (.iconst 1, 1) := by decide +kernel
theorem dX7_set_34 : decode cX7_set 34 = .ok (.ireturn, 1) := by decide +kernel
theorem dX7_get_0 : decode cX7_get 0 = .ok (.aload_n 0, 1) := by decide +kernel
theorem dX7_get_1 : decode cX7_get 1 = .ok (.iload_n 1, 1) := by decide +kernel
theorem dX7_get_2 : decode cX7_get 2 = .ok (.iload_n 2, 1) := by decide +kernel
theorem dX7_get_3 : decode cX7_get 3 = .ok (.iload_n 3, 1) := by decide +kernel
theorem dX7_get_4 : decode cX7_get 4 = .ok (.iload 4, 2) := by decide +kernel
theorem dX7_get_6 : decode cX7_get 6 = .ok (.invokevirtual 124, 3) := by decide +kernel
theorem dX7_get_9 : decode cX7_get 9 = .ok (.ifCond .eq 19, 3) := by decide +kernel
theorem dX7_get_12 : decode cX7_get 12 = .ok (.aload_n 0, 1) := by decide +kernel
theorem dX7_get_13 : decode cX7_get 13 = .ok (.getfield 16, 3) := by decide +kernel
theorem dX7_get_16 : decode cX7_get 16 = .ok (.iload_n 1, 1) := by decide +kernel
theorem dX7_get_17 : decode cX7_get 17 = .ok (.iload_n 2, 1) := by decide +kernel
theorem dX7_get_18 : decode cX7_get 18 = .ok (.iload_n 3, 1) := by decide +kernel
theorem dX7_get_19 : decode cX7_get 19 = .ok (.iload 4, 2) := by decide +kernel
theorem dX7_get_21 : decode cX7_get 21 = .ok (.invokestatic 128, 3) := by decide +kernel
theorem dX7_get_24 : decode cX7_get 24 = .ok (.iaload, 1) := by decide +kernel
theorem dX7_get_25 : decode cX7_get 25 = .ok (.goto 4, 3) := by decide +kernel
theorem dX7_get_28 : decode cX7_get 28 = .ok (.iconst (-1), 1) := by decide +kernel
theorem dX7_get_29 : decode cX7_get 29 = .ok (.ireturn, 1) := by decide +kernel
theorem dX7_size_0 : decode cX7_size 0 = .ok (.iload_n 1, 1) := by decide +kernel
theorem dX7_size_1 : decode cX7_size 1 = .ok (.invokestatic 104, 3) := by decide +kernel
theorem dX7_size_4 : decode cX7_size 4 = .ok (.ifCond .eq 20, 3) := by decide +kernel
theorem dX7_size_7 : decode cX7_size 7 = .ok (.aload_n 0, 1) := by decide +kernel
theorem dX7_size_8 : decode cX7_size 8 = .ok (.iload_n 2, 1) := by decide +kernel
theorem dX7_size_9 : decode cX7_size 9 = .ok (.invokevirtual 136, 3) := by decide +kernel
theorem dX7_size_12 : decode cX7_size 12 = .ok (.ifCond .eq 12, 3) := by decide +kernel
theorem dX7_size_15 : decode cX7_size 15 = .ok (.aload_n 0, 1) := by decide +kernel
theorem dX7_size_16 : decode cX7_size 16 = .ok (.iload_n 1, 1) := by decide +kernel
theorem dX7_size_17 : decode cX7_size 17 = .ok (.iload_n 2, 1) := by decide +kernel
theorem dX7_size_18 : decode cX7_size 18 = .ok (.invokevirtual 118, 3) := by decide +kernel
theorem dX7_size_21 : decode cX7_size 21 = .ok (.goto 4, 3) := by decide +kernel
theorem dX7_size_24 : decode cX7_size 24 = .ok (.iconst (-1), 1) := by decide +kernel
theorem dX7_size_25 : decode cX7_size 25 = .ok (.ireturn, 1) := by decide +kernel
theorem dX7_ways_0 : decode cX7_ways 0 = .ok (.iload_n 1, 1) := by decide +kernel
theorem dX7_ways_1 : decode cX7_ways 1 = .ok (.invokestatic 104, 3) := by decide +kernel
theorem dX7_ways_4 : decode cX7_ways 4 = .ok (.ifCond .eq 12, 3) := by decide +kernel
theorem dX7_ways_7 : decode cX7_ways 7 = .ok (.aload_n 0, 1) := by decide +kernel
theorem dX7_ways_8 : decode cX7_ways 8 = .ok (.getfield 9, 3) := by decide +kernel
theorem dX7_ways_11 : decode cX7_ways 11 = .ok (.iload_n 1, 1) := by decide +kernel
theorem dX7_ways_12 : decode cX7_ways 12 = .ok (.iaload, 1) := by decide +kernel
theorem dX7_ways_13 : decode cX7_ways 13 = .ok (.goto 4, 3) := by decide +kernel
theorem dX7_ways_16 : decode cX7_ways 16 = .ok (.iconst (-1), 1) := by decide +kernel
theorem dX7_ways_17 : decode cX7_ways 17 = .ok (.ireturn, 1) := by decide +kernel
theorem dX7_span_0 : decode cX7_span 0 = .ok (.iload_n 1, 1) := by decide +kernel
theorem dX7_span_1 : decode cX7_span 1 = .ok (.invokestatic 104, 3) := by decide +kernel
theorem dX7_span_4 : decode cX7_span 4 = .ok (.ifCond .eq 34, 3) := by decide +kernel
theorem dX7_span_7 : decode cX7_span 7 = .ok (.aload_n 0, 1) := by decide +kernel
theorem dX7_span_8 : decode cX7_span 8 = .ok (.iload_n 2, 1) := by decide +kernel
theorem dX7_span_9 : decode cX7_span 9 = .ok (.invokevirtual 108, 3) := by decide +kernel
theorem dX7_span_12 : decode cX7_span 12 = .ok (.ifCond .eq 26, 3) := by decide +kernel
theorem dX7_span_15 : decode cX7_span 15 = .ok (.aload_n 0, 1) := by decide +kernel
theorem dX7_span_16 : decode cX7_span 16 = .ok (.iload_n 3, 1) := by decide +kernel
theorem dX7_span_17 : decode cX7_span 17 = .ok (.invokevirtual 136, 3) := by decide +kernel
theorem dX7_span_20 : decode cX7_span 20 = .ok (.ifCond .eq 18, 3) := by decide +kernel
theorem dX7_span_23 : decode cX7_span 23 = .ok (.aload_n 0, 1) := by decide +kernel
theorem dX7_span_24 : decode cX7_span 24 = .ok (.iload 4, 2) := by decide +kernel
theorem dX7_span_26 : decode cX7_span 26 = .ok (.invokevirtual 136, 3) := by decide +kernel
theorem dX7_span_29 : decode cX7_span 29 = .ok (.ifCond .eq 9, 3) := by decide +kernel
theorem dX7_span_32 : decode cX7_span 32 = .ok (.iload_n 3, 1) := by decide +kernel
theorem dX7_span_33 : decode cX7_span 33 = .ok (.iload 4, 2) := by decide +kernel
theorem dX7_span_35 : decode cX7_span 35 = .ok (.if_icmp .le 5, 3) := by decide +kernel
theorem dX7_span_38 : decode cX7_span 38 = .ok (.iconst 0, 1) := by decide +kernel
theorem dX7_span_39 : decode cX7_span 39 = .ok (.ireturn, 1) := by decide +kernel
theorem dX7_span_40 : decode cX7_span 40 = .ok (.aload_n 0, 1) := by decide +kernel
theorem dX7_span_41 : decode cX7_span 41 = .ok (.iload_n 1, 1) := by decide +kernel
theorem dX7_span_42 : decode cX7_span 42 = .ok (.iload_n 2, 1) := by decide +kernel
theorem dX7_span_43 : decode cX7_span 43 = .ok (.invokevirtual 111, 3) := by decide +kernel
theorem dX7_span_46 : decode cX7_span 46 = .ok (.iload_n 3, 1) := by decide +kernel
theorem dX7_span_47 : decode cX7_span 47 = .ok (.istore 5, 2) := by decide +kernel
theorem dX7_span_49 : decode cX7_span 49 = .ok (.iload 5, 2) := by decide +kernel
theorem dX7_span_51 : decode cX7_span 51 = .ok (.iload 4, 2) := by decide +kernel
theorem dX7_span_53 : decode cX7_span 53 = .ok (.if_icmp .gt 43, 3) := by decide +kernel
theorem dX7_span_56 : decode cX7_span 56 = .ok (.aload_n 0, 1) := by decide +kernel
theorem dX7_span_57 : decode cX7_span 57 = .ok (.getfield 13, 3) := by decide +kernel
theorem dX7_span_60 : decode cX7_span 60 = .ok (.bipush 8, 2) := by decide +kernel
theorem dX7_span_62 : decode cX7_span 62 = .ok (.iload_n 1, 1) := by decide +kernel
theorem dX7_span_63 : decode cX7_span 63 = .ok (.imul, 1) := by decide +kernel
theorem dX7_span_64 : decode cX7_span 64 = .ok (.iload 5, 2) := by decide +kernel
theorem dX7_span_66 : decode cX7_span 66 = .ok (.iadd, 1) := by decide +kernel
theorem dX7_span_67 : decode cX7_span 67 = .ok (.iconst 1, 1) := by decide +kernel
theorem dX7_span_68 : decode cX7_span 68 = .ok (.iastore, 1) := by decide +kernel
theorem dX7_span_69 : decode cX7_span 69 = .ok (.iload 5, 2) := by decide +kernel
theorem dX7_span_71 : decode cX7_span 71 = .ok (.iload 4, 2) := by decide +kernel
theorem dX7_span_73 : decode cX7_span 73 = .ok (.if_icmp .ge 17, 3) := by decide +kernel
theorem dX7_span_76 : decode cX7_span 76 = .ok (.aload_n 0, 1) := by decide +kernel
theorem dX7_span_77 : decode cX7_span 77 = .ok (.getfield 16, 3) := by decide +kernel
theorem dX7_span_80 : decode cX7_span 80 = .ok (.iload_n 1, 1) := by decide +kernel
theorem dX7_span_81 : decode cX7_span 81 = .ok (.iload 5, 2) := by decide +kernel
theorem dX7_span_83 : decode cX7_span 83 = .ok (.iconst 0, 1) := by decide +kernel
theorem dX7_span_84 : decode cX7_span 84 = .ok (.iconst 0, 1) := by decide +kernel
theorem dX7_span_85 : decode cX7_span 85 = .ok (.invokestatic 128, 3) := by decide +kernel
theorem dX7_span_88 : decode cX7_span 88 = .ok (.iconst 1, 1) := by decide +kernel
theorem dX7_span_89 : decode cX7_span 89 = .ok (.iastore, 1) := by decide +kernel
theorem dX7_span_90 : decode cX7_span 90 = .ok (.iinc 5 1, 3) := by decide +kernel
theorem dX7_span_93 : decode cX7_span 93 = .ok (.goto (-44), 3) := by decide +kernel
theorem dX7_span_96 : decode cX7_span 96 = .ok (.iconst 1, 1) := by decide +kernel
theorem dX7_span_97 : decode cX7_span 97 = .ok (.ireturn, 1) := by decide +kernel
theorem dX7_becomes_0 : decode cX7_becomes 0 = .ok (.aload_n 0, 1) := by decide +kernel
theorem dX7_becomes_1 : decode cX7_becomes 1 = .ok (.getfield 9, 3) := by decide +kernel
theorem dX7_becomes_4 : decode cX7_becomes 4 = .ok (.iload_n 1, 1) := by decide +kernel
theorem dX7_becomes_5 : decode cX7_becomes 5 = .ok (.iload_n 2, 1) := by decide +kernel
theorem dX7_becomes_6 : decode cX7_becomes 6 = .ok (.iastore, 1) := by decide +kernel
theorem dX7_becomes_7 : decode cX7_becomes 7 = .ok (.iconst 0, 1) := by decide +kernel
theorem dX7_becomes_8 : decode cX7_becomes 8 = .ok (.istore_n 3, 1) := by decide +kernel
theorem dX7_becomes_9 : decode cX7_becomes 9 = .ok (.iload_n 3, 1) := by decide +kernel
theorem dX7_becomes_10 : decode cX7_becomes 10 = .ok (.bipush 8, 2) := by decide +kernel
theorem dX7_becomes_12 : decode cX7_becomes 12 = .ok (.if_icmp .ge 26, 3) := by decide +kernel
theorem dX7_becomes_15 : decode cX7_becomes 15 = .ok (.aload_n 0, 1) := by decide +kernel
theorem dX7_becomes_16 : decode cX7_becomes 16 = .ok (.getfield 13, 3) := by decide +kernel
theorem dX7_becomes_19 : decode cX7_becomes 19 = .ok (.bipush 8, 2) := by decide +kernel
theorem dX7_becomes_21 : decode cX7_becomes 21 = .ok (.iload_n 1, 1) := by decide +kernel
theorem dX7_becomes_22 : decode cX7_becomes 22 = .ok (.imul, 1) := by decide +kernel
theorem dX7_becomes_23 : decode cX7_becomes 23 = .ok (.iload_n 3, 1) := by decide +kernel
theorem dX7_becomes_24 : decode cX7_becomes 24 = .ok (.iadd, 1) := by decide +kernel
theorem dX7_becomes_25 : decode cX7_becomes 25 = .ok (.aload_n 0, 1) := by decide +kernel
theorem dX7_becomes_26 : decode cX7_becomes 26 = .ok (.getfield 19, 3) := by decide +kernel
theorem dX7_becomes_29 : decode cX7_becomes 29 = .ok (.iload_n 3, 1) := by decide +kernel
theorem dX7_becomes_30 : decode cX7_becomes 30 = .ok (.iaload, 1) := by decide +kernel
theorem dX7_becomes_31 : decode cX7_becomes 31 = .ok (.iastore, 1) := by decide +kernel
theorem dX7_becomes_32 : decode cX7_becomes 32 = .ok (.iinc 3 1, 3) := by decide +kernel
theorem dX7_becomes_35 : decode cX7_becomes 35 = .ok (.goto (-26), 3) := by decide +kernel
theorem dX7_becomes_38 : decode cX7_becomes 38 = .ok (.iconst 0, 1) := by decide +kernel
theorem dX7_becomes_39 : decode cX7_becomes 39 = .ok (.istore_n 3, 1) := by decide +kernel
theorem dX7_becomes_40 : decode cX7_becomes 40 = .ok (.iload_n 3, 1) := by decide +kernel
theorem dX7_becomes_41 : decode cX7_becomes 41 = .ok (.sipush 128, 3) := by decide +kernel
theorem dX7_becomes_44 : decode cX7_becomes 44 = .ok (.if_icmp .ge 27, 3) := by decide +kernel
theorem dX7_becomes_47 : decode cX7_becomes 47 = .ok (.aload_n 0, 1) := by decide +kernel
theorem dX7_becomes_48 : decode cX7_becomes 48 = .ok (.getfield 16, 3) := by decide +kernel
theorem dX7_becomes_51 : decode cX7_becomes 51 = .ok (.sipush 128, 3) := by decide +kernel
theorem dX7_becomes_54 : decode cX7_becomes 54 = .ok (.iload_n 1, 1) := by decide +kernel
theorem dX7_becomes_55 : decode cX7_becomes 55 = .ok (.imul, 1) := by decide +kernel
theorem dX7_becomes_56 : decode cX7_becomes 56 = .ok (.iload_n 3, 1) := by decide +kernel
theorem dX7_becomes_57 : decode cX7_becomes 57 = .ok (.iadd, 1) := by decide +kernel
theorem dX7_becomes_58 : decode cX7_becomes 58 = .ok (.aload_n 0, 1) := by decide +kernel
theorem dX7_becomes_59 : decode cX7_becomes 59 = .ok (.getfield 22, 3) := by decide +kernel
theorem dX7_becomes_62 : decode cX7_becomes 62 = .ok (.iload_n 3, 1) := by decide +kernel
theorem dX7_becomes_63 : decode cX7_becomes 63 = .ok (.iaload, 1) := by decide +kernel
theorem dX7_becomes_64 : decode cX7_becomes 64 = .ok (.iastore, 1) := by decide +kernel
theorem dX7_becomes_65 : decode cX7_becomes 65 = .ok (.iinc 3 1, 3) := by decide +kernel
theorem dX7_becomes_68 : decode cX7_becomes 68 = .ok (.goto (-28), 3) := by decide +kernel
theorem dX7_becomes_71 : decode cX7_becomes 71 = .ok (.return_, 1) := by decide +kernel
theorem dX7_copies_0 : decode cX7_copies 0 = .ok (.iconst 0, 1) := by decide +kernel
theorem dX7_copies_1 : decode cX7_copies 1 = .ok (.istore_n 2, 1) := by decide +kernel
theorem dX7_copies_2 : decode cX7_copies 2 = .ok (.iload_n 2, 1) := by decide +kernel
theorem dX7_copies_3 : decode cX7_copies 3 = .ok (.bipush 8, 2) := by decide +kernel
theorem dX7_copies_5 : decode cX7_copies 5 = .ok (.if_icmp .ge 26, 3) := by decide +kernel
theorem dX7_copies_8 : decode cX7_copies 8 = .ok (.aload_n 0, 1) := by decide +kernel
theorem dX7_copies_9 : decode cX7_copies 9 = .ok (.getfield 19, 3) := by decide +kernel
theorem dX7_copies_12 : decode cX7_copies 12 = .ok (.iload_n 2, 1) := by decide +kernel
theorem dX7_copies_13 : decode cX7_copies 13 = .ok (.aload_n 0, 1) := by decide +kernel
theorem dX7_copies_14 : decode cX7_copies 14 = .ok (.getfield 13, 3) := by decide +kernel
theorem dX7_copies_17 : decode cX7_copies 17 = .ok (.bipush 8, 2) := by decide +kernel
theorem dX7_copies_19 : decode cX7_copies 19 = .ok (.iload_n 1, 1) := by decide +kernel
theorem dX7_copies_20 : decode cX7_copies 20 = .ok (.imul, 1) := by decide +kernel
theorem dX7_copies_21 : decode cX7_copies 21 = .ok (.iload_n 2, 1) := by decide +kernel
theorem dX7_copies_22 : decode cX7_copies 22 = .ok (.iadd, 1) := by decide +kernel
theorem dX7_copies_23 : decode cX7_copies 23 = .ok (.iaload, 1) := by decide +kernel
theorem dX7_copies_24 : decode cX7_copies 24 = .ok (.iastore, 1) := by decide +kernel
theorem dX7_copies_25 : decode cX7_copies 25 = .ok (.iinc 2 1, 3) := by decide +kernel
theorem dX7_copies_28 : decode cX7_copies 28 = .ok (.goto (-26), 3) := by decide +kernel
theorem dX7_copies_31 : decode cX7_copies 31 = .ok (.iconst 0, 1) := by decide +kernel
theorem dX7_copies_32 : decode cX7_copies 32 = .ok (.istore_n 2, 1) := by decide +kernel
theorem dX7_copies_33 : decode cX7_copies 33 = .ok (.iload_n 2, 1) := by decide +kernel
theorem dX7_copies_34 : decode cX7_copies 34 = .ok (.sipush 128, 3) := by decide +kernel
theorem dX7_copies_37 : decode cX7_copies 37 = .ok (.if_icmp .ge 27, 3) := by decide +kernel
theorem dX7_copies_40 : decode cX7_copies 40 = .ok (.aload_n 0, 1) := by decide +kernel
theorem dX7_copies_41 : decode cX7_copies 41 = .ok (.getfield 22, 3) := by decide +kernel
theorem dX7_copies_44 : decode cX7_copies 44 = .ok (.iload_n 2, 1) := by decide +kernel
theorem dX7_copies_45 : decode cX7_copies 45 = .ok (.aload_n 0, 1) := by decide +kernel
theorem dX7_copies_46 : decode cX7_copies 46 = .ok (.getfield 16, 3) := by decide +kernel
theorem dX7_copies_49 : decode cX7_copies 49 = .ok (.sipush 128, 3) := by decide +kernel
theorem dX7_copies_52 : decode cX7_copies 52 = .ok (.iload_n 1, 1) := by decide +kernel
theorem dX7_copies_53 : decode cX7_copies 53 = .ok (.imul, 1) := by decide +kernel
theorem dX7_copies_54 : decode cX7_copies 54 = .ok (.iload_n 2, 1) := by decide +kernel
theorem dX7_copies_55 : decode cX7_copies 55 = .ok (.iadd, 1) := by decide +kernel
theorem dX7_copies_56 : decode cX7_copies 56 = .ok (.iaload, 1) := by decide +kernel
theorem dX7_copies_57 : decode cX7_copies 57 = .ok (.iastore, 1) := by decide +kernel
theorem dX7_copies_58 : decode cX7_copies 58 = .ok (.iinc 2 1, 3) := by decide +kernel
theorem dX7_copies_61 : decode cX7_copies 61 = .ok (.goto (-28), 3) := by decide +kernel
theorem dX7_copies_64 : decode cX7_copies 64 = .ok (.return_, 1) := by decide +kernel
theorem dX7_beside_0 : decode cX7_beside 0 = .ok (.iload_n 1, 1) := by decide +kernel
theorem dX7_beside_1 : decode cX7_beside 1 = .ok (.invokestatic 104, 3) := by decide +kernel
theorem dX7_beside_4 : decode cX7_beside 4 = .ok (.ifCond .eq 32, 3) := by decide +kernel
theorem dX7_beside_7 : decode cX7_beside 7 = .ok (.iload_n 2, 1) := by decide +kernel
theorem dX7_beside_8 : decode cX7_beside 8 = .ok (.invokestatic 104, 3) := by decide +kernel
theorem dX7_beside_11 : decode cX7_beside 11 = .ok (.ifCond .eq 25, 3) := by decide +kernel
theorem dX7_beside_14 : decode cX7_beside 14 = .ok (.iload_n 3, 1) := by decide +kernel
theorem dX7_beside_15 : decode cX7_beside 15 = .ok (.invokestatic 104, 3) := by decide +kernel
theorem dX7_beside_18 : decode cX7_beside 18 = .ok (.ifCond .eq 18, 3) := by decide +kernel
theorem dX7_beside_21 : decode cX7_beside 21 = .ok (.aload_n 0, 1) := by decide +kernel
theorem dX7_beside_22 : decode cX7_beside 22 = .ok (.getfield 9, 3) := by decide +kernel
theorem dX7_beside_25 : decode cX7_beside 25 = .ok (.iload_n 1, 1) := by decide +kernel
theorem dX7_beside_26 : decode cX7_beside 26 = .ok (.iaload, 1) := by decide +kernel
theorem dX7_beside_27 : decode cX7_beside 27 = .ok (.aload_n 0, 1) := by decide +kernel
theorem dX7_beside_28 : decode cX7_beside 28 = .ok (.getfield 9, 3) := by decide +kernel
theorem dX7_beside_31 : decode cX7_beside 31 = .ok (.iload_n 2, 1) := by decide +kernel
theorem dX7_beside_32 : decode cX7_beside 32 = .ok (.iaload, 1) := by decide +kernel
theorem dX7_beside_33 : decode cX7_beside 33 = .ok (.if_icmp .eq 5, 3) := by decide +kernel
theorem dX7_beside_36 : decode cX7_beside 36 = .ok (.iconst 0, 1) := by decide +kernel
theorem dX7_beside_37 : decode cX7_beside 37 = .ok (.ireturn, 1) := by decide +kernel
theorem dX7_beside_38 : decode cX7_beside 38 = .ok (.iconst 0, 1) := by decide +kernel
theorem dX7_beside_39 : decode cX7_beside 39 = .ok (.istore 4, 2) := by decide +kernel
theorem dX7_beside_41 : decode cX7_beside 41 = .ok (.iload 4, 2) := by decide +kernel
theorem dX7_beside_43 : decode cX7_beside 43 = .ok (.aload_n 0, 1) := by decide +kernel
theorem dX7_beside_44 : decode cX7_beside 44 = .ok (.getfield 93, 3) := by decide +kernel
theorem dX7_beside_47 : decode cX7_beside 47 = .ok (.if_icmp .ge 30, 3) := by decide +kernel
theorem dX7_beside_50 : decode cX7_beside 50 = .ok (.aload_n 0, 1) := by decide +kernel
theorem dX7_beside_51 : decode cX7_beside 51 = .ok (.iload_n 1, 1) := by decide +kernel
theorem dX7_beside_52 : decode cX7_beside 52 = .ok (.iload 4, 2) := by decide +kernel
theorem dX7_beside_54 : decode cX7_beside 54 = .ok (.invokevirtual 118, 3) := by decide +kernel
theorem dX7_beside_57 : decode cX7_beside 57 = .ok (.aload_n 0, 1) := by decide +kernel
theorem dX7_beside_58 : decode cX7_beside 58 = .ok (.iload_n 2, 1) := by decide +kernel
theorem dX7_beside_59 : decode cX7_beside 59 = .ok (.iload 4, 2) := by decide +kernel
theorem dX7_beside_61 : decode cX7_beside 61 = .ok (.invokevirtual 118, 3) := by decide +kernel
theorem dX7_beside_64 : decode cX7_beside 64 = .ok (.iadd, 1) := by decide +kernel
theorem dX7_beside_65 : decode cX7_beside 65 = .ok (.iconst 4, 1) := by decide +kernel
theorem dX7_beside_66 : decode cX7_beside 66 = .ok (.if_icmp .le 5, 3) := by decide +kernel
theorem dX7_beside_69 : decode cX7_beside 69 = .ok (.iconst 0, 1) := by decide +kernel
theorem dX7_beside_70 : decode cX7_beside 70 = .ok (.ireturn, 1) := by decide +kernel
theorem dX7_beside_71 : decode cX7_beside 71 = .ok (.iinc 4 1, 3) := by decide +kernel
theorem dX7_beside_74 : decode cX7_beside 74 = .ok (.goto (-33), 3) := by decide +kernel
theorem dX7_beside_77 : decode cX7_beside 77 = .ok (.aload_n 0, 1) := by decide +kernel
theorem dX7_beside_78 : decode cX7_beside 78 = .ok (.iload_n 1, 1) := by decide +kernel
theorem dX7_beside_79 : decode cX7_beside 79 = .ok (.invokevirtual 139, 3) := by decide +kernel
theorem dX7_beside_82 : decode cX7_beside 82 = .ok (.iconst 0, 1) := by decide +kernel
theorem dX7_beside_83 : decode cX7_beside 83 = .ok (.istore 4, 2) := by decide +kernel
theorem dX7_beside_85 : decode cX7_beside 85 = .ok (.iload 4, 2) := by decide +kernel
theorem dX7_beside_87 : decode cX7_beside 87 = .ok (.aload_n 0, 1) := by decide +kernel
theorem dX7_beside_88 : decode cX7_beside 88 = .ok (.getfield 93, 3) := by decide +kernel
theorem dX7_beside_91 : decode cX7_beside 91 = .ok (.if_icmp .ge 26, 3) := by decide +kernel
theorem dX7_beside_94 : decode cX7_beside 94 = .ok (.aload_n 0, 1) := by decide +kernel
theorem dX7_beside_95 : decode cX7_beside 95 = .ok (.getfield 19, 3) := by decide +kernel
theorem dX7_beside_98 : decode cX7_beside 98 = .ok (.iload 4, 2) := by decide +kernel
theorem dX7_beside_100 : decode cX7_beside 100 = .ok (.dup2, 1) := by decide +kernel
theorem dX7_beside_101 : decode cX7_beside 101 = .ok (.iaload, 1) := by decide +kernel
theorem dX7_beside_102 : decode cX7_beside 102 = .ok (.aload_n 0, 1) := by decide +kernel
theorem dX7_beside_103 : decode cX7_beside 103 = .ok (.iload_n 2, 1) := by decide +kernel
theorem dX7_beside_104 : decode cX7_beside 104 = .ok (.iload 4, 2) := by decide +kernel
theorem dX7_beside_106 : decode cX7_beside 106 = .ok (.invokevirtual 118, 3) := by decide +kernel
theorem dX7_beside_109 : decode cX7_beside 109 = .ok (.iadd, 1) := by decide +kernel
theorem dX7_beside_110 : decode cX7_beside 110 = .ok (.iastore, 1) := by decide +kernel
theorem dX7_beside_111 : decode cX7_beside 111 = .ok (.iinc 4 1, 3) := by decide +kernel
theorem dX7_beside_114 : decode cX7_beside 114 = .ok (.goto (-29), 3) := by decide +kernel
theorem dX7_beside_117 : decode cX7_beside 117 = .ok (.iconst 0, 1) := by decide +kernel
theorem dX7_beside_118 : decode cX7_beside 118 = .ok (.istore 4, 2) := by decide +kernel
theorem dX7_beside_120 : decode cX7_beside 120 = .ok (.iload 4, 2) := by decide +kernel
theorem dX7_beside_122 : decode cX7_beside 122 = .ok (.aload_n 0, 1) := by decide +kernel
theorem dX7_beside_123 : decode cX7_beside 123 = .ok (.getfield 93, 3) := by decide +kernel
theorem dX7_beside_126 : decode cX7_beside 126 = .ok (.iconst 1, 1) := by decide +kernel
theorem dX7_beside_127 : decode cX7_beside 127 = .ok (.isub, 1) := by decide +kernel
theorem dX7_beside_128 : decode cX7_beside 128 = .ok (.if_icmp .ge 115, 3) := by decide +kernel
theorem dX7_beside_131 : decode cX7_beside 131 = .ok (.aload_n 0, 1) := by decide +kernel
theorem dX7_beside_132 : decode cX7_beside 132 = .ok (.iload_n 1, 1) := by decide +kernel
theorem dX7_beside_133 : decode cX7_beside 133 = .ok (.iload 4, 2) := by decide +kernel
theorem dX7_beside_135 : decode cX7_beside 135 = .ok (.invokevirtual 121, 3) := by decide +kernel
theorem dX7_beside_138 : decode cX7_beside 138 = .ok (.istore 5, 2) := by decide +kernel
theorem dX7_beside_140 : decode cX7_beside 140 = .ok (.aload_n 0, 1) := by decide +kernel
theorem dX7_beside_141 : decode cX7_beside 141 = .ok (.iload_n 1, 1) := by decide +kernel
theorem dX7_beside_142 : decode cX7_beside 142 = .ok (.iload 4, 2) := by decide +kernel
theorem dX7_beside_144 : decode cX7_beside 144 = .ok (.invokevirtual 115, 3) := by decide +kernel
theorem dX7_beside_147 : decode cX7_beside 147 = .ok (.istore 6, 2) := by decide +kernel
theorem dX7_beside_149 : decode cX7_beside 149 = .ok (.iconst 0, 1) := by decide +kernel
theorem dX7_beside_150 : decode cX7_beside 150 = .ok (.istore 7, 2) := by decide +kernel
theorem dX7_beside_152 : decode cX7_beside 152 = .ok (.iload 7, 2) := by decide +kernel
theorem dX7_beside_154 : decode cX7_beside 154 = .ok (.aload_n 0, 1) := by decide +kernel
theorem dX7_beside_155 : decode cX7_beside 155 = .ok (.iload_n 2, 1) := by decide +kernel
theorem dX7_beside_156 : decode cX7_beside 156 = .ok (.iload 6, 2) := by decide +kernel
theorem dX7_beside_158 : decode cX7_beside 158 = .ok (.invokevirtual 118, 3) := by decide +kernel
theorem dX7_beside_161 : decode cX7_beside 161 = .ok (.if_icmp .ge 76, 3) := by decide +kernel
theorem dX7_beside_164 : decode cX7_beside 164 = .ok (.iconst 0, 1) := by decide +kernel
theorem dX7_beside_165 : decode cX7_beside 165 = .ok (.istore 8, 2) := by decide +kernel
theorem dX7_beside_167 : decode cX7_beside 167 = .ok (.iload 8, 2) := by decide +kernel
theorem dX7_beside_169 : decode cX7_beside 169 = .ok (.aload_n 0, 1) := by decide +kernel
theorem dX7_beside_170 : decode cX7_beside 170 = .ok (.iload_n 2, 1) := by decide +kernel
theorem dX7_beside_171 : decode cX7_beside 171 = .ok (.iload 5, 2) := by decide +kernel
theorem dX7_beside_173 : decode cX7_beside 173 = .ok (.invokevirtual 118, 3) := by decide +kernel
theorem dX7_beside_176 : decode cX7_beside 176 = .ok (.if_icmp .ge 55, 3) := by decide +kernel
theorem dX7_beside_179 : decode cX7_beside 179 = .ok (.aload_n 0, 1) := by decide +kernel
theorem dX7_beside_180 : decode cX7_beside 180 = .ok (.getfield 22, 3) := by decide +kernel
theorem dX7_beside_183 : decode cX7_beside 183 = .ok (.iconst 0, 1) := by decide +kernel
theorem dX7_beside_184 : decode cX7_beside 184 = .ok (.iload 4, 2) := by decide +kernel
theorem dX7_beside_186 : decode cX7_beside 186 = .ok (.aload_n 0, 1) := by decide +kernel
theorem dX7_beside_187 : decode cX7_beside 187 = .ok (.iload_n 1, 1) := by decide +kernel
theorem dX7_beside_188 : decode cX7_beside 188 = .ok (.iload 6, 2) := by decide +kernel
theorem dX7_beside_190 : decode cX7_beside 190 = .ok (.invokevirtual 118, 3) := by decide +kernel
theorem dX7_beside_193 : decode cX7_beside 193 = .ok (.iload 7, 2) := by decide +kernel
theorem dX7_beside_195 : decode cX7_beside 195 = .ok (.iadd, 1) := by decide +kernel
theorem dX7_beside_196 : decode cX7_beside 196 = .ok (.aload_n 0, 1) := by decide +kernel
theorem dX7_beside_197 : decode cX7_beside 197 = .ok (.iload_n 1, 1) := by decide +kernel
theorem dX7_beside_198 : decode cX7_beside 198 = .ok (.iload 5, 2) := by decide +kernel
theorem dX7_beside_200 : decode cX7_beside 200 = .ok (.invokevirtual 118, 3) := by decide +kernel
theorem dX7_beside_203 : decode cX7_beside 203 = .ok (.iload 8, 2) := by decide +kernel
theorem dX7_beside_205 : decode cX7_beside 205 = .ok (.iadd, 1) := by decide +kernel
theorem dX7_beside_206 : decode cX7_beside 206 = .ok (.invokestatic 128, 3) := by decide +kernel
theorem dX7_beside_209 : decode cX7_beside 209 = .ok (.aload_n 0, 1) := by decide +kernel
theorem dX7_beside_210 : decode cX7_beside 210 = .ok (.getfield 16, 3) := by decide +kernel
theorem dX7_beside_213 : decode cX7_beside 213 = .ok (.iload_n 2, 1) := by decide +kernel
theorem dX7_beside_214 : decode cX7_beside 214 = .ok (.iload 4, 2) := by decide +kernel
theorem dX7_beside_216 : decode cX7_beside 216 = .ok (.iload 7, 2) := by decide +kernel
theorem dX7_beside_218 : decode cX7_beside 218 = .ok (.iload 8, 2) := by decide +kernel
theorem dX7_beside_220 : decode cX7_beside 220 = .ok (.invokestatic 128, 3) := by decide +kernel
theorem dX7_beside_223 : decode cX7_beside 223 = .ok (.iaload, 1) := by decide +kernel
theorem dX7_beside_224 : decode cX7_beside 224 = .ok (.iastore, 1) := by decide +kernel
theorem dX7_beside_225 : decode cX7_beside 225 = .ok (.iinc 8 1, 3) := by decide +kernel
theorem dX7_beside_228 : decode cX7_beside 228 = .ok (.goto (-61), 3) := by decide +kernel
theorem dX7_beside_231 : decode cX7_beside 231 = .ok (.iinc 7 1, 3) := by decide +kernel
theorem dX7_beside_234 : decode cX7_beside 234 = .ok (.goto (-82), 3) := by decide +kernel
theorem dX7_beside_237 : decode cX7_beside 237 = .ok (.iinc 4 1, 3) := by decide +kernel
theorem dX7_beside_240 : decode cX7_beside 240 = .ok (.goto (-120), 3) := by decide +kernel
theorem dX7_beside_243 : decode cX7_beside 243 = .ok (.aload_n 0, 1) := by decide +kernel
theorem dX7_beside_244 : decode cX7_beside 244 = .ok (.iload_n 3, 1) := by decide +kernel
theorem dX7_beside_245 : decode cX7_beside 245 = .ok (.aload_n 0, 1) := by decide +kernel
theorem dX7_beside_246 : decode cX7_beside 246 = .ok (.getfield 9, 3) := by decide +kernel
theorem dX7_beside_249 : decode cX7_beside 249 = .ok (.iload_n 1, 1) := by decide +kernel
theorem dX7_beside_250 : decode cX7_beside 250 = .ok (.iaload, 1) := by decide +kernel
theorem dX7_beside_251 : decode cX7_beside 251 = .ok (.invokevirtual 143, 3) := by decide +kernel
theorem dX7_beside_254 : decode cX7_beside 254 = .ok (.iconst 1, 1) := by decide +kernel
theorem dX7_beside_255 : decode cX7_beside 255 = .ok (.ireturn, 1) := by decide +kernel
theorem dX7_mix_0 : decode cX7_mix 0 = .ok (.iload_n 1, 1) := by decide +kernel
theorem dX7_mix_1 : decode cX7_mix 1 = .ok (.invokestatic 104, 3) := by decide +kernel
theorem dX7_mix_4 : decode cX7_mix 4 = .ok (.ifCond .eq 65, 3) := by decide +kernel
theorem dX7_mix_7 : decode cX7_mix 7 = .ok (.aload_n 0, 1) := by decide +kernel
theorem dX7_mix_8 : decode cX7_mix 8 = .ok (.iload_n 2, 1) := by decide +kernel
theorem dX7_mix_9 : decode cX7_mix 9 = .ok (.invokevirtual 136, 3) := by decide +kernel
theorem dX7_mix_12 : decode cX7_mix 12 = .ok (.ifCond .eq 57, 3) := by decide +kernel
theorem dX7_mix_15 : decode cX7_mix 15 = .ok (.iload_n 3, 1) := by decide +kernel
theorem dX7_mix_16 : decode cX7_mix 16 = .ok (.iconst 0, 1) := by decide +kernel
theorem dX7_mix_17 : decode cX7_mix 17 = .ok (.aload_n 0, 1) := by decide +kernel
theorem dX7_mix_18 : decode cX7_mix 18 = .ok (.iload_n 1, 1) := by decide +kernel
theorem dX7_mix_19 : decode cX7_mix 19 = .ok (.iload_n 2, 1) := by decide +kernel
theorem dX7_mix_20 : decode cX7_mix 20 = .ok (.invokevirtual 118, 3) := by decide +kernel
theorem dX7_mix_23 : decode cX7_mix 23 = .ok (.iconst 1, 1) := by decide +kernel
theorem dX7_mix_24 : decode cX7_mix 24 = .ok (.isub, 1) := by decide +kernel
theorem dX7_mix_25 : decode cX7_mix 25 = .ok (.invokestatic 96, 3) := by decide +kernel
theorem dX7_mix_28 : decode cX7_mix 28 = .ok (.ifCond .eq 41, 3) := by decide +kernel
theorem dX7_mix_31 : decode cX7_mix 31 = .ok (.iload 4, 2) := by decide +kernel
theorem dX7_mix_33 : decode cX7_mix 33 = .ok (.iconst 0, 1) := by decide +kernel
theorem dX7_mix_34 : decode cX7_mix 34 = .ok (.aload_n 0, 1) := by decide +kernel
theorem dX7_mix_35 : decode cX7_mix 35 = .ok (.iload_n 1, 1) := by decide +kernel
theorem dX7_mix_36 : decode cX7_mix 36 = .ok (.iload_n 2, 1) := by decide +kernel
theorem dX7_mix_37 : decode cX7_mix 37 = .ok (.invokevirtual 118, 3) := by decide +kernel
theorem dX7_mix_40 : decode cX7_mix 40 = .ok (.iconst 1, 1) := by decide +kernel
theorem dX7_mix_41 : decode cX7_mix 41 = .ok (.isub, 1) := by decide +kernel
theorem dX7_mix_42 : decode cX7_mix 42 = .ok (.invokestatic 96, 3) := by decide +kernel
theorem dX7_mix_45 : decode cX7_mix 45 = .ok (.ifCond .eq 24, 3) := by decide +kernel
theorem dX7_mix_48 : decode cX7_mix 48 = .ok (.iload_n 3, 1) := by decide +kernel
theorem dX7_mix_49 : decode cX7_mix 49 = .ok (.iload 4, 2) := by decide +kernel
theorem dX7_mix_51 : decode cX7_mix 51 = .ok (.if_icmp .eq 18, 3) := by decide +kernel
theorem dX7_mix_54 : decode cX7_mix 54 = .ok (.iload 5, 2) := by decide +kernel
theorem dX7_mix_56 : decode cX7_mix 56 = .ok (.iconst 0, 1) := by decide +kernel
theorem dX7_mix_57 : decode cX7_mix 57 = .ok (.aload_n 0, 1) := by decide +kernel
theorem dX7_mix_58 : decode cX7_mix 58 = .ok (.getfield 80, 3) := by decide +kernel
theorem dX7_mix_61 : decode cX7_mix 61 = .ok (.iconst 1, 1) := by decide +kernel
theorem dX7_mix_62 : decode cX7_mix 62 = .ok (.isub, 1) := by decide +kernel
theorem dX7_mix_63 : decode cX7_mix 63 = .ok (.invokestatic 96, 3) := by decide +kernel
theorem dX7_mix_66 : decode cX7_mix 66 = .ok (.ifCond .ne 5, 3) := by decide +kernel
theorem dX7_mix_69 : decode cX7_mix 69 = .ok (.iconst 0, 1) := by decide +kernel
theorem dX7_mix_70 : decode cX7_mix 70 = .ok (.ireturn, 1) := by decide +kernel
theorem dX7_mix_71 : decode cX7_mix 71 = .ok (.iload_n 2, 1) := by decide +kernel
theorem dX7_mix_72 : decode cX7_mix 72 = .ok (.iconst 1, 1) := by decide +kernel
theorem dX7_mix_73 : decode cX7_mix 73 = .ok (.isub, 1) := by decide +kernel
theorem dX7_mix_74 : decode cX7_mix 74 = .ok (.istore 6, 2) := by decide +kernel
theorem dX7_mix_76 : decode cX7_mix 76 = .ok (.iload 6, 2) := by decide +kernel
theorem dX7_mix_78 : decode cX7_mix 78 = .ok (.iload_n 2, 1) := by decide +kernel
theorem dX7_mix_79 : decode cX7_mix 79 = .ok (.if_icmp .gt 197, 3) := by decide +kernel
theorem dX7_mix_82 : decode cX7_mix 82 = .ok (.iload 6, 2) := by decide +kernel
theorem dX7_mix_84 : decode cX7_mix 84 = .ok (.ifCond .lt 186, 3) := by decide +kernel
theorem dX7_mix_87 : decode cX7_mix 87 = .ok (.iload 6, 2) := by decide +kernel
theorem dX7_mix_89 : decode cX7_mix 89 = .ok (.aload_n 0, 1) := by decide +kernel
theorem dX7_mix_90 : decode cX7_mix 90 = .ok (.getfield 93, 3) := by decide +kernel
theorem dX7_mix_93 : decode cX7_mix 93 = .ok (.iconst 2, 1) := by decide +kernel
theorem dX7_mix_94 : decode cX7_mix 94 = .ok (.isub, 1) := by decide +kernel
theorem dX7_mix_95 : decode cX7_mix 95 = .ok (.if_icmp .le 6, 3) := by decide +kernel
theorem dX7_mix_98 : decode cX7_mix 98 = .ok (.goto 172, 3) := by decide +kernel
theorem dX7_mix_101 : decode cX7_mix 101 = .ok (.aload_n 0, 1) := by decide +kernel
theorem dX7_mix_102 : decode cX7_mix 102 = .ok (.iload_n 1, 1) := by decide +kernel
theorem dX7_mix_103 : decode cX7_mix 103 = .ok (.iload 6, 2) := by decide +kernel
theorem dX7_mix_105 : decode cX7_mix 105 = .ok (.invokevirtual 115, 3) := by decide +kernel
theorem dX7_mix_108 : decode cX7_mix 108 = .ok (.iload_n 2, 1) := by decide +kernel
theorem dX7_mix_109 : decode cX7_mix 109 = .ok (.if_icmp .ne 83, 3) := by decide +kernel
theorem dX7_mix_112 : decode cX7_mix 112 = .ok (.iconst 0, 1) := by decide +kernel
theorem dX7_mix_113 : decode cX7_mix 113 = .ok (.istore 7, 2) := by decide +kernel
theorem dX7_mix_115 : decode cX7_mix 115 = .ok (.iload 7, 2) := by decide +kernel
theorem dX7_mix_117 : decode cX7_mix 117 = .ok (.aload_n 0, 1) := by decide +kernel
theorem dX7_mix_118 : decode cX7_mix 118 = .ok (.iload_n 1, 1) := by decide +kernel
theorem dX7_mix_119 : decode cX7_mix 119 = .ok (.aload_n 0, 1) := by decide +kernel
theorem dX7_mix_120 : decode cX7_mix 120 = .ok (.iload_n 1, 1) := by decide +kernel
theorem dX7_mix_121 : decode cX7_mix 121 = .ok (.iload 6, 2) := by decide +kernel
theorem dX7_mix_123 : decode cX7_mix 123 = .ok (.invokevirtual 121, 3) := by decide +kernel
theorem dX7_mix_126 : decode cX7_mix 126 = .ok (.invokevirtual 118, 3) := by decide +kernel
theorem dX7_mix_129 : decode cX7_mix 129 = .ok (.if_icmp .ge 60, 3) := by decide +kernel
theorem dX7_mix_132 : decode cX7_mix 132 = .ok (.aload_n 0, 1) := by decide +kernel
theorem dX7_mix_133 : decode cX7_mix 133 = .ok (.getfield 16, 3) := by decide +kernel
theorem dX7_mix_136 : decode cX7_mix 136 = .ok (.iload_n 1, 1) := by decide +kernel
theorem dX7_mix_137 : decode cX7_mix 137 = .ok (.iload 6, 2) := by decide +kernel
theorem dX7_mix_139 : decode cX7_mix 139 = .ok (.iload_n 3, 1) := by decide +kernel
theorem dX7_mix_140 : decode cX7_mix 140 = .ok (.iload 7, 2) := by decide +kernel
theorem dX7_mix_142 : decode cX7_mix 142 = .ok (.invokestatic 128, 3) := by decide +kernel
theorem dX7_mix_145 : decode cX7_mix 145 = .ok (.aload_n 0, 1) := by decide +kernel
theorem dX7_mix_146 : decode cX7_mix 146 = .ok (.aload_n 0, 1) := by decide +kernel
theorem dX7_mix_147 : decode cX7_mix 147 = .ok (.getfield 16, 3) := by decide +kernel
theorem dX7_mix_150 : decode cX7_mix 150 = .ok (.iload_n 1, 1) := by decide +kernel
theorem dX7_mix_151 : decode cX7_mix 151 = .ok (.iload 6, 2) := by decide +kernel
theorem dX7_mix_153 : decode cX7_mix 153 = .ok (.iload_n 3, 1) := by decide +kernel
theorem dX7_mix_154 : decode cX7_mix 154 = .ok (.iload 7, 2) := by decide +kernel
theorem dX7_mix_156 : decode cX7_mix 156 = .ok (.invokestatic 128, 3) := by decide +kernel
theorem dX7_mix_159 : decode cX7_mix 159 = .ok (.iaload, 1) := by decide +kernel
theorem dX7_mix_160 : decode cX7_mix 160 = .ok (.iload 5, 2) := by decide +kernel
theorem dX7_mix_162 : decode cX7_mix 162 = .ok (.aload_n 0, 1) := by decide +kernel
theorem dX7_mix_163 : decode cX7_mix 163 = .ok (.getfield 16, 3) := by decide +kernel
theorem dX7_mix_166 : decode cX7_mix 166 = .ok (.iload_n 1, 1) := by decide +kernel
theorem dX7_mix_167 : decode cX7_mix 167 = .ok (.iload 6, 2) := by decide +kernel
theorem dX7_mix_169 : decode cX7_mix 169 = .ok (.iload 4, 2) := by decide +kernel
theorem dX7_mix_171 : decode cX7_mix 171 = .ok (.iload 7, 2) := by decide +kernel
theorem dX7_mix_173 : decode cX7_mix 173 = .ok (.invokestatic 128, 3) := by decide +kernel
theorem dX7_mix_176 : decode cX7_mix 176 = .ok (.iaload, 1) := by decide +kernel
theorem dX7_mix_177 : decode cX7_mix 177 = .ok (.imul, 1) := by decide +kernel
theorem dX7_mix_178 : decode cX7_mix 178 = .ok (.iadd, 1) := by decide +kernel
theorem dX7_mix_179 : decode cX7_mix 179 = .ok (.invokevirtual 132, 3) := by decide +kernel
theorem dX7_mix_182 : decode cX7_mix 182 = .ok (.iastore, 1) := by decide +kernel
theorem dX7_mix_183 : decode cX7_mix 183 = .ok (.iinc 7 1, 3) := by decide +kernel
theorem dX7_mix_186 : decode cX7_mix 186 = .ok (.goto (-71), 3) := by decide +kernel
theorem dX7_mix_189 : decode cX7_mix 189 = .ok (.goto 81, 3) := by decide +kernel
theorem dX7_mix_192 : decode cX7_mix 192 = .ok (.iconst 0, 1) := by decide +kernel
theorem dX7_mix_193 : decode cX7_mix 193 = .ok (.istore 7, 2) := by decide +kernel
theorem dX7_mix_195 : decode cX7_mix 195 = .ok (.iload 7, 2) := by decide +kernel
theorem dX7_mix_197 : decode cX7_mix 197 = .ok (.aload_n 0, 1) := by decide +kernel
theorem dX7_mix_198 : decode cX7_mix 198 = .ok (.iload_n 1, 1) := by decide +kernel
theorem dX7_mix_199 : decode cX7_mix 199 = .ok (.aload_n 0, 1) := by decide +kernel
theorem dX7_mix_200 : decode cX7_mix 200 = .ok (.iload_n 1, 1) := by decide +kernel
theorem dX7_mix_201 : decode cX7_mix 201 = .ok (.iload 6, 2) := by decide +kernel
theorem dX7_mix_203 : decode cX7_mix 203 = .ok (.invokevirtual 115, 3) := by decide +kernel
theorem dX7_mix_206 : decode cX7_mix 206 = .ok (.invokevirtual 118, 3) := by decide +kernel
theorem dX7_mix_209 : decode cX7_mix 209 = .ok (.if_icmp .ge 61, 3) := by decide +kernel
theorem dX7_mix_212 : decode cX7_mix 212 = .ok (.aload_n 0, 1) := by decide +kernel
theorem dX7_mix_213 : decode cX7_mix 213 = .ok (.getfield 16, 3) := by decide +kernel
theorem dX7_mix_216 : decode cX7_mix 216 = .ok (.iload_n 1, 1) := by decide +kernel
theorem dX7_mix_217 : decode cX7_mix 217 = .ok (.iload 6, 2) := by decide +kernel
theorem dX7_mix_219 : decode cX7_mix 219 = .ok (.iload 7, 2) := by decide +kernel
theorem dX7_mix_221 : decode cX7_mix 221 = .ok (.iload 4, 2) := by decide +kernel
theorem dX7_mix_223 : decode cX7_mix 223 = .ok (.invokestatic 128, 3) := by decide +kernel
theorem dX7_mix_226 : decode cX7_mix 226 = .ok (.aload_n 0, 1) := by decide +kernel
theorem dX7_mix_227 : decode cX7_mix 227 = .ok (.aload_n 0, 1) := by decide +kernel
theorem dX7_mix_228 : decode cX7_mix 228 = .ok (.getfield 16, 3) := by decide +kernel
theorem dX7_mix_231 : decode cX7_mix 231 = .ok (.iload_n 1, 1) := by decide +kernel
theorem dX7_mix_232 : decode cX7_mix 232 = .ok (.iload 6, 2) := by decide +kernel
theorem dX7_mix_234 : decode cX7_mix 234 = .ok (.iload 7, 2) := by decide +kernel
theorem dX7_mix_236 : decode cX7_mix 236 = .ok (.iload 4, 2) := by decide +kernel
theorem dX7_mix_238 : decode cX7_mix 238 = .ok (.invokestatic 128, 3) := by decide +kernel
theorem dX7_mix_241 : decode cX7_mix 241 = .ok (.iaload, 1) := by decide +kernel
theorem dX7_mix_242 : decode cX7_mix 242 = .ok (.iload 5, 2) := by decide +kernel
theorem dX7_mix_244 : decode cX7_mix 244 = .ok (.aload_n 0, 1) := by decide +kernel
theorem dX7_mix_245 : decode cX7_mix 245 = .ok (.getfield 16, 3) := by decide +kernel
theorem dX7_mix_248 : decode cX7_mix 248 = .ok (.iload_n 1, 1) := by decide +kernel
theorem dX7_mix_249 : decode cX7_mix 249 = .ok (.iload 6, 2) := by decide +kernel
theorem dX7_mix_251 : decode cX7_mix 251 = .ok (.iload 7, 2) := by decide +kernel
theorem dX7_mix_253 : decode cX7_mix 253 = .ok (.iload_n 3, 1) := by decide +kernel
theorem dX7_mix_254 : decode cX7_mix 254 = .ok (.invokestatic 128, 3) := by decide +kernel
theorem dX7_mix_257 : decode cX7_mix 257 = .ok (.iaload, 1) := by decide +kernel
theorem dX7_mix_258 : decode cX7_mix 258 = .ok (.imul, 1) := by decide +kernel
theorem dX7_mix_259 : decode cX7_mix 259 = .ok (.isub, 1) := by decide +kernel
theorem dX7_mix_260 : decode cX7_mix 260 = .ok (.invokevirtual 132, 3) := by decide +kernel
theorem dX7_mix_263 : decode cX7_mix 263 = .ok (.iastore, 1) := by decide +kernel
theorem dX7_mix_264 : decode cX7_mix 264 = .ok (.iinc 7 1, 3) := by decide +kernel
theorem dX7_mix_267 : decode cX7_mix 267 = .ok (.goto (-72), 3) := by decide +kernel
theorem dX7_mix_270 : decode cX7_mix 270 = .ok (.iinc 6 1, 3) := by decide +kernel
theorem dX7_mix_273 : decode cX7_mix 273 = .ok (.goto (-197), 3) := by decide +kernel
theorem dX7_mix_276 : decode cX7_mix 276 = .ok (.iconst 1, 1) := by decide +kernel
theorem dX7_mix_277 : decode cX7_mix 277 = .ok (.ireturn, 1) := by decide +kernel
theorem dX7_begin_0 : decode cX7_begin 0 = .ok (.aload_n 0, 1) := by decide +kernel
theorem dX7_begin_1 : decode cX7_begin 1 = .ok (.iconst 0, 1) := by decide +kernel
theorem dX7_begin_2 : decode cX7_begin 2 = .ok (.putfield 146, 3) := by decide +kernel
theorem dX7_begin_5 : decode cX7_begin 5 = .ok (.aload_n 0, 1) := by decide +kernel
theorem dX7_begin_6 : decode cX7_begin 6 = .ok (.iload_n 1, 1) := by decide +kernel
theorem dX7_begin_7 : decode cX7_begin 7 = .ok (.putfield 149, 3) := by decide +kernel
theorem dX7_begin_10 : decode cX7_begin 10 = .ok (.return_, 1) := by decide +kernel
theorem dX7_newRow_0 : decode cX7_newRow 0 = .ok (.aload_n 0, 1) := by decide +kernel
theorem dX7_newRow_1 : decode cX7_newRow 1 = .ok (.getfield 27, 3) := by decide +kernel
theorem dX7_newRow_4 : decode cX7_newRow 4 = .ok (.aload_n 0, 1) := by decide +kernel
theorem dX7_newRow_5 : decode cX7_newRow 5 = .ok (.getfield 146, 3) := by decide +kernel
theorem dX7_newRow_8 : decode cX7_newRow 8 = .ok (.aaload, 1) := by decide +kernel
theorem dX7_newRow_9 : decode cX7_newRow 9 = .ok (.astore_n 1, 1) := by decide +kernel
theorem dX7_newRow_10 : decode cX7_newRow 10 = .ok (.iconst 0, 1) := by decide +kernel
theorem dX7_newRow_11 : decode cX7_newRow 11 = .ok (.istore_n 2, 1) := by decide +kernel
theorem dX7_newRow_12 : decode cX7_newRow 12 = .ok (.iload_n 2, 1) := by decide +kernel
theorem dX7_newRow_13 : decode cX7_newRow 13 = .ok (.aload_n 0, 1) := by decide +kernel
theorem dX7_newRow_14 : decode cX7_newRow 14 = .ok (.getfield 149, 3) := by decide +kernel
theorem dX7_newRow_17 : decode cX7_newRow 17 = .ok (.if_icmp .ge 13, 3) := by decide +kernel
theorem dX7_newRow_20 : decode cX7_newRow 20 = .ok (.aload_n 1, 1) := by decide +kernel
theorem dX7_newRow_21 : decode cX7_newRow 21 = .ok (.iload_n 2, 1) := by decide +kernel
theorem dX7_newRow_22 : decode cX7_newRow 22 = .ok (.iconst 0, 1) := by decide +kernel
theorem dX7_newRow_23 : decode cX7_newRow 23 = .ok (.iastore, 1) := by decide +kernel
theorem dX7_newRow_24 : decode cX7_newRow 24 = .ok (.iinc 2 1, 3) := by decide +kernel
theorem dX7_newRow_27 : decode cX7_newRow 27 = .ok (.goto (-15), 3) := by decide +kernel
theorem dX7_newRow_30 : decode cX7_newRow 30 = .ok (.aload_n 0, 1) := by decide +kernel
theorem dX7_newRow_31 : decode cX7_newRow 31 = .ok (.dup, 1) := by decide +kernel
theorem dX7_newRow_32 : decode cX7_newRow 32 = .ok (.getfield 146, 3) := by decide +kernel
theorem dX7_newRow_35 : decode cX7_newRow 35 = .ok (.iconst 1, 1) := by decide +kernel
theorem dX7_newRow_36 : decode cX7_newRow 36 = .ok (.iadd, 1) := by decide +kernel
theorem dX7_newRow_37 : decode cX7_newRow 37 = .ok (.putfield 146, 3) := by decide +kernel
theorem dX7_newRow_40 : decode cX7_newRow 40 = .ok (.aload_n 1, 1) := by decide +kernel
theorem dX7_newRow_41 : decode cX7_newRow 41 = .ok (.areturn, 1) := by decide +kernel
theorem dX7_reduce_0 : decode cX7_reduce 0 = .ok (.iconst 0, 1) := by decide +kernel
theorem dX7_reduce_1 : decode cX7_reduce 1 = .ok (.istore_n 1, 1) := by decide +kernel
theorem dX7_reduce_2 : decode cX7_reduce 2 = .ok (.iconst 0, 1) := by decide +kernel
theorem dX7_reduce_3 : decode cX7_reduce 3 = .ok (.istore_n 2, 1) := by decide +kernel
theorem dX7_reduce_4 : decode cX7_reduce 4 = .ok (.iload_n 2, 1) := by decide +kernel
theorem dX7_reduce_5 : decode cX7_reduce 5 = .ok (.aload_n 0, 1) := by decide +kernel
theorem dX7_reduce_6 : decode cX7_reduce 6 = .ok (.getfield 149, 3) := by decide +kernel
theorem dX7_reduce_9 : decode cX7_reduce 9 = .ok (.if_icmp .ge 240, 3) := by decide +kernel
theorem dX7_reduce_12 : decode cX7_reduce 12 = .ok (.iload_n 1, 1) := by decide +kernel
theorem dX7_reduce_13 : decode cX7_reduce 13 = .ok (.aload_n 0, 1) := by decide +kernel
theorem dX7_reduce_14 : decode cX7_reduce 14 = .ok (.getfield 146, 3) := by decide +kernel
theorem dX7_reduce_17 : decode cX7_reduce 17 = .ok (.if_icmp .ge 232, 3) := by decide +kernel
theorem dX7_reduce_20 : decode cX7_reduce 20 = .ok (.iload_n 1, 1) := by decide +kernel
theorem dX7_reduce_21 : decode cX7_reduce 21 = .ok (.istore_n 3, 1) := by decide +kernel
theorem dX7_reduce_22 : decode cX7_reduce 22 = .ok (.iload_n 3, 1) := by decide +kernel
theorem dX7_reduce_23 : decode cX7_reduce 23 = .ok (.aload_n 0, 1) := by decide +kernel
theorem dX7_reduce_24 : decode cX7_reduce 24 = .ok (.getfield 146, 3) := by decide +kernel
theorem dX7_reduce_27 : decode cX7_reduce 27 = .ok (.if_icmp .ge 20, 3) := by decide +kernel
theorem dX7_reduce_30 : decode cX7_reduce 30 = .ok (.aload_n 0, 1) := by decide +kernel
theorem dX7_reduce_31 : decode cX7_reduce 31 = .ok (.getfield 27, 3) := by decide +kernel
theorem dX7_reduce_34 : decode cX7_reduce 34 = .ok (.iload_n 3, 1) := by decide +kernel
theorem dX7_reduce_35 : decode cX7_reduce 35 = .ok (.aaload, 1) := by decide +kernel
theorem dX7_reduce_36 : decode cX7_reduce 36 = .ok (.iload_n 2, 1) := by decide +kernel
theorem dX7_reduce_37 : decode cX7_reduce 37 = .ok (.iaload, 1) := by decide +kernel
theorem dX7_reduce_38 : decode cX7_reduce 38 = .ok (.ifCond .ne 9, 3) := by decide +kernel
theorem dX7_reduce_41 : decode cX7_reduce 41 = .ok (.iinc 3 1, 3) := by decide +kernel
theorem dX7_reduce_44 : decode cX7_reduce 44 = .ok (.goto (-22), 3) := by decide +kernel
theorem dX7_reduce_47 : decode cX7_reduce 47 = .ok (.iload_n 3, 1) := by decide +kernel
theorem dX7_reduce_48 : decode cX7_reduce 48 = .ok (.aload_n 0, 1) := by decide +kernel
theorem dX7_reduce_49 : decode cX7_reduce 49 = .ok (.getfield 146, 3) := by decide +kernel
theorem dX7_reduce_52 : decode cX7_reduce 52 = .ok (.if_icmp .ne 6, 3) := by decide +kernel
theorem dX7_reduce_55 : decode cX7_reduce 55 = .ok (.goto 188, 3) := by decide +kernel
theorem dX7_reduce_58 : decode cX7_reduce 58 = .ok (.aload_n 0, 1) := by decide +kernel
theorem dX7_reduce_59 : decode cX7_reduce 59 = .ok (.getfield 27, 3) := by decide +kernel
theorem dX7_reduce_62 : decode cX7_reduce 62 = .ok (.iload_n 3, 1) := by decide +kernel
theorem dX7_reduce_63 : decode cX7_reduce 63 = .ok (.aaload, 1) := by decide +kernel
theorem dX7_reduce_64 : decode cX7_reduce 64 = .ok (.astore 4, 2) := by decide +kernel
theorem dX7_reduce_66 : decode cX7_reduce 66 = .ok (.aload_n 0, 1) := by decide +kernel
theorem dX7_reduce_67 : decode cX7_reduce 67 = .ok (.getfield 27, 3) := by decide +kernel
theorem dX7_reduce_70 : decode cX7_reduce 70 = .ok (.iload_n 3, 1) := by decide +kernel
theorem dX7_reduce_71 : decode cX7_reduce 71 = .ok (.aload_n 0, 1) := by decide +kernel
theorem dX7_reduce_72 : decode cX7_reduce 72 = .ok (.getfield 27, 3) := by decide +kernel
theorem dX7_reduce_75 : decode cX7_reduce 75 = .ok (.iload_n 1, 1) := by decide +kernel
theorem dX7_reduce_76 : decode cX7_reduce 76 = .ok (.aaload, 1) := by decide +kernel
theorem dX7_reduce_77 : decode cX7_reduce 77 = .ok (.aastore, 1) := by decide +kernel
theorem dX7_reduce_78 : decode cX7_reduce 78 = .ok (.aload_n 0, 1) := by decide +kernel
theorem dX7_reduce_79 : decode cX7_reduce 79 = .ok (.getfield 27, 3) := by decide +kernel
theorem dX7_reduce_82 : decode cX7_reduce 82 = .ok (.iload_n 1, 1) := by decide +kernel
theorem dX7_reduce_83 : decode cX7_reduce 83 = .ok (.aload 4, 2) := by decide +kernel
theorem dX7_reduce_85 : decode cX7_reduce 85 = .ok (.aastore, 1) := by decide +kernel
theorem dX7_reduce_86 : decode cX7_reduce 86 = .ok (.aload_n 0, 1) := by decide +kernel
theorem dX7_reduce_87 : decode cX7_reduce 87 = .ok (.aload 4, 2) := by decide +kernel
theorem dX7_reduce_89 : decode cX7_reduce 89 = .ok (.iload_n 2, 1) := by decide +kernel
theorem dX7_reduce_90 : decode cX7_reduce 90 = .ok (.iaload, 1) := by decide +kernel
theorem dX7_reduce_91 : decode cX7_reduce 91 = .ok (.invokevirtual 152, 3) := by decide +kernel
theorem dX7_reduce_94 : decode cX7_reduce 94 = .ok (.istore 5, 2) := by decide +kernel
theorem dX7_reduce_96 : decode cX7_reduce 96 = .ok (.iconst 0, 1) := by decide +kernel
theorem dX7_reduce_97 : decode cX7_reduce 97 = .ok (.istore 6, 2) := by decide +kernel
theorem dX7_reduce_99 : decode cX7_reduce 99 = .ok (.iload 6, 2) := by decide +kernel
theorem dX7_reduce_101 : decode cX7_reduce 101 = .ok (.aload_n 0, 1) := by decide +kernel
theorem dX7_reduce_102 : decode cX7_reduce 102 = .ok (.getfield 149, 3) := by decide +kernel
theorem dX7_reduce_105 : decode cX7_reduce 105 = .ok (.if_icmp .ge 27, 3) := by decide +kernel
theorem dX7_reduce_108 : decode cX7_reduce 108 = .ok (.aload 4, 2) := by decide +kernel
theorem dX7_reduce_110 : decode cX7_reduce 110 = .ok (.iload 6, 2) := by decide +kernel
theorem dX7_reduce_112 : decode cX7_reduce 112 = .ok (.aload 4, 2) := by decide +kernel
theorem dX7_reduce_114 : decode cX7_reduce 114 = .ok (.iload 6, 2) := by decide +kernel
theorem dX7_reduce_116 : decode cX7_reduce 116 = .ok (.iaload, 1) := by decide +kernel
theorem dX7_reduce_117 : decode cX7_reduce 117 = .ok (.iload 5, 2) := by decide +kernel
theorem dX7_reduce_119 : decode cX7_reduce 119 = .ok (.imul, 1) := by decide +kernel
theorem dX7_reduce_120 : decode cX7_reduce 120 = .ok (.aload_n 0, 1) := by decide +kernel
theorem dX7_reduce_121 : decode cX7_reduce 121 = .ok (.getfield 80, 3) := by decide +kernel
theorem dX7_reduce_124 : decode cX7_reduce 124 = .ok (.irem, 1) := by decide +kernel
theorem dX7_reduce_125 : decode cX7_reduce 125 = .ok (.iastore, 1) := by decide +kernel
theorem dX7_reduce_126 : decode cX7_reduce 126 = .ok (.iinc 6 1, 3) := by decide +kernel
theorem dX7_reduce_129 : decode cX7_reduce 129 = .ok (.goto (-30), 3) := by decide +kernel
theorem dX7_reduce_132 : decode cX7_reduce 132 = .ok (.iconst 0, 1) := by decide +kernel
theorem dX7_reduce_133 : decode cX7_reduce 133 = .ok (.istore 6, 2) := by decide +kernel
theorem dX7_reduce_135 : decode cX7_reduce 135 = .ok (.iload 6, 2) := by decide +kernel
theorem dX7_reduce_137 : decode cX7_reduce 137 = .ok (.aload_n 0, 1) := by decide +kernel
theorem dX7_reduce_138 : decode cX7_reduce 138 = .ok (.getfield 146, 3) := by decide +kernel
theorem dX7_reduce_141 : decode cX7_reduce 141 = .ok (.if_icmp .ge 92, 3) := by decide +kernel
theorem dX7_reduce_144 : decode cX7_reduce 144 = .ok (.iload 6, 2) := by decide +kernel
theorem dX7_reduce_146 : decode cX7_reduce 146 = .ok (.iload_n 1, 1) := by decide +kernel
theorem dX7_reduce_147 : decode cX7_reduce 147 = .ok (.if_icmp .eq 80, 3) := by decide +kernel
theorem dX7_reduce_150 : decode cX7_reduce 150 = .ok (.aload_n 0, 1) := by decide +kernel
theorem dX7_reduce_151 : decode cX7_reduce 151 = .ok (.getfield 27, 3) := by decide +kernel
theorem dX7_reduce_154 : decode cX7_reduce 154 = .ok (.iload 6, 2) := by decide +kernel
theorem dX7_reduce_156 : decode cX7_reduce 156 = .ok (.aaload, 1) := by decide +kernel
theorem dX7_reduce_157 : decode cX7_reduce 157 = .ok (.iload_n 2, 1) := by decide +kernel
theorem dX7_reduce_158 : decode cX7_reduce 158 = .ok (.iaload, 1) := by decide +kernel
theorem dX7_reduce_159 : decode cX7_reduce 159 = .ok (.ifCond .ne 6, 3) := by decide +kernel
theorem dX7_reduce_162 : decode cX7_reduce 162 = .ok (.goto 65, 3) := by decide +kernel
theorem dX7_reduce_165 : decode cX7_reduce 165 = .ok (.aload_n 0, 1) := by decide +kernel
theorem dX7_reduce_166 : decode cX7_reduce 166 = .ok (.getfield 27, 3) := by decide +kernel
theorem dX7_reduce_169 : decode cX7_reduce 169 = .ok (.iload 6, 2) := by decide +kernel
theorem dX7_reduce_171 : decode cX7_reduce 171 = .ok (.aaload, 1) := by decide +kernel
theorem dX7_reduce_172 : decode cX7_reduce 172 = .ok (.iload_n 2, 1) := by decide +kernel
theorem dX7_reduce_173 : decode cX7_reduce 173 = .ok (.iaload, 1) := by decide +kernel
theorem dX7_reduce_174 : decode cX7_reduce 174 = .ok (.istore 7, 2) := by decide +kernel
theorem dX7_reduce_176 : decode cX7_reduce 176 = .ok (.iconst 0, 1) := by decide +kernel
theorem dX7_reduce_177 : decode cX7_reduce 177 = .ok (.istore 8, 2) := by decide +kernel
theorem dX7_reduce_179 : decode cX7_reduce 179 = .ok (.iload 8, 2) := by decide +kernel
theorem dX7_reduce_181 : decode cX7_reduce 181 = .ok (.aload_n 0, 1) := by decide +kernel
theorem dX7_reduce_182 : decode cX7_reduce 182 = .ok (.getfield 149, 3) := by decide +kernel
theorem dX7_reduce_185 : decode cX7_reduce 185 = .ok (.if_icmp .ge 42, 3) := by decide +kernel
theorem dX7_reduce_188 : decode cX7_reduce 188 = .ok (.aload_n 0, 1) := by decide +kernel
theorem dX7_reduce_189 : decode cX7_reduce 189 = .ok (.getfield 27, 3) := by decide +kernel
theorem dX7_reduce_192 : decode cX7_reduce 192 = .ok (.iload 6, 2) := by decide +kernel
theorem dX7_reduce_194 : decode cX7_reduce 194 = .ok (.aaload, 1) := by decide +kernel
theorem dX7_reduce_195 : decode cX7_reduce 195 = .ok (.iload 8, 2) := by decide +kernel
theorem dX7_reduce_197 : decode cX7_reduce 197 = .ok (.aload_n 0, 1) := by decide +kernel
theorem dX7_reduce_198 : decode cX7_reduce 198 = .ok (.aload_n 0, 1) := by decide +kernel
theorem dX7_reduce_199 : decode cX7_reduce 199 = .ok (.getfield 27, 3) := by decide +kernel
theorem dX7_reduce_202 : decode cX7_reduce 202 = .ok (.iload 6, 2) := by decide +kernel
theorem dX7_reduce_204 : decode cX7_reduce 204 = .ok (.aaload, 1) := by decide +kernel
theorem dX7_reduce_205 : decode cX7_reduce 205 = .ok (.iload 8, 2) := by decide +kernel
theorem dX7_reduce_207 : decode cX7_reduce 207 = .ok (.iaload, 1) := by decide +kernel
theorem dX7_reduce_208 : decode cX7_reduce 208 = .ok (.iload 7, 2) := by decide +kernel
theorem dX7_reduce_210 : decode cX7_reduce 210 = .ok (.aload 4, 2) := by decide +kernel
theorem dX7_reduce_212 : decode cX7_reduce 212 = .ok (.iload 8, 2) := by decide +kernel
theorem dX7_reduce_214 : decode cX7_reduce 214 = .ok (.iaload, 1) := by decide +kernel
theorem dX7_reduce_215 : decode cX7_reduce 215 = .ok (.imul, 1) := by decide +kernel
theorem dX7_reduce_216 : decode cX7_reduce 216 = .ok (.isub, 1) := by decide +kernel
theorem dX7_reduce_217 : decode cX7_reduce 217 = .ok (.invokevirtual 132, 3) := by decide +kernel
theorem dX7_reduce_220 : decode cX7_reduce 220 = .ok (.iastore, 1) := by decide +kernel
theorem dX7_reduce_221 : decode cX7_reduce 221 = .ok (.iinc 8 1, 3) := by decide +kernel
theorem dX7_reduce_224 : decode cX7_reduce 224 = .ok (.goto (-45), 3) := by decide +kernel
theorem dX7_reduce_227 : decode cX7_reduce 227 = .ok (.iinc 6 1, 3) := by decide +kernel
theorem dX7_reduce_230 : decode cX7_reduce 230 = .ok (.goto (-95), 3) := by decide +kernel
theorem dX7_reduce_233 : decode cX7_reduce 233 = .ok (.aload_n 0, 1) := by decide +kernel
theorem dX7_reduce_234 : decode cX7_reduce 234 = .ok (.getfield 30, 3) := by decide +kernel
theorem dX7_reduce_237 : decode cX7_reduce 237 = .ok (.iload_n 1, 1) := by decide +kernel
theorem dX7_reduce_238 : decode cX7_reduce 238 = .ok (.iload_n 2, 1) := by decide +kernel
theorem dX7_reduce_239 : decode cX7_reduce 239 = .ok (.iastore, 1) := by decide +kernel
theorem dX7_reduce_240 : decode cX7_reduce 240 = .ok (.iinc 1 1, 3) := by decide +kernel
theorem dX7_reduce_243 : decode cX7_reduce 243 = .ok (.iinc 2 1, 3) := by decide +kernel
theorem dX7_reduce_246 : decode cX7_reduce 246 = .ok (.goto (-242), 3) := by decide +kernel
theorem dX7_reduce_249 : decode cX7_reduce 249 = .ok (.aload_n 0, 1) := by decide +kernel
theorem dX7_reduce_250 : decode cX7_reduce 250 = .ok (.iload_n 1, 1) := by decide +kernel
theorem dX7_reduce_251 : decode cX7_reduce 251 = .ok (.putfield 146, 3) := by decide +kernel
theorem dX7_reduce_254 : decode cX7_reduce 254 = .ok (.iload_n 1, 1) := by decide +kernel
theorem dX7_reduce_255 : decode cX7_reduce 255 = .ok (.ireturn, 1) := by decide +kernel
theorem dX7_isLead_0 : decode cX7_isLead 0 = .ok (.iconst 0, 1) := by decide +kernel
theorem dX7_isLead_1 : decode cX7_isLead 1 = .ok (.istore_n 2, 1) := by decide +kernel
theorem dX7_isLead_2 : decode cX7_isLead 2 = .ok (.iload_n 2, 1) := by decide +kernel
theorem dX7_isLead_3 : decode cX7_isLead 3 = .ok (.aload_n 0, 1) := by decide +kernel
theorem dX7_isLead_4 : decode cX7_isLead 4 = .ok (.getfield 146, 3) := by decide +kernel
theorem dX7_isLead_7 : decode cX7_isLead 7 = .ok (.if_icmp .ge 21, 3) := by decide +kernel
theorem dX7_isLead_10 : decode cX7_isLead 10 = .ok (.aload_n 0, 1) := by decide +kernel
theorem dX7_isLead_11 : decode cX7_isLead 11 = .ok (.getfield 30, 3) := by decide +kernel
theorem dX7_isLead_14 : decode cX7_isLead 14 = .ok (.iload_n 2, 1) := by decide +kernel
theorem dX7_isLead_15 : decode cX7_isLead 15 = .ok (.iaload, 1) := by decide +kernel
theorem dX7_isLead_16 : decode cX7_isLead 16 = .ok (.iload_n 1, 1) := by decide +kernel
theorem dX7_isLead_17 : decode cX7_isLead 17 = .ok (.if_icmp .ne 5, 3) := by decide +kernel
theorem dX7_isLead_20 : decode cX7_isLead 20 = .ok (.iconst 1, 1) := by decide +kernel
theorem dX7_isLead_21 : decode cX7_isLead 21 = .ok (.ireturn, 1) := by decide +kernel
theorem dX7_isLead_22 : decode cX7_isLead 22 = .ok (.iinc 2 1, 3) := by decide +kernel
theorem dX7_isLead_25 : decode cX7_isLead 25 = .ok (.goto (-23), 3) := by decide +kernel
theorem dX7_isLead_28 : decode cX7_isLead 28 = .ok (.iconst 0, 1) := by decide +kernel
theorem dX7_isLead_29 : decode cX7_isLead 29 = .ok (.ireturn, 1) := by decide +kernel
theorem dX7_turn_0 : decode cX7_turn 0 = .ok (.iload_n 1, 1) := by decide +kernel
theorem dX7_turn_1 : decode cX7_turn 1 = .ok (.invokestatic 104, 3) := by decide +kernel
theorem dX7_turn_4 : decode cX7_turn 4 = .ok (.ifCond .eq 26, 3) := by decide +kernel
theorem dX7_turn_7 : decode cX7_turn 7 = .ok (.iload_n 3, 1) := by decide +kernel
theorem dX7_turn_8 : decode cX7_turn 8 = .ok (.invokestatic 104, 3) := by decide +kernel
theorem dX7_turn_11 : decode cX7_turn 11 = .ok (.ifCond .eq 19, 3) := by decide +kernel
theorem dX7_turn_14 : decode cX7_turn 14 = .ok (.aload_n 0, 1) := by decide +kernel
theorem dX7_turn_15 : decode cX7_turn 15 = .ok (.iload_n 2, 1) := by decide +kernel
theorem dX7_turn_16 : decode cX7_turn 16 = .ok (.invokevirtual 136, 3) := by decide +kernel
theorem dX7_turn_19 : decode cX7_turn 19 = .ok (.ifCond .eq 11, 3) := by decide +kernel
theorem dX7_turn_22 : decode cX7_turn 22 = .ok (.aload_n 0, 1) := by decide +kernel
theorem dX7_turn_23 : decode cX7_turn 23 = .ok (.getfield 93, 3) := by decide +kernel
theorem dX7_turn_26 : decode cX7_turn 26 = .ok (.iconst 1, 1) := by decide +kernel
theorem dX7_turn_27 : decode cX7_turn 27 = .ok (.if_icmp .ne 5, 3) := by decide +kernel
theorem dX7_turn_30 : decode cX7_turn 30 = .ok (.iconst (-1), 1) := by decide +kernel
theorem dX7_turn_31 : decode cX7_turn 31 = .ok (.ireturn, 1) := by decide +kernel
theorem dX7_turn_32 : decode cX7_turn 32 = .ok (.iload_n 2, 1) := by decide +kernel
theorem dX7_turn_33 : decode cX7_turn 33 = .ok (.ifCond .le 7, 3) := by decide +kernel
theorem dX7_turn_36 : decode cX7_turn 36 = .ok (.iconst 1, 1) := by decide +kernel
theorem dX7_turn_37 : decode cX7_turn 37 = .ok (.goto 4, 3) := by decide +kernel
theorem dX7_turn_40 : decode cX7_turn 40 = .ok (.iconst 0, 1) := by decide +kernel
theorem dX7_turn_41 : decode cX7_turn 41 = .ok (.istore 4, 2) := by decide +kernel
theorem dX7_turn_43 : decode cX7_turn 43 = .ok (.iload_n 2, 1) := by decide +kernel
theorem dX7_turn_44 : decode cX7_turn 44 = .ok (.aload_n 0, 1) := by decide +kernel
theorem dX7_turn_45 : decode cX7_turn 45 = .ok (.getfield 93, 3) := by decide +kernel
theorem dX7_turn_48 : decode cX7_turn 48 = .ok (.iconst 1, 1) := by decide +kernel
theorem dX7_turn_49 : decode cX7_turn 49 = .ok (.isub, 1) := by decide +kernel
theorem dX7_turn_50 : decode cX7_turn 50 = .ok (.if_icmp .ge 7, 3) := by decide +kernel
theorem dX7_turn_53 : decode cX7_turn 53 = .ok (.iconst 1, 1) := by decide +kernel
theorem dX7_turn_54 : decode cX7_turn 54 = .ok (.goto 4, 3) := by decide +kernel
theorem dX7_turn_57 : decode cX7_turn 57 = .ok (.iconst 0, 1) := by decide +kernel
theorem dX7_turn_58 : decode cX7_turn 58 = .ok (.istore 5, 2) := by decide +kernel
theorem dX7_turn_60 : decode cX7_turn 60 = .ok (.iload 4, 2) := by decide +kernel
theorem dX7_turn_62 : decode cX7_turn 62 = .ok (.ifCond .eq 19, 3) := by decide +kernel
theorem dX7_turn_65 : decode cX7_turn 65 = .ok (.aload_n 0, 1) := by decide +kernel
theorem dX7_turn_66 : decode cX7_turn 66 = .ok (.iload_n 1, 1) := by decide +kernel
theorem dX7_turn_67 : decode cX7_turn 67 = .ok (.iload_n 2, 1) := by decide +kernel
theorem dX7_turn_68 : decode cX7_turn 68 = .ok (.iconst 1, 1) := by decide +kernel
theorem dX7_turn_69 : decode cX7_turn 69 = .ok (.isub, 1) := by decide +kernel
theorem dX7_turn_70 : decode cX7_turn 70 = .ok (.invokevirtual 115, 3) := by decide +kernel
theorem dX7_turn_73 : decode cX7_turn 73 = .ok (.iload_n 2, 1) := by decide +kernel
theorem dX7_turn_74 : decode cX7_turn 74 = .ok (.if_icmp .ne 7, 3) := by decide +kernel
theorem dX7_turn_77 : decode cX7_turn 77 = .ok (.iconst 1, 1) := by decide +kernel
theorem dX7_turn_78 : decode cX7_turn 78 = .ok (.goto 4, 3) := by decide +kernel
theorem dX7_turn_81 : decode cX7_turn 81 = .ok (.iconst 0, 1) := by decide +kernel
theorem dX7_turn_82 : decode cX7_turn 82 = .ok (.istore 6, 2) := by decide +kernel
theorem dX7_turn_84 : decode cX7_turn 84 = .ok (.iload 5, 2) := by decide +kernel
theorem dX7_turn_86 : decode cX7_turn 86 = .ok (.ifCond .eq 17, 3) := by decide +kernel
theorem dX7_turn_89 : decode cX7_turn 89 = .ok (.aload_n 0, 1) := by decide +kernel
theorem dX7_turn_90 : decode cX7_turn 90 = .ok (.iload_n 1, 1) := by decide +kernel
theorem dX7_turn_91 : decode cX7_turn 91 = .ok (.iload_n 2, 1) := by decide +kernel
theorem dX7_turn_92 : decode cX7_turn 92 = .ok (.invokevirtual 115, 3) := by decide +kernel
theorem dX7_turn_95 : decode cX7_turn 95 = .ok (.iload_n 2, 1) := by decide +kernel
theorem dX7_turn_96 : decode cX7_turn 96 = .ok (.if_icmp .ne 7, 3) := by decide +kernel
theorem dX7_turn_99 : decode cX7_turn 99 = .ok (.iconst 1, 1) := by decide +kernel
theorem dX7_turn_100 : decode cX7_turn 100 = .ok (.goto 4, 3) := by decide +kernel
theorem dX7_turn_103 : decode cX7_turn 103 = .ok (.iconst 0, 1) := by decide +kernel
theorem dX7_turn_104 : decode cX7_turn 104 = .ok (.istore 7, 2) := by decide +kernel
theorem dX7_turn_106 : decode cX7_turn 106 = .ok (.iload 4, 2) := by decide +kernel
theorem dX7_turn_108 : decode cX7_turn 108 = .ok (.ifCond .eq 8, 3) := by decide +kernel
theorem dX7_turn_111 : decode cX7_turn 111 = .ok (.iload 6, 2) := by decide +kernel
theorem dX7_turn_113 : decode cX7_turn 113 = .ok (.goto 5, 3) := by decide +kernel
theorem dX7_turn_116 : decode cX7_turn 116 = .ok (.iload 7, 2) := by decide +kernel
theorem dX7_turn_118 : decode cX7_turn 118 = .ok (.istore 8, 2) := by decide +kernel
theorem dX7_turn_120 : decode cX7_turn 120 = .ok (.iload 4, 2) := by decide +kernel
theorem dX7_turn_122 : decode cX7_turn 122 = .ok (.ifCond .eq 17, 3) := by decide +kernel
theorem dX7_turn_125 : decode cX7_turn 125 = .ok (.iload 5, 2) := by decide +kernel
theorem dX7_turn_127 : decode cX7_turn 127 = .ok (.ifCond .eq 12, 3) := by decide +kernel
theorem dX7_turn_130 : decode cX7_turn 130 = .ok (.iload 6, 2) := by decide +kernel
theorem dX7_turn_132 : decode cX7_turn 132 = .ok (.iload 7, 2) := by decide +kernel
theorem dX7_turn_134 : decode cX7_turn 134 = .ok (.if_icmp .eq 5, 3) := by decide +kernel
theorem dX7_turn_137 : decode cX7_turn 137 = .ok (.iconst (-1), 1) := by decide +kernel
theorem dX7_turn_138 : decode cX7_turn 138 = .ok (.ireturn, 1) := by decide +kernel
theorem dX7_turn_139 : decode cX7_turn 139 = .ok (.iload 4, 2) := by decide +kernel
theorem dX7_turn_141 : decode cX7_turn 141 = .ok (.ifCond .eq 14, 3) := by decide +kernel
theorem dX7_turn_144 : decode cX7_turn 144 = .ok (.aload_n 0, 1) := by decide +kernel
theorem dX7_turn_145 : decode cX7_turn 145 = .ok (.iload_n 1, 1) := by decide +kernel
theorem dX7_turn_146 : decode cX7_turn 146 = .ok (.iload_n 2, 1) := by decide +kernel
theorem dX7_turn_147 : decode cX7_turn 147 = .ok (.iconst 1, 1) := by decide +kernel
theorem dX7_turn_148 : decode cX7_turn 148 = .ok (.isub, 1) := by decide +kernel
theorem dX7_turn_149 : decode cX7_turn 149 = .ok (.invokevirtual 118, 3) := by decide +kernel
theorem dX7_turn_152 : decode cX7_turn 152 = .ok (.goto 4, 3) := by decide +kernel
theorem dX7_turn_155 : decode cX7_turn 155 = .ok (.iconst 0, 1) := by decide +kernel
theorem dX7_turn_156 : decode cX7_turn 156 = .ok (.istore 9, 2) := by decide +kernel
theorem dX7_turn_158 : decode cX7_turn 158 = .ok (.iload 5, 2) := by decide +kernel
theorem dX7_turn_160 : decode cX7_turn 160 = .ok (.ifCond .eq 14, 3) := by decide +kernel
theorem dX7_turn_163 : decode cX7_turn 163 = .ok (.aload_n 0, 1) := by decide +kernel
theorem dX7_turn_164 : decode cX7_turn 164 = .ok (.iload_n 1, 1) := by decide +kernel
theorem dX7_turn_165 : decode cX7_turn 165 = .ok (.iload_n 2, 1) := by decide +kernel
theorem dX7_turn_166 : decode cX7_turn 166 = .ok (.iconst 1, 1) := by decide +kernel
theorem dX7_turn_167 : decode cX7_turn 167 = .ok (.iadd, 1) := by decide +kernel
theorem dX7_turn_168 : decode cX7_turn 168 = .ok (.invokevirtual 118, 3) := by decide +kernel
theorem dX7_turn_171 : decode cX7_turn 171 = .ok (.goto 4, 3) := by decide +kernel
theorem dX7_turn_174 : decode cX7_turn 174 = .ok (.iconst 0, 1) := by decide +kernel
theorem dX7_turn_175 : decode cX7_turn 175 = .ok (.istore 10, 2) := by decide +kernel
theorem dX7_turn_177 : decode cX7_turn 177 = .ok (.aload_n 0, 1) := by decide +kernel
theorem dX7_turn_178 : decode cX7_turn 178 = .ok (.iload_n 1, 1) := by decide +kernel
theorem dX7_turn_179 : decode cX7_turn 179 = .ok (.iload_n 2, 1) := by decide +kernel
theorem dX7_turn_180 : decode cX7_turn 180 = .ok (.invokevirtual 118, 3) := by decide +kernel
theorem dX7_turn_183 : decode cX7_turn 183 = .ok (.istore 11, 2) := by decide +kernel
theorem dX7_turn_185 : decode cX7_turn 185 = .ok (.aload_n 0, 1) := by decide +kernel
theorem dX7_turn_186 : decode cX7_turn 186 = .ok (.iload 9, 2) := by decide +kernel
theorem dX7_turn_188 : decode cX7_turn 188 = .ok (.iload 10, 2) := by decide +kernel
theorem dX7_turn_190 : decode cX7_turn 190 = .ok (.iadd, 1) := by decide +kernel
theorem dX7_turn_191 : decode cX7_turn 191 = .ok (.invokevirtual 155, 3) := by decide +kernel
theorem dX7_turn_194 : decode cX7_turn 194 = .ok (.iconst 0, 1) := by decide +kernel
theorem dX7_turn_195 : decode cX7_turn 195 = .ok (.istore 12, 2) := by decide +kernel
theorem dX7_turn_197 : decode cX7_turn 197 = .ok (.iload 12, 2) := by decide +kernel
theorem dX7_turn_199 : decode cX7_turn 199 = .ok (.iload 11, 2) := by decide +kernel
theorem dX7_turn_201 : decode cX7_turn 201 = .ok (.if_icmp .ge 136, 3) := by decide +kernel
theorem dX7_turn_204 : decode cX7_turn 204 = .ok (.aload_n 0, 1) := by decide +kernel
theorem dX7_turn_205 : decode cX7_turn 205 = .ok (.invokevirtual 158, 3) := by decide +kernel
theorem dX7_turn_208 : decode cX7_turn 208 = .ok (.astore 13, 2) := by decide +kernel
theorem dX7_turn_210 : decode cX7_turn 210 = .ok (.iconst 0, 1) := by decide +kernel
theorem dX7_turn_211 : decode cX7_turn 211 = .ok (.istore 14, 2) := by decide +kernel
theorem dX7_turn_213 : decode cX7_turn 213 = .ok (.iload 14, 2) := by decide +kernel
theorem dX7_turn_215 : decode cX7_turn 215 = .ok (.iload 9, 2) := by decide +kernel
theorem dX7_turn_217 : decode cX7_turn 217 = .ok (.if_icmp .ge 54, 3) := by decide +kernel
theorem dX7_turn_220 : decode cX7_turn 220 = .ok (.aload 13, 2) := by decide +kernel
theorem dX7_turn_222 : decode cX7_turn 222 = .ok (.iload 14, 2) := by decide +kernel
theorem dX7_turn_224 : decode cX7_turn 224 = .ok (.iload 8, 2) := by decide +kernel
theorem dX7_turn_226 : decode cX7_turn 226 = .ok (.ifCond .eq 22, 3) := by decide +kernel
theorem dX7_turn_229 : decode cX7_turn 229 = .ok (.aload_n 0, 1) := by decide +kernel
theorem dX7_turn_230 : decode cX7_turn 230 = .ok (.getfield 16, 3) := by decide +kernel
theorem dX7_turn_233 : decode cX7_turn 233 = .ok (.iload_n 1, 1) := by decide +kernel
theorem dX7_turn_234 : decode cX7_turn 234 = .ok (.iload_n 2, 1) := by decide +kernel
theorem dX7_turn_235 : decode cX7_turn 235 = .ok (.iconst 1, 1) := by decide +kernel
theorem dX7_turn_236 : decode cX7_turn 236 = .ok (.isub, 1) := by decide +kernel
theorem dX7_turn_237 : decode cX7_turn 237 = .ok (.iload 12, 2) := by decide +kernel
theorem dX7_turn_239 : decode cX7_turn 239 = .ok (.iload 14, 2) := by decide +kernel
theorem dX7_turn_241 : decode cX7_turn 241 = .ok (.invokestatic 128, 3) := by decide +kernel
theorem dX7_turn_244 : decode cX7_turn 244 = .ok (.iaload, 1) := by decide +kernel
theorem dX7_turn_245 : decode cX7_turn 245 = .ok (.goto 19, 3) := by decide +kernel
theorem dX7_turn_248 : decode cX7_turn 248 = .ok (.aload_n 0, 1) := by decide +kernel
theorem dX7_turn_249 : decode cX7_turn 249 = .ok (.getfield 16, 3) := by decide +kernel
theorem dX7_turn_252 : decode cX7_turn 252 = .ok (.iload_n 1, 1) := by decide +kernel
theorem dX7_turn_253 : decode cX7_turn 253 = .ok (.iload_n 2, 1) := by decide +kernel
theorem dX7_turn_254 : decode cX7_turn 254 = .ok (.iconst 1, 1) := by decide +kernel
theorem dX7_turn_255 : decode cX7_turn 255 = .ok (.isub, 1) := by decide +kernel
theorem dX7_turn_256 : decode cX7_turn 256 = .ok (.iload 14, 2) := by decide +kernel
theorem dX7_turn_258 : decode cX7_turn 258 = .ok (.iload 12, 2) := by decide +kernel
theorem dX7_turn_260 : decode cX7_turn 260 = .ok (.invokestatic 128, 3) := by decide +kernel
theorem dX7_turn_263 : decode cX7_turn 263 = .ok (.iaload, 1) := by decide +kernel
theorem dX7_turn_264 : decode cX7_turn 264 = .ok (.iastore, 1) := by decide +kernel
theorem dX7_turn_265 : decode cX7_turn 265 = .ok (.iinc 14 1, 3) := by decide +kernel
theorem dX7_turn_268 : decode cX7_turn 268 = .ok (.goto (-55), 3) := by decide +kernel
theorem dX7_turn_271 : decode cX7_turn 271 = .ok (.iconst 0, 1) := by decide +kernel
theorem dX7_turn_272 : decode cX7_turn 272 = .ok (.istore 14, 2) := by decide +kernel
theorem dX7_turn_274 : decode cX7_turn 274 = .ok (.iload 14, 2) := by decide +kernel
theorem dX7_turn_276 : decode cX7_turn 276 = .ok (.iload 10, 2) := by decide +kernel
theorem dX7_turn_278 : decode cX7_turn 278 = .ok (.if_icmp .ge 53, 3) := by decide +kernel
theorem dX7_turn_281 : decode cX7_turn 281 = .ok (.aload 13, 2) := by decide +kernel
theorem dX7_turn_283 : decode cX7_turn 283 = .ok (.iload 9, 2) := by decide +kernel
theorem dX7_turn_285 : decode cX7_turn 285 = .ok (.iload 14, 2) := by decide +kernel
theorem dX7_turn_287 : decode cX7_turn 287 = .ok (.iadd, 1) := by decide +kernel
theorem dX7_turn_288 : decode cX7_turn 288 = .ok (.iload 8, 2) := by decide +kernel
theorem dX7_turn_290 : decode cX7_turn 290 = .ok (.ifCond .eq 20, 3) := by decide +kernel
theorem dX7_turn_293 : decode cX7_turn 293 = .ok (.aload_n 0, 1) := by decide +kernel
theorem dX7_turn_294 : decode cX7_turn 294 = .ok (.getfield 16, 3) := by decide +kernel
theorem dX7_turn_297 : decode cX7_turn 297 = .ok (.iload_n 1, 1) := by decide +kernel
theorem dX7_turn_298 : decode cX7_turn 298 = .ok (.iload_n 2, 1) := by decide +kernel
theorem dX7_turn_299 : decode cX7_turn 299 = .ok (.iload 12, 2) := by decide +kernel
theorem dX7_turn_301 : decode cX7_turn 301 = .ok (.iload 14, 2) := by decide +kernel
theorem dX7_turn_303 : decode cX7_turn 303 = .ok (.invokestatic 128, 3) := by decide +kernel
theorem dX7_turn_306 : decode cX7_turn 306 = .ok (.iaload, 1) := by decide +kernel
theorem dX7_turn_307 : decode cX7_turn 307 = .ok (.goto 17, 3) := by decide +kernel
theorem dX7_turn_310 : decode cX7_turn 310 = .ok (.aload_n 0, 1) := by decide +kernel
theorem dX7_turn_311 : decode cX7_turn 311 = .ok (.getfield 16, 3) := by decide +kernel
theorem dX7_turn_314 : decode cX7_turn 314 = .ok (.iload_n 1, 1) := by decide +kernel
theorem dX7_turn_315 : decode cX7_turn 315 = .ok (.iload_n 2, 1) := by decide +kernel
theorem dX7_turn_316 : decode cX7_turn 316 = .ok (.iload 14, 2) := by decide +kernel
theorem dX7_turn_318 : decode cX7_turn 318 = .ok (.iload 12, 2) := by decide +kernel
theorem dX7_turn_320 : decode cX7_turn 320 = .ok (.invokestatic 128, 3) := by decide +kernel
theorem dX7_turn_323 : decode cX7_turn 323 = .ok (.iaload, 1) := by decide +kernel
theorem dX7_turn_324 : decode cX7_turn 324 = .ok (.iastore, 1) := by decide +kernel
theorem dX7_turn_325 : decode cX7_turn 325 = .ok (.iinc 14 1, 3) := by decide +kernel
theorem dX7_turn_328 : decode cX7_turn 328 = .ok (.goto (-54), 3) := by decide +kernel
theorem dX7_turn_331 : decode cX7_turn 331 = .ok (.iinc 12 1, 3) := by decide +kernel
theorem dX7_turn_334 : decode cX7_turn 334 = .ok (.goto (-137), 3) := by decide +kernel
theorem dX7_turn_337 : decode cX7_turn 337 = .ok (.aload_n 0, 1) := by decide +kernel
theorem dX7_turn_338 : decode cX7_turn 338 = .ok (.invokevirtual 162, 3) := by decide +kernel
theorem dX7_turn_341 : decode cX7_turn 341 = .ok (.istore 12, 2) := by decide +kernel
theorem dX7_turn_343 : decode cX7_turn 343 = .ok (.iconst 0, 1) := by decide +kernel
theorem dX7_turn_344 : decode cX7_turn 344 = .ok (.istore 13, 2) := by decide +kernel
theorem dX7_turn_346 : decode cX7_turn 346 = .ok (.iconst 0, 1) := by decide +kernel
theorem dX7_turn_347 : decode cX7_turn 347 = .ok (.istore 14, 2) := by decide +kernel
theorem dX7_turn_349 : decode cX7_turn 349 = .ok (.iload 14, 2) := by decide +kernel
theorem dX7_turn_351 : decode cX7_turn 351 = .ok (.iload 9, 2) := by decide +kernel
theorem dX7_turn_353 : decode cX7_turn 353 = .ok (.iload 10, 2) := by decide +kernel
theorem dX7_turn_355 : decode cX7_turn 355 = .ok (.iadd, 1) := by decide +kernel
theorem dX7_turn_356 : decode cX7_turn 356 = .ok (.if_icmp .ge 33, 3) := by decide +kernel
theorem dX7_turn_359 : decode cX7_turn 359 = .ok (.aload_n 0, 1) := by decide +kernel
theorem dX7_turn_360 : decode cX7_turn 360 = .ok (.iload 14, 2) := by decide +kernel
theorem dX7_turn_362 : decode cX7_turn 362 = .ok (.invokevirtual 166, 3) := by decide +kernel
theorem dX7_turn_365 : decode cX7_turn 365 = .ok (.ifCond .eq 6, 3) := by decide +kernel
theorem dX7_turn_368 : decode cX7_turn 368 = .ok (.goto 15, 3) := by decide +kernel
theorem dX7_turn_371 : decode cX7_turn 371 = .ok (.aload_n 0, 1) := by decide +kernel
theorem dX7_turn_372 : decode cX7_turn 372 = .ok (.getfield 33, 3) := by decide +kernel
theorem dX7_turn_375 : decode cX7_turn 375 = .ok (.iload 13, 2) := by decide +kernel
theorem dX7_turn_377 : decode cX7_turn 377 = .ok (.iload 14, 2) := by decide +kernel
theorem dX7_turn_379 : decode cX7_turn 379 = .ok (.iastore, 1) := by decide +kernel
theorem dX7_turn_380 : decode cX7_turn 380 = .ok (.iinc 13 1, 3) := by decide +kernel
theorem dX7_turn_383 : decode cX7_turn 383 = .ok (.iinc 14 1, 3) := by decide +kernel
theorem dX7_turn_386 : decode cX7_turn 386 = .ok (.goto (-37), 3) := by decide +kernel
theorem dX7_turn_389 : decode cX7_turn 389 = .ok (.iload 13, 2) := by decide +kernel
theorem dX7_turn_391 : decode cX7_turn 391 = .ok (.iconst 4, 1) := by decide +kernel
theorem dX7_turn_392 : decode cX7_turn 392 = .ok (.if_icmp .le 5, 3) := by decide +kernel
theorem dX7_turn_395 : decode cX7_turn 395 = .ok (.iconst (-1), 1) := by decide +kernel
theorem dX7_turn_396 : decode cX7_turn 396 = .ok (.ireturn, 1) := by decide +kernel
theorem dX7_turn_397 : decode cX7_turn 397 = .ok (.aload_n 0, 1) := by decide +kernel
theorem dX7_turn_398 : decode cX7_turn 398 = .ok (.iload_n 1, 1) := by decide +kernel
theorem dX7_turn_399 : decode cX7_turn 399 = .ok (.invokevirtual 139, 3) := by decide +kernel
theorem dX7_turn_402 : decode cX7_turn 402 = .ok (.aload_n 0, 1) := by decide +kernel
theorem dX7_turn_403 : decode cX7_turn 403 = .ok (.getfield 19, 3) := by decide +kernel
theorem dX7_turn_406 : decode cX7_turn 406 = .ok (.iload_n 2, 1) := by decide +kernel
theorem dX7_turn_407 : decode cX7_turn 407 = .ok (.iload 13, 2) := by decide +kernel
theorem dX7_turn_409 : decode cX7_turn 409 = .ok (.iastore, 1) := by decide +kernel
theorem dX7_turn_410 : decode cX7_turn 410 = .ok (.aload_n 0, 1) := by decide +kernel
theorem dX7_turn_411 : decode cX7_turn 411 = .ok (.getfield 9, 3) := by decide +kernel
theorem dX7_turn_414 : decode cX7_turn 414 = .ok (.iload_n 1, 1) := by decide +kernel
theorem dX7_turn_415 : decode cX7_turn 415 = .ok (.iaload, 1) := by decide +kernel
theorem dX7_turn_416 : decode cX7_turn 416 = .ok (.istore 14, 2) := by decide +kernel
theorem dX7_turn_418 : decode cX7_turn 418 = .ok (.iload 4, 2) := by decide +kernel
theorem dX7_turn_420 : decode cX7_turn 420 = .ok (.ifCond .eq 13, 3) := by decide +kernel
theorem dX7_turn_423 : decode cX7_turn 423 = .ok (.iload 14, 2) := by decide +kernel
theorem dX7_turn_425 : decode cX7_turn 425 = .ok (.iconst 1, 1) := by decide +kernel
theorem dX7_turn_426 : decode cX7_turn 426 = .ok (.iload_n 2, 1) := by decide +kernel
theorem dX7_turn_427 : decode cX7_turn 427 = .ok (.iconst 1, 1) := by decide +kernel
theorem dX7_turn_428 : decode cX7_turn 428 = .ok (.isub, 1) := by decide +kernel
theorem dX7_turn_429 : decode cX7_turn 429 = .ok (.ishl, 1) := by decide +kernel
theorem dX7_turn_430 : decode cX7_turn 430 = .ok (.ixor, 1) := by decide +kernel
theorem dX7_turn_431 : decode cX7_turn 431 = .ok (.istore 14, 2) := by decide +kernel
theorem dX7_turn_433 : decode cX7_turn 433 = .ok (.iload 5, 2) := by decide +kernel
theorem dX7_turn_435 : decode cX7_turn 435 = .ok (.ifCond .eq 11, 3) := by decide +kernel
theorem dX7_turn_438 : decode cX7_turn 438 = .ok (.iload 14, 2) := by decide +kernel
theorem dX7_turn_440 : decode cX7_turn 440 = .ok (.iconst 1, 1) := by decide +kernel
theorem dX7_turn_441 : decode cX7_turn 441 = .ok (.iload_n 2, 1) := by decide +kernel
theorem dX7_turn_442 : decode cX7_turn 442 = .ok (.ishl, 1) := by decide +kernel
theorem dX7_turn_443 : decode cX7_turn 443 = .ok (.ixor, 1) := by decide +kernel
theorem dX7_turn_444 : decode cX7_turn 444 = .ok (.istore 14, 2) := by decide +kernel
theorem dX7_turn_446 : decode cX7_turn 446 = .ok (.iconst 0, 1) := by decide +kernel
theorem dX7_turn_447 : decode cX7_turn 447 = .ok (.istore 15, 2) := by decide +kernel
theorem dX7_turn_449 : decode cX7_turn 449 = .ok (.iload 15, 2) := by decide +kernel
theorem dX7_turn_451 : decode cX7_turn 451 = .ok (.iconst 4, 1) := by decide +kernel
theorem dX7_turn_452 : decode cX7_turn 452 = .ok (.if_icmp .ge 66, 3) := by decide +kernel
theorem dX7_turn_455 : decode cX7_turn 455 = .ok (.iconst 0, 1) := by decide +kernel
theorem dX7_turn_456 : decode cX7_turn 456 = .ok (.istore 16, 2) := by decide +kernel
theorem dX7_turn_458 : decode cX7_turn 458 = .ok (.iload 16, 2) := by decide +kernel
theorem dX7_turn_460 : decode cX7_turn 460 = .ok (.iconst 4, 1) := by decide +kernel
theorem dX7_turn_461 : decode cX7_turn 461 = .ok (.if_icmp .ge 51, 3) := by decide +kernel
theorem dX7_turn_464 : decode cX7_turn 464 = .ok (.iload 4, 2) := by decide +kernel
theorem dX7_turn_466 : decode cX7_turn 466 = .ok (.ifCond .eq 20, 3) := by decide +kernel
theorem dX7_turn_469 : decode cX7_turn 469 = .ok (.aload_n 0, 1) := by decide +kernel
theorem dX7_turn_470 : decode cX7_turn 470 = .ok (.getfield 22, 3) := by decide +kernel
theorem dX7_turn_473 : decode cX7_turn 473 = .ok (.iconst 0, 1) := by decide +kernel
theorem dX7_turn_474 : decode cX7_turn 474 = .ok (.iload_n 2, 1) := by decide +kernel
theorem dX7_turn_475 : decode cX7_turn 475 = .ok (.iconst 1, 1) := by decide +kernel
theorem dX7_turn_476 : decode cX7_turn 476 = .ok (.isub, 1) := by decide +kernel
theorem dX7_turn_477 : decode cX7_turn 477 = .ok (.iload 16, 2) := by decide +kernel
theorem dX7_turn_479 : decode cX7_turn 479 = .ok (.iload 15, 2) := by decide +kernel
theorem dX7_turn_481 : decode cX7_turn 481 = .ok (.invokestatic 128, 3) := by decide +kernel
theorem dX7_turn_484 : decode cX7_turn 484 = .ok (.iconst 0, 1) := by decide +kernel
theorem dX7_turn_485 : decode cX7_turn 485 = .ok (.iastore, 1) := by decide +kernel
theorem dX7_turn_486 : decode cX7_turn 486 = .ok (.iload 5, 2) := by decide +kernel
theorem dX7_turn_488 : decode cX7_turn 488 = .ok (.ifCond .eq 18, 3) := by decide +kernel
theorem dX7_turn_491 : decode cX7_turn 491 = .ok (.aload_n 0, 1) := by decide +kernel
theorem dX7_turn_492 : decode cX7_turn 492 = .ok (.getfield 22, 3) := by decide +kernel
theorem dX7_turn_495 : decode cX7_turn 495 = .ok (.iconst 0, 1) := by decide +kernel
theorem dX7_turn_496 : decode cX7_turn 496 = .ok (.iload_n 2, 1) := by decide +kernel
theorem dX7_turn_497 : decode cX7_turn 497 = .ok (.iload 16, 2) := by decide +kernel
theorem dX7_turn_499 : decode cX7_turn 499 = .ok (.iload 15, 2) := by decide +kernel
theorem dX7_turn_501 : decode cX7_turn 501 = .ok (.invokestatic 128, 3) := by decide +kernel
theorem dX7_turn_504 : decode cX7_turn 504 = .ok (.iconst 0, 1) := by decide +kernel
theorem dX7_turn_505 : decode cX7_turn 505 = .ok (.iastore, 1) := by decide +kernel
theorem dX7_turn_506 : decode cX7_turn 506 = .ok (.iinc 16 1, 3) := by decide +kernel
theorem dX7_turn_509 : decode cX7_turn 509 = .ok (.goto (-51), 3) := by decide +kernel
theorem dX7_turn_512 : decode cX7_turn 512 = .ok (.iinc 15 1, 3) := by decide +kernel
theorem dX7_turn_515 : decode cX7_turn 515 = .ok (.goto (-66), 3) := by decide +kernel
theorem dX7_turn_518 : decode cX7_turn 518 = .ok (.iconst 0, 1) := by decide +kernel
theorem dX7_turn_519 : decode cX7_turn 519 = .ok (.istore 15, 2) := by decide +kernel
theorem dX7_turn_521 : decode cX7_turn 521 = .ok (.iload 15, 2) := by decide +kernel
theorem dX7_turn_523 : decode cX7_turn 523 = .ok (.iload 9, 2) := by decide +kernel
theorem dX7_turn_525 : decode cX7_turn 525 = .ok (.iload 10, 2) := by decide +kernel
theorem dX7_turn_527 : decode cX7_turn 527 = .ok (.iadd, 1) := by decide +kernel
theorem dX7_turn_528 : decode cX7_turn 528 = .ok (.if_icmp .ge 166, 3) := by decide +kernel
theorem dX7_turn_531 : decode cX7_turn 531 = .ok (.iconst 0, 1) := by decide +kernel
theorem dX7_turn_532 : decode cX7_turn 532 = .ok (.istore 16, 2) := by decide +kernel
theorem dX7_turn_534 : decode cX7_turn 534 = .ok (.iload 16, 2) := by decide +kernel
theorem dX7_turn_536 : decode cX7_turn 536 = .ok (.iload 13, 2) := by decide +kernel
theorem dX7_turn_538 : decode cX7_turn 538 = .ok (.if_icmp .ge 150, 3) := by decide +kernel
theorem dX7_turn_541 : decode cX7_turn 541 = .ok (.iload 15, 2) := by decide +kernel
theorem dX7_turn_543 : decode cX7_turn 543 = .ok (.aload_n 0, 1) := by decide +kernel
theorem dX7_turn_544 : decode cX7_turn 544 = .ok (.getfield 33, 3) := by decide +kernel
theorem dX7_turn_547 : decode cX7_turn 547 = .ok (.iload 16, 2) := by decide +kernel
theorem dX7_turn_549 : decode cX7_turn 549 = .ok (.iaload, 1) := by decide +kernel
theorem dX7_turn_550 : decode cX7_turn 550 = .ok (.if_icmp .ne 7, 3) := by decide +kernel
theorem dX7_turn_553 : decode cX7_turn 553 = .ok (.iconst 1, 1) := by decide +kernel
theorem dX7_turn_554 : decode cX7_turn 554 = .ok (.goto 4, 3) := by decide +kernel
theorem dX7_turn_557 : decode cX7_turn 557 = .ok (.iconst 0, 1) := by decide +kernel
theorem dX7_turn_558 : decode cX7_turn 558 = .ok (.istore 17, 2) := by decide +kernel
theorem dX7_turn_560 : decode cX7_turn 560 = .ok (.iconst 0, 1) := by decide +kernel
theorem dX7_turn_561 : decode cX7_turn 561 = .ok (.istore 18, 2) := by decide +kernel
theorem dX7_turn_563 : decode cX7_turn 563 = .ok (.iload 18, 2) := by decide +kernel
theorem dX7_turn_565 : decode cX7_turn 565 = .ok (.aload_n 0, 1) := by decide +kernel
theorem dX7_turn_566 : decode cX7_turn 566 = .ok (.getfield 146, 3) := by decide +kernel
theorem dX7_turn_569 : decode cX7_turn 569 = .ok (.if_icmp .ge 43, 3) := by decide +kernel
theorem dX7_turn_572 : decode cX7_turn 572 = .ok (.aload_n 0, 1) := by decide +kernel
theorem dX7_turn_573 : decode cX7_turn 573 = .ok (.getfield 30, 3) := by decide +kernel
theorem dX7_turn_576 : decode cX7_turn 576 = .ok (.iload 18, 2) := by decide +kernel
theorem dX7_turn_578 : decode cX7_turn 578 = .ok (.iaload, 1) := by decide +kernel
theorem dX7_turn_579 : decode cX7_turn 579 = .ok (.iload 15, 2) := by decide +kernel
theorem dX7_turn_581 : decode cX7_turn 581 = .ok (.if_icmp .ne 25, 3) := by decide +kernel
theorem dX7_turn_584 : decode cX7_turn 584 = .ok (.aload_n 0, 1) := by decide +kernel
theorem dX7_turn_585 : decode cX7_turn 585 = .ok (.aload_n 0, 1) := by decide +kernel
theorem dX7_turn_586 : decode cX7_turn 586 = .ok (.getfield 27, 3) := by decide +kernel
theorem dX7_turn_589 : decode cX7_turn 589 = .ok (.iload 18, 2) := by decide +kernel
theorem dX7_turn_591 : decode cX7_turn 591 = .ok (.aaload, 1) := by decide +kernel
theorem dX7_turn_592 : decode cX7_turn 592 = .ok (.aload_n 0, 1) := by decide +kernel
theorem dX7_turn_593 : decode cX7_turn 593 = .ok (.getfield 33, 3) := by decide +kernel
theorem dX7_turn_596 : decode cX7_turn 596 = .ok (.iload 16, 2) := by decide +kernel
theorem dX7_turn_598 : decode cX7_turn 598 = .ok (.iaload, 1) := by decide +kernel
theorem dX7_turn_599 : decode cX7_turn 599 = .ok (.iaload, 1) := by decide +kernel
theorem dX7_turn_600 : decode cX7_turn 600 = .ok (.ineg, 1) := by decide +kernel
theorem dX7_turn_601 : decode cX7_turn 601 = .ok (.invokevirtual 132, 3) := by decide +kernel
theorem dX7_turn_604 : decode cX7_turn 604 = .ok (.istore 17, 2) := by decide +kernel
theorem dX7_turn_606 : decode cX7_turn 606 = .ok (.iinc 18 1, 3) := by decide +kernel
theorem dX7_turn_609 : decode cX7_turn 609 = .ok (.goto (-46), 3) := by decide +kernel
theorem dX7_turn_612 : decode cX7_turn 612 = .ok (.iload 15, 2) := by decide +kernel
theorem dX7_turn_614 : decode cX7_turn 614 = .ok (.iload 9, 2) := by decide +kernel
theorem dX7_turn_616 : decode cX7_turn 616 = .ok (.if_icmp .ge 9, 3) := by decide +kernel
theorem dX7_turn_619 : decode cX7_turn 619 = .ok (.iload_n 2, 1) := by decide +kernel
theorem dX7_turn_620 : decode cX7_turn 620 = .ok (.iconst 1, 1) := by decide +kernel
theorem dX7_turn_621 : decode cX7_turn 621 = .ok (.isub, 1) := by decide +kernel
theorem dX7_turn_622 : decode cX7_turn 622 = .ok (.goto 4, 3) := by decide +kernel
theorem dX7_turn_625 : decode cX7_turn 625 = .ok (.iload_n 2, 1) := by decide +kernel
theorem dX7_turn_626 : decode cX7_turn 626 = .ok (.istore 18, 2) := by decide +kernel
theorem dX7_turn_628 : decode cX7_turn 628 = .ok (.iload 15, 2) := by decide +kernel
theorem dX7_turn_630 : decode cX7_turn 630 = .ok (.iload 9, 2) := by decide +kernel
theorem dX7_turn_632 : decode cX7_turn 632 = .ok (.if_icmp .ge 8, 3) := by decide +kernel
theorem dX7_turn_635 : decode cX7_turn 635 = .ok (.iload 15, 2) := by decide +kernel
theorem dX7_turn_637 : decode cX7_turn 637 = .ok (.goto 8, 3) := by decide +kernel
theorem dX7_turn_640 : decode cX7_turn 640 = .ok (.iload 15, 2) := by decide +kernel
theorem dX7_turn_642 : decode cX7_turn 642 = .ok (.iload 9, 2) := by decide +kernel
theorem dX7_turn_644 : decode cX7_turn 644 = .ok (.isub, 1) := by decide +kernel
theorem dX7_turn_645 : decode cX7_turn 645 = .ok (.istore 19, 2) := by decide +kernel
theorem dX7_turn_647 : decode cX7_turn 647 = .ok (.aload_n 0, 1) := by decide +kernel
theorem dX7_turn_648 : decode cX7_turn 648 = .ok (.getfield 22, 3) := by decide +kernel
theorem dX7_turn_651 : decode cX7_turn 651 = .ok (.iload 8, 2) := by decide +kernel
theorem dX7_turn_653 : decode cX7_turn 653 = .ok (.ifCond .eq 16, 3) := by decide +kernel
theorem dX7_turn_656 : decode cX7_turn 656 = .ok (.iconst 0, 1) := by decide +kernel
theorem dX7_turn_657 : decode cX7_turn 657 = .ok (.iload 18, 2) := by decide +kernel
theorem dX7_turn_659 : decode cX7_turn 659 = .ok (.iload 19, 2) := by decide +kernel
theorem dX7_turn_661 : decode cX7_turn 661 = .ok (.iload 16, 2) := by decide +kernel
theorem dX7_turn_663 : decode cX7_turn 663 = .ok (.invokestatic 128, 3) := by decide +kernel
theorem dX7_turn_666 : decode cX7_turn 666 = .ok (.goto 13, 3) := by decide +kernel
theorem dX7_turn_669 : decode cX7_turn 669 = .ok (.iconst 0, 1) := by decide +kernel
theorem dX7_turn_670 : decode cX7_turn 670 = .ok (.iload 18, 2) := by decide +kernel
theorem dX7_turn_672 : decode cX7_turn 672 = .ok (.iload 16, 2) := by decide +kernel
theorem dX7_turn_674 : decode cX7_turn 674 = .ok (.iload 19, 2) := by decide +kernel
theorem dX7_turn_676 : decode cX7_turn 676 = .ok (.invokestatic 128, 3) := by decide +kernel
theorem dX7_turn_679 : decode cX7_turn 679 = .ok (.iload 17, 2) := by decide +kernel
theorem dX7_turn_681 : decode cX7_turn 681 = .ok (.iastore, 1) := by decide +kernel
theorem dX7_turn_682 : decode cX7_turn 682 = .ok (.iinc 16 1, 3) := by decide +kernel
theorem dX7_turn_685 : decode cX7_turn 685 = .ok (.goto (-151), 3) := by decide +kernel
theorem dX7_turn_688 : decode cX7_turn 688 = .ok (.iinc 15 1, 3) := by decide +kernel
theorem dX7_turn_691 : decode cX7_turn 691 = .ok (.goto (-170), 3) := by decide +kernel
theorem dX7_turn_694 : decode cX7_turn 694 = .ok (.aload_n 0, 1) := by decide +kernel
theorem dX7_turn_695 : decode cX7_turn 695 = .ok (.iload_n 3, 1) := by decide +kernel
theorem dX7_turn_696 : decode cX7_turn 696 = .ok (.iload 14, 2) := by decide +kernel
theorem dX7_turn_698 : decode cX7_turn 698 = .ok (.invokevirtual 143, 3) := by decide +kernel
theorem dX7_turn_701 : decode cX7_turn 701 = .ok (.iload 13, 2) := by decide +kernel
theorem dX7_turn_703 : decode cX7_turn 703 = .ok (.ireturn, 1) := by decide +kernel
theorem dX7_areAlong_0 : decode cX7_areAlong 0 = .ok (.iload_n 1, 1) := by decide +kernel
theorem dX7_areAlong_1 : decode cX7_areAlong 1 = .ok (.invokestatic 104, 3) := by decide +kernel
theorem dX7_areAlong_4 : decode cX7_areAlong 4 = .ok (.ifCond .eq 29, 3) := by decide +kernel
theorem dX7_areAlong_7 : decode cX7_areAlong 7 = .ok (.iload_n 2, 1) := by decide +kernel
theorem dX7_areAlong_8 : decode cX7_areAlong 8 = .ok (.invokestatic 104, 3) := by decide +kernel
theorem dX7_areAlong_11 : decode cX7_areAlong 11 = .ok (.ifCond .eq 22, 3) := by decide +kernel
theorem dX7_areAlong_14 : decode cX7_areAlong 14 = .ok (.aload_n 0, 1) := by decide +kernel
theorem dX7_areAlong_15 : decode cX7_areAlong 15 = .ok (.getfield 9, 3) := by decide +kernel
theorem dX7_areAlong_18 : decode cX7_areAlong 18 = .ok (.iload_n 1, 1) := by decide +kernel
theorem dX7_areAlong_19 : decode cX7_areAlong 19 = .ok (.iaload, 1) := by decide +kernel
theorem dX7_areAlong_20 : decode cX7_areAlong 20 = .ok (.aload_n 0, 1) := by decide +kernel
theorem dX7_areAlong_21 : decode cX7_areAlong 21 = .ok (.getfield 9, 3) := by decide +kernel
theorem dX7_areAlong_24 : decode cX7_areAlong 24 = .ok (.iload_n 2, 1) := by decide +kernel
theorem dX7_areAlong_25 : decode cX7_areAlong 25 = .ok (.iaload, 1) := by decide +kernel
theorem dX7_areAlong_26 : decode cX7_areAlong 26 = .ok (.if_icmp .ne 7, 3) := by decide +kernel
theorem dX7_areAlong_29 : decode cX7_areAlong 29 = .ok (.iconst 1, 1) := by decide +kernel
theorem dX7_areAlong_30 : decode cX7_areAlong 30 = .ok (.goto 4, 3) := by decide +kernel
theorem dX7_areAlong_33 : decode cX7_areAlong 33 = .ok (.iconst 0, 1) := by decide +kernel
theorem dX7_areAlong_34 : decode cX7_areAlong 34 = .ok (.ireturn, 1) := by decide +kernel
theorem dX7_maps_0 : decode cX7_maps 0 = .ok (.aload_n 0, 1) := by decide +kernel
theorem dX7_maps_1 : decode cX7_maps 1 = .ok (.iload_n 1, 1) := by decide +kernel
theorem dX7_maps_2 : decode cX7_maps 2 = .ok (.iload_n 2, 1) := by decide +kernel
theorem dX7_maps_3 : decode cX7_maps 3 = .ok (.invokevirtual 169, 3) := by decide +kernel
theorem dX7_maps_6 : decode cX7_maps 6 = .ok (.ifCond .ne 5, 3) := by decide +kernel
theorem dX7_maps_9 : decode cX7_maps 9 = .ok (.iconst (-1), 1) := by decide +kernel
theorem dX7_maps_10 : decode cX7_maps 10 = .ok (.ireturn, 1) := by decide +kernel
theorem dX7_maps_11 : decode cX7_maps 11 = .ok (.aload_n 0, 1) := by decide +kernel
theorem dX7_maps_12 : decode cX7_maps 12 = .ok (.getfield 36, 3) := by decide +kernel
theorem dX7_maps_15 : decode cX7_maps 15 = .ok (.iconst 0, 1) := by decide +kernel
theorem dX7_maps_16 : decode cX7_maps 16 = .ok (.iconst 0, 1) := by decide +kernel
theorem dX7_maps_17 : decode cX7_maps 17 = .ok (.iastore, 1) := by decide +kernel
theorem dX7_maps_18 : decode cX7_maps 18 = .ok (.iconst 0, 1) := by decide +kernel
theorem dX7_maps_19 : decode cX7_maps 19 = .ok (.istore_n 3, 1) := by decide +kernel
theorem dX7_maps_20 : decode cX7_maps 20 = .ok (.iload_n 3, 1) := by decide +kernel
theorem dX7_maps_21 : decode cX7_maps 21 = .ok (.aload_n 0, 1) := by decide +kernel
theorem dX7_maps_22 : decode cX7_maps 22 = .ok (.getfield 93, 3) := by decide +kernel
theorem dX7_maps_25 : decode cX7_maps 25 = .ok (.if_icmp .ge 37, 3) := by decide +kernel
theorem dX7_maps_28 : decode cX7_maps 28 = .ok (.aload_n 0, 1) := by decide +kernel
theorem dX7_maps_29 : decode cX7_maps 29 = .ok (.getfield 36, 3) := by decide +kernel
theorem dX7_maps_32 : decode cX7_maps 32 = .ok (.iload_n 3, 1) := by decide +kernel
theorem dX7_maps_33 : decode cX7_maps 33 = .ok (.iconst 1, 1) := by decide +kernel
theorem dX7_maps_34 : decode cX7_maps 34 = .ok (.iadd, 1) := by decide +kernel
theorem dX7_maps_35 : decode cX7_maps 35 = .ok (.aload_n 0, 1) := by decide +kernel
theorem dX7_maps_36 : decode cX7_maps 36 = .ok (.getfield 36, 3) := by decide +kernel
theorem dX7_maps_39 : decode cX7_maps 39 = .ok (.iload_n 3, 1) := by decide +kernel
theorem dX7_maps_40 : decode cX7_maps 40 = .ok (.iaload, 1) := by decide +kernel
theorem dX7_maps_41 : decode cX7_maps 41 = .ok (.aload_n 0, 1) := by decide +kernel
theorem dX7_maps_42 : decode cX7_maps 42 = .ok (.iload_n 1, 1) := by decide +kernel
theorem dX7_maps_43 : decode cX7_maps 43 = .ok (.iload_n 3, 1) := by decide +kernel
theorem dX7_maps_44 : decode cX7_maps 44 = .ok (.invokevirtual 118, 3) := by decide +kernel
theorem dX7_maps_47 : decode cX7_maps 47 = .ok (.aload_n 0, 1) := by decide +kernel
theorem dX7_maps_48 : decode cX7_maps 48 = .ok (.iload_n 2, 1) := by decide +kernel
theorem dX7_maps_49 : decode cX7_maps 49 = .ok (.iload_n 3, 1) := by decide +kernel
theorem dX7_maps_50 : decode cX7_maps 50 = .ok (.invokevirtual 118, 3) := by decide +kernel
theorem dX7_maps_53 : decode cX7_maps 53 = .ok (.imul, 1) := by decide +kernel
theorem dX7_maps_54 : decode cX7_maps 54 = .ok (.iadd, 1) := by decide +kernel
theorem dX7_maps_55 : decode cX7_maps 55 = .ok (.iastore, 1) := by decide +kernel
theorem dX7_maps_56 : decode cX7_maps 56 = .ok (.iinc 3 1, 3) := by decide +kernel
theorem dX7_maps_59 : decode cX7_maps 59 = .ok (.goto (-39), 3) := by decide +kernel
theorem dX7_maps_62 : decode cX7_maps 62 = .ok (.aload_n 0, 1) := by decide +kernel
theorem dX7_maps_63 : decode cX7_maps 63 = .ok (.aload_n 0, 1) := by decide +kernel
theorem dX7_maps_64 : decode cX7_maps 64 = .ok (.getfield 36, 3) := by decide +kernel
theorem dX7_maps_67 : decode cX7_maps 67 = .ok (.aload_n 0, 1) := by decide +kernel
theorem dX7_maps_68 : decode cX7_maps 68 = .ok (.getfield 93, 3) := by decide +kernel
theorem dX7_maps_71 : decode cX7_maps 71 = .ok (.iaload, 1) := by decide +kernel
theorem dX7_maps_72 : decode cX7_maps 72 = .ok (.invokevirtual 155, 3) := by decide +kernel
theorem dX7_maps_75 : decode cX7_maps 75 = .ok (.iconst 0, 1) := by decide +kernel
theorem dX7_maps_76 : decode cX7_maps 76 = .ok (.istore_n 3, 1) := by decide +kernel
theorem dX7_maps_77 : decode cX7_maps 77 = .ok (.iload_n 3, 1) := by decide +kernel
theorem dX7_maps_78 : decode cX7_maps 78 = .ok (.aload_n 0, 1) := by decide +kernel
theorem dX7_maps_79 : decode cX7_maps 79 = .ok (.getfield 93, 3) := by decide +kernel
theorem dX7_maps_82 : decode cX7_maps 82 = .ok (.iconst 1, 1) := by decide +kernel
theorem dX7_maps_83 : decode cX7_maps 83 = .ok (.isub, 1) := by decide +kernel
theorem dX7_maps_84 : decode cX7_maps 84 = .ok (.if_icmp .ge 205, 3) := by decide +kernel
theorem dX7_maps_87 : decode cX7_maps 87 = .ok (.aload_n 0, 1) := by decide +kernel
theorem dX7_maps_88 : decode cX7_maps 88 = .ok (.iload_n 1, 1) := by decide +kernel
theorem dX7_maps_89 : decode cX7_maps 89 = .ok (.iload_n 3, 1) := by decide +kernel
theorem dX7_maps_90 : decode cX7_maps 90 = .ok (.invokevirtual 121, 3) := by decide +kernel
theorem dX7_maps_93 : decode cX7_maps 93 = .ok (.istore 4, 2) := by decide +kernel
theorem dX7_maps_95 : decode cX7_maps 95 = .ok (.aload_n 0, 1) := by decide +kernel
theorem dX7_maps_96 : decode cX7_maps 96 = .ok (.iload_n 1, 1) := by decide +kernel
theorem dX7_maps_97 : decode cX7_maps 97 = .ok (.iload_n 3, 1) := by decide +kernel
theorem dX7_maps_98 : decode cX7_maps 98 = .ok (.invokevirtual 115, 3) := by decide +kernel
theorem dX7_maps_101 : decode cX7_maps 101 = .ok (.istore 5, 2) := by decide +kernel
theorem dX7_maps_103 : decode cX7_maps 103 = .ok (.iconst 0, 1) := by decide +kernel
theorem dX7_maps_104 : decode cX7_maps 104 = .ok (.istore 6, 2) := by decide +kernel
theorem dX7_maps_106 : decode cX7_maps 106 = .ok (.iload 6, 2) := by decide +kernel
theorem dX7_maps_108 : decode cX7_maps 108 = .ok (.aload_n 0, 1) := by decide +kernel
theorem dX7_maps_109 : decode cX7_maps 109 = .ok (.iload_n 2, 1) := by decide +kernel
theorem dX7_maps_110 : decode cX7_maps 110 = .ok (.iload 5, 2) := by decide +kernel
theorem dX7_maps_112 : decode cX7_maps 112 = .ok (.invokevirtual 118, 3) := by decide +kernel
theorem dX7_maps_115 : decode cX7_maps 115 = .ok (.if_icmp .ge 168, 3) := by decide +kernel
theorem dX7_maps_118 : decode cX7_maps 118 = .ok (.iconst 0, 1) := by decide +kernel
theorem dX7_maps_119 : decode cX7_maps 119 = .ok (.istore 7, 2) := by decide +kernel
theorem dX7_maps_121 : decode cX7_maps 121 = .ok (.iload 7, 2) := by decide +kernel
theorem dX7_maps_123 : decode cX7_maps 123 = .ok (.aload_n 0, 1) := by decide +kernel
theorem dX7_maps_124 : decode cX7_maps 124 = .ok (.iload_n 1, 1) := by decide +kernel
theorem dX7_maps_125 : decode cX7_maps 125 = .ok (.iload 4, 2) := by decide +kernel
theorem dX7_maps_127 : decode cX7_maps 127 = .ok (.invokevirtual 118, 3) := by decide +kernel
theorem dX7_maps_130 : decode cX7_maps 130 = .ok (.if_icmp .ge 147, 3) := by decide +kernel
theorem dX7_maps_133 : decode cX7_maps 133 = .ok (.aload_n 0, 1) := by decide +kernel
theorem dX7_maps_134 : decode cX7_maps 134 = .ok (.invokevirtual 158, 3) := by decide +kernel
theorem dX7_maps_137 : decode cX7_maps 137 = .ok (.astore 8, 2) := by decide +kernel
theorem dX7_maps_139 : decode cX7_maps 139 = .ok (.iconst 0, 1) := by decide +kernel
theorem dX7_maps_140 : decode cX7_maps 140 = .ok (.istore 9, 2) := by decide +kernel
theorem dX7_maps_142 : decode cX7_maps 142 = .ok (.iload 9, 2) := by decide +kernel
theorem dX7_maps_144 : decode cX7_maps 144 = .ok (.aload_n 0, 1) := by decide +kernel
theorem dX7_maps_145 : decode cX7_maps 145 = .ok (.iload_n 1, 1) := by decide +kernel
theorem dX7_maps_146 : decode cX7_maps 146 = .ok (.iload 5, 2) := by decide +kernel
theorem dX7_maps_148 : decode cX7_maps 148 = .ok (.invokevirtual 118, 3) := by decide +kernel
theorem dX7_maps_151 : decode cX7_maps 151 = .ok (.if_icmp .ge 47, 3) := by decide +kernel
theorem dX7_maps_154 : decode cX7_maps 154 = .ok (.aload 8, 2) := by decide +kernel
theorem dX7_maps_156 : decode cX7_maps 156 = .ok (.aload_n 0, 1) := by decide +kernel
theorem dX7_maps_157 : decode cX7_maps 157 = .ok (.getfield 36, 3) := by decide +kernel
theorem dX7_maps_160 : decode cX7_maps 160 = .ok (.iload 5, 2) := by decide +kernel
theorem dX7_maps_162 : decode cX7_maps 162 = .ok (.iaload, 1) := by decide +kernel
theorem dX7_maps_163 : decode cX7_maps 163 = .ok (.iload 6, 2) := by decide +kernel
theorem dX7_maps_165 : decode cX7_maps 165 = .ok (.aload_n 0, 1) := by decide +kernel
theorem dX7_maps_166 : decode cX7_maps 166 = .ok (.iload_n 1, 1) := by decide +kernel
theorem dX7_maps_167 : decode cX7_maps 167 = .ok (.iload 5, 2) := by decide +kernel
theorem dX7_maps_169 : decode cX7_maps 169 = .ok (.invokevirtual 118, 3) := by decide +kernel
theorem dX7_maps_172 : decode cX7_maps 172 = .ok (.imul, 1) := by decide +kernel
theorem dX7_maps_173 : decode cX7_maps 173 = .ok (.iadd, 1) := by decide +kernel
theorem dX7_maps_174 : decode cX7_maps 174 = .ok (.iload 9, 2) := by decide +kernel
theorem dX7_maps_176 : decode cX7_maps 176 = .ok (.iadd, 1) := by decide +kernel
theorem dX7_maps_177 : decode cX7_maps 177 = .ok (.aload_n 0, 1) := by decide +kernel
theorem dX7_maps_178 : decode cX7_maps 178 = .ok (.getfield 16, 3) := by decide +kernel
theorem dX7_maps_181 : decode cX7_maps 181 = .ok (.iload_n 1, 1) := by decide +kernel
theorem dX7_maps_182 : decode cX7_maps 182 = .ok (.iload_n 3, 1) := by decide +kernel
theorem dX7_maps_183 : decode cX7_maps 183 = .ok (.iload 9, 2) := by decide +kernel
theorem dX7_maps_185 : decode cX7_maps 185 = .ok (.iload 7, 2) := by decide +kernel
theorem dX7_maps_187 : decode cX7_maps 187 = .ok (.invokestatic 128, 3) := by decide +kernel
theorem dX7_maps_190 : decode cX7_maps 190 = .ok (.iaload, 1) := by decide +kernel
theorem dX7_maps_191 : decode cX7_maps 191 = .ok (.iastore, 1) := by decide +kernel
theorem dX7_maps_192 : decode cX7_maps 192 = .ok (.iinc 9 1, 3) := by decide +kernel
theorem dX7_maps_195 : decode cX7_maps 195 = .ok (.goto (-53), 3) := by decide +kernel
theorem dX7_maps_198 : decode cX7_maps 198 = .ok (.iconst 0, 1) := by decide +kernel
theorem dX7_maps_199 : decode cX7_maps 199 = .ok (.istore 9, 2) := by decide +kernel
theorem dX7_maps_201 : decode cX7_maps 201 = .ok (.iload 9, 2) := by decide +kernel
theorem dX7_maps_203 : decode cX7_maps 203 = .ok (.aload_n 0, 1) := by decide +kernel
theorem dX7_maps_204 : decode cX7_maps 204 = .ok (.iload_n 2, 1) := by decide +kernel
theorem dX7_maps_205 : decode cX7_maps 205 = .ok (.iload 4, 2) := by decide +kernel
theorem dX7_maps_207 : decode cX7_maps 207 = .ok (.invokevirtual 118, 3) := by decide +kernel
theorem dX7_maps_210 : decode cX7_maps 210 = .ok (.if_icmp .ge 61, 3) := by decide +kernel
theorem dX7_maps_213 : decode cX7_maps 213 = .ok (.aload_n 0, 1) := by decide +kernel
theorem dX7_maps_214 : decode cX7_maps 214 = .ok (.getfield 36, 3) := by decide +kernel
theorem dX7_maps_217 : decode cX7_maps 217 = .ok (.iload 4, 2) := by decide +kernel
theorem dX7_maps_219 : decode cX7_maps 219 = .ok (.iaload, 1) := by decide +kernel
theorem dX7_maps_220 : decode cX7_maps 220 = .ok (.iload 9, 2) := by decide +kernel
theorem dX7_maps_222 : decode cX7_maps 222 = .ok (.aload_n 0, 1) := by decide +kernel
theorem dX7_maps_223 : decode cX7_maps 223 = .ok (.iload_n 1, 1) := by decide +kernel
theorem dX7_maps_224 : decode cX7_maps 224 = .ok (.iload 4, 2) := by decide +kernel
theorem dX7_maps_226 : decode cX7_maps 226 = .ok (.invokevirtual 118, 3) := by decide +kernel
theorem dX7_maps_229 : decode cX7_maps 229 = .ok (.imul, 1) := by decide +kernel
theorem dX7_maps_230 : decode cX7_maps 230 = .ok (.iadd, 1) := by decide +kernel
theorem dX7_maps_231 : decode cX7_maps 231 = .ok (.iload 7, 2) := by decide +kernel
theorem dX7_maps_233 : decode cX7_maps 233 = .ok (.iadd, 1) := by decide +kernel
theorem dX7_maps_234 : decode cX7_maps 234 = .ok (.istore 10, 2) := by decide +kernel
theorem dX7_maps_236 : decode cX7_maps 236 = .ok (.aload 8, 2) := by decide +kernel
theorem dX7_maps_238 : decode cX7_maps 238 = .ok (.iload 10, 2) := by decide +kernel
theorem dX7_maps_240 : decode cX7_maps 240 = .ok (.aload_n 0, 1) := by decide +kernel
