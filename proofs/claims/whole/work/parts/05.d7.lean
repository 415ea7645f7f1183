theorem dX7_maps_241 : decode cX7_maps 241 = .ok (.aload 8, 2) := by decide +kernel
theorem dX7_maps_243 : decode cX7_maps 243 = .ok (.iload 10, 2) := by decide +kernel
theorem dX7_maps_245 : decode cX7_maps 245 = .ok (.iaload, 1) := by decide +kernel
theorem dX7_maps_246 : decode cX7_maps 246 = .ok (.aload_n 0, 1) := by decide +kernel
theorem dX7_maps_247 : decode cX7_maps 247 = .ok (.getfield 16, 3) := by decide +kernel
theorem dX7_maps_250 : decode cX7_maps 250 = .ok (.iload_n 2, 1) := by decide +kernel
theorem dX7_maps_251 : decode cX7_maps 251 = .ok (.iload_n 3, 1) := by decide +kernel
theorem dX7_maps_252 : decode cX7_maps 252 = .ok (.iload 6, 2) := by decide +kernel
theorem dX7_maps_254 : decode cX7_maps 254 = .ok (.iload 9, 2) := by decide +kernel
theorem dX7_maps_256 : decode cX7_maps 256 = .ok (.invokestatic 128, 3) := by decide +kernel
theorem dX7_maps_259 : decode cX7_maps 259 = .ok (.iaload, 1) := by decide +kernel
theorem dX7_maps_260 : decode cX7_maps 260 = .ok (.isub, 1) := by decide +kernel
theorem dX7_maps_261 : decode cX7_maps 261 = .ok (.invokevirtual 132, 3) := by decide +kernel
theorem dX7_maps_264 : decode cX7_maps 264 = .ok (.iastore, 1) := by decide +kernel
theorem dX7_maps_265 : decode cX7_maps 265 = .ok (.iinc 9 1, 3) := by decide +kernel
theorem dX7_maps_268 : decode cX7_maps 268 = .ok (.goto (-67), 3) := by decide +kernel
theorem dX7_maps_271 : decode cX7_maps 271 = .ok (.iinc 7 1, 3) := by decide +kernel
theorem dX7_maps_274 : decode cX7_maps 274 = .ok (.goto (-153), 3) := by decide +kernel
theorem dX7_maps_277 : decode cX7_maps 277 = .ok (.iinc 6 1, 3) := by decide +kernel
theorem dX7_maps_280 : decode cX7_maps 280 = .ok (.goto (-174), 3) := by decide +kernel
theorem dX7_maps_283 : decode cX7_maps 283 = .ok (.iinc 3 1, 3) := by decide +kernel
theorem dX7_maps_286 : decode cX7_maps 286 = .ok (.goto (-209), 3) := by decide +kernel
theorem dX7_maps_289 : decode cX7_maps 289 = .ok (.aload_n 0, 1) := by decide +kernel
theorem dX7_maps_290 : decode cX7_maps 290 = .ok (.getfield 36, 3) := by decide +kernel
theorem dX7_maps_293 : decode cX7_maps 293 = .ok (.aload_n 0, 1) := by decide +kernel
theorem dX7_maps_294 : decode cX7_maps 294 = .ok (.getfield 93, 3) := by decide +kernel
theorem dX7_maps_297 : decode cX7_maps 297 = .ok (.iaload, 1) := by decide +kernel
theorem dX7_maps_298 : decode cX7_maps 298 = .ok (.aload_n 0, 1) := by decide +kernel
theorem dX7_maps_299 : decode cX7_maps 299 = .ok (.invokevirtual 162, 3) := by decide +kernel
theorem dX7_maps_302 : decode cX7_maps 302 = .ok (.isub, 1) := by decide +kernel
theorem dX7_maps_303 : decode cX7_maps 303 = .ok (.ireturn, 1) := by decide +kernel
theorem dX7_form_0 : decode cX7_form 0 = .ok (.iload_n 1, 1) := by decide +kernel
theorem dX7_form_1 : decode cX7_form 1 = .ok (.invokestatic 104, 3) := by decide +kernel
theorem dX7_form_4 : decode cX7_form 4 = .ok (.ifCond .eq 10, 3) := by decide +kernel
theorem dX7_form_7 : decode cX7_form 7 = .ok (.iload_n 2, 1) := by decide +kernel
theorem dX7_form_8 : decode cX7_form 8 = .ok (.invokestatic 104, 3) := by decide +kernel
theorem dX7_form_11 : decode cX7_form 11 = .ok (.ifCond .ne 5, 3) := by decide +kernel
theorem dX7_form_14 : decode cX7_form 14 = .ok (.iconst 0, 1) := by decide +kernel
theorem dX7_form_15 : decode cX7_form 15 = .ok (.ireturn, 1) := by decide +kernel
theorem dX7_form_16 : decode cX7_form 16 = .ok (.iconst 0, 1) := by decide +kernel
theorem dX7_form_17 : decode cX7_form 17 = .ok (.istore_n 3, 1) := by decide +kernel
theorem dX7_form_18 : decode cX7_form 18 = .ok (.iconst 0, 1) := by decide +kernel
theorem dX7_form_19 : decode cX7_form 19 = .ok (.istore 4, 2) := by decide +kernel
theorem dX7_form_21 : decode cX7_form 21 = .ok (.iload 4, 2) := by decide +kernel
theorem dX7_form_23 : decode cX7_form 23 = .ok (.aload_n 0, 1) := by decide +kernel
theorem dX7_form_24 : decode cX7_form 24 = .ok (.getfield 93, 3) := by decide +kernel
theorem dX7_form_27 : decode cX7_form 27 = .ok (.if_icmp .ge 27, 3) := by decide +kernel
theorem dX7_form_30 : decode cX7_form 30 = .ok (.iload_n 3, 1) := by decide +kernel
theorem dX7_form_31 : decode cX7_form 31 = .ok (.aload_n 0, 1) := by decide +kernel
theorem dX7_form_32 : decode cX7_form 32 = .ok (.iload_n 1, 1) := by decide +kernel
theorem dX7_form_33 : decode cX7_form 33 = .ok (.iload 4, 2) := by decide +kernel
theorem dX7_form_35 : decode cX7_form 35 = .ok (.invokevirtual 118, 3) := by decide +kernel
theorem dX7_form_38 : decode cX7_form 38 = .ok (.aload_n 0, 1) := by decide +kernel
theorem dX7_form_39 : decode cX7_form 39 = .ok (.iload_n 2, 1) := by decide +kernel
theorem dX7_form_40 : decode cX7_form 40 = .ok (.iload 4, 2) := by decide +kernel
theorem dX7_form_42 : decode cX7_form 42 = .ok (.invokevirtual 118, 3) := by decide +kernel
theorem dX7_form_45 : decode cX7_form 45 = .ok (.imul, 1) := by decide +kernel
theorem dX7_form_46 : decode cX7_form 46 = .ok (.iadd, 1) := by decide +kernel
theorem dX7_form_47 : decode cX7_form 47 = .ok (.istore_n 3, 1) := by decide +kernel
theorem dX7_form_48 : decode cX7_form 48 = .ok (.iinc 4 1, 3) := by decide +kernel
theorem dX7_form_51 : decode cX7_form 51 = .ok (.goto (-30), 3) := by decide +kernel
theorem dX7_form_54 : decode cX7_form 54 = .ok (.iconst 0, 1) := by decide +kernel
theorem dX7_form_55 : decode cX7_form 55 = .ok (.istore 4, 2) := by decide +kernel
theorem dX7_form_57 : decode cX7_form 57 = .ok (.iload 4, 2) := by decide +kernel
theorem dX7_form_59 : decode cX7_form 59 = .ok (.aload_n 0, 1) := by decide +kernel
theorem dX7_form_60 : decode cX7_form 60 = .ok (.getfield 93, 3) := by decide +kernel
theorem dX7_form_63 : decode cX7_form 63 = .ok (.iconst 1, 1) := by decide +kernel
theorem dX7_form_64 : decode cX7_form 64 = .ok (.isub, 1) := by decide +kernel
theorem dX7_form_65 : decode cX7_form 65 = .ok (.if_icmp .ge 37, 3) := by decide +kernel
theorem dX7_form_68 : decode cX7_form 68 = .ok (.iload_n 3, 1) := by decide +kernel
theorem dX7_form_69 : decode cX7_form 69 = .ok (.aload_n 0, 1) := by decide +kernel
theorem dX7_form_70 : decode cX7_form 70 = .ok (.iload_n 1, 1) := by decide +kernel
theorem dX7_form_71 : decode cX7_form 71 = .ok (.aload_n 0, 1) := by decide +kernel
theorem dX7_form_72 : decode cX7_form 72 = .ok (.iload_n 1, 1) := by decide +kernel
theorem dX7_form_73 : decode cX7_form 73 = .ok (.iload 4, 2) := by decide +kernel
theorem dX7_form_75 : decode cX7_form 75 = .ok (.invokevirtual 121, 3) := by decide +kernel
theorem dX7_form_78 : decode cX7_form 78 = .ok (.invokevirtual 118, 3) := by decide +kernel
theorem dX7_form_81 : decode cX7_form 81 = .ok (.aload_n 0, 1) := by decide +kernel
theorem dX7_form_82 : decode cX7_form 82 = .ok (.iload_n 2, 1) := by decide +kernel
theorem dX7_form_83 : decode cX7_form 83 = .ok (.aload_n 0, 1) := by decide +kernel
theorem dX7_form_84 : decode cX7_form 84 = .ok (.iload_n 1, 1) := by decide +kernel
theorem dX7_form_85 : decode cX7_form 85 = .ok (.iload 4, 2) := by decide +kernel
theorem dX7_form_87 : decode cX7_form 87 = .ok (.invokevirtual 115, 3) := by decide +kernel
theorem dX7_form_90 : decode cX7_form 90 = .ok (.invokevirtual 118, 3) := by decide +kernel
theorem dX7_form_93 : decode cX7_form 93 = .ok (.imul, 1) := by decide +kernel
theorem dX7_form_94 : decode cX7_form 94 = .ok (.isub, 1) := by decide +kernel
theorem dX7_form_95 : decode cX7_form 95 = .ok (.istore_n 3, 1) := by decide +kernel
theorem dX7_form_96 : decode cX7_form 96 = .ok (.iinc 4 1, 3) := by decide +kernel
theorem dX7_form_99 : decode cX7_form 99 = .ok (.goto (-42), 3) := by decide +kernel
theorem dX7_form_102 : decode cX7_form 102 = .ok (.iload_n 3, 1) := by decide +kernel
theorem dX7_form_103 : decode cX7_form 103 = .ok (.ireturn, 1) := by decide +kernel
theorem dX7_bends_0 : decode cX7_bends 0 = .ok (.aload_n 0, 1) := by decide +kernel
theorem dX7_bends_1 : decode cX7_bends 1 = .ok (.iload_n 1, 1) := by decide +kernel
theorem dX7_bends_2 : decode cX7_bends 2 = .ok (.iload_n 2, 1) := by decide +kernel
theorem dX7_bends_3 : decode cX7_bends 3 = .ok (.invokevirtual 169, 3) := by decide +kernel
theorem dX7_bends_6 : decode cX7_bends 6 = .ok (.ifCond .eq 19, 3) := by decide +kernel
theorem dX7_bends_9 : decode cX7_bends 9 = .ok (.aload_n 0, 1) := by decide +kernel
theorem dX7_bends_10 : decode cX7_bends 10 = .ok (.iload_n 1, 1) := by decide +kernel
theorem dX7_bends_11 : decode cX7_bends 11 = .ok (.iload_n 2, 1) := by decide +kernel
theorem dX7_bends_12 : decode cX7_bends 12 = .ok (.invokevirtual 172, 3) := by decide +kernel
theorem dX7_bends_15 : decode cX7_bends 15 = .ok (.aload_n 0, 1) := by decide +kernel
theorem dX7_bends_16 : decode cX7_bends 16 = .ok (.iload_n 1, 1) := by decide +kernel
theorem dX7_bends_17 : decode cX7_bends 17 = .ok (.iload_n 2, 1) := by decide +kernel
theorem dX7_bends_18 : decode cX7_bends 18 = .ok (.invokevirtual 175, 3) := by decide +kernel
theorem dX7_bends_21 : decode cX7_bends 21 = .ok (.isub, 1) := by decide +kernel
theorem dX7_bends_22 : decode cX7_bends 22 = .ok (.goto 4, 3) := by decide +kernel
theorem dX7_bends_25 : decode cX7_bends 25 = .ok (.iconst (-1), 1) := by decide +kernel
theorem dX7_bends_26 : decode cX7_bends 26 = .ok (.ireturn, 1) := by decide +kernel
theorem dX7_same_0 : decode cX7_same 0 = .ok (.aload_n 0, 1) := by decide +kernel
theorem dX7_same_1 : decode cX7_same 1 = .ok (.getfield 36, 3) := by decide +kernel
theorem dX7_same_4 : decode cX7_same 4 = .ok (.iload_n 2, 1) := by decide +kernel
theorem dX7_same_5 : decode cX7_same 5 = .ok (.iconst 0, 1) := by decide +kernel
theorem dX7_same_6 : decode cX7_same 6 = .ok (.iastore, 1) := by decide +kernel
theorem dX7_same_7 : decode cX7_same 7 = .ok (.iload_n 2, 1) := by decide +kernel
theorem dX7_same_8 : decode cX7_same 8 = .ok (.istore 4, 2) := by decide +kernel
theorem dX7_same_10 : decode cX7_same 10 = .ok (.iload 4, 2) := by decide +kernel
theorem dX7_same_12 : decode cX7_same 12 = .ok (.iload_n 3, 1) := by decide +kernel
theorem dX7_same_13 : decode cX7_same 13 = .ok (.if_icmp .gt 33, 3) := by decide +kernel
theorem dX7_same_16 : decode cX7_same 16 = .ok (.aload_n 0, 1) := by decide +kernel
theorem dX7_same_17 : decode cX7_same 17 = .ok (.getfield 36, 3) := by decide +kernel
theorem dX7_same_20 : decode cX7_same 20 = .ok (.iload 4, 2) := by decide +kernel
theorem dX7_same_22 : decode cX7_same 22 = .ok (.iconst 1, 1) := by decide +kernel
theorem dX7_same_23 : decode cX7_same 23 = .ok (.iadd, 1) := by decide +kernel
theorem dX7_same_24 : decode cX7_same 24 = .ok (.aload_n 0, 1) := by decide +kernel
theorem dX7_same_25 : decode cX7_same 25 = .ok (.getfield 36, 3) := by decide +kernel
theorem dX7_same_28 : decode cX7_same 28 = .ok (.iload 4, 2) := by decide +kernel
theorem dX7_same_30 : decode cX7_same 30 = .ok (.iaload, 1) := by decide +kernel
theorem dX7_same_31 : decode cX7_same 31 = .ok (.aload_n 0, 1) := by decide +kernel
theorem dX7_same_32 : decode cX7_same 32 = .ok (.iload_n 1, 1) := by decide +kernel
theorem dX7_same_33 : decode cX7_same 33 = .ok (.iload 4, 2) := by decide +kernel
theorem dX7_same_35 : decode cX7_same 35 = .ok (.invokevirtual 118, 3) := by decide +kernel
theorem dX7_same_38 : decode cX7_same 38 = .ok (.iadd, 1) := by decide +kernel
theorem dX7_same_39 : decode cX7_same 39 = .ok (.iastore, 1) := by decide +kernel
theorem dX7_same_40 : decode cX7_same 40 = .ok (.iinc 4 1, 3) := by decide +kernel
theorem dX7_same_43 : decode cX7_same 43 = .ok (.goto (-33), 3) := by decide +kernel
theorem dX7_same_46 : decode cX7_same 46 = .ok (.aload_n 0, 1) := by decide +kernel
theorem dX7_same_47 : decode cX7_same 47 = .ok (.getfield 36, 3) := by decide +kernel
theorem dX7_same_50 : decode cX7_same 50 = .ok (.iload_n 3, 1) := by decide +kernel
theorem dX7_same_51 : decode cX7_same 51 = .ok (.iconst 1, 1) := by decide +kernel
theorem dX7_same_52 : decode cX7_same 52 = .ok (.iadd, 1) := by decide +kernel
theorem dX7_same_53 : decode cX7_same 53 = .ok (.iaload, 1) := by decide +kernel
theorem dX7_same_54 : decode cX7_same 54 = .ok (.istore 4, 2) := by decide +kernel
theorem dX7_same_56 : decode cX7_same 56 = .ok (.aload_n 0, 1) := by decide +kernel
theorem dX7_same_57 : decode cX7_same 57 = .ok (.iload 4, 2) := by decide +kernel
theorem dX7_same_59 : decode cX7_same 59 = .ok (.invokevirtual 155, 3) := by decide +kernel
theorem dX7_same_62 : decode cX7_same 62 = .ok (.iload_n 2, 1) := by decide +kernel
theorem dX7_same_63 : decode cX7_same 63 = .ok (.istore 5, 2) := by decide +kernel
theorem dX7_same_65 : decode cX7_same 65 = .ok (.iload 5, 2) := by decide +kernel
theorem dX7_same_67 : decode cX7_same 67 = .ok (.iload_n 3, 1) := by decide +kernel
theorem dX7_same_68 : decode cX7_same 68 = .ok (.if_icmp .ge 135, 3) := by decide +kernel
theorem dX7_same_71 : decode cX7_same 71 = .ok (.aload_n 0, 1) := by decide +kernel
theorem dX7_same_72 : decode cX7_same 72 = .ok (.iload_n 1, 1) := by decide +kernel
theorem dX7_same_73 : decode cX7_same 73 = .ok (.iload 5, 2) := by decide +kernel
theorem dX7_same_75 : decode cX7_same 75 = .ok (.invokevirtual 121, 3) := by decide +kernel
theorem dX7_same_78 : decode cX7_same 78 = .ok (.istore 6, 2) := by decide +kernel
theorem dX7_same_80 : decode cX7_same 80 = .ok (.aload_n 0, 1) := by decide +kernel
theorem dX7_same_81 : decode cX7_same 81 = .ok (.iload_n 1, 1) := by decide +kernel
theorem dX7_same_82 : decode cX7_same 82 = .ok (.iload 5, 2) := by decide +kernel
theorem dX7_same_84 : decode cX7_same 84 = .ok (.invokevirtual 115, 3) := by decide +kernel
theorem dX7_same_87 : decode cX7_same 87 = .ok (.istore 7, 2) := by decide +kernel
theorem dX7_same_89 : decode cX7_same 89 = .ok (.iconst 0, 1) := by decide +kernel
theorem dX7_same_90 : decode cX7_same 90 = .ok (.istore 8, 2) := by decide +kernel
theorem dX7_same_92 : decode cX7_same 92 = .ok (.iload 8, 2) := by decide +kernel
theorem dX7_same_94 : decode cX7_same 94 = .ok (.aload_n 0, 1) := by decide +kernel
theorem dX7_same_95 : decode cX7_same 95 = .ok (.iload_n 1, 1) := by decide +kernel
theorem dX7_same_96 : decode cX7_same 96 = .ok (.iload 7, 2) := by decide +kernel
theorem dX7_same_98 : decode cX7_same 98 = .ok (.invokevirtual 118, 3) := by decide +kernel
theorem dX7_same_101 : decode cX7_same 101 = .ok (.if_icmp .ge 96, 3) := by decide +kernel
theorem dX7_same_104 : decode cX7_same 104 = .ok (.aload_n 0, 1) := by decide +kernel
theorem dX7_same_105 : decode cX7_same 105 = .ok (.invokevirtual 158, 3) := by decide +kernel
theorem dX7_same_108 : decode cX7_same 108 = .ok (.astore 9, 2) := by decide +kernel
theorem dX7_same_110 : decode cX7_same 110 = .ok (.iconst 0, 1) := by decide +kernel
theorem dX7_same_111 : decode cX7_same 111 = .ok (.istore 10, 2) := by decide +kernel
theorem dX7_same_113 : decode cX7_same 113 = .ok (.iload 10, 2) := by decide +kernel
theorem dX7_same_115 : decode cX7_same 115 = .ok (.aload_n 0, 1) := by decide +kernel
theorem dX7_same_116 : decode cX7_same 116 = .ok (.iload_n 1, 1) := by decide +kernel
theorem dX7_same_117 : decode cX7_same 117 = .ok (.iload 6, 2) := by decide +kernel
theorem dX7_same_119 : decode cX7_same 119 = .ok (.invokevirtual 118, 3) := by decide +kernel
theorem dX7_same_122 : decode cX7_same 122 = .ok (.if_icmp .ge 37, 3) := by decide +kernel
theorem dX7_same_125 : decode cX7_same 125 = .ok (.aload 9, 2) := by decide +kernel
theorem dX7_same_127 : decode cX7_same 127 = .ok (.aload_n 0, 1) := by decide +kernel
theorem dX7_same_128 : decode cX7_same 128 = .ok (.getfield 36, 3) := by decide +kernel
theorem dX7_same_131 : decode cX7_same 131 = .ok (.iload 6, 2) := by decide +kernel
theorem dX7_same_133 : decode cX7_same 133 = .ok (.iaload, 1) := by decide +kernel
theorem dX7_same_134 : decode cX7_same 134 = .ok (.iload 10, 2) := by decide +kernel
theorem dX7_same_136 : decode cX7_same 136 = .ok (.iadd, 1) := by decide +kernel
theorem dX7_same_137 : decode cX7_same 137 = .ok (.aload_n 0, 1) := by decide +kernel
theorem dX7_same_138 : decode cX7_same 138 = .ok (.getfield 16, 3) := by decide +kernel
theorem dX7_same_141 : decode cX7_same 141 = .ok (.iload_n 1, 1) := by decide +kernel
theorem dX7_same_142 : decode cX7_same 142 = .ok (.iload 5, 2) := by decide +kernel
theorem dX7_same_144 : decode cX7_same 144 = .ok (.iload 8, 2) := by decide +kernel
theorem dX7_same_146 : decode cX7_same 146 = .ok (.iload 10, 2) := by decide +kernel
theorem dX7_same_148 : decode cX7_same 148 = .ok (.invokestatic 128, 3) := by decide +kernel
theorem dX7_same_151 : decode cX7_same 151 = .ok (.iaload, 1) := by decide +kernel
theorem dX7_same_152 : decode cX7_same 152 = .ok (.iastore, 1) := by decide +kernel
theorem dX7_same_153 : decode cX7_same 153 = .ok (.iinc 10 1, 3) := by decide +kernel
theorem dX7_same_156 : decode cX7_same 156 = .ok (.goto (-43), 3) := by decide +kernel
theorem dX7_same_159 : decode cX7_same 159 = .ok (.aload 9, 2) := by decide +kernel
theorem dX7_same_161 : decode cX7_same 161 = .ok (.aload_n 0, 1) := by decide +kernel
theorem dX7_same_162 : decode cX7_same 162 = .ok (.getfield 36, 3) := by decide +kernel
theorem dX7_same_165 : decode cX7_same 165 = .ok (.iload 7, 2) := by decide +kernel
theorem dX7_same_167 : decode cX7_same 167 = .ok (.iaload, 1) := by decide +kernel
theorem dX7_same_168 : decode cX7_same 168 = .ok (.iload 8, 2) := by decide +kernel
theorem dX7_same_170 : decode cX7_same 170 = .ok (.iadd, 1) := by decide +kernel
theorem dX7_same_171 : decode cX7_same 171 = .ok (.aload_n 0, 1) := by decide +kernel
theorem dX7_same_172 : decode cX7_same 172 = .ok (.aload 9, 2) := by decide +kernel
theorem dX7_same_174 : decode cX7_same 174 = .ok (.aload_n 0, 1) := by decide +kernel
theorem dX7_same_175 : decode cX7_same 175 = .ok (.getfield 36, 3) := by decide +kernel
theorem dX7_same_178 : decode cX7_same 178 = .ok (.iload 7, 2) := by decide +kernel
theorem dX7_same_180 : decode cX7_same 180 = .ok (.iaload, 1) := by decide +kernel
theorem dX7_same_181 : decode cX7_same 181 = .ok (.iload 8, 2) := by decide +kernel
theorem dX7_same_183 : decode cX7_same 183 = .ok (.iadd, 1) := by decide +kernel
theorem dX7_same_184 : decode cX7_same 184 = .ok (.iaload, 1) := by decide +kernel
theorem dX7_same_185 : decode cX7_same 185 = .ok (.iconst 1, 1) := by decide +kernel
theorem dX7_same_186 : decode cX7_same 186 = .ok (.isub, 1) := by decide +kernel
theorem dX7_same_187 : decode cX7_same 187 = .ok (.invokevirtual 132, 3) := by decide +kernel
theorem dX7_same_190 : decode cX7_same 190 = .ok (.iastore, 1) := by decide +kernel
theorem dX7_same_191 : decode cX7_same 191 = .ok (.iinc 8 1, 3) := by decide +kernel
theorem dX7_same_194 : decode cX7_same 194 = .ok (.goto (-102), 3) := by decide +kernel
theorem dX7_same_197 : decode cX7_same 197 = .ok (.iinc 5 1, 3) := by decide +kernel
theorem dX7_same_200 : decode cX7_same 200 = .ok (.goto (-135), 3) := by decide +kernel
theorem dX7_same_203 : decode cX7_same 203 = .ok (.aload_n 0, 1) := by decide +kernel
theorem dX7_same_204 : decode cX7_same 204 = .ok (.invokevirtual 162, 3) := by decide +kernel
theorem dX7_same_207 : decode cX7_same 207 = .ok (.istore 5, 2) := by decide +kernel
theorem dX7_same_209 : decode cX7_same 209 = .ok (.iconst 0, 1) := by decide +kernel
theorem dX7_same_210 : decode cX7_same 210 = .ok (.istore 6, 2) := by decide +kernel
theorem dX7_same_212 : decode cX7_same 212 = .ok (.iconst 0, 1) := by decide +kernel
theorem dX7_same_213 : decode cX7_same 213 = .ok (.istore 7, 2) := by decide +kernel
theorem dX7_same_215 : decode cX7_same 215 = .ok (.iload 7, 2) := by decide +kernel
theorem dX7_same_217 : decode cX7_same 217 = .ok (.iload 4, 2) := by decide +kernel
theorem dX7_same_219 : decode cX7_same 219 = .ok (.if_icmp .ge 117, 3) := by decide +kernel
theorem dX7_same_222 : decode cX7_same 222 = .ok (.aload_n 0, 1) := by decide +kernel
theorem dX7_same_223 : decode cX7_same 223 = .ok (.iload 7, 2) := by decide +kernel
theorem dX7_same_225 : decode cX7_same 225 = .ok (.invokevirtual 166, 3) := by decide +kernel
theorem dX7_same_228 : decode cX7_same 228 = .ok (.ifCond .eq 6, 3) := by decide +kernel
theorem dX7_same_231 : decode cX7_same 231 = .ok (.goto 99, 3) := by decide +kernel
theorem dX7_same_234 : decode cX7_same 234 = .ok (.iconst 0, 1) := by decide +kernel
theorem dX7_same_235 : decode cX7_same 235 = .ok (.istore 8, 2) := by decide +kernel
theorem dX7_same_237 : decode cX7_same 237 = .ok (.iload 8, 2) := by decide +kernel
theorem dX7_same_239 : decode cX7_same 239 = .ok (.aload_n 0, 1) := by decide +kernel
theorem dX7_same_240 : decode cX7_same 240 = .ok (.iload_n 1, 1) := by decide +kernel
theorem dX7_same_241 : decode cX7_same 241 = .ok (.iload_n 2, 1) := by decide +kernel
theorem dX7_same_242 : decode cX7_same 242 = .ok (.invokevirtual 118, 3) := by decide +kernel
theorem dX7_same_245 : decode cX7_same 245 = .ok (.if_icmp .ge 82, 3) := by decide +kernel
theorem dX7_same_248 : decode cX7_same 248 = .ok (.iload 8, 2) := by decide +kernel
theorem dX7_same_250 : decode cX7_same 250 = .ok (.iload 7, 2) := by decide +kernel
theorem dX7_same_252 : decode cX7_same 252 = .ok (.if_icmp .ne 7, 3) := by decide +kernel
theorem dX7_same_255 : decode cX7_same 255 = .ok (.iconst 1, 1) := by decide +kernel
theorem dX7_same_256 : decode cX7_same 256 = .ok (.goto 4, 3) := by decide +kernel
theorem dX7_same_259 : decode cX7_same 259 = .ok (.iconst 0, 1) := by decide +kernel
theorem dX7_same_260 : decode cX7_same 260 = .ok (.istore 9, 2) := by decide +kernel
theorem dX7_same_262 : decode cX7_same 262 = .ok (.iconst 0, 1) := by decide +kernel
theorem dX7_same_263 : decode cX7_same 263 = .ok (.istore 10, 2) := by decide +kernel
theorem dX7_same_265 : decode cX7_same 265 = .ok (.iload 10, 2) := by decide +kernel
theorem dX7_same_267 : decode cX7_same 267 = .ok (.aload_n 0, 1) := by decide +kernel
theorem dX7_same_268 : decode cX7_same 268 = .ok (.getfield 146, 3) := by decide +kernel
theorem dX7_same_271 : decode cX7_same 271 = .ok (.if_icmp .ge 38, 3) := by decide +kernel
theorem dX7_same_274 : decode cX7_same 274 = .ok (.aload_n 0, 1) := by decide +kernel
theorem dX7_same_275 : decode cX7_same 275 = .ok (.getfield 30, 3) := by decide +kernel
theorem dX7_same_278 : decode cX7_same 278 = .ok (.iload 10, 2) := by decide +kernel
theorem dX7_same_280 : decode cX7_same 280 = .ok (.iaload, 1) := by decide +kernel
theorem dX7_same_281 : decode cX7_same 281 = .ok (.iload 8, 2) := by decide +kernel
theorem dX7_same_283 : decode cX7_same 283 = .ok (.if_icmp .ne 20, 3) := by decide +kernel
theorem dX7_same_286 : decode cX7_same 286 = .ok (.aload_n 0, 1) := by decide +kernel
theorem dX7_same_287 : decode cX7_same 287 = .ok (.aload_n 0, 1) := by decide +kernel
theorem dX7_same_288 : decode cX7_same 288 = .ok (.getfield 27, 3) := by decide +kernel
theorem dX7_same_291 : decode cX7_same 291 = .ok (.iload 10, 2) := by decide +kernel
theorem dX7_same_293 : decode cX7_same 293 = .ok (.aaload, 1) := by decide +kernel
theorem dX7_same_294 : decode cX7_same 294 = .ok (.iload 7, 2) := by decide +kernel
theorem dX7_same_296 : decode cX7_same 296 = .ok (.iaload, 1) := by decide +kernel
theorem dX7_same_297 : decode cX7_same 297 = .ok (.ineg, 1) := by decide +kernel
theorem dX7_same_298 : decode cX7_same 298 = .ok (.invokevirtual 132, 3) := by decide +kernel
theorem dX7_same_301 : decode cX7_same 301 = .ok (.istore 9, 2) := by decide +kernel
theorem dX7_same_303 : decode cX7_same 303 = .ok (.iinc 10 1, 3) := by decide +kernel
theorem dX7_same_306 : decode cX7_same 306 = .ok (.goto (-41), 3) := by decide +kernel
theorem dX7_same_309 : decode cX7_same 309 = .ok (.aload_n 0, 1) := by decide +kernel
theorem dX7_same_310 : decode cX7_same 310 = .ok (.getfield 39, 3) := by decide +kernel
theorem dX7_same_313 : decode cX7_same 313 = .ok (.iload 6, 2) := by decide +kernel
theorem dX7_same_315 : decode cX7_same 315 = .ok (.aaload, 1) := by decide +kernel
theorem dX7_same_316 : decode cX7_same 316 = .ok (.iload 8, 2) := by decide +kernel
theorem dX7_same_318 : decode cX7_same 318 = .ok (.iload 9, 2) := by decide +kernel
theorem dX7_same_320 : decode cX7_same 320 = .ok (.iastore, 1) := by decide +kernel
theorem dX7_same_321 : decode cX7_same 321 = .ok (.iinc 8 1, 3) := by decide +kernel
theorem dX7_same_324 : decode cX7_same 324 = .ok (.goto (-87), 3) := by decide +kernel
theorem dX7_same_327 : decode cX7_same 327 = .ok (.iinc 6 1, 3) := by decide +kernel
theorem dX7_same_330 : decode cX7_same 330 = .ok (.iinc 7 1, 3) := by decide +kernel
theorem dX7_same_333 : decode cX7_same 333 = .ok (.goto (-118), 3) := by decide +kernel
theorem dX7_same_336 : decode cX7_same 336 = .ok (.iload 6, 2) := by decide +kernel
theorem dX7_same_338 : decode cX7_same 338 = .ok (.ireturn, 1) := by decide +kernel
theorem dX7_through_0 : decode cX7_through 0 = .ok (.iload_n 2, 1) := by decide +kernel
theorem dX7_through_1 : decode cX7_through 1 = .ok (.ifCond .lt 11, 3) := by decide +kernel
theorem dX7_through_4 : decode cX7_through 4 = .ok (.iload_n 3, 1) := by decide +kernel
theorem dX7_through_5 : decode cX7_through 5 = .ok (.aload_n 0, 1) := by decide +kernel
theorem dX7_through_6 : decode cX7_through 6 = .ok (.getfield 93, 3) := by decide +kernel
theorem dX7_through_9 : decode cX7_through 9 = .ok (.if_icmp .lt 5, 3) := by decide +kernel
theorem dX7_through_12 : decode cX7_through 12 = .ok (.iconst 0, 1) := by decide +kernel
theorem dX7_through_13 : decode cX7_through 13 = .ok (.ireturn, 1) := by decide +kernel
theorem dX7_through_14 : decode cX7_through 14 = .ok (.aload_n 0, 1) := by decide +kernel
theorem dX7_through_15 : decode cX7_through 15 = .ok (.iload_n 1, 1) := by decide +kernel
theorem dX7_through_16 : decode cX7_through 16 = .ok (.iload_n 2, 1) := by decide +kernel
theorem dX7_through_17 : decode cX7_through 17 = .ok (.iload_n 3, 1) := by decide +kernel
theorem dX7_through_18 : decode cX7_through 18 = .ok (.invokevirtual 178, 3) := by decide +kernel
theorem dX7_through_21 : decode cX7_through 21 = .ok (.istore 4, 2) := by decide +kernel
theorem dX7_through_23 : decode cX7_through 23 = .ok (.aload_n 0, 1) := by decide +kernel
theorem dX7_through_24 : decode cX7_through 24 = .ok (.getfield 36, 3) := by decide +kernel
theorem dX7_through_27 : decode cX7_through 27 = .ok (.iload_n 3, 1) := by decide +kernel
theorem dX7_through_28 : decode cX7_through 28 = .ok (.iconst 1, 1) := by decide +kernel
theorem dX7_through_29 : decode cX7_through 29 = .ok (.iadd, 1) := by decide +kernel
theorem dX7_through_30 : decode cX7_through 30 = .ok (.iaload, 1) := by decide +kernel
theorem dX7_through_31 : decode cX7_through 31 = .ok (.istore 5, 2) := by decide +kernel
theorem dX7_through_33 : decode cX7_through 33 = .ok (.aload_n 0, 1) := by decide +kernel
theorem dX7_through_34 : decode cX7_through 34 = .ok (.iload 5, 2) := by decide +kernel
theorem dX7_through_36 : decode cX7_through 36 = .ok (.invokevirtual 155, 3) := by decide +kernel
theorem dX7_through_39 : decode cX7_through 39 = .ok (.iload_n 2, 1) := by decide +kernel
theorem dX7_through_40 : decode cX7_through 40 = .ok (.istore 6, 2) := by decide +kernel
theorem dX7_through_42 : decode cX7_through 42 = .ok (.iload 6, 2) := by decide +kernel
theorem dX7_through_44 : decode cX7_through 44 = .ok (.iload_n 3, 1) := by decide +kernel
theorem dX7_through_45 : decode cX7_through 45 = .ok (.if_icmp .ge 122, 3) := by decide +kernel
theorem dX7_through_48 : decode cX7_through 48 = .ok (.aload_n 0, 1) := by decide +kernel
theorem dX7_through_49 : decode cX7_through 49 = .ok (.iload_n 1, 1) := by decide +kernel
theorem dX7_through_50 : decode cX7_through 50 = .ok (.iload 6, 2) := by decide +kernel
theorem dX7_through_52 : decode cX7_through 52 = .ok (.invokevirtual 121, 3) := by decide +kernel
theorem dX7_through_55 : decode cX7_through 55 = .ok (.istore 7, 2) := by decide +kernel
theorem dX7_through_57 : decode cX7_through 57 = .ok (.aload_n 0, 1) := by decide +kernel
theorem dX7_through_58 : decode cX7_through 58 = .ok (.iload_n 1, 1) := by decide +kernel
theorem dX7_through_59 : decode cX7_through 59 = .ok (.iload 6, 2) := by decide +kernel
theorem dX7_through_61 : decode cX7_through 61 = .ok (.invokevirtual 115, 3) := by decide +kernel
theorem dX7_through_64 : decode cX7_through 64 = .ok (.istore 8, 2) := by decide +kernel
theorem dX7_through_66 : decode cX7_through 66 = .ok (.iconst 0, 1) := by decide +kernel
theorem dX7_through_67 : decode cX7_through 67 = .ok (.istore 9, 2) := by decide +kernel
theorem dX7_through_69 : decode cX7_through 69 = .ok (.iload 9, 2) := by decide +kernel
theorem dX7_through_71 : decode cX7_through 71 = .ok (.aload_n 0, 1) := by decide +kernel
theorem dX7_through_72 : decode cX7_through 72 = .ok (.iload_n 1, 1) := by decide +kernel
theorem dX7_through_73 : decode cX7_through 73 = .ok (.iload 7, 2) := by decide +kernel
theorem dX7_through_75 : decode cX7_through 75 = .ok (.invokevirtual 118, 3) := by decide +kernel
theorem dX7_through_78 : decode cX7_through 78 = .ok (.if_icmp .ge 83, 3) := by decide +kernel
theorem dX7_through_81 : decode cX7_through 81 = .ok (.aload_n 0, 1) := by decide +kernel
theorem dX7_through_82 : decode cX7_through 82 = .ok (.invokevirtual 158, 3) := by decide +kernel
theorem dX7_through_85 : decode cX7_through 85 = .ok (.astore 10, 2) := by decide +kernel
theorem dX7_through_87 : decode cX7_through 87 = .ok (.aload 10, 2) := by decide +kernel
theorem dX7_through_89 : decode cX7_through 89 = .ok (.aload_n 0, 1) := by decide +kernel
theorem dX7_through_90 : decode cX7_through 90 = .ok (.getfield 36, 3) := by decide +kernel
theorem dX7_through_93 : decode cX7_through 93 = .ok (.iload 7, 2) := by decide +kernel
theorem dX7_through_95 : decode cX7_through 95 = .ok (.iaload, 1) := by decide +kernel
theorem dX7_through_96 : decode cX7_through 96 = .ok (.iload 9, 2) := by decide +kernel
theorem dX7_through_98 : decode cX7_through 98 = .ok (.iadd, 1) := by decide +kernel
theorem dX7_through_99 : decode cX7_through 99 = .ok (.iconst 1, 1) := by decide +kernel
theorem dX7_through_100 : decode cX7_through 100 = .ok (.iastore, 1) := by decide +kernel
theorem dX7_through_101 : decode cX7_through 101 = .ok (.iconst 0, 1) := by decide +kernel
theorem dX7_through_102 : decode cX7_through 102 = .ok (.istore 11, 2) := by decide +kernel
theorem dX7_through_104 : decode cX7_through 104 = .ok (.iload 11, 2) := by decide +kernel
theorem dX7_through_106 : decode cX7_through 106 = .ok (.aload_n 0, 1) := by decide +kernel
theorem dX7_through_107 : decode cX7_through 107 = .ok (.iload_n 1, 1) := by decide +kernel
theorem dX7_through_108 : decode cX7_through 108 = .ok (.iload 8, 2) := by decide +kernel
theorem dX7_through_110 : decode cX7_through 110 = .ok (.invokevirtual 118, 3) := by decide +kernel
theorem dX7_through_113 : decode cX7_through 113 = .ok (.if_icmp .ge 42, 3) := by decide +kernel
theorem dX7_through_116 : decode cX7_through 116 = .ok (.aload 10, 2) := by decide +kernel
theorem dX7_through_118 : decode cX7_through 118 = .ok (.aload_n 0, 1) := by decide +kernel
theorem dX7_through_119 : decode cX7_through 119 = .ok (.getfield 36, 3) := by decide +kernel
theorem dX7_through_122 : decode cX7_through 122 = .ok (.iload 8, 2) := by decide +kernel
theorem dX7_through_124 : decode cX7_through 124 = .ok (.iaload, 1) := by decide +kernel
theorem dX7_through_125 : decode cX7_through 125 = .ok (.iload 11, 2) := by decide +kernel
theorem dX7_through_127 : decode cX7_through 127 = .ok (.iadd, 1) := by decide +kernel
theorem dX7_through_128 : decode cX7_through 128 = .ok (.aload_n 0, 1) := by decide +kernel
theorem dX7_through_129 : decode cX7_through 129 = .ok (.aload_n 0, 1) := by decide +kernel
theorem dX7_through_130 : decode cX7_through 130 = .ok (.getfield 16, 3) := by decide +kernel
theorem dX7_through_133 : decode cX7_through 133 = .ok (.iload_n 1, 1) := by decide +kernel
theorem dX7_through_134 : decode cX7_through 134 = .ok (.iload 6, 2) := by decide +kernel
theorem dX7_through_136 : decode cX7_through 136 = .ok (.iload 11, 2) := by decide +kernel
theorem dX7_through_138 : decode cX7_through 138 = .ok (.iload 9, 2) := by decide +kernel
theorem dX7_through_140 : decode cX7_through 140 = .ok (.invokestatic 128, 3) := by decide +kernel
theorem dX7_through_143 : decode cX7_through 143 = .ok (.iaload, 1) := by decide +kernel
theorem dX7_through_144 : decode cX7_through 144 = .ok (.ineg, 1) := by decide +kernel
theorem dX7_through_145 : decode cX7_through 145 = .ok (.invokevirtual 132, 3) := by decide +kernel
theorem dX7_through_148 : decode cX7_through 148 = .ok (.iastore, 1) := by decide +kernel
theorem dX7_through_149 : decode cX7_through 149 = .ok (.iinc 11 1, 3) := by decide +kernel
theorem dX7_through_152 : decode cX7_through 152 = .ok (.goto (-48), 3) := by decide +kernel
theorem dX7_through_155 : decode cX7_through 155 = .ok (.iinc 9 1, 3) := by decide +kernel
theorem dX7_through_158 : decode cX7_through 158 = .ok (.goto (-89), 3) := by decide +kernel
theorem dX7_through_161 : decode cX7_through 161 = .ok (.iinc 6 1, 3) := by decide +kernel
theorem dX7_through_164 : decode cX7_through 164 = .ok (.goto (-122), 3) := by decide +kernel
theorem dX7_through_167 : decode cX7_through 167 = .ok (.aload_n 0, 1) := by decide +kernel
theorem dX7_through_168 : decode cX7_through 168 = .ok (.invokevirtual 162, 3) := by decide +kernel
theorem dX7_through_171 : decode cX7_through 171 = .ok (.istore 6, 2) := by decide +kernel
theorem dX7_through_173 : decode cX7_through 173 = .ok (.iconst 0, 1) := by decide +kernel
theorem dX7_through_174 : decode cX7_through 174 = .ok (.istore 7, 2) := by decide +kernel
theorem dX7_through_176 : decode cX7_through 176 = .ok (.iload 7, 2) := by decide +kernel
theorem dX7_through_178 : decode cX7_through 178 = .ok (.iload 4, 2) := by decide +kernel
theorem dX7_through_180 : decode cX7_through 180 = .ok (.if_icmp .ge 50, 3) := by decide +kernel
theorem dX7_through_183 : decode cX7_through 183 = .ok (.aload_n 0, 1) := by decide +kernel
theorem dX7_through_184 : decode cX7_through 184 = .ok (.invokevirtual 158, 3) := by decide +kernel
theorem dX7_through_187 : decode cX7_through 187 = .ok (.astore 8, 2) := by decide +kernel
theorem dX7_through_189 : decode cX7_through 189 = .ok (.iconst 0, 1) := by decide +kernel
theorem dX7_through_190 : decode cX7_through 190 = .ok (.istore 9, 2) := by decide +kernel
theorem dX7_through_192 : decode cX7_through 192 = .ok (.iload 9, 2) := by decide +kernel
theorem dX7_through_194 : decode cX7_through 194 = .ok (.aload_n 0, 1) := by decide +kernel
theorem dX7_through_195 : decode cX7_through 195 = .ok (.iload_n 1, 1) := by decide +kernel
theorem dX7_through_196 : decode cX7_through 196 = .ok (.iload_n 2, 1) := by decide +kernel
theorem dX7_through_197 : decode cX7_through 197 = .ok (.invokevirtual 118, 3) := by decide +kernel
theorem dX7_through_200 : decode cX7_through 200 = .ok (.if_icmp .ge 24, 3) := by decide +kernel
theorem dX7_through_203 : decode cX7_through 203 = .ok (.aload 8, 2) := by decide +kernel
theorem dX7_through_205 : decode cX7_through 205 = .ok (.iload 9, 2) := by decide +kernel
theorem dX7_through_207 : decode cX7_through 207 = .ok (.aload_n 0, 1) := by decide +kernel
theorem dX7_through_208 : decode cX7_through 208 = .ok (.getfield 39, 3) := by decide +kernel
theorem dX7_through_211 : decode cX7_through 211 = .ok (.iload 7, 2) := by decide +kernel
theorem dX7_through_213 : decode cX7_through 213 = .ok (.aaload, 1) := by decide +kernel
theorem dX7_through_214 : decode cX7_through 214 = .ok (.iload 9, 2) := by decide +kernel
theorem dX7_through_216 : decode cX7_through 216 = .ok (.iaload, 1) := by decide +kernel
theorem dX7_through_217 : decode cX7_through 217 = .ok (.iastore, 1) := by decide +kernel
theorem dX7_through_218 : decode cX7_through 218 = .ok (.iinc 9 1, 3) := by decide +kernel
theorem dX7_through_221 : decode cX7_through 221 = .ok (.goto (-29), 3) := by decide +kernel
theorem dX7_through_224 : decode cX7_through 224 = .ok (.iinc 7 1, 3) := by decide +kernel
theorem dX7_through_227 : decode cX7_through 227 = .ok (.goto (-51), 3) := by decide +kernel
theorem dX7_through_230 : decode cX7_through 230 = .ok (.aload_n 0, 1) := by decide +kernel
theorem dX7_through_231 : decode cX7_through 231 = .ok (.invokevirtual 162, 3) := by decide +kernel
theorem dX7_through_234 : decode cX7_through 234 = .ok (.iload 6, 2) := by decide +kernel
theorem dX7_through_236 : decode cX7_through 236 = .ok (.isub, 1) := by decide +kernel
theorem dX7_through_237 : decode cX7_through 237 = .ok (.ireturn, 1) := by decide +kernel
theorem dX7_times_0 : decode cX7_times 0 = .ok (.aload_n 0, 1) := by decide +kernel
theorem dX7_times_1 : decode cX7_times 1 = .ok (.iload_n 1, 1) := by decide +kernel
theorem dX7_times_2 : decode cX7_times 2 = .ok (.iload_n 2, 1) := by decide +kernel
theorem dX7_times_3 : decode cX7_times 3 = .ok (.iload_n 3, 1) := by decide +kernel
theorem dX7_times_4 : decode cX7_times 4 = .ok (.invokevirtual 181, 3) := by decide +kernel
theorem dX7_times_7 : decode cX7_times 7 = .ok (.aload_n 0, 1) := by decide +kernel
theorem dX7_times_8 : decode cX7_times 8 = .ok (.iload_n 1, 1) := by decide +kernel
theorem dX7_times_9 : decode cX7_times 9 = .ok (.iload_n 2, 1) := by decide +kernel
theorem dX7_times_10 : decode cX7_times 10 = .ok (.iconst 1, 1) := by decide +kernel
theorem dX7_times_11 : decode cX7_times 11 = .ok (.isub, 1) := by decide +kernel
theorem dX7_times_12 : decode cX7_times 12 = .ok (.iload_n 3, 1) := by decide +kernel
theorem dX7_times_13 : decode cX7_times 13 = .ok (.invokevirtual 181, 3) := by decide +kernel
theorem dX7_times_16 : decode cX7_times 16 = .ok (.isub, 1) := by decide +kernel
theorem dX7_times_17 : decode cX7_times 17 = .ok (.aload_n 0, 1) := by decide +kernel
theorem dX7_times_18 : decode cX7_times 18 = .ok (.iload_n 1, 1) := by decide +kernel
theorem dX7_times_19 : decode cX7_times 19 = .ok (.iload_n 2, 1) := by decide +kernel
theorem dX7_times_20 : decode cX7_times 20 = .ok (.iload_n 3, 1) := by decide +kernel
theorem dX7_times_21 : decode cX7_times 21 = .ok (.iconst 1, 1) := by decide +kernel
theorem dX7_times_22 : decode cX7_times 22 = .ok (.iadd, 1) := by decide +kernel
theorem dX7_times_23 : decode cX7_times 23 = .ok (.invokevirtual 181, 3) := by decide +kernel
theorem dX7_times_26 : decode cX7_times 26 = .ok (.isub, 1) := by decide +kernel
theorem dX7_times_27 : decode cX7_times 27 = .ok (.aload_n 0, 1) := by decide +kernel
theorem dX7_times_28 : decode cX7_times 28 = .ok (.iload_n 1, 1) := by decide +kernel
theorem dX7_times_29 : decode cX7_times 29 = .ok (.iload_n 2, 1) := by decide +kernel
theorem dX7_times_30 : decode cX7_times 30 = .ok (.iconst 1, 1) := by decide +kernel
theorem dX7_times_31 : decode cX7_times 31 = .ok (.isub, 1) := by decide +kernel
theorem dX7_times_32 : decode cX7_times 32 = .ok (.iload_n 3, 1) := by decide +kernel
theorem dX7_times_33 : decode cX7_times 33 = .ok (.iconst 1, 1) := by decide +kernel
theorem dX7_times_34 : decode cX7_times 34 = .ok (.iadd, 1) := by decide +kernel
theorem dX7_times_35 : decode cX7_times 35 = .ok (.invokevirtual 181, 3) := by decide +kernel
theorem dX7_times_38 : decode cX7_times 38 = .ok (.iadd, 1) := by decide +kernel
theorem dX7_times_39 : decode cX7_times 39 = .ok (.ireturn, 1) := by decide +kernel
theorem dX7_spans_0 : decode cX7_spans 0 = .ok (.iload_n 1, 1) := by decide +kernel
theorem dX7_spans_1 : decode cX7_spans 1 = .ok (.invokestatic 104, 3) := by decide +kernel
theorem dX7_spans_4 : decode cX7_spans 4 = .ok (.ifCond .eq 34, 3) := by decide +kernel
theorem dX7_spans_7 : decode cX7_spans 7 = .ok (.aload_n 0, 1) := by decide +kernel
theorem dX7_spans_8 : decode cX7_spans 8 = .ok (.iload_n 2, 1) := by decide +kernel
theorem dX7_spans_9 : decode cX7_spans 9 = .ok (.invokevirtual 136, 3) := by decide +kernel
theorem dX7_spans_12 : decode cX7_spans 12 = .ok (.ifCond .eq 26, 3) := by decide +kernel
theorem dX7_spans_15 : decode cX7_spans 15 = .ok (.aload_n 0, 1) := by decide +kernel
theorem dX7_spans_16 : decode cX7_spans 16 = .ok (.iload_n 3, 1) := by decide +kernel
theorem dX7_spans_17 : decode cX7_spans 17 = .ok (.invokevirtual 136, 3) := by decide +kernel
theorem dX7_spans_20 : decode cX7_spans 20 = .ok (.ifCond .eq 18, 3) := by decide +kernel
theorem dX7_spans_23 : decode cX7_spans 23 = .ok (.iload_n 2, 1) := by decide +kernel
theorem dX7_spans_24 : decode cX7_spans 24 = .ok (.iload_n 3, 1) := by decide +kernel
theorem dX7_spans_25 : decode cX7_spans 25 = .ok (.if_icmp .gt 13, 3) := by decide +kernel
theorem dX7_spans_28 : decode cX7_spans 28 = .ok (.aload_n 0, 1) := by decide +kernel
theorem dX7_spans_29 : decode cX7_spans 29 = .ok (.iload_n 1, 1) := by decide +kernel
theorem dX7_spans_30 : decode cX7_spans 30 = .ok (.iload_n 2, 1) := by decide +kernel
theorem dX7_spans_31 : decode cX7_spans 31 = .ok (.iload_n 3, 1) := by decide +kernel
theorem dX7_spans_32 : decode cX7_spans 32 = .ok (.invokevirtual 184, 3) := by decide +kernel
theorem dX7_spans_35 : decode cX7_spans 35 = .ok (.goto 4, 3) := by decide +kernel
theorem dX7_spans_38 : decode cX7_spans 38 = .ok (.iconst (-1), 1) := by decide +kernel
theorem dX7_spans_39 : decode cX7_spans 39 = .ok (.ireturn, 1) := by decide +kernel
theorem dX7_like_0 : decode cX7_like 0 = .ok (.aload_n 0, 1) := by decide +kernel
theorem dX7_like_1 : decode cX7_like 1 = .ok (.iload_n 1, 1) := by decide +kernel
theorem dX7_like_2 : decode cX7_like 2 = .ok (.iload_n 2, 1) := by decide +kernel
theorem dX7_like_3 : decode cX7_like 3 = .ok (.invokevirtual 169, 3) := by decide +kernel
theorem dX7_like_6 : decode cX7_like 6 = .ok (.ifCond .ne 5, 3) := by decide +kernel
theorem dX7_like_9 : decode cX7_like 9 = .ok (.iconst 0, 1) := by decide +kernel
theorem dX7_like_10 : decode cX7_like 10 = .ok (.ireturn, 1) := by decide +kernel
theorem dX7_like_11 : decode cX7_like 11 = .ok (.iconst 0, 1) := by decide +kernel
theorem dX7_like_12 : decode cX7_like 12 = .ok (.istore_n 3, 1) := by decide +kernel
theorem dX7_like_13 : decode cX7_like 13 = .ok (.iload_n 3, 1) := by decide +kernel
theorem dX7_like_14 : decode cX7_like 14 = .ok (.aload_n 0, 1) := by decide +kernel
theorem dX7_like_15 : decode cX7_like 15 = .ok (.getfield 93, 3) := by decide +kernel
theorem dX7_like_18 : decode cX7_like 18 = .ok (.if_icmp .ge 48, 3) := by decide +kernel
theorem dX7_like_21 : decode cX7_like 21 = .ok (.iload_n 3, 1) := by decide +kernel
theorem dX7_like_22 : decode cX7_like 22 = .ok (.istore 4, 2) := by decide +kernel
theorem dX7_like_24 : decode cX7_like 24 = .ok (.iload 4, 2) := by decide +kernel
theorem dX7_like_26 : decode cX7_like 26 = .ok (.aload_n 0, 1) := by decide +kernel
theorem dX7_like_27 : decode cX7_like 27 = .ok (.getfield 93, 3) := by decide +kernel
theorem dX7_like_30 : decode cX7_like 30 = .ok (.if_icmp .ge 30, 3) := by decide +kernel
theorem dX7_like_33 : decode cX7_like 33 = .ok (.aload_n 0, 1) := by decide +kernel
theorem dX7_like_34 : decode cX7_like 34 = .ok (.iload_n 1, 1) := by decide +kernel
theorem dX7_like_35 : decode cX7_like 35 = .ok (.iload_n 3, 1) := by decide +kernel
theorem dX7_like_36 : decode cX7_like 36 = .ok (.iload 4, 2) := by decide +kernel
theorem dX7_like_38 : decode cX7_like 38 = .ok (.invokevirtual 184, 3) := by decide +kernel
theorem dX7_like_41 : decode cX7_like 41 = .ok (.aload_n 0, 1) := by decide +kernel
theorem dX7_like_42 : decode cX7_like 42 = .ok (.iload_n 2, 1) := by decide +kernel
theorem dX7_like_43 : decode cX7_like 43 = .ok (.iload_n 3, 1) := by decide +kernel
theorem dX7_like_44 : decode cX7_like 44 = .ok (.iload 4, 2) := by decide +kernel
theorem dX7_like_46 : decode cX7_like 46 = .ok (.invokevirtual 184, 3) := by decide +kernel
theorem dX7_like_49 : decode cX7_like 49 = .ok (.if_icmp .eq 5, 3) := by decide +kernel
theorem dX7_like_52 : decode cX7_like 52 = .ok (.iconst 0, 1) := by decide +kernel
theorem dX7_like_53 : decode cX7_like 53 = .ok (.ireturn, 1) := by decide +kernel
theorem dX7_like_54 : decode cX7_like 54 = .ok (.iinc 4 1, 3) := by decide +kernel
theorem dX7_like_57 : decode cX7_like 57 = .ok (.goto (-33), 3) := by decide +kernel
theorem dX7_like_60 : decode cX7_like 60 = .ok (.iinc 3 1, 3) := by decide +kernel
theorem dX7_like_63 : decode cX7_like 63 = .ok (.goto (-50), 3) := by decide +kernel
theorem dX7_like_66 : decode cX7_like 66 = .ok (.iconst 1, 1) := by decide +kernel
theorem dX7_like_67 : decode cX7_like 67 = .ok (.ireturn, 1) := by decide +kernel
theorem dX7_rank_0 : decode cX7_rank 0 = .ok (.iload_n 1, 1) := by decide +kernel
theorem dX7_rank_1 : decode cX7_rank 1 = .ok (.invokestatic 104, 3) := by decide +kernel
theorem dX7_rank_4 : decode cX7_rank 4 = .ok (.ifCond .eq 19, 3) := by decide +kernel
theorem dX7_rank_7 : decode cX7_rank 7 = .ok (.aload_n 0, 1) := by decide +kernel
theorem dX7_rank_8 : decode cX7_rank 8 = .ok (.iload_n 2, 1) := by decide +kernel
theorem dX7_rank_9 : decode cX7_rank 9 = .ok (.invokevirtual 136, 3) := by decide +kernel
theorem dX7_rank_12 : decode cX7_rank 12 = .ok (.ifCond .eq 11, 3) := by decide +kernel
theorem dX7_rank_15 : decode cX7_rank 15 = .ok (.aload_n 0, 1) := by decide +kernel
theorem dX7_rank_16 : decode cX7_rank 16 = .ok (.iload_n 3, 1) := by decide +kernel
theorem dX7_rank_17 : decode cX7_rank 17 = .ok (.invokevirtual 136, 3) := by decide +kernel
theorem dX7_rank_20 : decode cX7_rank 20 = .ok (.ifCond .ne 5, 3) := by decide +kernel
theorem dX7_rank_23 : decode cX7_rank 23 = .ok (.iconst (-1), 1) := by decide +kernel
theorem dX7_rank_24 : decode cX7_rank 24 = .ok (.ireturn, 1) := by decide +kernel
theorem dX7_rank_25 : decode cX7_rank 25 = .ok (.iload_n 2, 1) := by decide +kernel
theorem dX7_rank_26 : decode cX7_rank 26 = .ok (.iload_n 3, 1) := by decide +kernel
theorem dX7_rank_27 : decode cX7_rank 27 = .ok (.invokestatic 84, 3) := by decide +kernel
theorem dX7_rank_30 : decode cX7_rank 30 = .ok (.istore 4, 2) := by decide +kernel
theorem dX7_rank_32 : decode cX7_rank 32 = .ok (.iload 4, 2) := by decide +kernel
theorem dX7_rank_34 : decode cX7_rank 34 = .ok (.iload_n 2, 1) := by decide +kernel
theorem dX7_rank_35 : decode cX7_rank 35 = .ok (.iload_n 3, 1) := by decide +kernel
theorem dX7_rank_36 : decode cX7_rank 36 = .ok (.invokestatic 90, 3) := by decide +kernel
theorem dX7_rank_39 : decode cX7_rank 39 = .ok (.if_icmp .ge 31, 3) := by decide +kernel
theorem dX7_rank_42 : decode cX7_rank 42 = .ok (.aload_n 0, 1) := by decide +kernel
theorem dX7_rank_43 : decode cX7_rank 43 = .ok (.iload_n 1, 1) := by decide +kernel
theorem dX7_rank_44 : decode cX7_rank 44 = .ok (.iload 4, 2) := by decide +kernel
theorem dX7_rank_46 : decode cX7_rank 46 = .ok (.invokevirtual 100, 3) := by decide +kernel
theorem dX7_rank_49 : decode cX7_rank 49 = .ok (.iload_n 2, 1) := by decide +kernel
theorem dX7_rank_50 : decode cX7_rank 50 = .ok (.iload_n 3, 1) := by decide +kernel
theorem dX7_rank_51 : decode cX7_rank 51 = .ok (.if_icmp .le 7, 3) := by decide +kernel
theorem dX7_rank_54 : decode cX7_rank 54 = .ok (.iconst 1, 1) := by decide +kernel
theorem dX7_rank_55 : decode cX7_rank 55 = .ok (.goto 4, 3) := by decide +kernel
theorem dX7_rank_58 : decode cX7_rank 58 = .ok (.iconst 0, 1) := by decide +kernel
theorem dX7_rank_59 : decode cX7_rank 59 = .ok (.if_icmp .eq 5, 3) := by decide +kernel
theorem dX7_rank_62 : decode cX7_rank 62 = .ok (.iconst (-1), 1) := by decide +kernel
theorem dX7_rank_63 : decode cX7_rank 63 = .ok (.ireturn, 1) := by decide +kernel
theorem dX7_rank_64 : decode cX7_rank 64 = .ok (.iinc 4 1, 3) := by decide +kernel
theorem dX7_rank_67 : decode cX7_rank 67 = .ok (.goto (-35), 3) := by decide +kernel
theorem dX7_rank_70 : decode cX7_rank 70 = .ok (.aload_n 0, 1) := by decide +kernel
theorem dX7_rank_71 : decode cX7_rank 71 = .ok (.aload_n 0, 1) := by decide +kernel
theorem dX7_rank_72 : decode cX7_rank 72 = .ok (.iload_n 1, 1) := by decide +kernel
theorem dX7_rank_73 : decode cX7_rank 73 = .ok (.iload_n 3, 1) := by decide +kernel
theorem dX7_rank_74 : decode cX7_rank 74 = .ok (.invokevirtual 118, 3) := by decide +kernel
theorem dX7_rank_77 : decode cX7_rank 77 = .ok (.invokevirtual 155, 3) := by decide +kernel
theorem dX7_rank_80 : decode cX7_rank 80 = .ok (.iconst 0, 1) := by decide +kernel
theorem dX7_rank_81 : decode cX7_rank 81 = .ok (.istore 4, 2) := by decide +kernel
theorem dX7_rank_83 : decode cX7_rank 83 = .ok (.iload 4, 2) := by decide +kernel
theorem dX7_rank_85 : decode cX7_rank 85 = .ok (.aload_n 0, 1) := by decide +kernel
theorem dX7_rank_86 : decode cX7_rank 86 = .ok (.iload_n 1, 1) := by decide +kernel
theorem dX7_rank_87 : decode cX7_rank 87 = .ok (.iload_n 2, 1) := by decide +kernel
theorem dX7_rank_88 : decode cX7_rank 88 = .ok (.invokevirtual 118, 3) := by decide +kernel
theorem dX7_rank_91 : decode cX7_rank 91 = .ok (.if_icmp .ge 268, 3) := by decide +kernel
theorem dX7_rank_94 : decode cX7_rank 94 = .ok (.iconst 0, 1) := by decide +kernel
theorem dX7_rank_95 : decode cX7_rank 95 = .ok (.istore 5, 2) := by decide +kernel
theorem dX7_rank_97 : decode cX7_rank 97 = .ok (.iload 5, 2) := by decide +kernel
theorem dX7_rank_99 : decode cX7_rank 99 = .ok (.iconst 4, 1) := by decide +kernel
theorem dX7_rank_100 : decode cX7_rank 100 = .ok (.if_icmp .ge 28, 3) := by decide +kernel
theorem dX7_rank_103 : decode cX7_rank 103 = .ok (.aload_n 0, 1) := by decide +kernel
theorem dX7_rank_104 : decode cX7_rank 104 = .ok (.getfield 42, 3) := by decide +kernel
theorem dX7_rank_107 : decode cX7_rank 107 = .ok (.iload 5, 2) := by decide +kernel
theorem dX7_rank_109 : decode cX7_rank 109 = .ok (.iload 5, 2) := by decide +kernel
theorem dX7_rank_111 : decode cX7_rank 111 = .ok (.iload 4, 2) := by decide +kernel
theorem dX7_rank_113 : decode cX7_rank 113 = .ok (.if_icmp .ne 7, 3) := by decide +kernel
theorem dX7_rank_116 : decode cX7_rank 116 = .ok (.iconst 1, 1) := by decide +kernel
theorem dX7_rank_117 : decode cX7_rank 117 = .ok (.goto 4, 3) := by decide +kernel
theorem dX7_rank_120 : decode cX7_rank 120 = .ok (.iconst 0, 1) := by decide +kernel
theorem dX7_rank_121 : decode cX7_rank 121 = .ok (.iastore, 1) := by decide +kernel
theorem dX7_rank_122 : decode cX7_rank 122 = .ok (.iinc 5 1, 3) := by decide +kernel
theorem dX7_rank_125 : decode cX7_rank 125 = .ok (.goto (-28), 3) := by decide +kernel
theorem dX7_rank_128 : decode cX7_rank 128 = .ok (.iload_n 2, 1) := by decide +kernel
theorem dX7_rank_129 : decode cX7_rank 129 = .ok (.istore 5, 2) := by decide +kernel
theorem dX7_rank_131 : decode cX7_rank 131 = .ok (.iload 5, 2) := by decide +kernel
theorem dX7_rank_133 : decode cX7_rank 133 = .ok (.iload_n 3, 1) := by decide +kernel
theorem dX7_rank_134 : decode cX7_rank 134 = .ok (.if_icmp .eq 181, 3) := by decide +kernel
theorem dX7_rank_137 : decode cX7_rank 137 = .ok (.iload_n 2, 1) := by decide +kernel
theorem dX7_rank_138 : decode cX7_rank 138 = .ok (.iload_n 3, 1) := by decide +kernel
theorem dX7_rank_139 : decode cX7_rank 139 = .ok (.if_icmp .ge 8, 3) := by decide +kernel
theorem dX7_rank_142 : decode cX7_rank 142 = .ok (.iload 5, 2) := by decide +kernel
theorem dX7_rank_144 : decode cX7_rank 144 = .ok (.goto 7, 3) := by decide +kernel
theorem dX7_rank_147 : decode cX7_rank 147 = .ok (.iload 5, 2) := by decide +kernel
theorem dX7_rank_149 : decode cX7_rank 149 = .ok (.iconst 1, 1) := by decide +kernel
theorem dX7_rank_150 : decode cX7_rank 150 = .ok (.isub, 1) := by decide +kernel
theorem dX7_rank_151 : decode cX7_rank 151 = .ok (.istore 6, 2) := by decide +kernel
theorem dX7_rank_153 : decode cX7_rank 153 = .ok (.iload_n 2, 1) := by decide +kernel
theorem dX7_rank_154 : decode cX7_rank 154 = .ok (.iload_n 3, 1) := by decide +kernel
theorem dX7_rank_155 : decode cX7_rank 155 = .ok (.if_icmp .ge 10, 3) := by decide +kernel
theorem dX7_rank_158 : decode cX7_rank 158 = .ok (.iload 5, 2) := by decide +kernel
theorem dX7_rank_160 : decode cX7_rank 160 = .ok (.iconst 1, 1) := by decide +kernel
theorem dX7_rank_161 : decode cX7_rank 161 = .ok (.iadd, 1) := by decide +kernel
theorem dX7_rank_162 : decode cX7_rank 162 = .ok (.goto 7, 3) := by decide +kernel
theorem dX7_rank_165 : decode cX7_rank 165 = .ok (.iload 5, 2) := by decide +kernel
theorem dX7_rank_167 : decode cX7_rank 167 = .ok (.iconst 1, 1) := by decide +kernel
theorem dX7_rank_168 : decode cX7_rank 168 = .ok (.isub, 1) := by decide +kernel
theorem dX7_rank_169 : decode cX7_rank 169 = .ok (.istore 7, 2) := by decide +kernel
theorem dX7_rank_171 : decode cX7_rank 171 = .ok (.iconst 0, 1) := by decide +kernel
theorem dX7_rank_172 : decode cX7_rank 172 = .ok (.istore 8, 2) := by decide +kernel
theorem dX7_rank_174 : decode cX7_rank 174 = .ok (.iload 8, 2) := by decide +kernel
theorem dX7_rank_176 : decode cX7_rank 176 = .ok (.aload_n 0, 1) := by decide +kernel
theorem dX7_rank_177 : decode cX7_rank 177 = .ok (.iload_n 1, 1) := by decide +kernel
theorem dX7_rank_178 : decode cX7_rank 178 = .ok (.iload 7, 2) := by decide +kernel
theorem dX7_rank_180 : decode cX7_rank 180 = .ok (.invokevirtual 118, 3) := by decide +kernel
theorem dX7_rank_183 : decode cX7_rank 183 = .ok (.if_icmp .ge 80, 3) := by decide +kernel
theorem dX7_rank_186 : decode cX7_rank 186 = .ok (.aload_n 0, 1) := by decide +kernel
theorem dX7_rank_187 : decode cX7_rank 187 = .ok (.getfield 45, 3) := by decide +kernel
theorem dX7_rank_190 : decode cX7_rank 190 = .ok (.iload 8, 2) := by decide +kernel
theorem dX7_rank_192 : decode cX7_rank 192 = .ok (.iconst 0, 1) := by decide +kernel
theorem dX7_rank_193 : decode cX7_rank 193 = .ok (.iastore, 1) := by decide +kernel
theorem dX7_rank_194 : decode cX7_rank 194 = .ok (.iconst 0, 1) := by decide +kernel
theorem dX7_rank_195 : decode cX7_rank 195 = .ok (.istore 9, 2) := by decide +kernel
theorem dX7_rank_197 : decode cX7_rank 197 = .ok (.iload 9, 2) := by decide +kernel
theorem dX7_rank_199 : decode cX7_rank 199 = .ok (.aload_n 0, 1) := by decide +kernel
theorem dX7_rank_200 : decode cX7_rank 200 = .ok (.iload_n 1, 1) := by decide +kernel
theorem dX7_rank_201 : decode cX7_rank 201 = .ok (.iload 5, 2) := by decide +kernel
theorem dX7_rank_203 : decode cX7_rank 203 = .ok (.invokevirtual 118, 3) := by decide +kernel
theorem dX7_rank_206 : decode cX7_rank 206 = .ok (.if_icmp .ge 51, 3) := by decide +kernel
theorem dX7_rank_209 : decode cX7_rank 209 = .ok (.aload_n 0, 1) := by decide +kernel
theorem dX7_rank_210 : decode cX7_rank 210 = .ok (.getfield 45, 3) := by decide +kernel
theorem dX7_rank_213 : decode cX7_rank 213 = .ok (.iload 8, 2) := by decide +kernel
theorem dX7_rank_215 : decode cX7_rank 215 = .ok (.aload_n 0, 1) := by decide +kernel
theorem dX7_rank_216 : decode cX7_rank 216 = .ok (.aload_n 0, 1) := by decide +kernel
theorem dX7_rank_217 : decode cX7_rank 217 = .ok (.getfield 45, 3) := by decide +kernel
theorem dX7_rank_220 : decode cX7_rank 220 = .ok (.iload 8, 2) := by decide +kernel
theorem dX7_rank_222 : decode cX7_rank 222 = .ok (.iaload, 1) := by decide +kernel
theorem dX7_rank_223 : decode cX7_rank 223 = .ok (.aload_n 0, 1) := by decide +kernel
theorem dX7_rank_224 : decode cX7_rank 224 = .ok (.getfield 16, 3) := by decide +kernel
theorem dX7_rank_227 : decode cX7_rank 227 = .ok (.iload_n 1, 1) := by decide +kernel
theorem dX7_rank_228 : decode cX7_rank 228 = .ok (.iload 6, 2) := by decide +kernel
theorem dX7_rank_230 : decode cX7_rank 230 = .ok (.iload 8, 2) := by decide +kernel
theorem dX7_rank_232 : decode cX7_rank 232 = .ok (.iload 9, 2) := by decide +kernel
theorem dX7_rank_234 : decode cX7_rank 234 = .ok (.invokestatic 128, 3) := by decide +kernel
theorem dX7_rank_237 : decode cX7_rank 237 = .ok (.iaload, 1) := by decide +kernel
theorem dX7_rank_238 : decode cX7_rank 238 = .ok (.aload_n 0, 1) := by decide +kernel
theorem dX7_rank_239 : decode cX7_rank 239 = .ok (.getfield 42, 3) := by decide +kernel
theorem dX7_rank_242 : decode cX7_rank 242 = .ok (.iload 9, 2) := by decide +kernel
theorem dX7_rank_244 : decode cX7_rank 244 = .ok (.iaload, 1) := by decide +kernel
theorem dX7_rank_245 : decode cX7_rank 245 = .ok (.imul, 1) := by decide +kernel
theorem dX7_rank_246 : decode cX7_rank 246 = .ok (.iadd, 1) := by decide +kernel
theorem dX7_rank_247 : decode cX7_rank 247 = .ok (.invokevirtual 132, 3) := by decide +kernel
theorem dX7_rank_250 : decode cX7_rank 250 = .ok (.iastore, 1) := by decide +kernel
theorem dX7_rank_251 : decode cX7_rank 251 = .ok (.iinc 9 1, 3) := by decide +kernel
theorem dX7_rank_254 : decode cX7_rank 254 = .ok (.goto (-57), 3) := by decide +kernel
theorem dX7_rank_257 : decode cX7_rank 257 = .ok (.iinc 8 1, 3) := by decide +kernel
theorem dX7_rank_260 : decode cX7_rank 260 = .ok (.goto (-86), 3) := by decide +kernel
theorem dX7_rank_263 : decode cX7_rank 263 = .ok (.iconst 0, 1) := by decide +kernel
theorem dX7_rank_264 : decode cX7_rank 264 = .ok (.istore 8, 2) := by decide +kernel
theorem dX7_rank_266 : decode cX7_rank 266 = .ok (.iload 8, 2) := by decide +kernel
theorem dX7_rank_268 : decode cX7_rank 268 = .ok (.iconst 4, 1) := by decide +kernel
theorem dX7_rank_269 : decode cX7_rank 269 = .ok (.if_icmp .ge 39, 3) := by decide +kernel
theorem dX7_rank_272 : decode cX7_rank 272 = .ok (.aload_n 0, 1) := by decide +kernel
theorem dX7_rank_273 : decode cX7_rank 273 = .ok (.getfield 42, 3) := by decide +kernel
theorem dX7_rank_276 : decode cX7_rank 276 = .ok (.iload 8, 2) := by decide +kernel
theorem dX7_rank_278 : decode cX7_rank 278 = .ok (.iload 8, 2) := by decide +kernel
theorem dX7_rank_280 : decode cX7_rank 280 = .ok (.aload_n 0, 1) := by decide +kernel
theorem dX7_rank_281 : decode cX7_rank 281 = .ok (.iload_n 1, 1) := by decide +kernel
theorem dX7_rank_282 : decode cX7_rank 282 = .ok (.iload 7, 2) := by decide +kernel
theorem dX7_rank_284 : decode cX7_rank 284 = .ok (.invokevirtual 118, 3) := by decide +kernel
theorem dX7_rank_287 : decode cX7_rank 287 = .ok (.if_icmp .ge 13, 3) := by decide +kernel
theorem dX7_rank_290 : decode cX7_rank 290 = .ok (.aload_n 0, 1) := by decide +kernel
theorem dX7_rank_291 : decode cX7_rank 291 = .ok (.getfield 45, 3) := by decide +kernel
theorem dX7_rank_294 : decode cX7_rank 294 = .ok (.iload 8, 2) := by decide +kernel
theorem dX7_rank_296 : decode cX7_rank 296 = .ok (.iaload, 1) := by decide +kernel
theorem dX7_rank_297 : decode cX7_rank 297 = .ok (.goto 4, 3) := by decide +kernel
theorem dX7_rank_300 : decode cX7_rank 300 = .ok (.iconst 0, 1) := by decide +kernel
theorem dX7_rank_301 : decode cX7_rank 301 = .ok (.iastore, 1) := by decide +kernel
theorem dX7_rank_302 : decode cX7_rank 302 = .ok (.iinc 8 1, 3) := by decide +kernel
theorem dX7_rank_305 : decode cX7_rank 305 = .ok (.goto (-39), 3) := by decide +kernel
theorem dX7_rank_308 : decode cX7_rank 308 = .ok (.iload 7, 2) := by decide +kernel
theorem dX7_rank_310 : decode cX7_rank 310 = .ok (.istore 5, 2) := by decide +kernel
theorem dX7_rank_312 : decode cX7_rank 312 = .ok (.goto (-181), 3) := by decide +kernel
theorem dX7_rank_315 : decode cX7_rank 315 = .ok (.aload_n 0, 1) := by decide +kernel
theorem dX7_rank_316 : decode cX7_rank 316 = .ok (.invokevirtual 158, 3) := by decide +kernel
theorem dX7_rank_319 : decode cX7_rank 319 = .ok (.astore 5, 2) := by decide +kernel
theorem dX7_rank_321 : decode cX7_rank 321 = .ok (.iconst 0, 1) := by decide +kernel
theorem dX7_rank_322 : decode cX7_rank 322 = .ok (.istore 6, 2) := by decide +kernel
theorem dX7_rank_324 : decode cX7_rank 324 = .ok (.iload 6, 2) := by decide +kernel
theorem dX7_rank_326 : decode cX7_rank 326 = .ok (.aload_n 0, 1) := by decide +kernel
theorem dX7_rank_327 : decode cX7_rank 327 = .ok (.iload_n 1, 1) := by decide +kernel
theorem dX7_rank_328 : decode cX7_rank 328 = .ok (.iload_n 3, 1) := by decide +kernel
theorem dX7_rank_329 : decode cX7_rank 329 = .ok (.invokevirtual 118, 3) := by decide +kernel
theorem dX7_rank_332 : decode cX7_rank 332 = .ok (.if_icmp .ge 21, 3) := by decide +kernel
theorem dX7_rank_335 : decode cX7_rank 335 = .ok (.aload 5, 2) := by decide +kernel
theorem dX7_rank_337 : decode cX7_rank 337 = .ok (.iload 6, 2) := by decide +kernel
theorem dX7_rank_339 : decode cX7_rank 339 = .ok (.aload_n 0, 1) := by decide +kernel
theorem dX7_rank_340 : decode cX7_rank 340 = .ok (.getfield 42, 3) := by decide +kernel
theorem dX7_rank_343 : decode cX7_rank 343 = .ok (.iload 6, 2) := by decide +kernel
theorem dX7_rank_345 : decode cX7_rank 345 = .ok (.iaload, 1) := by decide +kernel
theorem dX7_rank_346 : decode cX7_rank 346 = .ok (.iastore, 1) := by decide +kernel
theorem dX7_rank_347 : decode cX7_rank 347 = .ok (.iinc 6 1, 3) := by decide +kernel
theorem dX7_rank_350 : decode cX7_rank 350 = .ok (.goto (-26), 3) := by decide +kernel
theorem dX7_rank_353 : decode cX7_rank 353 = .ok (.iinc 4 1, 3) := by decide +kernel
theorem dX7_rank_356 : decode cX7_rank 356 = .ok (.goto (-273), 3) := by decide +kernel
theorem dX7_rank_359 : decode cX7_rank 359 = .ok (.aload_n 0, 1) := by decide +kernel
theorem dX7_rank_360 : decode cX7_rank 360 = .ok (.invokevirtual 162, 3) := by decide +kernel
theorem dX7_rank_363 : decode cX7_rank 363 = .ok (.ireturn, 1) := by decide +kernel
theorem dX7_list_0 : decode cX7_list 0 = .ok (.iconst 0, 1) := by decide +kernel
theorem dX7_list_1 : decode cX7_list 1 = .ok (.istore_n 3, 1) := by decide +kernel
theorem dX7_list_2 : decode cX7_list 2 = .ok (.iconst 0, 1) := by decide +kernel
theorem dX7_list_3 : decode cX7_list 3 = .ok (.istore 4, 2) := by decide +kernel
theorem dX7_list_5 : decode cX7_list 5 = .ok (.iload 4, 2) := by decide +kernel
theorem dX7_list_7 : decode cX7_list 7 = .ok (.aload_n 0, 1) := by decide +kernel
theorem dX7_list_8 : decode cX7_list 8 = .ok (.getfield 93, 3) := by decide +kernel
theorem dX7_list_11 : decode cX7_list 11 = .ok (.if_icmp .ge 84, 3) := by decide +kernel
theorem dX7_list_14 : decode cX7_list 14 = .ok (.iload 4, 2) := by decide +kernel
theorem dX7_list_16 : decode cX7_list 16 = .ok (.istore 5, 2) := by decide +kernel
theorem dX7_list_18 : decode cX7_list 18 = .ok (.iload 5, 2) := by decide +kernel
theorem dX7_list_20 : decode cX7_list 20 = .ok (.aload_n 0, 1) := by decide +kernel
theorem dX7_list_21 : decode cX7_list 21 = .ok (.getfield 93, 3) := by decide +kernel
theorem dX7_list_24 : decode cX7_list 24 = .ok (.if_icmp .ge 65, 3) := by decide +kernel
theorem dX7_list_27 : decode cX7_list 27 = .ok (.aload_n 0, 1) := by decide +kernel
theorem dX7_list_28 : decode cX7_list 28 = .ok (.iload_n 1, 1) := by decide +kernel
theorem dX7_list_29 : decode cX7_list 29 = .ok (.iload 4, 2) := by decide +kernel
theorem dX7_list_31 : decode cX7_list 31 = .ok (.iload 5, 2) := by decide +kernel
theorem dX7_list_33 : decode cX7_list 33 = .ok (.invokevirtual 184, 3) := by decide +kernel
theorem dX7_list_36 : decode cX7_list 36 = .ok (.istore 6, 2) := by decide +kernel
theorem dX7_list_38 : decode cX7_list 38 = .ok (.iconst 0, 1) := by decide +kernel
theorem dX7_list_39 : decode cX7_list 39 = .ok (.istore 7, 2) := by decide +kernel
theorem dX7_list_41 : decode cX7_list 41 = .ok (.iload 7, 2) := by decide +kernel
theorem dX7_list_43 : decode cX7_list 43 = .ok (.iload 6, 2) := by decide +kernel
theorem dX7_list_45 : decode cX7_list 45 = .ok (.if_icmp .ge 38, 3) := by decide +kernel
theorem dX7_list_48 : decode cX7_list 48 = .ok (.aload_n 0, 1) := by decide +kernel
theorem dX7_list_49 : decode cX7_list 49 = .ok (.getfield 48, 3) := by decide +kernel
theorem dX7_list_52 : decode cX7_list 52 = .ok (.bipush 32, 2) := by decide +kernel
theorem dX7_list_54 : decode cX7_list 54 = .ok (.iload_n 2, 1) := by decide +kernel
theorem dX7_list_55 : decode cX7_list 55 = .ok (.imul, 1) := by decide +kernel
theorem dX7_list_56 : decode cX7_list 56 = .ok (.iload_n 3, 1) := by decide +kernel
theorem dX7_list_57 : decode cX7_list 57 = .ok (.iadd, 1) := by decide +kernel
theorem dX7_list_58 : decode cX7_list 58 = .ok (.iload 4, 2) := by decide +kernel
theorem dX7_list_60 : decode cX7_list 60 = .ok (.iastore, 1) := by decide +kernel
theorem dX7_list_61 : decode cX7_list 61 = .ok (.aload_n 0, 1) := by decide +kernel
theorem dX7_list_62 : decode cX7_list 62 = .ok (.getfield 51, 3) := by decide +kernel
theorem dX7_list_65 : decode cX7_list 65 = .ok (.bipush 32, 2) := by decide +kernel
theorem dX7_list_67 : decode cX7_list 67 = .ok (.iload_n 2, 1) := by decide +kernel
theorem dX7_list_68 : decode cX7_list 68 = .ok (.imul, 1) := by decide +kernel
theorem dX7_list_69 : decode cX7_list 69 = .ok (.iload_n 3, 1) := by decide +kernel
theorem dX7_list_70 : decode cX7_list 70 = .ok (.iadd, 1) := by decide +kernel
theorem dX7_list_71 : decode cX7_list 71 = .ok (.iload 5, 2) := by decide +kernel
theorem dX7_list_73 : decode cX7_list 73 = .ok (.iastore, 1) := by decide +kernel
theorem dX7_list_74 : decode cX7_list 74 = .ok (.iinc 3 1, 3) := by decide +kernel
theorem dX7_list_77 : decode cX7_list 77 = .ok (.iinc 7 1, 3) := by decide +kernel
theorem dX7_list_80 : decode cX7_list 80 = .ok (.goto (-39), 3) := by decide +kernel
theorem dX7_list_83 : decode cX7_list 83 = .ok (.iinc 5 1, 3) := by decide +kernel
theorem dX7_list_86 : decode cX7_list 86 = .ok (.goto (-68), 3) := by decide +kernel
theorem dX7_list_89 : decode cX7_list 89 = .ok (.iinc 4 1, 3) := by decide +kernel
theorem dX7_list_92 : decode cX7_list 92 = .ok (.goto (-87), 3) := by decide +kernel
theorem dX7_list_95 : decode cX7_list 95 = .ok (.aload_n 0, 1) := by decide +kernel
theorem dX7_list_96 : decode cX7_list 96 = .ok (.getfield 54, 3) := by decide +kernel
theorem dX7_list_99 : decode cX7_list 99 = .ok (.iload_n 2, 1) := by decide +kernel
theorem dX7_list_100 : decode cX7_list 100 = .ok (.iload_n 3, 1) := by decide +kernel
theorem dX7_list_101 : decode cX7_list 101 = .ok (.iastore, 1) := by decide +kernel
theorem dX7_list_102 : decode cX7_list 102 = .ok (.return_, 1) := by decide +kernel
theorem dX7_cost_0 : decode cX7_cost 0 = .ok (.bipush 32, 2) := by decide +kernel
theorem dX7_cost_2 : decode cX7_cost 2 = .ok (.iload_n 1, 1) := by decide +kernel
theorem dX7_cost_3 : decode cX7_cost 3 = .ok (.imul, 1) := by decide +kernel
theorem dX7_cost_4 : decode cX7_cost 4 = .ok (.iload_n 2, 1) := by decide +kernel
theorem dX7_cost_5 : decode cX7_cost 5 = .ok (.iadd, 1) := by decide +kernel
theorem dX7_cost_6 : decode cX7_cost 6 = .ok (.istore 4, 2) := by decide +kernel
theorem dX7_cost_8 : decode cX7_cost 8 = .ok (.bipush 32, 2) := by decide +kernel
theorem dX7_cost_10 : decode cX7_cost 10 = .ok (.iconst 1, 1) := by decide +kernel
theorem dX7_cost_11 : decode cX7_cost 11 = .ok (.iload_n 1, 1) := by decide +kernel
theorem dX7_cost_12 : decode cX7_cost 12 = .ok (.isub, 1) := by decide +kernel
theorem dX7_cost_13 : decode cX7_cost 13 = .ok (.imul, 1) := by decide +kernel
theorem dX7_cost_14 : decode cX7_cost 14 = .ok (.iload_n 3, 1) := by decide +kernel
theorem dX7_cost_15 : decode cX7_cost 15 = .ok (.iadd, 1) := by decide +kernel
theorem dX7_cost_16 : decode cX7_cost 16 = .ok (.istore 5, 2) := by decide +kernel
theorem dX7_cost_18 : decode cX7_cost 18 = .ok (.iconst 2, 1) := by decide +kernel
theorem dX7_cost_19 : decode cX7_cost 19 = .ok (.aload_n 0, 1) := by decide +kernel
theorem dX7_cost_20 : decode cX7_cost 20 = .ok (.getfield 48, 3) := by decide +kernel
theorem dX7_cost_23 : decode cX7_cost 23 = .ok (.iload 4, 2) := by decide +kernel
theorem dX7_cost_25 : decode cX7_cost 25 = .ok (.iaload, 1) := by decide +kernel
theorem dX7_cost_26 : decode cX7_cost 26 = .ok (.aload_n 0, 1) := by decide +kernel
theorem dX7_cost_27 : decode cX7_cost 27 = .ok (.getfield 48, 3) := by decide +kernel
theorem dX7_cost_30 : decode cX7_cost 30 = .ok (.iload 5, 2) := by decide +kernel
theorem dX7_cost_32 : decode cX7_cost 32 = .ok (.iaload, 1) := by decide +kernel
theorem dX7_cost_33 : decode cX7_cost 33 = .ok (.isub, 1) := by decide +kernel
theorem dX7_cost_34 : decode cX7_cost 34 = .ok (.invokestatic 187, 3) := by decide +kernel
theorem dX7_cost_37 : decode cX7_cost 37 = .ok (.aload_n 0, 1) := by decide +kernel
theorem dX7_cost_38 : decode cX7_cost 38 = .ok (.getfield 51, 3) := by decide +kernel
theorem dX7_cost_41 : decode cX7_cost 41 = .ok (.iload 4, 2) := by decide +kernel
theorem dX7_cost_43 : decode cX7_cost 43 = .ok (.iaload, 1) := by decide +kernel
theorem dX7_cost_44 : decode cX7_cost 44 = .ok (.aload_n 0, 1) := by decide +kernel
theorem dX7_cost_45 : decode cX7_cost 45 = .ok (.getfield 51, 3) := by decide +kernel
theorem dX7_cost_48 : decode cX7_cost 48 = .ok (.iload 5, 2) := by decide +kernel
theorem dX7_cost_50 : decode cX7_cost 50 = .ok (.iaload, 1) := by decide +kernel
theorem dX7_cost_51 : decode cX7_cost 51 = .ok (.isub, 1) := by decide +kernel
theorem dX7_cost_52 : decode cX7_cost 52 = .ok (.invokestatic 187, 3) := by decide +kernel
theorem dX7_cost_55 : decode cX7_cost 55 = .ok (.invokestatic 90, 3) := by decide +kernel
theorem dX7_cost_58 : decode cX7_cost 58 = .ok (.imul, 1) := by decide +kernel
theorem dX7_cost_59 : decode cX7_cost 59 = .ok (.ireturn, 1) := by decide +kernel
theorem dX7_finds_0 : decode cX7_finds 0 = .ok (.iconst 0, 1) := by decide +kernel
theorem dX7_finds_1 : decode cX7_finds 1 = .ok (.istore 4, 2) := by decide +kernel
theorem dX7_finds_3 : decode cX7_finds 3 = .ok (.iload 4, 2) := by decide +kernel
theorem dX7_finds_5 : decode cX7_finds 5 = .ok (.aload_n 0, 1) := by decide +kernel
theorem dX7_finds_6 : decode cX7_finds 6 = .ok (.getfield 54, 3) := by decide +kernel
theorem dX7_finds_9 : decode cX7_finds 9 = .ok (.iconst 1, 1) := by decide +kernel
theorem dX7_finds_10 : decode cX7_finds 10 = .ok (.iload_n 1, 1) := by decide +kernel
theorem dX7_finds_11 : decode cX7_finds 11 = .ok (.isub, 1) := by decide +kernel
theorem dX7_finds_12 : decode cX7_finds 12 = .ok (.iaload, 1) := by decide +kernel
theorem dX7_finds_13 : decode cX7_finds 13 = .ok (.if_icmp .ge 82, 3) := by decide +kernel
theorem dX7_finds_16 : decode cX7_finds 16 = .ok (.aload_n 0, 1) := by decide +kernel
theorem dX7_finds_17 : decode cX7_finds 17 = .ok (.getfield 60, 3) := by decide +kernel
theorem dX7_finds_20 : decode cX7_finds 20 = .ok (.iload 4, 2) := by decide +kernel
theorem dX7_finds_22 : decode cX7_finds 22 = .ok (.baload, 1) := by decide +kernel
theorem dX7_finds_23 : decode cX7_finds 23 = .ok (.ifCond .ne 66, 3) := by decide +kernel
theorem dX7_finds_26 : decode cX7_finds 26 = .ok (.aload_n 0, 1) := by decide +kernel
theorem dX7_finds_27 : decode cX7_finds 27 = .ok (.iload_n 1, 1) := by decide +kernel
theorem dX7_finds_28 : decode cX7_finds 28 = .ok (.iload_n 2, 1) := by decide +kernel
theorem dX7_finds_29 : decode cX7_finds 29 = .ok (.iload 4, 2) := by decide +kernel
theorem dX7_finds_31 : decode cX7_finds 31 = .ok (.invokevirtual 190, 3) := by decide +kernel
theorem dX7_finds_34 : decode cX7_finds 34 = .ok (.iload_n 3, 1) := by decide +kernel
theorem dX7_finds_35 : decode cX7_finds 35 = .ok (.if_icmp .le 6, 3) := by decide +kernel
theorem dX7_finds_38 : decode cX7_finds 38 = .ok (.goto 51, 3) := by decide +kernel
theorem dX7_finds_41 : decode cX7_finds 41 = .ok (.aload_n 0, 1) := by decide +kernel
theorem dX7_finds_42 : decode cX7_finds 42 = .ok (.getfield 60, 3) := by decide +kernel
theorem dX7_finds_45 : decode cX7_finds 45 = .ok (.iload 4, 2) := by decide +kernel
theorem dX7_finds_47 : decode cX7_finds 47 = .ok (.iconst 1, 1) := by decide +kernel
theorem dX7_finds_48 : decode cX7_finds 48 = .ok (.bastore, 1) := by decide +kernel
theorem dX7_finds_49 : decode cX7_finds 49 = .ok (.aload_n 0, 1) := by decide +kernel
theorem dX7_finds_50 : decode cX7_finds 50 = .ok (.getfield 57, 3) := by decide +kernel
theorem dX7_finds_53 : decode cX7_finds 53 = .ok (.iload 4, 2) := by decide +kernel
theorem dX7_finds_55 : decode cX7_finds 55 = .ok (.iaload, 1) := by decide +kernel
theorem dX7_finds_56 : decode cX7_finds 56 = .ok (.iconst (-1), 1) := by decide +kernel
theorem dX7_finds_57 : decode cX7_finds 57 = .ok (.if_icmp .eq 22, 3) := by decide +kernel
theorem dX7_finds_60 : decode cX7_finds 60 = .ok (.aload_n 0, 1) := by decide +kernel
theorem dX7_finds_61 : decode cX7_finds 61 = .ok (.iload_n 1, 1) := by decide +kernel
theorem dX7_finds_62 : decode cX7_finds 62 = .ok (.aload_n 0, 1) := by decide +kernel
theorem dX7_finds_63 : decode cX7_finds 63 = .ok (.getfield 57, 3) := by decide +kernel
theorem dX7_finds_66 : decode cX7_finds 66 = .ok (.iload 4, 2) := by decide +kernel
theorem dX7_finds_68 : decode cX7_finds 68 = .ok (.iaload, 1) := by decide +kernel
theorem dX7_finds_69 : decode cX7_finds 69 = .ok (.iload_n 3, 1) := by decide +kernel
theorem dX7_finds_70 : decode cX7_finds 70 = .ok (.invokevirtual 193, 3) := by decide +kernel
theorem dX7_finds_73 : decode cX7_finds 73 = .ok (.ifCond .ne 6, 3) := by decide +kernel
theorem dX7_finds_76 : decode cX7_finds 76 = .ok (.goto 13, 3) := by decide +kernel
theorem dX7_finds_79 : decode cX7_finds 79 = .ok (.aload_n 0, 1) := by decide +kernel
theorem dX7_finds_80 : decode cX7_finds 80 = .ok (.getfield 57, 3) := by decide +kernel
theorem dX7_finds_83 : decode cX7_finds 83 = .ok (.iload 4, 2) := by decide +kernel
theorem dX7_finds_85 : decode cX7_finds 85 = .ok (.iload_n 2, 1) := by decide +kernel
theorem dX7_finds_86 : decode cX7_finds 86 = .ok (.iastore, 1) := by decide +kernel
theorem dX7_finds_87 : decode cX7_finds 87 = .ok (.iconst 1, 1) := by decide +kernel
theorem dX7_finds_88 : decode cX7_finds 88 = .ok (.ireturn, 1) := by decide +kernel
theorem dX7_finds_89 : decode cX7_finds 89 = .ok (.iinc 4 1, 3) := by decide +kernel
theorem dX7_finds_92 : decode cX7_finds 92 = .ok (.goto (-89), 3) := by decide +kernel
theorem dX7_finds_95 : decode cX7_finds 95 = .ok (.iconst 0, 1) := by decide +kernel
theorem dX7_finds_96 : decode cX7_finds 96 = .ok (.ireturn, 1) := by decide +kernel
theorem dX7_isCovered_0 : decode cX7_isCovered 0 = .ok (.iconst 0, 1) := by decide +kernel
theorem dX7_isCovered_1 : decode cX7_isCovered 1 = .ok (.istore_n 3, 1) := by decide +kernel
theorem dX7_isCovered_2 : decode cX7_isCovered 2 = .ok (.iload_n 3, 1) := by decide +kernel
theorem dX7_isCovered_3 : decode cX7_isCovered 3 = .ok (.bipush 32, 2) := by decide +kernel
theorem dX7_isCovered_5 : decode cX7_isCovered 5 = .ok (.if_icmp .ge 16, 3) := by decide +kernel
theorem dX7_isCovered_8 : decode cX7_isCovered 8 = .ok (.aload_n 0, 1) := by decide +kernel
theorem dX7_isCovered_9 : decode cX7_isCovered 9 = .ok (.getfield 57, 3) := by decide +kernel
theorem dX7_isCovered_12 : decode cX7_isCovered 12 = .ok (.iload_n 3, 1) := by decide +kernel
theorem dX7_isCovered_13 : decode cX7_isCovered 13 = .ok (.iconst (-1), 1) := by decide +kernel
theorem dX7_isCovered_14 : decode cX7_isCovered 14 = .ok (.iastore, 1) := by decide +kernel
theorem dX7_isCovered_15 : decode cX7_isCovered 15 = .ok (.iinc 3 1, 3) := by decide +kernel
theorem dX7_isCovered_18 : decode cX7_isCovered 18 = .ok (.goto (-16), 3) := by decide +kernel
theorem dX7_isCovered_21 : decode cX7_isCovered 21 = .ok (.iconst 0, 1) := by decide +kernel
theorem dX7_isCovered_22 : decode cX7_isCovered 22 = .ok (.istore_n 3, 1) := by decide +kernel
theorem dX7_isCovered_23 : decode cX7_isCovered 23 = .ok (.iload_n 3, 1) := by decide +kernel
theorem dX7_isCovered_24 : decode cX7_isCovered 24 = .ok (.aload_n 0, 1) := by decide +kernel
theorem dX7_isCovered_25 : decode cX7_isCovered 25 = .ok (.getfield 54, 3) := by decide +kernel
theorem dX7_isCovered_28 : decode cX7_isCovered 28 = .ok (.iload_n 1, 1) := by decide +kernel
theorem dX7_isCovered_29 : decode cX7_isCovered 29 = .ok (.iaload, 1) := by decide +kernel
theorem dX7_isCovered_30 : decode cX7_isCovered 30 = .ok (.if_icmp .ge 77, 3) := by decide +kernel
theorem dX7_isCovered_33 : decode cX7_isCovered 33 = .ok (.aload_n 0, 1) := by decide +kernel
theorem dX7_isCovered_34 : decode cX7_isCovered 34 = .ok (.getfield 51, 3) := by decide +kernel
theorem dX7_isCovered_37 : decode cX7_isCovered 37 = .ok (.bipush 32, 2) := by decide +kernel
theorem dX7_isCovered_39 : decode cX7_isCovered 39 = .ok (.iload_n 1, 1) := by decide +kernel
theorem dX7_isCovered_40 : decode cX7_isCovered 40 = .ok (.imul, 1) := by decide +kernel
theorem dX7_isCovered_41 : decode cX7_isCovered 41 = .ok (.iload_n 3, 1) := by decide +kernel
theorem dX7_isCovered_42 : decode cX7_isCovered 42 = .ok (.iadd, 1) := by decide +kernel
theorem dX7_isCovered_43 : decode cX7_isCovered 43 = .ok (.iaload, 1) := by decide +kernel
theorem dX7_isCovered_44 : decode cX7_isCovered 44 = .ok (.aload_n 0, 1) := by decide +kernel
theorem dX7_isCovered_45 : decode cX7_isCovered 45 = .ok (.getfield 48, 3) := by decide +kernel
theorem dX7_isCovered_48 : decode cX7_isCovered 48 = .ok (.bipush 32, 2) := by decide +kernel
theorem dX7_isCovered_50 : decode cX7_isCovered 50 = .ok (.iload_n 1, 1) := by decide +kernel
theorem dX7_isCovered_51 : decode cX7_isCovered 51 = .ok (.imul, 1) := by decide +kernel
theorem dX7_isCovered_52 : decode cX7_isCovered 52 = .ok (.iload_n 3, 1) := by decide +kernel
theorem dX7_isCovered_53 : decode cX7_isCovered 53 = .ok (.iadd, 1) := by decide +kernel
theorem dX7_isCovered_54 : decode cX7_isCovered 54 = .ok (.iaload, 1) := by decide +kernel
theorem dX7_isCovered_55 : decode cX7_isCovered 55 = .ok (.isub, 1) := by decide +kernel
theorem dX7_isCovered_56 : decode cX7_isCovered 56 = .ok (.iconst 1, 1) := by decide +kernel
theorem dX7_isCovered_57 : decode cX7_isCovered 57 = .ok (.iadd, 1) := by decide +kernel
theorem dX7_isCovered_58 : decode cX7_isCovered 58 = .ok (.iload_n 2, 1) := by decide +kernel
theorem dX7_isCovered_59 : decode cX7_isCovered 59 = .ok (.if_icmp .gt 6, 3) := by decide +kernel
theorem dX7_isCovered_62 : decode cX7_isCovered 62 = .ok (.goto 39, 3) := by decide +kernel
theorem dX7_isCovered_65 : decode cX7_isCovered 65 = .ok (.iconst 0, 1) := by decide +kernel
theorem dX7_isCovered_66 : decode cX7_isCovered 66 = .ok (.istore 4, 2) := by decide +kernel
theorem dX7_isCovered_68 : decode cX7_isCovered 68 = .ok (.iload 4, 2) := by decide +kernel
theorem dX7_isCovered_70 : decode cX7_isCovered 70 = .ok (.bipush 32, 2) := by decide +kernel
theorem dX7_isCovered_72 : decode cX7_isCovered 72 = .ok (.if_icmp .ge 17, 3) := by decide +kernel
theorem dX7_isCovered_75 : decode cX7_isCovered 75 = .ok (.aload_n 0, 1) := by decide +kernel
theorem dX7_isCovered_76 : decode cX7_isCovered 76 = .ok (.getfield 60, 3) := by decide +kernel
theorem dX7_isCovered_79 : decode cX7_isCovered 79 = .ok (.iload 4, 2) := by decide +kernel
theorem dX7_isCovered_81 : decode cX7_isCovered 81 = .ok (.iconst 0, 1) := by decide +kernel
theorem dX7_isCovered_82 : decode cX7_isCovered 82 = .ok (.bastore, 1) := by decide +kernel
theorem dX7_isCovered_83 : decode cX7_isCovered 83 = .ok (.iinc 4 1, 3) := by decide +kernel
theorem dX7_isCovered_86 : decode cX7_isCovered 86 = .ok (.goto (-18), 3) := by decide +kernel
theorem dX7_isCovered_89 : decode cX7_isCovered 89 = .ok (.aload_n 0, 1) := by decide +kernel
theorem dX7_isCovered_90 : decode cX7_isCovered 90 = .ok (.iload_n 1, 1) := by decide +kernel
theorem dX7_isCovered_91 : decode cX7_isCovered 91 = .ok (.iload_n 3, 1) := by decide +kernel
theorem dX7_isCovered_92 : decode cX7_isCovered 92 = .ok (.iload_n 2, 1) := by decide +kernel
theorem dX7_isCovered_93 : decode cX7_isCovered 93 = .ok (.invokevirtual 193, 3) := by decide +kernel
theorem dX7_isCovered_96 : decode cX7_isCovered 96 = .ok (.ifCond .ne 5, 3) := by decide +kernel
theorem dX7_isCovered_99 : decode cX7_isCovered 99 = .ok (.iconst 0, 1) := by decide +kernel
theorem dX7_isCovered_100 : decode cX7_isCovered 100 = .ok (.ireturn, 1) := by decide +kernel
theorem dX7_isCovered_101 : decode cX7_isCovered 101 = .ok (.iinc 3 1, 3) := by decide +kernel
theorem dX7_isCovered_104 : decode cX7_isCovered 104 = .ok (.goto (-81), 3) := by decide +kernel
theorem dX7_isCovered_107 : decode cX7_isCovered 107 = .ok (.iconst 1, 1) := by decide +kernel
theorem dX7_isCovered_108 : decode cX7_isCovered 108 = .ok (.ireturn, 1) := by decide +kernel
theorem dX7_far_0 : decode cX7_far 0 = .ok (.iload_n 1, 1) := by decide +kernel
theorem dX7_far_1 : decode cX7_far 1 = .ok (.invokestatic 104, 3) := by decide +kernel
theorem dX7_far_4 : decode cX7_far 4 = .ok (.ifCond .eq 28, 3) := by decide +kernel
theorem dX7_far_7 : decode cX7_far 7 = .ok (.iload_n 2, 1) := by decide +kernel
theorem dX7_far_8 : decode cX7_far 8 = .ok (.invokestatic 104, 3) := by decide +kernel
theorem dX7_far_11 : decode cX7_far 11 = .ok (.ifCond .eq 21, 3) := by decide +kernel
theorem dX7_far_14 : decode cX7_far 14 = .ok (.aload_n 0, 1) := by decide +kernel
theorem dX7_far_15 : decode cX7_far 15 = .ok (.getfield 9, 3) := by decide +kernel
theorem dX7_far_18 : decode cX7_far 18 = .ok (.iload_n 1, 1) := by decide +kernel
theorem dX7_far_19 : decode cX7_far 19 = .ok (.iaload, 1) := by decide +kernel
theorem dX7_far_20 : decode cX7_far 20 = .ok (.ifCond .ne 12, 3) := by decide +kernel
theorem dX7_far_23 : decode cX7_far 23 = .ok (.aload_n 0, 1) := by decide +kernel
theorem dX7_far_24 : decode cX7_far 24 = .ok (.getfield 9, 3) := by decide +kernel
theorem dX7_far_27 : decode cX7_far 27 = .ok (.iload_n 2, 1) := by decide +kernel
theorem dX7_far_28 : decode cX7_far 28 = .ok (.iaload, 1) := by decide +kernel
theorem dX7_far_29 : decode cX7_far 29 = .ok (.ifCond .eq 5, 3) := by decide +kernel
theorem dX7_far_32 : decode cX7_far 32 = .ok (.iconst (-1), 1) := by decide +kernel
theorem dX7_far_33 : decode cX7_far 33 = .ok (.ireturn, 1) := by decide +kernel
theorem dX7_far_34 : decode cX7_far 34 = .ok (.aload_n 0, 1) := by decide +kernel
theorem dX7_far_35 : decode cX7_far 35 = .ok (.iload_n 1, 1) := by decide +kernel
theorem dX7_far_36 : decode cX7_far 36 = .ok (.iconst 0, 1) := by decide +kernel
theorem dX7_far_37 : decode cX7_far 37 = .ok (.invokevirtual 196, 3) := by decide +kernel
theorem dX7_far_40 : decode cX7_far 40 = .ok (.aload_n 0, 1) := by decide +kernel
theorem dX7_far_41 : decode cX7_far 41 = .ok (.iload_n 2, 1) := by decide +kernel
theorem dX7_far_42 : decode cX7_far 42 = .ok (.iconst 1, 1) := by decide +kernel
theorem dX7_far_43 : decode cX7_far 43 = .ok (.invokevirtual 196, 3) := by decide +kernel
theorem dX7_far_46 : decode cX7_far 46 = .ok (.iconst 0, 1) := by decide +kernel
theorem dX7_far_47 : decode cX7_far 47 = .ok (.istore_n 3, 1) := by decide +kernel
theorem dX7_far_48 : decode cX7_far 48 = .ok (.iload_n 3, 1) := by decide +kernel
theorem dX7_far_49 : decode cX7_far 49 = .ok (.aload_n 0, 1) := by decide +kernel
theorem dX7_far_50 : decode cX7_far 50 = .ok (.getfield 93, 3) := by decide +kernel
theorem dX7_far_53 : decode cX7_far 53 = .ok (.if_icmp .ge 27, 3) := by decide +kernel
theorem dX7_far_56 : decode cX7_far 56 = .ok (.aload_n 0, 1) := by decide +kernel
theorem dX7_far_57 : decode cX7_far 57 = .ok (.iconst 0, 1) := by decide +kernel
theorem dX7_far_58 : decode cX7_far 58 = .ok (.iload_n 3, 1) := by decide +kernel
theorem dX7_far_59 : decode cX7_far 59 = .ok (.invokevirtual 199, 3) := by decide +kernel
theorem dX7_far_62 : decode cX7_far 62 = .ok (.ifCond .eq 12, 3) := by decide +kernel
theorem dX7_far_65 : decode cX7_far 65 = .ok (.aload_n 0, 1) := by decide +kernel
theorem dX7_far_66 : decode cX7_far 66 = .ok (.iconst 1, 1) := by decide +kernel
theorem dX7_far_67 : decode cX7_far 67 = .ok (.iload_n 3, 1) := by decide +kernel
theorem dX7_far_68 : decode cX7_far 68 = .ok (.invokevirtual 199, 3) := by decide +kernel
theorem dX7_far_71 : decode cX7_far 71 = .ok (.ifCond .ne 9, 3) := by decide +kernel
theorem dX7_far_74 : decode cX7_far 74 = .ok (.iinc 3 1, 3) := by decide +kernel
theorem dX7_far_77 : decode cX7_far 77 = .ok (.goto (-29), 3) := by decide +kernel
theorem dX7_far_80 : decode cX7_far 80 = .ok (.iload_n 3, 1) := by decide +kernel
theorem dX7_far_81 : decode cX7_far 81 = .ok (.ireturn, 1) := by decide +kernel
theorem dX7_isTree_0 : decode cX7_isTree 0 = .ok (.iload_n 1, 1) := by decide +kernel
theorem dX7_isTree_1 : decode cX7_isTree 1 = .ok (.iconst 1, 1) := by decide +kernel
theorem dX7_isTree_2 : decode cX7_isTree 2 = .ok (.bipush 9, 2) := by decide +kernel
theorem dX7_isTree_4 : decode cX7_isTree 4 = .ok (.invokestatic 96, 3) := by decide +kernel
theorem dX7_isTree_7 : decode cX7_isTree 7 = .ok (.ifCond .eq 7, 3) := by decide +kernel
theorem dX7_isTree_10 : decode cX7_isTree 10 = .ok (.iload_n 2, 1) := by decide +kernel
theorem dX7_isTree_11 : decode cX7_isTree 11 = .ok (.ifCond .ge 5, 3) := by decide +kernel
theorem dX7_isTree_14 : decode cX7_isTree 14 = .ok (.iconst 0, 1) := by decide +kernel
theorem dX7_isTree_15 : decode cX7_isTree 15 = .ok (.ireturn, 1) := by decide +kernel
theorem dX7_isTree_16 : decode cX7_isTree 16 = .ok (.iload_n 2, 1) := by decide +kernel
theorem dX7_isTree_17 : decode cX7_isTree 17 = .ok (.istore_n 3, 1) := by decide +kernel
theorem dX7_isTree_18 : decode cX7_isTree 18 = .ok (.iconst 1, 1) := by decide +kernel
theorem dX7_isTree_19 : decode cX7_isTree 19 = .ok (.istore 4, 2) := by decide +kernel
theorem dX7_isTree_21 : decode cX7_isTree 21 = .ok (.iload 4, 2) := by decide +kernel
theorem dX7_isTree_23 : decode cX7_isTree 23 = .ok (.iload_n 1, 1) := by decide +kernel
theorem dX7_isTree_24 : decode cX7_isTree 24 = .ok (.if_icmp .ge 39, 3) := by decide +kernel
theorem dX7_isTree_27 : decode cX7_isTree 27 = .ok (.aload_n 0, 1) := by decide +kernel
theorem dX7_isTree_28 : decode cX7_isTree 28 = .ok (.getfield 69, 3) := by decide +kernel
theorem dX7_isTree_31 : decode cX7_isTree 31 = .ok (.iload 4, 2) := by decide +kernel
theorem dX7_isTree_33 : decode cX7_isTree 33 = .ok (.iload_n 3, 1) := by decide +kernel
theorem dX7_isTree_34 : decode cX7_isTree 34 = .ok (.bipush 10, 2) := by decide +kernel
theorem dX7_isTree_36 : decode cX7_isTree 36 = .ok (.irem, 1) := by decide +kernel
theorem dX7_isTree_37 : decode cX7_isTree 37 = .ok (.iastore, 1) := by decide +kernel
theorem dX7_isTree_38 : decode cX7_isTree 38 = .ok (.iload_n 3, 1) := by decide +kernel
theorem dX7_isTree_39 : decode cX7_isTree 39 = .ok (.bipush 10, 2) := by decide +kernel
theorem dX7_isTree_41 : decode cX7_isTree 41 = .ok (.idiv, 1) := by decide +kernel
theorem dX7_isTree_42 : decode cX7_isTree 42 = .ok (.istore_n 3, 1) := by decide +kernel
theorem dX7_isTree_43 : decode cX7_isTree 43 = .ok (.aload_n 0, 1) := by decide +kernel
theorem dX7_isTree_44 : decode cX7_isTree 44 = .ok (.getfield 69, 3) := by decide +kernel
theorem dX7_isTree_47 : decode cX7_isTree 47 = .ok (.iload 4, 2) := by decide +kernel
theorem dX7_isTree_49 : decode cX7_isTree 49 = .ok (.iaload, 1) := by decide +kernel
theorem dX7_isTree_50 : decode cX7_isTree 50 = .ok (.iload 4, 2) := by decide +kernel
theorem dX7_isTree_52 : decode cX7_isTree 52 = .ok (.if_icmp .lt 5, 3) := by decide +kernel
theorem dX7_isTree_55 : decode cX7_isTree 55 = .ok (.iconst 0, 1) := by decide +kernel
theorem dX7_isTree_56 : decode cX7_isTree 56 = .ok (.ireturn, 1) := by decide +kernel
theorem dX7_isTree_57 : decode cX7_isTree 57 = .ok (.iinc 4 1, 3) := by decide +kernel
theorem dX7_isTree_60 : decode cX7_isTree 60 = .ok (.goto (-39), 3) := by decide +kernel
theorem dX7_isTree_63 : decode cX7_isTree 63 = .ok (.iload_n 3, 1) := by decide +kernel
theorem dX7_isTree_64 : decode cX7_isTree 64 = .ok (.ifCond .ne 7, 3) := by decide +kernel
theorem dX7_isTree_67 : decode cX7_isTree 67 = .ok (.iconst 1, 1) := by decide +kernel
theorem dX7_isTree_68 : decode cX7_isTree 68 = .ok (.goto 4, 3) := by decide +kernel
theorem dX7_isTree_71 : decode cX7_isTree 71 = .ok (.iconst 0, 1) := by decide +kernel
theorem dX7_isTree_72 : decode cX7_isTree 72 = .ok (.ireturn, 1) := by decide +kernel
theorem dX7_twice_0 : decode cX7_twice 0 = .ok (.iload_n 2, 1) := by decide +kernel
theorem dX7_twice_1 : decode cX7_twice 1 = .ok (.iload_n 3, 1) := by decide +kernel
theorem dX7_twice_2 : decode cX7_twice 2 = .ok (.if_icmp .ne 7, 3) := by decide +kernel
theorem dX7_twice_5 : decode cX7_twice 5 = .ok (.ldc2_w 202, 3) := by decide +kernel
theorem dX7_twice_8 : decode cX7_twice 8 = .ok (.lreturn, 1) := by decide +kernel
theorem dX7_twice_9 : decode cX7_twice 9 = .ok (.iload_n 2, 1) := by decide +kernel
theorem dX7_twice_10 : decode cX7_twice 10 = .ok (.ifCond .le 10, 3) := by decide +kernel
theorem dX7_twice_13 : decode cX7_twice 13 = .ok (.aload_n 1, 1) := by decide +kernel
theorem dX7_twice_14 : decode cX7_twice 14 = .ok (.iload_n 2, 1) := by decide +kernel
theorem dX7_twice_15 : decode cX7_twice 15 = .ok (.iaload, 1) := by decide +kernel
theorem dX7_twice_16 : decode cX7_twice 16 = .ok (.iload_n 3, 1) := by decide +kernel
theorem dX7_twice_17 : decode cX7_twice 17 = .ok (.if_icmp .eq 14, 3) := by decide +kernel
theorem dX7_twice_20 : decode cX7_twice 20 = .ok (.iload_n 3, 1) := by decide +kernel
theorem dX7_twice_21 : decode cX7_twice 21 = .ok (.ifCond .le 16, 3) := by decide +kernel
theorem dX7_twice_24 : decode cX7_twice 24 = .ok (.aload_n 1, 1) := by decide +kernel
theorem dX7_twice_25 : decode cX7_twice 25 = .ok (.iload_n 3, 1) := by decide +kernel
theorem dX7_twice_26 : decode cX7_twice 26 = .ok (.iaload, 1) := by decide +kernel
theorem dX7_twice_27 : decode cX7_twice 27 = .ok (.iload_n 2, 1) := by decide +kernel
theorem dX7_twice_28 : decode cX7_twice 28 = .ok (.if_icmp .ne 9, 3) := by decide +kernel
theorem dX7_twice_31 : decode cX7_twice 31 = .ok (.ldc2_w 204, 3) := by decide +kernel
theorem dX7_twice_34 : decode cX7_twice 34 = .ok (.goto 4, 3) := by decide +kernel
theorem dX7_twice_37 : decode cX7_twice 37 = .ok (.lconst 0, 1) := by decide +kernel
theorem dX7_twice_38 : decode cX7_twice 38 = .ok (.lreturn, 1) := by decide +kernel
theorem dX7_determinant_0 : decode cX7_determinant 0 = .ok (.iconst 0, 1) := by decide +kernel
theorem dX7_determinant_1 : decode cX7_determinant 1 = .ok (.istore_n 3, 1) := by decide +kernel
theorem dX7_determinant_2 : decode cX7_determinant 2 = .ok (.iconst 0, 1) := by decide +kernel
theorem dX7_determinant_3 : decode cX7_determinant 3 = .ok (.istore 4, 2) := by decide +kernel
theorem dX7_determinant_5 : decode cX7_determinant 5 = .ok (.iload 4, 2) := by decide +kernel
theorem dX7_determinant_7 : decode cX7_determinant 7 = .ok (.iload_n 1, 1) := by decide +kernel
theorem dX7_determinant_8 : decode cX7_determinant 8 = .ok (.if_icmp .ge 78, 3) := by decide +kernel
theorem dX7_determinant_11 : decode cX7_determinant 11 = .ok (.iload_n 2, 1) := by decide +kernel
theorem dX7_determinant_12 : decode cX7_determinant 12 = .ok (.iload 4, 2) := by decide +kernel
theorem dX7_determinant_14 : decode cX7_determinant 14 = .ok (.ishr, 1) := by decide +kernel
theorem dX7_determinant_15 : decode cX7_determinant 15 = .ok (.iconst 1, 1) := by decide +kernel
theorem dX7_determinant_16 : decode cX7_determinant 16 = .ok (.iand, 1) := by decide +kernel
theorem dX7_determinant_17 : decode cX7_determinant 17 = .ok (.ifCond .ne 6, 3) := by decide +kernel
theorem dX7_determinant_20 : decode cX7_determinant 20 = .ok (.goto 60, 3) := by decide +kernel
theorem dX7_determinant_23 : decode cX7_determinant 23 = .ok (.iconst 0, 1) := by decide +kernel
theorem dX7_determinant_24 : decode cX7_determinant 24 = .ok (.istore 5, 2) := by decide +kernel
theorem dX7_determinant_26 : decode cX7_determinant 26 = .ok (.iconst 0, 1) := by decide +kernel
theorem dX7_determinant_27 : decode cX7_determinant 27 = .ok (.istore 6, 2) := by decide +kernel
theorem dX7_determinant_29 : decode cX7_determinant 29 = .ok (.iload 6, 2) := by decide +kernel
theorem dX7_determinant_31 : decode cX7_determinant 31 = .ok (.iload_n 1, 1) := by decide +kernel
theorem dX7_determinant_32 : decode cX7_determinant 32 = .ok (.if_icmp .ge 45, 3) := by decide +kernel
theorem dX7_determinant_35 : decode cX7_determinant 35 = .ok (.iload_n 2, 1) := by decide +kernel
theorem dX7_determinant_36 : decode cX7_determinant 36 = .ok (.iload 6, 2) := by decide +kernel
theorem dX7_determinant_38 : decode cX7_determinant 38 = .ok (.ishr, 1) := by decide +kernel
theorem dX7_determinant_39 : decode cX7_determinant 39 = .ok (.iconst 1, 1) := by decide +kernel
theorem dX7_determinant_40 : decode cX7_determinant 40 = .ok (.iand, 1) := by decide +kernel
theorem dX7_determinant_41 : decode cX7_determinant 41 = .ok (.ifCond .ne 6, 3) := by decide +kernel
theorem dX7_determinant_44 : decode cX7_determinant 44 = .ok (.goto 27, 3) := by decide +kernel
theorem dX7_determinant_47 : decode cX7_determinant 47 = .ok (.aload_n 0, 1) := by decide +kernel
theorem dX7_determinant_48 : decode cX7_determinant 48 = .ok (.getfield 66, 3) := by decide +kernel
theorem dX7_determinant_51 : decode cX7_determinant 51 = .ok (.iload_n 3, 1) := by decide +kernel
theorem dX7_determinant_52 : decode cX7_determinant 52 = .ok (.aaload, 1) := by decide +kernel
theorem dX7_determinant_53 : decode cX7_determinant 53 = .ok (.iload 5, 2) := by decide +kernel
theorem dX7_determinant_55 : decode cX7_determinant 55 = .ok (.iload_n 1, 1) := by decide +kernel
theorem dX7_determinant_56 : decode cX7_determinant 56 = .ok (.aload_n 0, 1) := by decide +kernel
theorem dX7_determinant_57 : decode cX7_determinant 57 = .ok (.getfield 69, 3) := by decide +kernel
theorem dX7_determinant_60 : decode cX7_determinant 60 = .ok (.iload 4, 2) := by decide +kernel
theorem dX7_determinant_62 : decode cX7_determinant 62 = .ok (.iload 6, 2) := by decide +kernel
theorem dX7_determinant_64 : decode cX7_determinant 64 = .ok (.invokestatic 206, 3) := by decide +kernel
theorem dX7_determinant_67 : decode cX7_determinant 67 = .ok (.lastore, 1) := by decide +kernel
theorem dX7_determinant_68 : decode cX7_determinant 68 = .ok (.iinc 5 1, 3) := by decide +kernel
theorem dX7_determinant_71 : decode cX7_determinant 71 = .ok (.iinc 6 1, 3) := by decide +kernel
theorem dX7_determinant_74 : decode cX7_determinant 74 = .ok (.goto (-45), 3) := by decide +kernel
theorem dX7_determinant_77 : decode cX7_determinant 77 = .ok (.iinc 3 1, 3) := by decide +kernel
theorem dX7_determinant_80 : decode cX7_determinant 80 = .ok (.iinc 4 1, 3) := by decide +kernel
theorem dX7_determinant_83 : decode cX7_determinant 83 = .ok (.goto (-78), 3) := by decide +kernel
theorem dX7_determinant_86 : decode cX7_determinant 86 = .ok (.lconst 1, 1) := by decide +kernel
theorem dX7_determinant_87 : decode cX7_determinant 87 = .ok (.lstore 4, 2) := by decide +kernel
theorem dX7_determinant_89 : decode cX7_determinant 89 = .ok (.lconst 1, 1) := by decide +kernel
theorem dX7_determinant_90 : decode cX7_determinant 90 = .ok (.lstore 6, 2) := by decide +kernel
theorem dX7_determinant_92 : decode cX7_determinant 92 = .ok (.iconst 0, 1) := by decide +kernel
theorem dX7_determinant_93 : decode cX7_determinant 93 = .ok (.istore 8, 2) := by decide +kernel
theorem dX7_determinant_95 : decode cX7_determinant 95 = .ok (.iload 8, 2) := by decide +kernel
theorem dX7_determinant_97 : decode cX7_determinant 97 = .ok (.iload_n 3, 1) := by decide +kernel
theorem dX7_determinant_98 : decode cX7_determinant 98 = .ok (.iconst 1, 1) := by decide +kernel
theorem dX7_determinant_99 : decode cX7_determinant 99 = .ok (.isub, 1) := by decide +kernel
theorem dX7_determinant_100 : decode cX7_determinant 100 = .ok (.if_icmp .ge 196, 3) := by decide +kernel
theorem dX7_determinant_103 : decode cX7_determinant 103 = .ok (.iload 8, 2) := by decide +kernel
theorem dX7_determinant_105 : decode cX7_determinant 105 = .ok (.istore 9, 2) := by decide +kernel
theorem dX7_determinant_107 : decode cX7_determinant 107 = .ok (.iload 9, 2) := by decide +kernel
theorem dX7_determinant_109 : decode cX7_determinant 109 = .ok (.iload_n 3, 1) := by decide +kernel
theorem dX7_determinant_110 : decode cX7_determinant 110 = .ok (.if_icmp .ge 24, 3) := by decide +kernel
theorem dX7_determinant_113 : decode cX7_determinant 113 = .ok (.aload_n 0, 1) := by decide +kernel
theorem dX7_determinant_114 : decode cX7_determinant 114 = .ok (.getfield 66, 3) := by decide +kernel
theorem dX7_determinant_117 : decode cX7_determinant 117 = .ok (.iload 9, 2) := by decide +kernel
theorem dX7_determinant_119 : decode cX7_determinant 119 = .ok (.aaload, 1) := by decide +kernel
theorem dX7_determinant_120 : decode cX7_determinant 120 = .ok (.iload 8, 2) := by decide +kernel
theorem dX7_determinant_122 : decode cX7_determinant 122 = .ok (.laload, 1) := by decide +kernel
theorem dX7_determinant_123 : decode cX7_determinant 123 = .ok (.lconst 0, 1) := by decide +kernel
theorem dX7_determinant_124 : decode cX7_determinant 124 = .ok (.lcmp, 1) := by decide +kernel
theorem dX7_determinant_125 : decode cX7_determinant 125 = .ok (.ifCond .ne 9, 3) := by decide +kernel
theorem dX7_determinant_128 : decode cX7_determinant 128 = .ok (.iinc 9 1, 3) := by decide +kernel
theorem dX7_determinant_131 : decode cX7_determinant 131 = .ok (.goto (-24), 3) := by decide +kernel
theorem dX7_determinant_134 : decode cX7_determinant 134 = .ok (.iload 9, 2) := by decide +kernel
theorem dX7_determinant_136 : decode cX7_determinant 136 = .ok (.iload_n 3, 1) := by decide +kernel
theorem dX7_determinant_137 : decode cX7_determinant 137 = .ok (.if_icmp .ne 5, 3) := by decide +kernel
theorem dX7_determinant_140 : decode cX7_determinant 140 = .ok (.lconst 0, 1) := by decide +kernel
theorem dX7_determinant_141 : decode cX7_determinant 141 = .ok (.lreturn, 1) := by decide +kernel
theorem dX7_determinant_142 : decode cX7_determinant 142 = .ok (.iload 9, 2) := by decide +kernel
theorem dX7_determinant_144 : decode cX7_determinant 144 = .ok (.iload 8, 2) := by decide +kernel
theorem dX7_determinant_146 : decode cX7_determinant 146 = .ok (.if_icmp .eq 40, 3) := by decide +kernel
theorem dX7_determinant_149 : decode cX7_determinant 149 = .ok (.aload_n 0, 1) := by decide +kernel
theorem dX7_determinant_150 : decode cX7_determinant 150 = .ok (.getfield 66, 3) := by decide +kernel
theorem dX7_determinant_153 : decode cX7_determinant 153 = .ok (.iload 9, 2) := by decide +kernel
theorem dX7_determinant_155 : decode cX7_determinant 155 = .ok (.aaload, 1) := by decide +kernel
theorem dX7_determinant_156 : decode cX7_determinant 156 = .ok (.astore 10, 2) := by decide +kernel
theorem dX7_determinant_158 : decode cX7_determinant 158 = .ok (.aload_n 0, 1) := by decide +kernel
theorem dX7_determinant_159 : decode cX7_determinant 159 = .ok (.getfield 66, 3) := by decide +kernel
theorem dX7_determinant_162 : decode cX7_determinant 162 = .ok (.iload 9, 2) := by decide +kernel
theorem dX7_determinant_164 : decode cX7_determinant 164 = .ok (.aload_n 0, 1) := by decide +kernel
theorem dX7_determinant_165 : decode cX7_determinant 165 = .ok (.getfield 66, 3) := by decide +kernel
theorem dX7_determinant_168 : decode cX7_determinant 168 = .ok (.iload 8, 2) := by decide +kernel
theorem dX7_determinant_170 : decode cX7_determinant 170 = .ok (.aaload, 1) := by decide +kernel
theorem dX7_determinant_171 : decode cX7_determinant 171 = .ok (.aastore, 1) := by decide +kernel
theorem dX7_determinant_172 : decode cX7_determinant 172 = .ok (.aload_n 0, 1) := by decide +kernel
theorem dX7_determinant_173 : decode cX7_determinant 173 = .ok (.getfield 66, 3) := by decide +kernel
theorem dX7_determinant_176 : decode cX7_determinant 176 = .ok (.iload 8, 2) := by decide +kernel
theorem dX7_determinant_178 : decode cX7_determinant 178 = .ok (.aload 10, 2) := by decide +kernel
theorem dX7_determinant_180 : decode cX7_determinant 180 = .ok (.aastore, 1) := by decide +kernel
theorem dX7_determinant_181 : decode cX7_determinant 181 = .ok (.lload 6, 2) := by decide +kernel
theorem dX7_determinant_183 : decode cX7_determinant 183 = .ok (.lneg, 1) := by decide +kernel
theorem dX7_determinant_184 : decode cX7_determinant 184 = .ok (.lstore 6, 2) := by decide +kernel
theorem dX7_determinant_186 : decode cX7_determinant 186 = .ok (.iload 8, 2) := by decide +kernel
theorem dX7_determinant_188 : decode cX7_determinant 188 = .ok (.iconst 1, 1) := by decide +kernel
theorem dX7_determinant_189 : decode cX7_determinant 189 = .ok (.iadd, 1) := by decide +kernel
theorem dX7_determinant_190 : decode cX7_determinant 190 = .ok (.istore 10, 2) := by decide +kernel
theorem dX7_determinant_192 : decode cX7_determinant 192 = .ok (.iload 10, 2) := by decide +kernel
theorem dX7_determinant_194 : decode cX7_determinant 194 = .ok (.iload_n 3, 1) := by decide +kernel
theorem dX7_determinant_195 : decode cX7_determinant 195 = .ok (.if_icmp .ge 83, 3) := by decide +kernel
theorem dX7_determinant_198 : decode cX7_determinant 198 = .ok (.iload 8, 2) := by decide +kernel
theorem dX7_determinant_200 : decode cX7_determinant 200 = .ok (.iconst 1, 1) := by decide +kernel
theorem dX7_determinant_201 : decode cX7_determinant 201 = .ok (.iadd, 1) := by decide +kernel
theorem dX7_determinant_202 : decode cX7_determinant 202 = .ok (.istore 11, 2) := by decide +kernel
theorem dX7_determinant_204 : decode cX7_determinant 204 = .ok (.iload 11, 2) := by decide +kernel
theorem dX7_determinant_206 : decode cX7_determinant 206 = .ok (.iload_n 3, 1) := by decide +kernel
theorem dX7_determinant_207 : decode cX7_determinant 207 = .ok (.if_icmp .ge 65, 3) := by decide +kernel
theorem dX7_determinant_210 : decode cX7_determinant 210 = .ok (.aload_n 0, 1) := by decide +kernel
theorem dX7_determinant_211 : decode cX7_determinant 211 = .ok (.getfield 66, 3) := by decide +kernel
theorem dX7_determinant_214 : decode cX7_determinant 214 = .ok (.iload 10, 2) := by decide +kernel
theorem dX7_determinant_216 : decode cX7_determinant 216 = .ok (.aaload, 1) := by decide +kernel
theorem dX7_determinant_217 : decode cX7_determinant 217 = .ok (.iload 11, 2) := by decide +kernel
theorem dX7_determinant_219 : decode cX7_determinant 219 = .ok (.aload_n 0, 1) := by decide +kernel
theorem dX7_determinant_220 : decode cX7_determinant 220 = .ok (.getfield 66, 3) := by decide +kernel
theorem dX7_determinant_223 : decode cX7_determinant 223 = .ok (.iload 10, 2) := by decide +kernel
theorem dX7_determinant_225 : decode cX7_determinant 225 = .ok (.aaload, 1) := by decide +kernel
theorem dX7_determinant_226 : decode cX7_determinant 226 = .ok (.iload 11, 2) := by decide +kernel
theorem dX7_determinant_228 : decode cX7_determinant 228 = .ok (.laload, 1) := by decide +kernel
theorem dX7_determinant_229 : decode cX7_determinant 229 = .ok (.aload_n 0, 1) := by decide +kernel
theorem dX7_determinant_230 : decode cX7_determinant 230 = .ok (.getfield 66, 3) := by decide +kernel
theorem dX7_determinant_233 : decode cX7_determinant 233 = .ok (.iload 8, 2) := by decide +kernel
theorem dX7_determinant_235 : decode cX7_determinant 235 = .ok (.aaload, 1) := by decide +kernel
theorem dX7_determinant_236 : decode cX7_determinant 236 = .ok (.iload 8, 2) := by decide +kernel
theorem dX7_determinant_238 : decode cX7_determinant 238 = .ok (.laload, 1) := by decide +kernel
theorem dX7_determinant_239 : decode cX7_determinant 239 = .ok (.lmul, 1) := by decide +kernel
theorem dX7_determinant_240 : decode cX7_determinant 240 = .ok (.aload_n 0, 1) := by decide +kernel
theorem dX7_determinant_241 : decode cX7_determinant 241 = .ok (.getfield 66, 3) := by decide +kernel
theorem dX7_determinant_244 : decode cX7_determinant 244 = .ok (.iload 10, 2) := by decide +kernel
theorem dX7_determinant_246 : decode cX7_determinant 246 = .ok (.aaload, 1) := by decide +kernel
theorem dX7_determinant_247 : decode cX7_determinant 247 = .ok (.iload 8, 2) := by decide +kernel
theorem dX7_determinant_249 : decode cX7_determinant 249 = .ok (.laload, 1) := by decide +kernel
theorem dX7_determinant_250 : decode cX7_determinant 250 = .ok (.aload_n 0, 1) := by decide +kernel
theorem dX7_determinant_251 : decode cX7_determinant 251 = .ok (.getfield 66, 3) := by decide +kernel
theorem dX7_determinant_254 : decode cX7_determinant 254 = .ok (.iload 8, 2) := by decide +kernel
theorem dX7_determinant_256 : decode cX7_determinant 256 = .ok (.aaload, 1) := by decide +kernel
theorem dX7_determinant_257 : decode cX7_determinant 257 = .ok (.iload 11, 2) := by decide +kernel
theorem dX7_determinant_259 : decode cX7_determinant 259 = .ok (.laload, 1) := by decide +kernel
theorem dX7_determinant_260 : decode cX7_determinant 260 = .ok (.lmul, 1) := by decide +kernel
theorem dX7_determinant_261 : decode cX7_determinant 261 = .ok (.lsub, 1) := by decide +kernel
theorem dX7_determinant_262 : decode cX7_determinant 262 = .ok (.lload 4, 2) := by decide +kernel
theorem dX7_determinant_264 : decode cX7_determinant 264 = .ok (.ldiv, 1) := by decide +kernel
theorem dX7_determinant_265 : decode cX7_determinant 265 = .ok (.lastore, 1) := by decide +kernel
theorem dX7_determinant_266 : decode cX7_determinant 266 = .ok (.iinc 11 1, 3) := by decide +kernel
theorem dX7_determinant_269 : decode cX7_determinant 269 = .ok (.goto (-65), 3) := by decide +kernel
theorem dX7_determinant_272 : decode cX7_determinant 272 = .ok (.iinc 10 1, 3) := by decide +kernel
theorem dX7_determinant_275 : decode cX7_determinant 275 = .ok (.goto (-83), 3) := by decide +kernel
theorem dX7_determinant_278 : decode cX7_determinant 278 = .ok (.aload_n 0, 1) := by decide +kernel
theorem dX7_determinant_279 : decode cX7_determinant 279 = .ok (.getfield 66, 3) := by decide +kernel
theorem dX7_determinant_282 : decode cX7_determinant 282 = .ok (.iload 8, 2) := by decide +kernel
theorem dX7_determinant_284 : decode cX7_determinant 284 = .ok (.aaload, 1) := by decide +kernel
theorem dX7_determinant_285 : decode cX7_determinant 285 = .ok (.iload 8, 2) := by decide +kernel
theorem dX7_determinant_287 : decode cX7_determinant 287 = .ok (.laload, 1) := by decide +kernel
theorem dX7_determinant_288 : decode cX7_determinant 288 = .ok (.lstore 4, 2) := by decide +kernel
theorem dX7_determinant_290 : decode cX7_determinant 290 = .ok (.iinc 8 1, 3) := by decide +kernel
theorem dX7_determinant_293 : decode cX7_determinant 293 = .ok (.goto (-198), 3) := by decide +kernel
theorem dX7_determinant_296 : decode cX7_determinant 296 = .ok (.iload_n 3, 1) := by decide +kernel
theorem dX7_determinant_297 : decode cX7_determinant 297 = .ok (.ifCond .ne 7, 3) := by decide +kernel
theorem dX7_determinant_300 : decode cX7_determinant 300 = .ok (.lconst 1, 1) := by decide +kernel
theorem dX7_determinant_301 : decode cX7_determinant 301 = .ok (.goto 18, 3) := by decide +kernel
theorem dX7_determinant_304 : decode cX7_determinant 304 = .ok (.lload 6, 2) := by decide +kernel
theorem dX7_determinant_306 : decode cX7_determinant 306 = .ok (.aload_n 0, 1) := by decide +kernel
theorem dX7_determinant_307 : decode cX7_determinant 307 = .ok (.getfield 66, 3) := by decide +kernel
theorem dX7_determinant_310 : decode cX7_determinant 310 = .ok (.iload_n 3, 1) := by decide +kernel
theorem dX7_determinant_311 : decode cX7_determinant 311 = .ok (.iconst 1, 1) := by decide +kernel
theorem dX7_determinant_312 : decode cX7_determinant 312 = .ok (.isub, 1) := by decide +kernel
theorem dX7_determinant_313 : decode cX7_determinant 313 = .ok (.aaload, 1) := by decide +kernel
theorem dX7_determinant_314 : decode cX7_determinant 314 = .ok (.iload_n 3, 1) := by decide +kernel
theorem dX7_determinant_315 : decode cX7_determinant 315 = .ok (.iconst 1, 1) := by decide +kernel
theorem dX7_determinant_316 : decode cX7_determinant 316 = .ok (.isub, 1) := by decide +kernel
theorem dX7_determinant_317 : decode cX7_determinant 317 = .ok (.laload, 1) := by decide +kernel
theorem dX7_determinant_318 : decode cX7_determinant 318 = .ok (.lmul, 1) := by decide +kernel
theorem dX7_determinant_319 : decode cX7_determinant 319 = .ok (.lreturn, 1) := by decide +kernel
theorem dX7_kind_0 : decode cX7_kind 0 = .ok (.aload_n 0, 1) := by decide +kernel
theorem dX7_kind_1 : decode cX7_kind 1 = .ok (.iload_n 1, 1) := by decide +kernel
theorem dX7_kind_2 : decode cX7_kind 2 = .ok (.iload_n 2, 1) := by decide +kernel
theorem dX7_kind_3 : decode cX7_kind 3 = .ok (.invokevirtual 210, 3) := by decide +kernel
theorem dX7_kind_6 : decode cX7_kind 6 = .ok (.ifCond .ne 5, 3) := by decide +kernel
theorem dX7_kind_9 : decode cX7_kind 9 = .ok (.iconst (-1), 1) := by decide +kernel
theorem dX7_kind_10 : decode cX7_kind 10 = .ok (.ireturn, 1) := by decide +kernel
theorem dX7_kind_11 : decode cX7_kind 11 = .ok (.iconst 1, 1) := by decide +kernel
theorem dX7_kind_12 : decode cX7_kind 12 = .ok (.istore_n 3, 1) := by decide +kernel
theorem dX7_kind_13 : decode cX7_kind 13 = .ok (.iconst 1, 1) := by decide +kernel
theorem dX7_kind_14 : decode cX7_kind 14 = .ok (.istore 4, 2) := by decide +kernel
theorem dX7_kind_16 : decode cX7_kind 16 = .ok (.iload 4, 2) := by decide +kernel
theorem dX7_kind_18 : decode cX7_kind 18 = .ok (.iconst 1, 1) := by decide +kernel
theorem dX7_kind_19 : decode cX7_kind 19 = .ok (.iload_n 1, 1) := by decide +kernel
theorem dX7_kind_20 : decode cX7_kind 20 = .ok (.ishl, 1) := by decide +kernel
theorem dX7_kind_21 : decode cX7_kind 21 = .ok (.if_icmp .ge 44, 3) := by decide +kernel
theorem dX7_kind_24 : decode cX7_kind 24 = .ok (.aload_n 0, 1) := by decide +kernel
theorem dX7_kind_25 : decode cX7_kind 25 = .ok (.iload_n 1, 1) := by decide +kernel
theorem dX7_kind_26 : decode cX7_kind 26 = .ok (.iload 4, 2) := by decide +kernel
theorem dX7_kind_28 : decode cX7_kind 28 = .ok (.invokevirtual 213, 3) := by decide +kernel
theorem dX7_kind_31 : decode cX7_kind 31 = .ok (.lstore 5, 2) := by decide +kernel
theorem dX7_kind_33 : decode cX7_kind 33 = .ok (.lload 5, 2) := by decide +kernel
theorem dX7_kind_35 : decode cX7_kind 35 = .ok (.lconst 0, 1) := by decide +kernel
theorem dX7_kind_36 : decode cX7_kind 36 = .ok (.lcmp, 1) := by decide +kernel
theorem dX7_kind_37 : decode cX7_kind 37 = .ok (.ifCond .ge 5, 3) := by decide +kernel
theorem dX7_kind_40 : decode cX7_kind 40 = .ok (.iconst 3, 1) := by decide +kernel
theorem dX7_kind_41 : decode cX7_kind 41 = .ok (.ireturn, 1) := by decide +kernel
theorem dX7_kind_42 : decode cX7_kind 42 = .ok (.iload_n 3, 1) := by decide +kernel
theorem dX7_kind_43 : decode cX7_kind 43 = .ok (.ifCond .eq 14, 3) := by decide +kernel
theorem dX7_kind_46 : decode cX7_kind 46 = .ok (.lload 5, 2) := by decide +kernel
theorem dX7_kind_48 : decode cX7_kind 48 = .ok (.lconst 0, 1) := by decide +kernel
theorem dX7_kind_49 : decode cX7_kind 49 = .ok (.lcmp, 1) := by decide +kernel
theorem dX7_kind_50 : decode cX7_kind 50 = .ok (.ifCond .le 7, 3) := by decide +kernel
theorem dX7_kind_53 : decode cX7_kind 53 = .ok (.iconst 1, 1) := by decide +kernel
theorem dX7_kind_54 : decode cX7_kind 54 = .ok (.goto 4, 3) := by decide +kernel
theorem dX7_kind_57 : decode cX7_kind 57 = .ok (.iconst 0, 1) := by decide +kernel
theorem dX7_kind_58 : decode cX7_kind 58 = .ok (.istore_n 3, 1) := by decide +kernel
theorem dX7_kind_59 : decode cX7_kind 59 = .ok (.iinc 4 1, 3) := by decide +kernel
theorem dX7_kind_62 : decode cX7_kind 62 = .ok (.goto (-46), 3) := by decide +kernel
theorem dX7_kind_65 : decode cX7_kind 65 = .ok (.iload_n 3, 1) := by decide +kernel
theorem dX7_kind_66 : decode cX7_kind 66 = .ok (.ifCond .eq 7, 3) := by decide +kernel
theorem dX7_kind_69 : decode cX7_kind 69 = .ok (.iconst 1, 1) := by decide +kernel
theorem dX7_kind_70 : decode cX7_kind 70 = .ok (.goto 4, 3) := by decide +kernel
theorem dX7_kind_73 : decode cX7_kind 73 = .ok (.iconst 2, 1) := by decide +kernel
theorem dX7_kind_74 : decode cX7_kind 74 = .ok (.ireturn, 1) := by decide +kernel
theorem dX7_value_0 : decode cX7_value 0 = .ok (.iconst 0, 1) := by decide +kernel
theorem dX7_value_1 : decode cX7_value 1 = .ok (.istore_n 3, 1) := by decide +kernel
theorem dX7_value_2 : decode cX7_value 2 = .ok (.iconst 0, 1) := by decide +kernel
theorem dX7_value_3 : decode cX7_value 3 = .ok (.istore 4, 2) := by decide +kernel
theorem dX7_value_5 : decode cX7_value 5 = .ok (.iload 4, 2) := by decide +kernel
theorem dX7_value_7 : decode cX7_value 7 = .ok (.iload_n 1, 1) := by decide +kernel
theorem dX7_value_8 : decode cX7_value 8 = .ok (.if_icmp .ge 43, 3) := by decide +kernel
theorem dX7_value_11 : decode cX7_value 11 = .ok (.iload_n 3, 1) := by decide +kernel
theorem dX7_value_12 : decode cX7_value 12 = .ok (.aload_n 2, 1) := by decide +kernel
theorem dX7_value_13 : decode cX7_value 13 = .ok (.iload 4, 2) := by decide +kernel
theorem dX7_value_15 : decode cX7_value 15 = .ok (.baload, 1) := by decide +kernel
theorem dX7_value_16 : decode cX7_value 16 = .ok (.aload_n 2, 1) := by decide +kernel
theorem dX7_value_17 : decode cX7_value 17 = .ok (.iload 4, 2) := by decide +kernel
theorem dX7_value_19 : decode cX7_value 19 = .ok (.baload, 1) := by decide +kernel
theorem dX7_value_20 : decode cX7_value 20 = .ok (.imul, 1) := by decide +kernel
theorem dX7_value_21 : decode cX7_value 21 = .ok (.iadd, 1) := by decide +kernel
theorem dX7_value_22 : decode cX7_value 22 = .ok (.istore_n 3, 1) := by decide +kernel
theorem dX7_value_23 : decode cX7_value 23 = .ok (.iload 4, 2) := by decide +kernel
theorem dX7_value_25 : decode cX7_value 25 = .ok (.ifCond .le 20, 3) := by decide +kernel
theorem dX7_value_28 : decode cX7_value 28 = .ok (.iload_n 3, 1) := by decide +kernel
theorem dX7_value_29 : decode cX7_value 29 = .ok (.aload_n 2, 1) := by decide +kernel
theorem dX7_value_30 : decode cX7_value 30 = .ok (.iload 4, 2) := by decide +kernel
theorem dX7_value_32 : decode cX7_value 32 = .ok (.baload, 1) := by decide +kernel
theorem dX7_value_33 : decode cX7_value 33 = .ok (.aload_n 2, 1) := by decide +kernel
theorem dX7_value_34 : decode cX7_value 34 = .ok (.aload_n 0, 1) := by decide +kernel
theorem dX7_value_35 : decode cX7_value 35 = .ok (.getfield 69, 3) := by decide +kernel
theorem dX7_value_38 : decode cX7_value 38 = .ok (.iload 4, 2) := by decide +kernel
theorem dX7_value_40 : decode cX7_value 40 = .ok (.iaload, 1) := by decide +kernel
theorem dX7_value_41 : decode cX7_value 41 = .ok (.baload, 1) := by decide +kernel
theorem dX7_value_42 : decode cX7_value 42 = .ok (.imul, 1) := by decide +kernel
theorem dX7_value_43 : decode cX7_value 43 = .ok (.isub, 1) := by decide +kernel
theorem dX7_value_44 : decode cX7_value 44 = .ok (.istore_n 3, 1) := by decide +kernel
theorem dX7_value_45 : decode cX7_value 45 = .ok (.iinc 4 1, 3) := by decide +kernel
theorem dX7_value_48 : decode cX7_value 48 = .ok (.goto (-43), 3) := by decide +kernel
theorem dX7_value_51 : decode cX7_value 51 = .ok (.iload_n 3, 1) := by decide +kernel
theorem dX7_value_52 : decode cX7_value 52 = .ok (.ireturn, 1) := by decide +kernel
theorem dX7_isFound_0 : decode cX7_isFound 0 = .ok (.iconst 0, 1) := by decide +kernel
theorem dX7_isFound_1 : decode cX7_isFound 1 = .ok (.istore 4, 2) := by decide +kernel
theorem dX7_isFound_3 : decode cX7_isFound 3 = .ok (.iload 4, 2) := by decide +kernel
theorem dX7_isFound_5 : decode cX7_isFound 5 = .ok (.iload_n 2, 1) := by decide +kernel
theorem dX7_isFound_6 : decode cX7_isFound 6 = .ok (.if_icmp .ge 63, 3) := by decide +kernel
theorem dX7_isFound_9 : decode cX7_isFound 9 = .ok (.iconst 1, 1) := by decide +kernel
theorem dX7_isFound_10 : decode cX7_isFound 10 = .ok (.istore 5, 2) := by decide +kernel
theorem dX7_isFound_12 : decode cX7_isFound 12 = .ok (.iconst 0, 1) := by decide +kernel
theorem dX7_isFound_13 : decode cX7_isFound 13 = .ok (.istore 6, 2) := by decide +kernel
theorem dX7_isFound_15 : decode cX7_isFound 15 = .ok (.iload 6, 2) := by decide +kernel
theorem dX7_isFound_17 : decode cX7_isFound 17 = .ok (.iload_n 1, 1) := by decide +kernel
theorem dX7_isFound_18 : decode cX7_isFound 18 = .ok (.if_icmp .ge 38, 3) := by decide +kernel
theorem dX7_isFound_21 : decode cX7_isFound 21 = .ok (.iload 5, 2) := by decide +kernel
theorem dX7_isFound_23 : decode cX7_isFound 23 = .ok (.ifCond .eq 33, 3) := by decide +kernel
theorem dX7_isFound_26 : decode cX7_isFound 26 = .ok (.aload_n 0, 1) := by decide +kernel
theorem dX7_isFound_27 : decode cX7_isFound 27 = .ok (.getfield 74, 3) := by decide +kernel
theorem dX7_isFound_30 : decode cX7_isFound 30 = .ok (.iload 4, 2) := by decide +kernel
theorem dX7_isFound_32 : decode cX7_isFound 32 = .ok (.aaload, 1) := by decide +kernel
theorem dX7_isFound_33 : decode cX7_isFound 33 = .ok (.iload 6, 2) := by decide +kernel
theorem dX7_isFound_35 : decode cX7_isFound 35 = .ok (.baload, 1) := by decide +kernel
theorem dX7_isFound_36 : decode cX7_isFound 36 = .ok (.aload_n 3, 1) := by decide +kernel
theorem dX7_isFound_37 : decode cX7_isFound 37 = .ok (.iload 6, 2) := by decide +kernel
theorem dX7_isFound_39 : decode cX7_isFound 39 = .ok (.baload, 1) := by decide +kernel
theorem dX7_isFound_40 : decode cX7_isFound 40 = .ok (.if_icmp .ne 7, 3) := by decide +kernel
theorem dX7_isFound_43 : decode cX7_isFound 43 = .ok (.iconst 1, 1) := by decide +kernel
theorem dX7_isFound_44 : decode cX7_isFound 44 = .ok (.goto 4, 3) := by decide +kernel
theorem dX7_isFound_47 : decode cX7_isFound 47 = .ok (.iconst 0, 1) := by decide +kernel
theorem dX7_isFound_48 : decode cX7_isFound 48 = .ok (.istore 5, 2) := by decide +kernel
theorem dX7_isFound_50 : decode cX7_isFound 50 = .ok (.iinc 6 1, 3) := by decide +kernel
theorem dX7_isFound_53 : decode cX7_isFound 53 = .ok (.goto (-38), 3) := by decide +kernel
theorem dX7_isFound_56 : decode cX7_isFound 56 = .ok (.iload 5, 2) := by decide +kernel
theorem dX7_isFound_58 : decode cX7_isFound 58 = .ok (.ifCond .eq 5, 3) := by decide +kernel
theorem dX7_isFound_61 : decode cX7_isFound 61 = .ok (.iconst 1, 1) := by decide +kernel
theorem dX7_isFound_62 : decode cX7_isFound 62 = .ok (.ireturn, 1) := by decide +kernel
theorem dX7_isFound_63 : decode cX7_isFound 63 = .ok (.iinc 4 1, 3) := by decide +kernel
theorem dX7_isFound_66 : decode cX7_isFound 66 = .ok (.goto (-63), 3) := by decide +kernel
theorem dX7_isFound_69 : decode cX7_isFound 69 = .ok (.iconst 0, 1) := by decide +kernel
theorem dX7_isFound_70 : decode cX7_isFound 70 = .ok (.ireturn, 1) := by decide +kernel
theorem dX7_roots_0 : decode cX7_roots 0 = .ok (.aload_n 0, 1) := by decide +kernel
theorem dX7_roots_1 : decode cX7_roots 1 = .ok (.iload_n 1, 1) := by decide +kernel
theorem dX7_roots_2 : decode cX7_roots 2 = .ok (.iload_n 2, 1) := by decide +kernel
theorem dX7_roots_3 : decode cX7_roots 3 = .ok (.invokevirtual 217, 3) := by decide +kernel
theorem dX7_roots_6 : decode cX7_roots 6 = .ok (.istore_n 3, 1) := by decide +kernel
theorem dX7_roots_7 : decode cX7_roots 7 = .ok (.iload_n 3, 1) := by decide +kernel
theorem dX7_roots_8 : decode cX7_roots 8 = .ok (.iconst 1, 1) := by decide +kernel
theorem dX7_roots_9 : decode cX7_roots 9 = .ok (.if_icmp .eq 14, 3) := by decide +kernel
theorem dX7_roots_12 : decode cX7_roots 12 = .ok (.iload_n 3, 1) := by decide +kernel
theorem dX7_roots_13 : decode cX7_roots 13 = .ok (.iconst (-1), 1) := by decide +kernel
theorem dX7_roots_14 : decode cX7_roots 14 = .ok (.if_icmp .ne 7, 3) := by decide +kernel
theorem dX7_roots_17 : decode cX7_roots 17 = .ok (.iconst (-1), 1) := by decide +kernel
theorem dX7_roots_18 : decode cX7_roots 18 = .ok (.goto 4, 3) := by decide +kernel
theorem dX7_roots_21 : decode cX7_roots 21 = .ok (.iconst 0, 1) := by decide +kernel
theorem dX7_roots_22 : decode cX7_roots 22 = .ok (.ireturn, 1) := by decide +kernel
theorem dX7_roots_23 : decode cX7_roots 23 = .ok (.iconst 0, 1) := by decide +kernel
theorem dX7_roots_24 : decode cX7_roots 24 = .ok (.istore 4, 2) := by decide +kernel
theorem dX7_roots_26 : decode cX7_roots 26 = .ok (.iconst 0, 1) := by decide +kernel
theorem dX7_roots_27 : decode cX7_roots 27 = .ok (.istore 5, 2) := by decide +kernel
theorem dX7_roots_29 : decode cX7_roots 29 = .ok (.iload 5, 2) := by decide +kernel
theorem dX7_roots_31 : decode cX7_roots 31 = .ok (.iload_n 1, 1) := by decide +kernel
theorem dX7_roots_32 : decode cX7_roots 32 = .ok (.if_icmp .ge 50, 3) := by decide +kernel
theorem dX7_roots_35 : decode cX7_roots 35 = .ok (.iconst 0, 1) := by decide +kernel
theorem dX7_roots_36 : decode cX7_roots 36 = .ok (.istore 6, 2) := by decide +kernel
theorem dX7_roots_38 : decode cX7_roots 38 = .ok (.iload 6, 2) := by decide +kernel
theorem dX7_roots_40 : decode cX7_roots 40 = .ok (.iload_n 1, 1) := by decide +kernel
theorem dX7_roots_41 : decode cX7_roots 41 = .ok (.if_icmp .ge 32, 3) := by decide +kernel
theorem dX7_roots_44 : decode cX7_roots 44 = .ok (.aload_n 0, 1) := by decide +kernel
theorem dX7_roots_45 : decode cX7_roots 45 = .ok (.getfield 74, 3) := by decide +kernel
theorem dX7_roots_48 : decode cX7_roots 48 = .ok (.iload 4, 2) := by decide +kernel
theorem dX7_roots_50 : decode cX7_roots 50 = .ok (.aaload, 1) := by decide +kernel
theorem dX7_roots_51 : decode cX7_roots 51 = .ok (.iload 6, 2) := by decide +kernel
theorem dX7_roots_53 : decode cX7_roots 53 = .ok (.iload 6, 2) := by decide +kernel
theorem dX7_roots_55 : decode cX7_roots 55 = .ok (.iload 5, 2) := by decide +kernel
theorem dX7_roots_57 : decode cX7_roots 57 = .ok (.if_icmp .ne 7, 3) := by decide +kernel
theorem dX7_roots_60 : decode cX7_roots 60 = .ok (.iconst 1, 1) := by decide +kernel
theorem dX7_roots_61 : decode cX7_roots 61 = .ok (.goto 4, 3) := by decide +kernel
theorem dX7_roots_64 : decode cX7_roots 64 = .ok (.iconst 0, 1) := by decide +kernel
theorem dX7_roots_65 : decode cX7_roots 65 = .ok (.i2b, 1) := by decide +kernel
theorem dX7_roots_66 : decode cX7_roots 66 = .ok (.bastore, 1) := by decide +kernel
theorem dX7_roots_67 : decode cX7_roots 67 = .ok (.iinc 6 1, 3) := by decide +kernel
theorem dX7_roots_70 : decode cX7_roots 70 = .ok (.goto (-32), 3) := by decide +kernel
theorem dX7_roots_73 : decode cX7_roots 73 = .ok (.iinc 4 1, 3) := by decide +kernel
theorem dX7_roots_76 : decode cX7_roots 76 = .ok (.iinc 5 1, 3) := by decide +kernel
theorem dX7_roots_79 : decode cX7_roots 79 = .ok (.goto (-50), 3) := by decide +kernel
theorem dX7_roots_82 : decode cX7_roots 82 = .ok (.iconst 0, 1) := by decide +kernel
theorem dX7_roots_83 : decode cX7_roots 83 = .ok (.istore 5, 2) := by decide +kernel
theorem dX7_roots_85 : decode cX7_roots 85 = .ok (.iload 5, 2) := by decide +kernel
theorem dX7_roots_87 : decode cX7_roots 87 = .ok (.iload 4, 2) := by decide +kernel
theorem dX7_roots_89 : decode cX7_roots 89 = .ok (.if_icmp .ge 137, 3) := by decide +kernel
theorem dX7_roots_92 : decode cX7_roots 92 = .ok (.iconst 0, 1) := by decide +kernel
theorem dX7_roots_93 : decode cX7_roots 93 = .ok (.istore 6, 2) := by decide +kernel
theorem dX7_roots_95 : decode cX7_roots 95 = .ok (.iload 6, 2) := by decide +kernel
theorem dX7_roots_97 : decode cX7_roots 97 = .ok (.iload_n 1, 1) := by decide +kernel
theorem dX7_roots_98 : decode cX7_roots 98 = .ok (.if_icmp .ge 122, 3) := by decide +kernel
theorem dX7_roots_101 : decode cX7_roots 101 = .ok (.aload_n 0, 1) := by decide +kernel
theorem dX7_roots_102 : decode cX7_roots 102 = .ok (.getfield 74, 3) := by decide +kernel
theorem dX7_roots_105 : decode cX7_roots 105 = .ok (.iload 5, 2) := by decide +kernel
theorem dX7_roots_107 : decode cX7_roots 107 = .ok (.aaload, 1) := by decide +kernel
theorem dX7_roots_108 : decode cX7_roots 108 = .ok (.iload 6, 2) := by decide +kernel
theorem dX7_roots_110 : decode cX7_roots 110 = .ok (.dup2, 1) := by decide +kernel
theorem dX7_roots_111 : decode cX7_roots 111 = .ok (.baload, 1) := by decide +kernel
theorem dX7_roots_112 : decode cX7_roots 112 = .ok (.iconst 1, 1) := by decide +kernel
theorem dX7_roots_113 : decode cX7_roots 113 = .ok (.iadd, 1) := by decide +kernel
theorem dX7_roots_114 : decode cX7_roots 114 = .ok (.i2b, 1) := by decide +kernel
theorem dX7_roots_115 : decode cX7_roots 115 = .ok (.bastore, 1) := by decide +kernel
theorem dX7_roots_116 : decode cX7_roots 116 = .ok (.aload_n 0, 1) := by decide +kernel
theorem dX7_roots_117 : decode cX7_roots 117 = .ok (.iload_n 1, 1) := by decide +kernel
theorem dX7_roots_118 : decode cX7_roots 118 = .ok (.aload_n 0, 1) := by decide +kernel
theorem dX7_roots_119 : decode cX7_roots 119 = .ok (.getfield 74, 3) := by decide +kernel
theorem dX7_roots_122 : decode cX7_roots 122 = .ok (.iload 5, 2) := by decide +kernel
theorem dX7_roots_124 : decode cX7_roots 124 = .ok (.aaload, 1) := by decide +kernel
theorem dX7_roots_125 : decode cX7_roots 125 = .ok (.invokevirtual 220, 3) := by decide +kernel
theorem dX7_roots_128 : decode cX7_roots 128 = .ok (.iconst 1, 1) := by decide +kernel
theorem dX7_roots_129 : decode cX7_roots 129 = .ok (.if_icmp .ne 70, 3) := by decide +kernel
theorem dX7_roots_132 : decode cX7_roots 132 = .ok (.aload_n 0, 1) := by decide +kernel
theorem dX7_roots_133 : decode cX7_roots 133 = .ok (.iload_n 1, 1) := by decide +kernel
theorem dX7_roots_134 : decode cX7_roots 134 = .ok (.iload 5, 2) := by decide +kernel
theorem dX7_roots_136 : decode cX7_roots 136 = .ok (.aload_n 0, 1) := by decide +kernel
theorem dX7_roots_137 : decode cX7_roots 137 = .ok (.getfield 74, 3) := by decide +kernel
theorem dX7_roots_140 : decode cX7_roots 140 = .ok (.iload 5, 2) := by decide +kernel
theorem dX7_roots_142 : decode cX7_roots 142 = .ok (.aaload, 1) := by decide +kernel
theorem dX7_roots_143 : decode cX7_roots 143 = .ok (.invokevirtual 224, 3) := by decide +kernel
theorem dX7_roots_146 : decode cX7_roots 146 = .ok (.ifCond .ne 53, 3) := by decide +kernel
theorem dX7_roots_149 : decode cX7_roots 149 = .ok (.aload_n 0, 1) := by decide +kernel
theorem dX7_roots_150 : decode cX7_roots 150 = .ok (.iload_n 1, 1) := by decide +kernel
theorem dX7_roots_151 : decode cX7_roots 151 = .ok (.iload 5, 2) := by decide +kernel
theorem dX7_roots_153 : decode cX7_roots 153 = .ok (.iload 4, 2) := by decide +kernel
theorem dX7_roots_155 : decode cX7_roots 155 = .ok (.invokevirtual 228, 3) := by decide +kernel
theorem dX7_roots_158 : decode cX7_roots 158 = .ok (.ifCond .ne 41, 3) := by decide +kernel
theorem dX7_roots_161 : decode cX7_roots 161 = .ok (.iconst 0, 1) := by decide +kernel
theorem dX7_roots_162 : decode cX7_roots 162 = .ok (.istore 7, 2) := by decide +kernel
theorem dX7_roots_164 : decode cX7_roots 164 = .ok (.iload 7, 2) := by decide +kernel
theorem dX7_roots_166 : decode cX7_roots 166 = .ok (.iload_n 1, 1) := by decide +kernel
theorem dX7_roots_167 : decode cX7_roots 167 = .ok (.if_icmp .ge 29, 3) := by decide +kernel
theorem dX7_roots_170 : decode cX7_roots 170 = .ok (.aload_n 0, 1) := by decide +kernel
theorem dX7_roots_171 : decode cX7_roots 171 = .ok (.getfield 74, 3) := by decide +kernel
theorem dX7_roots_174 : decode cX7_roots 174 = .ok (.iload 4, 2) := by decide +kernel
theorem dX7_roots_176 : decode cX7_roots 176 = .ok (.aaload, 1) := by decide +kernel
theorem dX7_roots_177 : decode cX7_roots 177 = .ok (.iload 7, 2) := by decide +kernel
theorem dX7_roots_179 : decode cX7_roots 179 = .ok (.aload_n 0, 1) := by decide +kernel
theorem dX7_roots_180 : decode cX7_roots 180 = .ok (.getfield 74, 3) := by decide +kernel
theorem dX7_roots_183 : decode cX7_roots 183 = .ok (.iload 5, 2) := by decide +kernel
theorem dX7_roots_185 : decode cX7_roots 185 = .ok (.aaload, 1) := by decide +kernel
theorem dX7_roots_186 : decode cX7_roots 186 = .ok (.iload 7, 2) := by decide +kernel
theorem dX7_roots_188 : decode cX7_roots 188 = .ok (.baload, 1) := by decide +kernel
theorem dX7_roots_189 : decode cX7_roots 189 = .ok (.bastore, 1) := by decide +kernel
theorem dX7_roots_190 : decode cX7_roots 190 = .ok (.iinc 7 1, 3) := by decide +kernel
theorem dX7_roots_193 : decode cX7_roots 193 = .ok (.goto (-29), 3) := by decide +kernel
theorem dX7_roots_196 : decode cX7_roots 196 = .ok (.iinc 4 1, 3) := by decide +kernel
theorem dX7_roots_199 : decode cX7_roots 199 = .ok (.aload_n 0, 1) := by decide +kernel
theorem dX7_roots_200 : decode cX7_roots 200 = .ok (.getfield 74, 3) := by decide +kernel
theorem dX7_roots_203 : decode cX7_roots 203 = .ok (.iload 5, 2) := by decide +kernel
theorem dX7_roots_205 : decode cX7_roots 205 = .ok (.aaload, 1) := by decide +kernel
theorem dX7_roots_206 : decode cX7_roots 206 = .ok (.iload 6, 2) := by decide +kernel
theorem dX7_roots_208 : decode cX7_roots 208 = .ok (.dup2, 1) := by decide +kernel
theorem dX7_roots_209 : decode cX7_roots 209 = .ok (.baload, 1) := by decide +kernel
theorem dX7_roots_210 : decode cX7_roots 210 = .ok (.iconst 1, 1) := by decide +kernel
theorem dX7_roots_211 : decode cX7_roots 211 = .ok (.isub, 1) := by decide +kernel
theorem dX7_roots_212 : decode cX7_roots 212 = .ok (.i2b, 1) := by decide +kernel
theorem dX7_roots_213 : decode cX7_roots 213 = .ok (.bastore, 1) := by decide +kernel
theorem dX7_roots_214 : decode cX7_roots 214 = .ok (.iinc 6 1, 3) := by decide +kernel
theorem dX7_roots_217 : decode cX7_roots 217 = .ok (.goto (-122), 3) := by decide +kernel
theorem dX7_roots_220 : decode cX7_roots 220 = .ok (.iinc 5 1, 3) := by decide +kernel
theorem dX7_roots_223 : decode cX7_roots 223 = .ok (.goto (-138), 3) := by decide +kernel
theorem dX7_roots_226 : decode cX7_roots 226 = .ok (.iload 4, 2) := by decide +kernel
theorem dX7_roots_228 : decode cX7_roots 228 = .ok (.ireturn, 1) := by decide +kernel
theorem dX7_isBehind_0 : decode cX7_isBehind 0 = .ok (.iload_n 2, 1) := by decide +kernel
theorem dX7_isBehind_1 : decode cX7_isBehind 1 = .ok (.iconst 1, 1) := by decide +kernel
theorem dX7_isBehind_2 : decode cX7_isBehind 2 = .ok (.iadd, 1) := by decide +kernel
theorem dX7_isBehind_3 : decode cX7_isBehind 3 = .ok (.istore 4, 2) := by decide +kernel
theorem dX7_isBehind_5 : decode cX7_isBehind 5 = .ok (.iload 4, 2) := by decide +kernel
theorem dX7_isBehind_7 : decode cX7_isBehind 7 = .ok (.iload_n 3, 1) := by decide +kernel
theorem dX7_isBehind_8 : decode cX7_isBehind 8 = .ok (.if_icmp .ge 68, 3) := by decide +kernel
theorem dX7_isBehind_11 : decode cX7_isBehind 11 = .ok (.iconst 1, 1) := by decide +kernel
theorem dX7_isBehind_12 : decode cX7_isBehind 12 = .ok (.istore 5, 2) := by decide +kernel
theorem dX7_isBehind_14 : decode cX7_isBehind 14 = .ok (.iconst 0, 1) := by decide +kernel
theorem dX7_isBehind_15 : decode cX7_isBehind 15 = .ok (.istore 6, 2) := by decide +kernel
theorem dX7_isBehind_17 : decode cX7_isBehind 17 = .ok (.iload 6, 2) := by decide +kernel
theorem dX7_isBehind_19 : decode cX7_isBehind 19 = .ok (.iload_n 1, 1) := by decide +kernel
theorem dX7_isBehind_20 : decode cX7_isBehind 20 = .ok (.if_icmp .ge 43, 3) := by decide +kernel
theorem dX7_isBehind_23 : decode cX7_isBehind 23 = .ok (.iload 5, 2) := by decide +kernel
theorem dX7_isBehind_25 : decode cX7_isBehind 25 = .ok (.ifCond .eq 38, 3) := by decide +kernel
theorem dX7_isBehind_28 : decode cX7_isBehind 28 = .ok (.aload_n 0, 1) := by decide +kernel
theorem dX7_isBehind_29 : decode cX7_isBehind 29 = .ok (.getfield 74, 3) := by decide +kernel
theorem dX7_isBehind_32 : decode cX7_isBehind 32 = .ok (.iload 4, 2) := by decide +kernel
theorem dX7_isBehind_34 : decode cX7_isBehind 34 = .ok (.aaload, 1) := by decide +kernel
theorem dX7_isBehind_35 : decode cX7_isBehind 35 = .ok (.iload 6, 2) := by decide +kernel
theorem dX7_isBehind_37 : decode cX7_isBehind 37 = .ok (.baload, 1) := by decide +kernel
theorem dX7_isBehind_38 : decode cX7_isBehind 38 = .ok (.aload_n 0, 1) := by decide +kernel
theorem dX7_isBehind_39 : decode cX7_isBehind 39 = .ok (.getfield 74, 3) := by decide +kernel
theorem dX7_isBehind_42 : decode cX7_isBehind 42 = .ok (.iload_n 2, 1) := by decide +kernel
theorem dX7_isBehind_43 : decode cX7_isBehind 43 = .ok (.aaload, 1) := by decide +kernel
theorem dX7_isBehind_44 : decode cX7_isBehind 44 = .ok (.iload 6, 2) := by decide +kernel
theorem dX7_isBehind_46 : decode cX7_isBehind 46 = .ok (.baload, 1) := by decide +kernel
theorem dX7_isBehind_47 : decode cX7_isBehind 47 = .ok (.if_icmp .ne 7, 3) := by decide +kernel
theorem dX7_isBehind_50 : decode cX7_isBehind 50 = .ok (.iconst 1, 1) := by decide +kernel
theorem dX7_isBehind_51 : decode cX7_isBehind 51 = .ok (.goto 4, 3) := by decide +kernel
theorem dX7_isBehind_54 : decode cX7_isBehind 54 = .ok (.iconst 0, 1) := by decide +kernel
theorem dX7_isBehind_55 : decode cX7_isBehind 55 = .ok (.istore 5, 2) := by decide +kernel
theorem dX7_isBehind_57 : decode cX7_isBehind 57 = .ok (.iinc 6 1, 3) := by decide +kernel
theorem dX7_isBehind_60 : decode cX7_isBehind 60 = .ok (.goto (-43), 3) := by decide +kernel
theorem dX7_isBehind_63 : decode cX7_isBehind 63 = .ok (.iload 5, 2) := by decide +kernel
theorem dX7_isBehind_65 : decode cX7_isBehind 65 = .ok (.ifCond .eq 5, 3) := by decide +kernel
theorem dX7_isBehind_68 : decode cX7_isBehind 68 = .ok (.iconst 1, 1) := by decide +kernel
theorem dX7_isBehind_69 : decode cX7_isBehind 69 = .ok (.ireturn, 1) := by decide +kernel
theorem dX7_isBehind_70 : decode cX7_isBehind 70 = .ok (.iinc 4 1, 3) := by decide +kernel
theorem dX7_isBehind_73 : decode cX7_isBehind 73 = .ok (.goto (-68), 3) := by decide +kernel
theorem dX7_isBehind_76 : decode cX7_isBehind 76 = .ok (.iconst 0, 1) := by decide +kernel
theorem dX7_isBehind_77 : decode cX7_isBehind 77 = .ok (.ireturn, 1) := by decide +kernel
theorem dX7_count_0 : decode cX7_count 0 = .ok (.iload_n 1, 1) := by decide +kernel
theorem dX7_count_1 : decode cX7_count 1 = .ok (.ifCond .ne 10, 3) := by decide +kernel
theorem dX7_count_4 : decode cX7_count 4 = .ok (.aload_n 0, 1) := by decide +kernel
theorem dX7_count_5 : decode cX7_count 5 = .ok (.getfield 80, 3) := by decide +kernel
theorem dX7_count_8 : decode cX7_count 8 = .ok (.goto 16, 3) := by decide +kernel
theorem dX7_count_11 : decode cX7_count 11 = .ok (.iload_n 1, 1) := by decide +kernel
theorem dX7_count_12 : decode cX7_count 12 = .ok (.iconst 1, 1) := by decide +kernel
theorem dX7_count_13 : decode cX7_count 13 = .ok (.if_icmp .ne 10, 3) := by decide +kernel
theorem dX7_count_16 : decode cX7_count 16 = .ok (.aload_n 0, 1) := by decide +kernel
theorem dX7_count_17 : decode cX7_count 17 = .ok (.getfield 93, 3) := by decide +kernel
theorem dX7_count_20 : decode cX7_count 20 = .ok (.goto 4, 3) := by decide +kernel
theorem dX7_count_23 : decode cX7_count 23 = .ok (.iconst (-1), 1) := by decide +kernel
theorem dX7_count_24 : decode cX7_count 24 = .ok (.ireturn, 1) := by decide +kernel
