theorem dL_cell_0 : decode cL_cell 0 = .ok (.iload_n 1, 1) := by decide +kernel
theorem dL_cell_1 : decode cL_cell 1 = .ok (.aload_n 0, 1) := by decide +kernel
theorem dL_cell_2 : decode cL_cell 2 = .ok (.arraylength, 1) := by decide +kernel
theorem dL_cell_3 : decode cL_cell 3 = .ok (.if_icmp .ge 9, 3) := by decide +kernel
theorem dL_cell_6 : decode cL_cell 6 = .ok (.aload_n 0, 1) := by decide +kernel
theorem dL_cell_7 : decode cL_cell 7 = .ok (.iload_n 1, 1) := by decide +kernel
theorem dL_cell_8 : decode cL_cell 8 = .ok (.iaload, 1) := by decide +kernel
theorem dL_cell_9 : decode cL_cell 9 = .ok (.goto 11, 3) := by decide +kernel
theorem dL_cell_12 : decode cL_cell 12 = .ok (.ldc 7, 2) := by decide +kernel
theorem dL_cell_14 : decode cL_cell 14 = .ok (.iload_n 1, 1) := by decide +kernel
theorem dL_cell_15 : decode cL_cell 15 = .ok (.imul, 1) := by decide +kernel
theorem dL_cell_16 : decode cL_cell 16 = .ok (.sipush 719, 3) := by decide +kernel
theorem dL_cell_19 : decode cL_cell 19 = .ok (.iadd, 1) := by decide +kernel
theorem dL_cell_20 : decode cL_cell 20 = .ok (.ldc 8, 2) := by decide +kernel
theorem dL_cell_22 : decode cL_cell 22 = .ok (.iand, 1) := by decide +kernel
theorem dL_cell_23 : decode cL_cell 23 = .ok (.ireturn, 1) := by decide +kernel
theorem dL_speed_0 : decode cL_speed 0 = .ok (.iload_n 0, 1) := by decide +kernel
theorem dL_speed_1 : decode cL_speed 1 = .ok (.iconst 2, 1) := by decide +kernel
theorem dL_speed_2 : decode cL_speed 2 = .ok (.if_icmp .ne 8, 3) := by decide +kernel
theorem dL_speed_5 : decode cL_speed 5 = .ok (.bipush 48, 2) := by decide +kernel
theorem dL_speed_7 : decode cL_speed 7 = .ok (.goto 36, 3) := by decide +kernel
theorem dL_speed_10 : decode cL_speed 10 = .ok (.iload_n 0, 1) := by decide +kernel
theorem dL_speed_11 : decode cL_speed 11 = .ok (.iconst 1, 1) := by decide +kernel
theorem dL_speed_12 : decode cL_speed 12 = .ok (.if_icmp .ne 10, 3) := by decide +kernel
theorem dL_speed_15 : decode cL_speed 15 = .ok (.bipush 95, 2) := by decide +kernel
theorem dL_speed_17 : decode cL_speed 17 = .ok (.iload_n 1, 1) := by decide +kernel
theorem dL_speed_18 : decode cL_speed 18 = .ok (.ishl, 1) := by decide +kernel
theorem dL_speed_19 : decode cL_speed 19 = .ok (.goto 24, 3) := by decide +kernel
theorem dL_speed_22 : decode cL_speed 22 = .ok (.iload_n 1, 1) := by decide +kernel
theorem dL_speed_23 : decode cL_speed 23 = .ok (.ifCond .ne 8, 3) := by decide +kernel
theorem dL_speed_26 : decode cL_speed 26 = .ok (.bipush 33, 2) := by decide +kernel
theorem dL_speed_28 : decode cL_speed 28 = .ok (.goto 15, 3) := by decide +kernel
theorem dL_speed_31 : decode cL_speed 31 = .ok (.iload_n 1, 1) := by decide +kernel
theorem dL_speed_32 : decode cL_speed 32 = .ok (.iconst 1, 1) := by decide +kernel
theorem dL_speed_33 : decode cL_speed 33 = .ok (.if_icmp .ne 8, 3) := by decide +kernel
theorem dL_speed_36 : decode cL_speed 36 = .ok (.bipush 45, 2) := by decide +kernel
theorem dL_speed_38 : decode cL_speed 38 = .ok (.goto 5, 3) := by decide +kernel
theorem dL_speed_41 : decode cL_speed 41 = .ok (.bipush 78, 2) := by decide +kernel
theorem dL_speed_43 : decode cL_speed 43 = .ok (.ireturn, 1) := by decide +kernel
theorem dL_layout_0 : decode cL_layout 0 = .ok (.iload_n 0, 1) := by decide +kernel
theorem dL_layout_1 : decode cL_layout 1 = .ok (.iconst 1, 1) := by decide +kernel
theorem dL_layout_2 : decode cL_layout 2 = .ok (.if_icmp .ne 9, 3) := by decide +kernel
theorem dL_layout_5 : decode cL_layout 5 = .ok (.iload_n 1, 1) := by decide +kernel
theorem dL_layout_6 : decode cL_layout 6 = .ok (.iconst 3, 1) := by decide +kernel
theorem dL_layout_7 : decode cL_layout 7 = .ok (.irem, 1) := by decide +kernel
theorem dL_layout_8 : decode cL_layout 8 = .ok (.goto 10, 3) := by decide +kernel
theorem dL_layout_11 : decode cL_layout 11 = .ok (.iload_n 1, 1) := by decide +kernel
theorem dL_layout_12 : decode cL_layout 12 = .ok (.iconst 2, 1) := by decide +kernel
theorem dL_layout_13 : decode cL_layout 13 = .ok (.irem, 1) := by decide +kernel
theorem dL_layout_14 : decode cL_layout 14 = .ok (.iconst 2, 1) := by decide +kernel
theorem dL_layout_15 : decode cL_layout 15 = .ok (.imul, 1) := by decide +kernel
theorem dL_layout_16 : decode cL_layout 16 = .ok (.iconst 1, 1) := by decide +kernel
theorem dL_layout_17 : decode cL_layout 17 = .ok (.iadd, 1) := by decide +kernel
theorem dL_layout_18 : decode cL_layout 18 = .ok (.ireturn, 1) := by decide +kernel
theorem dL_requests_0 : decode cL_requests 0 = .ok (.aload_n 0, 1) := by decide +kernel
theorem dL_requests_1 : decode cL_requests 1 = .ok (.bipush 6, 2) := by decide +kernel
theorem dL_requests_3 : decode cL_requests 3 = .ok (.invokevirtual 9, 3) := by decide +kernel
theorem dL_requests_6 : decode cL_requests 6 = .ok (.istore_n 1, 1) := by decide +kernel
theorem dL_requests_7 : decode cL_requests 7 = .ok (.aload_n 0, 1) := by decide +kernel
theorem dL_requests_8 : decode cL_requests 8 = .ok (.bipush 7, 2) := by decide +kernel
theorem dL_requests_10 : decode cL_requests 10 = .ok (.invokevirtual 9, 3) := by decide +kernel
theorem dL_requests_13 : decode cL_requests 13 = .ok (.istore_n 2, 1) := by decide +kernel
theorem dL_requests_14 : decode cL_requests 14 = .ok (.iload_n 2, 1) := by decide +kernel
theorem dL_requests_15 : decode cL_requests 15 = .ok (.aload_n 0, 1) := by decide +kernel
theorem dL_requests_16 : decode cL_requests 16 = .ok (.bipush 8, 2) := by decide +kernel
theorem dL_requests_18 : decode cL_requests 18 = .ok (.invokevirtual 9, 3) := by decide +kernel
theorem dL_requests_21 : decode cL_requests 21 = .ok (.iadd, 1) := by decide +kernel
theorem dL_requests_22 : decode cL_requests 22 = .ok (.aload_n 0, 1) := by decide +kernel
theorem dL_requests_23 : decode cL_requests 23 = .ok (.bipush 9, 2) := by decide +kernel
theorem dL_requests_25 : decode cL_requests 25 = .ok (.invokevirtual 9, 3) := by decide +kernel
theorem dL_requests_28 : decode cL_requests 28 = .ok (.iadd, 1) := by decide +kernel
theorem dL_requests_29 : decode cL_requests 29 = .ok (.aload_n 0, 1) := by decide +kernel
theorem dL_requests_30 : decode cL_requests 30 = .ok (.bipush 10, 2) := by decide +kernel
theorem dL_requests_32 : decode cL_requests 32 = .ok (.invokevirtual 9, 3) := by decide +kernel
theorem dL_requests_35 : decode cL_requests 35 = .ok (.iadd, 1) := by decide +kernel
theorem dL_requests_36 : decode cL_requests 36 = .ok (.iload_n 1, 1) := by decide +kernel
theorem dL_requests_37 : decode cL_requests 37 = .ok (.if_icmp .ne 27, 3) := by decide +kernel
theorem dL_requests_40 : decode cL_requests 40 = .ok (.aload_n 0, 1) := by decide +kernel
theorem dL_requests_41 : decode cL_requests 41 = .ok (.iload_n 2, 1) := by decide +kernel
theorem dL_requests_42 : decode cL_requests 42 = .ok (.invokevirtual 15, 3) := by decide +kernel
theorem dL_requests_45 : decode cL_requests 45 = .ok (.bipush (-6), 2) := by decide +kernel
theorem dL_requests_47 : decode cL_requests 47 = .ok (.if_icmp .ne 17, 3) := by decide +kernel
theorem dL_requests_50 : decode cL_requests 50 = .ok (.aload_n 0, 1) := by decide +kernel
theorem dL_requests_51 : decode cL_requests 51 = .ok (.iconst (-1), 1) := by decide +kernel
theorem dL_requests_52 : decode cL_requests 52 = .ok (.invokevirtual 15, 3) := by decide +kernel
theorem dL_requests_55 : decode cL_requests 55 = .ok (.bipush (-2), 2) := by decide +kernel
theorem dL_requests_57 : decode cL_requests 57 = .ok (.if_icmp .ne 7, 3) := by decide +kernel
theorem dL_requests_60 : decode cL_requests 60 = .ok (.iconst 1, 1) := by decide +kernel
theorem dL_requests_61 : decode cL_requests 61 = .ok (.goto 4, 3) := by decide +kernel
theorem dL_requests_64 : decode cL_requests 64 = .ok (.iconst 0, 1) := by decide +kernel
theorem dL_requests_65 : decode cL_requests 65 = .ok (.istore_n 3, 1) := by decide +kernel
theorem dL_requests_66 : decode cL_requests 66 = .ok (.iconst 0, 1) := by decide +kernel
theorem dL_requests_67 : decode cL_requests 67 = .ok (.istore 4, 2) := by decide +kernel
theorem dL_requests_69 : decode cL_requests 69 = .ok (.iload 4, 2) := by decide +kernel
theorem dL_requests_71 : decode cL_requests 71 = .ok (.iload_n 2, 1) := by decide +kernel
theorem dL_requests_72 : decode cL_requests 72 = .ok (.if_icmp .ge 175, 3) := by decide +kernel
theorem dL_requests_75 : decode cL_requests 75 = .ok (.iload_n 3, 1) := by decide +kernel
theorem dL_requests_76 : decode cL_requests 76 = .ok (.ifCond .eq 171, 3) := by decide +kernel
theorem dL_requests_79 : decode cL_requests 79 = .ok (.aload_n 0, 1) := by decide +kernel
theorem dL_requests_80 : decode cL_requests 80 = .ok (.iload 4, 2) := by decide +kernel
theorem dL_requests_82 : decode cL_requests 82 = .ok (.invokevirtual 15, 3) := by decide +kernel
theorem dL_requests_85 : decode cL_requests 85 = .ok (.istore 5, 2) := by decide +kernel
theorem dL_requests_87 : decode cL_requests 87 = .ok (.iload 4, 2) := by decide +kernel
theorem dL_requests_89 : decode cL_requests 89 = .ok (.ifCond .le 14, 3) := by decide +kernel
theorem dL_requests_92 : decode cL_requests 92 = .ok (.aload_n 0, 1) := by decide +kernel
theorem dL_requests_93 : decode cL_requests 93 = .ok (.iload 4, 2) := by decide +kernel
theorem dL_requests_95 : decode cL_requests 95 = .ok (.iconst 1, 1) := by decide +kernel
theorem dL_requests_96 : decode cL_requests 96 = .ok (.isub, 1) := by decide +kernel
theorem dL_requests_97 : decode cL_requests 97 = .ok (.invokevirtual 15, 3) := by decide +kernel
theorem dL_requests_100 : decode cL_requests 100 = .ok (.goto 5, 3) := by decide +kernel
theorem dL_requests_103 : decode cL_requests 103 = .ok (.iload 5, 2) := by decide +kernel
theorem dL_requests_105 : decode cL_requests 105 = .ok (.istore 6, 2) := by decide +kernel
theorem dL_requests_107 : decode cL_requests 107 = .ok (.aload_n 0, 1) := by decide +kernel
theorem dL_requests_108 : decode cL_requests 108 = .ok (.iload 5, 2) := by decide +kernel
theorem dL_requests_110 : decode cL_requests 110 = .ok (.bipush 7, 2) := by decide +kernel
theorem dL_requests_112 : decode cL_requests 112 = .ok (.invokevirtual 18, 3) := by decide +kernel
theorem dL_requests_115 : decode cL_requests 115 = .ok (.aload_n 0, 1) := by decide +kernel
theorem dL_requests_116 : decode cL_requests 116 = .ok (.iload 6, 2) := by decide +kernel
theorem dL_requests_118 : decode cL_requests 118 = .ok (.bipush 7, 2) := by decide +kernel
theorem dL_requests_120 : decode cL_requests 120 = .ok (.invokevirtual 18, 3) := by decide +kernel
theorem dL_requests_123 : decode cL_requests 123 = .ok (.isub, 1) := by decide +kernel
theorem dL_requests_124 : decode cL_requests 124 = .ok (.istore 7, 2) := by decide +kernel
theorem dL_requests_126 : decode cL_requests 126 = .ok (.aload_n 0, 1) := by decide +kernel
theorem dL_requests_127 : decode cL_requests 127 = .ok (.iload 6, 2) := by decide +kernel
theorem dL_requests_129 : decode cL_requests 129 = .ok (.iconst 5, 1) := by decide +kernel
theorem dL_requests_130 : decode cL_requests 130 = .ok (.invokevirtual 18, 3) := by decide +kernel
theorem dL_requests_133 : decode cL_requests 133 = .ok (.aload_n 0, 1) := by decide +kernel
theorem dL_requests_134 : decode cL_requests 134 = .ok (.iload 5, 2) := by decide +kernel
theorem dL_requests_136 : decode cL_requests 136 = .ok (.iconst 5, 1) := by decide +kernel
theorem dL_requests_137 : decode cL_requests 137 = .ok (.invokevirtual 18, 3) := by decide +kernel
theorem dL_requests_140 : decode cL_requests 140 = .ok (.isub, 1) := by decide +kernel
theorem dL_requests_141 : decode cL_requests 141 = .ok (.istore 8, 2) := by decide +kernel
theorem dL_requests_143 : decode cL_requests 143 = .ok (.aload_n 0, 1) := by decide +kernel
theorem dL_requests_144 : decode cL_requests 144 = .ok (.iload 6, 2) := by decide +kernel
theorem dL_requests_146 : decode cL_requests 146 = .ok (.bipush 6, 2) := by decide +kernel
theorem dL_requests_148 : decode cL_requests 148 = .ok (.invokevirtual 18, 3) := by decide +kernel
theorem dL_requests_151 : decode cL_requests 151 = .ok (.aload_n 0, 1) := by decide +kernel
theorem dL_requests_152 : decode cL_requests 152 = .ok (.iload 5, 2) := by decide +kernel
theorem dL_requests_154 : decode cL_requests 154 = .ok (.bipush 6, 2) := by decide +kernel
theorem dL_requests_156 : decode cL_requests 156 = .ok (.invokevirtual 18, 3) := by decide +kernel
theorem dL_requests_159 : decode cL_requests 159 = .ok (.isub, 1) := by decide +kernel
theorem dL_requests_160 : decode cL_requests 160 = .ok (.istore 9, 2) := by decide +kernel
theorem dL_requests_162 : decode cL_requests 162 = .ok (.aload_n 0, 1) := by decide +kernel
theorem dL_requests_163 : decode cL_requests 163 = .ok (.iload 5, 2) := by decide +kernel
theorem dL_requests_165 : decode cL_requests 165 = .ok (.iconst 0, 1) := by decide +kernel
theorem dL_requests_166 : decode cL_requests 166 = .ok (.invokevirtual 18, 3) := by decide +kernel
theorem dL_requests_169 : decode cL_requests 169 = .ok (.ifCond .ne 28, 3) := by decide +kernel
theorem dL_requests_172 : decode cL_requests 172 = .ok (.aload_n 0, 1) := by decide +kernel
theorem dL_requests_173 : decode cL_requests 173 = .ok (.iload 5, 2) := by decide +kernel
theorem dL_requests_175 : decode cL_requests 175 = .ok (.bipush 7, 2) := by decide +kernel
theorem dL_requests_177 : decode cL_requests 177 = .ok (.invokevirtual 18, 3) := by decide +kernel
theorem dL_requests_180 : decode cL_requests 180 = .ok (.aload_n 0, 1) := by decide +kernel
theorem dL_requests_181 : decode cL_requests 181 = .ok (.iconst 0, 1) := by decide +kernel
theorem dL_requests_182 : decode cL_requests 182 = .ok (.invokevirtual 9, 3) := by decide +kernel
theorem dL_requests_185 : decode cL_requests 185 = .ok (.if_icmp .lt 12, 3) := by decide +kernel
theorem dL_requests_188 : decode cL_requests 188 = .ok (.iload 7, 2) := by decide +kernel
theorem dL_requests_190 : decode cL_requests 190 = .ok (.ifCond .lt 7, 3) := by decide +kernel
theorem dL_requests_193 : decode cL_requests 193 = .ok (.iconst 1, 1) := by decide +kernel
theorem dL_requests_194 : decode cL_requests 194 = .ok (.goto 4, 3) := by decide +kernel
theorem dL_requests_197 : decode cL_requests 197 = .ok (.iconst 0, 1) := by decide +kernel
theorem dL_requests_198 : decode cL_requests 198 = .ok (.istore_n 3, 1) := by decide +kernel
theorem dL_requests_199 : decode cL_requests 199 = .ok (.iload_n 3, 1) := by decide +kernel
theorem dL_requests_200 : decode cL_requests 200 = .ok (.ifCond .eq 39, 3) := by decide +kernel
theorem dL_requests_203 : decode cL_requests 203 = .ok (.iload 7, 2) := by decide +kernel
theorem dL_requests_205 : decode cL_requests 205 = .ok (.ifCond .gt 30, 3) := by decide +kernel
theorem dL_requests_208 : decode cL_requests 208 = .ok (.iload 8, 2) := by decide +kernel
theorem dL_requests_210 : decode cL_requests 210 = .ok (.ifCond .gt 25, 3) := by decide +kernel
theorem dL_requests_213 : decode cL_requests 213 = .ok (.iload 8, 2) := by decide +kernel
theorem dL_requests_215 : decode cL_requests 215 = .ok (.ifCond .ne 24, 3) := by decide +kernel
theorem dL_requests_218 : decode cL_requests 218 = .ok (.iload 9, 2) := by decide +kernel
theorem dL_requests_220 : decode cL_requests 220 = .ok (.ifCond .gt 15, 3) := by decide +kernel
theorem dL_requests_223 : decode cL_requests 223 = .ok (.iload 9, 2) := by decide +kernel
theorem dL_requests_225 : decode cL_requests 225 = .ok (.ifCond .ne 14, 3) := by decide +kernel
theorem dL_requests_228 : decode cL_requests 228 = .ok (.iload 5, 2) := by decide +kernel
theorem dL_requests_230 : decode cL_requests 230 = .ok (.iload 6, 2) := by decide +kernel
theorem dL_requests_232 : decode cL_requests 232 = .ok (.if_icmp .lt 7, 3) := by decide +kernel
theorem dL_requests_235 : decode cL_requests 235 = .ok (.iconst 1, 1) := by decide +kernel
theorem dL_requests_236 : decode cL_requests 236 = .ok (.goto 4, 3) := by decide +kernel
theorem dL_requests_239 : decode cL_requests 239 = .ok (.iconst 0, 1) := by decide +kernel
theorem dL_requests_240 : decode cL_requests 240 = .ok (.istore_n 3, 1) := by decide +kernel
theorem dL_requests_241 : decode cL_requests 241 = .ok (.iinc 4 1, 3) := by decide +kernel
theorem dL_requests_244 : decode cL_requests 244 = .ok (.goto (-175), 3) := by decide +kernel
theorem dL_requests_247 : decode cL_requests 247 = .ok (.iconst 0, 1) := by decide +kernel
theorem dL_requests_248 : decode cL_requests 248 = .ok (.istore 4, 2) := by decide +kernel
theorem dL_requests_250 : decode cL_requests 250 = .ok (.iconst 0, 1) := by decide +kernel
theorem dL_requests_251 : decode cL_requests 251 = .ok (.istore 5, 2) := by decide +kernel
theorem dL_requests_253 : decode cL_requests 253 = .ok (.iconst 0, 1) := by decide +kernel
theorem dL_requests_254 : decode cL_requests 254 = .ok (.istore 6, 2) := by decide +kernel
theorem dL_requests_256 : decode cL_requests 256 = .ok (.iconst 0, 1) := by decide +kernel
theorem dL_requests_257 : decode cL_requests 257 = .ok (.istore 7, 2) := by decide +kernel
theorem dL_requests_259 : decode cL_requests 259 = .ok (.iload 7, 2) := by decide +kernel
theorem dL_requests_261 : decode cL_requests 261 = .ok (.bipush 8, 2) := by decide +kernel
theorem dL_requests_263 : decode cL_requests 263 = .ok (.if_icmp .ge 31, 3) := by decide +kernel
theorem dL_requests_266 : decode cL_requests 266 = .ok (.iload 4, 2) := by decide +kernel
theorem dL_requests_268 : decode cL_requests 268 = .ok (.aload_n 0, 1) := by decide +kernel
theorem dL_requests_269 : decode cL_requests 269 = .ok (.iload 7, 2) := by decide +kernel
theorem dL_requests_271 : decode cL_requests 271 = .ok (.invokevirtual 22, 3) := by decide +kernel
theorem dL_requests_274 : decode cL_requests 274 = .ok (.iadd, 1) := by decide +kernel
theorem dL_requests_275 : decode cL_requests 275 = .ok (.istore 4, 2) := by decide +kernel
theorem dL_requests_277 : decode cL_requests 277 = .ok (.iload 5, 2) := by decide +kernel
theorem dL_requests_279 : decode cL_requests 279 = .ok (.aload_n 0, 1) := by decide +kernel
theorem dL_requests_280 : decode cL_requests 280 = .ok (.iload 7, 2) := by decide +kernel
theorem dL_requests_282 : decode cL_requests 282 = .ok (.invokevirtual 25, 3) := by decide +kernel
theorem dL_requests_285 : decode cL_requests 285 = .ok (.iadd, 1) := by decide +kernel
theorem dL_requests_286 : decode cL_requests 286 = .ok (.istore 5, 2) := by decide +kernel
theorem dL_requests_288 : decode cL_requests 288 = .ok (.iinc 7 1, 3) := by decide +kernel
theorem dL_requests_291 : decode cL_requests 291 = .ok (.goto (-32), 3) := by decide +kernel
theorem dL_requests_294 : decode cL_requests 294 = .ok (.iconst 0, 1) := by decide +kernel
theorem dL_requests_295 : decode cL_requests 295 = .ok (.istore 7, 2) := by decide +kernel
theorem dL_requests_297 : decode cL_requests 297 = .ok (.iload 7, 2) := by decide +kernel
theorem dL_requests_299 : decode cL_requests 299 = .ok (.iload_n 1, 1) := by decide +kernel
theorem dL_requests_300 : decode cL_requests 300 = .ok (.if_icmp .ge 112, 3) := by decide +kernel
theorem dL_requests_303 : decode cL_requests 303 = .ok (.aload_n 0, 1) := by decide +kernel
theorem dL_requests_304 : decode cL_requests 304 = .ok (.iload 7, 2) := by decide +kernel
theorem dL_requests_306 : decode cL_requests 306 = .ok (.iconst 0, 1) := by decide +kernel
theorem dL_requests_307 : decode cL_requests 307 = .ok (.invokevirtual 18, 3) := by decide +kernel
theorem dL_requests_310 : decode cL_requests 310 = .ok (.iconst 1, 1) := by decide +kernel
theorem dL_requests_311 : decode cL_requests 311 = .ok (.if_icmp .ne 7, 3) := by decide +kernel
theorem dL_requests_314 : decode cL_requests 314 = .ok (.iconst 1, 1) := by decide +kernel
theorem dL_requests_315 : decode cL_requests 315 = .ok (.goto 4, 3) := by decide +kernel
theorem dL_requests_318 : decode cL_requests 318 = .ok (.iconst 0, 1) := by decide +kernel
theorem dL_requests_319 : decode cL_requests 319 = .ok (.istore 8, 2) := by decide +kernel
theorem dL_requests_321 : decode cL_requests 321 = .ok (.iload 6, 2) := by decide +kernel
theorem dL_requests_323 : decode cL_requests 323 = .ok (.aload_n 0, 1) := by decide +kernel
theorem dL_requests_324 : decode cL_requests 324 = .ok (.iload 7, 2) := by decide +kernel
theorem dL_requests_326 : decode cL_requests 326 = .ok (.bipush 9, 2) := by decide +kernel
theorem dL_requests_328 : decode cL_requests 328 = .ok (.invokevirtual 18, 3) := by decide +kernel
theorem dL_requests_331 : decode cL_requests 331 = .ok (.iadd, 1) := by decide +kernel
theorem dL_requests_332 : decode cL_requests 332 = .ok (.istore 6, 2) := by decide +kernel
theorem dL_requests_334 : decode cL_requests 334 = .ok (.iload_n 3, 1) := by decide +kernel
theorem dL_requests_335 : decode cL_requests 335 = .ok (.ifCond .eq 69, 3) := by decide +kernel
theorem dL_requests_338 : decode cL_requests 338 = .ok (.iload 8, 2) := by decide +kernel
theorem dL_requests_340 : decode cL_requests 340 = .ok (.ifCond .eq 36, 3) := by decide +kernel
theorem dL_requests_343 : decode cL_requests 343 = .ok (.aload_n 0, 1) := by decide +kernel
theorem dL_requests_344 : decode cL_requests 344 = .ok (.aload_n 0, 1) := by decide +kernel
theorem dL_requests_345 : decode cL_requests 345 = .ok (.iload 7, 2) := by decide +kernel
theorem dL_requests_347 : decode cL_requests 347 = .ok (.bipush 8, 2) := by decide +kernel
theorem dL_requests_349 : decode cL_requests 349 = .ok (.invokevirtual 18, 3) := by decide +kernel
theorem dL_requests_352 : decode cL_requests 352 = .ok (.aload_n 0, 1) := by decide +kernel
theorem dL_requests_353 : decode cL_requests 353 = .ok (.iload 7, 2) := by decide +kernel
theorem dL_requests_355 : decode cL_requests 355 = .ok (.iconst 2, 1) := by decide +kernel
theorem dL_requests_356 : decode cL_requests 356 = .ok (.invokevirtual 18, 3) := by decide +kernel
theorem dL_requests_359 : decode cL_requests 359 = .ok (.invokevirtual 28, 3) := by decide +kernel
theorem dL_requests_362 : decode cL_requests 362 = .ok (.aload_n 0, 1) := by decide +kernel
theorem dL_requests_363 : decode cL_requests 363 = .ok (.iload 7, 2) := by decide +kernel
theorem dL_requests_365 : decode cL_requests 365 = .ok (.bipush 6, 2) := by decide +kernel
theorem dL_requests_367 : decode cL_requests 367 = .ok (.invokevirtual 18, 3) := by decide +kernel
theorem dL_requests_370 : decode cL_requests 370 = .ok (.if_icmp .lt 34, 3) := by decide +kernel
theorem dL_requests_373 : decode cL_requests 373 = .ok (.goto 27, 3) := by decide +kernel
theorem dL_requests_376 : decode cL_requests 376 = .ok (.aload_n 0, 1) := by decide +kernel
theorem dL_requests_377 : decode cL_requests 377 = .ok (.iload 7, 2) := by decide +kernel
theorem dL_requests_379 : decode cL_requests 379 = .ok (.bipush 8, 2) := by decide +kernel
theorem dL_requests_381 : decode cL_requests 381 = .ok (.invokevirtual 18, 3) := by decide +kernel
theorem dL_requests_384 : decode cL_requests 384 = .ok (.bipush (-6), 2) := by decide +kernel
theorem dL_requests_386 : decode cL_requests 386 = .ok (.if_icmp .ne 18, 3) := by decide +kernel
theorem dL_requests_389 : decode cL_requests 389 = .ok (.aload_n 0, 1) := by decide +kernel
theorem dL_requests_390 : decode cL_requests 390 = .ok (.iload 7, 2) := by decide +kernel
theorem dL_requests_392 : decode cL_requests 392 = .ok (.bipush 9, 2) := by decide +kernel
theorem dL_requests_394 : decode cL_requests 394 = .ok (.invokevirtual 18, 3) := by decide +kernel
theorem dL_requests_397 : decode cL_requests 397 = .ok (.ifCond .ne 7, 3) := by decide +kernel
theorem dL_requests_400 : decode cL_requests 400 = .ok (.iconst 1, 1) := by decide +kernel
theorem dL_requests_401 : decode cL_requests 401 = .ok (.goto 4, 3) := by decide +kernel
theorem dL_requests_404 : decode cL_requests 404 = .ok (.iconst 0, 1) := by decide +kernel
theorem dL_requests_405 : decode cL_requests 405 = .ok (.istore_n 3, 1) := by decide +kernel
theorem dL_requests_406 : decode cL_requests 406 = .ok (.iinc 7 1, 3) := by decide +kernel
theorem dL_requests_409 : decode cL_requests 409 = .ok (.goto (-112), 3) := by decide +kernel
theorem dL_requests_412 : decode cL_requests 412 = .ok (.iload_n 3, 1) := by decide +kernel
theorem dL_requests_413 : decode cL_requests 413 = .ok (.ifCond .eq 21, 3) := by decide +kernel
theorem dL_requests_416 : decode cL_requests 416 = .ok (.iload 4, 2) := by decide +kernel
theorem dL_requests_418 : decode cL_requests 418 = .ok (.iload 5, 2) := by decide +kernel
theorem dL_requests_420 : decode cL_requests 420 = .ok (.if_icmp .ne 14, 3) := by decide +kernel
theorem dL_requests_423 : decode cL_requests 423 = .ok (.iload 5, 2) := by decide +kernel
theorem dL_requests_425 : decode cL_requests 425 = .ok (.iload 6, 2) := by decide +kernel
theorem dL_requests_427 : decode cL_requests 427 = .ok (.if_icmp .ne 7, 3) := by decide +kernel
theorem dL_requests_430 : decode cL_requests 430 = .ok (.iconst 1, 1) := by decide +kernel
theorem dL_requests_431 : decode cL_requests 431 = .ok (.goto 4, 3) := by decide +kernel
theorem dL_requests_434 : decode cL_requests 434 = .ok (.iconst 0, 1) := by decide +kernel
theorem dL_requests_435 : decode cL_requests 435 = .ok (.ireturn, 1) := by decide +kernel
theorem dL_passes_0 : decode cL_passes 0 = .ok (.aload_n 0, 1) := by decide +kernel
theorem dL_passes_1 : decode cL_passes 1 = .ok (.iconst 4, 1) := by decide +kernel
theorem dL_passes_2 : decode cL_passes 2 = .ok (.invokevirtual 9, 3) := by decide +kernel
theorem dL_passes_5 : decode cL_passes 5 = .ok (.istore_n 1, 1) := by decide +kernel
theorem dL_passes_6 : decode cL_passes 6 = .ok (.iconst 0, 1) := by decide +kernel
theorem dL_passes_7 : decode cL_passes 7 = .ok (.istore_n 2, 1) := by decide +kernel
theorem dL_passes_8 : decode cL_passes 8 = .ok (.iconst 0, 1) := by decide +kernel
theorem dL_passes_9 : decode cL_passes 9 = .ok (.istore_n 3, 1) := by decide +kernel
theorem dL_passes_10 : decode cL_passes 10 = .ok (.iconst 1, 1) := by decide +kernel
theorem dL_passes_11 : decode cL_passes 11 = .ok (.istore 4, 2) := by decide +kernel
theorem dL_passes_13 : decode cL_passes 13 = .ok (.iconst 0, 1) := by decide +kernel
theorem dL_passes_14 : decode cL_passes 14 = .ok (.istore 5, 2) := by decide +kernel
theorem dL_passes_16 : decode cL_passes 16 = .ok (.iload 5, 2) := by decide +kernel
theorem dL_passes_18 : decode cL_passes 18 = .ok (.aload_n 0, 1) := by decide +kernel
theorem dL_passes_19 : decode cL_passes 19 = .ok (.iconst 1, 1) := by decide +kernel
theorem dL_passes_20 : decode cL_passes 20 = .ok (.invokevirtual 9, 3) := by decide +kernel
theorem dL_passes_23 : decode cL_passes 23 = .ok (.if_icmp .ge 41, 3) := by decide +kernel
theorem dL_passes_26 : decode cL_passes 26 = .ok (.iload_n 2, 1) := by decide +kernel
theorem dL_passes_27 : decode cL_passes 27 = .ok (.aload_n 0, 1) := by decide +kernel
theorem dL_passes_28 : decode cL_passes 28 = .ok (.iload 5, 2) := by decide +kernel
theorem dL_passes_30 : decode cL_passes 30 = .ok (.iconst 5, 1) := by decide +kernel
theorem dL_passes_31 : decode cL_passes 31 = .ok (.invokevirtual 31, 3) := by decide +kernel
theorem dL_passes_34 : decode cL_passes 34 = .ok (.iadd, 1) := by decide +kernel
theorem dL_passes_35 : decode cL_passes 35 = .ok (.istore_n 2, 1) := by decide +kernel
theorem dL_passes_36 : decode cL_passes 36 = .ok (.iload 4, 2) := by decide +kernel
theorem dL_passes_38 : decode cL_passes 38 = .ok (.ifCond .eq 17, 3) := by decide +kernel
theorem dL_passes_41 : decode cL_passes 41 = .ok (.aload_n 0, 1) := by decide +kernel
theorem dL_passes_42 : decode cL_passes 42 = .ok (.iload 5, 2) := by decide +kernel
theorem dL_passes_44 : decode cL_passes 44 = .ok (.iconst 4, 1) := by decide +kernel
theorem dL_passes_45 : decode cL_passes 45 = .ok (.invokevirtual 31, 3) := by decide +kernel
theorem dL_passes_48 : decode cL_passes 48 = .ok (.ifCond .lt 7, 3) := by decide +kernel
theorem dL_passes_51 : decode cL_passes 51 = .ok (.iconst 1, 1) := by decide +kernel
theorem dL_passes_52 : decode cL_passes 52 = .ok (.goto 4, 3) := by decide +kernel
theorem dL_passes_55 : decode cL_passes 55 = .ok (.iconst 0, 1) := by decide +kernel
theorem dL_passes_56 : decode cL_passes 56 = .ok (.istore 4, 2) := by decide +kernel
theorem dL_passes_58 : decode cL_passes 58 = .ok (.iinc 5 1, 3) := by decide +kernel
theorem dL_passes_61 : decode cL_passes 61 = .ok (.goto (-45), 3) := by decide +kernel
theorem dL_passes_64 : decode cL_passes 64 = .ok (.iconst 0, 1) := by decide +kernel
theorem dL_passes_65 : decode cL_passes 65 = .ok (.istore 5, 2) := by decide +kernel
theorem dL_passes_67 : decode cL_passes 67 = .ok (.iload 5, 2) := by decide +kernel
theorem dL_passes_69 : decode cL_passes 69 = .ok (.aload_n 0, 1) := by decide +kernel
theorem dL_passes_70 : decode cL_passes 70 = .ok (.iconst 2, 1) := by decide +kernel
theorem dL_passes_71 : decode cL_passes 71 = .ok (.invokevirtual 9, 3) := by decide +kernel
theorem dL_passes_74 : decode cL_passes 74 = .ok (.if_icmp .ge 122, 3) := by decide +kernel
theorem dL_passes_77 : decode cL_passes 77 = .ok (.sipush 28800, 3) := by decide +kernel
theorem dL_passes_80 : decode cL_passes 80 = .ok (.istore 6, 2) := by decide +kernel
theorem dL_passes_82 : decode cL_passes 82 = .ok (.iload_n 3, 1) := by decide +kernel
theorem dL_passes_83 : decode cL_passes 83 = .ok (.aload_n 0, 1) := by decide +kernel
theorem dL_passes_84 : decode cL_passes 84 = .ok (.iload 5, 2) := by decide +kernel
theorem dL_passes_86 : decode cL_passes 86 = .ok (.iconst 5, 1) := by decide +kernel
theorem dL_passes_87 : decode cL_passes 87 = .ok (.invokevirtual 34, 3) := by decide +kernel
theorem dL_passes_90 : decode cL_passes 90 = .ok (.iadd, 1) := by decide +kernel
theorem dL_passes_91 : decode cL_passes 91 = .ok (.istore_n 3, 1) := by decide +kernel
theorem dL_passes_92 : decode cL_passes 92 = .ok (.iconst 0, 1) := by decide +kernel
theorem dL_passes_93 : decode cL_passes 93 = .ok (.istore 7, 2) := by decide +kernel
theorem dL_passes_95 : decode cL_passes 95 = .ok (.iload 7, 2) := by decide +kernel
theorem dL_passes_97 : decode cL_passes 97 = .ok (.iload_n 1, 1) := by decide +kernel
theorem dL_passes_98 : decode cL_passes 98 = .ok (.if_icmp .ge 63, 3) := by decide +kernel
theorem dL_passes_101 : decode cL_passes 101 = .ok (.iload 6, 2) := by decide +kernel
theorem dL_passes_103 : decode cL_passes 103 = .ok (.aload_n 0, 1) := by decide +kernel
theorem dL_passes_104 : decode cL_passes 104 = .ok (.iload 7, 2) := by decide +kernel
theorem dL_passes_106 : decode cL_passes 106 = .ok (.iconst 1, 1) := by decide +kernel
theorem dL_passes_107 : decode cL_passes 107 = .ok (.invokevirtual 37, 3) := by decide +kernel
theorem dL_passes_110 : decode cL_passes 110 = .ok (.iload 5, 2) := by decide +kernel
theorem dL_passes_112 : decode cL_passes 112 = .ok (.if_icmp .ne 39, 3) := by decide +kernel
theorem dL_passes_115 : decode cL_passes 115 = .ok (.aload_n 0, 1) := by decide +kernel
theorem dL_passes_116 : decode cL_passes 116 = .ok (.iload 7, 2) := by decide +kernel
theorem dL_passes_118 : decode cL_passes 118 = .ok (.iconst 4, 1) := by decide +kernel
theorem dL_passes_119 : decode cL_passes 119 = .ok (.invokevirtual 37, 3) := by decide +kernel
theorem dL_passes_122 : decode cL_passes 122 = .ok (.aload_n 0, 1) := by decide +kernel
theorem dL_passes_123 : decode cL_passes 123 = .ok (.iconst 0, 1) := by decide +kernel
theorem dL_passes_124 : decode cL_passes 124 = .ok (.invokevirtual 9, 3) := by decide +kernel
theorem dL_passes_127 : decode cL_passes 127 = .ok (.if_icmp .ne 24, 3) := by decide +kernel
theorem dL_passes_130 : decode cL_passes 130 = .ok (.aload_n 0, 1) := by decide +kernel
theorem dL_passes_131 : decode cL_passes 131 = .ok (.aload_n 0, 1) := by decide +kernel
theorem dL_passes_132 : decode cL_passes 132 = .ok (.iload 7, 2) := by decide +kernel
theorem dL_passes_134 : decode cL_passes 134 = .ok (.iconst 0, 1) := by decide +kernel
theorem dL_passes_135 : decode cL_passes 135 = .ok (.invokevirtual 37, 3) := by decide +kernel
theorem dL_passes_138 : decode cL_passes 138 = .ok (.aload_n 0, 1) := by decide +kernel
theorem dL_passes_139 : decode cL_passes 139 = .ok (.iload 7, 2) := by decide +kernel
theorem dL_passes_141 : decode cL_passes 141 = .ok (.iconst 2, 1) := by decide +kernel
theorem dL_passes_142 : decode cL_passes 142 = .ok (.invokevirtual 37, 3) := by decide +kernel
theorem dL_passes_145 : decode cL_passes 145 = .ok (.invokevirtual 40, 3) := by decide +kernel
theorem dL_passes_148 : decode cL_passes 148 = .ok (.goto 4, 3) := by decide +kernel
theorem dL_passes_151 : decode cL_passes 151 = .ok (.iconst 0, 1) := by decide +kernel
theorem dL_passes_152 : decode cL_passes 152 = .ok (.isub, 1) := by decide +kernel
theorem dL_passes_153 : decode cL_passes 153 = .ok (.istore 6, 2) := by decide +kernel
theorem dL_passes_155 : decode cL_passes 155 = .ok (.iinc 7 1, 3) := by decide +kernel
theorem dL_passes_158 : decode cL_passes 158 = .ok (.goto (-63), 3) := by decide +kernel
theorem dL_passes_161 : decode cL_passes 161 = .ok (.iload 4, 2) := by decide +kernel
theorem dL_passes_163 : decode cL_passes 163 = .ok (.ifCond .eq 24, 3) := by decide +kernel
theorem dL_passes_166 : decode cL_passes 166 = .ok (.aload_n 0, 1) := by decide +kernel
theorem dL_passes_167 : decode cL_passes 167 = .ok (.iload 5, 2) := by decide +kernel
theorem dL_passes_169 : decode cL_passes 169 = .ok (.iconst 4, 1) := by decide +kernel
theorem dL_passes_170 : decode cL_passes 170 = .ok (.invokevirtual 34, 3) := by decide +kernel
theorem dL_passes_173 : decode cL_passes 173 = .ok (.iload 6, 2) := by decide +kernel
theorem dL_passes_175 : decode cL_passes 175 = .ok (.if_icmp .ne 12, 3) := by decide +kernel
theorem dL_passes_178 : decode cL_passes 178 = .ok (.iload 6, 2) := by decide +kernel
theorem dL_passes_180 : decode cL_passes 180 = .ok (.ifCond .lt 7, 3) := by decide +kernel
theorem dL_passes_183 : decode cL_passes 183 = .ok (.iconst 1, 1) := by decide +kernel
theorem dL_passes_184 : decode cL_passes 184 = .ok (.goto 4, 3) := by decide +kernel
theorem dL_passes_187 : decode cL_passes 187 = .ok (.iconst 0, 1) := by decide +kernel
theorem dL_passes_188 : decode cL_passes 188 = .ok (.istore 4, 2) := by decide +kernel
theorem dL_passes_190 : decode cL_passes 190 = .ok (.iinc 5 1, 3) := by decide +kernel
theorem dL_passes_193 : decode cL_passes 193 = .ok (.goto (-126), 3) := by decide +kernel
theorem dL_passes_196 : decode cL_passes 196 = .ok (.iconst 0, 1) := by decide +kernel
theorem dL_passes_197 : decode cL_passes 197 = .ok (.istore 5, 2) := by decide +kernel
theorem dL_passes_199 : decode cL_passes 199 = .ok (.iload 5, 2) := by decide +kernel
theorem dL_passes_201 : decode cL_passes 201 = .ok (.iload_n 1, 1) := by decide +kernel
theorem dL_passes_202 : decode cL_passes 202 = .ok (.if_icmp .ge 143, 3) := by decide +kernel
theorem dL_passes_205 : decode cL_passes 205 = .ok (.iload 4, 2) := by decide +kernel
theorem dL_passes_207 : decode cL_passes 207 = .ok (.ifCond .eq 138, 3) := by decide +kernel
theorem dL_passes_210 : decode cL_passes 210 = .ok (.aload_n 0, 1) := by decide +kernel
theorem dL_passes_211 : decode cL_passes 211 = .ok (.iload 5, 2) := by decide +kernel
theorem dL_passes_213 : decode cL_passes 213 = .ok (.iconst 5, 1) := by decide +kernel
theorem dL_passes_214 : decode cL_passes 214 = .ok (.invokevirtual 37, 3) := by decide +kernel
theorem dL_passes_217 : decode cL_passes 217 = .ok (.istore 6, 2) := by decide +kernel
theorem dL_passes_219 : decode cL_passes 219 = .ok (.iload 6, 2) := by decide +kernel
theorem dL_passes_221 : decode cL_passes 221 = .ok (.ifCond .le 23, 3) := by decide +kernel
theorem dL_passes_224 : decode cL_passes 224 = .ok (.aload_n 0, 1) := by decide +kernel
theorem dL_passes_225 : decode cL_passes 225 = .ok (.iload 5, 2) := by decide +kernel
theorem dL_passes_227 : decode cL_passes 227 = .ok (.bipush 6, 2) := by decide +kernel
theorem dL_passes_229 : decode cL_passes 229 = .ok (.invokevirtual 37, 3) := by decide +kernel
theorem dL_passes_232 : decode cL_passes 232 = .ok (.iload 6, 2) := by decide +kernel
theorem dL_passes_234 : decode cL_passes 234 = .ok (.iconst (-1), 1) := by decide +kernel
theorem dL_passes_235 : decode cL_passes 235 = .ok (.ixor, 1) := by decide +kernel
theorem dL_passes_236 : decode cL_passes 236 = .ok (.iand, 1) := by decide +kernel
theorem dL_passes_237 : decode cL_passes 237 = .ok (.ifCond .ne 7, 3) := by decide +kernel
theorem dL_passes_240 : decode cL_passes 240 = .ok (.iconst 1, 1) := by decide +kernel
theorem dL_passes_241 : decode cL_passes 241 = .ok (.goto 4, 3) := by decide +kernel
theorem dL_passes_244 : decode cL_passes 244 = .ok (.iconst 0, 1) := by decide +kernel
theorem dL_passes_245 : decode cL_passes 245 = .ok (.istore 4, 2) := by decide +kernel
theorem dL_passes_247 : decode cL_passes 247 = .ok (.iconst 0, 1) := by decide +kernel
theorem dL_passes_248 : decode cL_passes 248 = .ok (.istore 7, 2) := by decide +kernel
theorem dL_passes_250 : decode cL_passes 250 = .ok (.iload 7, 2) := by decide +kernel
theorem dL_passes_252 : decode cL_passes 252 = .ok (.iconst 4, 1) := by decide +kernel
theorem dL_passes_253 : decode cL_passes 253 = .ok (.if_icmp .ge 86, 3) := by decide +kernel
theorem dL_passes_256 : decode cL_passes 256 = .ok (.iload 4, 2) := by decide +kernel
theorem dL_passes_258 : decode cL_passes 258 = .ok (.ifCond .eq 81, 3) := by decide +kernel
theorem dL_passes_261 : decode cL_passes 261 = .ok (.aload_n 0, 1) := by decide +kernel
theorem dL_passes_262 : decode cL_passes 262 = .ok (.iload 5, 2) := by decide +kernel
theorem dL_passes_264 : decode cL_passes 264 = .ok (.iload 7, 2) := by decide +kernel
theorem dL_passes_266 : decode cL_passes 266 = .ok (.invokevirtual 43, 3) := by decide +kernel
theorem dL_passes_269 : decode cL_passes 269 = .ok (.iconst (-1), 1) := by decide +kernel
theorem dL_passes_270 : decode cL_passes 270 = .ok (.if_icmp .ne 21, 3) := by decide +kernel
theorem dL_passes_273 : decode cL_passes 273 = .ok (.iload 6, 2) := by decide +kernel
theorem dL_passes_275 : decode cL_passes 275 = .ok (.iload 7, 2) := by decide +kernel
theorem dL_passes_277 : decode cL_passes 277 = .ok (.ishr, 1) := by decide +kernel
theorem dL_passes_278 : decode cL_passes 278 = .ok (.iconst 1, 1) := by decide +kernel
theorem dL_passes_279 : decode cL_passes 279 = .ok (.iand, 1) := by decide +kernel
theorem dL_passes_280 : decode cL_passes 280 = .ok (.ifCond .ne 7, 3) := by decide +kernel
theorem dL_passes_283 : decode cL_passes 283 = .ok (.iconst 1, 1) := by decide +kernel
theorem dL_passes_284 : decode cL_passes 284 = .ok (.goto 47, 3) := by decide +kernel
theorem dL_passes_287 : decode cL_passes 287 = .ok (.iconst 0, 1) := by decide +kernel
theorem dL_passes_288 : decode cL_passes 288 = .ok (.goto 43, 3) := by decide +kernel
theorem dL_passes_291 : decode cL_passes 291 = .ok (.aload_n 0, 1) := by decide +kernel
theorem dL_passes_292 : decode cL_passes 292 = .ok (.iload 5, 2) := by decide +kernel
theorem dL_passes_294 : decode cL_passes 294 = .ok (.iload 7, 2) := by decide +kernel
theorem dL_passes_296 : decode cL_passes 296 = .ok (.invokevirtual 43, 3) := by decide +kernel
theorem dL_passes_299 : decode cL_passes 299 = .ok (.ifCond .le 7, 3) := by decide +kernel
theorem dL_passes_302 : decode cL_passes 302 = .ok (.iconst 1, 1) := by decide +kernel
theorem dL_passes_303 : decode cL_passes 303 = .ok (.goto 4, 3) := by decide +kernel
theorem dL_passes_306 : decode cL_passes 306 = .ok (.iconst 0, 1) := by decide +kernel
theorem dL_passes_307 : decode cL_passes 307 = .ok (.iload 6, 2) := by decide +kernel
theorem dL_passes_309 : decode cL_passes 309 = .ok (.iload 7, 2) := by decide +kernel
theorem dL_passes_311 : decode cL_passes 311 = .ok (.ishr, 1) := by decide +kernel
theorem dL_passes_312 : decode cL_passes 312 = .ok (.iconst 1, 1) := by decide +kernel
theorem dL_passes_313 : decode cL_passes 313 = .ok (.iand, 1) := by decide +kernel
theorem dL_passes_314 : decode cL_passes 314 = .ok (.iconst 1, 1) := by decide +kernel
theorem dL_passes_315 : decode cL_passes 315 = .ok (.if_icmp .ne 7, 3) := by decide +kernel
theorem dL_passes_318 : decode cL_passes 318 = .ok (.iconst 1, 1) := by decide +kernel
theorem dL_passes_319 : decode cL_passes 319 = .ok (.goto 4, 3) := by decide +kernel
theorem dL_passes_322 : decode cL_passes 322 = .ok (.iconst 0, 1) := by decide +kernel
theorem dL_passes_323 : decode cL_passes 323 = .ok (.if_icmp .ne 7, 3) := by decide +kernel
theorem dL_passes_326 : decode cL_passes 326 = .ok (.iconst 1, 1) := by decide +kernel
theorem dL_passes_327 : decode cL_passes 327 = .ok (.goto 4, 3) := by decide +kernel
theorem dL_passes_330 : decode cL_passes 330 = .ok (.iconst 0, 1) := by decide +kernel
theorem dL_passes_331 : decode cL_passes 331 = .ok (.istore 4, 2) := by decide +kernel
theorem dL_passes_333 : decode cL_passes 333 = .ok (.iinc 7 1, 3) := by decide +kernel
theorem dL_passes_336 : decode cL_passes 336 = .ok (.goto (-86), 3) := by decide +kernel
theorem dL_passes_339 : decode cL_passes 339 = .ok (.iinc 5 1, 3) := by decide +kernel
theorem dL_passes_342 : decode cL_passes 342 = .ok (.goto (-143), 3) := by decide +kernel
theorem dL_passes_345 : decode cL_passes 345 = .ok (.iload 4, 2) := by decide +kernel
theorem dL_passes_347 : decode cL_passes 347 = .ok (.ifCond .eq 17, 3) := by decide +kernel
theorem dL_passes_350 : decode cL_passes 350 = .ok (.iload_n 2, 1) := by decide +kernel
theorem dL_passes_351 : decode cL_passes 351 = .ok (.iload_n 1, 1) := by decide +kernel
theorem dL_passes_352 : decode cL_passes 352 = .ok (.if_icmp .ne 12, 3) := by decide +kernel
theorem dL_passes_355 : decode cL_passes 355 = .ok (.iload_n 3, 1) := by decide +kernel
theorem dL_passes_356 : decode cL_passes 356 = .ok (.iload_n 1, 1) := by decide +kernel
theorem dL_passes_357 : decode cL_passes 357 = .ok (.if_icmp .ne 7, 3) := by decide +kernel
theorem dL_passes_360 : decode cL_passes 360 = .ok (.iconst 1, 1) := by decide +kernel
theorem dL_passes_361 : decode cL_passes 361 = .ok (.goto 4, 3) := by decide +kernel
theorem dL_passes_364 : decode cL_passes 364 = .ok (.iconst 0, 1) := by decide +kernel
theorem dL_passes_365 : decode cL_passes 365 = .ok (.ireturn, 1) := by decide +kernel
theorem dL_best_0 : decode cL_best 0 = .ok (.iconst 1, 1) := by decide +kernel
theorem dL_best_1 : decode cL_best 1 = .ok (.istore_n 1, 1) := by decide +kernel
theorem dL_best_2 : decode cL_best 2 = .ok (.iconst 0, 1) := by decide +kernel
theorem dL_best_3 : decode cL_best 3 = .ok (.istore_n 2, 1) := by decide +kernel
theorem dL_best_4 : decode cL_best 4 = .ok (.iload_n 2, 1) := by decide +kernel
theorem dL_best_5 : decode cL_best 5 = .ok (.aload_n 0, 1) := by decide +kernel
theorem dL_best_6 : decode cL_best 6 = .ok (.iconst 3, 1) := by decide +kernel
theorem dL_best_7 : decode cL_best 7 = .ok (.invokevirtual 9, 3) := by decide +kernel
theorem dL_best_10 : decode cL_best 10 = .ok (.if_icmp .ge 149, 3) := by decide +kernel
theorem dL_best_13 : decode cL_best 13 = .ok (.iload_n 1, 1) := by decide +kernel
theorem dL_best_14 : decode cL_best 14 = .ok (.ifCond .eq 145, 3) := by decide +kernel
theorem dL_best_17 : decode cL_best 17 = .ok (.aload_n 0, 1) := by decide +kernel
theorem dL_best_18 : decode cL_best 18 = .ok (.iload_n 2, 1) := by decide +kernel
theorem dL_best_19 : decode cL_best 19 = .ok (.invokevirtual 46, 3) := by decide +kernel
theorem dL_best_22 : decode cL_best 22 = .ok (.istore_n 3, 1) := by decide +kernel
theorem dL_best_23 : decode cL_best 23 = .ok (.iload_n 3, 1) := by decide +kernel
theorem dL_best_24 : decode cL_best 24 = .ok (.ifCond .ge 7, 3) := by decide +kernel
theorem dL_best_27 : decode cL_best 27 = .ok (.iconst 0, 1) := by decide +kernel
theorem dL_best_28 : decode cL_best 28 = .ok (.goto 9, 3) := by decide +kernel
theorem dL_best_31 : decode cL_best 31 = .ok (.aload_n 0, 1) := by decide +kernel
theorem dL_best_32 : decode cL_best 32 = .ok (.iload_n 3, 1) := by decide +kernel
theorem dL_best_33 : decode cL_best 33 = .ok (.iload_n 2, 1) := by decide +kernel
theorem dL_best_34 : decode cL_best 34 = .ok (.invokevirtual 28, 3) := by decide +kernel
theorem dL_best_37 : decode cL_best 37 = .ok (.istore 4, 2) := by decide +kernel
theorem dL_best_39 : decode cL_best 39 = .ok (.iload_n 3, 1) := by decide +kernel
theorem dL_best_40 : decode cL_best 40 = .ok (.bipush (-6), 2) := by decide +kernel
theorem dL_best_42 : decode cL_best 42 = .ok (.if_icmp .eq 41, 3) := by decide +kernel
theorem dL_best_45 : decode cL_best 45 = .ok (.iload 4, 2) := by decide +kernel
theorem dL_best_47 : decode cL_best 47 = .ok (.ifCond .le 40, 3) := by decide +kernel
theorem dL_best_50 : decode cL_best 50 = .ok (.aload_n 0, 1) := by decide +kernel
theorem dL_best_51 : decode cL_best 51 = .ok (.iload_n 3, 1) := by decide +kernel
theorem dL_best_52 : decode cL_best 52 = .ok (.iconst 0, 1) := by decide +kernel
theorem dL_best_53 : decode cL_best 53 = .ok (.invokevirtual 37, 3) := by decide +kernel
theorem dL_best_56 : decode cL_best 56 = .ok (.aload_n 0, 1) := by decide +kernel
theorem dL_best_57 : decode cL_best 57 = .ok (.iload_n 2, 1) := by decide +kernel
theorem dL_best_58 : decode cL_best 58 = .ok (.iconst 0, 1) := by decide +kernel
theorem dL_best_59 : decode cL_best 59 = .ok (.invokevirtual 49, 3) := by decide +kernel
theorem dL_best_62 : decode cL_best 62 = .ok (.if_icmp .ne 25, 3) := by decide +kernel
theorem dL_best_65 : decode cL_best 65 = .ok (.aload_n 0, 1) := by decide +kernel
theorem dL_best_66 : decode cL_best 66 = .ok (.iload_n 2, 1) := by decide +kernel
theorem dL_best_67 : decode cL_best 67 = .ok (.iconst 1, 1) := by decide +kernel
theorem dL_best_68 : decode cL_best 68 = .ok (.invokevirtual 49, 3) := by decide +kernel
theorem dL_best_71 : decode cL_best 71 = .ok (.aload_n 0, 1) := by decide +kernel
theorem dL_best_72 : decode cL_best 72 = .ok (.iload_n 3, 1) := by decide +kernel
theorem dL_best_73 : decode cL_best 73 = .ok (.iconst 5, 1) := by decide +kernel
theorem dL_best_74 : decode cL_best 74 = .ok (.invokevirtual 37, 3) := by decide +kernel
theorem dL_best_77 : decode cL_best 77 = .ok (.iconst (-1), 1) := by decide +kernel
theorem dL_best_78 : decode cL_best 78 = .ok (.ixor, 1) := by decide +kernel
theorem dL_best_79 : decode cL_best 79 = .ok (.iand, 1) := by decide +kernel
theorem dL_best_80 : decode cL_best 80 = .ok (.ifCond .ne 7, 3) := by decide +kernel
theorem dL_best_83 : decode cL_best 83 = .ok (.iconst 1, 1) := by decide +kernel
theorem dL_best_84 : decode cL_best 84 = .ok (.goto 4, 3) := by decide +kernel
theorem dL_best_87 : decode cL_best 87 = .ok (.iconst 0, 1) := by decide +kernel
theorem dL_best_88 : decode cL_best 88 = .ok (.istore_n 1, 1) := by decide +kernel
theorem dL_best_89 : decode cL_best 89 = .ok (.iconst 0, 1) := by decide +kernel
theorem dL_best_90 : decode cL_best 90 = .ok (.istore 5, 2) := by decide +kernel
theorem dL_best_92 : decode cL_best 92 = .ok (.iload 5, 2) := by decide +kernel
theorem dL_best_94 : decode cL_best 94 = .ok (.aload_n 0, 1) := by decide +kernel
theorem dL_best_95 : decode cL_best 95 = .ok (.iconst 4, 1) := by decide +kernel
theorem dL_best_96 : decode cL_best 96 = .ok (.invokevirtual 9, 3) := by decide +kernel
theorem dL_best_99 : decode cL_best 99 = .ok (.if_icmp .ge 54, 3) := by decide +kernel
theorem dL_best_102 : decode cL_best 102 = .ok (.iload_n 1, 1) := by decide +kernel
theorem dL_best_103 : decode cL_best 103 = .ok (.ifCond .eq 50, 3) := by decide +kernel
theorem dL_best_106 : decode cL_best 106 = .ok (.aload_n 0, 1) := by decide +kernel
theorem dL_best_107 : decode cL_best 107 = .ok (.iload 5, 2) := by decide +kernel
theorem dL_best_109 : decode cL_best 109 = .ok (.iload_n 2, 1) := by decide +kernel
theorem dL_best_110 : decode cL_best 110 = .ok (.invokevirtual 28, 3) := by decide +kernel
theorem dL_best_113 : decode cL_best 113 = .ok (.iload 4, 2) := by decide +kernel
theorem dL_best_115 : decode cL_best 115 = .ok (.if_icmp .lt 26, 3) := by decide +kernel
theorem dL_best_118 : decode cL_best 118 = .ok (.aload_n 0, 1) := by decide +kernel
theorem dL_best_119 : decode cL_best 119 = .ok (.iload 5, 2) := by decide +kernel
theorem dL_best_121 : decode cL_best 121 = .ok (.iload_n 2, 1) := by decide +kernel
theorem dL_best_122 : decode cL_best 122 = .ok (.invokevirtual 28, 3) := by decide +kernel
theorem dL_best_125 : decode cL_best 125 = .ok (.iload 4, 2) := by decide +kernel
theorem dL_best_127 : decode cL_best 127 = .ok (.if_icmp .ne 18, 3) := by decide +kernel
theorem dL_best_130 : decode cL_best 130 = .ok (.iload 4, 2) := by decide +kernel
theorem dL_best_132 : decode cL_best 132 = .ok (.ifCond .eq 9, 3) := by decide +kernel
theorem dL_best_135 : decode cL_best 135 = .ok (.iload 5, 2) := by decide +kernel
theorem dL_best_137 : decode cL_best 137 = .ok (.iload_n 3, 1) := by decide +kernel
theorem dL_best_138 : decode cL_best 138 = .ok (.if_icmp .lt 7, 3) := by decide +kernel
theorem dL_best_141 : decode cL_best 141 = .ok (.iconst 1, 1) := by decide +kernel
theorem dL_best_142 : decode cL_best 142 = .ok (.goto 4, 3) := by decide +kernel
theorem dL_best_145 : decode cL_best 145 = .ok (.iconst 0, 1) := by decide +kernel
theorem dL_best_146 : decode cL_best 146 = .ok (.istore_n 1, 1) := by decide +kernel
theorem dL_best_147 : decode cL_best 147 = .ok (.iinc 5 1, 3) := by decide +kernel
theorem dL_best_150 : decode cL_best 150 = .ok (.goto (-58), 3) := by decide +kernel
theorem dL_best_153 : decode cL_best 153 = .ok (.iinc 2 1, 3) := by decide +kernel
theorem dL_best_156 : decode cL_best 156 = .ok (.goto (-152), 3) := by decide +kernel
theorem dL_best_159 : decode cL_best 159 = .ok (.iload_n 1, 1) := by decide +kernel
theorem dL_best_160 : decode cL_best 160 = .ok (.ireturn, 1) := by decide +kernel
theorem dL_plays_0 : decode cL_plays 0 = .ok (.iload_n 1, 1) := by decide +kernel
theorem dL_plays_1 : decode cL_plays 1 = .ok (.aload_n 0, 1) := by decide +kernel
theorem dL_plays_2 : decode cL_plays 2 = .ok (.iconst 1, 1) := by decide +kernel
theorem dL_plays_3 : decode cL_plays 3 = .ok (.invokevirtual 9, 3) := by decide +kernel
theorem dL_plays_6 : decode cL_plays 6 = .ok (.irem, 1) := by decide +kernel
theorem dL_plays_7 : decode cL_plays 7 = .ok (.istore_n 2, 1) := by decide +kernel
theorem dL_plays_8 : decode cL_plays 8 = .ok (.iload_n 1, 1) := by decide +kernel
theorem dL_plays_9 : decode cL_plays 9 = .ok (.iconst 3, 1) := by decide +kernel
theorem dL_plays_10 : decode cL_plays 10 = .ok (.ishr, 1) := by decide +kernel
theorem dL_plays_11 : decode cL_plays 11 = .ok (.aload_n 0, 1) := by decide +kernel
theorem dL_plays_12 : decode cL_plays 12 = .ok (.iconst 2, 1) := by decide +kernel
theorem dL_plays_13 : decode cL_plays 13 = .ok (.invokevirtual 9, 3) := by decide +kernel
theorem dL_plays_16 : decode cL_plays 16 = .ok (.irem, 1) := by decide +kernel
theorem dL_plays_17 : decode cL_plays 17 = .ok (.istore_n 3, 1) := by decide +kernel
theorem dL_plays_18 : decode cL_plays 18 = .ok (.aload_n 0, 1) := by decide +kernel
theorem dL_plays_19 : decode cL_plays 19 = .ok (.iload_n 3, 1) := by decide +kernel
theorem dL_plays_20 : decode cL_plays 20 = .ok (.iconst 0, 1) := by decide +kernel
theorem dL_plays_21 : decode cL_plays 21 = .ok (.invokevirtual 34, 3) := by decide +kernel
theorem dL_plays_24 : decode cL_plays 24 = .ok (.iload_n 1, 1) := by decide +kernel
theorem dL_plays_25 : decode cL_plays 25 = .ok (.bipush 6, 2) := by decide +kernel
theorem dL_plays_27 : decode cL_plays 27 = .ok (.ishr, 1) := by decide +kernel
theorem dL_plays_28 : decode cL_plays 28 = .ok (.iconst 3, 1) := by decide +kernel
theorem dL_plays_29 : decode cL_plays 29 = .ok (.irem, 1) := by decide +kernel
theorem dL_plays_30 : decode cL_plays 30 = .ok (.invokestatic 52, 3) := by decide +kernel
theorem dL_plays_33 : decode cL_plays 33 = .ok (.istore 4, 2) := by decide +kernel
theorem dL_plays_35 : decode cL_plays 35 = .ok (.iload_n 1, 1) := by decide +kernel
theorem dL_plays_36 : decode cL_plays 36 = .ok (.bipush 9, 2) := by decide +kernel
theorem dL_plays_38 : decode cL_plays 38 = .ok (.ishr, 1) := by decide +kernel
theorem dL_plays_39 : decode cL_plays 39 = .ok (.iconst 1, 1) := by decide +kernel
theorem dL_plays_40 : decode cL_plays 40 = .ok (.iand, 1) := by decide +kernel
theorem dL_plays_41 : decode cL_plays 41 = .ok (.istore 5, 2) := by decide +kernel
theorem dL_plays_43 : decode cL_plays 43 = .ok (.aload_n 0, 1) := by decide +kernel
theorem dL_plays_44 : decode cL_plays 44 = .ok (.iload_n 2, 1) := by decide +kernel
theorem dL_plays_45 : decode cL_plays 45 = .ok (.iload_n 3, 1) := by decide +kernel
theorem dL_plays_46 : decode cL_plays 46 = .ok (.iload 4, 2) := by decide +kernel
theorem dL_plays_48 : decode cL_plays 48 = .ok (.iload 5, 2) := by decide +kernel
theorem dL_plays_50 : decode cL_plays 50 = .ok (.iconst 0, 1) := by decide +kernel
theorem dL_plays_51 : decode cL_plays 51 = .ok (.invokevirtual 57, 3) := by decide +kernel
theorem dL_plays_54 : decode cL_plays 54 = .ok (.istore 6, 2) := by decide +kernel
theorem dL_plays_56 : decode cL_plays 56 = .ok (.aload_n 0, 1) := by decide +kernel
theorem dL_plays_57 : decode cL_plays 57 = .ok (.iload_n 2, 1) := by decide +kernel
theorem dL_plays_58 : decode cL_plays 58 = .ok (.iconst 4, 1) := by decide +kernel
theorem dL_plays_59 : decode cL_plays 59 = .ok (.invokevirtual 31, 3) := by decide +kernel
theorem dL_plays_62 : decode cL_plays 62 = .ok (.istore 7, 2) := by decide +kernel
theorem dL_plays_64 : decode cL_plays 64 = .ok (.aload_n 0, 1) := by decide +kernel
theorem dL_plays_65 : decode cL_plays 65 = .ok (.iload_n 2, 1) := by decide +kernel
theorem dL_plays_66 : decode cL_plays 66 = .ok (.iload_n 3, 1) := by decide +kernel
theorem dL_plays_67 : decode cL_plays 67 = .ok (.iload 4, 2) := by decide +kernel
theorem dL_plays_69 : decode cL_plays 69 = .ok (.iload 5, 2) := by decide +kernel
theorem dL_plays_71 : decode cL_plays 71 = .ok (.invokevirtual 61, 3) := by decide +kernel
theorem dL_plays_74 : decode cL_plays 74 = .ok (.istore 8, 2) := by decide +kernel
theorem dL_plays_76 : decode cL_plays 76 = .ok (.iload 8, 2) := by decide +kernel
theorem dL_plays_78 : decode cL_plays 78 = .ok (.ifCond .ge 99, 3) := by decide +kernel
theorem dL_plays_81 : decode cL_plays 81 = .ok (.iload 8, 2) := by decide +kernel
theorem dL_plays_83 : decode cL_plays 83 = .ok (.bipush (-2), 2) := by decide +kernel
theorem dL_plays_85 : decode cL_plays 85 = .ok (.if_icmp .ne 18, 3) := by decide +kernel
theorem dL_plays_88 : decode cL_plays 88 = .ok (.iload 6, 2) := by decide +kernel
theorem dL_plays_90 : decode cL_plays 90 = .ok (.bipush (-2), 2) := by decide +kernel
theorem dL_plays_92 : decode cL_plays 92 = .ok (.if_icmp .ne 7, 3) := by decide +kernel
theorem dL_plays_95 : decode cL_plays 95 = .ok (.iconst 1, 1) := by decide +kernel
theorem dL_plays_96 : decode cL_plays 96 = .ok (.goto 80, 3) := by decide +kernel
theorem dL_plays_99 : decode cL_plays 99 = .ok (.iconst 0, 1) := by decide +kernel
theorem dL_plays_100 : decode cL_plays 100 = .ok (.goto 76, 3) := by decide +kernel
theorem dL_plays_103 : decode cL_plays 103 = .ok (.iload 8, 2) := by decide +kernel
theorem dL_plays_105 : decode cL_plays 105 = .ok (.bipush (-5), 2) := by decide +kernel
theorem dL_plays_107 : decode cL_plays 107 = .ok (.if_icmp .ne 68, 3) := by decide +kernel
theorem dL_plays_110 : decode cL_plays 110 = .ok (.aload_n 0, 1) := by decide +kernel
theorem dL_plays_111 : decode cL_plays 111 = .ok (.bipush 11, 2) := by decide +kernel
theorem dL_plays_113 : decode cL_plays 113 = .ok (.invokevirtual 9, 3) := by decide +kernel
theorem dL_plays_116 : decode cL_plays 116 = .ok (.ifCond .le 59, 3) := by decide +kernel
theorem dL_plays_119 : decode cL_plays 119 = .ok (.aload_n 0, 1) := by decide +kernel
theorem dL_plays_120 : decode cL_plays 120 = .ok (.bipush 11, 2) := by decide +kernel
theorem dL_plays_122 : decode cL_plays 122 = .ok (.invokevirtual 9, 3) := by decide +kernel
theorem dL_plays_125 : decode cL_plays 125 = .ok (.bipush 6, 2) := by decide +kernel
theorem dL_plays_127 : decode cL_plays 127 = .ok (.if_icmp .ge 48, 3) := by decide +kernel
theorem dL_plays_130 : decode cL_plays 130 = .ok (.aload_n 0, 1) := by decide +kernel
theorem dL_plays_131 : decode cL_plays 131 = .ok (.iload_n 2, 1) := by decide +kernel
theorem dL_plays_132 : decode cL_plays 132 = .ok (.iconst 4, 1) := by decide +kernel
theorem dL_plays_133 : decode cL_plays 133 = .ok (.invokevirtual 31, 3) := by decide +kernel
theorem dL_plays_136 : decode cL_plays 136 = .ok (.iload 7, 2) := by decide +kernel
theorem dL_plays_138 : decode cL_plays 138 = .ok (.if_icmp .ne 37, 3) := by decide +kernel
theorem dL_plays_141 : decode cL_plays 141 = .ok (.iload 6, 2) := by decide +kernel
theorem dL_plays_143 : decode cL_plays 143 = .ok (.bipush (-3), 2) := by decide +kernel
theorem dL_plays_145 : decode cL_plays 145 = .ok (.if_icmp .ne 7, 3) := by decide +kernel
theorem dL_plays_148 : decode cL_plays 148 = .ok (.iconst 1, 1) := by decide +kernel
theorem dL_plays_149 : decode cL_plays 149 = .ok (.goto 4, 3) := by decide +kernel
theorem dL_plays_152 : decode cL_plays 152 = .ok (.iconst 0, 1) := by decide +kernel
theorem dL_plays_153 : decode cL_plays 153 = .ok (.aload_n 0, 1) := by decide +kernel
theorem dL_plays_154 : decode cL_plays 154 = .ok (.bipush 11, 2) := by decide +kernel
theorem dL_plays_156 : decode cL_plays 156 = .ok (.invokevirtual 9, 3) := by decide +kernel
theorem dL_plays_159 : decode cL_plays 159 = .ok (.iconst 1, 1) := by decide +kernel
theorem dL_plays_160 : decode cL_plays 160 = .ok (.if_icmp .ne 7, 3) := by decide +kernel
theorem dL_plays_163 : decode cL_plays 163 = .ok (.iconst 1, 1) := by decide +kernel
theorem dL_plays_164 : decode cL_plays 164 = .ok (.goto 4, 3) := by decide +kernel
theorem dL_plays_167 : decode cL_plays 167 = .ok (.iconst 0, 1) := by decide +kernel
theorem dL_plays_168 : decode cL_plays 168 = .ok (.if_icmp .ne 7, 3) := by decide +kernel
theorem dL_plays_171 : decode cL_plays 171 = .ok (.iconst 1, 1) := by decide +kernel
theorem dL_plays_172 : decode cL_plays 172 = .ok (.goto 4, 3) := by decide +kernel
theorem dL_plays_175 : decode cL_plays 175 = .ok (.iconst 0, 1) := by decide +kernel
theorem dL_plays_176 : decode cL_plays 176 = .ok (.ireturn, 1) := by decide +kernel
theorem dL_plays_177 : decode cL_plays 177 = .ok (.aload_n 0, 1) := by decide +kernel
theorem dL_plays_178 : decode cL_plays 178 = .ok (.bipush 11, 2) := by decide +kernel
theorem dL_plays_180 : decode cL_plays 180 = .ok (.invokevirtual 9, 3) := by decide +kernel
theorem dL_plays_183 : decode cL_plays 183 = .ok (.ifCond .ne 47, 3) := by decide +kernel
theorem dL_plays_186 : decode cL_plays 186 = .ok (.aload_n 0, 1) := by decide +kernel
theorem dL_plays_187 : decode cL_plays 187 = .ok (.iload 8, 2) := by decide +kernel
theorem dL_plays_189 : decode cL_plays 189 = .ok (.iconst 0, 1) := by decide +kernel
theorem dL_plays_190 : decode cL_plays 190 = .ok (.invokevirtual 43, 3) := by decide +kernel
theorem dL_plays_193 : decode cL_plays 193 = .ok (.iload 6, 2) := by decide +kernel
theorem dL_plays_195 : decode cL_plays 195 = .ok (.if_icmp .ne 35, 3) := by decide +kernel
theorem dL_plays_198 : decode cL_plays 198 = .ok (.aload_n 0, 1) := by decide +kernel
theorem dL_plays_199 : decode cL_plays 199 = .ok (.iload_n 2, 1) := by decide +kernel
theorem dL_plays_200 : decode cL_plays 200 = .ok (.iconst 4, 1) := by decide +kernel
theorem dL_plays_201 : decode cL_plays 201 = .ok (.invokevirtual 31, 3) := by decide +kernel
theorem dL_plays_204 : decode cL_plays 204 = .ok (.iload 7, 2) := by decide +kernel
theorem dL_plays_206 : decode cL_plays 206 = .ok (.iload 4, 2) := by decide +kernel
theorem dL_plays_208 : decode cL_plays 208 = .ok (.aload_n 0, 1) := by decide +kernel
theorem dL_plays_209 : decode cL_plays 209 = .ok (.iload_n 2, 1) := by decide +kernel
theorem dL_plays_210 : decode cL_plays 210 = .ok (.iconst 1, 1) := by decide +kernel
theorem dL_plays_211 : decode cL_plays 211 = .ok (.invokevirtual 31, 3) := by decide +kernel
theorem dL_plays_214 : decode cL_plays 214 = .ok (.if_icmp .le 7, 3) := by decide +kernel
theorem dL_plays_217 : decode cL_plays 217 = .ok (.iconst 2, 1) := by decide +kernel
theorem dL_plays_218 : decode cL_plays 218 = .ok (.goto 4, 3) := by decide +kernel
theorem dL_plays_221 : decode cL_plays 221 = .ok (.iconst 1, 1) := by decide +kernel
theorem dL_plays_222 : decode cL_plays 222 = .ok (.isub, 1) := by decide +kernel
theorem dL_plays_223 : decode cL_plays 223 = .ok (.if_icmp .ne 7, 3) := by decide +kernel
theorem dL_plays_226 : decode cL_plays 226 = .ok (.iconst 1, 1) := by decide +kernel
theorem dL_plays_227 : decode cL_plays 227 = .ok (.goto 4, 3) := by decide +kernel
theorem dL_plays_230 : decode cL_plays 230 = .ok (.iconst 0, 1) := by decide +kernel
theorem dL_plays_231 : decode cL_plays 231 = .ok (.ireturn, 1) := by decide +kernel
theorem dL_answers_0 : decode cL_answers 0 = .ok (.aload_n 0, 1) := by decide +kernel
theorem dL_answers_1 : decode cL_answers 1 = .ok (.iload_n 1, 1) := by decide +kernel
theorem dL_answers_2 : decode cL_answers 2 = .ok (.iconst 1, 1) := by decide +kernel
theorem dL_answers_3 : decode cL_answers 3 = .ok (.invokevirtual 18, 3) := by decide +kernel
theorem dL_answers_6 : decode cL_answers 6 = .ok (.istore_n 2, 1) := by decide +kernel
theorem dL_answers_7 : decode cL_answers 7 = .ok (.aload_n 0, 1) := by decide +kernel
theorem dL_answers_8 : decode cL_answers 8 = .ok (.iload_n 1, 1) := by decide +kernel
theorem dL_answers_9 : decode cL_answers 9 = .ok (.iconst 2, 1) := by decide +kernel
theorem dL_answers_10 : decode cL_answers 10 = .ok (.invokevirtual 18, 3) := by decide +kernel
theorem dL_answers_13 : decode cL_answers 13 = .ok (.istore_n 3, 1) := by decide +kernel
theorem dL_answers_14 : decode cL_answers 14 = .ok (.aload_n 0, 1) := by decide +kernel
theorem dL_answers_15 : decode cL_answers 15 = .ok (.iload_n 1, 1) := by decide +kernel
theorem dL_answers_16 : decode cL_answers 16 = .ok (.iconst 0, 1) := by decide +kernel
theorem dL_answers_17 : decode cL_answers 17 = .ok (.invokevirtual 18, 3) := by decide +kernel
theorem dL_answers_20 : decode cL_answers 20 = .ok (.ifCond .ne 7, 3) := by decide +kernel
theorem dL_answers_23 : decode cL_answers 23 = .ok (.iconst 1, 1) := by decide +kernel
theorem dL_answers_24 : decode cL_answers 24 = .ok (.goto 4, 3) := by decide +kernel
theorem dL_answers_27 : decode cL_answers 27 = .ok (.iconst 0, 1) := by decide +kernel
theorem dL_answers_28 : decode cL_answers 28 = .ok (.istore 4, 2) := by decide +kernel
theorem dL_answers_30 : decode cL_answers 30 = .ok (.aload_n 0, 1) := by decide +kernel
theorem dL_answers_31 : decode cL_answers 31 = .ok (.iload_n 3, 1) := by decide +kernel
theorem dL_answers_32 : decode cL_answers 32 = .ok (.invokevirtual 46, 3) := by decide +kernel
theorem dL_answers_35 : decode cL_answers 35 = .ok (.istore 5, 2) := by decide +kernel
theorem dL_answers_37 : decode cL_answers 37 = .ok (.aload_n 0, 1) := by decide +kernel
theorem dL_answers_38 : decode cL_answers 38 = .ok (.iload_n 2, 1) := by decide +kernel
theorem dL_answers_39 : decode cL_answers 39 = .ok (.iload_n 3, 1) := by decide +kernel
theorem dL_answers_40 : decode cL_answers 40 = .ok (.aload_n 0, 1) := by decide +kernel
theorem dL_answers_41 : decode cL_answers 41 = .ok (.iload_n 1, 1) := by decide +kernel
theorem dL_answers_42 : decode cL_answers 42 = .ok (.iconst 3, 1) := by decide +kernel
theorem dL_answers_43 : decode cL_answers 43 = .ok (.invokevirtual 18, 3) := by decide +kernel
theorem dL_answers_46 : decode cL_answers 46 = .ok (.aload_n 0, 1) := by decide +kernel
theorem dL_answers_47 : decode cL_answers 47 = .ok (.iload_n 1, 1) := by decide +kernel
theorem dL_answers_48 : decode cL_answers 48 = .ok (.iconst 4, 1) := by decide +kernel
theorem dL_answers_49 : decode cL_answers 49 = .ok (.invokevirtual 18, 3) := by decide +kernel
theorem dL_answers_52 : decode cL_answers 52 = .ok (.aload_n 0, 1) := by decide +kernel
theorem dL_answers_53 : decode cL_answers 53 = .ok (.iload_n 1, 1) := by decide +kernel
theorem dL_answers_54 : decode cL_answers 54 = .ok (.iconst 5, 1) := by decide +kernel
theorem dL_answers_55 : decode cL_answers 55 = .ok (.invokevirtual 18, 3) := by decide +kernel
theorem dL_answers_58 : decode cL_answers 58 = .ok (.invokevirtual 65, 3) := by decide +kernel
theorem dL_answers_61 : decode cL_answers 61 = .ok (.istore 6, 2) := by decide +kernel
theorem dL_answers_63 : decode cL_answers 63 = .ok (.aload_n 0, 1) := by decide +kernel
theorem dL_answers_64 : decode cL_answers 64 = .ok (.iload_n 2, 1) := by decide +kernel
theorem dL_answers_65 : decode cL_answers 65 = .ok (.iload_n 3, 1) := by decide +kernel
theorem dL_answers_66 : decode cL_answers 66 = .ok (.aload_n 0, 1) := by decide +kernel
theorem dL_answers_67 : decode cL_answers 67 = .ok (.iload_n 1, 1) := by decide +kernel
theorem dL_answers_68 : decode cL_answers 68 = .ok (.iconst 3, 1) := by decide +kernel
theorem dL_answers_69 : decode cL_answers 69 = .ok (.invokevirtual 18, 3) := by decide +kernel
theorem dL_answers_72 : decode cL_answers 72 = .ok (.aload_n 0, 1) := by decide +kernel
theorem dL_answers_73 : decode cL_answers 73 = .ok (.iload_n 1, 1) := by decide +kernel
theorem dL_answers_74 : decode cL_answers 74 = .ok (.iconst 4, 1) := by decide +kernel
theorem dL_answers_75 : decode cL_answers 75 = .ok (.invokevirtual 18, 3) := by decide +kernel
theorem dL_answers_78 : decode cL_answers 78 = .ok (.aload_n 0, 1) := by decide +kernel
theorem dL_answers_79 : decode cL_answers 79 = .ok (.iload_n 1, 1) := by decide +kernel
theorem dL_answers_80 : decode cL_answers 80 = .ok (.iconst 5, 1) := by decide +kernel
theorem dL_answers_81 : decode cL_answers 81 = .ok (.invokevirtual 18, 3) := by decide +kernel
theorem dL_answers_84 : decode cL_answers 84 = .ok (.invokevirtual 68, 3) := by decide +kernel
theorem dL_answers_87 : decode cL_answers 87 = .ok (.istore 7, 2) := by decide +kernel
theorem dL_answers_89 : decode cL_answers 89 = .ok (.iload 5, 2) := by decide +kernel
theorem dL_answers_91 : decode cL_answers 91 = .ok (.ifCond .lt 24, 3) := by decide +kernel
theorem dL_answers_94 : decode cL_answers 94 = .ok (.aload_n 0, 1) := by decide +kernel
theorem dL_answers_95 : decode cL_answers 95 = .ok (.iload 5, 2) := by decide +kernel
theorem dL_answers_97 : decode cL_answers 97 = .ok (.iload_n 3, 1) := by decide +kernel
theorem dL_answers_98 : decode cL_answers 98 = .ok (.invokevirtual 28, 3) := by decide +kernel
theorem dL_answers_101 : decode cL_answers 101 = .ok (.aload_n 0, 1) := by decide +kernel
theorem dL_answers_102 : decode cL_answers 102 = .ok (.iload_n 1, 1) := by decide +kernel
theorem dL_answers_103 : decode cL_answers 103 = .ok (.bipush 6, 2) := by decide +kernel
theorem dL_answers_105 : decode cL_answers 105 = .ok (.invokevirtual 18, 3) := by decide +kernel
theorem dL_answers_108 : decode cL_answers 108 = .ok (.if_icmp .lt 7, 3) := by decide +kernel
theorem dL_answers_111 : decode cL_answers 111 = .ok (.iconst 1, 1) := by decide +kernel
theorem dL_answers_112 : decode cL_answers 112 = .ok (.goto 4, 3) := by decide +kernel
theorem dL_answers_115 : decode cL_answers 115 = .ok (.iconst 0, 1) := by decide +kernel
theorem dL_answers_116 : decode cL_answers 116 = .ok (.istore 8, 2) := by decide +kernel
theorem dL_answers_118 : decode cL_answers 118 = .ok (.aload_n 0, 1) := by decide +kernel
theorem dL_answers_119 : decode cL_answers 119 = .ok (.iload_n 1, 1) := by decide +kernel
theorem dL_answers_120 : decode cL_answers 120 = .ok (.invokevirtual 71, 3) := by decide +kernel
theorem dL_answers_123 : decode cL_answers 123 = .ok (.istore 9, 2) := by decide +kernel
theorem dL_answers_125 : decode cL_answers 125 = .ok (.iload 9, 2) := by decide +kernel
theorem dL_answers_127 : decode cL_answers 127 = .ok (.ifCond .ge 73, 3) := by decide +kernel
theorem dL_answers_130 : decode cL_answers 130 = .ok (.aload_n 0, 1) := by decide +kernel
theorem dL_answers_131 : decode cL_answers 131 = .ok (.bipush 11, 2) := by decide +kernel
theorem dL_answers_133 : decode cL_answers 133 = .ok (.invokevirtual 9, 3) := by decide +kernel
theorem dL_answers_136 : decode cL_answers 136 = .ok (.istore 10, 2) := by decide +kernel
theorem dL_answers_138 : decode cL_answers 138 = .ok (.iload 9, 2) := by decide +kernel
theorem dL_answers_140 : decode cL_answers 140 = .ok (.bipush (-5), 2) := by decide +kernel
theorem dL_answers_142 : decode cL_answers 142 = .ok (.if_icmp .ne 56, 3) := by decide +kernel
theorem dL_answers_145 : decode cL_answers 145 = .ok (.iload 10, 2) := by decide +kernel
theorem dL_answers_147 : decode cL_answers 147 = .ok (.iload 4, 2) := by decide +kernel
theorem dL_answers_149 : decode cL_answers 149 = .ok (.ifCond .ne 8, 3) := by decide +kernel
theorem dL_answers_152 : decode cL_answers 152 = .ok (.bipush 6, 2) := by decide +kernel
theorem dL_answers_154 : decode cL_answers 154 = .ok (.goto 25, 3) := by decide +kernel
theorem dL_answers_157 : decode cL_answers 157 = .ok (.iload 5, 2) := by decide +kernel
theorem dL_answers_159 : decode cL_answers 159 = .ok (.ifCond .ge 8, 3) := by decide +kernel
theorem dL_answers_162 : decode cL_answers 162 = .ok (.bipush 7, 2) := by decide +kernel
theorem dL_answers_164 : decode cL_answers 164 = .ok (.goto 15, 3) := by decide +kernel
theorem dL_answers_167 : decode cL_answers 167 = .ok (.iload 8, 2) := by decide +kernel
theorem dL_answers_169 : decode cL_answers 169 = .ok (.ifCond .ne 8, 3) := by decide +kernel
theorem dL_answers_172 : decode cL_answers 172 = .ok (.bipush 8, 2) := by decide +kernel
theorem dL_answers_174 : decode cL_answers 174 = .ok (.goto 5, 3) := by decide +kernel
theorem dL_answers_177 : decode cL_answers 177 = .ok (.bipush 9, 2) := by decide +kernel
theorem dL_answers_179 : decode cL_answers 179 = .ok (.if_icmp .ne 19, 3) := by decide +kernel
theorem dL_answers_182 : decode cL_answers 182 = .ok (.iload 10, 2) := by decide +kernel
theorem dL_answers_184 : decode cL_answers 184 = .ok (.bipush 9, 2) := by decide +kernel
theorem dL_answers_186 : decode cL_answers 186 = .ok (.if_icmp .lt 8, 3) := by decide +kernel
theorem dL_answers_189 : decode cL_answers 189 = .ok (.iload 7, 2) := by decide +kernel
theorem dL_answers_191 : decode cL_answers 191 = .ok (.ifCond .le 7, 3) := by decide +kernel
theorem dL_answers_194 : decode cL_answers 194 = .ok (.iconst 1, 1) := by decide +kernel
theorem dL_answers_195 : decode cL_answers 195 = .ok (.goto 4, 3) := by decide +kernel
theorem dL_answers_198 : decode cL_answers 198 = .ok (.iconst 0, 1) := by decide +kernel
theorem dL_answers_199 : decode cL_answers 199 = .ok (.ireturn, 1) := by decide +kernel
theorem dL_answers_200 : decode cL_answers 200 = .ok (.iload 4, 2) := by decide +kernel
theorem dL_answers_202 : decode cL_answers 202 = .ok (.ifCond .eq 45, 3) := by decide +kernel
theorem dL_answers_205 : decode cL_answers 205 = .ok (.iload 8, 2) := by decide +kernel
theorem dL_answers_207 : decode cL_answers 207 = .ok (.ifCond .eq 40, 3) := by decide +kernel
theorem dL_answers_210 : decode cL_answers 210 = .ok (.iload 7, 2) := by decide +kernel
theorem dL_answers_212 : decode cL_answers 212 = .ok (.ifCond .ne 35, 3) := by decide +kernel
theorem dL_answers_215 : decode cL_answers 215 = .ok (.iload 9, 2) := by decide +kernel
theorem dL_answers_217 : decode cL_answers 217 = .ok (.iload 5, 2) := by decide +kernel
theorem dL_answers_219 : decode cL_answers 219 = .ok (.if_icmp .ne 28, 3) := by decide +kernel
theorem dL_answers_222 : decode cL_answers 222 = .ok (.aload_n 0, 1) := by decide +kernel
theorem dL_answers_223 : decode cL_answers 223 = .ok (.iload_n 1, 1) := by decide +kernel
theorem dL_answers_224 : decode cL_answers 224 = .ok (.bipush 9, 2) := by decide +kernel
theorem dL_answers_226 : decode cL_answers 226 = .ok (.invokevirtual 18, 3) := by decide +kernel
theorem dL_answers_229 : decode cL_answers 229 = .ok (.iload 6, 2) := by decide +kernel
theorem dL_answers_231 : decode cL_answers 231 = .ok (.if_icmp .ne 16, 3) := by decide +kernel
theorem dL_answers_234 : decode cL_answers 234 = .ok (.aload_n 0, 1) := by decide +kernel
theorem dL_answers_235 : decode cL_answers 235 = .ok (.bipush 11, 2) := by decide +kernel
theorem dL_answers_237 : decode cL_answers 237 = .ok (.invokevirtual 9, 3) := by decide +kernel
theorem dL_answers_240 : decode cL_answers 240 = .ok (.ifCond .ne 7, 3) := by decide +kernel
theorem dL_answers_243 : decode cL_answers 243 = .ok (.iconst 1, 1) := by decide +kernel
theorem dL_answers_244 : decode cL_answers 244 = .ok (.goto 4, 3) := by decide +kernel
theorem dL_answers_247 : decode cL_answers 247 = .ok (.iconst 0, 1) := by decide +kernel
theorem dL_answers_248 : decode cL_answers 248 = .ok (.ireturn, 1) := by decide +kernel
theorem dL_acts_0 : decode cL_acts 0 = .ok (.iload_n 1, 1) := by decide +kernel
theorem dL_acts_1 : decode cL_acts 1 = .ok (.iconst 3, 1) := by decide +kernel
theorem dL_acts_2 : decode cL_acts 2 = .ok (.ishr, 1) := by decide +kernel
theorem dL_acts_3 : decode cL_acts 3 = .ok (.istore_n 2, 1) := by decide +kernel
theorem dL_acts_4 : decode cL_acts 4 = .ok (.aload_n 0, 1) := by decide +kernel
theorem dL_acts_5 : decode cL_acts 5 = .ok (.iconst 3, 1) := by decide +kernel
theorem dL_acts_6 : decode cL_acts 6 = .ok (.invokevirtual 9, 3) := by decide +kernel
theorem dL_acts_9 : decode cL_acts 9 = .ok (.istore_n 3, 1) := by decide +kernel
theorem dL_acts_10 : decode cL_acts 10 = .ok (.aload_n 0, 1) := by decide +kernel
theorem dL_acts_11 : decode cL_acts 11 = .ok (.bipush 6, 2) := by decide +kernel
theorem dL_acts_13 : decode cL_acts 13 = .ok (.invokevirtual 9, 3) := by decide +kernel
theorem dL_acts_16 : decode cL_acts 16 = .ok (.istore 4, 2) := by decide +kernel
theorem dL_acts_18 : decode cL_acts 18 = .ok (.iload_n 1, 1) := by decide +kernel
theorem dL_acts_19 : decode cL_acts 19 = .ok (.bipush 7, 2) := by decide +kernel
theorem dL_acts_21 : decode cL_acts 21 = .ok (.iand, 1) := by decide +kernel
theorem dL_acts_22 : decode cL_acts 22 = .ok (.tableswitch 285 0 6 #[42, 94, 152, 152, 158, 196, 263], 42) := by decide +kernel
theorem dL_acts_64 : decode cL_acts 64 = .ok (.aload_n 0, 1) := by decide +kernel
theorem dL_acts_65 : decode cL_acts 65 = .ok (.iload_n 2, 1) := by decide +kernel
theorem dL_acts_66 : decode cL_acts 66 = .ok (.aload_n 0, 1) := by decide +kernel
theorem dL_acts_67 : decode cL_acts 67 = .ok (.iconst 1, 1) := by decide +kernel
theorem dL_acts_68 : decode cL_acts 68 = .ok (.invokevirtual 9, 3) := by decide +kernel
theorem dL_acts_71 : decode cL_acts 71 = .ok (.irem, 1) := by decide +kernel
theorem dL_acts_72 : decode cL_acts 72 = .ok (.iconst 1, 1) := by decide +kernel
theorem dL_acts_73 : decode cL_acts 73 = .ok (.iload_n 2, 1) := by decide +kernel
theorem dL_acts_74 : decode cL_acts 74 = .ok (.iconst 2, 1) := by decide +kernel
theorem dL_acts_75 : decode cL_acts 75 = .ok (.ishr, 1) := by decide +kernel
theorem dL_acts_76 : decode cL_acts 76 = .ok (.iconst 4, 1) := by decide +kernel
theorem dL_acts_77 : decode cL_acts 77 = .ok (.irem, 1) := by decide +kernel
theorem dL_acts_78 : decode cL_acts 78 = .ok (.ishl, 1) := by decide +kernel
theorem dL_acts_79 : decode cL_acts 79 = .ok (.iload_n 2, 1) := by decide +kernel
theorem dL_acts_80 : decode cL_acts 80 = .ok (.iconst 4, 1) := by decide +kernel
theorem dL_acts_81 : decode cL_acts 81 = .ok (.ishr, 1) := by decide +kernel
theorem dL_acts_82 : decode cL_acts 82 = .ok (.bipush 50, 2) := by decide +kernel
theorem dL_acts_84 : decode cL_acts 84 = .ok (.irem, 1) := by decide +kernel
theorem dL_acts_85 : decode cL_acts 85 = .ok (.bipush 10, 2) := by decide +kernel
theorem dL_acts_87 : decode cL_acts 87 = .ok (.iload_n 2, 1) := by decide +kernel
theorem dL_acts_88 : decode cL_acts 88 = .ok (.iconst 4, 1) := by decide +kernel
theorem dL_acts_89 : decode cL_acts 89 = .ok (.ishr, 1) := by decide +kernel
theorem dL_acts_90 : decode cL_acts 90 = .ok (.bipush 50, 2) := by decide +kernel
theorem dL_acts_92 : decode cL_acts 92 = .ok (.irem, 1) := by decide +kernel
theorem dL_acts_93 : decode cL_acts 93 = .ok (.iadd, 1) := by decide +kernel
theorem dL_acts_94 : decode cL_acts 94 = .ok (.iload_n 2, 1) := by decide +kernel
theorem dL_acts_95 : decode cL_acts 95 = .ok (.bipush 10, 2) := by decide +kernel
theorem dL_acts_97 : decode cL_acts 97 = .ok (.ishr, 1) := by decide +kernel
theorem dL_acts_98 : decode cL_acts 98 = .ok (.bipush 40, 2) := by decide +kernel
theorem dL_acts_100 : decode cL_acts 100 = .ok (.irem, 1) := by decide +kernel
theorem dL_acts_101 : decode cL_acts 101 = .ok (.iadd, 1) := by decide +kernel
theorem dL_acts_102 : decode cL_acts 102 = .ok (.invokevirtual 74, 3) := by decide +kernel
theorem dL_acts_105 : decode cL_acts 105 = .ok (.bipush (-5), 2) := by decide +kernel
theorem dL_acts_107 : decode cL_acts 107 = .ok (.if_icmp .le 7, 3) := by decide +kernel
theorem dL_acts_110 : decode cL_acts 110 = .ok (.iconst 1, 1) := by decide +kernel
theorem dL_acts_111 : decode cL_acts 111 = .ok (.goto 4, 3) := by decide +kernel
theorem dL_acts_114 : decode cL_acts 114 = .ok (.iconst 0, 1) := by decide +kernel
theorem dL_acts_115 : decode cL_acts 115 = .ok (.ireturn, 1) := by decide +kernel
theorem dL_acts_116 : decode cL_acts 116 = .ok (.iload_n 3, 1) := by decide +kernel
theorem dL_acts_117 : decode cL_acts 117 = .ok (.ifCond .eq 51, 3) := by decide +kernel
theorem dL_acts_120 : decode cL_acts 120 = .ok (.aload_n 0, 1) := by decide +kernel
theorem dL_acts_121 : decode cL_acts 121 = .ok (.iload_n 2, 1) := by decide +kernel
theorem dL_acts_122 : decode cL_acts 122 = .ok (.iload_n 3, 1) := by decide +kernel
theorem dL_acts_123 : decode cL_acts 123 = .ok (.irem, 1) := by decide +kernel
theorem dL_acts_124 : decode cL_acts 124 = .ok (.iload_n 2, 1) := by decide +kernel
theorem dL_acts_125 : decode cL_acts 125 = .ok (.iconst 4, 1) := by decide +kernel
theorem dL_acts_126 : decode cL_acts 126 = .ok (.ishr, 1) := by decide +kernel
theorem dL_acts_127 : decode cL_acts 127 = .ok (.bipush 20, 2) := by decide +kernel
theorem dL_acts_129 : decode cL_acts 129 = .ok (.irem, 1) := by decide +kernel
theorem dL_acts_130 : decode cL_acts 130 = .ok (.iload_n 2, 1) := by decide +kernel
theorem dL_acts_131 : decode cL_acts 131 = .ok (.iconst 4, 1) := by decide +kernel
theorem dL_acts_132 : decode cL_acts 132 = .ok (.ishr, 1) := by decide +kernel
theorem dL_acts_133 : decode cL_acts 133 = .ok (.bipush 20, 2) := by decide +kernel
theorem dL_acts_135 : decode cL_acts 135 = .ok (.irem, 1) := by decide +kernel
theorem dL_acts_136 : decode cL_acts 136 = .ok (.iconst 1, 1) := by decide +kernel
theorem dL_acts_137 : decode cL_acts 137 = .ok (.iadd, 1) := by decide +kernel
theorem dL_acts_138 : decode cL_acts 138 = .ok (.iload_n 2, 1) := by decide +kernel
theorem dL_acts_139 : decode cL_acts 139 = .ok (.bipush 9, 2) := by decide +kernel
theorem dL_acts_141 : decode cL_acts 141 = .ok (.ishr, 1) := by decide +kernel
theorem dL_acts_142 : decode cL_acts 142 = .ok (.bipush 20, 2) := by decide +kernel
theorem dL_acts_144 : decode cL_acts 144 = .ok (.irem, 1) := by decide +kernel
theorem dL_acts_145 : decode cL_acts 145 = .ok (.iadd, 1) := by decide +kernel
theorem dL_acts_146 : decode cL_acts 146 = .ok (.iload_n 2, 1) := by decide +kernel
theorem dL_acts_147 : decode cL_acts 147 = .ok (.bipush 14, 2) := by decide +kernel
theorem dL_acts_149 : decode cL_acts 149 = .ok (.ishr, 1) := by decide +kernel
theorem dL_acts_150 : decode cL_acts 150 = .ok (.bipush 8, 2) := by decide +kernel
theorem dL_acts_152 : decode cL_acts 152 = .ok (.irem, 1) := by decide +kernel
theorem dL_acts_153 : decode cL_acts 153 = .ok (.iload_n 2, 1) := by decide +kernel
theorem dL_acts_154 : decode cL_acts 154 = .ok (.bipush 17, 2) := by decide +kernel
theorem dL_acts_156 : decode cL_acts 156 = .ok (.ishr, 1) := by decide +kernel
theorem dL_acts_157 : decode cL_acts 157 = .ok (.bipush 30, 2) := by decide +kernel
theorem dL_acts_159 : decode cL_acts 159 = .ok (.irem, 1) := by decide +kernel
theorem dL_acts_160 : decode cL_acts 160 = .ok (.invokevirtual 77, 3) := by decide +kernel
theorem dL_acts_163 : decode cL_acts 163 = .ok (.bipush (-5), 2) := by decide +kernel
theorem dL_acts_165 : decode cL_acts 165 = .ok (.if_icmp .le 7, 3) := by decide +kernel
theorem dL_acts_168 : decode cL_acts 168 = .ok (.iconst 1, 1) := by decide +kernel
theorem dL_acts_169 : decode cL_acts 169 = .ok (.goto 4, 3) := by decide +kernel
theorem dL_acts_172 : decode cL_acts 172 = .ok (.iconst 0, 1) := by decide +kernel
theorem dL_acts_173 : decode cL_acts 173 = .ok (.ireturn, 1) := by decide +kernel
theorem dL_acts_174 : decode cL_acts 174 = .ok (.aload_n 0, 1) := by decide +kernel
theorem dL_acts_175 : decode cL_acts 175 = .ok (.iload_n 2, 1) := by decide +kernel
theorem dL_acts_176 : decode cL_acts 176 = .ok (.invokestatic 80, 3) := by decide +kernel
theorem dL_acts_179 : decode cL_acts 179 = .ok (.ireturn, 1) := by decide +kernel
theorem dL_acts_180 : decode cL_acts 180 = .ok (.aload_n 0, 1) := by decide +kernel
theorem dL_acts_181 : decode cL_acts 181 = .ok (.iload_n 2, 1) := by decide +kernel
theorem dL_acts_182 : decode cL_acts 182 = .ok (.bipush 8, 2) := by decide +kernel
theorem dL_acts_184 : decode cL_acts 184 = .ok (.irem, 1) := by decide +kernel
theorem dL_acts_185 : decode cL_acts 185 = .ok (.iload_n 2, 1) := by decide +kernel
theorem dL_acts_186 : decode cL_acts 186 = .ok (.iconst 3, 1) := by decide +kernel
theorem dL_acts_187 : decode cL_acts 187 = .ok (.ishr, 1) := by decide +kernel
theorem dL_acts_188 : decode cL_acts 188 = .ok (.bipush 8, 2) := by decide +kernel
theorem dL_acts_190 : decode cL_acts 190 = .ok (.irem, 1) := by decide +kernel
theorem dL_acts_191 : decode cL_acts 191 = .ok (.iload_n 2, 1) := by decide +kernel
theorem dL_acts_192 : decode cL_acts 192 = .ok (.bipush 6, 2) := by decide +kernel
theorem dL_acts_194 : decode cL_acts 194 = .ok (.ishr, 1) := by decide +kernel
theorem dL_acts_195 : decode cL_acts 195 = .ok (.iconst 3, 1) := by decide +kernel
theorem dL_acts_196 : decode cL_acts 196 = .ok (.irem, 1) := by decide +kernel
theorem dL_acts_197 : decode cL_acts 197 = .ok (.iload_n 2, 1) := by decide +kernel
theorem dL_acts_198 : decode cL_acts 198 = .ok (.bipush 8, 2) := by decide +kernel
theorem dL_acts_200 : decode cL_acts 200 = .ok (.ishr, 1) := by decide +kernel
theorem dL_acts_201 : decode cL_acts 201 = .ok (.bipush 60, 2) := by decide +kernel
theorem dL_acts_203 : decode cL_acts 203 = .ok (.irem, 1) := by decide +kernel
theorem dL_acts_204 : decode cL_acts 204 = .ok (.invokevirtual 84, 3) := by decide +kernel
theorem dL_acts_207 : decode cL_acts 207 = .ok (.bipush (-5), 2) := by decide +kernel
theorem dL_acts_209 : decode cL_acts 209 = .ok (.if_icmp .le 7, 3) := by decide +kernel
theorem dL_acts_212 : decode cL_acts 212 = .ok (.iconst 1, 1) := by decide +kernel
theorem dL_acts_213 : decode cL_acts 213 = .ok (.goto 4, 3) := by decide +kernel
theorem dL_acts_216 : decode cL_acts 216 = .ok (.iconst 0, 1) := by decide +kernel
theorem dL_acts_217 : decode cL_acts 217 = .ok (.ireturn, 1) := by decide +kernel
theorem dL_acts_218 : decode cL_acts 218 = .ok (.iload_n 3, 1) := by decide +kernel
theorem dL_acts_219 : decode cL_acts 219 = .ok (.ifCond .eq 60, 3) := by decide +kernel
theorem dL_acts_222 : decode cL_acts 222 = .ok (.aload_n 0, 1) := by decide +kernel
theorem dL_acts_223 : decode cL_acts 223 = .ok (.iload_n 2, 1) := by decide +kernel
theorem dL_acts_224 : decode cL_acts 224 = .ok (.bipush 8, 2) := by decide +kernel
theorem dL_acts_226 : decode cL_acts 226 = .ok (.irem, 1) := by decide +kernel
theorem dL_acts_227 : decode cL_acts 227 = .ok (.iload_n 2, 1) := by decide +kernel
theorem dL_acts_228 : decode cL_acts 228 = .ok (.iconst 3, 1) := by decide +kernel
theorem dL_acts_229 : decode cL_acts 229 = .ok (.ishr, 1) := by decide +kernel
theorem dL_acts_230 : decode cL_acts 230 = .ok (.iload_n 3, 1) := by decide +kernel
theorem dL_acts_231 : decode cL_acts 231 = .ok (.irem, 1) := by decide +kernel
theorem dL_acts_232 : decode cL_acts 232 = .ok (.iload_n 2, 1) := by decide +kernel
theorem dL_acts_233 : decode cL_acts 233 = .ok (.bipush 7, 2) := by decide +kernel
theorem dL_acts_235 : decode cL_acts 235 = .ok (.ishr, 1) := by decide +kernel
theorem dL_acts_236 : decode cL_acts 236 = .ok (.bipush 10, 2) := by decide +kernel
theorem dL_acts_238 : decode cL_acts 238 = .ok (.irem, 1) := by decide +kernel
theorem dL_acts_239 : decode cL_acts 239 = .ok (.iload_n 2, 1) := by decide +kernel
theorem dL_acts_240 : decode cL_acts 240 = .ok (.bipush 7, 2) := by decide +kernel
theorem dL_acts_242 : decode cL_acts 242 = .ok (.ishr, 1) := by decide +kernel
theorem dL_acts_243 : decode cL_acts 243 = .ok (.bipush 10, 2) := by decide +kernel
theorem dL_acts_245 : decode cL_acts 245 = .ok (.irem, 1) := by decide +kernel
theorem dL_acts_246 : decode cL_acts 246 = .ok (.iconst 1, 1) := by decide +kernel
theorem dL_acts_247 : decode cL_acts 247 = .ok (.iadd, 1) := by decide +kernel
theorem dL_acts_248 : decode cL_acts 248 = .ok (.iload_n 2, 1) := by decide +kernel
theorem dL_acts_249 : decode cL_acts 249 = .ok (.bipush 11, 2) := by decide +kernel
theorem dL_acts_251 : decode cL_acts 251 = .ok (.ishr, 1) := by decide +kernel
theorem dL_acts_252 : decode cL_acts 252 = .ok (.bipush 30, 2) := by decide +kernel
theorem dL_acts_254 : decode cL_acts 254 = .ok (.irem, 1) := by decide +kernel
theorem dL_acts_255 : decode cL_acts 255 = .ok (.iadd, 1) := by decide +kernel
theorem dL_acts_256 : decode cL_acts 256 = .ok (.iload_n 2, 1) := by decide +kernel
theorem dL_acts_257 : decode cL_acts 257 = .ok (.bipush 16, 2) := by decide +kernel
theorem dL_acts_259 : decode cL_acts 259 = .ok (.ishr, 1) := by decide +kernel
theorem dL_acts_260 : decode cL_acts 260 = .ok (.iconst 3, 1) := by decide +kernel
theorem dL_acts_261 : decode cL_acts 261 = .ok (.irem, 1) := by decide +kernel
theorem dL_acts_262 : decode cL_acts 262 = .ok (.iconst 1, 1) := by decide +kernel
theorem dL_acts_263 : decode cL_acts 263 = .ok (.iload_n 2, 1) := by decide +kernel
theorem dL_acts_264 : decode cL_acts 264 = .ok (.bipush 18, 2) := by decide +kernel
theorem dL_acts_266 : decode cL_acts 266 = .ok (.ishr, 1) := by decide +kernel
theorem dL_acts_267 : decode cL_acts 267 = .ok (.bipush 40, 2) := by decide +kernel
theorem dL_acts_269 : decode cL_acts 269 = .ok (.irem, 1) := by decide +kernel
theorem dL_acts_270 : decode cL_acts 270 = .ok (.iadd, 1) := by decide +kernel
theorem dL_acts_271 : decode cL_acts 271 = .ok (.invokevirtual 87, 3) := by decide +kernel
theorem dL_acts_274 : decode cL_acts 274 = .ok (.bipush (-5), 2) := by decide +kernel
theorem dL_acts_276 : decode cL_acts 276 = .ok (.if_icmp .le 7, 3) := by decide +kernel
theorem dL_acts_279 : decode cL_acts 279 = .ok (.iconst 1, 1) := by decide +kernel
theorem dL_acts_280 : decode cL_acts 280 = .ok (.goto 4, 3) := by decide +kernel
theorem dL_acts_283 : decode cL_acts 283 = .ok (.iconst 0, 1) := by decide +kernel
theorem dL_acts_284 : decode cL_acts 284 = .ok (.ireturn, 1) := by decide +kernel
theorem dL_acts_285 : decode cL_acts 285 = .ok (.iload 4, 2) := by decide +kernel
theorem dL_acts_287 : decode cL_acts 287 = .ok (.ifCond .eq 14, 3) := by decide +kernel
theorem dL_acts_290 : decode cL_acts 290 = .ok (.aload_n 0, 1) := by decide +kernel
theorem dL_acts_291 : decode cL_acts 291 = .ok (.iload_n 2, 1) := by decide +kernel
theorem dL_acts_292 : decode cL_acts 292 = .ok (.iload 4, 2) := by decide +kernel
theorem dL_acts_294 : decode cL_acts 294 = .ok (.irem, 1) := by decide +kernel
theorem dL_acts_295 : decode cL_acts 295 = .ok (.invokestatic 91, 3) := by decide +kernel
theorem dL_acts_298 : decode cL_acts 298 = .ok (.ifCond .eq 7, 3) := by decide +kernel
theorem dL_acts_301 : decode cL_acts 301 = .ok (.iconst 1, 1) := by decide +kernel
theorem dL_acts_302 : decode cL_acts 302 = .ok (.goto 4, 3) := by decide +kernel
theorem dL_acts_305 : decode cL_acts 305 = .ok (.iconst 0, 1) := by decide +kernel
theorem dL_acts_306 : decode cL_acts 306 = .ok (.ireturn, 1) := by decide +kernel
theorem dL_acts_307 : decode cL_acts 307 = .ok (.aload_n 0, 1) := by decide +kernel
theorem dL_acts_308 : decode cL_acts 308 = .ok (.iconst 1, 1) := by decide +kernel
theorem dL_acts_309 : decode cL_acts 309 = .ok (.iload_n 2, 1) := by decide +kernel
theorem dL_acts_310 : decode cL_acts 310 = .ok (.bipush 12, 2) := by decide +kernel
theorem dL_acts_312 : decode cL_acts 312 = .ok (.irem, 1) := by decide +kernel
theorem dL_acts_313 : decode cL_acts 313 = .ok (.iadd, 1) := by decide +kernel
theorem dL_acts_314 : decode cL_acts 314 = .ok (.invokevirtual 94, 3) := by decide +kernel
theorem dL_acts_317 : decode cL_acts 317 = .ok (.ifCond .lt 37, 3) := by decide +kernel
theorem dL_acts_320 : decode cL_acts 320 = .ok (.iload 4, 2) := by decide +kernel
theorem dL_acts_322 : decode cL_acts 322 = .ok (.ifCond .eq 28, 3) := by decide +kernel
theorem dL_acts_325 : decode cL_acts 325 = .ok (.iload_n 2, 1) := by decide +kernel
theorem dL_acts_326 : decode cL_acts 326 = .ok (.bipush 6, 2) := by decide +kernel
theorem dL_acts_328 : decode cL_acts 328 = .ok (.ishr, 1) := by decide +kernel
theorem dL_acts_329 : decode cL_acts 329 = .ok (.iconst 1, 1) := by decide +kernel
theorem dL_acts_330 : decode cL_acts 330 = .ok (.iand, 1) := by decide +kernel
theorem dL_acts_331 : decode cL_acts 331 = .ok (.ifCond .eq 19, 3) := by decide +kernel
theorem dL_acts_334 : decode cL_acts 334 = .ok (.aload_n 0, 1) := by decide +kernel
theorem dL_acts_335 : decode cL_acts 335 = .ok (.iload_n 2, 1) := by decide +kernel
theorem dL_acts_336 : decode cL_acts 336 = .ok (.bipush 7, 2) := by decide +kernel
theorem dL_acts_338 : decode cL_acts 338 = .ok (.ishr, 1) := by decide +kernel
theorem dL_acts_339 : decode cL_acts 339 = .ok (.iload 4, 2) := by decide +kernel
theorem dL_acts_341 : decode cL_acts 341 = .ok (.irem, 1) := by decide +kernel
theorem dL_acts_342 : decode cL_acts 342 = .ok (.invokevirtual 97, 3) := by decide +kernel
theorem dL_acts_345 : decode cL_acts 345 = .ok (.bipush (-4), 2) := by decide +kernel
theorem dL_acts_347 : decode cL_acts 347 = .ok (.if_icmp .le 7, 3) := by decide +kernel
theorem dL_acts_350 : decode cL_acts 350 = .ok (.iconst 1, 1) := by decide +kernel
theorem dL_acts_351 : decode cL_acts 351 = .ok (.goto 4, 3) := by decide +kernel
theorem dL_acts_354 : decode cL_acts 354 = .ok (.iconst 0, 1) := by decide +kernel
theorem dL_acts_355 : decode cL_acts 355 = .ok (.ireturn, 1) := by decide +kernel
theorem dL_law_0 : decode cL_law 0 = .ok (.new 10, 3) := by decide +kernel
theorem dL_law_3 : decode cL_law 3 = .ok (.dup, 1) := by decide +kernel
theorem dL_law_4 : decode cL_law 4 = .ok (.invokespecial 100, 3) := by decide +kernel
theorem dL_law_7 : decode cL_law 7 = .ok (.astore_n 1, 1) := by decide +kernel
theorem dL_law_8 : decode cL_law 8 = .ok (.aload_n 0, 1) := by decide +kernel
theorem dL_law_9 : decode cL_law 9 = .ok (.iconst 0, 1) := by decide +kernel
theorem dL_law_10 : decode cL_law 10 = .ok (.invokestatic 101, 3) := by decide +kernel
theorem dL_law_13 : decode cL_law 13 = .ok (.istore_n 2, 1) := by decide +kernel
theorem dL_law_14 : decode cL_law 14 = .ok (.aload_n 1, 1) := by decide +kernel
theorem dL_law_15 : decode cL_law 15 = .ok (.invokevirtual 105, 3) := by decide +kernel
theorem dL_law_18 : decode cL_law 18 = .ok (.bipush (-3), 2) := by decide +kernel
theorem dL_law_20 : decode cL_law 20 = .ok (.if_icmp .ne 17, 3) := by decide +kernel
theorem dL_law_23 : decode cL_law 23 = .ok (.aload_n 1, 1) := by decide +kernel
theorem dL_law_24 : decode cL_law 24 = .ok (.iconst 0, 1) := by decide +kernel
theorem dL_law_25 : decode cL_law 25 = .ok (.invokevirtual 109, 3) := by decide +kernel
theorem dL_law_28 : decode cL_law 28 = .ok (.bipush (-3), 2) := by decide +kernel
theorem dL_law_30 : decode cL_law 30 = .ok (.if_icmp .ne 7, 3) := by decide +kernel
theorem dL_law_33 : decode cL_law 33 = .ok (.iconst 1, 1) := by decide +kernel
theorem dL_law_34 : decode cL_law 34 = .ok (.goto 4, 3) := by decide +kernel
theorem dL_law_37 : decode cL_law 37 = .ok (.iconst 0, 1) := by decide +kernel
theorem dL_law_38 : decode cL_law 38 = .ok (.istore_n 3, 1) := by decide +kernel
theorem dL_law_39 : decode cL_law 39 = .ok (.iconst 0, 1) := by decide +kernel
theorem dL_law_40 : decode cL_law 40 = .ok (.istore 4, 2) := by decide +kernel
theorem dL_law_42 : decode cL_law 42 = .ok (.iload 4, 2) := by decide +kernel
theorem dL_law_44 : decode cL_law 44 = .ok (.iconst 4, 1) := by decide +kernel
theorem dL_law_45 : decode cL_law 45 = .ok (.if_icmp .ge 154, 3) := by decide +kernel
theorem dL_law_48 : decode cL_law 48 = .ok (.iload_n 3, 1) := by decide +kernel
theorem dL_law_49 : decode cL_law 49 = .ok (.ifCond .eq 150, 3) := by decide +kernel
theorem dL_law_52 : decode cL_law 52 = .ok (.aload_n 0, 1) := by decide +kernel
theorem dL_law_53 : decode cL_law 53 = .ok (.iconst 1, 1) := by decide +kernel
theorem dL_law_54 : decode cL_law 54 = .ok (.iload 4, 2) := by decide +kernel
theorem dL_law_56 : decode cL_law 56 = .ok (.iadd, 1) := by decide +kernel
theorem dL_law_57 : decode cL_law 57 = .ok (.invokestatic 101, 3) := by decide +kernel
theorem dL_law_60 : decode cL_law 60 = .ok (.istore 5, 2) := by decide +kernel
theorem dL_law_62 : decode cL_law 62 = .ok (.iload_n 2, 1) := by decide +kernel
theorem dL_law_63 : decode cL_law 63 = .ok (.iload 4, 2) := by decide +kernel
theorem dL_law_65 : decode cL_law 65 = .ok (.ishr, 1) := by decide +kernel
theorem dL_law_66 : decode cL_law 66 = .ok (.iconst 3, 1) := by decide +kernel
theorem dL_law_67 : decode cL_law 67 = .ok (.irem, 1) := by decide +kernel
theorem dL_law_68 : decode cL_law 68 = .ok (.istore 6, 2) := by decide +kernel
theorem dL_law_70 : decode cL_law 70 = .ok (.aload_n 1, 1) := by decide +kernel
theorem dL_law_71 : decode cL_law 71 = .ok (.iload 6, 2) := by decide +kernel
theorem dL_law_73 : decode cL_law 73 = .ok (.iload 6, 2) := by decide +kernel
theorem dL_law_75 : decode cL_law 75 = .ok (.iload 5, 2) := by decide +kernel
theorem dL_law_77 : decode cL_law 77 = .ok (.iconst 3, 1) := by decide +kernel
theorem dL_law_78 : decode cL_law 78 = .ok (.irem, 1) := by decide +kernel
theorem dL_law_79 : decode cL_law 79 = .ok (.invokestatic 52, 3) := by decide +kernel
theorem dL_law_82 : decode cL_law 82 = .ok (.iload 6, 2) := by decide +kernel
theorem dL_law_84 : decode cL_law 84 = .ok (.iload 5, 2) := by decide +kernel
theorem dL_law_86 : decode cL_law 86 = .ok (.iconst 2, 1) := by decide +kernel
theorem dL_law_87 : decode cL_law 87 = .ok (.ishr, 1) := by decide +kernel
theorem dL_law_88 : decode cL_law 88 = .ok (.invokestatic 112, 3) := by decide +kernel
theorem dL_law_91 : decode cL_law 91 = .ok (.bipush 100, 2) := by decide +kernel
theorem dL_law_93 : decode cL_law 93 = .ok (.iload 5, 2) := by decide +kernel
theorem dL_law_95 : decode cL_law 95 = .ok (.iconst 5, 1) := by decide +kernel
theorem dL_law_96 : decode cL_law 96 = .ok (.ishr, 1) := by decide +kernel
theorem dL_law_97 : decode cL_law 97 = .ok (.sipush 3500, 3) := by decide +kernel
theorem dL_law_100 : decode cL_law 100 = .ok (.irem, 1) := by decide +kernel
theorem dL_law_101 : decode cL_law 101 = .ok (.iadd, 1) := by decide +kernel
theorem dL_law_102 : decode cL_law 102 = .ok (.iconst 2, 1) := by decide +kernel
theorem dL_law_103 : decode cL_law 103 = .ok (.iload 5, 2) := by decide +kernel
theorem dL_law_105 : decode cL_law 105 = .ok (.bipush 17, 2) := by decide +kernel
theorem dL_law_107 : decode cL_law 107 = .ok (.ishr, 1) := by decide +kernel
theorem dL_law_108 : decode cL_law 108 = .ok (.bipush 9, 2) := by decide +kernel
theorem dL_law_110 : decode cL_law 110 = .ok (.irem, 1) := by decide +kernel
theorem dL_law_111 : decode cL_law 111 = .ok (.iadd, 1) := by decide +kernel
theorem dL_law_112 : decode cL_law 112 = .ok (.invokevirtual 115, 3) := by decide +kernel
theorem dL_law_115 : decode cL_law 115 = .ok (.iload 4, 2) := by decide +kernel
theorem dL_law_117 : decode cL_law 117 = .ok (.if_icmp .ne 7, 3) := by decide +kernel
theorem dL_law_120 : decode cL_law 120 = .ok (.iconst 1, 1) := by decide +kernel
theorem dL_law_121 : decode cL_law 121 = .ok (.goto 4, 3) := by decide +kernel
theorem dL_law_124 : decode cL_law 124 = .ok (.iconst 0, 1) := by decide +kernel
theorem dL_law_125 : decode cL_law 125 = .ok (.istore_n 3, 1) := by decide +kernel
theorem dL_law_126 : decode cL_law 126 = .ok (.iload_n 3, 1) := by decide +kernel
theorem dL_law_127 : decode cL_law 127 = .ok (.ifCond .eq 64, 3) := by decide +kernel
theorem dL_law_130 : decode cL_law 130 = .ok (.iload 4, 2) := by decide +kernel
theorem dL_law_132 : decode cL_law 132 = .ok (.iconst 1, 1) := by decide +kernel
theorem dL_law_133 : decode cL_law 133 = .ok (.if_icmp .gt 54, 3) := by decide +kernel
theorem dL_law_136 : decode cL_law 136 = .ok (.aload_n 1, 1) := by decide +kernel
theorem dL_law_137 : decode cL_law 137 = .ok (.iload 6, 2) := by decide +kernel
theorem dL_law_139 : decode cL_law 139 = .ok (.iload 6, 2) := by decide +kernel
theorem dL_law_141 : decode cL_law 141 = .ok (.iconst 2, 1) := by decide +kernel
theorem dL_law_142 : decode cL_law 142 = .ok (.if_icmp .ne 7, 3) := by decide +kernel
theorem dL_law_145 : decode cL_law 145 = .ok (.iconst 1, 1) := by decide +kernel
theorem dL_law_146 : decode cL_law 146 = .ok (.goto 12, 3) := by decide +kernel
theorem dL_law_149 : decode cL_law 149 = .ok (.iconst 1, 1) := by decide +kernel
theorem dL_law_150 : decode cL_law 150 = .ok (.iload 5, 2) := by decide +kernel
theorem dL_law_152 : decode cL_law 152 = .ok (.iconst 4, 1) := by decide +kernel
theorem dL_law_153 : decode cL_law 153 = .ok (.ishr, 1) := by decide +kernel
theorem dL_law_154 : decode cL_law 154 = .ok (.bipush 7, 2) := by decide +kernel
theorem dL_law_156 : decode cL_law 156 = .ok (.irem, 1) := by decide +kernel
theorem dL_law_157 : decode cL_law 157 = .ok (.iadd, 1) := by decide +kernel
theorem dL_law_158 : decode cL_law 158 = .ok (.iload 6, 2) := by decide +kernel
theorem dL_law_160 : decode cL_law 160 = .ok (.iload 5, 2) := by decide +kernel
theorem dL_law_162 : decode cL_law 162 = .ok (.bipush 8, 2) := by decide +kernel
theorem dL_law_164 : decode cL_law 164 = .ok (.ishr, 1) := by decide +kernel
theorem dL_law_165 : decode cL_law 165 = .ok (.invokestatic 112, 3) := by decide +kernel
theorem dL_law_168 : decode cL_law 168 = .ok (.bipush 10, 2) := by decide +kernel
theorem dL_law_170 : decode cL_law 170 = .ok (.iload 5, 2) := by decide +kernel
theorem dL_law_172 : decode cL_law 172 = .ok (.bipush 12, 2) := by decide +kernel
theorem dL_law_174 : decode cL_law 174 = .ok (.ishr, 1) := by decide +kernel
theorem dL_law_175 : decode cL_law 175 = .ok (.bipush 91, 2) := by decide +kernel
theorem dL_law_177 : decode cL_law 177 = .ok (.irem, 1) := by decide +kernel
theorem dL_law_178 : decode cL_law 178 = .ok (.iadd, 1) := by decide +kernel
theorem dL_law_179 : decode cL_law 179 = .ok (.invokevirtual 118, 3) := by decide +kernel
theorem dL_law_182 : decode cL_law 182 = .ok (.iload 4, 2) := by decide +kernel
theorem dL_law_184 : decode cL_law 184 = .ok (.if_icmp .ne 7, 3) := by decide +kernel
theorem dL_law_187 : decode cL_law 187 = .ok (.iconst 1, 1) := by decide +kernel
theorem dL_law_188 : decode cL_law 188 = .ok (.goto 4, 3) := by decide +kernel
theorem dL_law_191 : decode cL_law 191 = .ok (.iconst 0, 1) := by decide +kernel
theorem dL_law_192 : decode cL_law 192 = .ok (.istore_n 3, 1) := by decide +kernel
theorem dL_law_193 : decode cL_law 193 = .ok (.iinc 4 1, 3) := by decide +kernel
theorem dL_law_196 : decode cL_law 196 = .ok (.goto (-154), 3) := by decide +kernel
theorem dL_law_199 : decode cL_law 199 = .ok (.iconst 0, 1) := by decide +kernel
theorem dL_law_200 : decode cL_law 200 = .ok (.istore 4, 2) := by decide +kernel
theorem dL_law_202 : decode cL_law 202 = .ok (.iload 4, 2) := by decide +kernel
theorem dL_law_204 : decode cL_law 204 = .ok (.bipush 36, 2) := by decide +kernel
theorem dL_law_206 : decode cL_law 206 = .ok (.if_icmp .ge 55, 3) := by decide +kernel
theorem dL_law_209 : decode cL_law 209 = .ok (.iload_n 3, 1) := by decide +kernel
theorem dL_law_210 : decode cL_law 210 = .ok (.ifCond .eq 51, 3) := by decide +kernel
theorem dL_law_213 : decode cL_law 213 = .ok (.aload_n 1, 1) := by decide +kernel
theorem dL_law_214 : decode cL_law 214 = .ok (.aload_n 0, 1) := by decide +kernel
theorem dL_law_215 : decode cL_law 215 = .ok (.iconst 5, 1) := by decide +kernel
theorem dL_law_216 : decode cL_law 216 = .ok (.iload 4, 2) := by decide +kernel
theorem dL_law_218 : decode cL_law 218 = .ok (.iadd, 1) := by decide +kernel
theorem dL_law_219 : decode cL_law 219 = .ok (.invokestatic 101, 3) := by decide +kernel
theorem dL_law_222 : decode cL_law 222 = .ok (.invokestatic 121, 3) := by decide +kernel
theorem dL_law_225 : decode cL_law 225 = .ok (.ifCond .eq 28, 3) := by decide +kernel
theorem dL_law_228 : decode cL_law 228 = .ok (.aload_n 1, 1) := by decide +kernel
theorem dL_law_229 : decode cL_law 229 = .ok (.invokestatic 124, 3) := by decide +kernel
theorem dL_law_232 : decode cL_law 232 = .ok (.ifCond .eq 21, 3) := by decide +kernel
theorem dL_law_235 : decode cL_law 235 = .ok (.aload_n 1, 1) := by decide +kernel
theorem dL_law_236 : decode cL_law 236 = .ok (.invokestatic 128, 3) := by decide +kernel
theorem dL_law_239 : decode cL_law 239 = .ok (.ifCond .eq 14, 3) := by decide +kernel
theorem dL_law_242 : decode cL_law 242 = .ok (.aload_n 1, 1) := by decide +kernel
theorem dL_law_243 : decode cL_law 243 = .ok (.invokestatic 131, 3) := by decide +kernel
theorem dL_law_246 : decode cL_law 246 = .ok (.ifCond .eq 7, 3) := by decide +kernel
theorem dL_law_249 : decode cL_law 249 = .ok (.iconst 1, 1) := by decide +kernel
theorem dL_law_250 : decode cL_law 250 = .ok (.goto 4, 3) := by decide +kernel
theorem dL_law_253 : decode cL_law 253 = .ok (.iconst 0, 1) := by decide +kernel
theorem dL_law_254 : decode cL_law 254 = .ok (.istore_n 3, 1) := by decide +kernel
theorem dL_law_255 : decode cL_law 255 = .ok (.iinc 4 1, 3) := by decide +kernel
theorem dL_law_258 : decode cL_law 258 = .ok (.goto (-56), 3) := by decide +kernel
theorem dL_law_261 : decode cL_law 261 = .ok (.aload_n 1, 1) := by decide +kernel
theorem dL_law_262 : decode cL_law 262 = .ok (.iconst 0, 1) := by decide +kernel
theorem dL_law_263 : decode cL_law 263 = .ok (.invokevirtual 9, 3) := by decide +kernel
theorem dL_law_266 : decode cL_law 266 = .ok (.istore 4, 2) := by decide +kernel
theorem dL_law_268 : decode cL_law 268 = .ok (.aload_n 1, 1) := by decide +kernel
theorem dL_law_269 : decode cL_law 269 = .ok (.iconst 4, 1) := by decide +kernel
theorem dL_law_270 : decode cL_law 270 = .ok (.invokevirtual 9, 3) := by decide +kernel
theorem dL_law_273 : decode cL_law 273 = .ok (.istore 5, 2) := by decide +kernel
theorem dL_law_275 : decode cL_law 275 = .ok (.aload_n 1, 1) := by decide +kernel
theorem dL_law_276 : decode cL_law 276 = .ok (.bipush 7, 2) := by decide +kernel
theorem dL_law_278 : decode cL_law 278 = .ok (.invokevirtual 9, 3) := by decide +kernel
theorem dL_law_281 : decode cL_law 281 = .ok (.istore 6, 2) := by decide +kernel
theorem dL_law_283 : decode cL_law 283 = .ok (.iload_n 3, 1) := by decide +kernel
theorem dL_law_284 : decode cL_law 284 = .ok (.ifCond .eq 71, 3) := by decide +kernel
theorem dL_law_287 : decode cL_law 287 = .ok (.aload_n 1, 1) := by decide +kernel
theorem dL_law_288 : decode cL_law 288 = .ok (.iconst 1, 1) := by decide +kernel
theorem dL_law_289 : decode cL_law 289 = .ok (.invokevirtual 134, 3) := by decide +kernel
theorem dL_law_292 : decode cL_law 292 = .ok (.iload 4, 2) := by decide +kernel
theorem dL_law_294 : decode cL_law 294 = .ok (.if_icmp .ne 61, 3) := by decide +kernel
theorem dL_law_297 : decode cL_law 297 = .ok (.aload_n 1, 1) := by decide +kernel
theorem dL_law_298 : decode cL_law 298 = .ok (.bipush 40, 2) := by decide +kernel
theorem dL_law_300 : decode cL_law 300 = .ok (.invokevirtual 94, 3) := by decide +kernel
theorem dL_law_303 : decode cL_law 303 = .ok (.ifCond .lt 52, 3) := by decide +kernel
theorem dL_law_306 : decode cL_law 306 = .ok (.aload_n 1, 1) := by decide +kernel
theorem dL_law_307 : decode cL_law 307 = .ok (.iconst 1, 1) := by decide +kernel
theorem dL_law_308 : decode cL_law 308 = .ok (.invokevirtual 109, 3) := by decide +kernel
theorem dL_law_311 : decode cL_law 311 = .ok (.iload 4, 2) := by decide +kernel
theorem dL_law_313 : decode cL_law 313 = .ok (.if_icmp .ne 42, 3) := by decide +kernel
theorem dL_law_316 : decode cL_law 316 = .ok (.aload_n 1, 1) := by decide +kernel
theorem dL_law_317 : decode cL_law 317 = .ok (.iconst 4, 1) := by decide +kernel
theorem dL_law_318 : decode cL_law 318 = .ok (.invokevirtual 9, 3) := by decide +kernel
theorem dL_law_321 : decode cL_law 321 = .ok (.iload 5, 2) := by decide +kernel
theorem dL_law_323 : decode cL_law 323 = .ok (.if_icmp .ne 32, 3) := by decide +kernel
theorem dL_law_326 : decode cL_law 326 = .ok (.aload_n 1, 1) := by decide +kernel
theorem dL_law_327 : decode cL_law 327 = .ok (.bipush 7, 2) := by decide +kernel
theorem dL_law_329 : decode cL_law 329 = .ok (.invokevirtual 9, 3) := by decide +kernel
theorem dL_law_332 : decode cL_law 332 = .ok (.iload 6, 2) := by decide +kernel
theorem dL_law_334 : decode cL_law 334 = .ok (.if_icmp .ne 21, 3) := by decide +kernel
theorem dL_law_337 : decode cL_law 337 = .ok (.aload_n 1, 1) := by decide +kernel
theorem dL_law_338 : decode cL_law 338 = .ok (.invokestatic 124, 3) := by decide +kernel
theorem dL_law_341 : decode cL_law 341 = .ok (.ifCond .eq 14, 3) := by decide +kernel
theorem dL_law_344 : decode cL_law 344 = .ok (.aload_n 1, 1) := by decide +kernel
theorem dL_law_345 : decode cL_law 345 = .ok (.invokestatic 128, 3) := by decide +kernel
theorem dL_law_348 : decode cL_law 348 = .ok (.ifCond .eq 7, 3) := by decide +kernel
theorem dL_law_351 : decode cL_law 351 = .ok (.iconst 1, 1) := by decide +kernel
theorem dL_law_352 : decode cL_law 352 = .ok (.goto 4, 3) := by decide +kernel
theorem dL_law_355 : decode cL_law 355 = .ok (.iconst 0, 1) := by decide +kernel
theorem dL_law_356 : decode cL_law 356 = .ok (.istore_n 3, 1) := by decide +kernel
theorem dL_law_357 : decode cL_law 357 = .ok (.iload_n 3, 1) := by decide +kernel
theorem dL_law_358 : decode cL_law 358 = .ok (.ifCond .eq 55, 3) := by decide +kernel
theorem dL_law_361 : decode cL_law 361 = .ok (.aload_n 1, 1) := by decide +kernel
theorem dL_law_362 : decode cL_law 362 = .ok (.invokevirtual 105, 3) := by decide +kernel
theorem dL_law_365 : decode cL_law 365 = .ok (.ifCond .lt 48, 3) := by decide +kernel
theorem dL_law_368 : decode cL_law 368 = .ok (.aload_n 1, 1) := by decide +kernel
theorem dL_law_369 : decode cL_law 369 = .ok (.iconst 0, 1) := by decide +kernel
theorem dL_law_370 : decode cL_law 370 = .ok (.invokevirtual 9, 3) := by decide +kernel
theorem dL_law_373 : decode cL_law 373 = .ok (.iload 4, 2) := by decide +kernel
theorem dL_law_375 : decode cL_law 375 = .ok (.bipush 40, 2) := by decide +kernel
theorem dL_law_377 : decode cL_law 377 = .ok (.iadd, 1) := by decide +kernel
theorem dL_law_378 : decode cL_law 378 = .ok (.if_icmp .ne 35, 3) := by decide +kernel
theorem dL_law_381 : decode cL_law 381 = .ok (.aload_n 1, 1) := by decide +kernel
theorem dL_law_382 : decode cL_law 382 = .ok (.invokevirtual 105, 3) := by decide +kernel
theorem dL_law_385 : decode cL_law 385 = .ok (.ifCond .lt 28, 3) := by decide +kernel
theorem dL_law_388 : decode cL_law 388 = .ok (.aload_n 1, 1) := by decide +kernel
theorem dL_law_389 : decode cL_law 389 = .ok (.iconst 0, 1) := by decide +kernel
theorem dL_law_390 : decode cL_law 390 = .ok (.invokevirtual 9, 3) := by decide +kernel
theorem dL_law_393 : decode cL_law 393 = .ok (.iload 4, 2) := by decide +kernel
theorem dL_law_395 : decode cL_law 395 = .ok (.if_icmp .ne 18, 3) := by decide +kernel
theorem dL_law_398 : decode cL_law 398 = .ok (.aload_n 1, 1) := by decide +kernel
theorem dL_law_399 : decode cL_law 399 = .ok (.bipush 7, 2) := by decide +kernel
theorem dL_law_401 : decode cL_law 401 = .ok (.invokevirtual 9, 3) := by decide +kernel
theorem dL_law_404 : decode cL_law 404 = .ok (.iload 6, 2) := by decide +kernel
theorem dL_law_406 : decode cL_law 406 = .ok (.if_icmp .ne 7, 3) := by decide +kernel
theorem dL_law_409 : decode cL_law 409 = .ok (.iconst 1, 1) := by decide +kernel
theorem dL_law_410 : decode cL_law 410 = .ok (.goto 4, 3) := by decide +kernel
theorem dL_law_413 : decode cL_law 413 = .ok (.iconst 0, 1) := by decide +kernel
theorem dL_law_414 : decode cL_law 414 = .ok (.ireturn, 1) := by decide +kernel
