theorem dJ6_bitCount_0f7a4_0 : decode cJ6_bitCount_0f7a4 0 = .ok (.iload_n 0, 1) := by decide +kernel
theorem dJ6_bitCount_0f7a4_1 : decode cJ6_bitCount_0f7a4 1 = .ok (.iload_n 0, 1) := by decide +kernel
theorem dJ6_bitCount_0f7a4_2 : decode cJ6_bitCount_0f7a4 2 = .ok (.iconst 1, 1) := by decide +kernel
theorem dJ6_bitCount_0f7a4_3 : decode cJ6_bitCount_0f7a4 3 = .ok (.iushr, 1) := by decide +kernel
theorem dJ6_bitCount_0f7a4_4 : decode cJ6_bitCount_0f7a4 4 = .ok (.ldc_w 265, 3) := by decide +kernel
theorem dJ6_bitCount_0f7a4_7 : decode cJ6_bitCount_0f7a4 7 = .ok (.iand, 1) := by decide +kernel
theorem dJ6_bitCount_0f7a4_8 : decode cJ6_bitCount_0f7a4 8 = .ok (.isub, 1) := by decide +kernel
theorem dJ6_bitCount_0f7a4_9 : decode cJ6_bitCount_0f7a4 9 = .ok (.istore_n 0, 1) := by decide +kernel
theorem dJ6_bitCount_0f7a4_10 : decode cJ6_bitCount_0f7a4 10 = .ok (.iload_n 0, 1) := by decide +kernel
theorem dJ6_bitCount_0f7a4_11 : decode cJ6_bitCount_0f7a4 11 = .ok (.ldc_w 266, 3) := by decide +kernel
theorem dJ6_bitCount_0f7a4_14 : decode cJ6_bitCount_0f7a4 14 = .ok (.iand, 1) := by decide +kernel
theorem dJ6_bitCount_0f7a4_15 : decode cJ6_bitCount_0f7a4 15 = .ok (.iload_n 0, 1) := by decide +kernel
theorem dJ6_bitCount_0f7a4_16 : decode cJ6_bitCount_0f7a4 16 = .ok (.iconst 2, 1) := by decide +kernel
theorem dJ6_bitCount_0f7a4_17 : decode cJ6_bitCount_0f7a4 17 = .ok (.iushr, 1) := by decide +kernel
theorem dJ6_bitCount_0f7a4_18 : decode cJ6_bitCount_0f7a4 18 = .ok (.ldc_w 266, 3) := by decide +kernel
theorem dJ6_bitCount_0f7a4_21 : decode cJ6_bitCount_0f7a4 21 = .ok (.iand, 1) := by decide +kernel
theorem dJ6_bitCount_0f7a4_22 : decode cJ6_bitCount_0f7a4 22 = .ok (.iadd, 1) := by decide +kernel
theorem dJ6_bitCount_0f7a4_23 : decode cJ6_bitCount_0f7a4 23 = .ok (.istore_n 0, 1) := by decide +kernel
theorem dJ6_bitCount_0f7a4_24 : decode cJ6_bitCount_0f7a4 24 = .ok (.iload_n 0, 1) := by decide +kernel
theorem dJ6_bitCount_0f7a4_25 : decode cJ6_bitCount_0f7a4 25 = .ok (.iload_n 0, 1) := by decide +kernel
theorem dJ6_bitCount_0f7a4_26 : decode cJ6_bitCount_0f7a4 26 = .ok (.iconst 4, 1) := by decide +kernel
theorem dJ6_bitCount_0f7a4_27 : decode cJ6_bitCount_0f7a4 27 = .ok (.iushr, 1) := by decide +kernel
theorem dJ6_bitCount_0f7a4_28 : decode cJ6_bitCount_0f7a4 28 = .ok (.iadd, 1) := by decide +kernel
theorem dJ6_bitCount_0f7a4_29 : decode cJ6_bitCount_0f7a4 29 = .ok (.ldc_w 267, 3) := by decide +kernel
theorem dJ6_bitCount_0f7a4_32 : decode cJ6_bitCount_0f7a4 32 = .ok (.iand, 1) := by decide +kernel
theorem dJ6_bitCount_0f7a4_33 : decode cJ6_bitCount_0f7a4 33 = .ok (.istore_n 0, 1) := by decide +kernel
theorem dJ6_bitCount_0f7a4_34 : decode cJ6_bitCount_0f7a4 34 = .ok (.iload_n 0, 1) := by decide +kernel
theorem dJ6_bitCount_0f7a4_35 : decode cJ6_bitCount_0f7a4 35 = .ok (.iload_n 0, 1) := by decide +kernel
theorem dJ6_bitCount_0f7a4_36 : decode cJ6_bitCount_0f7a4 36 = .ok (.bipush 8, 2) := by decide +kernel
theorem dJ6_bitCount_0f7a4_38 : decode cJ6_bitCount_0f7a4 38 = .ok (.iushr, 1) := by decide +kernel
theorem dJ6_bitCount_0f7a4_39 : decode cJ6_bitCount_0f7a4 39 = .ok (.iadd, 1) := by decide +kernel
theorem dJ6_bitCount_0f7a4_40 : decode cJ6_bitCount_0f7a4 40 = .ok (.istore_n 0, 1) := by decide +kernel
theorem dJ6_bitCount_0f7a4_41 : decode cJ6_bitCount_0f7a4 41 = .ok (.iload_n 0, 1) := by decide +kernel
theorem dJ6_bitCount_0f7a4_42 : decode cJ6_bitCount_0f7a4 42 = .ok (.iload_n 0, 1) := by decide +kernel
theorem dJ6_bitCount_0f7a4_43 : decode cJ6_bitCount_0f7a4 43 = .ok (.bipush 16, 2) := by decide +kernel
theorem dJ6_bitCount_0f7a4_45 : decode cJ6_bitCount_0f7a4 45 = .ok (.iushr, 1) := by decide +kernel
theorem dJ6_bitCount_0f7a4_46 : decode cJ6_bitCount_0f7a4 46 = .ok (.iadd, 1) := by decide +kernel
theorem dJ6_bitCount_0f7a4_47 : decode cJ6_bitCount_0f7a4 47 = .ok (.istore_n 0, 1) := by decide +kernel
theorem dJ6_bitCount_0f7a4_48 : decode cJ6_bitCount_0f7a4 48 = .ok (.iload_n 0, 1) := by decide +kernel
theorem dJ6_bitCount_0f7a4_49 : decode cJ6_bitCount_0f7a4 49 = .ok (.bipush 63, 2) := by decide +kernel
theorem dJ6_bitCount_0f7a4_51 : decode cJ6_bitCount_0f7a4 51 = .ok (.iand, 1) := by decide +kernel
theorem dJ6_bitCount_0f7a4_52 : decode cJ6_bitCount_0f7a4 52 = .ok (.ireturn, 1) := by decide +kernel
theorem dJ9_floorMod_7cf53_0 : decode cJ9_floorMod_7cf53 0 = .ok (.iload_n 0, 1) := by decide +kernel
theorem dJ9_floorMod_7cf53_1 : decode cJ9_floorMod_7cf53 1 = .ok (.iload_n 1, 1) := by decide +kernel
theorem dJ9_floorMod_7cf53_2 : decode cJ9_floorMod_7cf53 2 = .ok (.irem, 1) := by decide +kernel
theorem dJ9_floorMod_7cf53_3 : decode cJ9_floorMod_7cf53 3 = .ok (.istore_n 2, 1) := by decide +kernel
theorem dJ9_floorMod_7cf53_4 : decode cJ9_floorMod_7cf53 4 = .ok (.iload_n 0, 1) := by decide +kernel
theorem dJ9_floorMod_7cf53_5 : decode cJ9_floorMod_7cf53 5 = .ok (.iload_n 1, 1) := by decide +kernel
theorem dJ9_floorMod_7cf53_6 : decode cJ9_floorMod_7cf53 6 = .ok (.ixor, 1) := by decide +kernel
theorem dJ9_floorMod_7cf53_7 : decode cJ9_floorMod_7cf53 7 = .ok (.ifCond .ge 11, 3) := by decide +kernel
theorem dJ9_floorMod_7cf53_10 : decode cJ9_floorMod_7cf53 10 = .ok (.iload_n 2, 1) := by decide +kernel
theorem dJ9_floorMod_7cf53_11 : decode cJ9_floorMod_7cf53 11 = .ok (.ifCond .eq 7, 3) := by decide +kernel
theorem dJ9_floorMod_7cf53_14 : decode cJ9_floorMod_7cf53 14 = .ok (.iload_n 2, 1) := by decide +kernel
theorem dJ9_floorMod_7cf53_15 : decode cJ9_floorMod_7cf53 15 = .ok (.iload_n 1, 1) := by decide +kernel
theorem dJ9_floorMod_7cf53_16 : decode cJ9_floorMod_7cf53 16 = .ok (.iadd, 1) := by decide +kernel
theorem dJ9_floorMod_7cf53_17 : decode cJ9_floorMod_7cf53 17 = .ok (.ireturn, 1) := by decide +kernel
theorem dJ9_floorMod_7cf53_18 : decode cJ9_floorMod_7cf53 18 = .ok (.iload_n 2, 1) := by decide +kernel
theorem dJ9_floorMod_7cf53_19 : decode cJ9_floorMod_7cf53 19 = .ok (.ireturn, 1) := by decide +kernel
theorem dJ9_abs_0f7a4_0 : decode cJ9_abs_0f7a4 0 = .ok (.iload_n 0, 1) := by decide +kernel
theorem dJ9_abs_0f7a4_1 : decode cJ9_abs_0f7a4 1 = .ok (.ifCond .ge 8, 3) := by decide +kernel
theorem dJ9_abs_0f7a4_4 : decode cJ9_abs_0f7a4 4 = .ok (.iload_n 0, 1) := by decide +kernel
theorem dJ9_abs_0f7a4_5 : decode cJ9_abs_0f7a4 5 = .ok (.ineg, 1) := by decide +kernel
theorem dJ9_abs_0f7a4_6 : decode cJ9_abs_0f7a4 6 = .ok (.goto 4, 3) := by decide +kernel
theorem dJ9_abs_0f7a4_9 : decode cJ9_abs_0f7a4 9 = .ok (.iload_n 0, 1) := by decide +kernel
theorem dJ9_abs_0f7a4_10 : decode cJ9_abs_0f7a4 10 = .ok (.ireturn, 1) := by decide +kernel
theorem dJ9_max_7cf53_0 : decode cJ9_max_7cf53 0 = .ok (.iload_n 0, 1) := by decide +kernel
theorem dJ9_max_7cf53_1 : decode cJ9_max_7cf53 1 = .ok (.iload_n 1, 1) := by decide +kernel
theorem dJ9_max_7cf53_2 : decode cJ9_max_7cf53 2 = .ok (.if_icmp .lt 7, 3) := by decide +kernel
theorem dJ9_max_7cf53_5 : decode cJ9_max_7cf53 5 = .ok (.iload_n 0, 1) := by decide +kernel
theorem dJ9_max_7cf53_6 : decode cJ9_max_7cf53 6 = .ok (.goto 4, 3) := by decide +kernel
theorem dJ9_max_7cf53_9 : decode cJ9_max_7cf53 9 = .ok (.iload_n 1, 1) := by decide +kernel
theorem dJ9_max_7cf53_10 : decode cJ9_max_7cf53 10 = .ok (.ireturn, 1) := by decide +kernel
theorem dL_cell_0 : decode cL_cell 0 = .ok (.iload_n 1, 1) := by decide +kernel
theorem dL_cell_1 : decode cL_cell 1 = .ok (.aload_n 0, 1) := by decide +kernel
theorem dL_cell_2 : decode cL_cell 2 = .ok (.arraylength, 1) := by decide +kernel
theorem dL_cell_3 : decode cL_cell 3 = .ok (.if_icmp .ge 9, 3) := by decide +kernel
theorem dL_cell_6 : decode cL_cell 6 = .ok (.aload_n 0, 1) := by decide +kernel
theorem dL_cell_7 : decode cL_cell 7 = .ok (.iload_n 1, 1) := by decide +kernel
theorem dL_cell_8 : decode cL_cell 8 = .ok (.iaload, 1) := by decide +kernel
theorem dL_cell_9 : decode cL_cell 9 = .ok (.goto 4, 3) := by decide +kernel
theorem dL_cell_12 : decode cL_cell 12 = .ok (.iconst 0, 1) := by decide +kernel
theorem dL_cell_13 : decode cL_cell 13 = .ok (.ireturn, 1) := by decide +kernel
theorem dL_deed_0 : decode cL_deed 0 = .ok (.iload_n 1, 1) := by decide +kernel
theorem dL_deed_1 : decode cL_deed 1 = .ok (.iconst 4, 1) := by decide +kernel
theorem dL_deed_2 : decode cL_deed 2 = .ok (.iushr, 1) := by decide +kernel
theorem dL_deed_3 : decode cL_deed 3 = .ok (.bipush 15, 2) := by decide +kernel
theorem dL_deed_5 : decode cL_deed 5 = .ok (.iand, 1) := by decide +kernel
theorem dL_deed_6 : decode cL_deed 6 = .ok (.aload_n 0, 1) := by decide +kernel
theorem dL_deed_7 : decode cL_deed 7 = .ok (.invokevirtual 7, 3) := by decide +kernel
theorem dL_deed_10 : decode cL_deed 10 = .ok (.irem, 1) := by decide +kernel
theorem dL_deed_11 : decode cL_deed 11 = .ok (.istore_n 2, 1) := by decide +kernel
theorem dL_deed_12 : decode cL_deed 12 = .ok (.iload_n 1, 1) := by decide +kernel
theorem dL_deed_13 : decode cL_deed 13 = .ok (.bipush 8, 2) := by decide +kernel
theorem dL_deed_15 : decode cL_deed 15 = .ok (.iushr, 1) := by decide +kernel
theorem dL_deed_16 : decode cL_deed 16 = .ok (.sipush 1023, 3) := by decide +kernel
theorem dL_deed_19 : decode cL_deed 19 = .ok (.iand, 1) := by decide +kernel
theorem dL_deed_20 : decode cL_deed 20 = .ok (.istore_n 3, 1) := by decide +kernel
theorem dL_deed_21 : decode cL_deed 21 = .ok (.iload_n 1, 1) := by decide +kernel
theorem dL_deed_22 : decode cL_deed 22 = .ok (.bipush 18, 2) := by decide +kernel
theorem dL_deed_24 : decode cL_deed 24 = .ok (.iushr, 1) := by decide +kernel
theorem dL_deed_25 : decode cL_deed 25 = .ok (.bipush 63, 2) := by decide +kernel
theorem dL_deed_27 : decode cL_deed 27 = .ok (.iand, 1) := by decide +kernel
theorem dL_deed_28 : decode cL_deed 28 = .ok (.istore 4, 2) := by decide +kernel
theorem dL_deed_30 : decode cL_deed 30 = .ok (.iload_n 3, 1) := by decide +kernel
theorem dL_deed_31 : decode cL_deed 31 = .ok (.aload_n 0, 1) := by decide +kernel
theorem dL_deed_32 : decode cL_deed 32 = .ok (.invokevirtual 13, 3) := by decide +kernel
theorem dL_deed_35 : decode cL_deed 35 = .ok (.irem, 1) := by decide +kernel
theorem dL_deed_36 : decode cL_deed 36 = .ok (.istore 5, 2) := by decide +kernel
theorem dL_deed_38 : decode cL_deed 38 = .ok (.iload_n 1, 1) := by decide +kernel
theorem dL_deed_39 : decode cL_deed 39 = .ok (.bipush 15, 2) := by decide +kernel
theorem dL_deed_41 : decode cL_deed 41 = .ok (.iand, 1) := by decide +kernel
theorem dL_deed_42 : decode cL_deed 42 = .ok (.tableswitch 388 0 14 #[74, 74, 121, 121, 134, 143, 155, 170, 195, 219, 236, 290, 313, 338, 378], 74) := by decide +kernel
theorem dL_deed_116 : decode cL_deed 116 = .ok (.aload_n 0, 1) := by decide +kernel
theorem dL_deed_117 : decode cL_deed 117 = .ok (.iload_n 2, 1) := by decide +kernel
theorem dL_deed_118 : decode cL_deed 118 = .ok (.invokevirtual 16, 3) := by decide +kernel
theorem dL_deed_121 : decode cL_deed 121 = .ok (.ifCond .ne 29, 3) := by decide +kernel
theorem dL_deed_124 : decode cL_deed 124 = .ok (.aload_n 0, 1) := by decide +kernel
theorem dL_deed_125 : decode cL_deed 125 = .ok (.iload_n 2, 1) := by decide +kernel
theorem dL_deed_126 : decode cL_deed 126 = .ok (.iconst 1, 1) := by decide +kernel
theorem dL_deed_127 : decode cL_deed 127 = .ok (.iload_n 3, 1) := by decide +kernel
theorem dL_deed_128 : decode cL_deed 128 = .ok (.aload_n 0, 1) := by decide +kernel
theorem dL_deed_129 : decode cL_deed 129 = .ok (.iload_n 2, 1) := by decide +kernel
theorem dL_deed_130 : decode cL_deed 130 = .ok (.invokevirtual 20, 3) := by decide +kernel
theorem dL_deed_133 : decode cL_deed 133 = .ok (.irem, 1) := by decide +kernel
theorem dL_deed_134 : decode cL_deed 134 = .ok (.iadd, 1) := by decide +kernel
theorem dL_deed_135 : decode cL_deed 135 = .ok (.sipush 600, 3) := by decide +kernel
theorem dL_deed_138 : decode cL_deed 138 = .ok (.iload 4, 2) := by decide +kernel
theorem dL_deed_140 : decode cL_deed 140 = .ok (.iconst 4, 1) := by decide +kernel
theorem dL_deed_141 : decode cL_deed 141 = .ok (.imul, 1) := by decide +kernel
theorem dL_deed_142 : decode cL_deed 142 = .ok (.iadd, 1) := by decide +kernel
theorem dL_deed_143 : decode cL_deed 143 = .ok (.invokevirtual 23, 3) := by decide +kernel
theorem dL_deed_146 : decode cL_deed 146 = .ok (.pop, 1) := by decide +kernel
theorem dL_deed_147 : decode cL_deed 147 = .ok (.goto 311, 3) := by decide +kernel
theorem dL_deed_150 : decode cL_deed 150 = .ok (.aload_n 0, 1) := by decide +kernel
theorem dL_deed_151 : decode cL_deed 151 = .ok (.iload_n 2, 1) := by decide +kernel
theorem dL_deed_152 : decode cL_deed 152 = .ok (.iload_n 3, 1) := by decide +kernel
theorem dL_deed_153 : decode cL_deed 153 = .ok (.bipush 6, 2) := by decide +kernel
theorem dL_deed_155 : decode cL_deed 155 = .ok (.irem, 1) := by decide +kernel
theorem dL_deed_156 : decode cL_deed 156 = .ok (.invokevirtual 27, 3) := by decide +kernel
theorem dL_deed_159 : decode cL_deed 159 = .ok (.pop, 1) := by decide +kernel
theorem dL_deed_160 : decode cL_deed 160 = .ok (.goto 298, 3) := by decide +kernel
theorem dL_deed_163 : decode cL_deed 163 = .ok (.aload_n 0, 1) := by decide +kernel
theorem dL_deed_164 : decode cL_deed 164 = .ok (.iload_n 2, 1) := by decide +kernel
theorem dL_deed_165 : decode cL_deed 165 = .ok (.iload_n 3, 1) := by decide +kernel
theorem dL_deed_166 : decode cL_deed 166 = .ok (.bipush 6, 2) := by decide +kernel
theorem dL_deed_168 : decode cL_deed 168 = .ok (.irem, 1) := by decide +kernel
theorem dL_deed_169 : decode cL_deed 169 = .ok (.invokevirtual 27, 3) := by decide +kernel
theorem dL_deed_172 : decode cL_deed 172 = .ok (.pop, 1) := by decide +kernel
theorem dL_deed_173 : decode cL_deed 173 = .ok (.goto 285, 3) := by decide +kernel
theorem dL_deed_176 : decode cL_deed 176 = .ok (.aload_n 0, 1) := by decide +kernel
theorem dL_deed_177 : decode cL_deed 177 = .ok (.iload_n 2, 1) := by decide +kernel
theorem dL_deed_178 : decode cL_deed 178 = .ok (.invokevirtual 31, 3) := by decide +kernel
theorem dL_deed_181 : decode cL_deed 181 = .ok (.pop, 1) := by decide +kernel
theorem dL_deed_182 : decode cL_deed 182 = .ok (.goto 276, 3) := by decide +kernel
theorem dL_deed_185 : decode cL_deed 185 = .ok (.aload_n 0, 1) := by decide +kernel
theorem dL_deed_186 : decode cL_deed 186 = .ok (.iload_n 3, 1) := by decide +kernel
theorem dL_deed_187 : decode cL_deed 187 = .ok (.bipush 6, 2) := by decide +kernel
theorem dL_deed_189 : decode cL_deed 189 = .ok (.irem, 1) := by decide +kernel
theorem dL_deed_190 : decode cL_deed 190 = .ok (.invokevirtual 35, 3) := by decide +kernel
theorem dL_deed_193 : decode cL_deed 193 = .ok (.pop, 1) := by decide +kernel
theorem dL_deed_194 : decode cL_deed 194 = .ok (.goto 264, 3) := by decide +kernel
theorem dL_deed_197 : decode cL_deed 197 = .ok (.aload_n 0, 1) := by decide +kernel
theorem dL_deed_198 : decode cL_deed 198 = .ok (.bipush 20, 2) := by decide +kernel
theorem dL_deed_200 : decode cL_deed 200 = .ok (.iload_n 3, 1) := by decide +kernel
theorem dL_deed_201 : decode cL_deed 201 = .ok (.bipush 76, 2) := by decide +kernel
theorem dL_deed_203 : decode cL_deed 203 = .ok (.irem, 1) := by decide +kernel
theorem dL_deed_204 : decode cL_deed 204 = .ok (.iadd, 1) := by decide +kernel
theorem dL_deed_205 : decode cL_deed 205 = .ok (.invokevirtual 38, 3) := by decide +kernel
theorem dL_deed_208 : decode cL_deed 208 = .ok (.pop, 1) := by decide +kernel
theorem dL_deed_209 : decode cL_deed 209 = .ok (.goto 249, 3) := by decide +kernel
theorem dL_deed_212 : decode cL_deed 212 = .ok (.aload_n 0, 1) := by decide +kernel
theorem dL_deed_213 : decode cL_deed 213 = .ok (.iload_n 2, 1) := by decide +kernel
theorem dL_deed_214 : decode cL_deed 214 = .ok (.invokevirtual 16, 3) := by decide +kernel
theorem dL_deed_217 : decode cL_deed 217 = .ok (.ifCond .le 241, 3) := by decide +kernel
theorem dL_deed_220 : decode cL_deed 220 = .ok (.aload_n 0, 1) := by decide +kernel
theorem dL_deed_221 : decode cL_deed 221 = .ok (.iload_n 2, 1) := by decide +kernel
theorem dL_deed_222 : decode cL_deed 222 = .ok (.invokevirtual 41, 3) := by decide +kernel
theorem dL_deed_225 : decode cL_deed 225 = .ok (.ifCond .ne 233, 3) := by decide +kernel
theorem dL_deed_228 : decode cL_deed 228 = .ok (.aload_n 0, 1) := by decide +kernel
theorem dL_deed_229 : decode cL_deed 229 = .ok (.iload_n 2, 1) := by decide +kernel
theorem dL_deed_230 : decode cL_deed 230 = .ok (.invokevirtual 44, 3) := by decide +kernel
theorem dL_deed_233 : decode cL_deed 233 = .ok (.pop, 1) := by decide +kernel
theorem dL_deed_234 : decode cL_deed 234 = .ok (.goto 224, 3) := by decide +kernel
theorem dL_deed_237 : decode cL_deed 237 = .ok (.aload_n 0, 1) := by decide +kernel
theorem dL_deed_238 : decode cL_deed 238 = .ok (.sipush 500, 3) := by decide +kernel
theorem dL_deed_241 : decode cL_deed 241 = .ok (.iload_n 3, 1) := by decide +kernel
theorem dL_deed_242 : decode cL_deed 242 = .ok (.sipush 201, 3) := by decide +kernel
theorem dL_deed_245 : decode cL_deed 245 = .ok (.irem, 1) := by decide +kernel
theorem dL_deed_246 : decode cL_deed 246 = .ok (.iadd, 1) := by decide +kernel
theorem dL_deed_247 : decode cL_deed 247 = .ok (.iconst 5, 1) := by decide +kernel
theorem dL_deed_248 : decode cL_deed 248 = .ok (.iload 4, 2) := by decide +kernel
theorem dL_deed_250 : decode cL_deed 250 = .ok (.bipush 46, 2) := by decide +kernel
theorem dL_deed_252 : decode cL_deed 252 = .ok (.irem, 1) := by decide +kernel
theorem dL_deed_253 : decode cL_deed 253 = .ok (.iadd, 1) := by decide +kernel
theorem dL_deed_254 : decode cL_deed 254 = .ok (.invokevirtual 47, 3) := by decide +kernel
theorem dL_deed_257 : decode cL_deed 257 = .ok (.pop, 1) := by decide +kernel
theorem dL_deed_258 : decode cL_deed 258 = .ok (.goto 200, 3) := by decide +kernel
theorem dL_deed_261 : decode cL_deed 261 = .ok (.aload_n 0, 1) := by decide +kernel
theorem dL_deed_262 : decode cL_deed 262 = .ok (.iload_n 2, 1) := by decide +kernel
theorem dL_deed_263 : decode cL_deed 263 = .ok (.invokevirtual 16, 3) := by decide +kernel
theorem dL_deed_266 : decode cL_deed 266 = .ok (.ifCond .le 192, 3) := by decide +kernel
theorem dL_deed_269 : decode cL_deed 269 = .ok (.aload_n 0, 1) := by decide +kernel
theorem dL_deed_270 : decode cL_deed 270 = .ok (.iload_n 2, 1) := by decide +kernel
theorem dL_deed_271 : decode cL_deed 271 = .ok (.invokevirtual 44, 3) := by decide +kernel
theorem dL_deed_274 : decode cL_deed 274 = .ok (.pop, 1) := by decide +kernel
theorem dL_deed_275 : decode cL_deed 275 = .ok (.goto 183, 3) := by decide +kernel
theorem dL_deed_278 : decode cL_deed 278 = .ok (.aload_n 0, 1) := by decide +kernel
theorem dL_deed_279 : decode cL_deed 279 = .ok (.iload_n 2, 1) := by decide +kernel
theorem dL_deed_280 : decode cL_deed 280 = .ok (.invokevirtual 50, 3) := by decide +kernel
theorem dL_deed_283 : decode cL_deed 283 = .ok (.ifCond .ne 12, 3) := by decide +kernel
theorem dL_deed_286 : decode cL_deed 286 = .ok (.aload_n 0, 1) := by decide +kernel
theorem dL_deed_287 : decode cL_deed 287 = .ok (.iload_n 2, 1) := by decide +kernel
theorem dL_deed_288 : decode cL_deed 288 = .ok (.invokevirtual 53, 3) := by decide +kernel
theorem dL_deed_291 : decode cL_deed 291 = .ok (.pop, 1) := by decide +kernel
theorem dL_deed_292 : decode cL_deed 292 = .ok (.goto 166, 3) := by decide +kernel
theorem dL_deed_295 : decode cL_deed 295 = .ok (.aload_n 0, 1) := by decide +kernel
theorem dL_deed_296 : decode cL_deed 296 = .ok (.iload_n 2, 1) := by decide +kernel
theorem dL_deed_297 : decode cL_deed 297 = .ok (.invokevirtual 56, 3) := by decide +kernel
theorem dL_deed_300 : decode cL_deed 300 = .ok (.ifCond .le 158, 3) := by decide +kernel
theorem dL_deed_303 : decode cL_deed 303 = .ok (.aload_n 0, 1) := by decide +kernel
theorem dL_deed_304 : decode cL_deed 304 = .ok (.invokevirtual 59, 3) := by decide +kernel
theorem dL_deed_307 : decode cL_deed 307 = .ok (.aload_n 0, 1) := by decide +kernel
theorem dL_deed_308 : decode cL_deed 308 = .ok (.iload_n 2, 1) := by decide +kernel
theorem dL_deed_309 : decode cL_deed 309 = .ok (.invokevirtual 56, 3) := by decide +kernel
theorem dL_deed_312 : decode cL_deed 312 = .ok (.iadd, 1) := by decide +kernel
theorem dL_deed_313 : decode cL_deed 313 = .ok (.sipush 2000, 3) := by decide +kernel
theorem dL_deed_316 : decode cL_deed 316 = .ok (.if_icmp .gt 142, 3) := by decide +kernel
theorem dL_deed_319 : decode cL_deed 319 = .ok (.aload_n 0, 1) := by decide +kernel
theorem dL_deed_320 : decode cL_deed 320 = .ok (.aload_n 0, 1) := by decide +kernel
theorem dL_deed_321 : decode cL_deed 321 = .ok (.iload_n 2, 1) := by decide +kernel
theorem dL_deed_322 : decode cL_deed 322 = .ok (.invokevirtual 56, 3) := by decide +kernel
theorem dL_deed_325 : decode cL_deed 325 = .ok (.invokevirtual 62, 3) := by decide +kernel
theorem dL_deed_328 : decode cL_deed 328 = .ok (.pop, 1) := by decide +kernel
theorem dL_deed_329 : decode cL_deed 329 = .ok (.goto 129, 3) := by decide +kernel
theorem dL_deed_332 : decode cL_deed 332 = .ok (.aload_n 0, 1) := by decide +kernel
theorem dL_deed_333 : decode cL_deed 333 = .ok (.iload_n 2, 1) := by decide +kernel
theorem dL_deed_334 : decode cL_deed 334 = .ok (.invokevirtual 16, 3) := by decide +kernel
theorem dL_deed_337 : decode cL_deed 337 = .ok (.ifCond .le 121, 3) := by decide +kernel
theorem dL_deed_340 : decode cL_deed 340 = .ok (.iload_n 3, 1) := by decide +kernel
theorem dL_deed_341 : decode cL_deed 341 = .ok (.iconst 3, 1) := by decide +kernel
theorem dL_deed_342 : decode cL_deed 342 = .ok (.iand, 1) := by decide +kernel
theorem dL_deed_343 : decode cL_deed 343 = .ok (.ifCond .ne 115, 3) := by decide +kernel
theorem dL_deed_346 : decode cL_deed 346 = .ok (.aload_n 0, 1) := by decide +kernel
theorem dL_deed_347 : decode cL_deed 347 = .ok (.iload_n 2, 1) := by decide +kernel
theorem dL_deed_348 : decode cL_deed 348 = .ok (.invokevirtual 65, 3) := by decide +kernel
theorem dL_deed_351 : decode cL_deed 351 = .ok (.pop, 1) := by decide +kernel
theorem dL_deed_352 : decode cL_deed 352 = .ok (.goto 106, 3) := by decide +kernel
theorem dL_deed_355 : decode cL_deed 355 = .ok (.aload_n 0, 1) := by decide +kernel
theorem dL_deed_356 : decode cL_deed 356 = .ok (.invokevirtual 7, 3) := by decide +kernel
theorem dL_deed_359 : decode cL_deed 359 = .ok (.bipush 8, 2) := by decide +kernel
theorem dL_deed_361 : decode cL_deed 361 = .ok (.if_icmp .ge 97, 3) := by decide +kernel
theorem dL_deed_364 : decode cL_deed 364 = .ok (.aload_n 0, 1) := by decide +kernel
theorem dL_deed_365 : decode cL_deed 365 = .ok (.bipush 10, 2) := by decide +kernel
theorem dL_deed_367 : decode cL_deed 367 = .ok (.iload_n 3, 1) := by decide +kernel
theorem dL_deed_368 : decode cL_deed 368 = .ok (.sipush 491, 3) := by decide +kernel
theorem dL_deed_371 : decode cL_deed 371 = .ok (.irem, 1) := by decide +kernel
theorem dL_deed_372 : decode cL_deed 372 = .ok (.iadd, 1) := by decide +kernel
theorem dL_deed_373 : decode cL_deed 373 = .ok (.invokevirtual 68, 3) := by decide +kernel
theorem dL_deed_376 : decode cL_deed 376 = .ok (.pop, 1) := by decide +kernel
theorem dL_deed_377 : decode cL_deed 377 = .ok (.goto 81, 3) := by decide +kernel
theorem dL_deed_380 : decode cL_deed 380 = .ok (.aload_n 0, 1) := by decide +kernel
theorem dL_deed_381 : decode cL_deed 381 = .ok (.invokevirtual 13, 3) := by decide +kernel
theorem dL_deed_384 : decode cL_deed 384 = .ok (.bipush 6, 2) := by decide +kernel
theorem dL_deed_386 : decode cL_deed 386 = .ok (.if_icmp .ge 20, 3) := by decide +kernel
theorem dL_deed_389 : decode cL_deed 389 = .ok (.aload_n 0, 1) := by decide +kernel
theorem dL_deed_390 : decode cL_deed 390 = .ok (.iload_n 2, 1) := by decide +kernel
theorem dL_deed_391 : decode cL_deed 391 = .ok (.iload_n 3, 1) := by decide +kernel
theorem dL_deed_392 : decode cL_deed 392 = .ok (.iconst 1, 1) := by decide +kernel
theorem dL_deed_393 : decode cL_deed 393 = .ok (.iand, 1) := by decide +kernel
theorem dL_deed_394 : decode cL_deed 394 = .ok (.iload 4, 2) := by decide +kernel
theorem dL_deed_396 : decode cL_deed 396 = .ok (.bipush 31, 2) := by decide +kernel
theorem dL_deed_398 : decode cL_deed 398 = .ok (.isub, 1) := by decide +kernel
theorem dL_deed_399 : decode cL_deed 399 = .ok (.invokevirtual 71, 3) := by decide +kernel
theorem dL_deed_402 : decode cL_deed 402 = .ok (.pop, 1) := by decide +kernel
theorem dL_deed_403 : decode cL_deed 403 = .ok (.goto 55, 3) := by decide +kernel
theorem dL_deed_406 : decode cL_deed 406 = .ok (.aload_n 0, 1) := by decide +kernel
theorem dL_deed_407 : decode cL_deed 407 = .ok (.iload 5, 2) := by decide +kernel
theorem dL_deed_409 : decode cL_deed 409 = .ok (.iload_n 2, 1) := by decide +kernel
theorem dL_deed_410 : decode cL_deed 410 = .ok (.iload_n 3, 1) := by decide +kernel
theorem dL_deed_411 : decode cL_deed 411 = .ok (.iconst 1, 1) := by decide +kernel
theorem dL_deed_412 : decode cL_deed 412 = .ok (.iand, 1) := by decide +kernel
theorem dL_deed_413 : decode cL_deed 413 = .ok (.invokevirtual 74, 3) := by decide +kernel
theorem dL_deed_416 : decode cL_deed 416 = .ok (.pop, 1) := by decide +kernel
theorem dL_deed_417 : decode cL_deed 417 = .ok (.goto 41, 3) := by decide +kernel
theorem dL_deed_420 : decode cL_deed 420 = .ok (.aload_n 0, 1) := by decide +kernel
theorem dL_deed_421 : decode cL_deed 421 = .ok (.iload 5, 2) := by decide +kernel
theorem dL_deed_423 : decode cL_deed 423 = .ok (.invokevirtual 77, 3) := by decide +kernel
theorem dL_deed_426 : decode cL_deed 426 = .ok (.pop, 1) := by decide +kernel
theorem dL_deed_427 : decode cL_deed 427 = .ok (.goto 31, 3) := by decide +kernel
theorem dL_deed_430 : decode cL_deed 430 = .ok (.aload_n 0, 1) := by decide +kernel
theorem dL_deed_431 : decode cL_deed 431 = .ok (.invokevirtual 59, 3) := by decide +kernel
theorem dL_deed_434 : decode cL_deed 434 = .ok (.iconst 1, 1) := by decide +kernel
theorem dL_deed_435 : decode cL_deed 435 = .ok (.iadd, 1) := by decide +kernel
theorem dL_deed_436 : decode cL_deed 436 = .ok (.iload_n 3, 1) := by decide +kernel
theorem dL_deed_437 : decode cL_deed 437 = .ok (.bipush 30, 2) := by decide +kernel
theorem dL_deed_439 : decode cL_deed 439 = .ok (.irem, 1) := by decide +kernel
theorem dL_deed_440 : decode cL_deed 440 = .ok (.iadd, 1) := by decide +kernel
theorem dL_deed_441 : decode cL_deed 441 = .ok (.sipush 2000, 3) := by decide +kernel
theorem dL_deed_444 : decode cL_deed 444 = .ok (.if_icmp .gt 14, 3) := by decide +kernel
theorem dL_deed_447 : decode cL_deed 447 = .ok (.aload_n 0, 1) := by decide +kernel
theorem dL_deed_448 : decode cL_deed 448 = .ok (.iconst 1, 1) := by decide +kernel
theorem dL_deed_449 : decode cL_deed 449 = .ok (.iload_n 3, 1) := by decide +kernel
theorem dL_deed_450 : decode cL_deed 450 = .ok (.bipush 30, 2) := by decide +kernel
theorem dL_deed_452 : decode cL_deed 452 = .ok (.irem, 1) := by decide +kernel
theorem dL_deed_453 : decode cL_deed 453 = .ok (.iadd, 1) := by decide +kernel
theorem dL_deed_454 : decode cL_deed 454 = .ok (.invokevirtual 62, 3) := by decide +kernel
theorem dL_deed_457 : decode cL_deed 457 = .ok (.pop, 1) := by decide +kernel
theorem dL_deed_458 : decode cL_deed 458 = .ok (.return_, 1) := by decide +kernel
theorem dL_all_0 : decode cL_all 0 = .ok (.lconst 0, 1) := by decide +kernel
theorem dL_all_1 : decode cL_all 1 = .ok (.lstore_n 1, 1) := by decide +kernel
theorem dL_all_2 : decode cL_all 2 = .ok (.iconst 0, 1) := by decide +kernel
theorem dL_all_3 : decode cL_all 3 = .ok (.istore_n 3, 1) := by decide +kernel
theorem dL_all_4 : decode cL_all 4 = .ok (.iload_n 3, 1) := by decide +kernel
theorem dL_all_5 : decode cL_all 5 = .ok (.aload_n 0, 1) := by decide +kernel
theorem dL_all_6 : decode cL_all 6 = .ok (.invokevirtual 7, 3) := by decide +kernel
theorem dL_all_9 : decode cL_all 9 = .ok (.if_icmp .ge 18, 3) := by decide +kernel
theorem dL_all_12 : decode cL_all 12 = .ok (.lload_n 1, 1) := by decide +kernel
theorem dL_all_13 : decode cL_all 13 = .ok (.aload_n 0, 1) := by decide +kernel
theorem dL_all_14 : decode cL_all 14 = .ok (.iload_n 3, 1) := by decide +kernel
theorem dL_all_15 : decode cL_all 15 = .ok (.invokevirtual 80, 3) := by decide +kernel
theorem dL_all_18 : decode cL_all 18 = .ok (.i2l, 1) := by decide +kernel
theorem dL_all_19 : decode cL_all 19 = .ok (.ladd, 1) := by decide +kernel
theorem dL_all_20 : decode cL_all 20 = .ok (.lstore_n 1, 1) := by decide +kernel
theorem dL_all_21 : decode cL_all 21 = .ok (.iinc 3 1, 3) := by decide +kernel
theorem dL_all_24 : decode cL_all 24 = .ok (.goto (-20), 3) := by decide +kernel
theorem dL_all_27 : decode cL_all 27 = .ok (.lload_n 1, 1) := by decide +kernel
theorem dL_all_28 : decode cL_all 28 = .ok (.lreturn, 1) := by decide +kernel
theorem dL_leaf_0 : decode cL_leaf 0 = .ok (.aload_n 0, 1) := by decide +kernel
theorem dL_leaf_1 : decode cL_leaf 1 = .ok (.invokevirtual 83, 3) := by decide +kernel
theorem dL_leaf_4 : decode cL_leaf 4 = .ok (.aload_n 0, 1) := by decide +kernel
theorem dL_leaf_5 : decode cL_leaf 5 = .ok (.invokevirtual 86, 3) := by decide +kernel
theorem dL_leaf_8 : decode cL_leaf 8 = .ok (.iadd, 1) := by decide +kernel
theorem dL_leaf_9 : decode cL_leaf 9 = .ok (.istore_n 1, 1) := by decide +kernel
theorem dL_leaf_10 : decode cL_leaf 10 = .ok (.iconst 0, 1) := by decide +kernel
theorem dL_leaf_11 : decode cL_leaf 11 = .ok (.istore_n 2, 1) := by decide +kernel
theorem dL_leaf_12 : decode cL_leaf 12 = .ok (.iload_n 2, 1) := by decide +kernel
theorem dL_leaf_13 : decode cL_leaf 13 = .ok (.aload_n 0, 1) := by decide +kernel
theorem dL_leaf_14 : decode cL_leaf 14 = .ok (.invokevirtual 7, 3) := by decide +kernel
theorem dL_leaf_17 : decode cL_leaf 17 = .ok (.if_icmp .ge 17, 3) := by decide +kernel
theorem dL_leaf_20 : decode cL_leaf 20 = .ok (.iload_n 1, 1) := by decide +kernel
theorem dL_leaf_21 : decode cL_leaf 21 = .ok (.aload_n 0, 1) := by decide +kernel
theorem dL_leaf_22 : decode cL_leaf 22 = .ok (.iload_n 2, 1) := by decide +kernel
theorem dL_leaf_23 : decode cL_leaf 23 = .ok (.invokevirtual 16, 3) := by decide +kernel
theorem dL_leaf_26 : decode cL_leaf 26 = .ok (.iadd, 1) := by decide +kernel
theorem dL_leaf_27 : decode cL_leaf 27 = .ok (.istore_n 1, 1) := by decide +kernel
theorem dL_leaf_28 : decode cL_leaf 28 = .ok (.iinc 2 1, 3) := by decide +kernel
theorem dL_leaf_31 : decode cL_leaf 31 = .ok (.goto (-19), 3) := by decide +kernel
theorem dL_leaf_34 : decode cL_leaf 34 = .ok (.iload_n 1, 1) := by decide +kernel
theorem dL_leaf_35 : decode cL_leaf 35 = .ok (.ireturn, 1) := by decide +kernel
theorem dL_holds_0 : decode cL_holds 0 = .ok (.aload_n 0, 1) := by decide +kernel
theorem dL_holds_1 : decode cL_holds 1 = .ok (.invokevirtual 89, 3) := by decide +kernel
theorem dL_holds_4 : decode cL_holds 4 = .ok (.ifCond .ne 41, 3) := by decide +kernel
theorem dL_holds_7 : decode cL_holds 7 = .ok (.aload_n 0, 1) := by decide +kernel
theorem dL_holds_8 : decode cL_holds 8 = .ok (.invokevirtual 59, 3) := by decide +kernel
theorem dL_holds_11 : decode cL_holds 11 = .ok (.ifCond .lt 34, 3) := by decide +kernel
theorem dL_holds_14 : decode cL_holds 14 = .ok (.aload_n 0, 1) := by decide +kernel
theorem dL_holds_15 : decode cL_holds 15 = .ok (.invokevirtual 59, 3) := by decide +kernel
theorem dL_holds_18 : decode cL_holds 18 = .ok (.sipush 2000, 3) := by decide +kernel
theorem dL_holds_21 : decode cL_holds 21 = .ok (.if_icmp .gt 24, 3) := by decide +kernel
theorem dL_holds_24 : decode cL_holds 24 = .ok (.aload_n 0, 1) := by decide +kernel
theorem dL_holds_25 : decode cL_holds 25 = .ok (.invokevirtual 92, 3) := by decide +kernel
theorem dL_holds_28 : decode cL_holds 28 = .ok (.aload_n 0, 1) := by decide +kernel
theorem dL_holds_29 : decode cL_holds 29 = .ok (.invokevirtual 59, 3) := by decide +kernel
theorem dL_holds_32 : decode cL_holds 32 = .ok (.bipush 24, 2) := by decide +kernel
theorem dL_holds_34 : decode cL_holds 34 = .ok (.idiv, 1) := by decide +kernel
theorem dL_holds_35 : decode cL_holds 35 = .ok (.if_icmp .ne 10, 3) := by decide +kernel
theorem dL_holds_38 : decode cL_holds 38 = .ok (.aload_n 0, 1) := by decide +kernel
theorem dL_holds_39 : decode cL_holds 39 = .ok (.invokevirtual 95, 3) := by decide +kernel
theorem dL_holds_42 : decode cL_holds 42 = .ok (.ifCond .ge 5, 3) := by decide +kernel
theorem dL_holds_45 : decode cL_holds 45 = .ok (.iconst 0, 1) := by decide +kernel
theorem dL_holds_46 : decode cL_holds 46 = .ok (.ireturn, 1) := by decide +kernel
theorem dL_holds_47 : decode cL_holds 47 = .ok (.iconst 0, 1) := by decide +kernel
theorem dL_holds_48 : decode cL_holds 48 = .ok (.istore_n 1, 1) := by decide +kernel
theorem dL_holds_49 : decode cL_holds 49 = .ok (.iload_n 1, 1) := by decide +kernel
theorem dL_holds_50 : decode cL_holds 50 = .ok (.aload_n 0, 1) := by decide +kernel
theorem dL_holds_51 : decode cL_holds 51 = .ok (.invokevirtual 7, 3) := by decide +kernel
theorem dL_holds_54 : decode cL_holds 54 = .ok (.if_icmp .ge 315, 3) := by decide +kernel
theorem dL_holds_57 : decode cL_holds 57 = .ok (.aload_n 0, 1) := by decide +kernel
theorem dL_holds_58 : decode cL_holds 58 = .ok (.iload_n 1, 1) := by decide +kernel
theorem dL_holds_59 : decode cL_holds 59 = .ok (.invokevirtual 16, 3) := by decide +kernel
theorem dL_holds_62 : decode cL_holds 62 = .ok (.ifCond .ne 7, 3) := by decide +kernel
theorem dL_holds_65 : decode cL_holds 65 = .ok (.iconst 1, 1) := by decide +kernel
theorem dL_holds_66 : decode cL_holds 66 = .ok (.goto 4, 3) := by decide +kernel
theorem dL_holds_69 : decode cL_holds 69 = .ok (.iconst 0, 1) := by decide +kernel
theorem dL_holds_70 : decode cL_holds 70 = .ok (.istore_n 2, 1) := by decide +kernel
theorem dL_holds_71 : decode cL_holds 71 = .ok (.aload_n 0, 1) := by decide +kernel
theorem dL_holds_72 : decode cL_holds 72 = .ok (.iload_n 1, 1) := by decide +kernel
theorem dL_holds_73 : decode cL_holds 73 = .ok (.invokevirtual 16, 3) := by decide +kernel
theorem dL_holds_76 : decode cL_holds 76 = .ok (.aload_n 0, 1) := by decide +kernel
theorem dL_holds_77 : decode cL_holds 77 = .ok (.iload_n 1, 1) := by decide +kernel
theorem dL_holds_78 : decode cL_holds 78 = .ok (.invokevirtual 20, 3) := by decide +kernel
theorem dL_holds_81 : decode cL_holds 81 = .ok (.if_icmp .gt 25, 3) := by decide +kernel
theorem dL_holds_84 : decode cL_holds 84 = .ok (.aload_n 0, 1) := by decide +kernel
theorem dL_holds_85 : decode cL_holds 85 = .ok (.iload_n 1, 1) := by decide +kernel
theorem dL_holds_86 : decode cL_holds 86 = .ok (.invokevirtual 98, 3) := by decide +kernel
theorem dL_holds_89 : decode cL_holds 89 = .ok (.aload_n 0, 1) := by decide +kernel
theorem dL_holds_90 : decode cL_holds 90 = .ok (.iload_n 1, 1) := by decide +kernel
theorem dL_holds_91 : decode cL_holds 91 = .ok (.invokevirtual 16, 3) := by decide +kernel
theorem dL_holds_94 : decode cL_holds 94 = .ok (.bipush 100, 2) := by decide +kernel
theorem dL_holds_96 : decode cL_holds 96 = .ok (.imul, 1) := by decide +kernel
theorem dL_holds_97 : decode cL_holds 97 = .ok (.aload_n 0, 1) := by decide +kernel
theorem dL_holds_98 : decode cL_holds 98 = .ok (.iload_n 1, 1) := by decide +kernel
theorem dL_holds_99 : decode cL_holds 99 = .ok (.invokevirtual 20, 3) := by decide +kernel
theorem dL_holds_102 : decode cL_holds 102 = .ok (.idiv, 1) := by decide +kernel
theorem dL_holds_103 : decode cL_holds 103 = .ok (.if_icmp .eq 5, 3) := by decide +kernel
theorem dL_holds_106 : decode cL_holds 106 = .ok (.iconst 0, 1) := by decide +kernel
theorem dL_holds_107 : decode cL_holds 107 = .ok (.ireturn, 1) := by decide +kernel
theorem dL_holds_108 : decode cL_holds 108 = .ok (.iload_n 2, 1) := by decide +kernel
theorem dL_holds_109 : decode cL_holds 109 = .ok (.ifCond .eq 78, 3) := by decide +kernel
theorem dL_holds_112 : decode cL_holds 112 = .ok (.aload_n 0, 1) := by decide +kernel
theorem dL_holds_113 : decode cL_holds 113 = .ok (.iload_n 1, 1) := by decide +kernel
theorem dL_holds_114 : decode cL_holds 114 = .ok (.iconst 0, 1) := by decide +kernel
theorem dL_holds_115 : decode cL_holds 115 = .ok (.invokevirtual 101, 3) := by decide +kernel
theorem dL_holds_118 : decode cL_holds 118 = .ok (.iconst (-1), 1) := by decide +kernel
theorem dL_holds_119 : decode cL_holds 119 = .ok (.if_icmp .ne 66, 3) := by decide +kernel
theorem dL_holds_122 : decode cL_holds 122 = .ok (.aload_n 0, 1) := by decide +kernel
theorem dL_holds_123 : decode cL_holds 123 = .ok (.iload_n 1, 1) := by decide +kernel
theorem dL_holds_124 : decode cL_holds 124 = .ok (.iconst 1, 1) := by decide +kernel
theorem dL_holds_125 : decode cL_holds 125 = .ok (.invokevirtual 101, 3) := by decide +kernel
theorem dL_holds_128 : decode cL_holds 128 = .ok (.iconst (-1), 1) := by decide +kernel
theorem dL_holds_129 : decode cL_holds 129 = .ok (.if_icmp .ne 56, 3) := by decide +kernel
theorem dL_holds_132 : decode cL_holds 132 = .ok (.aload_n 0, 1) := by decide +kernel
theorem dL_holds_133 : decode cL_holds 133 = .ok (.iload_n 1, 1) := by decide +kernel
theorem dL_holds_134 : decode cL_holds 134 = .ok (.invokevirtual 104, 3) := by decide +kernel
theorem dL_holds_137 : decode cL_holds 137 = .ok (.iconst (-1), 1) := by decide +kernel
theorem dL_holds_138 : decode cL_holds 138 = .ok (.if_icmp .ne 47, 3) := by decide +kernel
theorem dL_holds_141 : decode cL_holds 141 = .ok (.aload_n 0, 1) := by decide +kernel
theorem dL_holds_142 : decode cL_holds 142 = .ok (.iload_n 1, 1) := by decide +kernel
theorem dL_holds_143 : decode cL_holds 143 = .ok (.invokevirtual 107, 3) := by decide +kernel
theorem dL_holds_146 : decode cL_holds 146 = .ok (.iconst (-1), 1) := by decide +kernel
theorem dL_holds_147 : decode cL_holds 147 = .ok (.if_icmp .ne 38, 3) := by decide +kernel
theorem dL_holds_150 : decode cL_holds 150 = .ok (.aload_n 0, 1) := by decide +kernel
theorem dL_holds_151 : decode cL_holds 151 = .ok (.iload_n 1, 1) := by decide +kernel
theorem dL_holds_152 : decode cL_holds 152 = .ok (.invokevirtual 110, 3) := by decide +kernel
theorem dL_holds_155 : decode cL_holds 155 = .ok (.iconst (-1), 1) := by decide +kernel
theorem dL_holds_156 : decode cL_holds 156 = .ok (.if_icmp .ne 29, 3) := by decide +kernel
theorem dL_holds_159 : decode cL_holds 159 = .ok (.aload_n 0, 1) := by decide +kernel
theorem dL_holds_160 : decode cL_holds 160 = .ok (.iload_n 1, 1) := by decide +kernel
theorem dL_holds_161 : decode cL_holds 161 = .ok (.invokevirtual 113, 3) := by decide +kernel
theorem dL_holds_164 : decode cL_holds 164 = .ok (.iconst (-1), 1) := by decide +kernel
theorem dL_holds_165 : decode cL_holds 165 = .ok (.if_icmp .ne 20, 3) := by decide +kernel
theorem dL_holds_168 : decode cL_holds 168 = .ok (.aload_n 0, 1) := by decide +kernel
theorem dL_holds_169 : decode cL_holds 169 = .ok (.iload_n 1, 1) := by decide +kernel
theorem dL_holds_170 : decode cL_holds 170 = .ok (.invokevirtual 80, 3) := by decide +kernel
theorem dL_holds_173 : decode cL_holds 173 = .ok (.ifCond .ne 12, 3) := by decide +kernel
theorem dL_holds_176 : decode cL_holds 176 = .ok (.aload_n 0, 1) := by decide +kernel
theorem dL_holds_177 : decode cL_holds 177 = .ok (.iload_n 1, 1) := by decide +kernel
theorem dL_holds_178 : decode cL_holds 178 = .ok (.invokevirtual 50, 3) := by decide +kernel
theorem dL_holds_181 : decode cL_holds 181 = .ok (.iconst 1, 1) := by decide +kernel
theorem dL_holds_182 : decode cL_holds 182 = .ok (.if_icmp .eq 181, 3) := by decide +kernel
theorem dL_holds_185 : decode cL_holds 185 = .ok (.iconst 0, 1) := by decide +kernel
theorem dL_holds_186 : decode cL_holds 186 = .ok (.ireturn, 1) := by decide +kernel
theorem dL_holds_187 : decode cL_holds 187 = .ok (.aload_n 0, 1) := by decide +kernel
theorem dL_holds_188 : decode cL_holds 188 = .ok (.iload_n 1, 1) := by decide +kernel
theorem dL_holds_189 : decode cL_holds 189 = .ok (.iconst 0, 1) := by decide +kernel
theorem dL_holds_190 : decode cL_holds 190 = .ok (.invokevirtual 101, 3) := by decide +kernel
theorem dL_holds_193 : decode cL_holds 193 = .ok (.istore_n 3, 1) := by decide +kernel
theorem dL_holds_194 : decode cL_holds 194 = .ok (.aload_n 0, 1) := by decide +kernel
theorem dL_holds_195 : decode cL_holds 195 = .ok (.iload_n 1, 1) := by decide +kernel
theorem dL_holds_196 : decode cL_holds 196 = .ok (.iconst 1, 1) := by decide +kernel
theorem dL_holds_197 : decode cL_holds 197 = .ok (.invokevirtual 101, 3) := by decide +kernel
theorem dL_holds_200 : decode cL_holds 200 = .ok (.istore 4, 2) := by decide +kernel
theorem dL_holds_202 : decode cL_holds 202 = .ok (.iload_n 3, 1) := by decide +kernel
theorem dL_holds_203 : decode cL_holds 203 = .ok (.sipush 300, 3) := by decide +kernel
theorem dL_holds_206 : decode cL_holds 206 = .ok (.if_icmp .lt 67, 3) := by decide +kernel
theorem dL_holds_209 : decode cL_holds 209 = .ok (.iload_n 3, 1) := by decide +kernel
theorem dL_holds_210 : decode cL_holds 210 = .ok (.sipush 900, 3) := by decide +kernel
theorem dL_holds_213 : decode cL_holds 213 = .ok (.if_icmp .gt 60, 3) := by decide +kernel
theorem dL_holds_216 : decode cL_holds 216 = .ok (.iload 4, 2) := by decide +kernel
theorem dL_holds_218 : decode cL_holds 218 = .ok (.sipush 300, 3) := by decide +kernel
theorem dL_holds_221 : decode cL_holds 221 = .ok (.if_icmp .lt 52, 3) := by decide +kernel
theorem dL_holds_224 : decode cL_holds 224 = .ok (.iload 4, 2) := by decide +kernel
theorem dL_holds_226 : decode cL_holds 226 = .ok (.sipush 900, 3) := by decide +kernel
theorem dL_holds_229 : decode cL_holds 229 = .ok (.if_icmp .gt 44, 3) := by decide +kernel
theorem dL_holds_232 : decode cL_holds 232 = .ok (.aload_n 0, 1) := by decide +kernel
theorem dL_holds_233 : decode cL_holds 233 = .ok (.iload_n 1, 1) := by decide +kernel
theorem dL_holds_234 : decode cL_holds 234 = .ok (.invokevirtual 104, 3) := by decide +kernel
theorem dL_holds_237 : decode cL_holds 237 = .ok (.iload_n 3, 1) := by decide +kernel
theorem dL_holds_238 : decode cL_holds 238 = .ok (.iload 4, 2) := by decide +kernel
theorem dL_holds_240 : decode cL_holds 240 = .ok (.isub, 1) := by decide +kernel
theorem dL_holds_241 : decode cL_holds 241 = .ok (.invokestatic 116, 3) := by decide +kernel
theorem dL_holds_244 : decode cL_holds 244 = .ok (.if_icmp .ne 29, 3) := by decide +kernel
theorem dL_holds_247 : decode cL_holds 247 = .ok (.aload_n 0, 1) := by decide +kernel
theorem dL_holds_248 : decode cL_holds 248 = .ok (.iload_n 1, 1) := by decide +kernel
theorem dL_holds_249 : decode cL_holds 249 = .ok (.invokevirtual 107, 3) := by decide +kernel
theorem dL_holds_252 : decode cL_holds 252 = .ok (.ifCond .lt 21, 3) := by decide +kernel
theorem dL_holds_255 : decode cL_holds 255 = .ok (.aload_n 0, 1) := by decide +kernel
theorem dL_holds_256 : decode cL_holds 256 = .ok (.iload_n 1, 1) := by decide +kernel
theorem dL_holds_257 : decode cL_holds 257 = .ok (.invokevirtual 107, 3) := by decide +kernel
theorem dL_holds_260 : decode cL_holds 260 = .ok (.bipush 20, 2) := by decide +kernel
theorem dL_holds_262 : decode cL_holds 262 = .ok (.if_icmp .gt 11, 3) := by decide +kernel
theorem dL_holds_265 : decode cL_holds 265 = .ok (.aload_n 0, 1) := by decide +kernel
theorem dL_holds_266 : decode cL_holds 266 = .ok (.iload_n 1, 1) := by decide +kernel
theorem dL_holds_267 : decode cL_holds 267 = .ok (.invokevirtual 110, 3) := by decide +kernel
theorem dL_holds_270 : decode cL_holds 270 = .ok (.ifCond .ge 5, 3) := by decide +kernel
theorem dL_holds_273 : decode cL_holds 273 = .ok (.iconst 0, 1) := by decide +kernel
theorem dL_holds_274 : decode cL_holds 274 = .ok (.ireturn, 1) := by decide +kernel
theorem dL_holds_275 : decode cL_holds 275 = .ok (.aload_n 0, 1) := by decide +kernel
theorem dL_holds_276 : decode cL_holds 276 = .ok (.iload_n 1, 1) := by decide +kernel
theorem dL_holds_277 : decode cL_holds 277 = .ok (.invokevirtual 113, 3) := by decide +kernel
theorem dL_holds_280 : decode cL_holds 280 = .ok (.iconst 0, 1) := by decide +kernel
theorem dL_holds_281 : decode cL_holds 281 = .ok (.bipush 100, 2) := by decide +kernel
theorem dL_holds_283 : decode cL_holds 283 = .ok (.aload_n 0, 1) := by decide +kernel
theorem dL_holds_284 : decode cL_holds 284 = .ok (.iload_n 1, 1) := by decide +kernel
theorem dL_holds_285 : decode cL_holds 285 = .ok (.invokevirtual 104, 3) := by decide +kernel
theorem dL_holds_288 : decode cL_holds 288 = .ok (.isub, 1) := by decide +kernel
theorem dL_holds_289 : decode cL_holds 289 = .ok (.iconst 2, 1) := by decide +kernel
theorem dL_holds_290 : decode cL_holds 290 = .ok (.aload_n 0, 1) := by decide +kernel
theorem dL_holds_291 : decode cL_holds 291 = .ok (.iload_n 1, 1) := by decide +kernel
theorem dL_holds_292 : decode cL_holds 292 = .ok (.invokevirtual 110, 3) := by decide +kernel
theorem dL_holds_295 : decode cL_holds 295 = .ok (.imul, 1) := by decide +kernel
theorem dL_holds_296 : decode cL_holds 296 = .ok (.isub, 1) := by decide +kernel
theorem dL_holds_297 : decode cL_holds 297 = .ok (.invokestatic 121, 3) := by decide +kernel
theorem dL_holds_300 : decode cL_holds 300 = .ok (.if_icmp .ne 61, 3) := by decide +kernel
theorem dL_holds_303 : decode cL_holds 303 = .ok (.aload_n 0, 1) := by decide +kernel
theorem dL_holds_304 : decode cL_holds 304 = .ok (.iload_n 1, 1) := by decide +kernel
theorem dL_holds_305 : decode cL_holds 305 = .ok (.invokevirtual 80, 3) := by decide +kernel
theorem dL_holds_308 : decode cL_holds 308 = .ok (.ifCond .lt 53, 3) := by decide +kernel
theorem dL_holds_311 : decode cL_holds 311 = .ok (.aload_n 0, 1) := by decide +kernel
theorem dL_holds_312 : decode cL_holds 312 = .ok (.iload_n 1, 1) := by decide +kernel
theorem dL_holds_313 : decode cL_holds 313 = .ok (.invokevirtual 80, 3) := by decide +kernel
theorem dL_holds_316 : decode cL_holds 316 = .ok (.sipush 2000, 3) := by decide +kernel
theorem dL_holds_319 : decode cL_holds 319 = .ok (.aload_n 0, 1) := by decide +kernel
theorem dL_holds_320 : decode cL_holds 320 = .ok (.iload_n 1, 1) := by decide +kernel
theorem dL_holds_321 : decode cL_holds 321 = .ok (.invokevirtual 16, 3) := by decide +kernel
theorem dL_holds_324 : decode cL_holds 324 = .ok (.imul, 1) := by decide +kernel
theorem dL_holds_325 : decode cL_holds 325 = .ok (.if_icmp .gt 36, 3) := by decide +kernel
theorem dL_holds_328 : decode cL_holds 328 = .ok (.aload_n 0, 1) := by decide +kernel
theorem dL_holds_329 : decode cL_holds 329 = .ok (.iload_n 1, 1) := by decide +kernel
theorem dL_holds_330 : decode cL_holds 330 = .ok (.invokevirtual 50, 3) := by decide +kernel
theorem dL_holds_333 : decode cL_holds 333 = .ok (.ifCond .ne 7, 3) := by decide +kernel
theorem dL_holds_336 : decode cL_holds 336 = .ok (.iconst 1, 1) := by decide +kernel
theorem dL_holds_337 : decode cL_holds 337 = .ok (.goto 4, 3) := by decide +kernel
theorem dL_holds_340 : decode cL_holds 340 = .ok (.iconst 0, 1) := by decide +kernel
theorem dL_holds_341 : decode cL_holds 341 = .ok (.aload_n 0, 1) := by decide +kernel
theorem dL_holds_342 : decode cL_holds 342 = .ok (.invokevirtual 124, 3) := by decide +kernel
theorem dL_holds_345 : decode cL_holds 345 = .ok (.iload_n 1, 1) := by decide +kernel
theorem dL_holds_346 : decode cL_holds 346 = .ok (.ishr, 1) := by decide +kernel
theorem dL_holds_347 : decode cL_holds 347 = .ok (.iconst 1, 1) := by decide +kernel
theorem dL_holds_348 : decode cL_holds 348 = .ok (.iand, 1) := by decide +kernel
theorem dL_holds_349 : decode cL_holds 349 = .ok (.iconst 1, 1) := by decide +kernel
theorem dL_holds_350 : decode cL_holds 350 = .ok (.if_icmp .ne 7, 3) := by decide +kernel
theorem dL_holds_353 : decode cL_holds 353 = .ok (.iconst 1, 1) := by decide +kernel
theorem dL_holds_354 : decode cL_holds 354 = .ok (.goto 4, 3) := by decide +kernel
theorem dL_holds_357 : decode cL_holds 357 = .ok (.iconst 0, 1) := by decide +kernel
theorem dL_holds_358 : decode cL_holds 358 = .ok (.if_icmp .eq 5, 3) := by decide +kernel
theorem dL_holds_361 : decode cL_holds 361 = .ok (.iconst 0, 1) := by decide +kernel
theorem dL_holds_362 : decode cL_holds 362 = .ok (.ireturn, 1) := by decide +kernel
theorem dL_holds_363 : decode cL_holds 363 = .ok (.iinc 1 1, 3) := by decide +kernel
theorem dL_holds_366 : decode cL_holds 366 = .ok (.goto (-317), 3) := by decide +kernel
theorem dL_holds_369 : decode cL_holds 369 = .ok (.iconst 1, 1) := by decide +kernel
theorem dL_holds_370 : decode cL_holds 370 = .ok (.ireturn, 1) := by decide +kernel
theorem dL_sum_0 : decode cL_sum 0 = .ok (.aload_n 0, 1) := by decide +kernel
theorem dL_sum_1 : decode cL_sum 1 = .ok (.invokevirtual 59, 3) := by decide +kernel
theorem dL_sum_4 : decode cL_sum 4 = .ok (.i2l, 1) := by decide +kernel
theorem dL_sum_5 : decode cL_sum 5 = .ok (.ldc2_w 127, 3) := by decide +kernel
theorem dL_sum_8 : decode cL_sum 8 = .ok (.aload_n 0, 1) := by decide +kernel
theorem dL_sum_9 : decode cL_sum 9 = .ok (.invokevirtual 129, 3) := by decide +kernel
theorem dL_sum_12 : decode cL_sum 12 = .ok (.i2l, 1) := by decide +kernel
theorem dL_sum_13 : decode cL_sum 13 = .ok (.lmul, 1) := by decide +kernel
theorem dL_sum_14 : decode cL_sum 14 = .ok (.ladd, 1) := by decide +kernel
theorem dL_sum_15 : decode cL_sum 15 = .ok (.ldc2_w 132, 3) := by decide +kernel
theorem dL_sum_18 : decode cL_sum 18 = .ok (.aload_n 0, 1) := by decide +kernel
theorem dL_sum_19 : decode cL_sum 19 = .ok (.invokevirtual 95, 3) := by decide +kernel
theorem dL_sum_22 : decode cL_sum 22 = .ok (.i2l, 1) := by decide +kernel
theorem dL_sum_23 : decode cL_sum 23 = .ok (.lmul, 1) := by decide +kernel
theorem dL_sum_24 : decode cL_sum 24 = .ok (.ladd, 1) := by decide +kernel
theorem dL_sum_25 : decode cL_sum 25 = .ok (.ldc2_w 134, 3) := by decide +kernel
theorem dL_sum_28 : decode cL_sum 28 = .ok (.aload_n 0, 1) := by decide +kernel
theorem dL_sum_29 : decode cL_sum 29 = .ok (.invokevirtual 136, 3) := by decide +kernel
theorem dL_sum_32 : decode cL_sum 32 = .ok (.i2l, 1) := by decide +kernel
theorem dL_sum_33 : decode cL_sum 33 = .ok (.lmul, 1) := by decide +kernel
theorem dL_sum_34 : decode cL_sum 34 = .ok (.ladd, 1) := by decide +kernel
theorem dL_sum_35 : decode cL_sum 35 = .ok (.ldc2_w 139, 3) := by decide +kernel
theorem dL_sum_38 : decode cL_sum 38 = .ok (.aload_n 0, 1) := by decide +kernel
theorem dL_sum_39 : decode cL_sum 39 = .ok (.invokevirtual 83, 3) := by decide +kernel
theorem dL_sum_42 : decode cL_sum 42 = .ok (.i2l, 1) := by decide +kernel
theorem dL_sum_43 : decode cL_sum 43 = .ok (.lmul, 1) := by decide +kernel
theorem dL_sum_44 : decode cL_sum 44 = .ok (.ladd, 1) := by decide +kernel
theorem dL_sum_45 : decode cL_sum 45 = .ok (.ldc2_w 141, 3) := by decide +kernel
theorem dL_sum_48 : decode cL_sum 48 = .ok (.aload_n 0, 1) := by decide +kernel
theorem dL_sum_49 : decode cL_sum 49 = .ok (.invokevirtual 86, 3) := by decide +kernel
theorem dL_sum_52 : decode cL_sum 52 = .ok (.i2l, 1) := by decide +kernel
theorem dL_sum_53 : decode cL_sum 53 = .ok (.lmul, 1) := by decide +kernel
theorem dL_sum_54 : decode cL_sum 54 = .ok (.ladd, 1) := by decide +kernel
theorem dL_sum_55 : decode cL_sum 55 = .ok (.ldc2_w 143, 3) := by decide +kernel
theorem dL_sum_58 : decode cL_sum 58 = .ok (.aload_n 0, 1) := by decide +kernel
theorem dL_sum_59 : decode cL_sum 59 = .ok (.invokevirtual 145, 3) := by decide +kernel
theorem dL_sum_62 : decode cL_sum 62 = .ok (.i2l, 1) := by decide +kernel
theorem dL_sum_63 : decode cL_sum 63 = .ok (.lmul, 1) := by decide +kernel
theorem dL_sum_64 : decode cL_sum 64 = .ok (.ladd, 1) := by decide +kernel
theorem dL_sum_65 : decode cL_sum 65 = .ok (.lstore_n 1, 1) := by decide +kernel
theorem dL_sum_66 : decode cL_sum 66 = .ok (.iconst 0, 1) := by decide +kernel
theorem dL_sum_67 : decode cL_sum 67 = .ok (.istore_n 3, 1) := by decide +kernel
theorem dL_sum_68 : decode cL_sum 68 = .ok (.iload_n 3, 1) := by decide +kernel
theorem dL_sum_69 : decode cL_sum 69 = .ok (.aload_n 0, 1) := by decide +kernel
theorem dL_sum_70 : decode cL_sum 70 = .ok (.invokevirtual 7, 3) := by decide +kernel
theorem dL_sum_73 : decode cL_sum 73 = .ok (.if_icmp .ge 115, 3) := by decide +kernel
theorem dL_sum_76 : decode cL_sum 76 = .ok (.ldc2_w 148, 3) := by decide +kernel
theorem dL_sum_79 : decode cL_sum 79 = .ok (.lload_n 1, 1) := by decide +kernel
theorem dL_sum_80 : decode cL_sum 80 = .ok (.lmul, 1) := by decide +kernel
theorem dL_sum_81 : decode cL_sum 81 = .ok (.aload_n 0, 1) := by decide +kernel
theorem dL_sum_82 : decode cL_sum 82 = .ok (.iload_n 3, 1) := by decide +kernel
theorem dL_sum_83 : decode cL_sum 83 = .ok (.invokevirtual 16, 3) := by decide +kernel
theorem dL_sum_86 : decode cL_sum 86 = .ok (.i2l, 1) := by decide +kernel
theorem dL_sum_87 : decode cL_sum 87 = .ok (.ladd, 1) := by decide +kernel
theorem dL_sum_88 : decode cL_sum 88 = .ok (.ldc2_w 150, 3) := by decide +kernel
theorem dL_sum_91 : decode cL_sum 91 = .ok (.aload_n 0, 1) := by decide +kernel
theorem dL_sum_92 : decode cL_sum 92 = .ok (.iload_n 3, 1) := by decide +kernel
theorem dL_sum_93 : decode cL_sum 93 = .ok (.invokevirtual 20, 3) := by decide +kernel
theorem dL_sum_96 : decode cL_sum 96 = .ok (.i2l, 1) := by decide +kernel
theorem dL_sum_97 : decode cL_sum 97 = .ok (.lmul, 1) := by decide +kernel
theorem dL_sum_98 : decode cL_sum 98 = .ok (.ladd, 1) := by decide +kernel
theorem dL_sum_99 : decode cL_sum 99 = .ok (.ldc2_w 152, 3) := by decide +kernel
theorem dL_sum_102 : decode cL_sum 102 = .ok (.aload_n 0, 1) := by decide +kernel
theorem dL_sum_103 : decode cL_sum 103 = .ok (.iload_n 3, 1) := by decide +kernel
theorem dL_sum_104 : decode cL_sum 104 = .ok (.invokevirtual 41, 3) := by decide +kernel
theorem dL_sum_107 : decode cL_sum 107 = .ok (.i2l, 1) := by decide +kernel
theorem dL_sum_108 : decode cL_sum 108 = .ok (.lmul, 1) := by decide +kernel
theorem dL_sum_109 : decode cL_sum 109 = .ok (.ladd, 1) := by decide +kernel
theorem dL_sum_110 : decode cL_sum 110 = .ok (.aload_n 0, 1) := by decide +kernel
theorem dL_sum_111 : decode cL_sum 111 = .ok (.iload_n 3, 1) := by decide +kernel
theorem dL_sum_112 : decode cL_sum 112 = .ok (.invokevirtual 154, 3) := by decide +kernel
theorem dL_sum_115 : decode cL_sum 115 = .ok (.ifCond .eq 9, 3) := by decide +kernel
theorem dL_sum_118 : decode cL_sum 118 = .ok (.ldc2_w 157, 3) := by decide +kernel
theorem dL_sum_121 : decode cL_sum 121 = .ok (.goto 4, 3) := by decide +kernel
theorem dL_sum_124 : decode cL_sum 124 = .ok (.lconst 0, 1) := by decide +kernel
theorem dL_sum_125 : decode cL_sum 125 = .ok (.ladd, 1) := by decide +kernel
theorem dL_sum_126 : decode cL_sum 126 = .ok (.lstore_n 1, 1) := by decide +kernel
theorem dL_sum_127 : decode cL_sum 127 = .ok (.ldc2_w 148, 3) := by decide +kernel
theorem dL_sum_130 : decode cL_sum 130 = .ok (.lload_n 1, 1) := by decide +kernel
theorem dL_sum_131 : decode cL_sum 131 = .ok (.lmul, 1) := by decide +kernel
theorem dL_sum_132 : decode cL_sum 132 = .ok (.aload_n 0, 1) := by decide +kernel
theorem dL_sum_133 : decode cL_sum 133 = .ok (.iload_n 3, 1) := by decide +kernel
theorem dL_sum_134 : decode cL_sum 134 = .ok (.iconst 0, 1) := by decide +kernel
theorem dL_sum_135 : decode cL_sum 135 = .ok (.invokevirtual 101, 3) := by decide +kernel
theorem dL_sum_138 : decode cL_sum 138 = .ok (.i2l, 1) := by decide +kernel
theorem dL_sum_139 : decode cL_sum 139 = .ok (.ladd, 1) := by decide +kernel
theorem dL_sum_140 : decode cL_sum 140 = .ok (.ldc2_w 150, 3) := by decide +kernel
theorem dL_sum_143 : decode cL_sum 143 = .ok (.aload_n 0, 1) := by decide +kernel
theorem dL_sum_144 : decode cL_sum 144 = .ok (.iload_n 3, 1) := by decide +kernel
theorem dL_sum_145 : decode cL_sum 145 = .ok (.iconst 1, 1) := by decide +kernel
theorem dL_sum_146 : decode cL_sum 146 = .ok (.invokevirtual 101, 3) := by decide +kernel
theorem dL_sum_149 : decode cL_sum 149 = .ok (.i2l, 1) := by decide +kernel
theorem dL_sum_150 : decode cL_sum 150 = .ok (.lmul, 1) := by decide +kernel
theorem dL_sum_151 : decode cL_sum 151 = .ok (.ladd, 1) := by decide +kernel
theorem dL_sum_152 : decode cL_sum 152 = .ok (.ldc2_w 159, 3) := by decide +kernel
theorem dL_sum_155 : decode cL_sum 155 = .ok (.aload_n 0, 1) := by decide +kernel
theorem dL_sum_156 : decode cL_sum 156 = .ok (.iload_n 3, 1) := by decide +kernel
theorem dL_sum_157 : decode cL_sum 157 = .ok (.invokevirtual 107, 3) := by decide +kernel
theorem dL_sum_160 : decode cL_sum 160 = .ok (.i2l, 1) := by decide +kernel
theorem dL_sum_161 : decode cL_sum 161 = .ok (.lmul, 1) := by decide +kernel
theorem dL_sum_162 : decode cL_sum 162 = .ok (.ladd, 1) := by decide +kernel
theorem dL_sum_163 : decode cL_sum 163 = .ok (.ldc2_w 132, 3) := by decide +kernel
theorem dL_sum_166 : decode cL_sum 166 = .ok (.aload_n 0, 1) := by decide +kernel
theorem dL_sum_167 : decode cL_sum 167 = .ok (.iload_n 3, 1) := by decide +kernel
theorem dL_sum_168 : decode cL_sum 168 = .ok (.invokevirtual 110, 3) := by decide +kernel
theorem dL_sum_171 : decode cL_sum 171 = .ok (.i2l, 1) := by decide +kernel
theorem dL_sum_172 : decode cL_sum 172 = .ok (.lmul, 1) := by decide +kernel
theorem dL_sum_173 : decode cL_sum 173 = .ok (.ladd, 1) := by decide +kernel
theorem dL_sum_174 : decode cL_sum 174 = .ok (.aload_n 0, 1) := by decide +kernel
theorem dL_sum_175 : decode cL_sum 175 = .ok (.iload_n 3, 1) := by decide +kernel
theorem dL_sum_176 : decode cL_sum 176 = .ok (.invokevirtual 80, 3) := by decide +kernel
theorem dL_sum_179 : decode cL_sum 179 = .ok (.i2l, 1) := by decide +kernel
theorem dL_sum_180 : decode cL_sum 180 = .ok (.ladd, 1) := by decide +kernel
theorem dL_sum_181 : decode cL_sum 181 = .ok (.lstore_n 1, 1) := by decide +kernel
theorem dL_sum_182 : decode cL_sum 182 = .ok (.iinc 3 1, 3) := by decide +kernel
theorem dL_sum_185 : decode cL_sum 185 = .ok (.goto (-117), 3) := by decide +kernel
theorem dL_sum_188 : decode cL_sum 188 = .ok (.iconst 0, 1) := by decide +kernel
theorem dL_sum_189 : decode cL_sum 189 = .ok (.istore_n 3, 1) := by decide +kernel
theorem dL_sum_190 : decode cL_sum 190 = .ok (.iload_n 3, 1) := by decide +kernel
theorem dL_sum_191 : decode cL_sum 191 = .ok (.aload_n 0, 1) := by decide +kernel
theorem dL_sum_192 : decode cL_sum 192 = .ok (.invokevirtual 13, 3) := by decide +kernel
theorem dL_sum_195 : decode cL_sum 195 = .ok (.if_icmp .ge 44, 3) := by decide +kernel
theorem dL_sum_198 : decode cL_sum 198 = .ok (.ldc2_w 148, 3) := by decide +kernel
theorem dL_sum_201 : decode cL_sum 201 = .ok (.lload_n 1, 1) := by decide +kernel
theorem dL_sum_202 : decode cL_sum 202 = .ok (.lmul, 1) := by decide +kernel
theorem dL_sum_203 : decode cL_sum 203 = .ok (.aload_n 0, 1) := by decide +kernel
theorem dL_sum_204 : decode cL_sum 204 = .ok (.iload_n 3, 1) := by decide +kernel
theorem dL_sum_205 : decode cL_sum 205 = .ok (.invokevirtual 161, 3) := by decide +kernel
theorem dL_sum_208 : decode cL_sum 208 = .ok (.i2l, 1) := by decide +kernel
theorem dL_sum_209 : decode cL_sum 209 = .ok (.ladd, 1) := by decide +kernel
theorem dL_sum_210 : decode cL_sum 210 = .ok (.ldc2_w 152, 3) := by decide +kernel
theorem dL_sum_213 : decode cL_sum 213 = .ok (.aload_n 0, 1) := by decide +kernel
theorem dL_sum_214 : decode cL_sum 214 = .ok (.iload_n 3, 1) := by decide +kernel
theorem dL_sum_215 : decode cL_sum 215 = .ok (.invokevirtual 164, 3) := by decide +kernel
theorem dL_sum_218 : decode cL_sum 218 = .ok (.i2l, 1) := by decide +kernel
theorem dL_sum_219 : decode cL_sum 219 = .ok (.lmul, 1) := by decide +kernel
theorem dL_sum_220 : decode cL_sum 220 = .ok (.ladd, 1) := by decide +kernel
theorem dL_sum_221 : decode cL_sum 221 = .ok (.ldc2_w 159, 3) := by decide +kernel
theorem dL_sum_224 : decode cL_sum 224 = .ok (.aload_n 0, 1) := by decide +kernel
theorem dL_sum_225 : decode cL_sum 225 = .ok (.iload_n 3, 1) := by decide +kernel
theorem dL_sum_226 : decode cL_sum 226 = .ok (.invokevirtual 167, 3) := by decide +kernel
theorem dL_sum_229 : decode cL_sum 229 = .ok (.i2l, 1) := by decide +kernel
theorem dL_sum_230 : decode cL_sum 230 = .ok (.lmul, 1) := by decide +kernel
theorem dL_sum_231 : decode cL_sum 231 = .ok (.ladd, 1) := by decide +kernel
theorem dL_sum_232 : decode cL_sum 232 = .ok (.lstore_n 1, 1) := by decide +kernel
theorem dL_sum_233 : decode cL_sum 233 = .ok (.iinc 3 1, 3) := by decide +kernel
theorem dL_sum_236 : decode cL_sum 236 = .ok (.goto (-46), 3) := by decide +kernel
theorem dL_sum_239 : decode cL_sum 239 = .ok (.ldc2_w 148, 3) := by decide +kernel
theorem dL_sum_242 : decode cL_sum 242 = .ok (.lload_n 1, 1) := by decide +kernel
theorem dL_sum_243 : decode cL_sum 243 = .ok (.lmul, 1) := by decide +kernel
theorem dL_sum_244 : decode cL_sum 244 = .ok (.aload_n 0, 1) := by decide +kernel
theorem dL_sum_245 : decode cL_sum 245 = .ok (.invokevirtual 124, 3) := by decide +kernel
theorem dL_sum_248 : decode cL_sum 248 = .ok (.i2l, 1) := by decide +kernel
theorem dL_sum_249 : decode cL_sum 249 = .ok (.ladd, 1) := by decide +kernel
theorem dL_sum_250 : decode cL_sum 250 = .ok (.lreturn, 1) := by decide +kernel
theorem dL_isWeighed_0 : decode cL_isWeighed 0 = .ok (.aload_n 0, 1) := by decide +kernel
theorem dL_isWeighed_1 : decode cL_isWeighed 1 = .ok (.invokevirtual 59, 3) := by decide +kernel
theorem dL_isWeighed_4 : decode cL_isWeighed 4 = .ok (.iload_n 1, 1) := by decide +kernel
theorem dL_isWeighed_5 : decode cL_isWeighed 5 = .ok (.iadd, 1) := by decide +kernel
theorem dL_isWeighed_6 : decode cL_isWeighed 6 = .ok (.sipush 2000, 3) := by decide +kernel
theorem dL_isWeighed_9 : decode cL_isWeighed 9 = .ok (.if_icmp .le 5, 3) := by decide +kernel
theorem dL_isWeighed_12 : decode cL_isWeighed 12 = .ok (.iconst 1, 1) := by decide +kernel
theorem dL_isWeighed_13 : decode cL_isWeighed 13 = .ok (.ireturn, 1) := by decide +kernel
theorem dL_isWeighed_14 : decode cL_isWeighed 14 = .ok (.aload_n 0, 1) := by decide +kernel
theorem dL_isWeighed_15 : decode cL_isWeighed 15 = .ok (.invokestatic 170, 3) := by decide +kernel
theorem dL_isWeighed_18 : decode cL_isWeighed 18 = .ok (.lstore_n 2, 1) := by decide +kernel
theorem dL_isWeighed_19 : decode cL_isWeighed 19 = .ok (.aload_n 0, 1) := by decide +kernel
theorem dL_isWeighed_20 : decode cL_isWeighed 20 = .ok (.invokevirtual 95, 3) := by decide +kernel
theorem dL_isWeighed_23 : decode cL_isWeighed 23 = .ok (.istore 4, 2) := by decide +kernel
theorem dL_isWeighed_25 : decode cL_isWeighed 25 = .ok (.aload_n 0, 1) := by decide +kernel
theorem dL_isWeighed_26 : decode cL_isWeighed 26 = .ok (.invokestatic 176, 3) := by decide +kernel
theorem dL_isWeighed_29 : decode cL_isWeighed 29 = .ok (.istore 5, 2) := by decide +kernel
theorem dL_isWeighed_31 : decode cL_isWeighed 31 = .ok (.aload_n 0, 1) := by decide +kernel
theorem dL_isWeighed_32 : decode cL_isWeighed 32 = .ok (.iload_n 1, 1) := by decide +kernel
theorem dL_isWeighed_33 : decode cL_isWeighed 33 = .ok (.invokevirtual 62, 3) := by decide +kernel
theorem dL_isWeighed_36 : decode cL_isWeighed 36 = .ok (.pop, 1) := by decide +kernel
theorem dL_isWeighed_37 : decode cL_isWeighed 37 = .ok (.lload_n 2, 1) := by decide +kernel
theorem dL_isWeighed_38 : decode cL_isWeighed 38 = .ok (.aload_n 0, 1) := by decide +kernel
theorem dL_isWeighed_39 : decode cL_isWeighed 39 = .ok (.invokestatic 170, 3) := by decide +kernel
theorem dL_isWeighed_42 : decode cL_isWeighed 42 = .ok (.lsub, 1) := by decide +kernel
theorem dL_isWeighed_43 : decode cL_isWeighed 43 = .ok (.aload_n 0, 1) := by decide +kernel
theorem dL_isWeighed_44 : decode cL_isWeighed 44 = .ok (.invokevirtual 95, 3) := by decide +kernel
theorem dL_isWeighed_47 : decode cL_isWeighed 47 = .ok (.iload 4, 2) := by decide +kernel
theorem dL_isWeighed_49 : decode cL_isWeighed 49 = .ok (.isub, 1) := by decide +kernel
theorem dL_isWeighed_50 : decode cL_isWeighed 50 = .ok (.i2l, 1) := by decide +kernel
theorem dL_isWeighed_51 : decode cL_isWeighed 51 = .ok (.lcmp, 1) := by decide +kernel
theorem dL_isWeighed_52 : decode cL_isWeighed 52 = .ok (.ifCond .ne 23, 3) := by decide +kernel
theorem dL_isWeighed_55 : decode cL_isWeighed 55 = .ok (.aload_n 0, 1) := by decide +kernel
theorem dL_isWeighed_56 : decode cL_isWeighed 56 = .ok (.invokestatic 176, 3) := by decide +kernel
theorem dL_isWeighed_59 : decode cL_isWeighed 59 = .ok (.iload 5, 2) := by decide +kernel
theorem dL_isWeighed_61 : decode cL_isWeighed 61 = .ok (.if_icmp .ne 14, 3) := by decide +kernel
theorem dL_isWeighed_64 : decode cL_isWeighed 64 = .ok (.aload_n 0, 1) := by decide +kernel
theorem dL_isWeighed_65 : decode cL_isWeighed 65 = .ok (.invokestatic 180, 3) := by decide +kernel
theorem dL_isWeighed_68 : decode cL_isWeighed 68 = .ok (.ifCond .eq 7, 3) := by decide +kernel
theorem dL_isWeighed_71 : decode cL_isWeighed 71 = .ok (.iconst 1, 1) := by decide +kernel
theorem dL_isWeighed_72 : decode cL_isWeighed 72 = .ok (.goto 4, 3) := by decide +kernel
theorem dL_isWeighed_75 : decode cL_isWeighed 75 = .ok (.iconst 0, 1) := by decide +kernel
theorem dL_isWeighed_76 : decode cL_isWeighed 76 = .ok (.istore 6, 2) := by decide +kernel
theorem dL_isWeighed_78 : decode cL_isWeighed 78 = .ok (.aload_n 0, 1) := by decide +kernel
theorem dL_isWeighed_79 : decode cL_isWeighed 79 = .ok (.invokevirtual 184, 3) := by decide +kernel
theorem dL_isWeighed_82 : decode cL_isWeighed 82 = .ok (.pop, 1) := by decide +kernel
theorem dL_isWeighed_83 : decode cL_isWeighed 83 = .ok (.iload 6, 2) := by decide +kernel
theorem dL_isWeighed_85 : decode cL_isWeighed 85 = .ok (.ifCond .eq 25, 3) := by decide +kernel
theorem dL_isWeighed_88 : decode cL_isWeighed 88 = .ok (.aload_n 0, 1) := by decide +kernel
theorem dL_isWeighed_89 : decode cL_isWeighed 89 = .ok (.invokevirtual 95, 3) := by decide +kernel
theorem dL_isWeighed_92 : decode cL_isWeighed 92 = .ok (.iload 4, 2) := by decide +kernel
theorem dL_isWeighed_94 : decode cL_isWeighed 94 = .ok (.if_icmp .ne 16, 3) := by decide +kernel
theorem dL_isWeighed_97 : decode cL_isWeighed 97 = .ok (.aload_n 0, 1) := by decide +kernel
theorem dL_isWeighed_98 : decode cL_isWeighed 98 = .ok (.invokestatic 170, 3) := by decide +kernel
theorem dL_isWeighed_101 : decode cL_isWeighed 101 = .ok (.lload_n 2, 1) := by decide +kernel
theorem dL_isWeighed_102 : decode cL_isWeighed 102 = .ok (.lcmp, 1) := by decide +kernel
theorem dL_isWeighed_103 : decode cL_isWeighed 103 = .ok (.ifCond .ne 7, 3) := by decide +kernel
theorem dL_isWeighed_106 : decode cL_isWeighed 106 = .ok (.iconst 1, 1) := by decide +kernel
theorem dL_isWeighed_107 : decode cL_isWeighed 107 = .ok (.goto 4, 3) := by decide +kernel
theorem dL_isWeighed_110 : decode cL_isWeighed 110 = .ok (.iconst 0, 1) := by decide +kernel
theorem dL_isWeighed_111 : decode cL_isWeighed 111 = .ok (.ireturn, 1) := by decide +kernel
theorem dL_isSame_0 : decode cL_isSame 0 = .ok (.aload_n 0, 1) := by decide +kernel
theorem dL_isSame_1 : decode cL_isSame 1 = .ok (.invokevirtual 59, 3) := by decide +kernel
theorem dL_isSame_4 : decode cL_isSame 4 = .ok (.iload_n 1, 1) := by decide +kernel
theorem dL_isSame_5 : decode cL_isSame 5 = .ok (.iadd, 1) := by decide +kernel
theorem dL_isSame_6 : decode cL_isSame 6 = .ok (.iload_n 2, 1) := by decide +kernel
theorem dL_isSame_7 : decode cL_isSame 7 = .ok (.iadd, 1) := by decide +kernel
theorem dL_isSame_8 : decode cL_isSame 8 = .ok (.sipush 2000, 3) := by decide +kernel
theorem dL_isSame_11 : decode cL_isSame 11 = .ok (.if_icmp .le 5, 3) := by decide +kernel
theorem dL_isSame_14 : decode cL_isSame 14 = .ok (.iconst 1, 1) := by decide +kernel
theorem dL_isSame_15 : decode cL_isSame 15 = .ok (.ireturn, 1) := by decide +kernel
theorem dL_isSame_16 : decode cL_isSame 16 = .ok (.aload_n 0, 1) := by decide +kernel
theorem dL_isSame_17 : decode cL_isSame 17 = .ok (.invokestatic 187, 3) := by decide +kernel
theorem dL_isSame_20 : decode cL_isSame 20 = .ok (.lstore_n 3, 1) := by decide +kernel
theorem dL_isSame_21 : decode cL_isSame 21 = .ok (.aload_n 0, 1) := by decide +kernel
theorem dL_isSame_22 : decode cL_isSame 22 = .ok (.invokevirtual 190, 3) := by decide +kernel
theorem dL_isSame_25 : decode cL_isSame 25 = .ok (.pop, 1) := by decide +kernel
theorem dL_isSame_26 : decode cL_isSame 26 = .ok (.aload_n 0, 1) := by decide +kernel
theorem dL_isSame_27 : decode cL_isSame 27 = .ok (.iload_n 1, 1) := by decide +kernel
theorem dL_isSame_28 : decode cL_isSame 28 = .ok (.iload_n 2, 1) := by decide +kernel
theorem dL_isSame_29 : decode cL_isSame 29 = .ok (.iadd, 1) := by decide +kernel
theorem dL_isSame_30 : decode cL_isSame 30 = .ok (.invokevirtual 62, 3) := by decide +kernel
theorem dL_isSame_33 : decode cL_isSame 33 = .ok (.istore 5, 2) := by decide +kernel
theorem dL_isSame_35 : decode cL_isSame 35 = .ok (.aload_n 0, 1) := by decide +kernel
theorem dL_isSame_36 : decode cL_isSame 36 = .ok (.invokestatic 187, 3) := by decide +kernel
theorem dL_isSame_39 : decode cL_isSame 39 = .ok (.lstore 6, 2) := by decide +kernel
theorem dL_isSame_41 : decode cL_isSame 41 = .ok (.aload_n 0, 1) := by decide +kernel
theorem dL_isSame_42 : decode cL_isSame 42 = .ok (.invokevirtual 193, 3) := by decide +kernel
theorem dL_isSame_45 : decode cL_isSame 45 = .ok (.pop, 1) := by decide +kernel
theorem dL_isSame_46 : decode cL_isSame 46 = .ok (.aload_n 0, 1) := by decide +kernel
theorem dL_isSame_47 : decode cL_isSame 47 = .ok (.iload_n 1, 1) := by decide +kernel
theorem dL_isSame_48 : decode cL_isSame 48 = .ok (.invokevirtual 62, 3) := by decide +kernel
theorem dL_isSame_51 : decode cL_isSame 51 = .ok (.pop, 1) := by decide +kernel
theorem dL_isSame_52 : decode cL_isSame 52 = .ok (.aload_n 0, 1) := by decide +kernel
theorem dL_isSame_53 : decode cL_isSame 53 = .ok (.iload_n 2, 1) := by decide +kernel
theorem dL_isSame_54 : decode cL_isSame 54 = .ok (.invokevirtual 62, 3) := by decide +kernel
theorem dL_isSame_57 : decode cL_isSame 57 = .ok (.iload 5, 2) := by decide +kernel
theorem dL_isSame_59 : decode cL_isSame 59 = .ok (.if_icmp .ne 17, 3) := by decide +kernel
theorem dL_isSame_62 : decode cL_isSame 62 = .ok (.aload_n 0, 1) := by decide +kernel
theorem dL_isSame_63 : decode cL_isSame 63 = .ok (.invokestatic 187, 3) := by decide +kernel
theorem dL_isSame_66 : decode cL_isSame 66 = .ok (.lload 6, 2) := by decide +kernel
theorem dL_isSame_68 : decode cL_isSame 68 = .ok (.lcmp, 1) := by decide +kernel
theorem dL_isSame_69 : decode cL_isSame 69 = .ok (.ifCond .ne 7, 3) := by decide +kernel
theorem dL_isSame_72 : decode cL_isSame 72 = .ok (.iconst 1, 1) := by decide +kernel
theorem dL_isSame_73 : decode cL_isSame 73 = .ok (.goto 4, 3) := by decide +kernel
theorem dL_isSame_76 : decode cL_isSame 76 = .ok (.iconst 0, 1) := by decide +kernel
theorem dL_isSame_77 : decode cL_isSame 77 = .ok (.istore 8, 2) := by decide +kernel
theorem dL_isSame_79 : decode cL_isSame 79 = .ok (.aload_n 0, 1) := by decide +kernel
theorem dL_isSame_80 : decode cL_isSame 80 = .ok (.invokevirtual 193, 3) := by decide +kernel
theorem dL_isSame_83 : decode cL_isSame 83 = .ok (.pop, 1) := by decide +kernel
theorem dL_isSame_84 : decode cL_isSame 84 = .ok (.iload 8, 2) := by decide +kernel
theorem dL_isSame_86 : decode cL_isSame 86 = .ok (.ifCond .eq 16, 3) := by decide +kernel
theorem dL_isSame_89 : decode cL_isSame 89 = .ok (.aload_n 0, 1) := by decide +kernel
theorem dL_isSame_90 : decode cL_isSame 90 = .ok (.invokestatic 187, 3) := by decide +kernel
theorem dL_isSame_93 : decode cL_isSame 93 = .ok (.lload_n 3, 1) := by decide +kernel
theorem dL_isSame_94 : decode cL_isSame 94 = .ok (.lcmp, 1) := by decide +kernel
theorem dL_isSame_95 : decode cL_isSame 95 = .ok (.ifCond .ne 7, 3) := by decide +kernel
theorem dL_isSame_98 : decode cL_isSame 98 = .ok (.iconst 1, 1) := by decide +kernel
theorem dL_isSame_99 : decode cL_isSame 99 = .ok (.goto 4, 3) := by decide +kernel
theorem dL_isSame_102 : decode cL_isSame 102 = .ok (.iconst 0, 1) := by decide +kernel
theorem dL_isSame_103 : decode cL_isSame 103 = .ok (.ireturn, 1) := by decide +kernel
theorem dL_law_0 : decode cL_law 0 = .ok (.new 8, 3) := by decide +kernel
theorem dL_law_3 : decode cL_law 3 = .ok (.dup, 1) := by decide +kernel
theorem dL_law_4 : decode cL_law 4 = .ok (.invokespecial 196, 3) := by decide +kernel
theorem dL_law_7 : decode cL_law 7 = .ok (.astore_n 1, 1) := by decide +kernel
theorem dL_law_8 : decode cL_law 8 = .ok (.aload_n 0, 1) := by decide +kernel
theorem dL_law_9 : decode cL_law 9 = .ok (.iconst 0, 1) := by decide +kernel
theorem dL_law_10 : decode cL_law 10 = .ok (.invokestatic 197, 3) := by decide +kernel
theorem dL_law_13 : decode cL_law 13 = .ok (.bipush 64, 2) := by decide +kernel
theorem dL_law_15 : decode cL_law 15 = .ok (.iand, 1) := by decide +kernel
theorem dL_law_16 : decode cL_law 16 = .ok (.ifCond .eq 19, 3) := by decide +kernel
theorem dL_law_19 : decode cL_law 19 = .ok (.aload_n 1, 1) := by decide +kernel
theorem dL_law_20 : decode cL_law 20 = .ok (.aload_n 0, 1) := by decide +kernel
theorem dL_law_21 : decode cL_law 21 = .ok (.iconst 0, 1) := by decide +kernel
theorem dL_law_22 : decode cL_law 22 = .ok (.invokestatic 197, 3) := by decide +kernel
theorem dL_law_25 : decode cL_law 25 = .ok (.bipush 7, 2) := by decide +kernel
theorem dL_law_27 : decode cL_law 27 = .ok (.iushr, 1) := by decide +kernel
theorem dL_law_28 : decode cL_law 28 = .ok (.bipush 15, 2) := by decide +kernel
theorem dL_law_30 : decode cL_law 30 = .ok (.iand, 1) := by decide +kernel
theorem dL_law_31 : decode cL_law 31 = .ok (.invokevirtual 201, 3) := by decide +kernel
theorem dL_law_34 : decode cL_law 34 = .ok (.pop, 1) := by decide +kernel
theorem dL_law_35 : decode cL_law 35 = .ok (.aload_n 0, 1) := by decide +kernel
theorem dL_law_36 : decode cL_law 36 = .ok (.iconst 1, 1) := by decide +kernel
theorem dL_law_37 : decode cL_law 37 = .ok (.invokestatic 197, 3) := by decide +kernel
theorem dL_law_40 : decode cL_law 40 = .ok (.bipush 64, 2) := by decide +kernel
theorem dL_law_42 : decode cL_law 42 = .ok (.iand, 1) := by decide +kernel
theorem dL_law_43 : decode cL_law 43 = .ok (.ifCond .eq 19, 3) := by decide +kernel
theorem dL_law_46 : decode cL_law 46 = .ok (.aload_n 1, 1) := by decide +kernel
theorem dL_law_47 : decode cL_law 47 = .ok (.aload_n 0, 1) := by decide +kernel
theorem dL_law_48 : decode cL_law 48 = .ok (.iconst 1, 1) := by decide +kernel
theorem dL_law_49 : decode cL_law 49 = .ok (.invokestatic 197, 3) := by decide +kernel
theorem dL_law_52 : decode cL_law 52 = .ok (.bipush 7, 2) := by decide +kernel
theorem dL_law_54 : decode cL_law 54 = .ok (.iushr, 1) := by decide +kernel
theorem dL_law_55 : decode cL_law 55 = .ok (.bipush 63, 2) := by decide +kernel
theorem dL_law_57 : decode cL_law 57 = .ok (.iand, 1) := by decide +kernel
theorem dL_law_58 : decode cL_law 58 = .ok (.invokevirtual 201, 3) := by decide +kernel
theorem dL_law_61 : decode cL_law 61 = .ok (.pop, 1) := by decide +kernel
theorem dL_law_62 : decode cL_law 62 = .ok (.aload_n 1, 1) := by decide +kernel
theorem dL_law_63 : decode cL_law 63 = .ok (.invokestatic 180, 3) := by decide +kernel
theorem dL_law_66 : decode cL_law 66 = .ok (.ifCond .ne 5, 3) := by decide +kernel
theorem dL_law_69 : decode cL_law 69 = .ok (.iconst 0, 1) := by decide +kernel
theorem dL_law_70 : decode cL_law 70 = .ok (.ireturn, 1) := by decide +kernel
theorem dL_law_71 : decode cL_law 71 = .ok (.iconst 0, 1) := by decide +kernel
theorem dL_law_72 : decode cL_law 72 = .ok (.istore_n 2, 1) := by decide +kernel
theorem dL_law_73 : decode cL_law 73 = .ok (.iload_n 2, 1) := by decide +kernel
theorem dL_law_74 : decode cL_law 74 = .ok (.bipush 12, 2) := by decide +kernel
theorem dL_law_76 : decode cL_law 76 = .ok (.if_icmp .ge 139, 3) := by decide +kernel
theorem dL_law_79 : decode cL_law 79 = .ok (.aload_n 0, 1) := by decide +kernel
theorem dL_law_80 : decode cL_law 80 = .ok (.iload_n 2, 1) := by decide +kernel
theorem dL_law_81 : decode cL_law 81 = .ok (.invokestatic 197, 3) := by decide +kernel
theorem dL_law_84 : decode cL_law 84 = .ok (.istore_n 3, 1) := by decide +kernel
theorem dL_law_85 : decode cL_law 85 = .ok (.aload_n 1, 1) := by decide +kernel
theorem dL_law_86 : decode cL_law 86 = .ok (.invokevirtual 204, 3) := by decide +kernel
theorem dL_law_89 : decode cL_law 89 = .ok (.istore 4, 2) := by decide +kernel
theorem dL_law_91 : decode cL_law 91 = .ok (.aload_n 1, 1) := by decide +kernel
theorem dL_law_92 : decode cL_law 92 = .ok (.invokestatic 187, 3) := by decide +kernel
theorem dL_law_95 : decode cL_law 95 = .ok (.lstore 5, 2) := by decide +kernel
theorem dL_law_97 : decode cL_law 97 = .ok (.aload_n 1, 1) := by decide +kernel
theorem dL_law_98 : decode cL_law 98 = .ok (.iload_n 3, 1) := by decide +kernel
theorem dL_law_99 : decode cL_law 99 = .ok (.invokestatic 207, 3) := by decide +kernel
theorem dL_law_102 : decode cL_law 102 = .ok (.aload_n 1, 1) := by decide +kernel
theorem dL_law_103 : decode cL_law 103 = .ok (.invokevirtual 204, 3) := by decide +kernel
theorem dL_law_106 : decode cL_law 106 = .ok (.iload 4, 2) := by decide +kernel
theorem dL_law_108 : decode cL_law 108 = .ok (.if_icmp .le 7, 3) := by decide +kernel
theorem dL_law_111 : decode cL_law 111 = .ok (.iconst 1, 1) := by decide +kernel
theorem dL_law_112 : decode cL_law 112 = .ok (.goto 4, 3) := by decide +kernel
theorem dL_law_115 : decode cL_law 115 = .ok (.iconst 0, 1) := by decide +kernel
theorem dL_law_116 : decode cL_law 116 = .ok (.istore 7, 2) := by decide +kernel
theorem dL_law_118 : decode cL_law 118 = .ok (.aload_n 1, 1) := by decide +kernel
theorem dL_law_119 : decode cL_law 119 = .ok (.invokestatic 180, 3) := by decide +kernel
theorem dL_law_122 : decode cL_law 122 = .ok (.ifCond .eq 25, 3) := by decide +kernel
theorem dL_law_125 : decode cL_law 125 = .ok (.iload 7, 2) := by decide +kernel
theorem dL_law_127 : decode cL_law 127 = .ok (.ifCond .ne 22, 3) := by decide +kernel
theorem dL_law_130 : decode cL_law 130 = .ok (.iload 4, 2) := by decide +kernel
theorem dL_law_132 : decode cL_law 132 = .ok (.bipush 8, 2) := by decide +kernel
theorem dL_law_134 : decode cL_law 134 = .ok (.if_icmp .ge 15, 3) := by decide +kernel
theorem dL_law_137 : decode cL_law 137 = .ok (.aload_n 1, 1) := by decide +kernel
theorem dL_law_138 : decode cL_law 138 = .ok (.invokestatic 187, 3) := by decide +kernel
theorem dL_law_141 : decode cL_law 141 = .ok (.lload 5, 2) := by decide +kernel
theorem dL_law_143 : decode cL_law 143 = .ok (.lcmp, 1) := by decide +kernel
theorem dL_law_144 : decode cL_law 144 = .ok (.ifCond .eq 5, 3) := by decide +kernel
theorem dL_law_147 : decode cL_law 147 = .ok (.iconst 0, 1) := by decide +kernel
theorem dL_law_148 : decode cL_law 148 = .ok (.ireturn, 1) := by decide +kernel
theorem dL_law_149 : decode cL_law 149 = .ok (.iload 7, 2) := by decide +kernel
theorem dL_law_151 : decode cL_law 151 = .ok (.ifCond .eq 34, 3) := by decide +kernel
theorem dL_law_154 : decode cL_law 154 = .ok (.iload_n 3, 1) := by decide +kernel
theorem dL_law_155 : decode cL_law 155 = .ok (.bipush 29, 2) := by decide +kernel
theorem dL_law_157 : decode cL_law 157 = .ok (.iushr, 1) := by decide +kernel
theorem dL_law_158 : decode cL_law 158 = .ok (.iconst 3, 1) := by decide +kernel
theorem dL_law_159 : decode cL_law 159 = .ok (.iand, 1) := by decide +kernel
theorem dL_law_160 : decode cL_law 160 = .ok (.iconst 1, 1) := by decide +kernel
theorem dL_law_161 : decode cL_law 161 = .ok (.if_icmp .ne 24, 3) := by decide +kernel
theorem dL_law_164 : decode cL_law 164 = .ok (.aload_n 1, 1) := by decide +kernel
theorem dL_law_165 : decode cL_law 165 = .ok (.invokevirtual 184, 3) := by decide +kernel
theorem dL_law_168 : decode cL_law 168 = .ok (.iload 4, 2) := by decide +kernel
theorem dL_law_170 : decode cL_law 170 = .ok (.if_icmp .ne 13, 3) := by decide +kernel
theorem dL_law_173 : decode cL_law 173 = .ok (.aload_n 1, 1) := by decide +kernel
theorem dL_law_174 : decode cL_law 174 = .ok (.invokestatic 187, 3) := by decide +kernel
theorem dL_law_177 : decode cL_law 177 = .ok (.lload 5, 2) := by decide +kernel
theorem dL_law_179 : decode cL_law 179 = .ok (.lcmp, 1) := by decide +kernel
theorem dL_law_180 : decode cL_law 180 = .ok (.ifCond .eq 5, 3) := by decide +kernel
theorem dL_law_183 : decode cL_law 183 = .ok (.iconst 0, 1) := by decide +kernel
theorem dL_law_184 : decode cL_law 184 = .ok (.ireturn, 1) := by decide +kernel
theorem dL_law_185 : decode cL_law 185 = .ok (.iload_n 2, 1) := by decide +kernel
theorem dL_law_186 : decode cL_law 186 = .ok (.iconst 3, 1) := by decide +kernel
theorem dL_law_187 : decode cL_law 187 = .ok (.irem, 1) := by decide +kernel
theorem dL_law_188 : decode cL_law 188 = .ok (.iconst 2, 1) := by decide +kernel
theorem dL_law_189 : decode cL_law 189 = .ok (.if_icmp .ne 20, 3) := by decide +kernel
theorem dL_law_192 : decode cL_law 192 = .ok (.aload_n 1, 1) := by decide +kernel
theorem dL_law_193 : decode cL_law 193 = .ok (.iconst 1, 1) := by decide +kernel
theorem dL_law_194 : decode cL_law 194 = .ok (.iload_n 3, 1) := by decide +kernel
theorem dL_law_195 : decode cL_law 195 = .ok (.iconst 5, 1) := by decide +kernel
theorem dL_law_196 : decode cL_law 196 = .ok (.iushr, 1) := by decide +kernel
theorem dL_law_197 : decode cL_law 197 = .ok (.bipush 31, 2) := by decide +kernel
theorem dL_law_199 : decode cL_law 199 = .ok (.iand, 1) := by decide +kernel
theorem dL_law_200 : decode cL_law 200 = .ok (.iadd, 1) := by decide +kernel
theorem dL_law_201 : decode cL_law 201 = .ok (.invokestatic 211, 3) := by decide +kernel
theorem dL_law_204 : decode cL_law 204 = .ok (.ifCond .ne 5, 3) := by decide +kernel
theorem dL_law_207 : decode cL_law 207 = .ok (.iconst 0, 1) := by decide +kernel
theorem dL_law_208 : decode cL_law 208 = .ok (.ireturn, 1) := by decide +kernel
theorem dL_law_209 : decode cL_law 209 = .ok (.iinc 2 1, 3) := by decide +kernel
theorem dL_law_212 : decode cL_law 212 = .ok (.goto (-139), 3) := by decide +kernel
theorem dL_law_215 : decode cL_law 215 = .ok (.aload_n 1, 1) := by decide +kernel
theorem dL_law_216 : decode cL_law 216 = .ok (.iconst 1, 1) := by decide +kernel
theorem dL_law_217 : decode cL_law 217 = .ok (.aload_n 0, 1) := by decide +kernel
theorem dL_law_218 : decode cL_law 218 = .ok (.iconst 0, 1) := by decide +kernel
theorem dL_law_219 : decode cL_law 219 = .ok (.invokestatic 197, 3) := by decide +kernel
theorem dL_law_222 : decode cL_law 222 = .ok (.iconst 4, 1) := by decide +kernel
theorem dL_law_223 : decode cL_law 223 = .ok (.iushr, 1) := by decide +kernel
theorem dL_law_224 : decode cL_law 224 = .ok (.bipush 31, 2) := by decide +kernel
theorem dL_law_226 : decode cL_law 226 = .ok (.iand, 1) := by decide +kernel
theorem dL_law_227 : decode cL_law 227 = .ok (.iadd, 1) := by decide +kernel
theorem dL_law_228 : decode cL_law 228 = .ok (.iconst 1, 1) := by decide +kernel
theorem dL_law_229 : decode cL_law 229 = .ok (.aload_n 0, 1) := by decide +kernel
theorem dL_law_230 : decode cL_law 230 = .ok (.iconst 1, 1) := by decide +kernel
theorem dL_law_231 : decode cL_law 231 = .ok (.invokestatic 197, 3) := by decide +kernel
theorem dL_law_234 : decode cL_law 234 = .ok (.iconst 4, 1) := by decide +kernel
theorem dL_law_235 : decode cL_law 235 = .ok (.iushr, 1) := by decide +kernel
theorem dL_law_236 : decode cL_law 236 = .ok (.bipush 63, 2) := by decide +kernel
theorem dL_law_238 : decode cL_law 238 = .ok (.iand, 1) := by decide +kernel
theorem dL_law_239 : decode cL_law 239 = .ok (.iadd, 1) := by decide +kernel
theorem dL_law_240 : decode cL_law 240 = .ok (.invokestatic 215, 3) := by decide +kernel
theorem dL_law_243 : decode cL_law 243 = .ok (.ireturn, 1) := by decide +kernel
