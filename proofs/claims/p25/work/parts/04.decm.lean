theorem dL_cell_0 : decode cL_cell 0 = .ok (.iload_n 1, 1) := by decide +kernel
theorem dL_cell_1 : decode cL_cell 1 = .ok (.aload_n 0, 1) := by decide +kernel
theorem dL_cell_2 : decode cL_cell 2 = .ok (.arraylength, 1) := by decide +kernel
theorem dL_cell_3 : decode cL_cell 3 = .ok (.if_icmp .ge 9, 3) := by decide +kernel
theorem dL_cell_6 : decode cL_cell 6 = .ok (.aload_n 0, 1) := by decide +kernel
theorem dL_cell_7 : decode cL_cell 7 = .ok (.iload_n 1, 1) := by decide +kernel
theorem dL_cell_8 : decode cL_cell 8 = .ok (.iaload, 1) := by decide +kernel
theorem dL_cell_9 : decode cL_cell 9 = .ok (.goto 15, 3) := by decide +kernel
theorem dL_cell_12 : decode cL_cell 12 = .ok (.sipush 7919, 3) := by decide +kernel
theorem dL_cell_15 : decode cL_cell 15 = .ok (.iload_n 1, 1) := by decide +kernel
theorem dL_cell_16 : decode cL_cell 16 = .ok (.iconst 3, 1) := by decide +kernel
theorem dL_cell_17 : decode cL_cell 17 = .ok (.iadd, 1) := by decide +kernel
theorem dL_cell_18 : decode cL_cell 18 = .ok (.imul, 1) := by decide +kernel
theorem dL_cell_19 : decode cL_cell 19 = .ok (.iload_n 1, 1) := by decide +kernel
theorem dL_cell_20 : decode cL_cell 20 = .ok (.bipush 11, 2) := by decide +kernel
theorem dL_cell_22 : decode cL_cell 22 = .ok (.iadd, 1) := by decide +kernel
theorem dL_cell_23 : decode cL_cell 23 = .ok (.imul, 1) := by decide +kernel
theorem dL_cell_24 : decode cL_cell 24 = .ok (.ireturn, 1) := by decide +kernel
theorem dL_low_0 : decode cL_low 0 = .ok (.iload_n 0, 1) := by decide +kernel
theorem dL_low_1 : decode cL_low 1 = .ok (.ldc 7, 2) := by decide +kernel
theorem dL_low_3 : decode cL_low 3 = .ok (.iand, 1) := by decide +kernel
theorem dL_low_4 : decode cL_low 4 = .ok (.iload_n 1, 1) := by decide +kernel
theorem dL_low_5 : decode cL_low 5 = .ok (.irem, 1) := by decide +kernel
theorem dL_low_6 : decode cL_low 6 = .ok (.ireturn, 1) := by decide +kernel
theorem dL_mild_0 : decode cL_mild 0 = .ok (.iload_n 0, 1) := by decide +kernel
theorem dL_mild_1 : decode cL_mild 1 = .ok (.ldc 10, 2) := by decide +kernel
theorem dL_mild_3 : decode cL_mild 3 = .ok (.if_icmp .eq 9, 3) := by decide +kernel
theorem dL_mild_6 : decode cL_mild 6 = .ok (.iload_n 0, 1) := by decide +kernel
theorem dL_mild_7 : decode cL_mild 7 = .ok (.ldc 11, 2) := by decide +kernel
theorem dL_mild_9 : decode cL_mild 9 = .ok (.if_icmp .ne 7, 3) := by decide +kernel
theorem dL_mild_12 : decode cL_mild 12 = .ok (.iconst 0, 1) := by decide +kernel
theorem dL_mild_13 : decode cL_mild 13 = .ok (.goto 4, 3) := by decide +kernel
theorem dL_mild_16 : decode cL_mild 16 = .ok (.iload_n 0, 1) := by decide +kernel
theorem dL_mild_17 : decode cL_mild 17 = .ok (.ireturn, 1) := by decide +kernel
theorem dL_second_0 : decode cL_second 0 = .ok (.iload_n 0, 1) := by decide +kernel
theorem dL_second_1 : decode cL_second 1 = .ok (.iconst 3, 1) := by decide +kernel
theorem dL_second_2 : decode cL_second 2 = .ok (.ishr, 1) := by decide +kernel
theorem dL_second_3 : decode cL_second 3 = .ok (.iload_n 1, 1) := by decide +kernel
theorem dL_second_4 : decode cL_second 4 = .ok (.iconst 1, 1) := by decide +kernel
theorem dL_second_5 : decode cL_second 5 = .ok (.iadd, 1) := by decide +kernel
theorem dL_second_6 : decode cL_second 6 = .ok (.invokestatic 12, 3) := by decide +kernel
theorem dL_second_9 : decode cL_second 9 = .ok (.iconst 1, 1) := by decide +kernel
theorem dL_second_10 : decode cL_second 10 = .ok (.isub, 1) := by decide +kernel
theorem dL_second_11 : decode cL_second 11 = .ok (.istore_n 3, 1) := by decide +kernel
theorem dL_second_12 : decode cL_second 12 = .ok (.iload_n 3, 1) := by decide +kernel
theorem dL_second_13 : decode cL_second 13 = .ok (.iload_n 2, 1) := by decide +kernel
theorem dL_second_14 : decode cL_second 14 = .ok (.if_icmp .ne 7, 3) := by decide +kernel
theorem dL_second_17 : decode cL_second 17 = .ok (.iconst (-1), 1) := by decide +kernel
theorem dL_second_18 : decode cL_second 18 = .ok (.goto 4, 3) := by decide +kernel
theorem dL_second_21 : decode cL_second 21 = .ok (.iload_n 3, 1) := by decide +kernel
theorem dL_second_22 : decode cL_second 22 = .ok (.ireturn, 1) := by decide +kernel
theorem dL_third_0 : decode cL_third 0 = .ok (.iload_n 0, 1) := by decide +kernel
theorem dL_third_1 : decode cL_third 1 = .ok (.bipush 6, 2) := by decide +kernel
theorem dL_third_3 : decode cL_third 3 = .ok (.ishr, 1) := by decide +kernel
theorem dL_third_4 : decode cL_third 4 = .ok (.iload_n 1, 1) := by decide +kernel
theorem dL_third_5 : decode cL_third 5 = .ok (.iconst 1, 1) := by decide +kernel
theorem dL_third_6 : decode cL_third 6 = .ok (.iadd, 1) := by decide +kernel
theorem dL_third_7 : decode cL_third 7 = .ok (.invokestatic 12, 3) := by decide +kernel
theorem dL_third_10 : decode cL_third 10 = .ok (.iconst 1, 1) := by decide +kernel
theorem dL_third_11 : decode cL_third 11 = .ok (.isub, 1) := by decide +kernel
theorem dL_third_12 : decode cL_third 12 = .ok (.istore 4, 2) := by decide +kernel
theorem dL_third_14 : decode cL_third 14 = .ok (.iload_n 3, 1) := by decide +kernel
theorem dL_third_15 : decode cL_third 15 = .ok (.ifCond .lt 15, 3) := by decide +kernel
theorem dL_third_18 : decode cL_third 18 = .ok (.iload 4, 2) := by decide +kernel
theorem dL_third_20 : decode cL_third 20 = .ok (.iload_n 2, 1) := by decide +kernel
theorem dL_third_21 : decode cL_third 21 = .ok (.if_icmp .eq 9, 3) := by decide +kernel
theorem dL_third_24 : decode cL_third 24 = .ok (.iload 4, 2) := by decide +kernel
theorem dL_third_26 : decode cL_third 26 = .ok (.iload_n 3, 1) := by decide +kernel
theorem dL_third_27 : decode cL_third 27 = .ok (.if_icmp .ne 7, 3) := by decide +kernel
theorem dL_third_30 : decode cL_third 30 = .ok (.iconst (-1), 1) := by decide +kernel
theorem dL_third_31 : decode cL_third 31 = .ok (.goto 5, 3) := by decide +kernel
theorem dL_third_34 : decode cL_third 34 = .ok (.iload 4, 2) := by decide +kernel
theorem dL_third_36 : decode cL_third 36 = .ok (.ireturn, 1) := by decide +kernel
theorem dL_does_0 : decode cL_does 0 = .ok (.aload_n 0, 1) := by decide +kernel
theorem dL_does_1 : decode cL_does 1 = .ok (.iconst 0, 1) := by decide +kernel
theorem dL_does_2 : decode cL_does 2 = .ok (.invokevirtual 18, 3) := by decide +kernel
theorem dL_does_5 : decode cL_does 5 = .ok (.istore_n 2, 1) := by decide +kernel
theorem dL_does_6 : decode cL_does 6 = .ok (.iload_n 2, 1) := by decide +kernel
theorem dL_does_7 : decode cL_does 7 = .ok (.ifCond .ne 7, 3) := by decide +kernel
theorem dL_does_10 : decode cL_does 10 = .ok (.iconst 0, 1) := by decide +kernel
theorem dL_does_11 : decode cL_does 11 = .ok (.goto 10, 3) := by decide +kernel
theorem dL_does_14 : decode cL_does 14 = .ok (.iload_n 1, 1) := by decide +kernel
theorem dL_does_15 : decode cL_does 15 = .ok (.iconst 4, 1) := by decide +kernel
theorem dL_does_16 : decode cL_does 16 = .ok (.ishr, 1) := by decide +kernel
theorem dL_does_17 : decode cL_does 17 = .ok (.iload_n 2, 1) := by decide +kernel
theorem dL_does_18 : decode cL_does 18 = .ok (.invokestatic 12, 3) := by decide +kernel
theorem dL_does_21 : decode cL_does 21 = .ok (.istore_n 3, 1) := by decide +kernel
theorem dL_does_22 : decode cL_does 22 = .ok (.iload_n 2, 1) := by decide +kernel
theorem dL_does_23 : decode cL_does 23 = .ok (.ifCond .ne 7, 3) := by decide +kernel
theorem dL_does_26 : decode cL_does 26 = .ok (.iconst (-1), 1) := by decide +kernel
theorem dL_does_27 : decode cL_does 27 = .ok (.goto 11, 3) := by decide +kernel
theorem dL_does_30 : decode cL_does 30 = .ok (.iload_n 1, 1) := by decide +kernel
theorem dL_does_31 : decode cL_does 31 = .ok (.iconst 4, 1) := by decide +kernel
theorem dL_does_32 : decode cL_does 32 = .ok (.ishr, 1) := by decide +kernel
theorem dL_does_33 : decode cL_does 33 = .ok (.iload_n 2, 1) := by decide +kernel
theorem dL_does_34 : decode cL_does 34 = .ok (.iload_n 3, 1) := by decide +kernel
theorem dL_does_35 : decode cL_does 35 = .ok (.invokestatic 22, 3) := by decide +kernel
theorem dL_does_38 : decode cL_does 38 = .ok (.istore 4, 2) := by decide +kernel
theorem dL_does_40 : decode cL_does 40 = .ok (.iload_n 2, 1) := by decide +kernel
theorem dL_does_41 : decode cL_does 41 = .ok (.ifCond .ne 7, 3) := by decide +kernel
theorem dL_does_44 : decode cL_does 44 = .ok (.iconst (-1), 1) := by decide +kernel
theorem dL_does_45 : decode cL_does 45 = .ok (.goto 13, 3) := by decide +kernel
theorem dL_does_48 : decode cL_does 48 = .ok (.iload_n 1, 1) := by decide +kernel
theorem dL_does_49 : decode cL_does 49 = .ok (.iconst 4, 1) := by decide +kernel
theorem dL_does_50 : decode cL_does 50 = .ok (.ishr, 1) := by decide +kernel
theorem dL_does_51 : decode cL_does 51 = .ok (.iload_n 2, 1) := by decide +kernel
theorem dL_does_52 : decode cL_does 52 = .ok (.iload_n 3, 1) := by decide +kernel
theorem dL_does_53 : decode cL_does 53 = .ok (.iload 4, 2) := by decide +kernel
theorem dL_does_55 : decode cL_does 55 = .ok (.invokestatic 26, 3) := by decide +kernel
theorem dL_does_58 : decode cL_does 58 = .ok (.istore 5, 2) := by decide +kernel
theorem dL_does_60 : decode cL_does 60 = .ok (.aload_n 0, 1) := by decide +kernel
theorem dL_does_61 : decode cL_does 61 = .ok (.iconst 2, 1) := by decide +kernel
theorem dL_does_62 : decode cL_does 62 = .ok (.invokevirtual 18, 3) := by decide +kernel
theorem dL_does_65 : decode cL_does 65 = .ok (.istore 6, 2) := by decide +kernel
theorem dL_does_67 : decode cL_does 67 = .ok (.iload_n 1, 1) := by decide +kernel
theorem dL_does_68 : decode cL_does 68 = .ok (.bipush 15, 2) := by decide +kernel
theorem dL_does_70 : decode cL_does 70 = .ok (.iand, 1) := by decide +kernel
theorem dL_does_71 : decode cL_does 71 = .ok (.tableswitch 188 0 7 #[45, 45, 94, 112, 112, 147, 172, 180], 45) := by decide +kernel
theorem dL_does_116 : decode cL_does 116 = .ok (.iconst 1, 1) := by decide +kernel
theorem dL_does_117 : decode cL_does 117 = .ok (.iload_n 1, 1) := by decide +kernel
theorem dL_does_118 : decode cL_does 118 = .ok (.iconst 4, 1) := by decide +kernel
theorem dL_does_119 : decode cL_does 119 = .ok (.ishr, 1) := by decide +kernel
theorem dL_does_120 : decode cL_does 120 = .ok (.iconst 4, 1) := by decide +kernel
theorem dL_does_121 : decode cL_does 121 = .ok (.invokestatic 12, 3) := by decide +kernel
theorem dL_does_124 : decode cL_does 124 = .ok (.iadd, 1) := by decide +kernel
theorem dL_does_125 : decode cL_does 125 = .ok (.istore 7, 2) := by decide +kernel
theorem dL_does_127 : decode cL_does 127 = .ok (.aload_n 0, 1) := by decide +kernel
theorem dL_does_128 : decode cL_does 128 = .ok (.iload_n 1, 1) := by decide +kernel
theorem dL_does_129 : decode cL_does 129 = .ok (.bipush 6, 2) := by decide +kernel
theorem dL_does_131 : decode cL_does 131 = .ok (.ishr, 1) := by decide +kernel
theorem dL_does_132 : decode cL_does 132 = .ok (.bipush 80, 2) := by decide +kernel
theorem dL_does_134 : decode cL_does 134 = .ok (.invokestatic 12, 3) := by decide +kernel
theorem dL_does_137 : decode cL_does 137 = .ok (.iload 7, 2) := by decide +kernel
theorem dL_does_139 : decode cL_does 139 = .ok (.iload 7, 2) := by decide +kernel
theorem dL_does_141 : decode cL_does 141 = .ok (.iload_n 1, 1) := by decide +kernel
theorem dL_does_142 : decode cL_does 142 = .ok (.iconst 5, 1) := by decide +kernel
theorem dL_does_143 : decode cL_does 143 = .ok (.ishr, 1) := by decide +kernel
theorem dL_does_144 : decode cL_does 144 = .ok (.iconst 4, 1) := by decide +kernel
theorem dL_does_145 : decode cL_does 145 = .ok (.invokestatic 12, 3) := by decide +kernel
theorem dL_does_148 : decode cL_does 148 = .ok (.iadd, 1) := by decide +kernel
theorem dL_does_149 : decode cL_does 149 = .ok (.iload_n 1, 1) := by decide +kernel
theorem dL_does_150 : decode cL_does 150 = .ok (.bipush 8, 2) := by decide +kernel
theorem dL_does_152 : decode cL_does 152 = .ok (.ishr, 1) := by decide +kernel
theorem dL_does_153 : decode cL_does 153 = .ok (.bipush 30, 2) := by decide +kernel
theorem dL_does_155 : decode cL_does 155 = .ok (.invokestatic 12, 3) := by decide +kernel
theorem dL_does_158 : decode cL_does 158 = .ok (.invokevirtual 30, 3) := by decide +kernel
theorem dL_does_161 : decode cL_does 161 = .ok (.invokestatic 33, 3) := by decide +kernel
theorem dL_does_164 : decode cL_does 164 = .ok (.ireturn, 1) := by decide +kernel
theorem dL_does_165 : decode cL_does 165 = .ok (.aload_n 0, 1) := by decide +kernel
theorem dL_does_166 : decode cL_does 166 = .ok (.iconst 1, 1) := by decide +kernel
theorem dL_does_167 : decode cL_does 167 = .ok (.iload_n 1, 1) := by decide +kernel
theorem dL_does_168 : decode cL_does 168 = .ok (.iconst 4, 1) := by decide +kernel
theorem dL_does_169 : decode cL_does 169 = .ok (.ishr, 1) := by decide +kernel
theorem dL_does_170 : decode cL_does 170 = .ok (.bipush 8, 2) := by decide +kernel
theorem dL_does_172 : decode cL_does 172 = .ok (.invokestatic 12, 3) := by decide +kernel
theorem dL_does_175 : decode cL_does 175 = .ok (.iadd, 1) := by decide +kernel
theorem dL_does_176 : decode cL_does 176 = .ok (.invokevirtual 36, 3) := by decide +kernel
theorem dL_does_179 : decode cL_does 179 = .ok (.invokestatic 33, 3) := by decide +kernel
theorem dL_does_182 : decode cL_does 182 = .ok (.ireturn, 1) := by decide +kernel
theorem dL_does_183 : decode cL_does 183 = .ok (.iload 6, 2) := by decide +kernel
theorem dL_does_185 : decode cL_does 185 = .ok (.ifCond .eq 7, 3) := by decide +kernel
theorem dL_does_188 : decode cL_does 188 = .ok (.iload_n 2, 1) := by decide +kernel
theorem dL_does_189 : decode cL_does 189 = .ok (.ifCond .ne 7, 3) := by decide +kernel
theorem dL_does_192 : decode cL_does 192 = .ok (.iconst 0, 1) := by decide +kernel
theorem dL_does_193 : decode cL_does 193 = .ok (.goto 24, 3) := by decide +kernel
theorem dL_does_196 : decode cL_does 196 = .ok (.aload_n 0, 1) := by decide +kernel
theorem dL_does_197 : decode cL_does 197 = .ok (.iload_n 1, 1) := by decide +kernel
theorem dL_does_198 : decode cL_does 198 = .ok (.bipush 9, 2) := by decide +kernel
theorem dL_does_200 : decode cL_does 200 = .ok (.ishr, 1) := by decide +kernel
theorem dL_does_201 : decode cL_does 201 = .ok (.iload 6, 2) := by decide +kernel
theorem dL_does_203 : decode cL_does 203 = .ok (.invokestatic 12, 3) := by decide +kernel
theorem dL_does_206 : decode cL_does 206 = .ok (.iload_n 3, 1) := by decide +kernel
theorem dL_does_207 : decode cL_does 207 = .ok (.iload 4, 2) := by decide +kernel
theorem dL_does_209 : decode cL_does 209 = .ok (.iload 5, 2) := by decide +kernel
theorem dL_does_211 : decode cL_does 211 = .ok (.invokevirtual 39, 3) := by decide +kernel
theorem dL_does_214 : decode cL_does 214 = .ok (.invokestatic 33, 3) := by decide +kernel
theorem dL_does_217 : decode cL_does 217 = .ok (.ireturn, 1) := by decide +kernel
theorem dL_does_218 : decode cL_does 218 = .ok (.iload 6, 2) := by decide +kernel
theorem dL_does_220 : decode cL_does 220 = .ok (.ifCond .ne 7, 3) := by decide +kernel
theorem dL_does_223 : decode cL_does 223 = .ok (.iconst 0, 1) := by decide +kernel
theorem dL_does_224 : decode cL_does 224 = .ok (.goto 18, 3) := by decide +kernel
theorem dL_does_227 : decode cL_does 227 = .ok (.aload_n 0, 1) := by decide +kernel
theorem dL_does_228 : decode cL_does 228 = .ok (.iload_n 1, 1) := by decide +kernel
theorem dL_does_229 : decode cL_does 229 = .ok (.iconst 4, 1) := by decide +kernel
theorem dL_does_230 : decode cL_does 230 = .ok (.ishr, 1) := by decide +kernel
theorem dL_does_231 : decode cL_does 231 = .ok (.iload 6, 2) := by decide +kernel
theorem dL_does_233 : decode cL_does 233 = .ok (.invokestatic 12, 3) := by decide +kernel
theorem dL_does_236 : decode cL_does 236 = .ok (.invokevirtual 42, 3) := by decide +kernel
theorem dL_does_239 : decode cL_does 239 = .ok (.invokestatic 33, 3) := by decide +kernel
theorem dL_does_242 : decode cL_does 242 = .ok (.ireturn, 1) := by decide +kernel
theorem dL_does_243 : decode cL_does 243 = .ok (.aload_n 0, 1) := by decide +kernel
theorem dL_does_244 : decode cL_does 244 = .ok (.invokevirtual 45, 3) := by decide +kernel
theorem dL_does_247 : decode cL_does 247 = .ok (.invokestatic 33, 3) := by decide +kernel
theorem dL_does_250 : decode cL_does 250 = .ok (.ireturn, 1) := by decide +kernel
theorem dL_does_251 : decode cL_does 251 = .ok (.aload_n 0, 1) := by decide +kernel
theorem dL_does_252 : decode cL_does 252 = .ok (.invokevirtual 49, 3) := by decide +kernel
theorem dL_does_255 : decode cL_does 255 = .ok (.invokestatic 33, 3) := by decide +kernel
theorem dL_does_258 : decode cL_does 258 = .ok (.ireturn, 1) := by decide +kernel
theorem dL_does_259 : decode cL_does 259 = .ok (.iload_n 2, 1) := by decide +kernel
theorem dL_does_260 : decode cL_does 260 = .ok (.ifCond .ne 7, 3) := by decide +kernel
theorem dL_does_263 : decode cL_does 263 = .ok (.iconst 0, 1) := by decide +kernel
theorem dL_does_264 : decode cL_does 264 = .ok (.goto 15, 3) := by decide +kernel
theorem dL_does_267 : decode cL_does 267 = .ok (.aload_n 0, 1) := by decide +kernel
theorem dL_does_268 : decode cL_does 268 = .ok (.iload_n 3, 1) := by decide +kernel
theorem dL_does_269 : decode cL_does 269 = .ok (.iload 4, 2) := by decide +kernel
theorem dL_does_271 : decode cL_does 271 = .ok (.iload 5, 2) := by decide +kernel
theorem dL_does_273 : decode cL_does 273 = .ok (.invokevirtual 52, 3) := by decide +kernel
theorem dL_does_276 : decode cL_does 276 = .ok (.invokestatic 33, 3) := by decide +kernel
theorem dL_does_279 : decode cL_does 279 = .ok (.ireturn, 1) := by decide +kernel
theorem dL_bits_0 : decode cL_bits 0 = .ok (.iconst 0, 1) := by decide +kernel
theorem dL_bits_1 : decode cL_bits 1 = .ok (.istore_n 1, 1) := by decide +kernel
theorem dL_bits_2 : decode cL_bits 2 = .ok (.iconst 0, 1) := by decide +kernel
theorem dL_bits_3 : decode cL_bits 3 = .ok (.istore_n 2, 1) := by decide +kernel
theorem dL_bits_4 : decode cL_bits 4 = .ok (.iload_n 2, 1) := by decide +kernel
theorem dL_bits_5 : decode cL_bits 5 = .ok (.bipush 8, 2) := by decide +kernel
theorem dL_bits_7 : decode cL_bits 7 = .ok (.if_icmp .ge 17, 3) := by decide +kernel
theorem dL_bits_10 : decode cL_bits 10 = .ok (.iload_n 1, 1) := by decide +kernel
theorem dL_bits_11 : decode cL_bits 11 = .ok (.iload_n 0, 1) := by decide +kernel
theorem dL_bits_12 : decode cL_bits 12 = .ok (.iload_n 2, 1) := by decide +kernel
theorem dL_bits_13 : decode cL_bits 13 = .ok (.ishr, 1) := by decide +kernel
theorem dL_bits_14 : decode cL_bits 14 = .ok (.iconst 1, 1) := by decide +kernel
theorem dL_bits_15 : decode cL_bits 15 = .ok (.iand, 1) := by decide +kernel
theorem dL_bits_16 : decode cL_bits 16 = .ok (.iadd, 1) := by decide +kernel
theorem dL_bits_17 : decode cL_bits 17 = .ok (.istore_n 1, 1) := by decide +kernel
theorem dL_bits_18 : decode cL_bits 18 = .ok (.iinc 2 1, 3) := by decide +kernel
theorem dL_bits_21 : decode cL_bits 21 = .ok (.goto (-17), 3) := by decide +kernel
theorem dL_bits_24 : decode cL_bits 24 = .ok (.iload_n 1, 1) := by decide +kernel
theorem dL_bits_25 : decode cL_bits 25 = .ok (.ireturn, 1) := by decide +kernel
theorem dL_arePeopleSo_0 : decode cL_arePeopleSo 0 = .ok (.iconst 0, 1) := by decide +kernel
theorem dL_arePeopleSo_1 : decode cL_arePeopleSo 1 = .ok (.istore_n 1, 1) := by decide +kernel
theorem dL_arePeopleSo_2 : decode cL_arePeopleSo 2 = .ok (.iconst 0, 1) := by decide +kernel
theorem dL_arePeopleSo_3 : decode cL_arePeopleSo 3 = .ok (.istore_n 2, 1) := by decide +kernel
theorem dL_arePeopleSo_4 : decode cL_arePeopleSo 4 = .ok (.iconst 0, 1) := by decide +kernel
theorem dL_arePeopleSo_5 : decode cL_arePeopleSo 5 = .ok (.istore_n 3, 1) := by decide +kernel
theorem dL_arePeopleSo_6 : decode cL_arePeopleSo 6 = .ok (.iconst 1, 1) := by decide +kernel
theorem dL_arePeopleSo_7 : decode cL_arePeopleSo 7 = .ok (.istore 4, 2) := by decide +kernel
theorem dL_arePeopleSo_9 : decode cL_arePeopleSo 9 = .ok (.iconst 0, 1) := by decide +kernel
theorem dL_arePeopleSo_10 : decode cL_arePeopleSo 10 = .ok (.istore 5, 2) := by decide +kernel
theorem dL_arePeopleSo_12 : decode cL_arePeopleSo 12 = .ok (.iload 5, 2) := by decide +kernel
theorem dL_arePeopleSo_14 : decode cL_arePeopleSo 14 = .ok (.aload_n 0, 1) := by decide +kernel
theorem dL_arePeopleSo_15 : decode cL_arePeopleSo 15 = .ok (.iconst 2, 1) := by decide +kernel
theorem dL_arePeopleSo_16 : decode cL_arePeopleSo 16 = .ok (.invokevirtual 18, 3) := by decide +kernel
theorem dL_arePeopleSo_19 : decode cL_arePeopleSo 19 = .ok (.if_icmp .ge 182, 3) := by decide +kernel
theorem dL_arePeopleSo_22 : decode cL_arePeopleSo 22 = .ok (.aload_n 0, 1) := by decide +kernel
theorem dL_arePeopleSo_23 : decode cL_arePeopleSo 23 = .ok (.iload 5, 2) := by decide +kernel
theorem dL_arePeopleSo_25 : decode cL_arePeopleSo 25 = .ok (.iconst 1, 1) := by decide +kernel
theorem dL_arePeopleSo_26 : decode cL_arePeopleSo 26 = .ok (.invokevirtual 55, 3) := by decide +kernel
theorem dL_arePeopleSo_29 : decode cL_arePeopleSo 29 = .ok (.istore 6, 2) := by decide +kernel
theorem dL_arePeopleSo_31 : decode cL_arePeopleSo 31 = .ok (.aload_n 0, 1) := by decide +kernel
theorem dL_arePeopleSo_32 : decode cL_arePeopleSo 32 = .ok (.iload 5, 2) := by decide +kernel
theorem dL_arePeopleSo_34 : decode cL_arePeopleSo 34 = .ok (.iconst 2, 1) := by decide +kernel
theorem dL_arePeopleSo_35 : decode cL_arePeopleSo 35 = .ok (.invokevirtual 55, 3) := by decide +kernel
theorem dL_arePeopleSo_38 : decode cL_arePeopleSo 38 = .ok (.istore 7, 2) := by decide +kernel
theorem dL_arePeopleSo_40 : decode cL_arePeopleSo 40 = .ok (.iconst 3, 1) := by decide +kernel
theorem dL_arePeopleSo_41 : decode cL_arePeopleSo 41 = .ok (.istore 8, 2) := by decide +kernel
theorem dL_arePeopleSo_43 : decode cL_arePeopleSo 43 = .ok (.iconst 2, 1) := by decide +kernel
theorem dL_arePeopleSo_44 : decode cL_arePeopleSo 44 = .ok (.istore 9, 2) := by decide +kernel
theorem dL_arePeopleSo_46 : decode cL_arePeopleSo 46 = .ok (.iload 9, 2) := by decide +kernel
theorem dL_arePeopleSo_48 : decode cL_arePeopleSo 48 = .ok (.ifCond .lt 33, 3) := by decide +kernel
theorem dL_arePeopleSo_51 : decode cL_arePeopleSo 51 = .ok (.aload_n 0, 1) := by decide +kernel
theorem dL_arePeopleSo_52 : decode cL_arePeopleSo 52 = .ok (.iload 5, 2) := by decide +kernel
theorem dL_arePeopleSo_54 : decode cL_arePeopleSo 54 = .ok (.iconst 5, 1) := by decide +kernel
theorem dL_arePeopleSo_55 : decode cL_arePeopleSo 55 = .ok (.iload 9, 2) := by decide +kernel
theorem dL_arePeopleSo_57 : decode cL_arePeopleSo 57 = .ok (.iadd, 1) := by decide +kernel
theorem dL_arePeopleSo_58 : decode cL_arePeopleSo 58 = .ok (.invokevirtual 55, 3) := by decide +kernel
theorem dL_arePeopleSo_61 : decode cL_arePeopleSo 61 = .ok (.iload 6, 2) := by decide +kernel
theorem dL_arePeopleSo_63 : decode cL_arePeopleSo 63 = .ok (.if_icmp .ne 8, 3) := by decide +kernel
theorem dL_arePeopleSo_66 : decode cL_arePeopleSo 66 = .ok (.iload 9, 2) := by decide +kernel
theorem dL_arePeopleSo_68 : decode cL_arePeopleSo 68 = .ok (.goto 5, 3) := by decide +kernel
theorem dL_arePeopleSo_71 : decode cL_arePeopleSo 71 = .ok (.iload 8, 2) := by decide +kernel
theorem dL_arePeopleSo_73 : decode cL_arePeopleSo 73 = .ok (.istore 8, 2) := by decide +kernel
theorem dL_arePeopleSo_75 : decode cL_arePeopleSo 75 = .ok (.iinc 9 (-1), 3) := by decide +kernel
theorem dL_arePeopleSo_78 : decode cL_arePeopleSo 78 = .ok (.goto (-32), 3) := by decide +kernel
theorem dL_arePeopleSo_81 : decode cL_arePeopleSo 81 = .ok (.iload_n 1, 1) := by decide +kernel
theorem dL_arePeopleSo_82 : decode cL_arePeopleSo 82 = .ok (.aload_n 0, 1) := by decide +kernel
theorem dL_arePeopleSo_83 : decode cL_arePeopleSo 83 = .ok (.iload 5, 2) := by decide +kernel
theorem dL_arePeopleSo_85 : decode cL_arePeopleSo 85 = .ok (.iconst 0, 1) := by decide +kernel
theorem dL_arePeopleSo_86 : decode cL_arePeopleSo 86 = .ok (.invokevirtual 55, 3) := by decide +kernel
theorem dL_arePeopleSo_89 : decode cL_arePeopleSo 89 = .ok (.iadd, 1) := by decide +kernel
theorem dL_arePeopleSo_90 : decode cL_arePeopleSo 90 = .ok (.istore_n 1, 1) := by decide +kernel
theorem dL_arePeopleSo_91 : decode cL_arePeopleSo 91 = .ok (.iload_n 2, 1) := by decide +kernel
theorem dL_arePeopleSo_92 : decode cL_arePeopleSo 92 = .ok (.iload 6, 2) := by decide +kernel
theorem dL_arePeopleSo_94 : decode cL_arePeopleSo 94 = .ok (.ifCond .lt 7, 3) := by decide +kernel
theorem dL_arePeopleSo_97 : decode cL_arePeopleSo 97 = .ok (.iconst 1, 1) := by decide +kernel
theorem dL_arePeopleSo_98 : decode cL_arePeopleSo 98 = .ok (.goto 4, 3) := by decide +kernel
theorem dL_arePeopleSo_101 : decode cL_arePeopleSo 101 = .ok (.iconst 0, 1) := by decide +kernel
theorem dL_arePeopleSo_102 : decode cL_arePeopleSo 102 = .ok (.iadd, 1) := by decide +kernel
theorem dL_arePeopleSo_103 : decode cL_arePeopleSo 103 = .ok (.istore_n 2, 1) := by decide +kernel
theorem dL_arePeopleSo_104 : decode cL_arePeopleSo 104 = .ok (.iload_n 3, 1) := by decide +kernel
theorem dL_arePeopleSo_105 : decode cL_arePeopleSo 105 = .ok (.aload_n 0, 1) := by decide +kernel
theorem dL_arePeopleSo_106 : decode cL_arePeopleSo 106 = .ok (.iload 5, 2) := by decide +kernel
theorem dL_arePeopleSo_108 : decode cL_arePeopleSo 108 = .ok (.iconst 3, 1) := by decide +kernel
theorem dL_arePeopleSo_109 : decode cL_arePeopleSo 109 = .ok (.invokevirtual 55, 3) := by decide +kernel
theorem dL_arePeopleSo_112 : decode cL_arePeopleSo 112 = .ok (.iadd, 1) := by decide +kernel
theorem dL_arePeopleSo_113 : decode cL_arePeopleSo 113 = .ok (.istore_n 3, 1) := by decide +kernel
theorem dL_arePeopleSo_114 : decode cL_arePeopleSo 114 = .ok (.iload 4, 2) := by decide +kernel
theorem dL_arePeopleSo_116 : decode cL_arePeopleSo 116 = .ok (.ifCond .eq 76, 3) := by decide +kernel
theorem dL_arePeopleSo_119 : decode cL_arePeopleSo 119 = .ok (.iload 6, 2) := by decide +kernel
theorem dL_arePeopleSo_121 : decode cL_arePeopleSo 121 = .ok (.ifCond .lt 51, 3) := by decide +kernel
theorem dL_arePeopleSo_124 : decode cL_arePeopleSo 124 = .ok (.iload 7, 2) := by decide +kernel
theorem dL_arePeopleSo_126 : decode cL_arePeopleSo 126 = .ok (.iload 8, 2) := by decide +kernel
theorem dL_arePeopleSo_128 : decode cL_arePeopleSo 128 = .ok (.if_icmp .ne 64, 3) := by decide +kernel
theorem dL_arePeopleSo_131 : decode cL_arePeopleSo 131 = .ok (.aload_n 0, 1) := by decide +kernel
theorem dL_arePeopleSo_132 : decode cL_arePeopleSo 132 = .ok (.iload 5, 2) := by decide +kernel
theorem dL_arePeopleSo_134 : decode cL_arePeopleSo 134 = .ok (.iconst 0, 1) := by decide +kernel
theorem dL_arePeopleSo_135 : decode cL_arePeopleSo 135 = .ok (.invokevirtual 55, 3) := by decide +kernel
theorem dL_arePeopleSo_138 : decode cL_arePeopleSo 138 = .ok (.iconst 1, 1) := by decide +kernel
theorem dL_arePeopleSo_139 : decode cL_arePeopleSo 139 = .ok (.if_icmp .ne 53, 3) := by decide +kernel
theorem dL_arePeopleSo_142 : decode cL_arePeopleSo 142 = .ok (.aload_n 0, 1) := by decide +kernel
theorem dL_arePeopleSo_143 : decode cL_arePeopleSo 143 = .ok (.iload 5, 2) := by decide +kernel
theorem dL_arePeopleSo_145 : decode cL_arePeopleSo 145 = .ok (.iconst 3, 1) := by decide +kernel
theorem dL_arePeopleSo_146 : decode cL_arePeopleSo 146 = .ok (.invokevirtual 55, 3) := by decide +kernel
theorem dL_arePeopleSo_149 : decode cL_arePeopleSo 149 = .ok (.aload_n 0, 1) := by decide +kernel
theorem dL_arePeopleSo_150 : decode cL_arePeopleSo 150 = .ok (.iload 6, 2) := by decide +kernel
theorem dL_arePeopleSo_152 : decode cL_arePeopleSo 152 = .ok (.iconst 5, 1) := by decide +kernel
theorem dL_arePeopleSo_153 : decode cL_arePeopleSo 153 = .ok (.invokevirtual 58, 3) := by decide +kernel
theorem dL_arePeopleSo_156 : decode cL_arePeopleSo 156 = .ok (.if_icmp .gt 36, 3) := by decide +kernel
theorem dL_arePeopleSo_159 : decode cL_arePeopleSo 159 = .ok (.aload_n 0, 1) := by decide +kernel
theorem dL_arePeopleSo_160 : decode cL_arePeopleSo 160 = .ok (.iload 5, 2) := by decide +kernel
theorem dL_arePeopleSo_162 : decode cL_arePeopleSo 162 = .ok (.iconst 4, 1) := by decide +kernel
theorem dL_arePeopleSo_163 : decode cL_arePeopleSo 163 = .ok (.invokevirtual 55, 3) := by decide +kernel
theorem dL_arePeopleSo_166 : decode cL_arePeopleSo 166 = .ok (.ifCond .le 26, 3) := by decide +kernel
theorem dL_arePeopleSo_169 : decode cL_arePeopleSo 169 = .ok (.goto 19, 3) := by decide +kernel
theorem dL_arePeopleSo_172 : decode cL_arePeopleSo 172 = .ok (.iload 7, 2) := by decide +kernel
theorem dL_arePeopleSo_174 : decode cL_arePeopleSo 174 = .ok (.iconst 4, 1) := by decide +kernel
theorem dL_arePeopleSo_175 : decode cL_arePeopleSo 175 = .ok (.if_icmp .ne 17, 3) := by decide +kernel
theorem dL_arePeopleSo_178 : decode cL_arePeopleSo 178 = .ok (.aload_n 0, 1) := by decide +kernel
theorem dL_arePeopleSo_179 : decode cL_arePeopleSo 179 = .ok (.iload 5, 2) := by decide +kernel
theorem dL_arePeopleSo_181 : decode cL_arePeopleSo 181 = .ok (.iconst 3, 1) := by decide +kernel
theorem dL_arePeopleSo_182 : decode cL_arePeopleSo 182 = .ok (.invokevirtual 55, 3) := by decide +kernel
theorem dL_arePeopleSo_185 : decode cL_arePeopleSo 185 = .ok (.ifCond .ne 7, 3) := by decide +kernel
theorem dL_arePeopleSo_188 : decode cL_arePeopleSo 188 = .ok (.iconst 1, 1) := by decide +kernel
theorem dL_arePeopleSo_189 : decode cL_arePeopleSo 189 = .ok (.goto 4, 3) := by decide +kernel
theorem dL_arePeopleSo_192 : decode cL_arePeopleSo 192 = .ok (.iconst 0, 1) := by decide +kernel
theorem dL_arePeopleSo_193 : decode cL_arePeopleSo 193 = .ok (.istore 4, 2) := by decide +kernel
theorem dL_arePeopleSo_195 : decode cL_arePeopleSo 195 = .ok (.iinc 5 1, 3) := by decide +kernel
theorem dL_arePeopleSo_198 : decode cL_arePeopleSo 198 = .ok (.goto (-186), 3) := by decide +kernel
theorem dL_arePeopleSo_201 : decode cL_arePeopleSo 201 = .ok (.iload 4, 2) := by decide +kernel
theorem dL_arePeopleSo_203 : decode cL_arePeopleSo 203 = .ok (.ifCond .eq 77, 3) := by decide +kernel
theorem dL_arePeopleSo_206 : decode cL_arePeopleSo 206 = .ok (.iload_n 1, 1) := by decide +kernel
theorem dL_arePeopleSo_207 : decode cL_arePeopleSo 207 = .ok (.aload_n 0, 1) := by decide +kernel
theorem dL_arePeopleSo_208 : decode cL_arePeopleSo 208 = .ok (.iconst 3, 1) := by decide +kernel
theorem dL_arePeopleSo_209 : decode cL_arePeopleSo 209 = .ok (.invokevirtual 18, 3) := by decide +kernel
theorem dL_arePeopleSo_212 : decode cL_arePeopleSo 212 = .ok (.if_icmp .ne 68, 3) := by decide +kernel
theorem dL_arePeopleSo_215 : decode cL_arePeopleSo 215 = .ok (.iload_n 2, 1) := by decide +kernel
theorem dL_arePeopleSo_216 : decode cL_arePeopleSo 216 = .ok (.aload_n 0, 1) := by decide +kernel
theorem dL_arePeopleSo_217 : decode cL_arePeopleSo 217 = .ok (.iconst 4, 1) := by decide +kernel
theorem dL_arePeopleSo_218 : decode cL_arePeopleSo 218 = .ok (.invokevirtual 18, 3) := by decide +kernel
theorem dL_arePeopleSo_221 : decode cL_arePeopleSo 221 = .ok (.if_icmp .ne 59, 3) := by decide +kernel
theorem dL_arePeopleSo_224 : decode cL_arePeopleSo 224 = .ok (.iload_n 3, 1) := by decide +kernel
theorem dL_arePeopleSo_225 : decode cL_arePeopleSo 225 = .ok (.aload_n 0, 1) := by decide +kernel
theorem dL_arePeopleSo_226 : decode cL_arePeopleSo 226 = .ok (.bipush 11, 2) := by decide +kernel
theorem dL_arePeopleSo_228 : decode cL_arePeopleSo 228 = .ok (.invokevirtual 18, 3) := by decide +kernel
theorem dL_arePeopleSo_231 : decode cL_arePeopleSo 231 = .ok (.if_icmp .ne 49, 3) := by decide +kernel
theorem dL_arePeopleSo_234 : decode cL_arePeopleSo 234 = .ok (.aload_n 0, 1) := by decide +kernel
theorem dL_arePeopleSo_235 : decode cL_arePeopleSo 235 = .ok (.bipush 9, 2) := by decide +kernel
theorem dL_arePeopleSo_237 : decode cL_arePeopleSo 237 = .ok (.invokevirtual 18, 3) := by decide +kernel
theorem dL_arePeopleSo_240 : decode cL_arePeopleSo 240 = .ok (.aload_n 0, 1) := by decide +kernel
theorem dL_arePeopleSo_241 : decode cL_arePeopleSo 241 = .ok (.bipush 10, 2) := by decide +kernel
theorem dL_arePeopleSo_243 : decode cL_arePeopleSo 243 = .ok (.invokevirtual 18, 3) := by decide +kernel
theorem dL_arePeopleSo_246 : decode cL_arePeopleSo 246 = .ok (.aload_n 0, 1) := by decide +kernel
theorem dL_arePeopleSo_247 : decode cL_arePeopleSo 247 = .ok (.bipush 11, 2) := by decide +kernel
theorem dL_arePeopleSo_249 : decode cL_arePeopleSo 249 = .ok (.invokevirtual 18, 3) := by decide +kernel
theorem dL_arePeopleSo_252 : decode cL_arePeopleSo 252 = .ok (.iadd, 1) := by decide +kernel
theorem dL_arePeopleSo_253 : decode cL_arePeopleSo 253 = .ok (.aload_n 0, 1) := by decide +kernel
theorem dL_arePeopleSo_254 : decode cL_arePeopleSo 254 = .ok (.bipush 12, 2) := by decide +kernel
theorem dL_arePeopleSo_256 : decode cL_arePeopleSo 256 = .ok (.invokevirtual 18, 3) := by decide +kernel
theorem dL_arePeopleSo_259 : decode cL_arePeopleSo 259 = .ok (.iadd, 1) := by decide +kernel
theorem dL_arePeopleSo_260 : decode cL_arePeopleSo 260 = .ok (.if_icmp .ne 20, 3) := by decide +kernel
theorem dL_arePeopleSo_263 : decode cL_arePeopleSo 263 = .ok (.iload_n 1, 1) := by decide +kernel
theorem dL_arePeopleSo_264 : decode cL_arePeopleSo 264 = .ok (.ifCond .gt 12, 3) := by decide +kernel
theorem dL_arePeopleSo_267 : decode cL_arePeopleSo 267 = .ok (.aload_n 0, 1) := by decide +kernel
theorem dL_arePeopleSo_268 : decode cL_arePeopleSo 268 = .ok (.invokevirtual 61, 3) := by decide +kernel
theorem dL_arePeopleSo_271 : decode cL_arePeopleSo 271 = .ok (.ldc 64, 2) := by decide +kernel
theorem dL_arePeopleSo_273 : decode cL_arePeopleSo 273 = .ok (.if_icmp .ne 7, 3) := by decide +kernel
theorem dL_arePeopleSo_276 : decode cL_arePeopleSo 276 = .ok (.iconst 1, 1) := by decide +kernel
theorem dL_arePeopleSo_277 : decode cL_arePeopleSo 277 = .ok (.goto 4, 3) := by decide +kernel
theorem dL_arePeopleSo_280 : decode cL_arePeopleSo 280 = .ok (.iconst 0, 1) := by decide +kernel
theorem dL_arePeopleSo_281 : decode cL_arePeopleSo 281 = .ok (.ireturn, 1) := by decide +kernel
theorem dL_areCoursesSo_0 : decode cL_areCoursesSo 0 = .ok (.aload_n 0, 1) := by decide +kernel
theorem dL_areCoursesSo_1 : decode cL_areCoursesSo 1 = .ok (.bipush 8, 2) := by decide +kernel
theorem dL_areCoursesSo_3 : decode cL_areCoursesSo 3 = .ok (.invokevirtual 18, 3) := by decide +kernel
theorem dL_areCoursesSo_6 : decode cL_areCoursesSo 6 = .ok (.iconst 1, 1) := by decide +kernel
theorem dL_areCoursesSo_7 : decode cL_areCoursesSo 7 = .ok (.if_icmp .ne 7, 3) := by decide +kernel
theorem dL_areCoursesSo_10 : decode cL_areCoursesSo 10 = .ok (.iconst 1, 1) := by decide +kernel
theorem dL_areCoursesSo_11 : decode cL_areCoursesSo 11 = .ok (.goto 4, 3) := by decide +kernel
theorem dL_areCoursesSo_14 : decode cL_areCoursesSo 14 = .ok (.iconst 0, 1) := by decide +kernel
theorem dL_areCoursesSo_15 : decode cL_areCoursesSo 15 = .ok (.istore_n 1, 1) := by decide +kernel
theorem dL_areCoursesSo_16 : decode cL_areCoursesSo 16 = .ok (.iconst 0, 1) := by decide +kernel
theorem dL_areCoursesSo_17 : decode cL_areCoursesSo 17 = .ok (.istore_n 2, 1) := by decide +kernel
theorem dL_areCoursesSo_18 : decode cL_areCoursesSo 18 = .ok (.iconst 0, 1) := by decide +kernel
theorem dL_areCoursesSo_19 : decode cL_areCoursesSo 19 = .ok (.istore_n 3, 1) := by decide +kernel
theorem dL_areCoursesSo_20 : decode cL_areCoursesSo 20 = .ok (.iconst 0, 1) := by decide +kernel
theorem dL_areCoursesSo_21 : decode cL_areCoursesSo 21 = .ok (.istore 4, 2) := by decide +kernel
theorem dL_areCoursesSo_23 : decode cL_areCoursesSo 23 = .ok (.iconst 1, 1) := by decide +kernel
theorem dL_areCoursesSo_24 : decode cL_areCoursesSo 24 = .ok (.istore 5, 2) := by decide +kernel
theorem dL_areCoursesSo_26 : decode cL_areCoursesSo 26 = .ok (.iconst 0, 1) := by decide +kernel
theorem dL_areCoursesSo_27 : decode cL_areCoursesSo 27 = .ok (.istore 6, 2) := by decide +kernel
theorem dL_areCoursesSo_29 : decode cL_areCoursesSo 29 = .ok (.iload 6, 2) := by decide +kernel
theorem dL_areCoursesSo_31 : decode cL_areCoursesSo 31 = .ok (.aload_n 0, 1) := by decide +kernel
theorem dL_areCoursesSo_32 : decode cL_areCoursesSo 32 = .ok (.iconst 0, 1) := by decide +kernel
theorem dL_areCoursesSo_33 : decode cL_areCoursesSo 33 = .ok (.invokevirtual 18, 3) := by decide +kernel
theorem dL_areCoursesSo_36 : decode cL_areCoursesSo 36 = .ok (.if_icmp .ge 661, 3) := by decide +kernel
theorem dL_areCoursesSo_39 : decode cL_areCoursesSo 39 = .ok (.aload_n 0, 1) := by decide +kernel
theorem dL_areCoursesSo_40 : decode cL_areCoursesSo 40 = .ok (.iload 6, 2) := by decide +kernel
theorem dL_areCoursesSo_42 : decode cL_areCoursesSo 42 = .ok (.bipush 7, 2) := by decide +kernel
theorem dL_areCoursesSo_44 : decode cL_areCoursesSo 44 = .ok (.invokevirtual 58, 3) := by decide +kernel
theorem dL_areCoursesSo_47 : decode cL_areCoursesSo 47 = .ok (.istore 7, 2) := by decide +kernel
theorem dL_areCoursesSo_49 : decode cL_areCoursesSo 49 = .ok (.aload_n 0, 1) := by decide +kernel
theorem dL_areCoursesSo_50 : decode cL_areCoursesSo 50 = .ok (.iload 6, 2) := by decide +kernel
theorem dL_areCoursesSo_52 : decode cL_areCoursesSo 52 = .ok (.bipush 6, 2) := by decide +kernel
theorem dL_areCoursesSo_54 : decode cL_areCoursesSo 54 = .ok (.invokevirtual 58, 3) := by decide +kernel
theorem dL_areCoursesSo_57 : decode cL_areCoursesSo 57 = .ok (.istore 8, 2) := by decide +kernel
theorem dL_areCoursesSo_59 : decode cL_areCoursesSo 59 = .ok (.aload_n 0, 1) := by decide +kernel
theorem dL_areCoursesSo_60 : decode cL_areCoursesSo 60 = .ok (.iload 6, 2) := by decide +kernel
theorem dL_areCoursesSo_62 : decode cL_areCoursesSo 62 = .ok (.bipush 8, 2) := by decide +kernel
theorem dL_areCoursesSo_64 : decode cL_areCoursesSo 64 = .ok (.invokevirtual 58, 3) := by decide +kernel
theorem dL_areCoursesSo_67 : decode cL_areCoursesSo 67 = .ok (.istore 9, 2) := by decide +kernel
theorem dL_areCoursesSo_69 : decode cL_areCoursesSo 69 = .ok (.iload 8, 2) := by decide +kernel
theorem dL_areCoursesSo_71 : decode cL_areCoursesSo 71 = .ok (.ifCond .ne 19, 3) := by decide +kernel
theorem dL_areCoursesSo_74 : decode cL_areCoursesSo 74 = .ok (.iload 7, 2) := by decide +kernel
theorem dL_areCoursesSo_76 : decode cL_areCoursesSo 76 = .ok (.aload_n 0, 1) := by decide +kernel
theorem dL_areCoursesSo_77 : decode cL_areCoursesSo 77 = .ok (.iload 6, 2) := by decide +kernel
theorem dL_areCoursesSo_79 : decode cL_areCoursesSo 79 = .ok (.iconst 4, 1) := by decide +kernel
theorem dL_areCoursesSo_80 : decode cL_areCoursesSo 80 = .ok (.invokevirtual 58, 3) := by decide +kernel
theorem dL_areCoursesSo_83 : decode cL_areCoursesSo 83 = .ok (.if_icmp .ge 7, 3) := by decide +kernel
theorem dL_areCoursesSo_86 : decode cL_areCoursesSo 86 = .ok (.iconst 1, 1) := by decide +kernel
theorem dL_areCoursesSo_87 : decode cL_areCoursesSo 87 = .ok (.goto 4, 3) := by decide +kernel
theorem dL_areCoursesSo_90 : decode cL_areCoursesSo 90 = .ok (.iconst 0, 1) := by decide +kernel
theorem dL_areCoursesSo_91 : decode cL_areCoursesSo 91 = .ok (.istore 10, 2) := by decide +kernel
theorem dL_areCoursesSo_93 : decode cL_areCoursesSo 93 = .ok (.iload 4, 2) := by decide +kernel
theorem dL_areCoursesSo_95 : decode cL_areCoursesSo 95 = .ok (.iload 7, 2) := by decide +kernel
theorem dL_areCoursesSo_97 : decode cL_areCoursesSo 97 = .ok (.iadd, 1) := by decide +kernel
theorem dL_areCoursesSo_98 : decode cL_areCoursesSo 98 = .ok (.istore 4, 2) := by decide +kernel
theorem dL_areCoursesSo_100 : decode cL_areCoursesSo 100 = .ok (.iload_n 2, 1) := by decide +kernel
theorem dL_areCoursesSo_101 : decode cL_areCoursesSo 101 = .ok (.iload 8, 2) := by decide +kernel
theorem dL_areCoursesSo_103 : decode cL_areCoursesSo 103 = .ok (.ifCond .ne 10, 3) := by decide +kernel
theorem dL_areCoursesSo_106 : decode cL_areCoursesSo 106 = .ok (.iconst 1, 1) := by decide +kernel
theorem dL_areCoursesSo_107 : decode cL_areCoursesSo 107 = .ok (.iload 6, 2) := by decide +kernel
theorem dL_areCoursesSo_109 : decode cL_areCoursesSo 109 = .ok (.ishl, 1) := by decide +kernel
theorem dL_areCoursesSo_110 : decode cL_areCoursesSo 110 = .ok (.goto 4, 3) := by decide +kernel
theorem dL_areCoursesSo_113 : decode cL_areCoursesSo 113 = .ok (.iconst 0, 1) := by decide +kernel
theorem dL_areCoursesSo_114 : decode cL_areCoursesSo 114 = .ok (.ior, 1) := by decide +kernel
theorem dL_areCoursesSo_115 : decode cL_areCoursesSo 115 = .ok (.istore_n 2, 1) := by decide +kernel
theorem dL_areCoursesSo_116 : decode cL_areCoursesSo 116 = .ok (.iload_n 3, 1) := by decide +kernel
theorem dL_areCoursesSo_117 : decode cL_areCoursesSo 117 = .ok (.iload 10, 2) := by decide +kernel
theorem dL_areCoursesSo_119 : decode cL_areCoursesSo 119 = .ok (.ifCond .eq 10, 3) := by decide +kernel
theorem dL_areCoursesSo_122 : decode cL_areCoursesSo 122 = .ok (.iconst 1, 1) := by decide +kernel
theorem dL_areCoursesSo_123 : decode cL_areCoursesSo 123 = .ok (.iload 6, 2) := by decide +kernel
theorem dL_areCoursesSo_125 : decode cL_areCoursesSo 125 = .ok (.ishl, 1) := by decide +kernel
theorem dL_areCoursesSo_126 : decode cL_areCoursesSo 126 = .ok (.goto 4, 3) := by decide +kernel
theorem dL_areCoursesSo_129 : decode cL_areCoursesSo 129 = .ok (.iconst 0, 1) := by decide +kernel
theorem dL_areCoursesSo_130 : decode cL_areCoursesSo 130 = .ok (.ior, 1) := by decide +kernel
theorem dL_areCoursesSo_131 : decode cL_areCoursesSo 131 = .ok (.istore_n 3, 1) := by decide +kernel
theorem dL_areCoursesSo_132 : decode cL_areCoursesSo 132 = .ok (.iload 5, 2) := by decide +kernel
theorem dL_areCoursesSo_134 : decode cL_areCoursesSo 134 = .ok (.ifCond .eq 95, 3) := by decide +kernel
theorem dL_areCoursesSo_137 : decode cL_areCoursesSo 137 = .ok (.iload 7, 2) := by decide +kernel
theorem dL_areCoursesSo_139 : decode cL_areCoursesSo 139 = .ok (.aload_n 0, 1) := by decide +kernel
theorem dL_areCoursesSo_140 : decode cL_areCoursesSo 140 = .ok (.iload 6, 2) := by decide +kernel
theorem dL_areCoursesSo_142 : decode cL_areCoursesSo 142 = .ok (.iconst 4, 1) := by decide +kernel
theorem dL_areCoursesSo_143 : decode cL_areCoursesSo 143 = .ok (.invokevirtual 58, 3) := by decide +kernel
theorem dL_areCoursesSo_146 : decode cL_areCoursesSo 146 = .ok (.if_icmp .gt 83, 3) := by decide +kernel
theorem dL_areCoursesSo_149 : decode cL_areCoursesSo 149 = .ok (.iload 8, 2) := by decide +kernel
theorem dL_areCoursesSo_151 : decode cL_areCoursesSo 151 = .ok (.ifCond .eq 7, 3) := by decide +kernel
theorem dL_areCoursesSo_154 : decode cL_areCoursesSo 154 = .ok (.iload_n 1, 1) := by decide +kernel
theorem dL_areCoursesSo_155 : decode cL_areCoursesSo 155 = .ok (.ifCond .eq 74, 3) := by decide +kernel
theorem dL_areCoursesSo_158 : decode cL_areCoursesSo 158 = .ok (.iload 8, 2) := by decide +kernel
theorem dL_areCoursesSo_160 : decode cL_areCoursesSo 160 = .ok (.ifCond .ne 7, 3) := by decide +kernel
theorem dL_areCoursesSo_163 : decode cL_areCoursesSo 163 = .ok (.iload_n 1, 1) := by decide +kernel
theorem dL_areCoursesSo_164 : decode cL_areCoursesSo 164 = .ok (.ifCond .ne 65, 3) := by decide +kernel
theorem dL_areCoursesSo_167 : decode cL_areCoursesSo 167 = .ok (.iload 8, 2) := by decide +kernel
theorem dL_areCoursesSo_169 : decode cL_areCoursesSo 169 = .ok (.iconst 2, 1) := by decide +kernel
theorem dL_areCoursesSo_170 : decode cL_areCoursesSo 170 = .ok (.if_icmp .lt 8, 3) := by decide +kernel
theorem dL_areCoursesSo_173 : decode cL_areCoursesSo 173 = .ok (.iload 7, 2) := by decide +kernel
theorem dL_areCoursesSo_175 : decode cL_areCoursesSo 175 = .ok (.ifCond .ne 54, 3) := by decide +kernel
theorem dL_areCoursesSo_178 : decode cL_areCoursesSo 178 = .ok (.iload 9, 2) := by decide +kernel
theorem dL_areCoursesSo_180 : decode cL_areCoursesSo 180 = .ok (.ifCond .eq 8, 3) := by decide +kernel
theorem dL_areCoursesSo_183 : decode cL_areCoursesSo 183 = .ok (.iload 10, 2) := by decide +kernel
theorem dL_areCoursesSo_185 : decode cL_areCoursesSo 185 = .ok (.ifCond .ne 44, 3) := by decide +kernel
theorem dL_areCoursesSo_188 : decode cL_areCoursesSo 188 = .ok (.aload_n 0, 1) := by decide +kernel
theorem dL_areCoursesSo_189 : decode cL_areCoursesSo 189 = .ok (.iload 6, 2) := by decide +kernel
theorem dL_areCoursesSo_191 : decode cL_areCoursesSo 191 = .ok (.bipush 11, 2) := by decide +kernel
theorem dL_areCoursesSo_193 : decode cL_areCoursesSo 193 = .ok (.invokevirtual 58, 3) := by decide +kernel
theorem dL_areCoursesSo_196 : decode cL_areCoursesSo 196 = .ok (.iload 7, 2) := by decide +kernel
theorem dL_areCoursesSo_198 : decode cL_areCoursesSo 198 = .ok (.aload_n 0, 1) := by decide +kernel
theorem dL_areCoursesSo_199 : decode cL_areCoursesSo 199 = .ok (.iload 6, 2) := by decide +kernel
theorem dL_areCoursesSo_201 : decode cL_areCoursesSo 201 = .ok (.iconst 3, 1) := by decide +kernel
theorem dL_areCoursesSo_202 : decode cL_areCoursesSo 202 = .ok (.invokevirtual 58, 3) := by decide +kernel
theorem dL_areCoursesSo_205 : decode cL_areCoursesSo 205 = .ok (.if_icmp .ge 16, 3) := by decide +kernel
theorem dL_areCoursesSo_208 : decode cL_areCoursesSo 208 = .ok (.aload_n 0, 1) := by decide +kernel
theorem dL_areCoursesSo_209 : decode cL_areCoursesSo 209 = .ok (.iload 6, 2) := by decide +kernel
theorem dL_areCoursesSo_211 : decode cL_areCoursesSo 211 = .ok (.iconst 3, 1) := by decide +kernel
theorem dL_areCoursesSo_212 : decode cL_areCoursesSo 212 = .ok (.invokevirtual 58, 3) := by decide +kernel
theorem dL_areCoursesSo_215 : decode cL_areCoursesSo 215 = .ok (.iload 7, 2) := by decide +kernel
theorem dL_areCoursesSo_217 : decode cL_areCoursesSo 217 = .ok (.isub, 1) := by decide +kernel
theorem dL_areCoursesSo_218 : decode cL_areCoursesSo 218 = .ok (.goto 4, 3) := by decide +kernel
theorem dL_areCoursesSo_221 : decode cL_areCoursesSo 221 = .ok (.iconst 0, 1) := by decide +kernel
theorem dL_areCoursesSo_222 : decode cL_areCoursesSo 222 = .ok (.if_icmp .ne 7, 3) := by decide +kernel
theorem dL_areCoursesSo_225 : decode cL_areCoursesSo 225 = .ok (.iconst 1, 1) := by decide +kernel
theorem dL_areCoursesSo_226 : decode cL_areCoursesSo 226 = .ok (.goto 4, 3) := by decide +kernel
theorem dL_areCoursesSo_229 : decode cL_areCoursesSo 229 = .ok (.iconst 0, 1) := by decide +kernel
theorem dL_areCoursesSo_230 : decode cL_areCoursesSo 230 = .ok (.istore 5, 2) := by decide +kernel
theorem dL_areCoursesSo_232 : decode cL_areCoursesSo 232 = .ok (.iload 5, 2) := by decide +kernel
theorem dL_areCoursesSo_234 : decode cL_areCoursesSo 234 = .ok (.ifCond .eq 128, 3) := by decide +kernel
theorem dL_areCoursesSo_237 : decode cL_areCoursesSo 237 = .ok (.aload_n 0, 1) := by decide +kernel
theorem dL_areCoursesSo_238 : decode cL_areCoursesSo 238 = .ok (.iload 6, 2) := by decide +kernel
theorem dL_areCoursesSo_240 : decode cL_areCoursesSo 240 = .ok (.bipush 12, 2) := by decide +kernel
theorem dL_areCoursesSo_242 : decode cL_areCoursesSo 242 = .ok (.invokevirtual 58, 3) := by decide +kernel
theorem dL_areCoursesSo_245 : decode cL_areCoursesSo 245 = .ok (.ifCond .ne 7, 3) := by decide +kernel
theorem dL_areCoursesSo_248 : decode cL_areCoursesSo 248 = .ok (.iconst 1, 1) := by decide +kernel
theorem dL_areCoursesSo_249 : decode cL_areCoursesSo 249 = .ok (.goto 4, 3) := by decide +kernel
theorem dL_areCoursesSo_252 : decode cL_areCoursesSo 252 = .ok (.iconst 0, 1) := by decide +kernel
theorem dL_areCoursesSo_253 : decode cL_areCoursesSo 253 = .ok (.iload 8, 2) := by decide +kernel
theorem dL_areCoursesSo_255 : decode cL_areCoursesSo 255 = .ok (.iconst 2, 1) := by decide +kernel
theorem dL_areCoursesSo_256 : decode cL_areCoursesSo 256 = .ok (.if_icmp .ge 7, 3) := by decide +kernel
theorem dL_areCoursesSo_259 : decode cL_areCoursesSo 259 = .ok (.iconst 1, 1) := by decide +kernel
theorem dL_areCoursesSo_260 : decode cL_areCoursesSo 260 = .ok (.goto 4, 3) := by decide +kernel
theorem dL_areCoursesSo_263 : decode cL_areCoursesSo 263 = .ok (.iconst 0, 1) := by decide +kernel
theorem dL_areCoursesSo_264 : decode cL_areCoursesSo 264 = .ok (.if_icmp .ne 98, 3) := by decide +kernel
theorem dL_areCoursesSo_267 : decode cL_areCoursesSo 267 = .ok (.aload_n 0, 1) := by decide +kernel
theorem dL_areCoursesSo_268 : decode cL_areCoursesSo 268 = .ok (.iload 6, 2) := by decide +kernel
theorem dL_areCoursesSo_270 : decode cL_areCoursesSo 270 = .ok (.bipush 12, 2) := by decide +kernel
theorem dL_areCoursesSo_272 : decode cL_areCoursesSo 272 = .ok (.invokevirtual 58, 3) := by decide +kernel
theorem dL_areCoursesSo_275 : decode cL_areCoursesSo 275 = .ok (.iconst 1, 1) := by decide +kernel
theorem dL_areCoursesSo_276 : decode cL_areCoursesSo 276 = .ok (.if_icmp .ne 7, 3) := by decide +kernel
theorem dL_areCoursesSo_279 : decode cL_areCoursesSo 279 = .ok (.iconst 1, 1) := by decide +kernel
theorem dL_areCoursesSo_280 : decode cL_areCoursesSo 280 = .ok (.goto 4, 3) := by decide +kernel
theorem dL_areCoursesSo_283 : decode cL_areCoursesSo 283 = .ok (.iconst 0, 1) := by decide +kernel
theorem dL_areCoursesSo_284 : decode cL_areCoursesSo 284 = .ok (.iload 8, 2) := by decide +kernel
theorem dL_areCoursesSo_286 : decode cL_areCoursesSo 286 = .ok (.iconst 3, 1) := by decide +kernel
theorem dL_areCoursesSo_287 : decode cL_areCoursesSo 287 = .ok (.if_icmp .ne 7, 3) := by decide +kernel
theorem dL_areCoursesSo_290 : decode cL_areCoursesSo 290 = .ok (.iconst 1, 1) := by decide +kernel
theorem dL_areCoursesSo_291 : decode cL_areCoursesSo 291 = .ok (.goto 4, 3) := by decide +kernel
theorem dL_areCoursesSo_294 : decode cL_areCoursesSo 294 = .ok (.iconst 0, 1) := by decide +kernel
theorem dL_areCoursesSo_295 : decode cL_areCoursesSo 295 = .ok (.if_icmp .ne 67, 3) := by decide +kernel
theorem dL_areCoursesSo_298 : decode cL_areCoursesSo 298 = .ok (.aload_n 0, 1) := by decide +kernel
theorem dL_areCoursesSo_299 : decode cL_areCoursesSo 299 = .ok (.iload 6, 2) := by decide +kernel
theorem dL_areCoursesSo_301 : decode cL_areCoursesSo 301 = .ok (.bipush 10, 2) := by decide +kernel
theorem dL_areCoursesSo_303 : decode cL_areCoursesSo 303 = .ok (.invokevirtual 58, 3) := by decide +kernel
theorem dL_areCoursesSo_306 : decode cL_areCoursesSo 306 = .ok (.ifCond .lt 7, 3) := by decide +kernel
theorem dL_areCoursesSo_309 : decode cL_areCoursesSo 309 = .ok (.iconst 1, 1) := by decide +kernel
theorem dL_areCoursesSo_310 : decode cL_areCoursesSo 310 = .ok (.goto 4, 3) := by decide +kernel
theorem dL_areCoursesSo_313 : decode cL_areCoursesSo 313 = .ok (.iconst 0, 1) := by decide +kernel
theorem dL_areCoursesSo_314 : decode cL_areCoursesSo 314 = .ok (.iload 8, 2) := by decide +kernel
theorem dL_areCoursesSo_316 : decode cL_areCoursesSo 316 = .ok (.iconst 3, 1) := by decide +kernel
theorem dL_areCoursesSo_317 : decode cL_areCoursesSo 317 = .ok (.if_icmp .ne 7, 3) := by decide +kernel
theorem dL_areCoursesSo_320 : decode cL_areCoursesSo 320 = .ok (.iconst 1, 1) := by decide +kernel
theorem dL_areCoursesSo_321 : decode cL_areCoursesSo 321 = .ok (.goto 4, 3) := by decide +kernel
theorem dL_areCoursesSo_324 : decode cL_areCoursesSo 324 = .ok (.iconst 0, 1) := by decide +kernel
theorem dL_areCoursesSo_325 : decode cL_areCoursesSo 325 = .ok (.if_icmp .ne 37, 3) := by decide +kernel
theorem dL_areCoursesSo_328 : decode cL_areCoursesSo 328 = .ok (.aload_n 0, 1) := by decide +kernel
theorem dL_areCoursesSo_329 : decode cL_areCoursesSo 329 = .ok (.iload 6, 2) := by decide +kernel
theorem dL_areCoursesSo_331 : decode cL_areCoursesSo 331 = .ok (.bipush 9, 2) := by decide +kernel
theorem dL_areCoursesSo_333 : decode cL_areCoursesSo 333 = .ok (.invokevirtual 58, 3) := by decide +kernel
theorem dL_areCoursesSo_336 : decode cL_areCoursesSo 336 = .ok (.ifCond .lt 7, 3) := by decide +kernel
theorem dL_areCoursesSo_339 : decode cL_areCoursesSo 339 = .ok (.iconst 1, 1) := by decide +kernel
theorem dL_areCoursesSo_340 : decode cL_areCoursesSo 340 = .ok (.goto 4, 3) := by decide +kernel
theorem dL_areCoursesSo_343 : decode cL_areCoursesSo 343 = .ok (.iconst 0, 1) := by decide +kernel
theorem dL_areCoursesSo_344 : decode cL_areCoursesSo 344 = .ok (.iload 8, 2) := by decide +kernel
theorem dL_areCoursesSo_346 : decode cL_areCoursesSo 346 = .ok (.iconst 1, 1) := by decide +kernel
theorem dL_areCoursesSo_347 : decode cL_areCoursesSo 347 = .ok (.if_icmp .ne 7, 3) := by decide +kernel
theorem dL_areCoursesSo_350 : decode cL_areCoursesSo 350 = .ok (.iconst 1, 1) := by decide +kernel
theorem dL_areCoursesSo_351 : decode cL_areCoursesSo 351 = .ok (.goto 4, 3) := by decide +kernel
theorem dL_areCoursesSo_354 : decode cL_areCoursesSo 354 = .ok (.iconst 0, 1) := by decide +kernel
theorem dL_areCoursesSo_355 : decode cL_areCoursesSo 355 = .ok (.if_icmp .ne 7, 3) := by decide +kernel
theorem dL_areCoursesSo_358 : decode cL_areCoursesSo 358 = .ok (.iconst 1, 1) := by decide +kernel
theorem dL_areCoursesSo_359 : decode cL_areCoursesSo 359 = .ok (.goto 4, 3) := by decide +kernel
theorem dL_areCoursesSo_362 : decode cL_areCoursesSo 362 = .ok (.iconst 0, 1) := by decide +kernel
theorem dL_areCoursesSo_363 : decode cL_areCoursesSo 363 = .ok (.istore 5, 2) := by decide +kernel
theorem dL_areCoursesSo_365 : decode cL_areCoursesSo 365 = .ok (.iconst (-1), 1) := by decide +kernel
theorem dL_areCoursesSo_366 : decode cL_areCoursesSo 366 = .ok (.istore 11, 2) := by decide +kernel
theorem dL_areCoursesSo_368 : decode cL_areCoursesSo 368 = .ok (.iconst 0, 1) := by decide +kernel
theorem dL_areCoursesSo_369 : decode cL_areCoursesSo 369 = .ok (.istore 12, 2) := by decide +kernel
theorem dL_areCoursesSo_371 : decode cL_areCoursesSo 371 = .ok (.iload 12, 2) := by decide +kernel
theorem dL_areCoursesSo_373 : decode cL_areCoursesSo 373 = .ok (.iload 9, 2) := by decide +kernel
theorem dL_areCoursesSo_375 : decode cL_areCoursesSo 375 = .ok (.if_icmp .ge 92, 3) := by decide +kernel
theorem dL_areCoursesSo_378 : decode cL_areCoursesSo 378 = .ok (.aload_n 0, 1) := by decide +kernel
theorem dL_areCoursesSo_379 : decode cL_areCoursesSo 379 = .ok (.iload 6, 2) := by decide +kernel
theorem dL_areCoursesSo_381 : decode cL_areCoursesSo 381 = .ok (.iload 12, 2) := by decide +kernel
theorem dL_areCoursesSo_383 : decode cL_areCoursesSo 383 = .ok (.invokevirtual 65, 3) := by decide +kernel
theorem dL_areCoursesSo_386 : decode cL_areCoursesSo 386 = .ok (.istore 13, 2) := by decide +kernel
theorem dL_areCoursesSo_388 : decode cL_areCoursesSo 388 = .ok (.iload 5, 2) := by decide +kernel
theorem dL_areCoursesSo_390 : decode cL_areCoursesSo 390 = .ok (.ifCond .eq 64, 3) := by decide +kernel
theorem dL_areCoursesSo_393 : decode cL_areCoursesSo 393 = .ok (.iload 13, 2) := by decide +kernel
theorem dL_areCoursesSo_395 : decode cL_areCoursesSo 395 = .ok (.iload 11, 2) := by decide +kernel
theorem dL_areCoursesSo_397 : decode cL_areCoursesSo 397 = .ok (.if_icmp .le 57, 3) := by decide +kernel
theorem dL_areCoursesSo_400 : decode cL_areCoursesSo 400 = .ok (.aload_n 0, 1) := by decide +kernel
theorem dL_areCoursesSo_401 : decode cL_areCoursesSo 401 = .ok (.iload 13, 2) := by decide +kernel
theorem dL_areCoursesSo_403 : decode cL_areCoursesSo 403 = .ok (.iconst 5, 1) := by decide +kernel
theorem dL_areCoursesSo_404 : decode cL_areCoursesSo 404 = .ok (.invokevirtual 55, 3) := by decide +kernel
theorem dL_areCoursesSo_407 : decode cL_areCoursesSo 407 = .ok (.iload 6, 2) := by decide +kernel
theorem dL_areCoursesSo_409 : decode cL_areCoursesSo 409 = .ok (.if_icmp .eq 29, 3) := by decide +kernel
theorem dL_areCoursesSo_412 : decode cL_areCoursesSo 412 = .ok (.aload_n 0, 1) := by decide +kernel
theorem dL_areCoursesSo_413 : decode cL_areCoursesSo 413 = .ok (.iload 13, 2) := by decide +kernel
theorem dL_areCoursesSo_415 : decode cL_areCoursesSo 415 = .ok (.bipush 6, 2) := by decide +kernel
theorem dL_areCoursesSo_417 : decode cL_areCoursesSo 417 = .ok (.invokevirtual 55, 3) := by decide +kernel
theorem dL_areCoursesSo_420 : decode cL_areCoursesSo 420 = .ok (.iload 6, 2) := by decide +kernel
theorem dL_areCoursesSo_422 : decode cL_areCoursesSo 422 = .ok (.if_icmp .eq 16, 3) := by decide +kernel
theorem dL_areCoursesSo_425 : decode cL_areCoursesSo 425 = .ok (.aload_n 0, 1) := by decide +kernel
theorem dL_areCoursesSo_426 : decode cL_areCoursesSo 426 = .ok (.iload 13, 2) := by decide +kernel
theorem dL_areCoursesSo_428 : decode cL_areCoursesSo 428 = .ok (.bipush 7, 2) := by decide +kernel
theorem dL_areCoursesSo_430 : decode cL_areCoursesSo 430 = .ok (.invokevirtual 55, 3) := by decide +kernel
theorem dL_areCoursesSo_433 : decode cL_areCoursesSo 433 = .ok (.iload 6, 2) := by decide +kernel
theorem dL_areCoursesSo_435 : decode cL_areCoursesSo 435 = .ok (.if_icmp .ne 19, 3) := by decide +kernel
theorem dL_areCoursesSo_438 : decode cL_areCoursesSo 438 = .ok (.aload_n 0, 1) := by decide +kernel
theorem dL_areCoursesSo_439 : decode cL_areCoursesSo 439 = .ok (.iload 13, 2) := by decide +kernel
theorem dL_areCoursesSo_441 : decode cL_areCoursesSo 441 = .ok (.iconst 1, 1) := by decide +kernel
theorem dL_areCoursesSo_442 : decode cL_areCoursesSo 442 = .ok (.invokevirtual 55, 3) := by decide +kernel
theorem dL_areCoursesSo_445 : decode cL_areCoursesSo 445 = .ok (.iload 6, 2) := by decide +kernel
theorem dL_areCoursesSo_447 : decode cL_areCoursesSo 447 = .ok (.if_icmp .eq 7, 3) := by decide +kernel
theorem dL_areCoursesSo_450 : decode cL_areCoursesSo 450 = .ok (.iconst 1, 1) := by decide +kernel
theorem dL_areCoursesSo_451 : decode cL_areCoursesSo 451 = .ok (.goto 4, 3) := by decide +kernel
theorem dL_areCoursesSo_454 : decode cL_areCoursesSo 454 = .ok (.iconst 0, 1) := by decide +kernel
theorem dL_areCoursesSo_455 : decode cL_areCoursesSo 455 = .ok (.istore 5, 2) := by decide +kernel
theorem dL_areCoursesSo_457 : decode cL_areCoursesSo 457 = .ok (.iload 13, 2) := by decide +kernel
theorem dL_areCoursesSo_459 : decode cL_areCoursesSo 459 = .ok (.istore 11, 2) := by decide +kernel
theorem dL_areCoursesSo_461 : decode cL_areCoursesSo 461 = .ok (.iinc 12 1, 3) := by decide +kernel
theorem dL_areCoursesSo_464 : decode cL_areCoursesSo 464 = .ok (.goto (-93), 3) := by decide +kernel
theorem dL_areCoursesSo_467 : decode cL_areCoursesSo 467 = .ok (.iload 5, 2) := by decide +kernel
theorem dL_areCoursesSo_469 : decode cL_areCoursesSo 469 = .ok (.ifCond .eq 33, 3) := by decide +kernel
theorem dL_areCoursesSo_472 : decode cL_areCoursesSo 472 = .ok (.aload_n 0, 1) := by decide +kernel
theorem dL_areCoursesSo_473 : decode cL_areCoursesSo 473 = .ok (.iload 6, 2) := by decide +kernel
theorem dL_areCoursesSo_475 : decode cL_areCoursesSo 475 = .ok (.iload 9, 2) := by decide +kernel
theorem dL_areCoursesSo_477 : decode cL_areCoursesSo 477 = .ok (.invokevirtual 65, 3) := by decide +kernel
theorem dL_areCoursesSo_480 : decode cL_areCoursesSo 480 = .ok (.ldc 64, 2) := by decide +kernel
theorem dL_areCoursesSo_482 : decode cL_areCoursesSo 482 = .ok (.if_icmp .ne 20, 3) := by decide +kernel
theorem dL_areCoursesSo_485 : decode cL_areCoursesSo 485 = .ok (.aload_n 0, 1) := by decide +kernel
theorem dL_areCoursesSo_486 : decode cL_areCoursesSo 486 = .ok (.iload 6, 2) := by decide +kernel
theorem dL_areCoursesSo_488 : decode cL_areCoursesSo 488 = .ok (.iload 7, 2) := by decide +kernel
theorem dL_areCoursesSo_490 : decode cL_areCoursesSo 490 = .ok (.invokevirtual 68, 3) := by decide +kernel
theorem dL_areCoursesSo_493 : decode cL_areCoursesSo 493 = .ok (.ldc 64, 2) := by decide +kernel
theorem dL_areCoursesSo_495 : decode cL_areCoursesSo 495 = .ok (.if_icmp .ne 7, 3) := by decide +kernel
theorem dL_areCoursesSo_498 : decode cL_areCoursesSo 498 = .ok (.iconst 1, 1) := by decide +kernel
theorem dL_areCoursesSo_499 : decode cL_areCoursesSo 499 = .ok (.goto 4, 3) := by decide +kernel
theorem dL_areCoursesSo_502 : decode cL_areCoursesSo 502 = .ok (.iconst 0, 1) := by decide +kernel
theorem dL_areCoursesSo_503 : decode cL_areCoursesSo 503 = .ok (.istore 5, 2) := by decide +kernel
theorem dL_areCoursesSo_505 : decode cL_areCoursesSo 505 = .ok (.iconst 0, 1) := by decide +kernel
theorem dL_areCoursesSo_506 : decode cL_areCoursesSo 506 = .ok (.istore 12, 2) := by decide +kernel
theorem dL_areCoursesSo_508 : decode cL_areCoursesSo 508 = .ok (.iload 12, 2) := by decide +kernel
theorem dL_areCoursesSo_510 : decode cL_areCoursesSo 510 = .ok (.iload 7, 2) := by decide +kernel
theorem dL_areCoursesSo_512 : decode cL_areCoursesSo 512 = .ok (.if_icmp .ge 39, 3) := by decide +kernel
theorem dL_areCoursesSo_515 : decode cL_areCoursesSo 515 = .ok (.iload 5, 2) := by decide +kernel
theorem dL_areCoursesSo_517 : decode cL_areCoursesSo 517 = .ok (.ifCond .eq 25, 3) := by decide +kernel
theorem dL_areCoursesSo_520 : decode cL_areCoursesSo 520 = .ok (.aload_n 0, 1) := by decide +kernel
theorem dL_areCoursesSo_521 : decode cL_areCoursesSo 521 = .ok (.aload_n 0, 1) := by decide +kernel
theorem dL_areCoursesSo_522 : decode cL_areCoursesSo 522 = .ok (.iload 6, 2) := by decide +kernel
theorem dL_areCoursesSo_524 : decode cL_areCoursesSo 524 = .ok (.iload 12, 2) := by decide +kernel
theorem dL_areCoursesSo_526 : decode cL_areCoursesSo 526 = .ok (.invokevirtual 68, 3) := by decide +kernel
theorem dL_areCoursesSo_529 : decode cL_areCoursesSo 529 = .ok (.iconst 1, 1) := by decide +kernel
theorem dL_areCoursesSo_530 : decode cL_areCoursesSo 530 = .ok (.invokevirtual 55, 3) := by decide +kernel
theorem dL_areCoursesSo_533 : decode cL_areCoursesSo 533 = .ok (.iload 6, 2) := by decide +kernel
theorem dL_areCoursesSo_535 : decode cL_areCoursesSo 535 = .ok (.if_icmp .ne 7, 3) := by decide +kernel
theorem dL_areCoursesSo_538 : decode cL_areCoursesSo 538 = .ok (.iconst 1, 1) := by decide +kernel
theorem dL_areCoursesSo_539 : decode cL_areCoursesSo 539 = .ok (.goto 4, 3) := by decide +kernel
theorem dL_areCoursesSo_542 : decode cL_areCoursesSo 542 = .ok (.iconst 0, 1) := by decide +kernel
theorem dL_areCoursesSo_543 : decode cL_areCoursesSo 543 = .ok (.istore 5, 2) := by decide +kernel
theorem dL_areCoursesSo_545 : decode cL_areCoursesSo 545 = .ok (.iinc 12 1, 3) := by decide +kernel
theorem dL_areCoursesSo_548 : decode cL_areCoursesSo 548 = .ok (.goto (-40), 3) := by decide +kernel
theorem dL_areCoursesSo_551 : decode cL_areCoursesSo 551 = .ok (.iload 5, 2) := by decide +kernel
theorem dL_areCoursesSo_553 : decode cL_areCoursesSo 553 = .ok (.ifCond .eq 65, 3) := by decide +kernel
theorem dL_areCoursesSo_556 : decode cL_areCoursesSo 556 = .ok (.iload 8, 2) := by decide +kernel
theorem dL_areCoursesSo_558 : decode cL_areCoursesSo 558 = .ok (.iconst 1, 1) := by decide +kernel
theorem dL_areCoursesSo_559 : decode cL_areCoursesSo 559 = .ok (.if_icmp .ne 55, 3) := by decide +kernel
theorem dL_areCoursesSo_562 : decode cL_areCoursesSo 562 = .ok (.iload 7, 2) := by decide +kernel
theorem dL_areCoursesSo_564 : decode cL_areCoursesSo 564 = .ok (.aload_n 0, 1) := by decide +kernel
theorem dL_areCoursesSo_565 : decode cL_areCoursesSo 565 = .ok (.iload 6, 2) := by decide +kernel
theorem dL_areCoursesSo_567 : decode cL_areCoursesSo 567 = .ok (.iconst 3, 1) := by decide +kernel
theorem dL_areCoursesSo_568 : decode cL_areCoursesSo 568 = .ok (.invokevirtual 58, 3) := by decide +kernel
theorem dL_areCoursesSo_571 : decode cL_areCoursesSo 571 = .ok (.if_icmp .lt 47, 3) := by decide +kernel
theorem dL_areCoursesSo_574 : decode cL_areCoursesSo 574 = .ok (.iload 7, 2) := by decide +kernel
theorem dL_areCoursesSo_576 : decode cL_areCoursesSo 576 = .ok (.aload_n 0, 1) := by decide +kernel
theorem dL_areCoursesSo_577 : decode cL_areCoursesSo 577 = .ok (.aload_n 0, 1) := by decide +kernel
theorem dL_areCoursesSo_578 : decode cL_areCoursesSo 578 = .ok (.iload 6, 2) := by decide +kernel
theorem dL_areCoursesSo_580 : decode cL_areCoursesSo 580 = .ok (.bipush 9, 2) := by decide +kernel
theorem dL_areCoursesSo_582 : decode cL_areCoursesSo 582 = .ok (.invokevirtual 58, 3) := by decide +kernel
theorem dL_areCoursesSo_585 : decode cL_areCoursesSo 585 = .ok (.iconst 0, 1) := by decide +kernel
theorem dL_areCoursesSo_586 : decode cL_areCoursesSo 586 = .ok (.invokevirtual 71, 3) := by decide +kernel
theorem dL_areCoursesSo_589 : decode cL_areCoursesSo 589 = .ok (.if_icmp .gt 29, 3) := by decide +kernel
theorem dL_areCoursesSo_592 : decode cL_areCoursesSo 592 = .ok (.aload_n 0, 1) := by decide +kernel
theorem dL_areCoursesSo_593 : decode cL_areCoursesSo 593 = .ok (.aload_n 0, 1) := by decide +kernel
theorem dL_areCoursesSo_594 : decode cL_areCoursesSo 594 = .ok (.iload 6, 2) := by decide +kernel
theorem dL_areCoursesSo_596 : decode cL_areCoursesSo 596 = .ok (.bipush 9, 2) := by decide +kernel
theorem dL_areCoursesSo_598 : decode cL_areCoursesSo 598 = .ok (.invokevirtual 58, 3) := by decide +kernel
theorem dL_areCoursesSo_601 : decode cL_areCoursesSo 601 = .ok (.iconst 1, 1) := by decide +kernel
theorem dL_areCoursesSo_602 : decode cL_areCoursesSo 602 = .ok (.invokevirtual 71, 3) := by decide +kernel
theorem dL_areCoursesSo_605 : decode cL_areCoursesSo 605 = .ok (.iload 6, 2) := by decide +kernel
theorem dL_areCoursesSo_607 : decode cL_areCoursesSo 607 = .ok (.ishr, 1) := by decide +kernel
theorem dL_areCoursesSo_608 : decode cL_areCoursesSo 608 = .ok (.iconst 1, 1) := by decide +kernel
theorem dL_areCoursesSo_609 : decode cL_areCoursesSo 609 = .ok (.iand, 1) := by decide +kernel
theorem dL_areCoursesSo_610 : decode cL_areCoursesSo 610 = .ok (.iconst 1, 1) := by decide +kernel
theorem dL_areCoursesSo_611 : decode cL_areCoursesSo 611 = .ok (.if_icmp .ne 7, 3) := by decide +kernel
theorem dL_areCoursesSo_614 : decode cL_areCoursesSo 614 = .ok (.iconst 1, 1) := by decide +kernel
theorem dL_areCoursesSo_615 : decode cL_areCoursesSo 615 = .ok (.goto 4, 3) := by decide +kernel
theorem dL_areCoursesSo_618 : decode cL_areCoursesSo 618 = .ok (.iconst 0, 1) := by decide +kernel
theorem dL_areCoursesSo_619 : decode cL_areCoursesSo 619 = .ok (.istore 5, 2) := by decide +kernel
theorem dL_areCoursesSo_621 : decode cL_areCoursesSo 621 = .ok (.iconst 0, 1) := by decide +kernel
theorem dL_areCoursesSo_622 : decode cL_areCoursesSo 622 = .ok (.istore 12, 2) := by decide +kernel
theorem dL_areCoursesSo_624 : decode cL_areCoursesSo 624 = .ok (.iload 12, 2) := by decide +kernel
theorem dL_areCoursesSo_626 : decode cL_areCoursesSo 626 = .ok (.iload 6, 2) := by decide +kernel
theorem dL_areCoursesSo_628 : decode cL_areCoursesSo 628 = .ok (.if_icmp .ge 63, 3) := by decide +kernel
theorem dL_areCoursesSo_631 : decode cL_areCoursesSo 631 = .ok (.iload 5, 2) := by decide +kernel
theorem dL_areCoursesSo_633 : decode cL_areCoursesSo 633 = .ok (.ifCond .eq 49, 3) := by decide +kernel
theorem dL_areCoursesSo_636 : decode cL_areCoursesSo 636 = .ok (.iload 8, 2) := by decide +kernel
theorem dL_areCoursesSo_638 : decode cL_areCoursesSo 638 = .ok (.iconst 1, 1) := by decide +kernel
theorem dL_areCoursesSo_639 : decode cL_areCoursesSo 639 = .ok (.if_icmp .ne 39, 3) := by decide +kernel
theorem dL_areCoursesSo_642 : decode cL_areCoursesSo 642 = .ok (.aload_n 0, 1) := by decide +kernel
theorem dL_areCoursesSo_643 : decode cL_areCoursesSo 643 = .ok (.iload 12, 2) := by decide +kernel
theorem dL_areCoursesSo_645 : decode cL_areCoursesSo 645 = .ok (.bipush 9, 2) := by decide +kernel
theorem dL_areCoursesSo_647 : decode cL_areCoursesSo 647 = .ok (.invokevirtual 58, 3) := by decide +kernel
theorem dL_areCoursesSo_650 : decode cL_areCoursesSo 650 = .ok (.aload_n 0, 1) := by decide +kernel
theorem dL_areCoursesSo_651 : decode cL_areCoursesSo 651 = .ok (.iload 6, 2) := by decide +kernel
theorem dL_areCoursesSo_653 : decode cL_areCoursesSo 653 = .ok (.bipush 9, 2) := by decide +kernel
theorem dL_areCoursesSo_655 : decode cL_areCoursesSo 655 = .ok (.invokevirtual 58, 3) := by decide +kernel
theorem dL_areCoursesSo_658 : decode cL_areCoursesSo 658 = .ok (.if_icmp .ne 20, 3) := by decide +kernel
theorem dL_areCoursesSo_661 : decode cL_areCoursesSo 661 = .ok (.aload_n 0, 1) := by decide +kernel
theorem dL_areCoursesSo_662 : decode cL_areCoursesSo 662 = .ok (.iload 12, 2) := by decide +kernel
theorem dL_areCoursesSo_664 : decode cL_areCoursesSo 664 = .ok (.iconst 2, 1) := by decide +kernel
theorem dL_areCoursesSo_665 : decode cL_areCoursesSo 665 = .ok (.invokevirtual 58, 3) := by decide +kernel
theorem dL_areCoursesSo_668 : decode cL_areCoursesSo 668 = .ok (.aload_n 0, 1) := by decide +kernel
theorem dL_areCoursesSo_669 : decode cL_areCoursesSo 669 = .ok (.iload 6, 2) := by decide +kernel
theorem dL_areCoursesSo_671 : decode cL_areCoursesSo 671 = .ok (.iconst 2, 1) := by decide +kernel
theorem dL_areCoursesSo_672 : decode cL_areCoursesSo 672 = .ok (.invokevirtual 58, 3) := by decide +kernel
theorem dL_areCoursesSo_675 : decode cL_areCoursesSo 675 = .ok (.if_icmp .eq 7, 3) := by decide +kernel
theorem dL_areCoursesSo_678 : decode cL_areCoursesSo 678 = .ok (.iconst 1, 1) := by decide +kernel
theorem dL_areCoursesSo_679 : decode cL_areCoursesSo 679 = .ok (.goto 4, 3) := by decide +kernel
theorem dL_areCoursesSo_682 : decode cL_areCoursesSo 682 = .ok (.iconst 0, 1) := by decide +kernel
theorem dL_areCoursesSo_683 : decode cL_areCoursesSo 683 = .ok (.istore 5, 2) := by decide +kernel
theorem dL_areCoursesSo_685 : decode cL_areCoursesSo 685 = .ok (.iinc 12 1, 3) := by decide +kernel
theorem dL_areCoursesSo_688 : decode cL_areCoursesSo 688 = .ok (.goto (-64), 3) := by decide +kernel
theorem dL_areCoursesSo_691 : decode cL_areCoursesSo 691 = .ok (.iinc 6 1, 3) := by decide +kernel
theorem dL_areCoursesSo_694 : decode cL_areCoursesSo 694 = .ok (.goto (-665), 3) := by decide +kernel
theorem dL_areCoursesSo_697 : decode cL_areCoursesSo 697 = .ok (.iload 5, 2) := by decide +kernel
theorem dL_areCoursesSo_699 : decode cL_areCoursesSo 699 = .ok (.ifCond .eq 36, 3) := by decide +kernel
theorem dL_areCoursesSo_702 : decode cL_areCoursesSo 702 = .ok (.iload 4, 2) := by decide +kernel
theorem dL_areCoursesSo_704 : decode cL_areCoursesSo 704 = .ok (.aload_n 0, 1) := by decide +kernel
theorem dL_areCoursesSo_705 : decode cL_areCoursesSo 705 = .ok (.iconst 4, 1) := by decide +kernel
theorem dL_areCoursesSo_706 : decode cL_areCoursesSo 706 = .ok (.invokevirtual 18, 3) := by decide +kernel
theorem dL_areCoursesSo_709 : decode cL_areCoursesSo 709 = .ok (.if_icmp .ne 26, 3) := by decide +kernel
theorem dL_areCoursesSo_712 : decode cL_areCoursesSo 712 = .ok (.iload_n 2, 1) := by decide +kernel
theorem dL_areCoursesSo_713 : decode cL_areCoursesSo 713 = .ok (.aload_n 0, 1) := by decide +kernel
theorem dL_areCoursesSo_714 : decode cL_areCoursesSo 714 = .ok (.iconst 5, 1) := by decide +kernel
theorem dL_areCoursesSo_715 : decode cL_areCoursesSo 715 = .ok (.invokevirtual 18, 3) := by decide +kernel
theorem dL_areCoursesSo_718 : decode cL_areCoursesSo 718 = .ok (.if_icmp .ne 17, 3) := by decide +kernel
theorem dL_areCoursesSo_721 : decode cL_areCoursesSo 721 = .ok (.iload_n 3, 1) := by decide +kernel
theorem dL_areCoursesSo_722 : decode cL_areCoursesSo 722 = .ok (.aload_n 0, 1) := by decide +kernel
theorem dL_areCoursesSo_723 : decode cL_areCoursesSo 723 = .ok (.bipush 6, 2) := by decide +kernel
theorem dL_areCoursesSo_725 : decode cL_areCoursesSo 725 = .ok (.invokevirtual 18, 3) := by decide +kernel
theorem dL_areCoursesSo_728 : decode cL_areCoursesSo 728 = .ok (.if_icmp .ne 7, 3) := by decide +kernel
theorem dL_areCoursesSo_731 : decode cL_areCoursesSo 731 = .ok (.iconst 1, 1) := by decide +kernel
theorem dL_areCoursesSo_732 : decode cL_areCoursesSo 732 = .ok (.goto 4, 3) := by decide +kernel
theorem dL_areCoursesSo_735 : decode cL_areCoursesSo 735 = .ok (.iconst 0, 1) := by decide +kernel
theorem dL_areCoursesSo_736 : decode cL_areCoursesSo 736 = .ok (.ireturn, 1) := by decide +kernel
theorem dL_isCloseSo_0 : decode cL_isCloseSo 0 = .ok (.bipush 6, 2) := by decide +kernel
theorem dL_isCloseSo_2 : decode cL_isCloseSo 2 = .ok (.newarray .int, 2) := by decide +kernel
theorem dL_isCloseSo_4 : decode cL_isCloseSo 4 = .ok (.astore_n 1, 1) := by decide +kernel
theorem dL_isCloseSo_5 : decode cL_isCloseSo 5 = .ok (.iconst 0, 1) := by decide +kernel
theorem dL_isCloseSo_6 : decode cL_isCloseSo 6 = .ok (.istore_n 2, 1) := by decide +kernel
theorem dL_isCloseSo_7 : decode cL_isCloseSo 7 = .ok (.iload_n 2, 1) := by decide +kernel
theorem dL_isCloseSo_8 : decode cL_isCloseSo 8 = .ok (.bipush 6, 2) := by decide +kernel
theorem dL_isCloseSo_10 : decode cL_isCloseSo 10 = .ok (.if_icmp .ge 17, 3) := by decide +kernel
theorem dL_isCloseSo_13 : decode cL_isCloseSo 13 = .ok (.aload_n 1, 1) := by decide +kernel
theorem dL_isCloseSo_14 : decode cL_isCloseSo 14 = .ok (.iload_n 2, 1) := by decide +kernel
theorem dL_isCloseSo_15 : decode cL_isCloseSo 15 = .ok (.aload_n 0, 1) := by decide +kernel
theorem dL_isCloseSo_16 : decode cL_isCloseSo 16 = .ok (.iload_n 2, 1) := by decide +kernel
theorem dL_isCloseSo_17 : decode cL_isCloseSo 17 = .ok (.invokevirtual 74, 3) := by decide +kernel
theorem dL_isCloseSo_20 : decode cL_isCloseSo 20 = .ok (.iastore, 1) := by decide +kernel
theorem dL_isCloseSo_21 : decode cL_isCloseSo 21 = .ok (.iinc 2 1, 3) := by decide +kernel
theorem dL_isCloseSo_24 : decode cL_isCloseSo 24 = .ok (.goto (-17), 3) := by decide +kernel
theorem dL_isCloseSo_27 : decode cL_isCloseSo 27 = .ok (.aload_n 0, 1) := by decide +kernel
theorem dL_isCloseSo_28 : decode cL_isCloseSo 28 = .ok (.bipush 8, 2) := by decide +kernel
theorem dL_isCloseSo_30 : decode cL_isCloseSo 30 = .ok (.invokevirtual 18, 3) := by decide +kernel
theorem dL_isCloseSo_33 : decode cL_isCloseSo 33 = .ok (.iconst 1, 1) := by decide +kernel
theorem dL_isCloseSo_34 : decode cL_isCloseSo 34 = .ok (.if_icmp .ne 26, 3) := by decide +kernel
theorem dL_isCloseSo_37 : decode cL_isCloseSo 37 = .ok (.aload_n 1, 1) := by decide +kernel
theorem dL_isCloseSo_38 : decode cL_isCloseSo 38 = .ok (.iconst 0, 1) := by decide +kernel
theorem dL_isCloseSo_39 : decode cL_isCloseSo 39 = .ok (.iaload, 1) := by decide +kernel
theorem dL_isCloseSo_40 : decode cL_isCloseSo 40 = .ok (.ldc 10, 2) := by decide +kernel
theorem dL_isCloseSo_42 : decode cL_isCloseSo 42 = .ok (.if_icmp .ne 16, 3) := by decide +kernel
theorem dL_isCloseSo_45 : decode cL_isCloseSo 45 = .ok (.aload_n 0, 1) := by decide +kernel
theorem dL_isCloseSo_46 : decode cL_isCloseSo 46 = .ok (.invokevirtual 45, 3) := by decide +kernel
theorem dL_isCloseSo_49 : decode cL_isCloseSo 49 = .ok (.ldc 10, 2) := by decide +kernel
theorem dL_isCloseSo_51 : decode cL_isCloseSo 51 = .ok (.if_icmp .ne 7, 3) := by decide +kernel
theorem dL_isCloseSo_54 : decode cL_isCloseSo 54 = .ok (.iconst 1, 1) := by decide +kernel
theorem dL_isCloseSo_55 : decode cL_isCloseSo 55 = .ok (.goto 4, 3) := by decide +kernel
theorem dL_isCloseSo_58 : decode cL_isCloseSo 58 = .ok (.iconst 0, 1) := by decide +kernel
theorem dL_isCloseSo_59 : decode cL_isCloseSo 59 = .ok (.ireturn, 1) := by decide +kernel
theorem dL_isCloseSo_60 : decode cL_isCloseSo 60 = .ok (.aload_n 0, 1) := by decide +kernel
theorem dL_isCloseSo_61 : decode cL_isCloseSo 61 = .ok (.bipush 9, 2) := by decide +kernel
theorem dL_isCloseSo_63 : decode cL_isCloseSo 63 = .ok (.invokevirtual 18, 3) := by decide +kernel
theorem dL_isCloseSo_66 : decode cL_isCloseSo 66 = .ok (.istore_n 2, 1) := by decide +kernel
theorem dL_isCloseSo_67 : decode cL_isCloseSo 67 = .ok (.aload_n 0, 1) := by decide +kernel
theorem dL_isCloseSo_68 : decode cL_isCloseSo 68 = .ok (.bipush 10, 2) := by decide +kernel
theorem dL_isCloseSo_70 : decode cL_isCloseSo 70 = .ok (.invokevirtual 18, 3) := by decide +kernel
theorem dL_isCloseSo_73 : decode cL_isCloseSo 73 = .ok (.istore_n 3, 1) := by decide +kernel
theorem dL_isCloseSo_74 : decode cL_isCloseSo 74 = .ok (.aload_n 0, 1) := by decide +kernel
theorem dL_isCloseSo_75 : decode cL_isCloseSo 75 = .ok (.bipush 14, 2) := by decide +kernel
theorem dL_isCloseSo_77 : decode cL_isCloseSo 77 = .ok (.invokevirtual 18, 3) := by decide +kernel
theorem dL_isCloseSo_80 : decode cL_isCloseSo 80 = .ok (.istore 4, 2) := by decide +kernel
theorem dL_isCloseSo_82 : decode cL_isCloseSo 82 = .ok (.aload_n 0, 1) := by decide +kernel
theorem dL_isCloseSo_83 : decode cL_isCloseSo 83 = .ok (.bipush 15, 2) := by decide +kernel
theorem dL_isCloseSo_85 : decode cL_isCloseSo 85 = .ok (.invokevirtual 18, 3) := by decide +kernel
theorem dL_isCloseSo_88 : decode cL_isCloseSo 88 = .ok (.istore 5, 2) := by decide +kernel
theorem dL_isCloseSo_90 : decode cL_isCloseSo 90 = .ok (.aload_n 0, 1) := by decide +kernel
theorem dL_isCloseSo_91 : decode cL_isCloseSo 91 = .ok (.invokevirtual 45, 3) := by decide +kernel
theorem dL_isCloseSo_94 : decode cL_isCloseSo 94 = .ok (.istore 6, 2) := by decide +kernel
theorem dL_isCloseSo_96 : decode cL_isCloseSo 96 = .ok (.iconst 0, 1) := by decide +kernel
theorem dL_isCloseSo_97 : decode cL_isCloseSo 97 = .ok (.istore 7, 2) := by decide +kernel
theorem dL_isCloseSo_99 : decode cL_isCloseSo 99 = .ok (.iconst 0, 1) := by decide +kernel
theorem dL_isCloseSo_100 : decode cL_isCloseSo 100 = .ok (.istore 8, 2) := by decide +kernel
theorem dL_isCloseSo_102 : decode cL_isCloseSo 102 = .ok (.iconst 0, 1) := by decide +kernel
theorem dL_isCloseSo_103 : decode cL_isCloseSo 103 = .ok (.istore 9, 2) := by decide +kernel
theorem dL_isCloseSo_105 : decode cL_isCloseSo 105 = .ok (.iconst 0, 1) := by decide +kernel
theorem dL_isCloseSo_106 : decode cL_isCloseSo 106 = .ok (.istore 10, 2) := by decide +kernel
theorem dL_isCloseSo_108 : decode cL_isCloseSo 108 = .ok (.iload 10, 2) := by decide +kernel
theorem dL_isCloseSo_110 : decode cL_isCloseSo 110 = .ok (.aload_n 0, 1) := by decide +kernel
theorem dL_isCloseSo_111 : decode cL_isCloseSo 111 = .ok (.iconst 0, 1) := by decide +kernel
theorem dL_isCloseSo_112 : decode cL_isCloseSo 112 = .ok (.invokevirtual 18, 3) := by decide +kernel
theorem dL_isCloseSo_115 : decode cL_isCloseSo 115 = .ok (.if_icmp .ge 84, 3) := by decide +kernel
theorem dL_isCloseSo_118 : decode cL_isCloseSo 118 = .ok (.iload 7, 2) := by decide +kernel
theorem dL_isCloseSo_120 : decode cL_isCloseSo 120 = .ok (.aload_n 0, 1) := by decide +kernel
theorem dL_isCloseSo_121 : decode cL_isCloseSo 121 = .ok (.iload 10, 2) := by decide +kernel
theorem dL_isCloseSo_123 : decode cL_isCloseSo 123 = .ok (.bipush 6, 2) := by decide +kernel
theorem dL_isCloseSo_125 : decode cL_isCloseSo 125 = .ok (.invokevirtual 58, 3) := by decide +kernel
theorem dL_isCloseSo_128 : decode cL_isCloseSo 128 = .ok (.iconst 1, 1) := by decide +kernel
theorem dL_isCloseSo_129 : decode cL_isCloseSo 129 = .ok (.if_icmp .ne 10, 3) := by decide +kernel
theorem dL_isCloseSo_132 : decode cL_isCloseSo 132 = .ok (.iconst 1, 1) := by decide +kernel
theorem dL_isCloseSo_133 : decode cL_isCloseSo 133 = .ok (.iload 10, 2) := by decide +kernel
theorem dL_isCloseSo_135 : decode cL_isCloseSo 135 = .ok (.ishl, 1) := by decide +kernel
theorem dL_isCloseSo_136 : decode cL_isCloseSo 136 = .ok (.goto 4, 3) := by decide +kernel
theorem dL_isCloseSo_139 : decode cL_isCloseSo 139 = .ok (.iconst 0, 1) := by decide +kernel
theorem dL_isCloseSo_140 : decode cL_isCloseSo 140 = .ok (.ior, 1) := by decide +kernel
theorem dL_isCloseSo_141 : decode cL_isCloseSo 141 = .ok (.istore 7, 2) := by decide +kernel
theorem dL_isCloseSo_143 : decode cL_isCloseSo 143 = .ok (.iload 8, 2) := by decide +kernel
theorem dL_isCloseSo_145 : decode cL_isCloseSo 145 = .ok (.aload_n 0, 1) := by decide +kernel
theorem dL_isCloseSo_146 : decode cL_isCloseSo 146 = .ok (.iload 10, 2) := by decide +kernel
theorem dL_isCloseSo_148 : decode cL_isCloseSo 148 = .ok (.bipush 6, 2) := by decide +kernel
theorem dL_isCloseSo_150 : decode cL_isCloseSo 150 = .ok (.invokevirtual 58, 3) := by decide +kernel
theorem dL_isCloseSo_153 : decode cL_isCloseSo 153 = .ok (.iconst 2, 1) := by decide +kernel
theorem dL_isCloseSo_154 : decode cL_isCloseSo 154 = .ok (.if_icmp .ne 10, 3) := by decide +kernel
theorem dL_isCloseSo_157 : decode cL_isCloseSo 157 = .ok (.iconst 1, 1) := by decide +kernel
theorem dL_isCloseSo_158 : decode cL_isCloseSo 158 = .ok (.iload 10, 2) := by decide +kernel
theorem dL_isCloseSo_160 : decode cL_isCloseSo 160 = .ok (.ishl, 1) := by decide +kernel
theorem dL_isCloseSo_161 : decode cL_isCloseSo 161 = .ok (.goto 4, 3) := by decide +kernel
theorem dL_isCloseSo_164 : decode cL_isCloseSo 164 = .ok (.iconst 0, 1) := by decide +kernel
theorem dL_isCloseSo_165 : decode cL_isCloseSo 165 = .ok (.ior, 1) := by decide +kernel
theorem dL_isCloseSo_166 : decode cL_isCloseSo 166 = .ok (.istore 8, 2) := by decide +kernel
theorem dL_isCloseSo_168 : decode cL_isCloseSo 168 = .ok (.iload 9, 2) := by decide +kernel
theorem dL_isCloseSo_170 : decode cL_isCloseSo 170 = .ok (.aload_n 0, 1) := by decide +kernel
theorem dL_isCloseSo_171 : decode cL_isCloseSo 171 = .ok (.iload 10, 2) := by decide +kernel
theorem dL_isCloseSo_173 : decode cL_isCloseSo 173 = .ok (.bipush 6, 2) := by decide +kernel
theorem dL_isCloseSo_175 : decode cL_isCloseSo 175 = .ok (.invokevirtual 58, 3) := by decide +kernel
theorem dL_isCloseSo_178 : decode cL_isCloseSo 178 = .ok (.iconst 3, 1) := by decide +kernel
theorem dL_isCloseSo_179 : decode cL_isCloseSo 179 = .ok (.if_icmp .ne 10, 3) := by decide +kernel
theorem dL_isCloseSo_182 : decode cL_isCloseSo 182 = .ok (.iconst 1, 1) := by decide +kernel
theorem dL_isCloseSo_183 : decode cL_isCloseSo 183 = .ok (.iload 10, 2) := by decide +kernel
theorem dL_isCloseSo_185 : decode cL_isCloseSo 185 = .ok (.ishl, 1) := by decide +kernel
theorem dL_isCloseSo_186 : decode cL_isCloseSo 186 = .ok (.goto 4, 3) := by decide +kernel
theorem dL_isCloseSo_189 : decode cL_isCloseSo 189 = .ok (.iconst 0, 1) := by decide +kernel
theorem dL_isCloseSo_190 : decode cL_isCloseSo 190 = .ok (.ior, 1) := by decide +kernel
theorem dL_isCloseSo_191 : decode cL_isCloseSo 191 = .ok (.istore 9, 2) := by decide +kernel
theorem dL_isCloseSo_193 : decode cL_isCloseSo 193 = .ok (.iinc 10 1, 3) := by decide +kernel
theorem dL_isCloseSo_196 : decode cL_isCloseSo 196 = .ok (.goto (-88), 3) := by decide +kernel
theorem dL_isCloseSo_199 : decode cL_isCloseSo 199 = .ok (.iload 7, 2) := by decide +kernel
theorem dL_isCloseSo_201 : decode cL_isCloseSo 201 = .ok (.aload_n 1, 1) := by decide +kernel
theorem dL_isCloseSo_202 : decode cL_isCloseSo 202 = .ok (.iconst 0, 1) := by decide +kernel
theorem dL_isCloseSo_203 : decode cL_isCloseSo 203 = .ok (.iaload, 1) := by decide +kernel
theorem dL_isCloseSo_204 : decode cL_isCloseSo 204 = .ok (.if_icmp .ne 120, 3) := by decide +kernel
theorem dL_isCloseSo_207 : decode cL_isCloseSo 207 = .ok (.iload 8, 2) := by decide +kernel
theorem dL_isCloseSo_209 : decode cL_isCloseSo 209 = .ok (.aload_n 1, 1) := by decide +kernel
theorem dL_isCloseSo_210 : decode cL_isCloseSo 210 = .ok (.iconst 1, 1) := by decide +kernel
theorem dL_isCloseSo_211 : decode cL_isCloseSo 211 = .ok (.iaload, 1) := by decide +kernel
theorem dL_isCloseSo_212 : decode cL_isCloseSo 212 = .ok (.if_icmp .ne 112, 3) := by decide +kernel
theorem dL_isCloseSo_215 : decode cL_isCloseSo 215 = .ok (.iload 9, 2) := by decide +kernel
theorem dL_isCloseSo_217 : decode cL_isCloseSo 217 = .ok (.aload_n 1, 1) := by decide +kernel
theorem dL_isCloseSo_218 : decode cL_isCloseSo 218 = .ok (.iconst 2, 1) := by decide +kernel
theorem dL_isCloseSo_219 : decode cL_isCloseSo 219 = .ok (.iaload, 1) := by decide +kernel
theorem dL_isCloseSo_220 : decode cL_isCloseSo 220 = .ok (.if_icmp .ne 104, 3) := by decide +kernel
theorem dL_isCloseSo_223 : decode cL_isCloseSo 223 = .ok (.iload 6, 2) := by decide +kernel
theorem dL_isCloseSo_225 : decode cL_isCloseSo 225 = .ok (.iload 7, 2) := by decide +kernel
theorem dL_isCloseSo_227 : decode cL_isCloseSo 227 = .ok (.invokestatic 77, 3) := by decide +kernel
theorem dL_isCloseSo_230 : decode cL_isCloseSo 230 = .ok (.if_icmp .ne 94, 3) := by decide +kernel
theorem dL_isCloseSo_233 : decode cL_isCloseSo 233 = .ok (.aload_n 0, 1) := by decide +kernel
theorem dL_isCloseSo_234 : decode cL_isCloseSo 234 = .ok (.iconst 4, 1) := by decide +kernel
theorem dL_isCloseSo_235 : decode cL_isCloseSo 235 = .ok (.invokevirtual 18, 3) := by decide +kernel
theorem dL_isCloseSo_238 : decode cL_isCloseSo 238 = .ok (.aload_n 1, 1) := by decide +kernel
theorem dL_isCloseSo_239 : decode cL_isCloseSo 239 = .ok (.iconst 3, 1) := by decide +kernel
theorem dL_isCloseSo_240 : decode cL_isCloseSo 240 = .ok (.iaload, 1) := by decide +kernel
theorem dL_isCloseSo_241 : decode cL_isCloseSo 241 = .ok (.if_icmp .ne 83, 3) := by decide +kernel
theorem dL_isCloseSo_244 : decode cL_isCloseSo 244 = .ok (.aload_n 0, 1) := by decide +kernel
theorem dL_isCloseSo_245 : decode cL_isCloseSo 245 = .ok (.bipush 10, 2) := by decide +kernel
theorem dL_isCloseSo_247 : decode cL_isCloseSo 247 = .ok (.invokevirtual 18, 3) := by decide +kernel
theorem dL_isCloseSo_250 : decode cL_isCloseSo 250 = .ok (.iload_n 3, 1) := by decide +kernel
theorem dL_isCloseSo_251 : decode cL_isCloseSo 251 = .ok (.aload_n 1, 1) := by decide +kernel
theorem dL_isCloseSo_252 : decode cL_isCloseSo 252 = .ok (.iconst 4, 1) := by decide +kernel
theorem dL_isCloseSo_253 : decode cL_isCloseSo 253 = .ok (.iaload, 1) := by decide +kernel
theorem dL_isCloseSo_254 : decode cL_isCloseSo 254 = .ok (.iadd, 1) := by decide +kernel
theorem dL_isCloseSo_255 : decode cL_isCloseSo 255 = .ok (.if_icmp .ne 69, 3) := by decide +kernel
theorem dL_isCloseSo_258 : decode cL_isCloseSo 258 = .ok (.aload_n 0, 1) := by decide +kernel
theorem dL_isCloseSo_259 : decode cL_isCloseSo 259 = .ok (.bipush 9, 2) := by decide +kernel
theorem dL_isCloseSo_261 : decode cL_isCloseSo 261 = .ok (.invokevirtual 18, 3) := by decide +kernel
theorem dL_isCloseSo_264 : decode cL_isCloseSo 264 = .ok (.iload_n 2, 1) := by decide +kernel
theorem dL_isCloseSo_265 : decode cL_isCloseSo 265 = .ok (.aload_n 1, 1) := by decide +kernel
theorem dL_isCloseSo_266 : decode cL_isCloseSo 266 = .ok (.iconst 5, 1) := by decide +kernel
theorem dL_isCloseSo_267 : decode cL_isCloseSo 267 = .ok (.iaload, 1) := by decide +kernel
theorem dL_isCloseSo_268 : decode cL_isCloseSo 268 = .ok (.iadd, 1) := by decide +kernel
theorem dL_isCloseSo_269 : decode cL_isCloseSo 269 = .ok (.if_icmp .ne 55, 3) := by decide +kernel
theorem dL_isCloseSo_272 : decode cL_isCloseSo 272 = .ok (.aload_n 0, 1) := by decide +kernel
theorem dL_isCloseSo_273 : decode cL_isCloseSo 273 = .ok (.bipush 14, 2) := by decide +kernel
theorem dL_isCloseSo_275 : decode cL_isCloseSo 275 = .ok (.invokevirtual 18, 3) := by decide +kernel
theorem dL_isCloseSo_278 : decode cL_isCloseSo 278 = .ok (.iload 4, 2) := by decide +kernel
theorem dL_isCloseSo_280 : decode cL_isCloseSo 280 = .ok (.iload 9, 2) := by decide +kernel
theorem dL_isCloseSo_282 : decode cL_isCloseSo 282 = .ok (.invokestatic 77, 3) := by decide +kernel
theorem dL_isCloseSo_285 : decode cL_isCloseSo 285 = .ok (.iadd, 1) := by decide +kernel
theorem dL_isCloseSo_286 : decode cL_isCloseSo 286 = .ok (.if_icmp .ne 38, 3) := by decide +kernel
theorem dL_isCloseSo_289 : decode cL_isCloseSo 289 = .ok (.aload_n 0, 1) := by decide +kernel
theorem dL_isCloseSo_290 : decode cL_isCloseSo 290 = .ok (.bipush 15, 2) := by decide +kernel
theorem dL_isCloseSo_292 : decode cL_isCloseSo 292 = .ok (.invokevirtual 18, 3) := by decide +kernel
theorem dL_isCloseSo_295 : decode cL_isCloseSo 295 = .ok (.iload 5, 2) := by decide +kernel
theorem dL_isCloseSo_297 : decode cL_isCloseSo 297 = .ok (.iload 8, 2) := by decide +kernel
theorem dL_isCloseSo_299 : decode cL_isCloseSo 299 = .ok (.invokestatic 77, 3) := by decide +kernel
theorem dL_isCloseSo_302 : decode cL_isCloseSo 302 = .ok (.iadd, 1) := by decide +kernel
theorem dL_isCloseSo_303 : decode cL_isCloseSo 303 = .ok (.if_icmp .ne 21, 3) := by decide +kernel
theorem dL_isCloseSo_306 : decode cL_isCloseSo 306 = .ok (.aload_n 0, 1) := by decide +kernel
theorem dL_isCloseSo_307 : decode cL_isCloseSo 307 = .ok (.invokestatic 80, 3) := by decide +kernel
theorem dL_isCloseSo_310 : decode cL_isCloseSo 310 = .ok (.ifCond .eq 14, 3) := by decide +kernel
theorem dL_isCloseSo_313 : decode cL_isCloseSo 313 = .ok (.aload_n 0, 1) := by decide +kernel
theorem dL_isCloseSo_314 : decode cL_isCloseSo 314 = .ok (.invokestatic 84, 3) := by decide +kernel
theorem dL_isCloseSo_317 : decode cL_isCloseSo 317 = .ok (.ifCond .eq 7, 3) := by decide +kernel
theorem dL_isCloseSo_320 : decode cL_isCloseSo 320 = .ok (.iconst 1, 1) := by decide +kernel
theorem dL_isCloseSo_321 : decode cL_isCloseSo 321 = .ok (.goto 4, 3) := by decide +kernel
theorem dL_isCloseSo_324 : decode cL_isCloseSo 324 = .ok (.iconst 0, 1) := by decide +kernel
theorem dL_isCloseSo_325 : decode cL_isCloseSo 325 = .ok (.istore 10, 2) := by decide +kernel
theorem dL_isCloseSo_327 : decode cL_isCloseSo 327 = .ok (.aload_n 0, 1) := by decide +kernel
theorem dL_isCloseSo_328 : decode cL_isCloseSo 328 = .ok (.invokevirtual 87, 3) := by decide +kernel
theorem dL_isCloseSo_331 : decode cL_isCloseSo 331 = .ok (.istore 11, 2) := by decide +kernel
theorem dL_isCloseSo_333 : decode cL_isCloseSo 333 = .ok (.iload 10, 2) := by decide +kernel
theorem dL_isCloseSo_335 : decode cL_isCloseSo 335 = .ok (.ifCond .eq 31, 3) := by decide +kernel
theorem dL_isCloseSo_338 : decode cL_isCloseSo 338 = .ok (.iload 11, 2) := by decide +kernel
theorem dL_isCloseSo_340 : decode cL_isCloseSo 340 = .ok (.ifCond .lt 26, 3) := by decide +kernel
theorem dL_isCloseSo_343 : decode cL_isCloseSo 343 = .ok (.aload_n 0, 1) := by decide +kernel
theorem dL_isCloseSo_344 : decode cL_isCloseSo 344 = .ok (.bipush 8, 2) := by decide +kernel
theorem dL_isCloseSo_346 : decode cL_isCloseSo 346 = .ok (.invokevirtual 18, 3) := by decide +kernel
theorem dL_isCloseSo_349 : decode cL_isCloseSo 349 = .ok (.ifCond .ne 17, 3) := by decide +kernel
theorem dL_isCloseSo_352 : decode cL_isCloseSo 352 = .ok (.aload_n 0, 1) := by decide +kernel
theorem dL_isCloseSo_353 : decode cL_isCloseSo 353 = .ok (.bipush 9, 2) := by decide +kernel
theorem dL_isCloseSo_355 : decode cL_isCloseSo 355 = .ok (.invokevirtual 18, 3) := by decide +kernel
theorem dL_isCloseSo_358 : decode cL_isCloseSo 358 = .ok (.iload_n 2, 1) := by decide +kernel
theorem dL_isCloseSo_359 : decode cL_isCloseSo 359 = .ok (.if_icmp .ne 7, 3) := by decide +kernel
theorem dL_isCloseSo_362 : decode cL_isCloseSo 362 = .ok (.iconst 1, 1) := by decide +kernel
theorem dL_isCloseSo_363 : decode cL_isCloseSo 363 = .ok (.goto 4, 3) := by decide +kernel
theorem dL_isCloseSo_366 : decode cL_isCloseSo 366 = .ok (.iconst 0, 1) := by decide +kernel
theorem dL_isCloseSo_367 : decode cL_isCloseSo 367 = .ok (.ireturn, 1) := by decide +kernel
theorem dL_areIfsSo_0 : decode cL_areIfsSo 0 = .ok (.aload_n 0, 1) := by decide +kernel
theorem dL_areIfsSo_1 : decode cL_areIfsSo 1 = .ok (.iconst 0, 1) := by decide +kernel
theorem dL_areIfsSo_2 : decode cL_areIfsSo 2 = .ok (.invokevirtual 18, 3) := by decide +kernel
theorem dL_areIfsSo_5 : decode cL_areIfsSo 5 = .ok (.istore_n 2, 1) := by decide +kernel
theorem dL_areIfsSo_6 : decode cL_areIfsSo 6 = .ok (.iload_n 2, 1) := by decide +kernel
theorem dL_areIfsSo_7 : decode cL_areIfsSo 7 = .ok (.ifCond .ne 5, 3) := by decide +kernel
theorem dL_areIfsSo_10 : decode cL_areIfsSo 10 = .ok (.iconst 1, 1) := by decide +kernel
theorem dL_areIfsSo_11 : decode cL_areIfsSo 11 = .ok (.ireturn, 1) := by decide +kernel
theorem dL_areIfsSo_12 : decode cL_areIfsSo 12 = .ok (.iload_n 1, 1) := by decide +kernel
theorem dL_areIfsSo_13 : decode cL_areIfsSo 13 = .ok (.iload_n 2, 1) := by decide +kernel
theorem dL_areIfsSo_14 : decode cL_areIfsSo 14 = .ok (.invokestatic 12, 3) := by decide +kernel
theorem dL_areIfsSo_17 : decode cL_areIfsSo 17 = .ok (.istore_n 3, 1) := by decide +kernel
theorem dL_areIfsSo_18 : decode cL_areIfsSo 18 = .ok (.aload_n 0, 1) := by decide +kernel
theorem dL_areIfsSo_19 : decode cL_areIfsSo 19 = .ok (.iload_n 3, 1) := by decide +kernel
theorem dL_areIfsSo_20 : decode cL_areIfsSo 20 = .ok (.invokevirtual 90, 3) := by decide +kernel
theorem dL_areIfsSo_23 : decode cL_areIfsSo 23 = .ok (.istore 4, 2) := by decide +kernel
theorem dL_areIfsSo_25 : decode cL_areIfsSo 25 = .ok (.iconst 1, 1) := by decide +kernel
theorem dL_areIfsSo_26 : decode cL_areIfsSo 26 = .ok (.istore 5, 2) := by decide +kernel
theorem dL_areIfsSo_28 : decode cL_areIfsSo 28 = .ok (.iload 4, 2) := by decide +kernel
theorem dL_areIfsSo_30 : decode cL_areIfsSo 30 = .ok (.ifCond .lt 87, 3) := by decide +kernel
theorem dL_areIfsSo_33 : decode cL_areIfsSo 33 = .ok (.aload_n 0, 1) := by decide +kernel
theorem dL_areIfsSo_34 : decode cL_areIfsSo 34 = .ok (.iload 4, 2) := by decide +kernel
theorem dL_areIfsSo_36 : decode cL_areIfsSo 36 = .ok (.iconst 1, 1) := by decide +kernel
theorem dL_areIfsSo_37 : decode cL_areIfsSo 37 = .ok (.invokevirtual 58, 3) := by decide +kernel
theorem dL_areIfsSo_40 : decode cL_areIfsSo 40 = .ok (.aload_n 0, 1) := by decide +kernel
theorem dL_areIfsSo_41 : decode cL_areIfsSo 41 = .ok (.iload_n 3, 1) := by decide +kernel
theorem dL_areIfsSo_42 : decode cL_areIfsSo 42 = .ok (.iconst 1, 1) := by decide +kernel
theorem dL_areIfsSo_43 : decode cL_areIfsSo 43 = .ok (.invokevirtual 58, 3) := by decide +kernel
theorem dL_areIfsSo_46 : decode cL_areIfsSo 46 = .ok (.isub, 1) := by decide +kernel
theorem dL_areIfsSo_47 : decode cL_areIfsSo 47 = .ok (.istore 6, 2) := by decide +kernel
theorem dL_areIfsSo_49 : decode cL_areIfsSo 49 = .ok (.iload 4, 2) := by decide +kernel
theorem dL_areIfsSo_51 : decode cL_areIfsSo 51 = .ok (.iload_n 3, 1) := by decide +kernel
theorem dL_areIfsSo_52 : decode cL_areIfsSo 52 = .ok (.if_icmp .eq 62, 3) := by decide +kernel
theorem dL_areIfsSo_55 : decode cL_areIfsSo 55 = .ok (.aload_n 0, 1) := by decide +kernel
theorem dL_areIfsSo_56 : decode cL_areIfsSo 56 = .ok (.iload 4, 2) := by decide +kernel
theorem dL_areIfsSo_58 : decode cL_areIfsSo 58 = .ok (.iconst 0, 1) := by decide +kernel
theorem dL_areIfsSo_59 : decode cL_areIfsSo 59 = .ok (.invokevirtual 58, 3) := by decide +kernel
theorem dL_areIfsSo_62 : decode cL_areIfsSo 62 = .ok (.aload_n 0, 1) := by decide +kernel
theorem dL_areIfsSo_63 : decode cL_areIfsSo 63 = .ok (.iload_n 3, 1) := by decide +kernel
theorem dL_areIfsSo_64 : decode cL_areIfsSo 64 = .ok (.iconst 0, 1) := by decide +kernel
theorem dL_areIfsSo_65 : decode cL_areIfsSo 65 = .ok (.invokevirtual 58, 3) := by decide +kernel
theorem dL_areIfsSo_68 : decode cL_areIfsSo 68 = .ok (.if_icmp .ne 46, 3) := by decide +kernel
theorem dL_areIfsSo_71 : decode cL_areIfsSo 71 = .ok (.iload 6, 2) := by decide +kernel
theorem dL_areIfsSo_73 : decode cL_areIfsSo 73 = .ok (.iconst 2, 1) := by decide +kernel
theorem dL_areIfsSo_74 : decode cL_areIfsSo 74 = .ok (.if_icmp .ge 40, 3) := by decide +kernel
theorem dL_areIfsSo_77 : decode cL_areIfsSo 77 = .ok (.iload 6, 2) := by decide +kernel
theorem dL_areIfsSo_79 : decode cL_areIfsSo 79 = .ok (.bipush (-2), 2) := by decide +kernel
theorem dL_areIfsSo_81 : decode cL_areIfsSo 81 = .ok (.if_icmp .le 33, 3) := by decide +kernel
theorem dL_areIfsSo_84 : decode cL_areIfsSo 84 = .ok (.aload_n 0, 1) := by decide +kernel
theorem dL_areIfsSo_85 : decode cL_areIfsSo 85 = .ok (.iload 4, 2) := by decide +kernel
theorem dL_areIfsSo_87 : decode cL_areIfsSo 87 = .ok (.bipush 7, 2) := by decide +kernel
theorem dL_areIfsSo_89 : decode cL_areIfsSo 89 = .ok (.invokevirtual 58, 3) := by decide +kernel
theorem dL_areIfsSo_92 : decode cL_areIfsSo 92 = .ok (.aload_n 0, 1) := by decide +kernel
theorem dL_areIfsSo_93 : decode cL_areIfsSo 93 = .ok (.iload_n 3, 1) := by decide +kernel
theorem dL_areIfsSo_94 : decode cL_areIfsSo 94 = .ok (.bipush 7, 2) := by decide +kernel
theorem dL_areIfsSo_96 : decode cL_areIfsSo 96 = .ok (.invokevirtual 58, 3) := by decide +kernel
theorem dL_areIfsSo_99 : decode cL_areIfsSo 99 = .ok (.iadd, 1) := by decide +kernel
theorem dL_areIfsSo_100 : decode cL_areIfsSo 100 = .ok (.aload_n 0, 1) := by decide +kernel
theorem dL_areIfsSo_101 : decode cL_areIfsSo 101 = .ok (.iload 4, 2) := by decide +kernel
theorem dL_areIfsSo_103 : decode cL_areIfsSo 103 = .ok (.iconst 4, 1) := by decide +kernel
theorem dL_areIfsSo_104 : decode cL_areIfsSo 104 = .ok (.invokevirtual 58, 3) := by decide +kernel
theorem dL_areIfsSo_107 : decode cL_areIfsSo 107 = .ok (.if_icmp .gt 7, 3) := by decide +kernel
theorem dL_areIfsSo_110 : decode cL_areIfsSo 110 = .ok (.iconst 1, 1) := by decide +kernel
theorem dL_areIfsSo_111 : decode cL_areIfsSo 111 = .ok (.goto 4, 3) := by decide +kernel
theorem dL_areIfsSo_114 : decode cL_areIfsSo 114 = .ok (.iconst 0, 1) := by decide +kernel
theorem dL_areIfsSo_115 : decode cL_areIfsSo 115 = .ok (.istore 5, 2) := by decide +kernel
theorem dL_areIfsSo_117 : decode cL_areIfsSo 117 = .ok (.aload_n 0, 1) := by decide +kernel
theorem dL_areIfsSo_118 : decode cL_areIfsSo 118 = .ok (.iload_n 3, 1) := by decide +kernel
theorem dL_areIfsSo_119 : decode cL_areIfsSo 119 = .ok (.invokevirtual 93, 3) := by decide +kernel
theorem dL_areIfsSo_122 : decode cL_areIfsSo 122 = .ok (.istore 6, 2) := by decide +kernel
theorem dL_areIfsSo_124 : decode cL_areIfsSo 124 = .ok (.aload_n 0, 1) := by decide +kernel
theorem dL_areIfsSo_125 : decode cL_areIfsSo 125 = .ok (.iconst 2, 1) := by decide +kernel
theorem dL_areIfsSo_126 : decode cL_areIfsSo 126 = .ok (.invokevirtual 18, 3) := by decide +kernel
theorem dL_areIfsSo_129 : decode cL_areIfsSo 129 = .ok (.istore 7, 2) := by decide +kernel
theorem dL_areIfsSo_131 : decode cL_areIfsSo 131 = .ok (.aload_n 0, 1) := by decide +kernel
theorem dL_areIfsSo_132 : decode cL_areIfsSo 132 = .ok (.iload_n 3, 1) := by decide +kernel
theorem dL_areIfsSo_133 : decode cL_areIfsSo 133 = .ok (.iconst (-1), 1) := by decide +kernel
theorem dL_areIfsSo_134 : decode cL_areIfsSo 134 = .ok (.iconst (-1), 1) := by decide +kernel
theorem dL_areIfsSo_135 : decode cL_areIfsSo 135 = .ok (.invokevirtual 52, 3) := by decide +kernel
theorem dL_areIfsSo_138 : decode cL_areIfsSo 138 = .ok (.istore 8, 2) := by decide +kernel
theorem dL_areIfsSo_140 : decode cL_areIfsSo 140 = .ok (.iload 6, 2) := by decide +kernel
theorem dL_areIfsSo_142 : decode cL_areIfsSo 142 = .ok (.ifCond .ge 21, 3) := by decide +kernel
theorem dL_areIfsSo_145 : decode cL_areIfsSo 145 = .ok (.iload 5, 2) := by decide +kernel
theorem dL_areIfsSo_147 : decode cL_areIfsSo 147 = .ok (.ifCond .eq 14, 3) := by decide +kernel
theorem dL_areIfsSo_150 : decode cL_areIfsSo 150 = .ok (.iload 8, 2) := by decide +kernel
theorem dL_areIfsSo_152 : decode cL_areIfsSo 152 = .ok (.iload 6, 2) := by decide +kernel
theorem dL_areIfsSo_154 : decode cL_areIfsSo 154 = .ok (.if_icmp .ne 7, 3) := by decide +kernel
theorem dL_areIfsSo_157 : decode cL_areIfsSo 157 = .ok (.iconst 1, 1) := by decide +kernel
theorem dL_areIfsSo_158 : decode cL_areIfsSo 158 = .ok (.goto 4, 3) := by decide +kernel
theorem dL_areIfsSo_161 : decode cL_areIfsSo 161 = .ok (.iconst 0, 1) := by decide +kernel
theorem dL_areIfsSo_162 : decode cL_areIfsSo 162 = .ok (.ireturn, 1) := by decide +kernel
theorem dL_areIfsSo_163 : decode cL_areIfsSo 163 = .ok (.iload 5, 2) := by decide +kernel
theorem dL_areIfsSo_165 : decode cL_areIfsSo 165 = .ok (.ifCond .eq 71, 3) := by decide +kernel
theorem dL_areIfsSo_168 : decode cL_areIfsSo 168 = .ok (.iload 8, 2) := by decide +kernel
theorem dL_areIfsSo_170 : decode cL_areIfsSo 170 = .ok (.iload 7, 2) := by decide +kernel
theorem dL_areIfsSo_172 : decode cL_areIfsSo 172 = .ok (.if_icmp .ne 64, 3) := by decide +kernel
theorem dL_areIfsSo_175 : decode cL_areIfsSo 175 = .ok (.aload_n 0, 1) := by decide +kernel
theorem dL_areIfsSo_176 : decode cL_areIfsSo 176 = .ok (.iload 8, 2) := by decide +kernel
theorem dL_areIfsSo_178 : decode cL_areIfsSo 178 = .ok (.iconst 2, 1) := by decide +kernel
theorem dL_areIfsSo_179 : decode cL_areIfsSo 179 = .ok (.invokevirtual 55, 3) := by decide +kernel
theorem dL_areIfsSo_182 : decode cL_areIfsSo 182 = .ok (.iload 6, 2) := by decide +kernel
theorem dL_areIfsSo_184 : decode cL_areIfsSo 184 = .ok (.if_icmp .ne 52, 3) := by decide +kernel
theorem dL_areIfsSo_187 : decode cL_areIfsSo 187 = .ok (.iload 6, 2) := by decide +kernel
theorem dL_areIfsSo_189 : decode cL_areIfsSo 189 = .ok (.ifCond .ne 7, 3) := by decide +kernel
theorem dL_areIfsSo_192 : decode cL_areIfsSo 192 = .ok (.iconst 1, 1) := by decide +kernel
theorem dL_areIfsSo_193 : decode cL_areIfsSo 193 = .ok (.goto 4, 3) := by decide +kernel
theorem dL_areIfsSo_196 : decode cL_areIfsSo 196 = .ok (.iconst 0, 1) := by decide +kernel
theorem dL_areIfsSo_197 : decode cL_areIfsSo 197 = .ok (.aload_n 0, 1) := by decide +kernel
theorem dL_areIfsSo_198 : decode cL_areIfsSo 198 = .ok (.iload 8, 2) := by decide +kernel
theorem dL_areIfsSo_200 : decode cL_areIfsSo 200 = .ok (.iconst 3, 1) := by decide +kernel
theorem dL_areIfsSo_201 : decode cL_areIfsSo 201 = .ok (.invokevirtual 55, 3) := by decide +kernel
theorem dL_areIfsSo_204 : decode cL_areIfsSo 204 = .ok (.aload_n 0, 1) := by decide +kernel
theorem dL_areIfsSo_205 : decode cL_areIfsSo 205 = .ok (.iload_n 3, 1) := by decide +kernel
theorem dL_areIfsSo_206 : decode cL_areIfsSo 206 = .ok (.iconst 5, 1) := by decide +kernel
theorem dL_areIfsSo_207 : decode cL_areIfsSo 207 = .ok (.invokevirtual 58, 3) := by decide +kernel
theorem dL_areIfsSo_210 : decode cL_areIfsSo 210 = .ok (.if_icmp .ne 18, 3) := by decide +kernel
theorem dL_areIfsSo_213 : decode cL_areIfsSo 213 = .ok (.aload_n 0, 1) := by decide +kernel
theorem dL_areIfsSo_214 : decode cL_areIfsSo 214 = .ok (.iload 8, 2) := by decide +kernel
theorem dL_areIfsSo_216 : decode cL_areIfsSo 216 = .ok (.iconst 1, 1) := by decide +kernel
theorem dL_areIfsSo_217 : decode cL_areIfsSo 217 = .ok (.invokevirtual 55, 3) := by decide +kernel
theorem dL_areIfsSo_220 : decode cL_areIfsSo 220 = .ok (.iload_n 3, 1) := by decide +kernel
theorem dL_areIfsSo_221 : decode cL_areIfsSo 221 = .ok (.if_icmp .ne 7, 3) := by decide +kernel
theorem dL_areIfsSo_224 : decode cL_areIfsSo 224 = .ok (.iconst 1, 1) := by decide +kernel
theorem dL_areIfsSo_225 : decode cL_areIfsSo 225 = .ok (.goto 4, 3) := by decide +kernel
theorem dL_areIfsSo_228 : decode cL_areIfsSo 228 = .ok (.iconst 0, 1) := by decide +kernel
theorem dL_areIfsSo_229 : decode cL_areIfsSo 229 = .ok (.if_icmp .ne 7, 3) := by decide +kernel
theorem dL_areIfsSo_232 : decode cL_areIfsSo 232 = .ok (.iconst 1, 1) := by decide +kernel
theorem dL_areIfsSo_233 : decode cL_areIfsSo 233 = .ok (.goto 4, 3) := by decide +kernel
theorem dL_areIfsSo_236 : decode cL_areIfsSo 236 = .ok (.iconst 0, 1) := by decide +kernel
theorem dL_areIfsSo_237 : decode cL_areIfsSo 237 = .ok (.istore 5, 2) := by decide +kernel
theorem dL_areIfsSo_239 : decode cL_areIfsSo 239 = .ok (.aload_n 0, 1) := by decide +kernel
theorem dL_areIfsSo_240 : decode cL_areIfsSo 240 = .ok (.iload 8, 2) := by decide +kernel
theorem dL_areIfsSo_242 : decode cL_areIfsSo 242 = .ok (.iconst 3, 1) := by decide +kernel
theorem dL_areIfsSo_243 : decode cL_areIfsSo 243 = .ok (.invokevirtual 55, 3) := by decide +kernel
theorem dL_areIfsSo_246 : decode cL_areIfsSo 246 = .ok (.istore 9, 2) := by decide +kernel
theorem dL_areIfsSo_248 : decode cL_areIfsSo 248 = .ok (.iload 5, 2) := by decide +kernel
theorem dL_areIfsSo_250 : decode cL_areIfsSo 250 = .ok (.ifCond .eq 39, 3) := by decide +kernel
theorem dL_areIfsSo_253 : decode cL_areIfsSo 253 = .ok (.aload_n 0, 1) := by decide +kernel
theorem dL_areIfsSo_254 : decode cL_areIfsSo 254 = .ok (.iload 8, 2) := by decide +kernel
theorem dL_areIfsSo_256 : decode cL_areIfsSo 256 = .ok (.invokevirtual 42, 3) := by decide +kernel
theorem dL_areIfsSo_259 : decode cL_areIfsSo 259 = .ok (.iload 9, 2) := by decide +kernel
theorem dL_areIfsSo_261 : decode cL_areIfsSo 261 = .ok (.if_icmp .ne 28, 3) := by decide +kernel
theorem dL_areIfsSo_264 : decode cL_areIfsSo 264 = .ok (.aload_n 0, 1) := by decide +kernel
theorem dL_areIfsSo_265 : decode cL_areIfsSo 265 = .ok (.iload 8, 2) := by decide +kernel
theorem dL_areIfsSo_267 : decode cL_areIfsSo 267 = .ok (.iconst 2, 1) := by decide +kernel
theorem dL_areIfsSo_268 : decode cL_areIfsSo 268 = .ok (.invokevirtual 55, 3) := by decide +kernel
theorem dL_areIfsSo_271 : decode cL_areIfsSo 271 = .ok (.iconst 4, 1) := by decide +kernel
theorem dL_areIfsSo_272 : decode cL_areIfsSo 272 = .ok (.if_icmp .ne 17, 3) := by decide +kernel
theorem dL_areIfsSo_275 : decode cL_areIfsSo 275 = .ok (.aload_n 0, 1) := by decide +kernel
theorem dL_areIfsSo_276 : decode cL_areIfsSo 276 = .ok (.iload 8, 2) := by decide +kernel
theorem dL_areIfsSo_278 : decode cL_areIfsSo 278 = .ok (.iconst 0, 1) := by decide +kernel
theorem dL_areIfsSo_279 : decode cL_areIfsSo 279 = .ok (.invokevirtual 55, 3) := by decide +kernel
theorem dL_areIfsSo_282 : decode cL_areIfsSo 282 = .ok (.ifCond .ne 7, 3) := by decide +kernel
theorem dL_areIfsSo_285 : decode cL_areIfsSo 285 = .ok (.iconst 1, 1) := by decide +kernel
theorem dL_areIfsSo_286 : decode cL_areIfsSo 286 = .ok (.goto 4, 3) := by decide +kernel
theorem dL_areIfsSo_289 : decode cL_areIfsSo 289 = .ok (.iconst 0, 1) := by decide +kernel
theorem dL_areIfsSo_290 : decode cL_areIfsSo 290 = .ok (.istore 5, 2) := by decide +kernel
theorem dL_areIfsSo_292 : decode cL_areIfsSo 292 = .ok (.aload_n 0, 1) := by decide +kernel
theorem dL_areIfsSo_293 : decode cL_areIfsSo 293 = .ok (.invokevirtual 87, 3) := by decide +kernel
theorem dL_areIfsSo_296 : decode cL_areIfsSo 296 = .ok (.istore 10, 2) := by decide +kernel
theorem dL_areIfsSo_298 : decode cL_areIfsSo 298 = .ok (.aload_n 0, 1) := by decide +kernel
theorem dL_areIfsSo_299 : decode cL_areIfsSo 299 = .ok (.invokevirtual 87, 3) := by decide +kernel
theorem dL_areIfsSo_302 : decode cL_areIfsSo 302 = .ok (.istore 10, 2) := by decide +kernel
theorem dL_areIfsSo_304 : decode cL_areIfsSo 304 = .ok (.iload 5, 2) := by decide +kernel
theorem dL_areIfsSo_306 : decode cL_areIfsSo 306 = .ok (.ifCond .eq 22, 3) := by decide +kernel
theorem dL_areIfsSo_309 : decode cL_areIfsSo 309 = .ok (.iload 10, 2) := by decide +kernel
theorem dL_areIfsSo_311 : decode cL_areIfsSo 311 = .ok (.ifCond .lt 17, 3) := by decide +kernel
theorem dL_areIfsSo_314 : decode cL_areIfsSo 314 = .ok (.aload_n 0, 1) := by decide +kernel
theorem dL_areIfsSo_315 : decode cL_areIfsSo 315 = .ok (.iconst 2, 1) := by decide +kernel
theorem dL_areIfsSo_316 : decode cL_areIfsSo 316 = .ok (.invokevirtual 18, 3) := by decide +kernel
theorem dL_areIfsSo_319 : decode cL_areIfsSo 319 = .ok (.iload 7, 2) := by decide +kernel
theorem dL_areIfsSo_321 : decode cL_areIfsSo 321 = .ok (.if_icmp .ne 7, 3) := by decide +kernel
theorem dL_areIfsSo_324 : decode cL_areIfsSo 324 = .ok (.iconst 1, 1) := by decide +kernel
theorem dL_areIfsSo_325 : decode cL_areIfsSo 325 = .ok (.goto 4, 3) := by decide +kernel
theorem dL_areIfsSo_328 : decode cL_areIfsSo 328 = .ok (.iconst 0, 1) := by decide +kernel
theorem dL_areIfsSo_329 : decode cL_areIfsSo 329 = .ok (.ireturn, 1) := by decide +kernel
theorem dL_law_0 : decode cL_law 0 = .ok (.new 8, 3) := by decide +kernel
theorem dL_law_3 : decode cL_law 3 = .ok (.dup, 1) := by decide +kernel
theorem dL_law_4 : decode cL_law 4 = .ok (.invokespecial 96, 3) := by decide +kernel
theorem dL_law_7 : decode cL_law 7 = .ok (.astore_n 1, 1) := by decide +kernel
theorem dL_law_8 : decode cL_law 8 = .ok (.aload_n 1, 1) := by decide +kernel
theorem dL_law_9 : decode cL_law 9 = .ok (.iconst 0, 1) := by decide +kernel
theorem dL_law_10 : decode cL_law 10 = .ok (.iconst 2, 1) := by decide +kernel
theorem dL_law_11 : decode cL_law 11 = .ok (.iconst 4, 1) := by decide +kernel
theorem dL_law_12 : decode cL_law 12 = .ok (.bipush 10, 2) := by decide +kernel
theorem dL_law_14 : decode cL_law 14 = .ok (.invokevirtual 30, 3) := by decide +kernel
theorem dL_law_17 : decode cL_law 17 = .ok (.aload_n 1, 1) := by decide +kernel
theorem dL_law_18 : decode cL_law 18 = .ok (.iconst 4, 1) := by decide +kernel
theorem dL_law_19 : decode cL_law 19 = .ok (.iconst 1, 1) := by decide +kernel
theorem dL_law_20 : decode cL_law 20 = .ok (.iconst 3, 1) := by decide +kernel
theorem dL_law_21 : decode cL_law 21 = .ok (.bipush 7, 2) := by decide +kernel
theorem dL_law_23 : decode cL_law 23 = .ok (.invokevirtual 30, 3) := by decide +kernel
theorem dL_law_26 : decode cL_law 26 = .ok (.iadd, 1) := by decide +kernel
theorem dL_law_27 : decode cL_law 27 = .ok (.aload_n 1, 1) := by decide +kernel
theorem dL_law_28 : decode cL_law 28 = .ok (.bipush 17, 2) := by decide +kernel
theorem dL_law_30 : decode cL_law 30 = .ok (.iconst 2, 1) := by decide +kernel
theorem dL_law_31 : decode cL_law 31 = .ok (.iconst 5, 1) := by decide +kernel
theorem dL_law_32 : decode cL_law 32 = .ok (.bipush 20, 2) := by decide +kernel
theorem dL_law_34 : decode cL_law 34 = .ok (.invokevirtual 30, 3) := by decide +kernel
theorem dL_law_37 : decode cL_law 37 = .ok (.iadd, 1) := by decide +kernel
theorem dL_law_38 : decode cL_law 38 = .ok (.aload_n 1, 1) := by decide +kernel
theorem dL_law_39 : decode cL_law 39 = .ok (.iconst 4, 1) := by decide +kernel
theorem dL_law_40 : decode cL_law 40 = .ok (.invokevirtual 36, 3) := by decide +kernel
theorem dL_law_43 : decode cL_law 43 = .ok (.iadd, 1) := by decide +kernel
theorem dL_law_44 : decode cL_law 44 = .ok (.aload_n 1, 1) := by decide +kernel
theorem dL_law_45 : decode cL_law 45 = .ok (.bipush 6, 2) := by decide +kernel
theorem dL_law_47 : decode cL_law 47 = .ok (.invokevirtual 36, 3) := by decide +kernel
theorem dL_law_50 : decode cL_law 50 = .ok (.iadd, 1) := by decide +kernel
theorem dL_law_51 : decode cL_law 51 = .ok (.istore_n 2, 1) := by decide +kernel
theorem dL_law_52 : decode cL_law 52 = .ok (.iconst 0, 1) := by decide +kernel
theorem dL_law_53 : decode cL_law 53 = .ok (.istore_n 3, 1) := by decide +kernel
theorem dL_law_54 : decode cL_law 54 = .ok (.iload_n 3, 1) := by decide +kernel
theorem dL_law_55 : decode cL_law 55 = .ok (.bipush 50, 2) := by decide +kernel
theorem dL_law_57 : decode cL_law 57 = .ok (.if_icmp .ge 145, 3) := by decide +kernel
theorem dL_law_60 : decode cL_law 60 = .ok (.aload_n 0, 1) := by decide +kernel
theorem dL_law_61 : decode cL_law 61 = .ok (.iload_n 3, 1) := by decide +kernel
theorem dL_law_62 : decode cL_law 62 = .ok (.invokestatic 97, 3) := by decide +kernel
theorem dL_law_65 : decode cL_law 65 = .ok (.istore 4, 2) := by decide +kernel
theorem dL_law_67 : decode cL_law 67 = .ok (.aload_n 1, 1) := by decide +kernel
theorem dL_law_68 : decode cL_law 68 = .ok (.bipush 12, 2) := by decide +kernel
theorem dL_law_70 : decode cL_law 70 = .ok (.invokevirtual 18, 3) := by decide +kernel
theorem dL_law_73 : decode cL_law 73 = .ok (.aload_n 1, 1) := by decide +kernel
theorem dL_law_74 : decode cL_law 74 = .ok (.bipush 11, 2) := by decide +kernel
theorem dL_law_76 : decode cL_law 76 = .ok (.invokevirtual 18, 3) := by decide +kernel
theorem dL_law_79 : decode cL_law 79 = .ok (.iadd, 1) := by decide +kernel
theorem dL_law_80 : decode cL_law 80 = .ok (.istore 5, 2) := by decide +kernel
theorem dL_law_82 : decode cL_law 82 = .ok (.iload 4, 2) := by decide +kernel
theorem dL_law_84 : decode cL_law 84 = .ok (.bipush 15, 2) := by decide +kernel
theorem dL_law_86 : decode cL_law 86 = .ok (.iand, 1) := by decide +kernel
theorem dL_law_87 : decode cL_law 87 = .ok (.bipush 7, 2) := by decide +kernel
theorem dL_law_89 : decode cL_law 89 = .ok (.if_icmp .ne 17, 3) := by decide +kernel
theorem dL_law_92 : decode cL_law 92 = .ok (.aload_n 1, 1) := by decide +kernel
theorem dL_law_93 : decode cL_law 93 = .ok (.bipush 8, 2) := by decide +kernel
theorem dL_law_95 : decode cL_law 95 = .ok (.invokevirtual 18, 3) := by decide +kernel
theorem dL_law_98 : decode cL_law 98 = .ok (.iconst 1, 1) := by decide +kernel
theorem dL_law_99 : decode cL_law 99 = .ok (.if_icmp .ne 7, 3) := by decide +kernel
theorem dL_law_102 : decode cL_law 102 = .ok (.iconst 1, 1) := by decide +kernel
theorem dL_law_103 : decode cL_law 103 = .ok (.goto 4, 3) := by decide +kernel
theorem dL_law_106 : decode cL_law 106 = .ok (.iconst 0, 1) := by decide +kernel
theorem dL_law_107 : decode cL_law 107 = .ok (.istore 6, 2) := by decide +kernel
theorem dL_law_109 : decode cL_law 109 = .ok (.aload_n 1, 1) := by decide +kernel
theorem dL_law_110 : decode cL_law 110 = .ok (.iload 4, 2) := by decide +kernel
theorem dL_law_112 : decode cL_law 112 = .ok (.invokestatic 101, 3) := by decide +kernel
theorem dL_law_115 : decode cL_law 115 = .ok (.istore 7, 2) := by decide +kernel
theorem dL_law_117 : decode cL_law 117 = .ok (.iload 7, 2) := by decide +kernel
theorem dL_law_119 : decode cL_law 119 = .ok (.ifCond .lt 75, 3) := by decide +kernel
theorem dL_law_122 : decode cL_law 122 = .ok (.iload 6, 2) := by decide +kernel
theorem dL_law_124 : decode cL_law 124 = .ok (.ifCond .eq 31, 3) := by decide +kernel
theorem dL_law_127 : decode cL_law 127 = .ok (.aload_n 1, 1) := by decide +kernel
theorem dL_law_128 : decode cL_law 128 = .ok (.bipush 12, 2) := by decide +kernel
theorem dL_law_130 : decode cL_law 130 = .ok (.invokevirtual 18, 3) := by decide +kernel
theorem dL_law_133 : decode cL_law 133 = .ok (.iload 5, 2) := by decide +kernel
theorem dL_law_135 : decode cL_law 135 = .ok (.if_icmp .ne 59, 3) := by decide +kernel
theorem dL_law_138 : decode cL_law 138 = .ok (.aload_n 1, 1) := by decide +kernel
theorem dL_law_139 : decode cL_law 139 = .ok (.bipush 11, 2) := by decide +kernel
theorem dL_law_141 : decode cL_law 141 = .ok (.invokevirtual 18, 3) := by decide +kernel
theorem dL_law_144 : decode cL_law 144 = .ok (.ifCond .ne 50, 3) := by decide +kernel
theorem dL_law_147 : decode cL_law 147 = .ok (.aload_n 1, 1) := by decide +kernel
theorem dL_law_148 : decode cL_law 148 = .ok (.iconst 2, 1) := by decide +kernel
theorem dL_law_149 : decode cL_law 149 = .ok (.invokevirtual 18, 3) := by decide +kernel
theorem dL_law_152 : decode cL_law 152 = .ok (.ifCond .ne 42, 3) := by decide +kernel
theorem dL_law_155 : decode cL_law 155 = .ok (.aload_n 1, 1) := by decide +kernel
theorem dL_law_156 : decode cL_law 156 = .ok (.invokestatic 80, 3) := by decide +kernel
theorem dL_law_159 : decode cL_law 159 = .ok (.ifCond .eq 35, 3) := by decide +kernel
theorem dL_law_162 : decode cL_law 162 = .ok (.aload_n 1, 1) := by decide +kernel
theorem dL_law_163 : decode cL_law 163 = .ok (.invokestatic 84, 3) := by decide +kernel
theorem dL_law_166 : decode cL_law 166 = .ok (.ifCond .eq 28, 3) := by decide +kernel
theorem dL_law_169 : decode cL_law 169 = .ok (.iload_n 3, 1) := by decide +kernel
theorem dL_law_170 : decode cL_law 170 = .ok (.iconst 3, 1) := by decide +kernel
theorem dL_law_171 : decode cL_law 171 = .ok (.irem, 1) := by decide +kernel
theorem dL_law_172 : decode cL_law 172 = .ok (.iconst 1, 1) := by decide +kernel
theorem dL_law_173 : decode cL_law 173 = .ok (.if_icmp .ne 10, 3) := by decide +kernel
theorem dL_law_176 : decode cL_law 176 = .ok (.aload_n 1, 1) := by decide +kernel
theorem dL_law_177 : decode cL_law 177 = .ok (.invokestatic 105, 3) := by decide +kernel
theorem dL_law_180 : decode cL_law 180 = .ok (.ifCond .eq 14, 3) := by decide +kernel
theorem dL_law_183 : decode cL_law 183 = .ok (.aload_n 1, 1) := by decide +kernel
theorem dL_law_184 : decode cL_law 184 = .ok (.iload 4, 2) := by decide +kernel
theorem dL_law_186 : decode cL_law 186 = .ok (.iconst 4, 1) := by decide +kernel
theorem dL_law_187 : decode cL_law 187 = .ok (.ishr, 1) := by decide +kernel
theorem dL_law_188 : decode cL_law 188 = .ok (.invokestatic 108, 3) := by decide +kernel
theorem dL_law_191 : decode cL_law 191 = .ok (.ifCond .ne 5, 3) := by decide +kernel
theorem dL_law_194 : decode cL_law 194 = .ok (.iconst 0, 1) := by decide +kernel
theorem dL_law_195 : decode cL_law 195 = .ok (.ireturn, 1) := by decide +kernel
theorem dL_law_196 : decode cL_law 196 = .ok (.iinc 3 1, 3) := by decide +kernel
theorem dL_law_199 : decode cL_law 199 = .ok (.goto (-145), 3) := by decide +kernel
theorem dL_law_202 : decode cL_law 202 = .ok (.iload_n 2, 1) := by decide +kernel
theorem dL_law_203 : decode cL_law 203 = .ok (.iconst 4, 1) := by decide +kernel
theorem dL_law_204 : decode cL_law 204 = .ok (.if_icmp .ne 7, 3) := by decide +kernel
theorem dL_law_207 : decode cL_law 207 = .ok (.iconst 1, 1) := by decide +kernel
theorem dL_law_208 : decode cL_law 208 = .ok (.goto 4, 3) := by decide +kernel
theorem dL_law_211 : decode cL_law 211 = .ok (.iconst 0, 1) := by decide +kernel
theorem dL_law_212 : decode cL_law 212 = .ok (.ireturn, 1) := by decide +kernel
