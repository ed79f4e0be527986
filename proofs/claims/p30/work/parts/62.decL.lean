theorem dL_part_0 : decode cL_part 0 = .ok (.iload_n 1, 1) := by decide +kernel
theorem dL_part_1 : decode cL_part 1 = .ok (.aload_n 0, 1) := by decide +kernel
theorem dL_part_2 : decode cL_part 2 = .ok (.arraylength, 1) := by decide +kernel
theorem dL_part_3 : decode cL_part 3 = .ok (.if_icmp .ge 9, 3) := by decide +kernel
theorem dL_part_6 : decode cL_part 6 = .ok (.aload_n 0, 1) := by decide +kernel
theorem dL_part_7 : decode cL_part 7 = .ok (.iload_n 1, 1) := by decide +kernel
theorem dL_part_8 : decode cL_part 8 = .ok (.iaload, 1) := by decide +kernel
theorem dL_part_9 : decode cL_part 9 = .ok (.goto 16, 3) := by decide +kernel
theorem dL_part_12 : decode cL_part 12 = .ok (.sipush 997, 3) := by decide +kernel
theorem dL_part_15 : decode cL_part 15 = .ok (.iload_n 1, 1) := by decide +kernel
theorem dL_part_16 : decode cL_part 16 = .ok (.imul, 1) := by decide +kernel
theorem dL_part_17 : decode cL_part 17 = .ok (.sipush 877, 3) := by decide +kernel
theorem dL_part_20 : decode cL_part 20 = .ok (.iload_n 1, 1) := by decide +kernel
theorem dL_part_21 : decode cL_part 21 = .ok (.imul, 1) := by decide +kernel
theorem dL_part_22 : decode cL_part 22 = .ok (.iload_n 1, 1) := by decide +kernel
theorem dL_part_23 : decode cL_part 23 = .ok (.imul, 1) := by decide +kernel
theorem dL_part_24 : decode cL_part 24 = .ok (.iadd, 1) := by decide +kernel
theorem dL_part_25 : decode cL_part 25 = .ok (.istore_n 3, 1) := by decide +kernel
theorem dL_part_26 : decode cL_part 26 = .ok (.iload_n 3, 1) := by decide +kernel
theorem dL_part_27 : decode cL_part 27 = .ok (.ldc 7, 2) := by decide +kernel
theorem dL_part_29 : decode cL_part 29 = .ok (.iand, 1) := by decide +kernel
theorem dL_part_30 : decode cL_part 30 = .ok (.iload_n 2, 1) := by decide +kernel
theorem dL_part_31 : decode cL_part 31 = .ok (.irem, 1) := by decide +kernel
theorem dL_part_32 : decode cL_part 32 = .ok (.ireturn, 1) := by decide +kernel
theorem dL_does_0 : decode cL_does 0 = .ok (.iload_n 1, 1) := by decide +kernel
theorem dL_does_1 : decode cL_does 1 = .ok (.ifCond .ne 14, 3) := by decide +kernel
theorem dL_does_4 : decode cL_does 4 = .ok (.aload_n 0, 1) := by decide +kernel
theorem dL_does_5 : decode cL_does 5 = .ok (.iload_n 2, 1) := by decide +kernel
theorem dL_does_6 : decode cL_does 6 = .ok (.iload_n 3, 1) := by decide +kernel
theorem dL_does_7 : decode cL_does 7 = .ok (.iload 4, 2) := by decide +kernel
theorem dL_does_9 : decode cL_does 9 = .ok (.invokevirtual 8, 3) := by decide +kernel
theorem dL_does_12 : decode cL_does 12 = .ok (.goto 275, 3) := by decide +kernel
theorem dL_does_15 : decode cL_does 15 = .ok (.iload_n 1, 1) := by decide +kernel
theorem dL_does_16 : decode cL_does 16 = .ok (.iconst 1, 1) := by decide +kernel
theorem dL_does_17 : decode cL_does 17 = .ok (.if_icmp .ne 11, 3) := by decide +kernel
theorem dL_does_20 : decode cL_does 20 = .ok (.aload_n 0, 1) := by decide +kernel
theorem dL_does_21 : decode cL_does 21 = .ok (.iload_n 2, 1) := by decide +kernel
theorem dL_does_22 : decode cL_does 22 = .ok (.invokevirtual 14, 3) := by decide +kernel
theorem dL_does_25 : decode cL_does 25 = .ok (.goto 262, 3) := by decide +kernel
theorem dL_does_28 : decode cL_does 28 = .ok (.iload_n 1, 1) := by decide +kernel
theorem dL_does_29 : decode cL_does 29 = .ok (.iconst 2, 1) := by decide +kernel
theorem dL_does_30 : decode cL_does 30 = .ok (.if_icmp .ne 11, 3) := by decide +kernel
theorem dL_does_33 : decode cL_does 33 = .ok (.aload_n 0, 1) := by decide +kernel
theorem dL_does_34 : decode cL_does 34 = .ok (.iload_n 2, 1) := by decide +kernel
theorem dL_does_35 : decode cL_does 35 = .ok (.invokevirtual 18, 3) := by decide +kernel
theorem dL_does_38 : decode cL_does 38 = .ok (.goto 249, 3) := by decide +kernel
theorem dL_does_41 : decode cL_does 41 = .ok (.iload_n 1, 1) := by decide +kernel
theorem dL_does_42 : decode cL_does 42 = .ok (.iconst 3, 1) := by decide +kernel
theorem dL_does_43 : decode cL_does 43 = .ok (.if_icmp .ne 11, 3) := by decide +kernel
theorem dL_does_46 : decode cL_does 46 = .ok (.aload_n 0, 1) := by decide +kernel
theorem dL_does_47 : decode cL_does 47 = .ok (.iload_n 2, 1) := by decide +kernel
theorem dL_does_48 : decode cL_does 48 = .ok (.invokevirtual 21, 3) := by decide +kernel
theorem dL_does_51 : decode cL_does 51 = .ok (.goto 236, 3) := by decide +kernel
theorem dL_does_54 : decode cL_does 54 = .ok (.iload_n 1, 1) := by decide +kernel
theorem dL_does_55 : decode cL_does 55 = .ok (.iconst 4, 1) := by decide +kernel
theorem dL_does_56 : decode cL_does 56 = .ok (.if_icmp .ne 12, 3) := by decide +kernel
theorem dL_does_59 : decode cL_does 59 = .ok (.aload_n 0, 1) := by decide +kernel
theorem dL_does_60 : decode cL_does 60 = .ok (.iload_n 2, 1) := by decide +kernel
theorem dL_does_61 : decode cL_does 61 = .ok (.iload_n 3, 1) := by decide +kernel
theorem dL_does_62 : decode cL_does 62 = .ok (.invokevirtual 24, 3) := by decide +kernel
theorem dL_does_65 : decode cL_does 65 = .ok (.goto 222, 3) := by decide +kernel
theorem dL_does_68 : decode cL_does 68 = .ok (.iload_n 1, 1) := by decide +kernel
theorem dL_does_69 : decode cL_does 69 = .ok (.iconst 5, 1) := by decide +kernel
theorem dL_does_70 : decode cL_does 70 = .ok (.if_icmp .ne 16, 3) := by decide +kernel
theorem dL_does_73 : decode cL_does 73 = .ok (.ldc2_w 28, 3) := by decide +kernel
theorem dL_does_76 : decode cL_does 76 = .ok (.aload_n 0, 1) := by decide +kernel
theorem dL_does_77 : decode cL_does 77 = .ok (.iload_n 2, 1) := by decide +kernel
theorem dL_does_78 : decode cL_does 78 = .ok (.invokevirtual 30, 3) := by decide +kernel
theorem dL_does_81 : decode cL_does 81 = .ok (.dmul, 1) := by decide +kernel
theorem dL_does_82 : decode cL_does 82 = .ok (.d2i, 1) := by decide +kernel
theorem dL_does_83 : decode cL_does 83 = .ok (.goto 204, 3) := by decide +kernel
theorem dL_does_86 : decode cL_does 86 = .ok (.iload_n 1, 1) := by decide +kernel
theorem dL_does_87 : decode cL_does 87 = .ok (.bipush 6, 2) := by decide +kernel
theorem dL_does_89 : decode cL_does 89 = .ok (.if_icmp .ne 12, 3) := by decide +kernel
theorem dL_does_92 : decode cL_does 92 = .ok (.aload_n 0, 1) := by decide +kernel
theorem dL_does_93 : decode cL_does 93 = .ok (.iload_n 2, 1) := by decide +kernel
theorem dL_does_94 : decode cL_does 94 = .ok (.iload_n 3, 1) := by decide +kernel
theorem dL_does_95 : decode cL_does 95 = .ok (.invokevirtual 34, 3) := by decide +kernel
theorem dL_does_98 : decode cL_does 98 = .ok (.goto 189, 3) := by decide +kernel
theorem dL_does_101 : decode cL_does 101 = .ok (.iload_n 1, 1) := by decide +kernel
theorem dL_does_102 : decode cL_does 102 = .ok (.bipush 7, 2) := by decide +kernel
theorem dL_does_104 : decode cL_does 104 = .ok (.if_icmp .ne 12, 3) := by decide +kernel
theorem dL_does_107 : decode cL_does 107 = .ok (.aload_n 0, 1) := by decide +kernel
theorem dL_does_108 : decode cL_does 108 = .ok (.iload_n 2, 1) := by decide +kernel
theorem dL_does_109 : decode cL_does 109 = .ok (.iload_n 3, 1) := by decide +kernel
theorem dL_does_110 : decode cL_does 110 = .ok (.invokevirtual 37, 3) := by decide +kernel
theorem dL_does_113 : decode cL_does 113 = .ok (.goto 174, 3) := by decide +kernel
theorem dL_does_116 : decode cL_does 116 = .ok (.iload_n 1, 1) := by decide +kernel
theorem dL_does_117 : decode cL_does 117 = .ok (.bipush 8, 2) := by decide +kernel
theorem dL_does_119 : decode cL_does 119 = .ok (.if_icmp .ne 11, 3) := by decide +kernel
theorem dL_does_122 : decode cL_does 122 = .ok (.aload_n 0, 1) := by decide +kernel
theorem dL_does_123 : decode cL_does 123 = .ok (.iload_n 2, 1) := by decide +kernel
theorem dL_does_124 : decode cL_does 124 = .ok (.invokevirtual 40, 3) := by decide +kernel
theorem dL_does_127 : decode cL_does 127 = .ok (.goto 160, 3) := by decide +kernel
theorem dL_does_130 : decode cL_does 130 = .ok (.iload_n 1, 1) := by decide +kernel
theorem dL_does_131 : decode cL_does 131 = .ok (.bipush 9, 2) := by decide +kernel
theorem dL_does_133 : decode cL_does 133 = .ok (.if_icmp .ne 14, 3) := by decide +kernel
theorem dL_does_136 : decode cL_does 136 = .ok (.aload_n 0, 1) := by decide +kernel
theorem dL_does_137 : decode cL_does 137 = .ok (.iload_n 2, 1) := by decide +kernel
theorem dL_does_138 : decode cL_does 138 = .ok (.iload_n 3, 1) := by decide +kernel
theorem dL_does_139 : decode cL_does 139 = .ok (.iload 4, 2) := by decide +kernel
theorem dL_does_141 : decode cL_does 141 = .ok (.invokevirtual 43, 3) := by decide +kernel
theorem dL_does_144 : decode cL_does 144 = .ok (.goto 143, 3) := by decide +kernel
theorem dL_does_147 : decode cL_does 147 = .ok (.iload_n 1, 1) := by decide +kernel
theorem dL_does_148 : decode cL_does 148 = .ok (.bipush 10, 2) := by decide +kernel
theorem dL_does_150 : decode cL_does 150 = .ok (.if_icmp .ne 14, 3) := by decide +kernel
theorem dL_does_153 : decode cL_does 153 = .ok (.aload_n 0, 1) := by decide +kernel
theorem dL_does_154 : decode cL_does 154 = .ok (.iload_n 2, 1) := by decide +kernel
theorem dL_does_155 : decode cL_does 155 = .ok (.iload_n 3, 1) := by decide +kernel
theorem dL_does_156 : decode cL_does 156 = .ok (.iload 4, 2) := by decide +kernel
theorem dL_does_158 : decode cL_does 158 = .ok (.invokevirtual 46, 3) := by decide +kernel
theorem dL_does_161 : decode cL_does 161 = .ok (.goto 126, 3) := by decide +kernel
theorem dL_does_164 : decode cL_does 164 = .ok (.iload_n 1, 1) := by decide +kernel
theorem dL_does_165 : decode cL_does 165 = .ok (.bipush 11, 2) := by decide +kernel
theorem dL_does_167 : decode cL_does 167 = .ok (.if_icmp .ne 19, 3) := by decide +kernel
theorem dL_does_170 : decode cL_does 170 = .ok (.aload_n 0, 1) := by decide +kernel
theorem dL_does_171 : decode cL_does 171 = .ok (.iload_n 2, 1) := by decide +kernel
theorem dL_does_172 : decode cL_does 172 = .ok (.invokevirtual 49, 3) := by decide +kernel
theorem dL_does_175 : decode cL_does 175 = .ok (.ifCond .eq 7, 3) := by decide +kernel
theorem dL_does_178 : decode cL_does 178 = .ok (.iconst 1, 1) := by decide +kernel
theorem dL_does_179 : decode cL_does 179 = .ok (.goto 108, 3) := by decide +kernel
theorem dL_does_182 : decode cL_does 182 = .ok (.iconst 0, 1) := by decide +kernel
theorem dL_does_183 : decode cL_does 183 = .ok (.goto 104, 3) := by decide +kernel
theorem dL_does_186 : decode cL_does 186 = .ok (.iload_n 1, 1) := by decide +kernel
theorem dL_does_187 : decode cL_does 187 = .ok (.bipush 12, 2) := by decide +kernel
theorem dL_does_189 : decode cL_does 189 = .ok (.if_icmp .ne 19, 3) := by decide +kernel
theorem dL_does_192 : decode cL_does 192 = .ok (.aload_n 0, 1) := by decide +kernel
theorem dL_does_193 : decode cL_does 193 = .ok (.iload_n 2, 1) := by decide +kernel
theorem dL_does_194 : decode cL_does 194 = .ok (.invokevirtual 53, 3) := by decide +kernel
theorem dL_does_197 : decode cL_does 197 = .ok (.ifCond .eq 7, 3) := by decide +kernel
theorem dL_does_200 : decode cL_does 200 = .ok (.iconst 1, 1) := by decide +kernel
theorem dL_does_201 : decode cL_does 201 = .ok (.goto 86, 3) := by decide +kernel
theorem dL_does_204 : decode cL_does 204 = .ok (.iconst 0, 1) := by decide +kernel
theorem dL_does_205 : decode cL_does 205 = .ok (.goto 82, 3) := by decide +kernel
theorem dL_does_208 : decode cL_does 208 = .ok (.iload_n 1, 1) := by decide +kernel
theorem dL_does_209 : decode cL_does 209 = .ok (.bipush 13, 2) := by decide +kernel
theorem dL_does_211 : decode cL_does 211 = .ok (.if_icmp .ne 12, 3) := by decide +kernel
theorem dL_does_214 : decode cL_does 214 = .ok (.aload_n 0, 1) := by decide +kernel
theorem dL_does_215 : decode cL_does 215 = .ok (.iload_n 2, 1) := by decide +kernel
theorem dL_does_216 : decode cL_does 216 = .ok (.iload_n 3, 1) := by decide +kernel
theorem dL_does_217 : decode cL_does 217 = .ok (.invokevirtual 56, 3) := by decide +kernel
theorem dL_does_220 : decode cL_does 220 = .ok (.goto 67, 3) := by decide +kernel
theorem dL_does_223 : decode cL_does 223 = .ok (.iload_n 1, 1) := by decide +kernel
theorem dL_does_224 : decode cL_does 224 = .ok (.bipush 14, 2) := by decide +kernel
theorem dL_does_226 : decode cL_does 226 = .ok (.if_icmp .ne 11, 3) := by decide +kernel
theorem dL_does_229 : decode cL_does 229 = .ok (.aload_n 0, 1) := by decide +kernel
theorem dL_does_230 : decode cL_does 230 = .ok (.iload_n 2, 1) := by decide +kernel
theorem dL_does_231 : decode cL_does 231 = .ok (.invokevirtual 59, 3) := by decide +kernel
theorem dL_does_234 : decode cL_does 234 = .ok (.goto 53, 3) := by decide +kernel
theorem dL_does_237 : decode cL_does 237 = .ok (.iload_n 1, 1) := by decide +kernel
theorem dL_does_238 : decode cL_does 238 = .ok (.bipush 15, 2) := by decide +kernel
theorem dL_does_240 : decode cL_does 240 = .ok (.if_icmp .ne 12, 3) := by decide +kernel
theorem dL_does_243 : decode cL_does 243 = .ok (.aload_n 0, 1) := by decide +kernel
theorem dL_does_244 : decode cL_does 244 = .ok (.iload_n 2, 1) := by decide +kernel
theorem dL_does_245 : decode cL_does 245 = .ok (.iload_n 3, 1) := by decide +kernel
theorem dL_does_246 : decode cL_does 246 = .ok (.invokevirtual 62, 3) := by decide +kernel
theorem dL_does_249 : decode cL_does 249 = .ok (.goto 38, 3) := by decide +kernel
theorem dL_does_252 : decode cL_does 252 = .ok (.iload_n 1, 1) := by decide +kernel
theorem dL_does_253 : decode cL_does 253 = .ok (.bipush 16, 2) := by decide +kernel
theorem dL_does_255 : decode cL_does 255 = .ok (.if_icmp .ne 12, 3) := by decide +kernel
theorem dL_does_258 : decode cL_does 258 = .ok (.aload_n 0, 1) := by decide +kernel
theorem dL_does_259 : decode cL_does 259 = .ok (.iload_n 2, 1) := by decide +kernel
theorem dL_does_260 : decode cL_does 260 = .ok (.iload_n 3, 1) := by decide +kernel
theorem dL_does_261 : decode cL_does 261 = .ok (.invokevirtual 65, 3) := by decide +kernel
theorem dL_does_264 : decode cL_does 264 = .ok (.goto 23, 3) := by decide +kernel
theorem dL_does_267 : decode cL_does 267 = .ok (.iload_n 1, 1) := by decide +kernel
theorem dL_does_268 : decode cL_does 268 = .ok (.bipush 17, 2) := by decide +kernel
theorem dL_does_270 : decode cL_does 270 = .ok (.if_icmp .ne 11, 3) := by decide +kernel
theorem dL_does_273 : decode cL_does 273 = .ok (.aload_n 0, 1) := by decide +kernel
theorem dL_does_274 : decode cL_does 274 = .ok (.iload_n 2, 1) := by decide +kernel
theorem dL_does_275 : decode cL_does 275 = .ok (.invokevirtual 68, 3) := by decide +kernel
theorem dL_does_278 : decode cL_does 278 = .ok (.goto 9, 3) := by decide +kernel
theorem dL_does_281 : decode cL_does 281 = .ok (.aload_n 0, 1) := by decide +kernel
theorem dL_does_282 : decode cL_does 282 = .ok (.iload_n 2, 1) := by decide +kernel
theorem dL_does_283 : decode cL_does 283 = .ok (.iload_n 3, 1) := by decide +kernel
theorem dL_does_284 : decode cL_does 284 = .ok (.invokevirtual 71, 3) := by decide +kernel
theorem dL_does_287 : decode cL_does 287 = .ok (.ireturn, 1) := by decide +kernel
theorem dL_does_288 : decode cL_does 288 = .ok (.astore 5, 2) := by decide +kernel
theorem dL_does_290 : decode cL_does 290 = .ok (.ldc 76, 2) := by decide +kernel
theorem dL_does_292 : decode cL_does 292 = .ok (.ireturn, 1) := by decide +kernel
theorem dL_does_293 : decode cL_does 293 = .ok (.astore 5, 2) := by decide +kernel
theorem dL_does_295 : decode cL_does 295 = .ok (.ldc 79, 2) := by decide +kernel
theorem dL_does_297 : decode cL_does 297 = .ok (.ireturn, 1) := by decide +kernel
theorem dL_does_298 : decode cL_does 298 = .ok (.astore 5, 2) := by decide +kernel
theorem dL_does_300 : decode cL_does 300 = .ok (.ldc 82, 2) := by decide +kernel
theorem dL_does_302 : decode cL_does 302 = .ok (.ireturn, 1) := by decide +kernel
theorem dL_bears_0 : decode cL_bears 0 = .ok (.aload_n 1, 1) := by decide +kernel
theorem dL_bears_1 : decode cL_bears 1 = .ok (.iload_n 2, 1) := by decide +kernel
theorem dL_bears_2 : decode cL_bears 2 = .ok (.iaload, 1) := by decide +kernel
theorem dL_bears_3 : decode cL_bears 3 = .ok (.iconst 4, 1) := by decide +kernel
theorem dL_bears_4 : decode cL_bears 4 = .ok (.irem, 1) := by decide +kernel
theorem dL_bears_5 : decode cL_bears 5 = .ok (.iconst 2, 1) := by decide +kernel
theorem dL_bears_6 : decode cL_bears 6 = .ok (.if_icmp .ne 21, 3) := by decide +kernel
theorem dL_bears_9 : decode cL_bears 9 = .ok (.aload_n 0, 1) := by decide +kernel
theorem dL_bears_10 : decode cL_bears 10 = .ok (.bipush 24, 2) := by decide +kernel
theorem dL_bears_12 : decode cL_bears 12 = .ok (.iload_n 2, 1) := by decide +kernel
theorem dL_bears_13 : decode cL_bears 13 = .ok (.iadd, 1) := by decide +kernel
theorem dL_bears_14 : decode cL_bears 14 = .ok (.iaload, 1) := by decide +kernel
theorem dL_bears_15 : decode cL_bears 15 = .ok (.bipush 99, 2) := by decide +kernel
theorem dL_bears_17 : decode cL_bears 17 = .ok (.if_icmp .le 8, 3) := by decide +kernel
theorem dL_bears_20 : decode cL_bears 20 = .ok (.ldc 83, 2) := by decide +kernel
theorem dL_bears_22 : decode cL_bears 22 = .ok (.goto 4, 3) := by decide +kernel
theorem dL_bears_25 : decode cL_bears 25 = .ok (.iconst 0, 1) := by decide +kernel
theorem dL_bears_26 : decode cL_bears 26 = .ok (.ireturn, 1) := by decide +kernel
theorem dL_bears_27 : decode cL_bears 27 = .ok (.aload_n 1, 1) := by decide +kernel
theorem dL_bears_28 : decode cL_bears 28 = .ok (.iload_n 2, 1) := by decide +kernel
theorem dL_bears_29 : decode cL_bears 29 = .ok (.iaload, 1) := by decide +kernel
theorem dL_bears_30 : decode cL_bears 30 = .ok (.iconst 4, 1) := by decide +kernel
theorem dL_bears_31 : decode cL_bears 31 = .ok (.idiv, 1) := by decide +kernel
theorem dL_bears_32 : decode cL_bears 32 = .ok (.iconst 4, 1) := by decide +kernel
theorem dL_bears_33 : decode cL_bears 33 = .ok (.irem, 1) := by decide +kernel
theorem dL_bears_34 : decode cL_bears 34 = .ok (.istore 4, 2) := by decide +kernel
theorem dL_bears_36 : decode cL_bears 36 = .ok (.ldc2_w 84, 3) := by decide +kernel
theorem dL_bears_39 : decode cL_bears 39 = .ok (.iload_n 3, 1) := by decide +kernel
theorem dL_bears_40 : decode cL_bears 40 = .ok (.i2d, 1) := by decide +kernel
theorem dL_bears_41 : decode cL_bears 41 = .ok (.ldc2_w 28, 3) := by decide +kernel
theorem dL_bears_44 : decode cL_bears 44 = .ok (.ddiv, 1) := by decide +kernel
theorem dL_bears_45 : decode cL_bears 45 = .ok (.dmul, 1) := by decide +kernel
theorem dL_bears_46 : decode cL_bears 46 = .ok (.iload_n 3, 1) := by decide +kernel
theorem dL_bears_47 : decode cL_bears 47 = .ok (.i2d, 1) := by decide +kernel
theorem dL_bears_48 : decode cL_bears 48 = .ok (.ldc2_w 28, 3) := by decide +kernel
theorem dL_bears_51 : decode cL_bears 51 = .ok (.ddiv, 1) := by decide +kernel
theorem dL_bears_52 : decode cL_bears 52 = .ok (.dmul, 1) := by decide +kernel
theorem dL_bears_53 : decode cL_bears 53 = .ok (.iload 4, 2) := by decide +kernel
theorem dL_bears_55 : decode cL_bears 55 = .ok (.ifCond .ne 7, 3) := by decide +kernel
theorem dL_bears_58 : decode cL_bears 58 = .ok (.dconst 1, 1) := by decide +kernel
theorem dL_bears_59 : decode cL_bears 59 = .ok (.goto 18, 3) := by decide +kernel
theorem dL_bears_62 : decode cL_bears 62 = .ok (.iload 4, 2) := by decide +kernel
theorem dL_bears_64 : decode cL_bears 64 = .ok (.iconst 1, 1) := by decide +kernel
theorem dL_bears_65 : decode cL_bears 65 = .ok (.if_icmp .ne 9, 3) := by decide +kernel
theorem dL_bears_68 : decode cL_bears 68 = .ok (.ldc2_w 86, 3) := by decide +kernel
theorem dL_bears_71 : decode cL_bears 71 = .ok (.goto 6, 3) := by decide +kernel
theorem dL_bears_74 : decode cL_bears 74 = .ok (.ldc2_w 88, 3) := by decide +kernel
theorem dL_bears_77 : decode cL_bears 77 = .ok (.dmul, 1) := by decide +kernel
theorem dL_bears_78 : decode cL_bears 78 = .ok (.d2i, 1) := by decide +kernel
theorem dL_bears_79 : decode cL_bears 79 = .ok (.ireturn, 1) := by decide +kernel
theorem dL_twice_0 : decode cL_twice 0 = .ok (.iconst 2, 1) := by decide +kernel
theorem dL_twice_1 : decode cL_twice 1 = .ok (.aload_n 0, 1) := by decide +kernel
theorem dL_twice_2 : decode cL_twice 2 = .ok (.iload_n 1, 1) := by decide +kernel
theorem dL_twice_3 : decode cL_twice 3 = .ok (.iaload, 1) := by decide +kernel
theorem dL_twice_4 : decode cL_twice 4 = .ok (.imul, 1) := by decide +kernel
theorem dL_twice_5 : decode cL_twice 5 = .ok (.aload_n 0, 1) := by decide +kernel
theorem dL_twice_6 : decode cL_twice 6 = .ok (.bipush 8, 2) := by decide +kernel
theorem dL_twice_8 : decode cL_twice 8 = .ok (.iload_n 1, 1) := by decide +kernel
theorem dL_twice_9 : decode cL_twice 9 = .ok (.iadd, 1) := by decide +kernel
theorem dL_twice_10 : decode cL_twice 10 = .ok (.iaload, 1) := by decide +kernel
theorem dL_twice_11 : decode cL_twice 11 = .ok (.iadd, 1) := by decide +kernel
theorem dL_twice_12 : decode cL_twice 12 = .ok (.ireturn, 1) := by decide +kernel
theorem dL_speed_0 : decode cL_speed 0 = .ok (.aload_n 0, 1) := by decide +kernel
theorem dL_speed_1 : decode cL_speed 1 = .ok (.iload 4, 2) := by decide +kernel
theorem dL_speed_3 : decode cL_speed 3 = .ok (.iaload, 1) := by decide +kernel
theorem dL_speed_4 : decode cL_speed 4 = .ok (.bipush 64, 2) := by decide +kernel
theorem dL_speed_6 : decode cL_speed 6 = .ok (.idiv, 1) := by decide +kernel
theorem dL_speed_7 : decode cL_speed 7 = .ok (.istore 5, 2) := by decide +kernel
theorem dL_speed_9 : decode cL_speed 9 = .ok (.aload_n 2, 1) := by decide +kernel
theorem dL_speed_10 : decode cL_speed 10 = .ok (.bipush 24, 2) := by decide +kernel
theorem dL_speed_12 : decode cL_speed 12 = .ok (.iload_n 3, 1) := by decide +kernel
theorem dL_speed_13 : decode cL_speed 13 = .ok (.iadd, 1) := by decide +kernel
theorem dL_speed_14 : decode cL_speed 14 = .ok (.iaload, 1) := by decide +kernel
theorem dL_speed_15 : decode cL_speed 15 = .ok (.iload 5, 2) := by decide +kernel
theorem dL_speed_17 : decode cL_speed 17 = .ok (.if_icmp .ge 12, 3) := by decide +kernel
theorem dL_speed_20 : decode cL_speed 20 = .ok (.aload_n 2, 1) := by decide +kernel
theorem dL_speed_21 : decode cL_speed 21 = .ok (.bipush 24, 2) := by decide +kernel
theorem dL_speed_23 : decode cL_speed 23 = .ok (.iload_n 3, 1) := by decide +kernel
theorem dL_speed_24 : decode cL_speed 24 = .ok (.iadd, 1) := by decide +kernel
theorem dL_speed_25 : decode cL_speed 25 = .ok (.iaload, 1) := by decide +kernel
theorem dL_speed_26 : decode cL_speed 26 = .ok (.goto 5, 3) := by decide +kernel
theorem dL_speed_29 : decode cL_speed 29 = .ok (.iload 5, 2) := by decide +kernel
theorem dL_speed_31 : decode cL_speed 31 = .ok (.istore 6, 2) := by decide +kernel
theorem dL_speed_33 : decode cL_speed 33 = .ok (.aload_n 1, 1) := by decide +kernel
theorem dL_speed_34 : decode cL_speed 34 = .ok (.bipush 8, 2) := by decide +kernel
theorem dL_speed_36 : decode cL_speed 36 = .ok (.iload 4, 2) := by decide +kernel
theorem dL_speed_38 : decode cL_speed 38 = .ok (.iadd, 1) := by decide +kernel
theorem dL_speed_39 : decode cL_speed 39 = .ok (.iaload, 1) := by decide +kernel
theorem dL_speed_40 : decode cL_speed 40 = .ok (.istore 7, 2) := by decide +kernel
theorem dL_speed_42 : decode cL_speed 42 = .ok (.aload_n 0, 1) := by decide +kernel
theorem dL_speed_43 : decode cL_speed 43 = .ok (.iload 4, 2) := by decide +kernel
theorem dL_speed_45 : decode cL_speed 45 = .ok (.iaload, 1) := by decide +kernel
theorem dL_speed_46 : decode cL_speed 46 = .ok (.iconst 4, 1) := by decide +kernel
theorem dL_speed_47 : decode cL_speed 47 = .ok (.irem, 1) := by decide +kernel
theorem dL_speed_48 : decode cL_speed 48 = .ok (.iconst 2, 1) := by decide +kernel
theorem dL_speed_49 : decode cL_speed 49 = .ok (.if_icmp .ge 41, 3) := by decide +kernel
theorem dL_speed_52 : decode cL_speed 52 = .ok (.iload 6, 2) := by decide +kernel
theorem dL_speed_54 : decode cL_speed 54 = .ok (.iload 6, 2) := by decide +kernel
theorem dL_speed_56 : decode cL_speed 56 = .ok (.imul, 1) := by decide +kernel
theorem dL_speed_57 : decode cL_speed 57 = .ok (.i2d, 1) := by decide +kernel
theorem dL_speed_58 : decode cL_speed 58 = .ok (.ldc2_w 90, 3) := by decide +kernel
theorem dL_speed_61 : decode cL_speed 61 = .ok (.iload 7, 2) := by decide +kernel
theorem dL_speed_63 : decode cL_speed 63 = .ok (.i2d, 1) := by decide +kernel
theorem dL_speed_64 : decode cL_speed 64 = .ok (.dmul, 1) := by decide +kernel
theorem dL_speed_65 : decode cL_speed 65 = .ok (.dcmp .l, 1) := by decide +kernel
theorem dL_speed_66 : decode cL_speed 66 = .ok (.ifCond .le 24, 3) := by decide +kernel
theorem dL_speed_69 : decode cL_speed 69 = .ok (.iload 6, 2) := by decide +kernel
theorem dL_speed_71 : decode cL_speed 71 = .ok (.iload 6, 2) := by decide +kernel
theorem dL_speed_73 : decode cL_speed 73 = .ok (.imul, 1) := by decide +kernel
theorem dL_speed_74 : decode cL_speed 74 = .ok (.i2d, 1) := by decide +kernel
theorem dL_speed_75 : decode cL_speed 75 = .ok (.ldc2_w 92, 3) := by decide +kernel
theorem dL_speed_78 : decode cL_speed 78 = .ok (.iload 7, 2) := by decide +kernel
theorem dL_speed_80 : decode cL_speed 80 = .ok (.i2d, 1) := by decide +kernel
theorem dL_speed_81 : decode cL_speed 81 = .ok (.dmul, 1) := by decide +kernel
theorem dL_speed_82 : decode cL_speed 82 = .ok (.dcmp .g, 1) := by decide +kernel
theorem dL_speed_83 : decode cL_speed 83 = .ok (.ifCond .ge 7, 3) := by decide +kernel
theorem dL_speed_86 : decode cL_speed 86 = .ok (.iconst 1, 1) := by decide +kernel
theorem dL_speed_87 : decode cL_speed 87 = .ok (.goto 4, 3) := by decide +kernel
theorem dL_speed_90 : decode cL_speed 90 = .ok (.iconst 0, 1) := by decide +kernel
theorem dL_speed_91 : decode cL_speed 91 = .ok (.istore 8, 2) := by decide +kernel
theorem dL_speed_93 : decode cL_speed 93 = .ok (.iconst 0, 1) := by decide +kernel
theorem dL_speed_94 : decode cL_speed 94 = .ok (.istore 9, 2) := by decide +kernel
theorem dL_speed_96 : decode cL_speed 96 = .ok (.iload 8, 2) := by decide +kernel
theorem dL_speed_98 : decode cL_speed 98 = .ok (.ifCond .eq 30, 3) := by decide +kernel
theorem dL_speed_101 : decode cL_speed 101 = .ok (.iload 9, 2) := by decide +kernel
theorem dL_speed_103 : decode cL_speed 103 = .ok (.iconst 1, 1) := by decide +kernel
theorem dL_speed_104 : decode cL_speed 104 = .ok (.iadd, 1) := by decide +kernel
theorem dL_speed_105 : decode cL_speed 105 = .ok (.iload 9, 2) := by decide +kernel
theorem dL_speed_107 : decode cL_speed 107 = .ok (.iconst 1, 1) := by decide +kernel
theorem dL_speed_108 : decode cL_speed 108 = .ok (.iadd, 1) := by decide +kernel
theorem dL_speed_109 : decode cL_speed 109 = .ok (.imul, 1) := by decide +kernel
theorem dL_speed_110 : decode cL_speed 110 = .ok (.i2d, 1) := by decide +kernel
theorem dL_speed_111 : decode cL_speed 111 = .ok (.ldc2_w 90, 3) := by decide +kernel
theorem dL_speed_114 : decode cL_speed 114 = .ok (.iload 7, 2) := by decide +kernel
theorem dL_speed_116 : decode cL_speed 116 = .ok (.i2d, 1) := by decide +kernel
theorem dL_speed_117 : decode cL_speed 117 = .ok (.dmul, 1) := by decide +kernel
theorem dL_speed_118 : decode cL_speed 118 = .ok (.dcmp .g, 1) := by decide +kernel
theorem dL_speed_119 : decode cL_speed 119 = .ok (.ifCond .gt 9, 3) := by decide +kernel
theorem dL_speed_122 : decode cL_speed 122 = .ok (.iinc 9 1, 3) := by decide +kernel
theorem dL_speed_125 : decode cL_speed 125 = .ok (.goto (-29), 3) := by decide +kernel
theorem dL_speed_128 : decode cL_speed 128 = .ok (.iload 8, 2) := by decide +kernel
theorem dL_speed_130 : decode cL_speed 130 = .ok (.ifCond .eq 8, 3) := by decide +kernel
theorem dL_speed_133 : decode cL_speed 133 = .ok (.iload 9, 2) := by decide +kernel
theorem dL_speed_135 : decode cL_speed 135 = .ok (.goto 5, 3) := by decide +kernel
theorem dL_speed_138 : decode cL_speed 138 = .ok (.iload 6, 2) := by decide +kernel
theorem dL_speed_140 : decode cL_speed 140 = .ok (.ireturn, 1) := by decide +kernel
theorem dL_minutes_0 : decode cL_minutes 0 = .ok (.bipush 6, 2) := by decide +kernel
theorem dL_minutes_2 : decode cL_minutes 2 = .ok (.aload_n 0, 1) := by decide +kernel
theorem dL_minutes_3 : decode cL_minutes 3 = .ok (.aload_n 1, 1) := by decide +kernel
theorem dL_minutes_4 : decode cL_minutes 4 = .ok (.aload_n 2, 1) := by decide +kernel
theorem dL_minutes_5 : decode cL_minutes 5 = .ok (.iload_n 3, 1) := by decide +kernel
theorem dL_minutes_6 : decode cL_minutes 6 = .ok (.iload 4, 2) := by decide +kernel
theorem dL_minutes_8 : decode cL_minutes 8 = .ok (.invokestatic 94, 3) := by decide +kernel
theorem dL_minutes_11 : decode cL_minutes 11 = .ok (.imul, 1) := by decide +kernel
theorem dL_minutes_12 : decode cL_minutes 12 = .ok (.istore 5, 2) := by decide +kernel
theorem dL_minutes_14 : decode cL_minutes 14 = .ok (.aload_n 1, 1) := by decide +kernel
theorem dL_minutes_15 : decode cL_minutes 15 = .ok (.iload 4, 2) := by decide +kernel
theorem dL_minutes_17 : decode cL_minutes 17 = .ok (.iaload, 1) := by decide +kernel
theorem dL_minutes_18 : decode cL_minutes 18 = .ok (.iload 5, 2) := by decide +kernel
theorem dL_minutes_20 : decode cL_minutes 20 = .ok (.idiv, 1) := by decide +kernel
theorem dL_minutes_21 : decode cL_minutes 21 = .ok (.aload_n 1, 1) := by decide +kernel
theorem dL_minutes_22 : decode cL_minutes 22 = .ok (.iload 4, 2) := by decide +kernel
theorem dL_minutes_24 : decode cL_minutes 24 = .ok (.iaload, 1) := by decide +kernel
theorem dL_minutes_25 : decode cL_minutes 25 = .ok (.iload 5, 2) := by decide +kernel
theorem dL_minutes_27 : decode cL_minutes 27 = .ok (.irem, 1) := by decide +kernel
theorem dL_minutes_28 : decode cL_minutes 28 = .ok (.ifCond .le 7, 3) := by decide +kernel
theorem dL_minutes_31 : decode cL_minutes 31 = .ok (.iconst 1, 1) := by decide +kernel
theorem dL_minutes_32 : decode cL_minutes 32 = .ok (.goto 4, 3) := by decide +kernel
theorem dL_minutes_35 : decode cL_minutes 35 = .ok (.iconst 0, 1) := by decide +kernel
theorem dL_minutes_36 : decode cL_minutes 36 = .ok (.iadd, 1) := by decide +kernel
theorem dL_minutes_37 : decode cL_minutes 37 = .ok (.ireturn, 1) := by decide +kernel
theorem dL_weights_0 : decode cL_weights 0 = .ok (.iconst 0, 1) := by decide +kernel
theorem dL_weights_1 : decode cL_weights 1 = .ok (.istore 4, 2) := by decide +kernel
theorem dL_weights_3 : decode cL_weights 3 = .ok (.iconst 0, 1) := by decide +kernel
theorem dL_weights_4 : decode cL_weights 4 = .ok (.istore 5, 2) := by decide +kernel
theorem dL_weights_6 : decode cL_weights 6 = .ok (.iload 5, 2) := by decide +kernel
theorem dL_weights_8 : decode cL_weights 8 = .ok (.aload_n 2, 1) := by decide +kernel
theorem dL_weights_9 : decode cL_weights 9 = .ok (.iconst 4, 1) := by decide +kernel
theorem dL_weights_10 : decode cL_weights 10 = .ok (.iaload, 1) := by decide +kernel
theorem dL_weights_11 : decode cL_weights 11 = .ok (.if_icmp .ge 55, 3) := by decide +kernel
theorem dL_weights_14 : decode cL_weights 14 = .ok (.iload 4, 2) := by decide +kernel
theorem dL_weights_16 : decode cL_weights 16 = .ok (.aload_n 0, 1) := by decide +kernel
theorem dL_weights_17 : decode cL_weights 17 = .ok (.iload 5, 2) := by decide +kernel
theorem dL_weights_19 : decode cL_weights 19 = .ok (.iaload, 1) := by decide +kernel
theorem dL_weights_20 : decode cL_weights 20 = .ok (.bipush 8, 2) := by decide +kernel
theorem dL_weights_22 : decode cL_weights 22 = .ok (.irem, 1) := by decide +kernel
theorem dL_weights_23 : decode cL_weights 23 = .ok (.iconst 1, 1) := by decide +kernel
theorem dL_weights_24 : decode cL_weights 24 = .ok (.if_icmp .ne 32, 3) := by decide +kernel
theorem dL_weights_27 : decode cL_weights 27 = .ok (.aload_n 0, 1) := by decide +kernel
theorem dL_weights_28 : decode cL_weights 28 = .ok (.iload 5, 2) := by decide +kernel
theorem dL_weights_30 : decode cL_weights 30 = .ok (.iaload, 1) := by decide +kernel
theorem dL_weights_31 : decode cL_weights 31 = .ok (.bipush 8, 2) := by decide +kernel
theorem dL_weights_33 : decode cL_weights 33 = .ok (.idiv, 1) := by decide +kernel
theorem dL_weights_34 : decode cL_weights 34 = .ok (.bipush 16, 2) := by decide +kernel
theorem dL_weights_36 : decode cL_weights 36 = .ok (.irem, 1) := by decide +kernel
theorem dL_weights_37 : decode cL_weights 37 = .ok (.iload_n 3, 1) := by decide +kernel
theorem dL_weights_38 : decode cL_weights 38 = .ok (.if_icmp .ne 18, 3) := by decide +kernel
theorem dL_weights_41 : decode cL_weights 41 = .ok (.aload_n 1, 1) := by decide +kernel
theorem dL_weights_42 : decode cL_weights 42 = .ok (.iload 5, 2) := by decide +kernel
theorem dL_weights_44 : decode cL_weights 44 = .ok (.iaload, 1) := by decide +kernel
theorem dL_weights_45 : decode cL_weights 45 = .ok (.aload_n 1, 1) := by decide +kernel
theorem dL_weights_46 : decode cL_weights 46 = .ok (.bipush 8, 2) := by decide +kernel
theorem dL_weights_48 : decode cL_weights 48 = .ok (.iload 5, 2) := by decide +kernel
theorem dL_weights_50 : decode cL_weights 50 = .ok (.iadd, 1) := by decide +kernel
theorem dL_weights_51 : decode cL_weights 51 = .ok (.iaload, 1) := by decide +kernel
theorem dL_weights_52 : decode cL_weights 52 = .ok (.iadd, 1) := by decide +kernel
theorem dL_weights_53 : decode cL_weights 53 = .ok (.goto 4, 3) := by decide +kernel
theorem dL_weights_56 : decode cL_weights 56 = .ok (.iconst 0, 1) := by decide +kernel
theorem dL_weights_57 : decode cL_weights 57 = .ok (.iadd, 1) := by decide +kernel
theorem dL_weights_58 : decode cL_weights 58 = .ok (.istore 4, 2) := by decide +kernel
theorem dL_weights_60 : decode cL_weights 60 = .ok (.iinc 5 1, 3) := by decide +kernel
theorem dL_weights_63 : decode cL_weights 63 = .ok (.goto (-57), 3) := by decide +kernel
theorem dL_weights_66 : decode cL_weights 66 = .ok (.iload 4, 2) := by decide +kernel
theorem dL_weights_68 : decode cL_weights 68 = .ok (.ireturn, 1) := by decide +kernel
theorem dL_why_0 : decode cL_why 0 = .ok (.aload_n 2, 1) := by decide +kernel
theorem dL_why_1 : decode cL_why 1 = .ok (.iload 5, 2) := by decide +kernel
theorem dL_why_3 : decode cL_why 3 = .ok (.iaload, 1) := by decide +kernel
theorem dL_why_4 : decode cL_why 4 = .ok (.bipush 8, 2) := by decide +kernel
theorem dL_why_6 : decode cL_why 6 = .ok (.irem, 1) := by decide +kernel
theorem dL_why_7 : decode cL_why 7 = .ok (.iconst 2, 1) := by decide +kernel
theorem dL_why_8 : decode cL_why 8 = .ok (.if_icmp .eq 5, 3) := by decide +kernel
theorem dL_why_11 : decode cL_why 11 = .ok (.iconst (-1), 1) := by decide +kernel
theorem dL_why_12 : decode cL_why 12 = .ok (.ireturn, 1) := by decide +kernel
theorem dL_why_13 : decode cL_why 13 = .ok (.aload_n 2, 1) := by decide +kernel
theorem dL_why_14 : decode cL_why 14 = .ok (.iload 5, 2) := by decide +kernel
theorem dL_why_16 : decode cL_why 16 = .ok (.iaload, 1) := by decide +kernel
theorem dL_why_17 : decode cL_why 17 = .ok (.sipush 128, 3) := by decide +kernel
theorem dL_why_20 : decode cL_why 20 = .ok (.idiv, 1) := by decide +kernel
theorem dL_why_21 : decode cL_why 21 = .ok (.iconst 2, 1) := by decide +kernel
theorem dL_why_22 : decode cL_why 22 = .ok (.irem, 1) := by decide +kernel
theorem dL_why_23 : decode cL_why 23 = .ok (.istore 6, 2) := by decide +kernel
theorem dL_why_25 : decode cL_why 25 = .ok (.aload_n 2, 1) := by decide +kernel
theorem dL_why_26 : decode cL_why 26 = .ok (.iload 5, 2) := by decide +kernel
theorem dL_why_28 : decode cL_why 28 = .ok (.iaload, 1) := by decide +kernel
theorem dL_why_29 : decode cL_why 29 = .ok (.bipush 8, 2) := by decide +kernel
theorem dL_why_31 : decode cL_why 31 = .ok (.idiv, 1) := by decide +kernel
theorem dL_why_32 : decode cL_why 32 = .ok (.bipush 16, 2) := by decide +kernel
theorem dL_why_34 : decode cL_why 34 = .ok (.irem, 1) := by decide +kernel
theorem dL_why_35 : decode cL_why 35 = .ok (.iconst 1, 1) := by decide +kernel
theorem dL_why_36 : decode cL_why 36 = .ok (.isub, 1) := by decide +kernel
theorem dL_why_37 : decode cL_why 37 = .ok (.iload 6, 2) := by decide +kernel
theorem dL_why_39 : decode cL_why 39 = .ok (.iadd, 1) := by decide +kernel
theorem dL_why_40 : decode cL_why 40 = .ok (.istore 7, 2) := by decide +kernel
theorem dL_why_42 : decode cL_why 42 = .ok (.aload_n 1, 1) := by decide +kernel
theorem dL_why_43 : decode cL_why 43 = .ok (.iload 7, 2) := by decide +kernel
theorem dL_why_45 : decode cL_why 45 = .ok (.iaload, 1) := by decide +kernel
theorem dL_why_46 : decode cL_why 46 = .ok (.bipush 16, 2) := by decide +kernel
theorem dL_why_48 : decode cL_why 48 = .ok (.idiv, 1) := by decide +kernel
theorem dL_why_49 : decode cL_why 49 = .ok (.iconst 4, 1) := by decide +kernel
theorem dL_why_50 : decode cL_why 50 = .ok (.irem, 1) := by decide +kernel
theorem dL_why_51 : decode cL_why 51 = .ok (.istore 8, 2) := by decide +kernel
theorem dL_why_53 : decode cL_why 53 = .ok (.aload_n 3, 1) := by decide +kernel
theorem dL_why_54 : decode cL_why 54 = .ok (.iload 5, 2) := by decide +kernel
theorem dL_why_56 : decode cL_why 56 = .ok (.iaload, 1) := by decide +kernel
theorem dL_why_57 : decode cL_why 57 = .ok (.aload_n 3, 1) := by decide +kernel
theorem dL_why_58 : decode cL_why 58 = .ok (.bipush 8, 2) := by decide +kernel
theorem dL_why_60 : decode cL_why 60 = .ok (.iload 5, 2) := by decide +kernel
theorem dL_why_62 : decode cL_why 62 = .ok (.iadd, 1) := by decide +kernel
theorem dL_why_63 : decode cL_why 63 = .ok (.iaload, 1) := by decide +kernel
theorem dL_why_64 : decode cL_why 64 = .ok (.iadd, 1) := by decide +kernel
theorem dL_why_65 : decode cL_why 65 = .ok (.istore 9, 2) := by decide +kernel
theorem dL_why_67 : decode cL_why 67 = .ok (.aload_n 1, 1) := by decide +kernel
theorem dL_why_68 : decode cL_why 68 = .ok (.iload 7, 2) := by decide +kernel
theorem dL_why_70 : decode cL_why 70 = .ok (.iaload, 1) := by decide +kernel
theorem dL_why_71 : decode cL_why 71 = .ok (.iconst 4, 1) := by decide +kernel
theorem dL_why_72 : decode cL_why 72 = .ok (.irem, 1) := by decide +kernel
theorem dL_why_73 : decode cL_why 73 = .ok (.istore 10, 2) := by decide +kernel
theorem dL_why_75 : decode cL_why 75 = .ok (.iload 8, 2) := by decide +kernel
theorem dL_why_77 : decode cL_why 77 = .ok (.ifCond .ne 5, 3) := by decide +kernel
theorem dL_why_80 : decode cL_why 80 = .ok (.iconst 1, 1) := by decide +kernel
theorem dL_why_81 : decode cL_why 81 = .ok (.ireturn, 1) := by decide +kernel
theorem dL_why_82 : decode cL_why 82 = .ok (.iload 10, 2) := by decide +kernel
theorem dL_why_84 : decode cL_why 84 = .ok (.iconst 2, 1) := by decide +kernel
theorem dL_why_85 : decode cL_why 85 = .ok (.if_icmp .ge 40, 3) := by decide +kernel
theorem dL_why_88 : decode cL_why 88 = .ok (.aload 4, 2) := by decide +kernel
theorem dL_why_90 : decode cL_why 90 = .ok (.iconst 1, 1) := by decide +kernel
theorem dL_why_91 : decode cL_why 91 = .ok (.iaload, 1) := by decide +kernel
theorem dL_why_92 : decode cL_why 92 = .ok (.ifCond .ge 33, 3) := by decide +kernel
theorem dL_why_95 : decode cL_why 95 = .ok (.aload 4, 2) := by decide +kernel
theorem dL_why_97 : decode cL_why 97 = .ok (.iconst 0, 1) := by decide +kernel
theorem dL_why_98 : decode cL_why 98 = .ok (.iaload, 1) := by decide +kernel
theorem dL_why_99 : decode cL_why 99 = .ok (.sipush 1440, 3) := by decide +kernel
theorem dL_why_102 : decode cL_why 102 = .ok (.irem, 1) := by decide +kernel
theorem dL_why_103 : decode cL_why 103 = .ok (.sipush 479, 3) := by decide +kernel
theorem dL_why_106 : decode cL_why 106 = .ok (.if_icmp .le 19, 3) := by decide +kernel
theorem dL_why_109 : decode cL_why 109 = .ok (.aload 4, 2) := by decide +kernel
theorem dL_why_111 : decode cL_why 111 = .ok (.iconst 0, 1) := by decide +kernel
theorem dL_why_112 : decode cL_why 112 = .ok (.iaload, 1) := by decide +kernel
theorem dL_why_113 : decode cL_why 113 = .ok (.sipush 1440, 3) := by decide +kernel
theorem dL_why_116 : decode cL_why 116 = .ok (.irem, 1) := by decide +kernel
theorem dL_why_117 : decode cL_why 117 = .ok (.sipush 1200, 3) := by decide +kernel
theorem dL_why_120 : decode cL_why 120 = .ok (.if_icmp .ge 5, 3) := by decide +kernel
theorem dL_why_123 : decode cL_why 123 = .ok (.iconst 2, 1) := by decide +kernel
theorem dL_why_124 : decode cL_why 124 = .ok (.ireturn, 1) := by decide +kernel
theorem dL_why_125 : decode cL_why 125 = .ok (.iload 8, 2) := by decide +kernel
theorem dL_why_127 : decode cL_why 127 = .ok (.iconst 1, 1) := by decide +kernel
theorem dL_why_128 : decode cL_why 128 = .ok (.if_icmp .ne 11, 3) := by decide +kernel
theorem dL_why_131 : decode cL_why 131 = .ok (.iload 9, 2) := by decide +kernel
theorem dL_why_133 : decode cL_why 133 = .ok (.sipush 5000, 3) := by decide +kernel
theorem dL_why_136 : decode cL_why 136 = .ok (.if_icmp .gt 28, 3) := by decide +kernel
theorem dL_why_139 : decode cL_why 139 = .ok (.aload 4, 2) := by decide +kernel
theorem dL_why_141 : decode cL_why 141 = .ok (.iconst 0, 1) := by decide +kernel
theorem dL_why_142 : decode cL_why 142 = .ok (.iaload, 1) := by decide +kernel
theorem dL_why_143 : decode cL_why 143 = .ok (.aload_n 0, 1) := by decide +kernel
theorem dL_why_144 : decode cL_why 144 = .ok (.bipush 40, 2) := by decide +kernel
theorem dL_why_146 : decode cL_why 146 = .ok (.bipush 8, 2) := by decide +kernel
theorem dL_why_148 : decode cL_why 148 = .ok (.iload 6, 2) := by decide +kernel
theorem dL_why_150 : decode cL_why 150 = .ok (.imul, 1) := by decide +kernel
theorem dL_why_151 : decode cL_why 151 = .ok (.iadd, 1) := by decide +kernel
theorem dL_why_152 : decode cL_why 152 = .ok (.iload 7, 2) := by decide +kernel
theorem dL_why_154 : decode cL_why 154 = .ok (.iadd, 1) := by decide +kernel
theorem dL_why_155 : decode cL_why 155 = .ok (.iaload, 1) := by decide +kernel
theorem dL_why_156 : decode cL_why 156 = .ok (.isub, 1) := by decide +kernel
theorem dL_why_157 : decode cL_why 157 = .ok (.aload 4, 2) := by decide +kernel
theorem dL_why_159 : decode cL_why 159 = .ok (.iconst 2, 1) := by decide +kernel
theorem dL_why_160 : decode cL_why 160 = .ok (.iaload, 1) := by decide +kernel
theorem dL_why_161 : decode cL_why 161 = .ok (.if_icmp .ge 23, 3) := by decide +kernel
theorem dL_why_164 : decode cL_why 164 = .ok (.iload 8, 2) := by decide +kernel
theorem dL_why_166 : decode cL_why 166 = .ok (.iconst 1, 1) := by decide +kernel
theorem dL_why_167 : decode cL_why 167 = .ok (.if_icmp .ne 15, 3) := by decide +kernel
theorem dL_why_170 : decode cL_why 170 = .ok (.iload 9, 2) := by decide +kernel
theorem dL_why_172 : decode cL_why 172 = .ok (.sipush 5000, 3) := by decide +kernel
theorem dL_why_175 : decode cL_why 175 = .ok (.if_icmp .le 7, 3) := by decide +kernel
theorem dL_why_178 : decode cL_why 178 = .ok (.iconst 3, 1) := by decide +kernel
theorem dL_why_179 : decode cL_why 179 = .ok (.goto 4, 3) := by decide +kernel
theorem dL_why_182 : decode cL_why 182 = .ok (.iconst 4, 1) := by decide +kernel
theorem dL_why_183 : decode cL_why 183 = .ok (.ireturn, 1) := by decide +kernel
theorem dL_why_184 : decode cL_why 184 = .ok (.iconst 0, 1) := by decide +kernel
theorem dL_why_185 : decode cL_why 185 = .ok (.istore 11, 2) := by decide +kernel
theorem dL_why_187 : decode cL_why 187 = .ok (.iconst 0, 1) := by decide +kernel
theorem dL_why_188 : decode cL_why 188 = .ok (.istore 12, 2) := by decide +kernel
theorem dL_why_190 : decode cL_why 190 = .ok (.iload 12, 2) := by decide +kernel
theorem dL_why_192 : decode cL_why 192 = .ok (.aload 4, 2) := by decide +kernel
theorem dL_why_194 : decode cL_why 194 = .ok (.iconst 4, 1) := by decide +kernel
theorem dL_why_195 : decode cL_why 195 = .ok (.iaload, 1) := by decide +kernel
theorem dL_why_196 : decode cL_why 196 = .ok (.if_icmp .ge 62, 3) := by decide +kernel
theorem dL_why_199 : decode cL_why 199 = .ok (.iload 11, 2) := by decide +kernel
theorem dL_why_201 : decode cL_why 201 = .ok (.ifCond .ne 44, 3) := by decide +kernel
theorem dL_why_204 : decode cL_why 204 = .ok (.aload_n 2, 1) := by decide +kernel
theorem dL_why_205 : decode cL_why 205 = .ok (.iload 12, 2) := by decide +kernel
theorem dL_why_207 : decode cL_why 207 = .ok (.iaload, 1) := by decide +kernel
theorem dL_why_208 : decode cL_why 208 = .ok (.bipush 8, 2) := by decide +kernel
theorem dL_why_210 : decode cL_why 210 = .ok (.irem, 1) := by decide +kernel
theorem dL_why_211 : decode cL_why 211 = .ok (.iconst 1, 1) := by decide +kernel
theorem dL_why_212 : decode cL_why 212 = .ok (.if_icmp .ne 37, 3) := by decide +kernel
theorem dL_why_215 : decode cL_why 215 = .ok (.aload_n 2, 1) := by decide +kernel
theorem dL_why_216 : decode cL_why 216 = .ok (.iload 12, 2) := by decide +kernel
theorem dL_why_218 : decode cL_why 218 = .ok (.iaload, 1) := by decide +kernel
theorem dL_why_219 : decode cL_why 219 = .ok (.bipush 8, 2) := by decide +kernel
theorem dL_why_221 : decode cL_why 221 = .ok (.idiv, 1) := by decide +kernel
theorem dL_why_222 : decode cL_why 222 = .ok (.bipush 16, 2) := by decide +kernel
theorem dL_why_224 : decode cL_why 224 = .ok (.irem, 1) := by decide +kernel
theorem dL_why_225 : decode cL_why 225 = .ok (.iload 7, 2) := by decide +kernel
theorem dL_why_227 : decode cL_why 227 = .ok (.if_icmp .ne 22, 3) := by decide +kernel
theorem dL_why_230 : decode cL_why 230 = .ok (.aload_n 2, 1) := by decide +kernel
theorem dL_why_231 : decode cL_why 231 = .ok (.iload 12, 2) := by decide +kernel
theorem dL_why_233 : decode cL_why 233 = .ok (.iaload, 1) := by decide +kernel
theorem dL_why_234 : decode cL_why 234 = .ok (.sipush 128, 3) := by decide +kernel
theorem dL_why_237 : decode cL_why 237 = .ok (.idiv, 1) := by decide +kernel
theorem dL_why_238 : decode cL_why 238 = .ok (.iconst 2, 1) := by decide +kernel
theorem dL_why_239 : decode cL_why 239 = .ok (.irem, 1) := by decide +kernel
theorem dL_why_240 : decode cL_why 240 = .ok (.iload 6, 2) := by decide +kernel
theorem dL_why_242 : decode cL_why 242 = .ok (.if_icmp .eq 7, 3) := by decide +kernel
theorem dL_why_245 : decode cL_why 245 = .ok (.iconst 1, 1) := by decide +kernel
theorem dL_why_246 : decode cL_why 246 = .ok (.goto 4, 3) := by decide +kernel
theorem dL_why_249 : decode cL_why 249 = .ok (.iconst 0, 1) := by decide +kernel
theorem dL_why_250 : decode cL_why 250 = .ok (.istore 11, 2) := by decide +kernel
theorem dL_why_252 : decode cL_why 252 = .ok (.iinc 12 1, 3) := by decide +kernel
theorem dL_why_255 : decode cL_why 255 = .ok (.goto (-65), 3) := by decide +kernel
theorem dL_why_258 : decode cL_why 258 = .ok (.iload 10, 2) := by decide +kernel
theorem dL_why_260 : decode cL_why 260 = .ok (.ifCond .le 12, 3) := by decide +kernel
theorem dL_why_263 : decode cL_why 263 = .ok (.iload 11, 2) := by decide +kernel
theorem dL_why_265 : decode cL_why 265 = .ok (.ifCond .eq 7, 3) := by decide +kernel
theorem dL_why_268 : decode cL_why 268 = .ok (.iconst 5, 1) := by decide +kernel
theorem dL_why_269 : decode cL_why 269 = .ok (.goto 38, 3) := by decide +kernel
theorem dL_why_272 : decode cL_why 272 = .ok (.iload 9, 2) := by decide +kernel
theorem dL_why_274 : decode cL_why 274 = .ok (.aload_n 2, 1) := by decide +kernel
theorem dL_why_275 : decode cL_why 275 = .ok (.aload_n 3, 1) := by decide +kernel
theorem dL_why_276 : decode cL_why 276 = .ok (.aload 4, 2) := by decide +kernel
theorem dL_why_278 : decode cL_why 278 = .ok (.iload 7, 2) := by decide +kernel
theorem dL_why_280 : decode cL_why 280 = .ok (.invokestatic 100, 3) := by decide +kernel
theorem dL_why_283 : decode cL_why 283 = .ok (.iadd, 1) := by decide +kernel
theorem dL_why_284 : decode cL_why 284 = .ok (.aload_n 0, 1) := by decide +kernel
theorem dL_why_285 : decode cL_why 285 = .ok (.aload_n 1, 1) := by decide +kernel
theorem dL_why_286 : decode cL_why 286 = .ok (.iload 7, 2) := by decide +kernel
theorem dL_why_288 : decode cL_why 288 = .ok (.aload_n 0, 1) := by decide +kernel
theorem dL_why_289 : decode cL_why 289 = .ok (.bipush 32, 2) := by decide +kernel
theorem dL_why_291 : decode cL_why 291 = .ok (.iload 7, 2) := by decide +kernel
theorem dL_why_293 : decode cL_why 293 = .ok (.iadd, 1) := by decide +kernel
theorem dL_why_294 : decode cL_why 294 = .ok (.iaload, 1) := by decide +kernel
theorem dL_why_295 : decode cL_why 295 = .ok (.invokestatic 104, 3) := by decide +kernel
theorem dL_why_298 : decode cL_why 298 = .ok (.if_icmp .le 8, 3) := by decide +kernel
theorem dL_why_301 : decode cL_why 301 = .ok (.bipush 6, 2) := by decide +kernel
theorem dL_why_303 : decode cL_why 303 = .ok (.goto 4, 3) := by decide +kernel
theorem dL_why_306 : decode cL_why 306 = .ok (.iconst 0, 1) := by decide +kernel
theorem dL_why_307 : decode cL_why 307 = .ok (.ireturn, 1) := by decide +kernel
theorem dL_unloads_0 : decode cL_unloads 0 = .ok (.aload_n 0, 1) := by decide +kernel
theorem dL_unloads_1 : decode cL_unloads 1 = .ok (.iload_n 3, 1) := by decide +kernel
theorem dL_unloads_2 : decode cL_unloads 2 = .ok (.iaload, 1) := by decide +kernel
theorem dL_unloads_3 : decode cL_unloads 3 = .ok (.sipush 256, 3) := by decide +kernel
theorem dL_unloads_6 : decode cL_unloads 6 = .ok (.idiv, 1) := by decide +kernel
theorem dL_unloads_7 : decode cL_unloads 7 = .ok (.iconst 1, 1) := by decide +kernel
theorem dL_unloads_8 : decode cL_unloads 8 = .ok (.isub, 1) := by decide +kernel
theorem dL_unloads_9 : decode cL_unloads 9 = .ok (.istore 5, 2) := by decide +kernel
theorem dL_unloads_11 : decode cL_unloads 11 = .ok (.iload 5, 2) := by decide +kernel
theorem dL_unloads_13 : decode cL_unloads 13 = .ok (.ifCond .lt 43, 3) := by decide +kernel
theorem dL_unloads_16 : decode cL_unloads 16 = .ok (.aload_n 2, 1) := by decide +kernel
theorem dL_unloads_17 : decode cL_unloads 17 = .ok (.iload 4, 2) := by decide +kernel
theorem dL_unloads_19 : decode cL_unloads 19 = .ok (.ifCond .eq 10, 3) := by decide +kernel
theorem dL_unloads_22 : decode cL_unloads 22 = .ok (.iconst 3, 1) := by decide +kernel
theorem dL_unloads_23 : decode cL_unloads 23 = .ok (.iload 5, 2) := by decide +kernel
theorem dL_unloads_25 : decode cL_unloads 25 = .ok (.iadd, 1) := by decide +kernel
theorem dL_unloads_26 : decode cL_unloads 26 = .ok (.goto 5, 3) := by decide +kernel
theorem dL_unloads_29 : decode cL_unloads 29 = .ok (.iload 5, 2) := by decide +kernel
theorem dL_unloads_31 : decode cL_unloads 31 = .ok (.dup2, 1) := by decide +kernel
theorem dL_unloads_32 : decode cL_unloads 32 = .ok (.iaload, 1) := by decide +kernel
theorem dL_unloads_33 : decode cL_unloads 33 = .ok (.iload 4, 2) := by decide +kernel
theorem dL_unloads_35 : decode cL_unloads 35 = .ok (.ifCond .eq 12, 3) := by decide +kernel
theorem dL_unloads_38 : decode cL_unloads 38 = .ok (.aload_n 1, 1) := by decide +kernel
theorem dL_unloads_39 : decode cL_unloads 39 = .ok (.bipush 8, 2) := by decide +kernel
theorem dL_unloads_41 : decode cL_unloads 41 = .ok (.iload_n 3, 1) := by decide +kernel
theorem dL_unloads_42 : decode cL_unloads 42 = .ok (.iadd, 1) := by decide +kernel
theorem dL_unloads_43 : decode cL_unloads 43 = .ok (.iaload, 1) := by decide +kernel
theorem dL_unloads_44 : decode cL_unloads 44 = .ok (.goto 10, 3) := by decide +kernel
theorem dL_unloads_47 : decode cL_unloads 47 = .ok (.aload_n 1, 1) := by decide +kernel
theorem dL_unloads_48 : decode cL_unloads 48 = .ok (.bipush 8, 2) := by decide +kernel
theorem dL_unloads_50 : decode cL_unloads 50 = .ok (.iload_n 3, 1) := by decide +kernel
theorem dL_unloads_51 : decode cL_unloads 51 = .ok (.iadd, 1) := by decide +kernel
theorem dL_unloads_52 : decode cL_unloads 52 = .ok (.iaload, 1) := by decide +kernel
theorem dL_unloads_53 : decode cL_unloads 53 = .ok (.ineg, 1) := by decide +kernel
theorem dL_unloads_54 : decode cL_unloads 54 = .ok (.iadd, 1) := by decide +kernel
theorem dL_unloads_55 : decode cL_unloads 55 = .ok (.iastore, 1) := by decide +kernel
theorem dL_unloads_56 : decode cL_unloads 56 = .ok (.aload_n 0, 1) := by decide +kernel
theorem dL_unloads_57 : decode cL_unloads 57 = .ok (.iload_n 3, 1) := by decide +kernel
theorem dL_unloads_58 : decode cL_unloads 58 = .ok (.dup2, 1) := by decide +kernel
theorem dL_unloads_59 : decode cL_unloads 59 = .ok (.iaload, 1) := by decide +kernel
theorem dL_unloads_60 : decode cL_unloads 60 = .ok (.sipush 256, 3) := by decide +kernel
theorem dL_unloads_63 : decode cL_unloads 63 = .ok (.irem, 1) := by decide +kernel
theorem dL_unloads_64 : decode cL_unloads 64 = .ok (.iastore, 1) := by decide +kernel
theorem dL_unloads_65 : decode cL_unloads 65 = .ok (.aload_n 1, 1) := by decide +kernel
theorem dL_unloads_66 : decode cL_unloads 66 = .ok (.bipush 8, 2) := by decide +kernel
theorem dL_unloads_68 : decode cL_unloads 68 = .ok (.iload_n 3, 1) := by decide +kernel
theorem dL_unloads_69 : decode cL_unloads 69 = .ok (.iadd, 1) := by decide +kernel
theorem dL_unloads_70 : decode cL_unloads 70 = .ok (.iconst 0, 1) := by decide +kernel
theorem dL_unloads_71 : decode cL_unloads 71 = .ok (.iastore, 1) := by decide +kernel
theorem dL_unloads_72 : decode cL_unloads 72 = .ok (.return_, 1) := by decide +kernel
theorem dL_ends_0 : decode cL_ends 0 = .ok (.iconst 0, 1) := by decide +kernel
theorem dL_ends_1 : decode cL_ends 1 = .ok (.istore_n 3, 1) := by decide +kernel
theorem dL_ends_2 : decode cL_ends 2 = .ok (.iload_n 3, 1) := by decide +kernel
theorem dL_ends_3 : decode cL_ends 3 = .ok (.aload_n 2, 1) := by decide +kernel
theorem dL_ends_4 : decode cL_ends 4 = .ok (.iconst 3, 1) := by decide +kernel
theorem dL_ends_5 : decode cL_ends 5 = .ok (.iaload, 1) := by decide +kernel
theorem dL_ends_6 : decode cL_ends 6 = .ok (.if_icmp .ge 376, 3) := by decide +kernel
theorem dL_ends_9 : decode cL_ends 9 = .ok (.aload_n 1, 1) := by decide +kernel
theorem dL_ends_10 : decode cL_ends 10 = .ok (.iload_n 3, 1) := by decide +kernel
theorem dL_ends_11 : decode cL_ends 11 = .ok (.iaload, 1) := by decide +kernel
theorem dL_ends_12 : decode cL_ends 12 = .ok (.iconst 4, 1) := by decide +kernel
theorem dL_ends_13 : decode cL_ends 13 = .ok (.idiv, 1) := by decide +kernel
theorem dL_ends_14 : decode cL_ends 14 = .ok (.iconst 4, 1) := by decide +kernel
theorem dL_ends_15 : decode cL_ends 15 = .ok (.irem, 1) := by decide +kernel
theorem dL_ends_16 : decode cL_ends 16 = .ok (.istore 4, 2) := by decide +kernel
theorem dL_ends_18 : decode cL_ends 18 = .ok (.aload_n 2, 1) := by decide +kernel
theorem dL_ends_19 : decode cL_ends 19 = .ok (.iconst 1, 1) := by decide +kernel
theorem dL_ends_20 : decode cL_ends 20 = .ok (.iaload, 1) := by decide +kernel
theorem dL_ends_21 : decode cL_ends 21 = .ok (.istore 5, 2) := by decide +kernel
theorem dL_ends_23 : decode cL_ends 23 = .ok (.iload 4, 2) := by decide +kernel
theorem dL_ends_25 : decode cL_ends 25 = .ok (.istore 6, 2) := by decide +kernel
theorem dL_ends_27 : decode cL_ends 27 = .ok (.iload 5, 2) := by decide +kernel
theorem dL_ends_29 : decode cL_ends 29 = .ok (.ifCond .le 183, 3) := by decide +kernel
theorem dL_ends_32 : decode cL_ends 32 = .ok (.aload_n 1, 1) := by decide +kernel
theorem dL_ends_33 : decode cL_ends 33 = .ok (.iload_n 3, 1) := by decide +kernel
theorem dL_ends_34 : decode cL_ends 34 = .ok (.iaload, 1) := by decide +kernel
theorem dL_ends_35 : decode cL_ends 35 = .ok (.iconst 4, 1) := by decide +kernel
theorem dL_ends_36 : decode cL_ends 36 = .ok (.irem, 1) := by decide +kernel
theorem dL_ends_37 : decode cL_ends 37 = .ok (.iconst 2, 1) := by decide +kernel
theorem dL_ends_38 : decode cL_ends 38 = .ok (.if_icmp .ge 174, 3) := by decide +kernel
theorem dL_ends_41 : decode cL_ends 41 = .ok (.aload_n 0, 1) := by decide +kernel
theorem dL_ends_42 : decode cL_ends 42 = .ok (.bipush 16, 2) := by decide +kernel
theorem dL_ends_44 : decode cL_ends 44 = .ok (.iload_n 3, 1) := by decide +kernel
theorem dL_ends_45 : decode cL_ends 45 = .ok (.iadd, 1) := by decide +kernel
theorem dL_ends_46 : decode cL_ends 46 = .ok (.iaload, 1) := by decide +kernel
theorem dL_ends_47 : decode cL_ends 47 = .ok (.iconst 2, 1) := by decide +kernel
theorem dL_ends_48 : decode cL_ends 48 = .ok (.iload 5, 2) := by decide +kernel
theorem dL_ends_50 : decode cL_ends 50 = .ok (.imul, 1) := by decide +kernel
theorem dL_ends_51 : decode cL_ends 51 = .ok (.if_icmp .ge 12, 3) := by decide +kernel
theorem dL_ends_54 : decode cL_ends 54 = .ok (.aload_n 0, 1) := by decide +kernel
theorem dL_ends_55 : decode cL_ends 55 = .ok (.bipush 16, 2) := by decide +kernel
theorem dL_ends_57 : decode cL_ends 57 = .ok (.iload_n 3, 1) := by decide +kernel
theorem dL_ends_58 : decode cL_ends 58 = .ok (.iadd, 1) := by decide +kernel
theorem dL_ends_59 : decode cL_ends 59 = .ok (.iaload, 1) := by decide +kernel
theorem dL_ends_60 : decode cL_ends 60 = .ok (.goto 7, 3) := by decide +kernel
theorem dL_ends_63 : decode cL_ends 63 = .ok (.iconst 2, 1) := by decide +kernel
theorem dL_ends_64 : decode cL_ends 64 = .ok (.iload 5, 2) := by decide +kernel
theorem dL_ends_66 : decode cL_ends 66 = .ok (.imul, 1) := by decide +kernel
theorem dL_ends_67 : decode cL_ends 67 = .ok (.istore 7, 2) := by decide +kernel
theorem dL_ends_69 : decode cL_ends 69 = .ok (.aload_n 0, 1) := by decide +kernel
theorem dL_ends_70 : decode cL_ends 70 = .ok (.bipush 16, 2) := by decide +kernel
theorem dL_ends_72 : decode cL_ends 72 = .ok (.iload_n 3, 1) := by decide +kernel
theorem dL_ends_73 : decode cL_ends 73 = .ok (.iadd, 1) := by decide +kernel
theorem dL_ends_74 : decode cL_ends 74 = .ok (.dup2, 1) := by decide +kernel
theorem dL_ends_75 : decode cL_ends 75 = .ok (.iaload, 1) := by decide +kernel
theorem dL_ends_76 : decode cL_ends 76 = .ok (.iload 7, 2) := by decide +kernel
theorem dL_ends_78 : decode cL_ends 78 = .ok (.isub, 1) := by decide +kernel
theorem dL_ends_79 : decode cL_ends 79 = .ok (.iastore, 1) := by decide +kernel
theorem dL_ends_80 : decode cL_ends 80 = .ok (.aload_n 0, 1) := by decide +kernel
theorem dL_ends_81 : decode cL_ends 81 = .ok (.bipush 8, 2) := by decide +kernel
theorem dL_ends_83 : decode cL_ends 83 = .ok (.iload_n 3, 1) := by decide +kernel
theorem dL_ends_84 : decode cL_ends 84 = .ok (.iadd, 1) := by decide +kernel
theorem dL_ends_85 : decode cL_ends 85 = .ok (.dup2, 1) := by decide +kernel
theorem dL_ends_86 : decode cL_ends 86 = .ok (.iaload, 1) := by decide +kernel
theorem dL_ends_87 : decode cL_ends 87 = .ok (.iload 7, 2) := by decide +kernel
theorem dL_ends_89 : decode cL_ends 89 = .ok (.iadd, 1) := by decide +kernel
theorem dL_ends_90 : decode cL_ends 90 = .ok (.iastore, 1) := by decide +kernel
theorem dL_ends_91 : decode cL_ends 91 = .ok (.sipush 400, 3) := by decide +kernel
theorem dL_ends_94 : decode cL_ends 94 = .ok (.iload 5, 2) := by decide +kernel
theorem dL_ends_96 : decode cL_ends 96 = .ok (.imul, 1) := by decide +kernel
theorem dL_ends_97 : decode cL_ends 97 = .ok (.aload_n 0, 1) := by decide +kernel
theorem dL_ends_98 : decode cL_ends 98 = .ok (.iload_n 3, 1) := by decide +kernel
theorem dL_ends_99 : decode cL_ends 99 = .ok (.iaload, 1) := by decide +kernel
theorem dL_ends_100 : decode cL_ends 100 = .ok (.aload_n 0, 1) := by decide +kernel
theorem dL_ends_101 : decode cL_ends 101 = .ok (.bipush 8, 2) := by decide +kernel
theorem dL_ends_103 : decode cL_ends 103 = .ok (.iload_n 3, 1) := by decide +kernel
theorem dL_ends_104 : decode cL_ends 104 = .ok (.iadd, 1) := by decide +kernel
theorem dL_ends_105 : decode cL_ends 105 = .ok (.iaload, 1) := by decide +kernel
theorem dL_ends_106 : decode cL_ends 106 = .ok (.iadd, 1) := by decide +kernel
theorem dL_ends_107 : decode cL_ends 107 = .ok (.iconst 4, 1) := by decide +kernel
theorem dL_ends_108 : decode cL_ends 108 = .ok (.aload_n 0, 1) := by decide +kernel
theorem dL_ends_109 : decode cL_ends 109 = .ok (.bipush 24, 2) := by decide +kernel
theorem dL_ends_111 : decode cL_ends 111 = .ok (.iload_n 3, 1) := by decide +kernel
theorem dL_ends_112 : decode cL_ends 112 = .ok (.iadd, 1) := by decide +kernel
theorem dL_ends_113 : decode cL_ends 113 = .ok (.iaload, 1) := by decide +kernel
theorem dL_ends_114 : decode cL_ends 114 = .ok (.imul, 1) := by decide +kernel
theorem dL_ends_115 : decode cL_ends 115 = .ok (.iadd, 1) := by decide +kernel
theorem dL_ends_116 : decode cL_ends 116 = .ok (.bipush 50, 2) := by decide +kernel
theorem dL_ends_118 : decode cL_ends 118 = .ok (.iadd, 1) := by decide +kernel
theorem dL_ends_119 : decode cL_ends 119 = .ok (.idiv, 1) := by decide +kernel
theorem dL_ends_120 : decode cL_ends 120 = .ok (.aload_n 1, 1) := by decide +kernel
theorem dL_ends_121 : decode cL_ends 121 = .ok (.iload_n 3, 1) := by decide +kernel
theorem dL_ends_122 : decode cL_ends 122 = .ok (.iaload, 1) := by decide +kernel
theorem dL_ends_123 : decode cL_ends 123 = .ok (.iconst 4, 1) := by decide +kernel
theorem dL_ends_124 : decode cL_ends 124 = .ok (.irem, 1) := by decide +kernel
theorem dL_ends_125 : decode cL_ends 125 = .ok (.iconst 1, 1) := by decide +kernel
theorem dL_ends_126 : decode cL_ends 126 = .ok (.if_icmp .ne 7, 3) := by decide +kernel
theorem dL_ends_129 : decode cL_ends 129 = .ok (.iconst 2, 1) := by decide +kernel
theorem dL_ends_130 : decode cL_ends 130 = .ok (.goto 4, 3) := by decide +kernel
theorem dL_ends_133 : decode cL_ends 133 = .ok (.iconst 0, 1) := by decide +kernel
theorem dL_ends_134 : decode cL_ends 134 = .ok (.isub, 1) := by decide +kernel
theorem dL_ends_135 : decode cL_ends 135 = .ok (.istore 8, 2) := by decide +kernel
theorem dL_ends_137 : decode cL_ends 137 = .ok (.aload_n 0, 1) := by decide +kernel
theorem dL_ends_138 : decode cL_ends 138 = .ok (.iload_n 3, 1) := by decide +kernel
theorem dL_ends_139 : decode cL_ends 139 = .ok (.dup2, 1) := by decide +kernel
theorem dL_ends_140 : decode cL_ends 140 = .ok (.iaload, 1) := by decide +kernel
theorem dL_ends_141 : decode cL_ends 141 = .ok (.aload_n 0, 1) := by decide +kernel
theorem dL_ends_142 : decode cL_ends 142 = .ok (.bipush 16, 2) := by decide +kernel
theorem dL_ends_144 : decode cL_ends 144 = .ok (.iload_n 3, 1) := by decide +kernel
theorem dL_ends_145 : decode cL_ends 145 = .ok (.iadd, 1) := by decide +kernel
theorem dL_ends_146 : decode cL_ends 146 = .ok (.iaload, 1) := by decide +kernel
theorem dL_ends_147 : decode cL_ends 147 = .ok (.ifCond .ne 13, 3) := by decide +kernel
theorem dL_ends_150 : decode cL_ends 150 = .ok (.iload 8, 2) := by decide +kernel
theorem dL_ends_152 : decode cL_ends 152 = .ok (.ifCond .le 8, 3) := by decide +kernel
theorem dL_ends_155 : decode cL_ends 155 = .ok (.iload 8, 2) := by decide +kernel
theorem dL_ends_157 : decode cL_ends 157 = .ok (.goto 4, 3) := by decide +kernel
theorem dL_ends_160 : decode cL_ends 160 = .ok (.iconst 0, 1) := by decide +kernel
theorem dL_ends_161 : decode cL_ends 161 = .ok (.iadd, 1) := by decide +kernel
theorem dL_ends_162 : decode cL_ends 162 = .ok (.iastore, 1) := by decide +kernel
theorem dL_ends_163 : decode cL_ends 163 = .ok (.iload 5, 2) := by decide +kernel
theorem dL_ends_165 : decode cL_ends 165 = .ok (.bipush 39, 2) := by decide +kernel
theorem dL_ends_167 : decode cL_ends 167 = .ok (.if_icmp .le 17, 3) := by decide +kernel
theorem dL_ends_170 : decode cL_ends 170 = .ok (.iload 4, 2) := by decide +kernel
theorem dL_ends_172 : decode cL_ends 172 = .ok (.ifCond .ne 7, 3) := by decide +kernel
theorem dL_ends_175 : decode cL_ends 175 = .ok (.iconst 1, 1) := by decide +kernel
theorem dL_ends_176 : decode cL_ends 176 = .ok (.goto 31, 3) := by decide +kernel
theorem dL_ends_179 : decode cL_ends 179 = .ok (.iload 4, 2) := by decide +kernel
theorem dL_ends_181 : decode cL_ends 181 = .ok (.goto 26, 3) := by decide +kernel
theorem dL_ends_184 : decode cL_ends 184 = .ok (.iload 5, 2) := by decide +kernel
theorem dL_ends_186 : decode cL_ends 186 = .ok (.bipush 9, 2) := by decide +kernel
theorem dL_ends_188 : decode cL_ends 188 = .ok (.if_icmp .le 17, 3) := by decide +kernel
theorem dL_ends_191 : decode cL_ends 191 = .ok (.iload 4, 2) := by decide +kernel
theorem dL_ends_193 : decode cL_ends 193 = .ok (.iconst 2, 1) := by decide +kernel
theorem dL_ends_194 : decode cL_ends 194 = .ok (.if_icmp .ne 7, 3) := by decide +kernel
theorem dL_ends_197 : decode cL_ends 197 = .ok (.iconst 1, 1) := by decide +kernel
theorem dL_ends_198 : decode cL_ends 198 = .ok (.goto 9, 3) := by decide +kernel
theorem dL_ends_201 : decode cL_ends 201 = .ok (.iconst 0, 1) := by decide +kernel
theorem dL_ends_202 : decode cL_ends 202 = .ok (.goto 5, 3) := by decide +kernel
theorem dL_ends_205 : decode cL_ends 205 = .ok (.iload 4, 2) := by decide +kernel
theorem dL_ends_207 : decode cL_ends 207 = .ok (.istore 6, 2) := by decide +kernel
theorem dL_ends_209 : decode cL_ends 209 = .ok (.goto 154, 3) := by decide +kernel
theorem dL_ends_212 : decode cL_ends 212 = .ok (.iload 5, 2) := by decide +kernel
theorem dL_ends_214 : decode cL_ends 214 = .ok (.ifCond .ge 149, 3) := by decide +kernel
theorem dL_ends_217 : decode cL_ends 217 = .ok (.bipush (-6), 2) := by decide +kernel
theorem dL_ends_219 : decode cL_ends 219 = .ok (.iload 5, 2) := by decide +kernel
theorem dL_ends_221 : decode cL_ends 221 = .ok (.imul, 1) := by decide +kernel
theorem dL_ends_222 : decode cL_ends 222 = .ok (.istore 7, 2) := by decide +kernel
theorem dL_ends_224 : decode cL_ends 224 = .ok (.iconst 2, 1) := by decide +kernel
theorem dL_ends_225 : decode cL_ends 225 = .ok (.istore 8, 2) := by decide +kernel
theorem dL_ends_227 : decode cL_ends 227 = .ok (.iload 8, 2) := by decide +kernel
theorem dL_ends_229 : decode cL_ends 229 = .ok (.ifCond .lt 95, 3) := by decide +kernel
theorem dL_ends_232 : decode cL_ends 232 = .ok (.iload 8, 2) := by decide +kernel
theorem dL_ends_234 : decode cL_ends 234 = .ok (.iconst 2, 1) := by decide +kernel
theorem dL_ends_235 : decode cL_ends 235 = .ok (.if_icmp .ne 8, 3) := by decide +kernel
theorem dL_ends_238 : decode cL_ends 238 = .ok (.bipush 24, 2) := by decide +kernel
theorem dL_ends_240 : decode cL_ends 240 = .ok (.goto 8, 3) := by decide +kernel
theorem dL_ends_243 : decode cL_ends 243 = .ok (.bipush 8, 2) := by decide +kernel
theorem dL_ends_245 : decode cL_ends 245 = .ok (.iload 8, 2) := by decide +kernel
theorem dL_ends_247 : decode cL_ends 247 = .ok (.imul, 1) := by decide +kernel
theorem dL_ends_248 : decode cL_ends 248 = .ok (.istore 9, 2) := by decide +kernel
theorem dL_ends_250 : decode cL_ends 250 = .ok (.aload_n 0, 1) := by decide +kernel
theorem dL_ends_251 : decode cL_ends 251 = .ok (.iload 9, 2) := by decide +kernel
theorem dL_ends_253 : decode cL_ends 253 = .ok (.iload_n 3, 1) := by decide +kernel
theorem dL_ends_254 : decode cL_ends 254 = .ok (.iadd, 1) := by decide +kernel
theorem dL_ends_255 : decode cL_ends 255 = .ok (.iaload, 1) := by decide +kernel
theorem dL_ends_256 : decode cL_ends 256 = .ok (.iload 7, 2) := by decide +kernel
theorem dL_ends_258 : decode cL_ends 258 = .ok (.if_icmp .ge 12, 3) := by decide +kernel
theorem dL_ends_261 : decode cL_ends 261 = .ok (.aload_n 0, 1) := by decide +kernel
theorem dL_ends_262 : decode cL_ends 262 = .ok (.iload 9, 2) := by decide +kernel
theorem dL_ends_264 : decode cL_ends 264 = .ok (.iload_n 3, 1) := by decide +kernel
theorem dL_ends_265 : decode cL_ends 265 = .ok (.iadd, 1) := by decide +kernel
theorem dL_ends_266 : decode cL_ends 266 = .ok (.iaload, 1) := by decide +kernel
theorem dL_ends_267 : decode cL_ends 267 = .ok (.goto 5, 3) := by decide +kernel
theorem dL_ends_270 : decode cL_ends 270 = .ok (.iload 7, 2) := by decide +kernel
theorem dL_ends_272 : decode cL_ends 272 = .ok (.istore 10, 2) := by decide +kernel
theorem dL_ends_274 : decode cL_ends 274 = .ok (.aload_n 0, 1) := by decide +kernel
theorem dL_ends_275 : decode cL_ends 275 = .ok (.iload 9, 2) := by decide +kernel
theorem dL_ends_277 : decode cL_ends 277 = .ok (.iload_n 3, 1) := by decide +kernel
theorem dL_ends_278 : decode cL_ends 278 = .ok (.iadd, 1) := by decide +kernel
theorem dL_ends_279 : decode cL_ends 279 = .ok (.dup2, 1) := by decide +kernel
theorem dL_ends_280 : decode cL_ends 280 = .ok (.iaload, 1) := by decide +kernel
theorem dL_ends_281 : decode cL_ends 281 = .ok (.iload 10, 2) := by decide +kernel
theorem dL_ends_283 : decode cL_ends 283 = .ok (.isub, 1) := by decide +kernel
theorem dL_ends_284 : decode cL_ends 284 = .ok (.iastore, 1) := by decide +kernel
theorem dL_ends_285 : decode cL_ends 285 = .ok (.iload 7, 2) := by decide +kernel
theorem dL_ends_287 : decode cL_ends 287 = .ok (.iload 10, 2) := by decide +kernel
theorem dL_ends_289 : decode cL_ends 289 = .ok (.isub, 1) := by decide +kernel
theorem dL_ends_290 : decode cL_ends 290 = .ok (.istore 7, 2) := by decide +kernel
theorem dL_ends_292 : decode cL_ends 292 = .ok (.aload_n 0, 1) := by decide +kernel
theorem dL_ends_293 : decode cL_ends 293 = .ok (.bipush 32, 2) := by decide +kernel
theorem dL_ends_295 : decode cL_ends 295 = .ok (.iload_n 3, 1) := by decide +kernel
theorem dL_ends_296 : decode cL_ends 296 = .ok (.iadd, 1) := by decide +kernel
theorem dL_ends_297 : decode cL_ends 297 = .ok (.dup2, 1) := by decide +kernel
theorem dL_ends_298 : decode cL_ends 298 = .ok (.iaload, 1) := by decide +kernel
theorem dL_ends_299 : decode cL_ends 299 = .ok (.iload 8, 2) := by decide +kernel
theorem dL_ends_301 : decode cL_ends 301 = .ok (.iconst 2, 1) := by decide +kernel
theorem dL_ends_302 : decode cL_ends 302 = .ok (.if_icmp .ne 7, 3) := by decide +kernel
theorem dL_ends_305 : decode cL_ends 305 = .ok (.iconst 0, 1) := by decide +kernel
theorem dL_ends_306 : decode cL_ends 306 = .ok (.goto 10, 3) := by decide +kernel
theorem dL_ends_309 : decode cL_ends 309 = .ok (.iload 10, 2) := by decide +kernel
theorem dL_ends_311 : decode cL_ends 311 = .ok (.iconst 2, 1) := by decide +kernel
theorem dL_ends_312 : decode cL_ends 312 = .ok (.iload 8, 2) := by decide +kernel
theorem dL_ends_314 : decode cL_ends 314 = .ok (.isub, 1) := by decide +kernel
theorem dL_ends_315 : decode cL_ends 315 = .ok (.imul, 1) := by decide +kernel
theorem dL_ends_316 : decode cL_ends 316 = .ok (.isub, 1) := by decide +kernel
theorem dL_ends_317 : decode cL_ends 317 = .ok (.iastore, 1) := by decide +kernel
theorem dL_ends_318 : decode cL_ends 318 = .ok (.iinc 8 (-1), 3) := by decide +kernel
theorem dL_ends_321 : decode cL_ends 321 = .ok (.goto (-94), 3) := by decide +kernel
theorem dL_ends_324 : decode cL_ends 324 = .ok (.aload_n 0, 1) := by decide +kernel
theorem dL_ends_325 : decode cL_ends 325 = .ok (.bipush 32, 2) := by decide +kernel
theorem dL_ends_327 : decode cL_ends 327 = .ok (.iload_n 3, 1) := by decide +kernel
theorem dL_ends_328 : decode cL_ends 328 = .ok (.iadd, 1) := by decide +kernel
theorem dL_ends_329 : decode cL_ends 329 = .ok (.aload_n 0, 1) := by decide +kernel
theorem dL_ends_330 : decode cL_ends 330 = .ok (.bipush 32, 2) := by decide +kernel
theorem dL_ends_332 : decode cL_ends 332 = .ok (.iload_n 3, 1) := by decide +kernel
theorem dL_ends_333 : decode cL_ends 333 = .ok (.iadd, 1) := by decide +kernel
theorem dL_ends_334 : decode cL_ends 334 = .ok (.iaload, 1) := by decide +kernel
theorem dL_ends_335 : decode cL_ends 335 = .ok (.ifCond .ge 7, 3) := by decide +kernel
theorem dL_ends_338 : decode cL_ends 338 = .ok (.iconst 0, 1) := by decide +kernel
theorem dL_ends_339 : decode cL_ends 339 = .ok (.goto 9, 3) := by decide +kernel
theorem dL_ends_342 : decode cL_ends 342 = .ok (.aload_n 0, 1) := by decide +kernel
theorem dL_ends_343 : decode cL_ends 343 = .ok (.bipush 32, 2) := by decide +kernel
theorem dL_ends_345 : decode cL_ends 345 = .ok (.iload_n 3, 1) := by decide +kernel
theorem dL_ends_346 : decode cL_ends 346 = .ok (.iadd, 1) := by decide +kernel
theorem dL_ends_347 : decode cL_ends 347 = .ok (.iaload, 1) := by decide +kernel
theorem dL_ends_348 : decode cL_ends 348 = .ok (.iastore, 1) := by decide +kernel
theorem dL_ends_349 : decode cL_ends 349 = .ok (.iload 4, 2) := by decide +kernel
theorem dL_ends_351 : decode cL_ends 351 = .ok (.iconst 1, 1) := by decide +kernel
theorem dL_ends_352 : decode cL_ends 352 = .ok (.if_icmp .ne 7, 3) := by decide +kernel
theorem dL_ends_355 : decode cL_ends 355 = .ok (.iconst 2, 1) := by decide +kernel
theorem dL_ends_356 : decode cL_ends 356 = .ok (.goto 5, 3) := by decide +kernel
theorem dL_ends_359 : decode cL_ends 359 = .ok (.iload 4, 2) := by decide +kernel
theorem dL_ends_361 : decode cL_ends 361 = .ok (.istore 6, 2) := by decide +kernel
theorem dL_ends_363 : decode cL_ends 363 = .ok (.aload_n 1, 1) := by decide +kernel
theorem dL_ends_364 : decode cL_ends 364 = .ok (.iload_n 3, 1) := by decide +kernel
theorem dL_ends_365 : decode cL_ends 365 = .ok (.dup2, 1) := by decide +kernel
theorem dL_ends_366 : decode cL_ends 366 = .ok (.iaload, 1) := by decide +kernel
theorem dL_ends_367 : decode cL_ends 367 = .ok (.iconst 4, 1) := by decide +kernel
theorem dL_ends_368 : decode cL_ends 368 = .ok (.iload 6, 2) := by decide +kernel
theorem dL_ends_370 : decode cL_ends 370 = .ok (.iload 4, 2) := by decide +kernel
theorem dL_ends_372 : decode cL_ends 372 = .ok (.isub, 1) := by decide +kernel
theorem dL_ends_373 : decode cL_ends 373 = .ok (.imul, 1) := by decide +kernel
theorem dL_ends_374 : decode cL_ends 374 = .ok (.iadd, 1) := by decide +kernel
theorem dL_ends_375 : decode cL_ends 375 = .ok (.iastore, 1) := by decide +kernel
theorem dL_ends_376 : decode cL_ends 376 = .ok (.iinc 3 1, 3) := by decide +kernel
theorem dL_ends_379 : decode cL_ends 379 = .ok (.goto (-377), 3) := by decide +kernel
theorem dL_ends_382 : decode cL_ends 382 = .ok (.return_, 1) := by decide +kernel
theorem dL_minute_0 : decode cL_minute 0 = .ok (.aload 6, 2) := by decide +kernel
theorem dL_minute_2 : decode cL_minute 2 = .ok (.iconst 0, 1) := by decide +kernel
theorem dL_minute_3 : decode cL_minute 3 = .ok (.dup2, 1) := by decide +kernel
theorem dL_minute_4 : decode cL_minute 4 = .ok (.iaload, 1) := by decide +kernel
theorem dL_minute_5 : decode cL_minute 5 = .ok (.iconst 1, 1) := by decide +kernel
theorem dL_minute_6 : decode cL_minute 6 = .ok (.iadd, 1) := by decide +kernel
theorem dL_minute_7 : decode cL_minute 7 = .ok (.iastore, 1) := by decide +kernel
theorem dL_minute_8 : decode cL_minute 8 = .ok (.aload 6, 2) := by decide +kernel
theorem dL_minute_10 : decode cL_minute 10 = .ok (.iconst 0, 1) := by decide +kernel
theorem dL_minute_11 : decode cL_minute 11 = .ok (.iaload, 1) := by decide +kernel
theorem dL_minute_12 : decode cL_minute 12 = .ok (.sipush 1440, 3) := by decide +kernel
theorem dL_minute_15 : decode cL_minute 15 = .ok (.irem, 1) := by decide +kernel
theorem dL_minute_16 : decode cL_minute 16 = .ok (.ifCond .ne 10, 3) := by decide +kernel
theorem dL_minute_19 : decode cL_minute 19 = .ok (.aload_n 0, 1) := by decide +kernel
theorem dL_minute_20 : decode cL_minute 20 = .ok (.aload_n 1, 1) := by decide +kernel
theorem dL_minute_21 : decode cL_minute 21 = .ok (.aload 6, 2) := by decide +kernel
theorem dL_minute_23 : decode cL_minute 23 = .ok (.invokestatic 108, 3) := by decide +kernel
theorem dL_minute_26 : decode cL_minute 26 = .ok (.iconst 0, 1) := by decide +kernel
theorem dL_minute_27 : decode cL_minute 27 = .ok (.istore 7, 2) := by decide +kernel
theorem dL_minute_29 : decode cL_minute 29 = .ok (.iload 7, 2) := by decide +kernel
theorem dL_minute_31 : decode cL_minute 31 = .ok (.aload 6, 2) := by decide +kernel
theorem dL_minute_33 : decode cL_minute 33 = .ok (.iconst 4, 1) := by decide +kernel
theorem dL_minute_34 : decode cL_minute 34 = .ok (.iaload, 1) := by decide +kernel
theorem dL_minute_35 : decode cL_minute 35 = .ok (.if_icmp .ge 409, 3) := by decide +kernel
theorem dL_minute_38 : decode cL_minute 38 = .ok (.aload_n 3, 1) := by decide +kernel
theorem dL_minute_39 : decode cL_minute 39 = .ok (.iload 7, 2) := by decide +kernel
theorem dL_minute_41 : decode cL_minute 41 = .ok (.iaload, 1) := by decide +kernel
theorem dL_minute_42 : decode cL_minute 42 = .ok (.sipush 128, 3) := by decide +kernel
theorem dL_minute_45 : decode cL_minute 45 = .ok (.idiv, 1) := by decide +kernel
theorem dL_minute_46 : decode cL_minute 46 = .ok (.iconst 2, 1) := by decide +kernel
theorem dL_minute_47 : decode cL_minute 47 = .ok (.irem, 1) := by decide +kernel
theorem dL_minute_48 : decode cL_minute 48 = .ok (.istore 8, 2) := by decide +kernel
theorem dL_minute_50 : decode cL_minute 50 = .ok (.aload_n 3, 1) := by decide +kernel
theorem dL_minute_51 : decode cL_minute 51 = .ok (.iload 7, 2) := by decide +kernel
theorem dL_minute_53 : decode cL_minute 53 = .ok (.iaload, 1) := by decide +kernel
theorem dL_minute_54 : decode cL_minute 54 = .ok (.bipush 8, 2) := by decide +kernel
theorem dL_minute_56 : decode cL_minute 56 = .ok (.irem, 1) := by decide +kernel
theorem dL_minute_57 : decode cL_minute 57 = .ok (.iconst 1, 1) := by decide +kernel
theorem dL_minute_58 : decode cL_minute 58 = .ok (.if_icmp .ne 172, 3) := by decide +kernel
theorem dL_minute_61 : decode cL_minute 61 = .ok (.aload 4, 2) := by decide +kernel
theorem dL_minute_63 : decode cL_minute 63 = .ok (.bipush 32, 2) := by decide +kernel
theorem dL_minute_65 : decode cL_minute 65 = .ok (.iload 7, 2) := by decide +kernel
theorem dL_minute_67 : decode cL_minute 67 = .ok (.iadd, 1) := by decide +kernel
theorem dL_minute_68 : decode cL_minute 68 = .ok (.iaload, 1) := by decide +kernel
theorem dL_minute_69 : decode cL_minute 69 = .ok (.aload 6, 2) := by decide +kernel
theorem dL_minute_71 : decode cL_minute 71 = .ok (.iconst 0, 1) := by decide +kernel
theorem dL_minute_72 : decode cL_minute 72 = .ok (.iaload, 1) := by decide +kernel
theorem dL_minute_73 : decode cL_minute 73 = .ok (.if_icmp .gt 157, 3) := by decide +kernel
theorem dL_minute_76 : decode cL_minute 76 = .ok (.aload_n 3, 1) := by decide +kernel
theorem dL_minute_77 : decode cL_minute 77 = .ok (.iload 7, 2) := by decide +kernel
theorem dL_minute_79 : decode cL_minute 79 = .ok (.iaload, 1) := by decide +kernel
theorem dL_minute_80 : decode cL_minute 80 = .ok (.bipush 8, 2) := by decide +kernel
theorem dL_minute_82 : decode cL_minute 82 = .ok (.idiv, 1) := by decide +kernel
theorem dL_minute_83 : decode cL_minute 83 = .ok (.bipush 16, 2) := by decide +kernel
theorem dL_minute_85 : decode cL_minute 85 = .ok (.irem, 1) := by decide +kernel
theorem dL_minute_86 : decode cL_minute 86 = .ok (.istore 9, 2) := by decide +kernel
theorem dL_minute_88 : decode cL_minute 88 = .ok (.aload 4, 2) := by decide +kernel
theorem dL_minute_90 : decode cL_minute 90 = .ok (.iload 7, 2) := by decide +kernel
theorem dL_minute_92 : decode cL_minute 92 = .ok (.iaload, 1) := by decide +kernel
theorem dL_minute_93 : decode cL_minute 93 = .ok (.aload 4, 2) := by decide +kernel
theorem dL_minute_95 : decode cL_minute 95 = .ok (.bipush 8, 2) := by decide +kernel
theorem dL_minute_97 : decode cL_minute 97 = .ok (.iload 7, 2) := by decide +kernel
theorem dL_minute_99 : decode cL_minute 99 = .ok (.iadd, 1) := by decide +kernel
theorem dL_minute_100 : decode cL_minute 100 = .ok (.iaload, 1) := by decide +kernel
theorem dL_minute_101 : decode cL_minute 101 = .ok (.iadd, 1) := by decide +kernel
theorem dL_minute_102 : decode cL_minute 102 = .ok (.sipush 20000, 3) := by decide +kernel
theorem dL_minute_105 : decode cL_minute 105 = .ok (.idiv, 1) := by decide +kernel
theorem dL_minute_106 : decode cL_minute 106 = .ok (.istore 10, 2) := by decide +kernel
theorem dL_minute_108 : decode cL_minute 108 = .ok (.aload_n 0, 1) := by decide +kernel
theorem dL_minute_109 : decode cL_minute 109 = .ok (.iload 9, 2) := by decide +kernel
theorem dL_minute_111 : decode cL_minute 111 = .ok (.dup2, 1) := by decide +kernel
theorem dL_minute_112 : decode cL_minute 112 = .ok (.iaload, 1) := by decide +kernel
theorem dL_minute_113 : decode cL_minute 113 = .ok (.aload_n 1, 1) := by decide +kernel
theorem dL_minute_114 : decode cL_minute 114 = .ok (.iload 9, 2) := by decide +kernel
theorem dL_minute_116 : decode cL_minute 116 = .ok (.iaload, 1) := by decide +kernel
theorem dL_minute_117 : decode cL_minute 117 = .ok (.iconst 4, 1) := by decide +kernel
theorem dL_minute_118 : decode cL_minute 118 = .ok (.irem, 1) := by decide +kernel
theorem dL_minute_119 : decode cL_minute 119 = .ok (.iconst 2, 1) := by decide +kernel
theorem dL_minute_120 : decode cL_minute 120 = .ok (.if_icmp .ne 7, 3) := by decide +kernel
theorem dL_minute_123 : decode cL_minute 123 = .ok (.iconst 0, 1) := by decide +kernel
theorem dL_minute_124 : decode cL_minute 124 = .ok (.goto 21, 3) := by decide +kernel
theorem dL_minute_127 : decode cL_minute 127 = .ok (.aload_n 0, 1) := by decide +kernel
theorem dL_minute_128 : decode cL_minute 128 = .ok (.iload 9, 2) := by decide +kernel
theorem dL_minute_130 : decode cL_minute 130 = .ok (.iaload, 1) := by decide +kernel
theorem dL_minute_131 : decode cL_minute 131 = .ok (.iload 10, 2) := by decide +kernel
theorem dL_minute_133 : decode cL_minute 133 = .ok (.if_icmp .ge 10, 3) := by decide +kernel
theorem dL_minute_136 : decode cL_minute 136 = .ok (.aload_n 0, 1) := by decide +kernel
theorem dL_minute_137 : decode cL_minute 137 = .ok (.iload 9, 2) := by decide +kernel
theorem dL_minute_139 : decode cL_minute 139 = .ok (.iaload, 1) := by decide +kernel
theorem dL_minute_140 : decode cL_minute 140 = .ok (.goto 5, 3) := by decide +kernel
theorem dL_minute_143 : decode cL_minute 143 = .ok (.iload 10, 2) := by decide +kernel
theorem dL_minute_145 : decode cL_minute 145 = .ok (.isub, 1) := by decide +kernel
theorem dL_minute_146 : decode cL_minute 146 = .ok (.iastore, 1) := by decide +kernel
theorem dL_minute_147 : decode cL_minute 147 = .ok (.aload_n 3, 1) := by decide +kernel
theorem dL_minute_148 : decode cL_minute 148 = .ok (.iload 7, 2) := by decide +kernel
theorem dL_minute_150 : decode cL_minute 150 = .ok (.dup2, 1) := by decide +kernel
theorem dL_minute_151 : decode cL_minute 151 = .ok (.iaload, 1) := by decide +kernel
theorem dL_minute_152 : decode cL_minute 152 = .ok (.iconst 1, 1) := by decide +kernel
theorem dL_minute_153 : decode cL_minute 153 = .ok (.bipush 8, 2) := by decide +kernel
theorem dL_minute_155 : decode cL_minute 155 = .ok (.iload 8, 2) := by decide +kernel
theorem dL_minute_157 : decode cL_minute 157 = .ok (.imul, 1) := by decide +kernel
theorem dL_minute_158 : decode cL_minute 158 = .ok (.iadd, 1) := by decide +kernel
theorem dL_minute_159 : decode cL_minute 159 = .ok (.iadd, 1) := by decide +kernel
theorem dL_minute_160 : decode cL_minute 160 = .ok (.iastore, 1) := by decide +kernel
theorem dL_minute_161 : decode cL_minute 161 = .ok (.iload 8, 2) := by decide +kernel
theorem dL_minute_163 : decode cL_minute 163 = .ok (.iconst 1, 1) := by decide +kernel
theorem dL_minute_164 : decode cL_minute 164 = .ok (.if_icmp .ne 18, 3) := by decide +kernel
theorem dL_minute_167 : decode cL_minute 167 = .ok (.iload 9, 2) := by decide +kernel
theorem dL_minute_169 : decode cL_minute 169 = .ok (.aload 6, 2) := by decide +kernel
theorem dL_minute_171 : decode cL_minute 171 = .ok (.iconst 3, 1) := by decide +kernel
theorem dL_minute_172 : decode cL_minute 172 = .ok (.iaload, 1) := by decide +kernel
theorem dL_minute_173 : decode cL_minute 173 = .ok (.iconst 1, 1) := by decide +kernel
theorem dL_minute_174 : decode cL_minute 174 = .ok (.isub, 1) := by decide +kernel
theorem dL_minute_175 : decode cL_minute 175 = .ok (.if_icmp .ne 7, 3) := by decide +kernel
theorem dL_minute_178 : decode cL_minute 178 = .ok (.iconst 1, 1) := by decide +kernel
theorem dL_minute_179 : decode cL_minute 179 = .ok (.goto 4, 3) := by decide +kernel
theorem dL_minute_182 : decode cL_minute 182 = .ok (.iconst 0, 1) := by decide +kernel
theorem dL_minute_183 : decode cL_minute 183 = .ok (.istore 11, 2) := by decide +kernel
theorem dL_minute_185 : decode cL_minute 185 = .ok (.iload 11, 2) := by decide +kernel
theorem dL_minute_187 : decode cL_minute 187 = .ok (.ifCond .ne 13, 3) := by decide +kernel
theorem dL_minute_190 : decode cL_minute 190 = .ok (.iload 8, 2) := by decide +kernel
theorem dL_minute_192 : decode cL_minute 192 = .ok (.ifCond .ne 38, 3) := by decide +kernel
theorem dL_minute_195 : decode cL_minute 195 = .ok (.iload 9, 2) := by decide +kernel
theorem dL_minute_197 : decode cL_minute 197 = .ok (.ifCond .ne 33, 3) := by decide +kernel
theorem dL_minute_200 : decode cL_minute 200 = .ok (.aload_n 3, 1) := by decide +kernel
theorem dL_minute_201 : decode cL_minute 201 = .ok (.iload 7, 2) := by decide +kernel
theorem dL_minute_203 : decode cL_minute 203 = .ok (.dup2, 1) := by decide +kernel
theorem dL_minute_204 : decode cL_minute 204 = .ok (.iaload, 1) := by decide +kernel
theorem dL_minute_205 : decode cL_minute 205 = .ok (.iload 11, 2) := by decide +kernel
theorem dL_minute_207 : decode cL_minute 207 = .ok (.ifCond .eq 7, 3) := by decide +kernel
theorem dL_minute_210 : decode cL_minute 210 = .ok (.iconst 1, 1) := by decide +kernel
theorem dL_minute_211 : decode cL_minute 211 = .ok (.goto 5, 3) := by decide +kernel
theorem dL_minute_214 : decode cL_minute 214 = .ok (.bipush (-2), 2) := by decide +kernel
theorem dL_minute_216 : decode cL_minute 216 = .ok (.iadd, 1) := by decide +kernel
theorem dL_minute_217 : decode cL_minute 217 = .ok (.iastore, 1) := by decide +kernel
theorem dL_minute_218 : decode cL_minute 218 = .ok (.aload_n 3, 1) := by decide +kernel
theorem dL_minute_219 : decode cL_minute 219 = .ok (.aload 4, 2) := by decide +kernel
theorem dL_minute_221 : decode cL_minute 221 = .ok (.aload 5, 2) := by decide +kernel
theorem dL_minute_223 : decode cL_minute 223 = .ok (.iload 7, 2) := by decide +kernel
theorem dL_minute_225 : decode cL_minute 225 = .ok (.iload 11, 2) := by decide +kernel
theorem dL_minute_227 : decode cL_minute 227 = .ok (.invokestatic 112, 3) := by decide +kernel
theorem dL_minute_230 : decode cL_minute 230 = .ok (.aload_n 3, 1) := by decide +kernel
theorem dL_minute_231 : decode cL_minute 231 = .ok (.iload 7, 2) := by decide +kernel
theorem dL_minute_233 : decode cL_minute 233 = .ok (.iaload, 1) := by decide +kernel
theorem dL_minute_234 : decode cL_minute 234 = .ok (.bipush 8, 2) := by decide +kernel
theorem dL_minute_236 : decode cL_minute 236 = .ok (.irem, 1) := by decide +kernel
theorem dL_minute_237 : decode cL_minute 237 = .ok (.iconst 2, 1) := by decide +kernel
theorem dL_minute_238 : decode cL_minute 238 = .ok (.if_icmp .ne 200, 3) := by decide +kernel
theorem dL_minute_241 : decode cL_minute 241 = .ok (.aload_n 0, 1) := by decide +kernel
theorem dL_minute_242 : decode cL_minute 242 = .ok (.aload_n 1, 1) := by decide +kernel
theorem dL_minute_243 : decode cL_minute 243 = .ok (.aload_n 3, 1) := by decide +kernel
theorem dL_minute_244 : decode cL_minute 244 = .ok (.aload 4, 2) := by decide +kernel
theorem dL_minute_246 : decode cL_minute 246 = .ok (.aload 6, 2) := by decide +kernel
theorem dL_minute_248 : decode cL_minute 248 = .ok (.iload 7, 2) := by decide +kernel
theorem dL_minute_250 : decode cL_minute 250 = .ok (.invokestatic 116, 3) := by decide +kernel
theorem dL_minute_253 : decode cL_minute 253 = .ok (.ifCond .ne 185, 3) := by decide +kernel
theorem dL_minute_256 : decode cL_minute 256 = .ok (.aload_n 3, 1) := by decide +kernel
theorem dL_minute_257 : decode cL_minute 257 = .ok (.iload 7, 2) := by decide +kernel
theorem dL_minute_259 : decode cL_minute 259 = .ok (.iaload, 1) := by decide +kernel
theorem dL_minute_260 : decode cL_minute 260 = .ok (.bipush 8, 2) := by decide +kernel
theorem dL_minute_262 : decode cL_minute 262 = .ok (.idiv, 1) := by decide +kernel
theorem dL_minute_263 : decode cL_minute 263 = .ok (.bipush 16, 2) := by decide +kernel
theorem dL_minute_265 : decode cL_minute 265 = .ok (.irem, 1) := by decide +kernel
theorem dL_minute_266 : decode cL_minute 266 = .ok (.iconst 1, 1) := by decide +kernel
theorem dL_minute_267 : decode cL_minute 267 = .ok (.isub, 1) := by decide +kernel
theorem dL_minute_268 : decode cL_minute 268 = .ok (.iload 8, 2) := by decide +kernel
theorem dL_minute_270 : decode cL_minute 270 = .ok (.iadd, 1) := by decide +kernel
theorem dL_minute_271 : decode cL_minute 271 = .ok (.istore 9, 2) := by decide +kernel
theorem dL_minute_273 : decode cL_minute 273 = .ok (.aload 4, 2) := by decide +kernel
theorem dL_minute_275 : decode cL_minute 275 = .ok (.iload 7, 2) := by decide +kernel
theorem dL_minute_277 : decode cL_minute 277 = .ok (.iaload, 1) := by decide +kernel
theorem dL_minute_278 : decode cL_minute 278 = .ok (.aload 4, 2) := by decide +kernel
theorem dL_minute_280 : decode cL_minute 280 = .ok (.bipush 8, 2) := by decide +kernel
theorem dL_minute_282 : decode cL_minute 282 = .ok (.iload 7, 2) := by decide +kernel
theorem dL_minute_284 : decode cL_minute 284 = .ok (.iadd, 1) := by decide +kernel
theorem dL_minute_285 : decode cL_minute 285 = .ok (.iaload, 1) := by decide +kernel
theorem dL_minute_286 : decode cL_minute 286 = .ok (.iadd, 1) := by decide +kernel
theorem dL_minute_287 : decode cL_minute 287 = .ok (.aload_n 3, 1) := by decide +kernel
theorem dL_minute_288 : decode cL_minute 288 = .ok (.aload 4, 2) := by decide +kernel
theorem dL_minute_290 : decode cL_minute 290 = .ok (.aload 6, 2) := by decide +kernel
theorem dL_minute_292 : decode cL_minute 292 = .ok (.iload 9, 2) := by decide +kernel
theorem dL_minute_294 : decode cL_minute 294 = .ok (.invokestatic 100, 3) := by decide +kernel
theorem dL_minute_297 : decode cL_minute 297 = .ok (.iadd, 1) := by decide +kernel
theorem dL_minute_298 : decode cL_minute 298 = .ok (.aload_n 0, 1) := by decide +kernel
theorem dL_minute_299 : decode cL_minute 299 = .ok (.aload_n 1, 1) := by decide +kernel
theorem dL_minute_300 : decode cL_minute 300 = .ok (.iload 9, 2) := by decide +kernel
theorem dL_minute_302 : decode cL_minute 302 = .ok (.aload_n 0, 1) := by decide +kernel
theorem dL_minute_303 : decode cL_minute 303 = .ok (.iload 9, 2) := by decide +kernel
theorem dL_minute_305 : decode cL_minute 305 = .ok (.invokestatic 119, 3) := by decide +kernel
theorem dL_minute_308 : decode cL_minute 308 = .ok (.invokestatic 104, 3) := by decide +kernel
theorem dL_minute_311 : decode cL_minute 311 = .ok (.if_icmp .le 7, 3) := by decide +kernel
theorem dL_minute_314 : decode cL_minute 314 = .ok (.iconst 1, 1) := by decide +kernel
theorem dL_minute_315 : decode cL_minute 315 = .ok (.goto 4, 3) := by decide +kernel
theorem dL_minute_318 : decode cL_minute 318 = .ok (.iconst 0, 1) := by decide +kernel
theorem dL_minute_319 : decode cL_minute 319 = .ok (.istore 10, 2) := by decide +kernel
theorem dL_minute_321 : decode cL_minute 321 = .ok (.aload_n 0, 1) := by decide +kernel
theorem dL_minute_322 : decode cL_minute 322 = .ok (.bipush 40, 2) := by decide +kernel
theorem dL_minute_324 : decode cL_minute 324 = .ok (.bipush 8, 2) := by decide +kernel
theorem dL_minute_326 : decode cL_minute 326 = .ok (.iload 8, 2) := by decide +kernel
theorem dL_minute_328 : decode cL_minute 328 = .ok (.imul, 1) := by decide +kernel
theorem dL_minute_329 : decode cL_minute 329 = .ok (.iadd, 1) := by decide +kernel
theorem dL_minute_330 : decode cL_minute 330 = .ok (.iload 9, 2) := by decide +kernel
theorem dL_minute_332 : decode cL_minute 332 = .ok (.iadd, 1) := by decide +kernel
theorem dL_minute_333 : decode cL_minute 333 = .ok (.aload 6, 2) := by decide +kernel
theorem dL_minute_335 : decode cL_minute 335 = .ok (.iconst 0, 1) := by decide +kernel
theorem dL_minute_336 : decode cL_minute 336 = .ok (.iaload, 1) := by decide +kernel
theorem dL_minute_337 : decode cL_minute 337 = .ok (.iastore, 1) := by decide +kernel
theorem dL_minute_338 : decode cL_minute 338 = .ok (.aload 4, 2) := by decide +kernel
theorem dL_minute_340 : decode cL_minute 340 = .ok (.bipush 32, 2) := by decide +kernel
theorem dL_minute_342 : decode cL_minute 342 = .ok (.iload 7, 2) := by decide +kernel
theorem dL_minute_344 : decode cL_minute 344 = .ok (.iadd, 1) := by decide +kernel
theorem dL_minute_345 : decode cL_minute 345 = .ok (.aload 6, 2) := by decide +kernel
theorem dL_minute_347 : decode cL_minute 347 = .ok (.iconst 0, 1) := by decide +kernel
theorem dL_minute_348 : decode cL_minute 348 = .ok (.iaload, 1) := by decide +kernel
theorem dL_minute_349 : decode cL_minute 349 = .ok (.aload_n 1, 1) := by decide +kernel
theorem dL_minute_350 : decode cL_minute 350 = .ok (.aload_n 2, 1) := by decide +kernel
theorem dL_minute_351 : decode cL_minute 351 = .ok (.aload 4, 2) := by decide +kernel
theorem dL_minute_353 : decode cL_minute 353 = .ok (.iload 7, 2) := by decide +kernel
theorem dL_minute_355 : decode cL_minute 355 = .ok (.iload 9, 2) := by decide +kernel
theorem dL_minute_357 : decode cL_minute 357 = .ok (.invokestatic 123, 3) := by decide +kernel
theorem dL_minute_360 : decode cL_minute 360 = .ok (.iadd, 1) := by decide +kernel
theorem dL_minute_361 : decode cL_minute 361 = .ok (.iastore, 1) := by decide +kernel
theorem dL_minute_362 : decode cL_minute 362 = .ok (.aload_n 3, 1) := by decide +kernel
theorem dL_minute_363 : decode cL_minute 363 = .ok (.iload 7, 2) := by decide +kernel
theorem dL_minute_365 : decode cL_minute 365 = .ok (.dup2, 1) := by decide +kernel
theorem dL_minute_366 : decode cL_minute 366 = .ok (.iaload, 1) := by decide +kernel
theorem dL_minute_367 : decode cL_minute 367 = .ok (.bipush 8, 2) := by decide +kernel
theorem dL_minute_369 : decode cL_minute 369 = .ok (.iload 8, 2) := by decide +kernel
theorem dL_minute_371 : decode cL_minute 371 = .ok (.iconst 1, 1) := by decide +kernel
theorem dL_minute_372 : decode cL_minute 372 = .ok (.isub, 1) := by decide +kernel
theorem dL_minute_373 : decode cL_minute 373 = .ok (.imul, 1) := by decide +kernel
theorem dL_minute_374 : decode cL_minute 374 = .ok (.iload 10, 2) := by decide +kernel
theorem dL_minute_376 : decode cL_minute 376 = .ok (.ifCond .eq 7, 3) := by decide +kernel
theorem dL_minute_379 : decode cL_minute 379 = .ok (.iconst 2, 1) := by decide +kernel
theorem dL_minute_380 : decode cL_minute 380 = .ok (.goto 4, 3) := by decide +kernel
theorem dL_minute_383 : decode cL_minute 383 = .ok (.iconst (-1), 1) := by decide +kernel
theorem dL_minute_384 : decode cL_minute 384 = .ok (.iadd, 1) := by decide +kernel
theorem dL_minute_385 : decode cL_minute 385 = .ok (.iadd, 1) := by decide +kernel
theorem dL_minute_386 : decode cL_minute 386 = .ok (.iastore, 1) := by decide +kernel
theorem dL_minute_387 : decode cL_minute 387 = .ok (.iload 10, 2) := by decide +kernel
theorem dL_minute_389 : decode cL_minute 389 = .ok (.ifCond .eq 49, 3) := by decide +kernel
theorem dL_minute_392 : decode cL_minute 392 = .ok (.aload_n 1, 1) := by decide +kernel
theorem dL_minute_393 : decode cL_minute 393 = .ok (.iload 9, 2) := by decide +kernel
theorem dL_minute_395 : decode cL_minute 395 = .ok (.dup2, 1) := by decide +kernel
theorem dL_minute_396 : decode cL_minute 396 = .ok (.iaload, 1) := by decide +kernel
theorem dL_minute_397 : decode cL_minute 397 = .ok (.iconst 4, 1) := by decide +kernel
theorem dL_minute_398 : decode cL_minute 398 = .ok (.aload_n 1, 1) := by decide +kernel
theorem dL_minute_399 : decode cL_minute 399 = .ok (.iload 9, 2) := by decide +kernel
theorem dL_minute_401 : decode cL_minute 401 = .ok (.iaload, 1) := by decide +kernel
theorem dL_minute_402 : decode cL_minute 402 = .ok (.iconst 4, 1) := by decide +kernel
theorem dL_minute_403 : decode cL_minute 403 = .ok (.irem, 1) := by decide +kernel
theorem dL_minute_404 : decode cL_minute 404 = .ok (.iconst 2, 1) := by decide +kernel
theorem dL_minute_405 : decode cL_minute 405 = .ok (.if_icmp .ne 7, 3) := by decide +kernel
theorem dL_minute_408 : decode cL_minute 408 = .ok (.iconst 0, 1) := by decide +kernel
theorem dL_minute_409 : decode cL_minute 409 = .ok (.goto 13, 3) := by decide +kernel
theorem dL_minute_412 : decode cL_minute 412 = .ok (.iconst 2, 1) := by decide +kernel
theorem dL_minute_413 : decode cL_minute 413 = .ok (.aload_n 1, 1) := by decide +kernel
theorem dL_minute_414 : decode cL_minute 414 = .ok (.iload 9, 2) := by decide +kernel
theorem dL_minute_416 : decode cL_minute 416 = .ok (.iaload, 1) := by decide +kernel
theorem dL_minute_417 : decode cL_minute 417 = .ok (.iconst 4, 1) := by decide +kernel
theorem dL_minute_418 : decode cL_minute 418 = .ok (.idiv, 1) := by decide +kernel
theorem dL_minute_419 : decode cL_minute 419 = .ok (.iconst 4, 1) := by decide +kernel
theorem dL_minute_420 : decode cL_minute 420 = .ok (.irem, 1) := by decide +kernel
theorem dL_minute_421 : decode cL_minute 421 = .ok (.isub, 1) := by decide +kernel
theorem dL_minute_422 : decode cL_minute 422 = .ok (.imul, 1) := by decide +kernel
theorem dL_minute_423 : decode cL_minute 423 = .ok (.bipush 16, 2) := by decide +kernel
theorem dL_minute_425 : decode cL_minute 425 = .ok (.aload_n 1, 1) := by decide +kernel
theorem dL_minute_426 : decode cL_minute 426 = .ok (.iload 9, 2) := by decide +kernel
theorem dL_minute_428 : decode cL_minute 428 = .ok (.iaload, 1) := by decide +kernel
theorem dL_minute_429 : decode cL_minute 429 = .ok (.bipush 16, 2) := by decide +kernel
theorem dL_minute_431 : decode cL_minute 431 = .ok (.idiv, 1) := by decide +kernel
theorem dL_minute_432 : decode cL_minute 432 = .ok (.iconst 4, 1) := by decide +kernel
theorem dL_minute_433 : decode cL_minute 433 = .ok (.irem, 1) := by decide +kernel
theorem dL_minute_434 : decode cL_minute 434 = .ok (.imul, 1) := by decide +kernel
theorem dL_minute_435 : decode cL_minute 435 = .ok (.isub, 1) := by decide +kernel
theorem dL_minute_436 : decode cL_minute 436 = .ok (.iadd, 1) := by decide +kernel
theorem dL_minute_437 : decode cL_minute 437 = .ok (.iastore, 1) := by decide +kernel
theorem dL_minute_438 : decode cL_minute 438 = .ok (.iinc 7 1, 3) := by decide +kernel
theorem dL_minute_441 : decode cL_minute 441 = .ok (.goto (-412), 3) := by decide +kernel
theorem dL_minute_444 : decode cL_minute 444 = .ok (.return_, 1) := by decide +kernel
theorem dL_isSo_0 : decode cL_isSo 0 = .ok (.aload_n 0, 1) := by decide +kernel
theorem dL_isSo_1 : decode cL_isSo 1 = .ok (.invokevirtual 126, 3) := by decide +kernel
theorem dL_isSo_4 : decode cL_isSo 4 = .ok (.aload 7, 2) := by decide +kernel
theorem dL_isSo_6 : decode cL_isSo 6 = .ok (.iconst 0, 1) := by decide +kernel
theorem dL_isSo_7 : decode cL_isSo 7 = .ok (.iaload, 1) := by decide +kernel
theorem dL_isSo_8 : decode cL_isSo 8 = .ok (.if_icmp .ne 7, 3) := by decide +kernel
theorem dL_isSo_11 : decode cL_isSo 11 = .ok (.iconst 1, 1) := by decide +kernel
theorem dL_isSo_12 : decode cL_isSo 12 = .ok (.goto 4, 3) := by decide +kernel
theorem dL_isSo_15 : decode cL_isSo 15 = .ok (.iconst 0, 1) := by decide +kernel
theorem dL_isSo_16 : decode cL_isSo 16 = .ok (.istore 8, 2) := by decide +kernel
theorem dL_isSo_18 : decode cL_isSo 18 = .ok (.iconst 0, 1) := by decide +kernel
theorem dL_isSo_19 : decode cL_isSo 19 = .ok (.istore 9, 2) := by decide +kernel
theorem dL_isSo_21 : decode cL_isSo 21 = .ok (.iload 9, 2) := by decide +kernel
theorem dL_isSo_23 : decode cL_isSo 23 = .ok (.aload 7, 2) := by decide +kernel
theorem dL_isSo_25 : decode cL_isSo 25 = .ok (.iconst 3, 1) := by decide +kernel
theorem dL_isSo_26 : decode cL_isSo 26 = .ok (.iaload, 1) := by decide +kernel
theorem dL_isSo_27 : decode cL_isSo 27 = .ok (.if_icmp .ge 317, 3) := by decide +kernel
theorem dL_isSo_30 : decode cL_isSo 30 = .ok (.iload 8, 2) := by decide +kernel
theorem dL_isSo_32 : decode cL_isSo 32 = .ok (.ifCond .eq 312, 3) := by decide +kernel
theorem dL_isSo_35 : decode cL_isSo 35 = .ok (.iconst 0, 1) := by decide +kernel
theorem dL_isSo_36 : decode cL_isSo 36 = .ok (.istore 10, 2) := by decide +kernel
theorem dL_isSo_38 : decode cL_isSo 38 = .ok (.iconst 0, 1) := by decide +kernel
theorem dL_isSo_39 : decode cL_isSo 39 = .ok (.istore 11, 2) := by decide +kernel
theorem dL_isSo_41 : decode cL_isSo 41 = .ok (.iload 11, 2) := by decide +kernel
theorem dL_isSo_43 : decode cL_isSo 43 = .ok (.aload 7, 2) := by decide +kernel
theorem dL_isSo_45 : decode cL_isSo 45 = .ok (.iconst 4, 1) := by decide +kernel
theorem dL_isSo_46 : decode cL_isSo 46 = .ok (.iaload, 1) := by decide +kernel
theorem dL_isSo_47 : decode cL_isSo 47 = .ok (.if_icmp .ge 47, 3) := by decide +kernel
theorem dL_isSo_50 : decode cL_isSo 50 = .ok (.iload 10, 2) := by decide +kernel
theorem dL_isSo_52 : decode cL_isSo 52 = .ok (.aload 4, 2) := by decide +kernel
theorem dL_isSo_54 : decode cL_isSo 54 = .ok (.iload 11, 2) := by decide +kernel
theorem dL_isSo_56 : decode cL_isSo 56 = .ok (.iaload, 1) := by decide +kernel
theorem dL_isSo_57 : decode cL_isSo 57 = .ok (.bipush 8, 2) := by decide +kernel
theorem dL_isSo_59 : decode cL_isSo 59 = .ok (.irem, 1) := by decide +kernel
theorem dL_isSo_60 : decode cL_isSo 60 = .ok (.iconst 1, 1) := by decide +kernel
theorem dL_isSo_61 : decode cL_isSo 61 = .ok (.if_icmp .ne 23, 3) := by decide +kernel
theorem dL_isSo_64 : decode cL_isSo 64 = .ok (.aload 4, 2) := by decide +kernel
theorem dL_isSo_66 : decode cL_isSo 66 = .ok (.iload 11, 2) := by decide +kernel
theorem dL_isSo_68 : decode cL_isSo 68 = .ok (.iaload, 1) := by decide +kernel
theorem dL_isSo_69 : decode cL_isSo 69 = .ok (.bipush 8, 2) := by decide +kernel
theorem dL_isSo_71 : decode cL_isSo 71 = .ok (.idiv, 1) := by decide +kernel
theorem dL_isSo_72 : decode cL_isSo 72 = .ok (.bipush 16, 2) := by decide +kernel
theorem dL_isSo_74 : decode cL_isSo 74 = .ok (.irem, 1) := by decide +kernel
theorem dL_isSo_75 : decode cL_isSo 75 = .ok (.iload 9, 2) := by decide +kernel
theorem dL_isSo_77 : decode cL_isSo 77 = .ok (.if_icmp .ne 7, 3) := by decide +kernel
theorem dL_isSo_80 : decode cL_isSo 80 = .ok (.iconst 1, 1) := by decide +kernel
theorem dL_isSo_81 : decode cL_isSo 81 = .ok (.goto 4, 3) := by decide +kernel
theorem dL_isSo_84 : decode cL_isSo 84 = .ok (.iconst 0, 1) := by decide +kernel
theorem dL_isSo_85 : decode cL_isSo 85 = .ok (.iadd, 1) := by decide +kernel
theorem dL_isSo_86 : decode cL_isSo 86 = .ok (.istore 10, 2) := by decide +kernel
theorem dL_isSo_88 : decode cL_isSo 88 = .ok (.iinc 11 1, 3) := by decide +kernel
theorem dL_isSo_91 : decode cL_isSo 91 = .ok (.goto (-50), 3) := by decide +kernel
theorem dL_isSo_94 : decode cL_isSo 94 = .ok (.aload_n 0, 1) := by decide +kernel
theorem dL_isSo_95 : decode cL_isSo 95 = .ok (.iload 9, 2) := by decide +kernel
theorem dL_isSo_97 : decode cL_isSo 97 = .ok (.iconst 0, 1) := by decide +kernel
theorem dL_isSo_98 : decode cL_isSo 98 = .ok (.invokevirtual 62, 3) := by decide +kernel
theorem dL_isSo_101 : decode cL_isSo 101 = .ok (.aload_n 1, 1) := by decide +kernel
theorem dL_isSo_102 : decode cL_isSo 102 = .ok (.iload 9, 2) := by decide +kernel
theorem dL_isSo_104 : decode cL_isSo 104 = .ok (.iaload, 1) := by decide +kernel
theorem dL_isSo_105 : decode cL_isSo 105 = .ok (.if_icmp .ne 126, 3) := by decide +kernel
theorem dL_isSo_108 : decode cL_isSo 108 = .ok (.aload_n 0, 1) := by decide +kernel
theorem dL_isSo_109 : decode cL_isSo 109 = .ok (.iload 9, 2) := by decide +kernel
theorem dL_isSo_111 : decode cL_isSo 111 = .ok (.iconst 1, 1) := by decide +kernel
theorem dL_isSo_112 : decode cL_isSo 112 = .ok (.invokevirtual 62, 3) := by decide +kernel
theorem dL_isSo_115 : decode cL_isSo 115 = .ok (.aload_n 1, 1) := by decide +kernel
theorem dL_isSo_116 : decode cL_isSo 116 = .ok (.bipush 8, 2) := by decide +kernel
theorem dL_isSo_118 : decode cL_isSo 118 = .ok (.iload 9, 2) := by decide +kernel
theorem dL_isSo_120 : decode cL_isSo 120 = .ok (.iadd, 1) := by decide +kernel
theorem dL_isSo_121 : decode cL_isSo 121 = .ok (.iaload, 1) := by decide +kernel
theorem dL_isSo_122 : decode cL_isSo 122 = .ok (.if_icmp .ne 109, 3) := by decide +kernel
theorem dL_isSo_125 : decode cL_isSo 125 = .ok (.aload_n 0, 1) := by decide +kernel
theorem dL_isSo_126 : decode cL_isSo 126 = .ok (.iload 9, 2) := by decide +kernel
theorem dL_isSo_128 : decode cL_isSo 128 = .ok (.iconst 2, 1) := by decide +kernel
theorem dL_isSo_129 : decode cL_isSo 129 = .ok (.invokevirtual 62, 3) := by decide +kernel
theorem dL_isSo_132 : decode cL_isSo 132 = .ok (.aload_n 1, 1) := by decide +kernel
theorem dL_isSo_133 : decode cL_isSo 133 = .ok (.bipush 16, 2) := by decide +kernel
theorem dL_isSo_135 : decode cL_isSo 135 = .ok (.iload 9, 2) := by decide +kernel
theorem dL_isSo_137 : decode cL_isSo 137 = .ok (.iadd, 1) := by decide +kernel
theorem dL_isSo_138 : decode cL_isSo 138 = .ok (.iaload, 1) := by decide +kernel
theorem dL_isSo_139 : decode cL_isSo 139 = .ok (.if_icmp .ne 92, 3) := by decide +kernel
theorem dL_isSo_142 : decode cL_isSo 142 = .ok (.aload_n 0, 1) := by decide +kernel
theorem dL_isSo_143 : decode cL_isSo 143 = .ok (.iload 9, 2) := by decide +kernel
theorem dL_isSo_145 : decode cL_isSo 145 = .ok (.iconst 3, 1) := by decide +kernel
theorem dL_isSo_146 : decode cL_isSo 146 = .ok (.invokevirtual 62, 3) := by decide +kernel
theorem dL_isSo_149 : decode cL_isSo 149 = .ok (.aload_n 1, 1) := by decide +kernel
theorem dL_isSo_150 : decode cL_isSo 150 = .ok (.bipush 24, 2) := by decide +kernel
theorem dL_isSo_152 : decode cL_isSo 152 = .ok (.iload 9, 2) := by decide +kernel
theorem dL_isSo_154 : decode cL_isSo 154 = .ok (.iadd, 1) := by decide +kernel
theorem dL_isSo_155 : decode cL_isSo 155 = .ok (.iaload, 1) := by decide +kernel
theorem dL_isSo_156 : decode cL_isSo 156 = .ok (.if_icmp .ne 75, 3) := by decide +kernel
theorem dL_isSo_159 : decode cL_isSo 159 = .ok (.aload_n 0, 1) := by decide +kernel
theorem dL_isSo_160 : decode cL_isSo 160 = .ok (.iload 9, 2) := by decide +kernel
theorem dL_isSo_162 : decode cL_isSo 162 = .ok (.iconst 4, 1) := by decide +kernel
theorem dL_isSo_163 : decode cL_isSo 163 = .ok (.invokevirtual 62, 3) := by decide +kernel
theorem dL_isSo_166 : decode cL_isSo 166 = .ok (.aload_n 2, 1) := by decide +kernel
theorem dL_isSo_167 : decode cL_isSo 167 = .ok (.iload 9, 2) := by decide +kernel
theorem dL_isSo_169 : decode cL_isSo 169 = .ok (.iaload, 1) := by decide +kernel
theorem dL_isSo_170 : decode cL_isSo 170 = .ok (.iconst 4, 1) := by decide +kernel
theorem dL_isSo_171 : decode cL_isSo 171 = .ok (.idiv, 1) := by decide +kernel
theorem dL_isSo_172 : decode cL_isSo 172 = .ok (.iconst 4, 1) := by decide +kernel
theorem dL_isSo_173 : decode cL_isSo 173 = .ok (.irem, 1) := by decide +kernel
theorem dL_isSo_174 : decode cL_isSo 174 = .ok (.if_icmp .ne 57, 3) := by decide +kernel
theorem dL_isSo_177 : decode cL_isSo 177 = .ok (.aload_n 0, 1) := by decide +kernel
theorem dL_isSo_178 : decode cL_isSo 178 = .ok (.iload 9, 2) := by decide +kernel
theorem dL_isSo_180 : decode cL_isSo 180 = .ok (.iconst 5, 1) := by decide +kernel
theorem dL_isSo_181 : decode cL_isSo 181 = .ok (.invokevirtual 62, 3) := by decide +kernel
theorem dL_isSo_184 : decode cL_isSo 184 = .ok (.aload_n 2, 1) := by decide +kernel
theorem dL_isSo_185 : decode cL_isSo 185 = .ok (.iload 9, 2) := by decide +kernel
theorem dL_isSo_187 : decode cL_isSo 187 = .ok (.iaload, 1) := by decide +kernel
theorem dL_isSo_188 : decode cL_isSo 188 = .ok (.bipush 16, 2) := by decide +kernel
theorem dL_isSo_190 : decode cL_isSo 190 = .ok (.idiv, 1) := by decide +kernel
theorem dL_isSo_191 : decode cL_isSo 191 = .ok (.iconst 4, 1) := by decide +kernel
theorem dL_isSo_192 : decode cL_isSo 192 = .ok (.irem, 1) := by decide +kernel
theorem dL_isSo_193 : decode cL_isSo 193 = .ok (.if_icmp .ne 38, 3) := by decide +kernel
theorem dL_isSo_196 : decode cL_isSo 196 = .ok (.aload_n 0, 1) := by decide +kernel
theorem dL_isSo_197 : decode cL_isSo 197 = .ok (.iload 9, 2) := by decide +kernel
theorem dL_isSo_199 : decode cL_isSo 199 = .ok (.bipush 6, 2) := by decide +kernel
theorem dL_isSo_201 : decode cL_isSo 201 = .ok (.invokevirtual 62, 3) := by decide +kernel
theorem dL_isSo_204 : decode cL_isSo 204 = .ok (.aload_n 2, 1) := by decide +kernel
theorem dL_isSo_205 : decode cL_isSo 205 = .ok (.iload 9, 2) := by decide +kernel
theorem dL_isSo_207 : decode cL_isSo 207 = .ok (.iaload, 1) := by decide +kernel
theorem dL_isSo_208 : decode cL_isSo 208 = .ok (.bipush 64, 2) := by decide +kernel
theorem dL_isSo_210 : decode cL_isSo 210 = .ok (.idiv, 1) := by decide +kernel
theorem dL_isSo_211 : decode cL_isSo 211 = .ok (.if_icmp .ne 20, 3) := by decide +kernel
theorem dL_isSo_214 : decode cL_isSo 214 = .ok (.aload_n 0, 1) := by decide +kernel
theorem dL_isSo_215 : decode cL_isSo 215 = .ok (.iload 9, 2) := by decide +kernel
theorem dL_isSo_217 : decode cL_isSo 217 = .ok (.bipush 7, 2) := by decide +kernel
theorem dL_isSo_219 : decode cL_isSo 219 = .ok (.invokevirtual 62, 3) := by decide +kernel
theorem dL_isSo_222 : decode cL_isSo 222 = .ok (.iload 10, 2) := by decide +kernel
theorem dL_isSo_224 : decode cL_isSo 224 = .ok (.if_icmp .ne 7, 3) := by decide +kernel
theorem dL_isSo_227 : decode cL_isSo 227 = .ok (.iconst 1, 1) := by decide +kernel
theorem dL_isSo_228 : decode cL_isSo 228 = .ok (.goto 4, 3) := by decide +kernel
theorem dL_isSo_231 : decode cL_isSo 231 = .ok (.iconst 0, 1) := by decide +kernel
theorem dL_isSo_232 : decode cL_isSo 232 = .ok (.istore 8, 2) := by decide +kernel
theorem dL_isSo_234 : decode cL_isSo 234 = .ok (.iload 8, 2) := by decide +kernel
theorem dL_isSo_236 : decode cL_isSo 236 = .ok (.ifCond .eq 99, 3) := by decide +kernel
theorem dL_isSo_239 : decode cL_isSo 239 = .ok (.aload_n 0, 1) := by decide +kernel
theorem dL_isSo_240 : decode cL_isSo 240 = .ok (.iload 9, 2) := by decide +kernel
theorem dL_isSo_242 : decode cL_isSo 242 = .ok (.iconst 1, 1) := by decide +kernel
theorem dL_isSo_243 : decode cL_isSo 243 = .ok (.invokevirtual 130, 3) := by decide +kernel
theorem dL_isSo_246 : decode cL_isSo 246 = .ok (.aload_n 1, 1) := by decide +kernel
theorem dL_isSo_247 : decode cL_isSo 247 = .ok (.bipush 32, 2) := by decide +kernel
theorem dL_isSo_249 : decode cL_isSo 249 = .ok (.iload 9, 2) := by decide +kernel
theorem dL_isSo_251 : decode cL_isSo 251 = .ok (.iadd, 1) := by decide +kernel
theorem dL_isSo_252 : decode cL_isSo 252 = .ok (.iaload, 1) := by decide +kernel
theorem dL_isSo_253 : decode cL_isSo 253 = .ok (.i2d, 1) := by decide +kernel
theorem dL_isSo_254 : decode cL_isSo 254 = .ok (.ldc2_w 28, 3) := by decide +kernel
theorem dL_isSo_257 : decode cL_isSo 257 = .ok (.ddiv, 1) := by decide +kernel
theorem dL_isSo_258 : decode cL_isSo 258 = .ok (.dcmp .l, 1) := by decide +kernel
theorem dL_isSo_259 : decode cL_isSo 259 = .ok (.ifCond .ne 76, 3) := by decide +kernel
theorem dL_isSo_262 : decode cL_isSo 262 = .ok (.aload_n 0, 1) := by decide +kernel
theorem dL_isSo_263 : decode cL_isSo 263 = .ok (.iload 9, 2) := by decide +kernel
theorem dL_isSo_265 : decode cL_isSo 265 = .ok (.iconst 0, 1) := by decide +kernel
theorem dL_isSo_266 : decode cL_isSo 266 = .ok (.invokevirtual 130, 3) := by decide +kernel
theorem dL_isSo_269 : decode cL_isSo 269 = .ok (.aload_n 1, 1) := by decide +kernel
theorem dL_isSo_270 : decode cL_isSo 270 = .ok (.iload 9, 2) := by decide +kernel
theorem dL_isSo_272 : decode cL_isSo 272 = .ok (.invokestatic 119, 3) := by decide +kernel
theorem dL_isSo_275 : decode cL_isSo 275 = .ok (.i2d, 1) := by decide +kernel
theorem dL_isSo_276 : decode cL_isSo 276 = .ok (.ldc2_w 28, 3) := by decide +kernel
theorem dL_isSo_279 : decode cL_isSo 279 = .ok (.ddiv, 1) := by decide +kernel
theorem dL_isSo_280 : decode cL_isSo 280 = .ok (.dcmp .l, 1) := by decide +kernel
theorem dL_isSo_281 : decode cL_isSo 281 = .ok (.ifCond .ne 54, 3) := by decide +kernel
theorem dL_isSo_284 : decode cL_isSo 284 = .ok (.aload_n 0, 1) := by decide +kernel
theorem dL_isSo_285 : decode cL_isSo 285 = .ok (.iload 9, 2) := by decide +kernel
theorem dL_isSo_287 : decode cL_isSo 287 = .ok (.iconst 1, 1) := by decide +kernel
theorem dL_isSo_288 : decode cL_isSo 288 = .ok (.invokevirtual 134, 3) := by decide +kernel
theorem dL_isSo_291 : decode cL_isSo 291 = .ok (.aload_n 1, 1) := by decide +kernel
theorem dL_isSo_292 : decode cL_isSo 292 = .ok (.aload_n 2, 1) := by decide +kernel
theorem dL_isSo_293 : decode cL_isSo 293 = .ok (.iload 9, 2) := by decide +kernel
theorem dL_isSo_295 : decode cL_isSo 295 = .ok (.aload_n 1, 1) := by decide +kernel
theorem dL_isSo_296 : decode cL_isSo 296 = .ok (.bipush 32, 2) := by decide +kernel
theorem dL_isSo_298 : decode cL_isSo 298 = .ok (.iload 9, 2) := by decide +kernel
theorem dL_isSo_300 : decode cL_isSo 300 = .ok (.iadd, 1) := by decide +kernel
theorem dL_isSo_301 : decode cL_isSo 301 = .ok (.iaload, 1) := by decide +kernel
theorem dL_isSo_302 : decode cL_isSo 302 = .ok (.invokestatic 104, 3) := by decide +kernel
theorem dL_isSo_305 : decode cL_isSo 305 = .ok (.if_icmp .ne 30, 3) := by decide +kernel
theorem dL_isSo_308 : decode cL_isSo 308 = .ok (.aload_n 0, 1) := by decide +kernel
theorem dL_isSo_309 : decode cL_isSo 309 = .ok (.iload 9, 2) := by decide +kernel
theorem dL_isSo_311 : decode cL_isSo 311 = .ok (.iconst 0, 1) := by decide +kernel
theorem dL_isSo_312 : decode cL_isSo 312 = .ok (.invokevirtual 134, 3) := by decide +kernel
theorem dL_isSo_315 : decode cL_isSo 315 = .ok (.aload_n 1, 1) := by decide +kernel
theorem dL_isSo_316 : decode cL_isSo 316 = .ok (.aload_n 2, 1) := by decide +kernel
theorem dL_isSo_317 : decode cL_isSo 317 = .ok (.iload 9, 2) := by decide +kernel
theorem dL_isSo_319 : decode cL_isSo 319 = .ok (.aload_n 1, 1) := by decide +kernel
theorem dL_isSo_320 : decode cL_isSo 320 = .ok (.iload 9, 2) := by decide +kernel
theorem dL_isSo_322 : decode cL_isSo 322 = .ok (.invokestatic 119, 3) := by decide +kernel
theorem dL_isSo_325 : decode cL_isSo 325 = .ok (.invokestatic 104, 3) := by decide +kernel
theorem dL_isSo_328 : decode cL_isSo 328 = .ok (.if_icmp .ne 7, 3) := by decide +kernel
theorem dL_isSo_331 : decode cL_isSo 331 = .ok (.iconst 1, 1) := by decide +kernel
theorem dL_isSo_332 : decode cL_isSo 332 = .ok (.goto 4, 3) := by decide +kernel
theorem dL_isSo_335 : decode cL_isSo 335 = .ok (.iconst 0, 1) := by decide +kernel
theorem dL_isSo_336 : decode cL_isSo 336 = .ok (.istore 8, 2) := by decide +kernel
theorem dL_isSo_338 : decode cL_isSo 338 = .ok (.iinc 9 1, 3) := by decide +kernel
theorem dL_isSo_341 : decode cL_isSo 341 = .ok (.goto (-320), 3) := by decide +kernel
theorem dL_isSo_344 : decode cL_isSo 344 = .ok (.iconst 0, 1) := by decide +kernel
theorem dL_isSo_345 : decode cL_isSo 345 = .ok (.istore 9, 2) := by decide +kernel
theorem dL_isSo_347 : decode cL_isSo 347 = .ok (.iload 9, 2) := by decide +kernel
theorem dL_isSo_349 : decode cL_isSo 349 = .ok (.aload 7, 2) := by decide +kernel
theorem dL_isSo_351 : decode cL_isSo 351 = .ok (.iconst 4, 1) := by decide +kernel
theorem dL_isSo_352 : decode cL_isSo 352 = .ok (.iaload, 1) := by decide +kernel
theorem dL_isSo_353 : decode cL_isSo 353 = .ok (.if_icmp .ge 275, 3) := by decide +kernel
theorem dL_isSo_356 : decode cL_isSo 356 = .ok (.iload 8, 2) := by decide +kernel
theorem dL_isSo_358 : decode cL_isSo 358 = .ok (.ifCond .eq 270, 3) := by decide +kernel
theorem dL_isSo_361 : decode cL_isSo 361 = .ok (.aload 7, 2) := by decide +kernel
theorem dL_isSo_363 : decode cL_isSo 363 = .ok (.iconst 0, 1) := by decide +kernel
theorem dL_isSo_364 : decode cL_isSo 364 = .ok (.iaload, 1) := by decide +kernel
theorem dL_isSo_365 : decode cL_isSo 365 = .ok (.aload 7, 2) := by decide +kernel
theorem dL_isSo_367 : decode cL_isSo 367 = .ok (.iconst 3, 1) := by decide +kernel
theorem dL_isSo_368 : decode cL_isSo 368 = .ok (.iaload, 1) := by decide +kernel
theorem dL_isSo_369 : decode cL_isSo 369 = .ok (.irem, 1) := by decide +kernel
theorem dL_isSo_370 : decode cL_isSo 370 = .ok (.istore 10, 2) := by decide +kernel
theorem dL_isSo_372 : decode cL_isSo 372 = .ok (.aload_n 0, 1) := by decide +kernel
theorem dL_isSo_373 : decode cL_isSo 373 = .ok (.iload 9, 2) := by decide +kernel
theorem dL_isSo_375 : decode cL_isSo 375 = .ok (.iconst 0, 1) := by decide +kernel
theorem dL_isSo_376 : decode cL_isSo 376 = .ok (.invokevirtual 65, 3) := by decide +kernel
theorem dL_isSo_379 : decode cL_isSo 379 = .ok (.aload 4, 2) := by decide +kernel
theorem dL_isSo_381 : decode cL_isSo 381 = .ok (.iload 9, 2) := by decide +kernel
theorem dL_isSo_383 : decode cL_isSo 383 = .ok (.iaload, 1) := by decide +kernel
theorem dL_isSo_384 : decode cL_isSo 384 = .ok (.bipush 8, 2) := by decide +kernel
theorem dL_isSo_386 : decode cL_isSo 386 = .ok (.irem, 1) := by decide +kernel
theorem dL_isSo_387 : decode cL_isSo 387 = .ok (.if_icmp .ne 232, 3) := by decide +kernel
theorem dL_isSo_390 : decode cL_isSo 390 = .ok (.aload_n 0, 1) := by decide +kernel
theorem dL_isSo_391 : decode cL_isSo 391 = .ok (.iload 9, 2) := by decide +kernel
theorem dL_isSo_393 : decode cL_isSo 393 = .ok (.iconst 1, 1) := by decide +kernel
theorem dL_isSo_394 : decode cL_isSo 394 = .ok (.invokevirtual 65, 3) := by decide +kernel
theorem dL_isSo_397 : decode cL_isSo 397 = .ok (.aload 5, 2) := by decide +kernel
theorem dL_isSo_399 : decode cL_isSo 399 = .ok (.iload 9, 2) := by decide +kernel
theorem dL_isSo_401 : decode cL_isSo 401 = .ok (.iaload, 1) := by decide +kernel
theorem dL_isSo_402 : decode cL_isSo 402 = .ok (.aload 5, 2) := by decide +kernel
theorem dL_isSo_404 : decode cL_isSo 404 = .ok (.bipush 8, 2) := by decide +kernel
theorem dL_isSo_406 : decode cL_isSo 406 = .ok (.iload 9, 2) := by decide +kernel
theorem dL_isSo_408 : decode cL_isSo 408 = .ok (.iadd, 1) := by decide +kernel
theorem dL_isSo_409 : decode cL_isSo 409 = .ok (.iaload, 1) := by decide +kernel
theorem dL_isSo_410 : decode cL_isSo 410 = .ok (.iadd, 1) := by decide +kernel
theorem dL_isSo_411 : decode cL_isSo 411 = .ok (.if_icmp .ne 208, 3) := by decide +kernel
theorem dL_isSo_414 : decode cL_isSo 414 = .ok (.aload_n 0, 1) := by decide +kernel
theorem dL_isSo_415 : decode cL_isSo 415 = .ok (.iload 9, 2) := by decide +kernel
theorem dL_isSo_417 : decode cL_isSo 417 = .ok (.iconst 2, 1) := by decide +kernel
theorem dL_isSo_418 : decode cL_isSo 418 = .ok (.invokevirtual 65, 3) := by decide +kernel
theorem dL_isSo_421 : decode cL_isSo 421 = .ok (.aload 5, 2) := by decide +kernel
theorem dL_isSo_423 : decode cL_isSo 423 = .ok (.bipush 8, 2) := by decide +kernel
theorem dL_isSo_425 : decode cL_isSo 425 = .ok (.iload 9, 2) := by decide +kernel
theorem dL_isSo_427 : decode cL_isSo 427 = .ok (.iadd, 1) := by decide +kernel
theorem dL_isSo_428 : decode cL_isSo 428 = .ok (.iaload, 1) := by decide +kernel
theorem dL_isSo_429 : decode cL_isSo 429 = .ok (.if_icmp .ne 190, 3) := by decide +kernel
theorem dL_isSo_432 : decode cL_isSo 432 = .ok (.aload_n 0, 1) := by decide +kernel
theorem dL_isSo_433 : decode cL_isSo 433 = .ok (.iload 9, 2) := by decide +kernel
theorem dL_isSo_435 : decode cL_isSo 435 = .ok (.iconst 3, 1) := by decide +kernel
theorem dL_isSo_436 : decode cL_isSo 436 = .ok (.invokevirtual 65, 3) := by decide +kernel
theorem dL_isSo_439 : decode cL_isSo 439 = .ok (.aload 4, 2) := by decide +kernel
theorem dL_isSo_441 : decode cL_isSo 441 = .ok (.iload 9, 2) := by decide +kernel
theorem dL_isSo_443 : decode cL_isSo 443 = .ok (.iaload, 1) := by decide +kernel
theorem dL_isSo_444 : decode cL_isSo 444 = .ok (.sipush 256, 3) := by decide +kernel
theorem dL_isSo_447 : decode cL_isSo 447 = .ok (.idiv, 1) := by decide +kernel
theorem dL_isSo_448 : decode cL_isSo 448 = .ok (.iconst 1, 1) := by decide +kernel
theorem dL_isSo_449 : decode cL_isSo 449 = .ok (.isub, 1) := by decide +kernel
theorem dL_isSo_450 : decode cL_isSo 450 = .ok (.if_icmp .ne 169, 3) := by decide +kernel
theorem dL_isSo_453 : decode cL_isSo 453 = .ok (.aload_n 0, 1) := by decide +kernel
theorem dL_isSo_454 : decode cL_isSo 454 = .ok (.iload 9, 2) := by decide +kernel
theorem dL_isSo_456 : decode cL_isSo 456 = .ok (.iconst 4, 1) := by decide +kernel
theorem dL_isSo_457 : decode cL_isSo 457 = .ok (.invokevirtual 65, 3) := by decide +kernel
theorem dL_isSo_460 : decode cL_isSo 460 = .ok (.aload 4, 2) := by decide +kernel
theorem dL_isSo_462 : decode cL_isSo 462 = .ok (.iload 9, 2) := by decide +kernel
theorem dL_isSo_464 : decode cL_isSo 464 = .ok (.iaload, 1) := by decide +kernel
theorem dL_isSo_465 : decode cL_isSo 465 = .ok (.bipush 8, 2) := by decide +kernel
theorem dL_isSo_467 : decode cL_isSo 467 = .ok (.idiv, 1) := by decide +kernel
theorem dL_isSo_468 : decode cL_isSo 468 = .ok (.bipush 16, 2) := by decide +kernel
theorem dL_isSo_470 : decode cL_isSo 470 = .ok (.irem, 1) := by decide +kernel
theorem dL_isSo_471 : decode cL_isSo 471 = .ok (.if_icmp .ne 148, 3) := by decide +kernel
theorem dL_isSo_474 : decode cL_isSo 474 = .ok (.aload_n 0, 1) := by decide +kernel
theorem dL_isSo_475 : decode cL_isSo 475 = .ok (.iload 9, 2) := by decide +kernel
theorem dL_isSo_477 : decode cL_isSo 477 = .ok (.iconst 5, 1) := by decide +kernel
theorem dL_isSo_478 : decode cL_isSo 478 = .ok (.invokevirtual 65, 3) := by decide +kernel
theorem dL_isSo_481 : decode cL_isSo 481 = .ok (.aload 4, 2) := by decide +kernel
theorem dL_isSo_483 : decode cL_isSo 483 = .ok (.iload 9, 2) := by decide +kernel
theorem dL_isSo_485 : decode cL_isSo 485 = .ok (.iaload, 1) := by decide +kernel
theorem dL_isSo_486 : decode cL_isSo 486 = .ok (.sipush 128, 3) := by decide +kernel
theorem dL_isSo_489 : decode cL_isSo 489 = .ok (.idiv, 1) := by decide +kernel
theorem dL_isSo_490 : decode cL_isSo 490 = .ok (.iconst 2, 1) := by decide +kernel
theorem dL_isSo_491 : decode cL_isSo 491 = .ok (.irem, 1) := by decide +kernel
theorem dL_isSo_492 : decode cL_isSo 492 = .ok (.if_icmp .ne 127, 3) := by decide +kernel
theorem dL_isSo_495 : decode cL_isSo 495 = .ok (.aload_n 0, 1) := by decide +kernel
theorem dL_isSo_496 : decode cL_isSo 496 = .ok (.iload 9, 2) := by decide +kernel
theorem dL_isSo_498 : decode cL_isSo 498 = .ok (.bipush 6, 2) := by decide +kernel
theorem dL_isSo_500 : decode cL_isSo 500 = .ok (.invokevirtual 65, 3) := by decide +kernel
theorem dL_isSo_503 : decode cL_isSo 503 = .ok (.aload 4, 2) := by decide +kernel
theorem dL_isSo_505 : decode cL_isSo 505 = .ok (.iload 9, 2) := by decide +kernel
theorem dL_isSo_507 : decode cL_isSo 507 = .ok (.iaload, 1) := by decide +kernel
theorem dL_isSo_508 : decode cL_isSo 508 = .ok (.bipush 8, 2) := by decide +kernel
theorem dL_isSo_510 : decode cL_isSo 510 = .ok (.irem, 1) := by decide +kernel
theorem dL_isSo_511 : decode cL_isSo 511 = .ok (.iconst 1, 1) := by decide +kernel
theorem dL_isSo_512 : decode cL_isSo 512 = .ok (.if_icmp .ne 14, 3) := by decide +kernel
theorem dL_isSo_515 : decode cL_isSo 515 = .ok (.aload 5, 2) := by decide +kernel
theorem dL_isSo_517 : decode cL_isSo 517 = .ok (.bipush 32, 2) := by decide +kernel
theorem dL_isSo_519 : decode cL_isSo 519 = .ok (.iload 9, 2) := by decide +kernel
theorem dL_isSo_521 : decode cL_isSo 521 = .ok (.iadd, 1) := by decide +kernel
theorem dL_isSo_522 : decode cL_isSo 522 = .ok (.iaload, 1) := by decide +kernel
theorem dL_isSo_523 : decode cL_isSo 523 = .ok (.goto 4, 3) := by decide +kernel
theorem dL_isSo_526 : decode cL_isSo 526 = .ok (.iconst (-1), 1) := by decide +kernel
theorem dL_isSo_527 : decode cL_isSo 527 = .ok (.if_icmp .ne 92, 3) := by decide +kernel
theorem dL_isSo_530 : decode cL_isSo 530 = .ok (.aload_n 0, 1) := by decide +kernel
theorem dL_isSo_531 : decode cL_isSo 531 = .ok (.iload 9, 2) := by decide +kernel
theorem dL_isSo_533 : decode cL_isSo 533 = .ok (.invokevirtual 68, 3) := by decide +kernel
theorem dL_isSo_536 : decode cL_isSo 536 = .ok (.aload_n 1, 1) := by decide +kernel
theorem dL_isSo_537 : decode cL_isSo 537 = .ok (.aload_n 2, 1) := by decide +kernel
theorem dL_isSo_538 : decode cL_isSo 538 = .ok (.aload 4, 2) := by decide +kernel
theorem dL_isSo_540 : decode cL_isSo 540 = .ok (.aload 5, 2) := by decide +kernel
theorem dL_isSo_542 : decode cL_isSo 542 = .ok (.aload 7, 2) := by decide +kernel
theorem dL_isSo_544 : decode cL_isSo 544 = .ok (.iload 9, 2) := by decide +kernel
theorem dL_isSo_546 : decode cL_isSo 546 = .ok (.invokestatic 116, 3) := by decide +kernel
theorem dL_isSo_549 : decode cL_isSo 549 = .ok (.if_icmp .ne 70, 3) := by decide +kernel
theorem dL_isSo_552 : decode cL_isSo 552 = .ok (.aload_n 0, 1) := by decide +kernel
theorem dL_isSo_553 : decode cL_isSo 553 = .ok (.iload 9, 2) := by decide +kernel
theorem dL_isSo_555 : decode cL_isSo 555 = .ok (.iload 10, 2) := by decide +kernel
theorem dL_isSo_557 : decode cL_isSo 557 = .ok (.invokevirtual 137, 3) := by decide +kernel
theorem dL_isSo_560 : decode cL_isSo 560 = .ok (.aload_n 2, 1) := by decide +kernel
theorem dL_isSo_561 : decode cL_isSo 561 = .ok (.aload_n 3, 1) := by decide +kernel
theorem dL_isSo_562 : decode cL_isSo 562 = .ok (.aload 5, 2) := by decide +kernel
theorem dL_isSo_564 : decode cL_isSo 564 = .ok (.iload 9, 2) := by decide +kernel
theorem dL_isSo_566 : decode cL_isSo 566 = .ok (.iload 10, 2) := by decide +kernel
theorem dL_isSo_568 : decode cL_isSo 568 = .ok (.invokestatic 94, 3) := by decide +kernel
theorem dL_isSo_571 : decode cL_isSo 571 = .ok (.if_icmp .ne 48, 3) := by decide +kernel
theorem dL_isSo_574 : decode cL_isSo 574 = .ok (.aload_n 0, 1) := by decide +kernel
theorem dL_isSo_575 : decode cL_isSo 575 = .ok (.iload 9, 2) := by decide +kernel
theorem dL_isSo_577 : decode cL_isSo 577 = .ok (.iload 10, 2) := by decide +kernel
theorem dL_isSo_579 : decode cL_isSo 579 = .ok (.invokevirtual 139, 3) := by decide +kernel
theorem dL_isSo_582 : decode cL_isSo 582 = .ok (.aload_n 2, 1) := by decide +kernel
theorem dL_isSo_583 : decode cL_isSo 583 = .ok (.aload_n 3, 1) := by decide +kernel
theorem dL_isSo_584 : decode cL_isSo 584 = .ok (.aload 5, 2) := by decide +kernel
theorem dL_isSo_586 : decode cL_isSo 586 = .ok (.iload 9, 2) := by decide +kernel
theorem dL_isSo_588 : decode cL_isSo 588 = .ok (.iload 10, 2) := by decide +kernel
theorem dL_isSo_590 : decode cL_isSo 590 = .ok (.invokestatic 123, 3) := by decide +kernel
theorem dL_isSo_593 : decode cL_isSo 593 = .ok (.if_icmp .ne 26, 3) := by decide +kernel
theorem dL_isSo_596 : decode cL_isSo 596 = .ok (.aload_n 0, 1) := by decide +kernel
theorem dL_isSo_597 : decode cL_isSo 597 = .ok (.iload 9, 2) := by decide +kernel
theorem dL_isSo_599 : decode cL_isSo 599 = .ok (.iload 10, 2) := by decide +kernel
theorem dL_isSo_601 : decode cL_isSo 601 = .ok (.invokevirtual 141, 3) := by decide +kernel
theorem dL_isSo_604 : decode cL_isSo 604 = .ok (.aload_n 0, 1) := by decide +kernel
theorem dL_isSo_605 : decode cL_isSo 605 = .ok (.iload 9, 2) := by decide +kernel
theorem dL_isSo_607 : decode cL_isSo 607 = .ok (.iload 10, 2) := by decide +kernel
theorem dL_isSo_609 : decode cL_isSo 609 = .ok (.invokevirtual 139, 3) := by decide +kernel
theorem dL_isSo_612 : decode cL_isSo 612 = .ok (.if_icmp .ne 7, 3) := by decide +kernel
theorem dL_isSo_615 : decode cL_isSo 615 = .ok (.iconst 1, 1) := by decide +kernel
theorem dL_isSo_616 : decode cL_isSo 616 = .ok (.goto 4, 3) := by decide +kernel
theorem dL_isSo_619 : decode cL_isSo 619 = .ok (.iconst 0, 1) := by decide +kernel
theorem dL_isSo_620 : decode cL_isSo 620 = .ok (.istore 8, 2) := by decide +kernel
theorem dL_isSo_622 : decode cL_isSo 622 = .ok (.iinc 9 1, 3) := by decide +kernel
theorem dL_isSo_625 : decode cL_isSo 625 = .ok (.goto (-278), 3) := by decide +kernel
theorem dL_isSo_628 : decode cL_isSo 628 = .ok (.iconst 0, 1) := by decide +kernel
theorem dL_isSo_629 : decode cL_isSo 629 = .ok (.istore 9, 2) := by decide +kernel
theorem dL_isSo_631 : decode cL_isSo 631 = .ok (.iconst 0, 1) := by decide +kernel
theorem dL_isSo_632 : decode cL_isSo 632 = .ok (.istore 10, 2) := by decide +kernel
theorem dL_isSo_634 : decode cL_isSo 634 = .ok (.iload 10, 2) := by decide +kernel
theorem dL_isSo_636 : decode cL_isSo 636 = .ok (.iconst 3, 1) := by decide +kernel
theorem dL_isSo_637 : decode cL_isSo 637 = .ok (.if_icmp .ge 296, 3) := by decide +kernel
theorem dL_isSo_640 : decode cL_isSo 640 = .ok (.iload 8, 2) := by decide +kernel
theorem dL_isSo_642 : decode cL_isSo 642 = .ok (.ifCond .eq 291, 3) := by decide +kernel
theorem dL_isSo_645 : decode cL_isSo 645 = .ok (.iconst 0, 1) := by decide +kernel
theorem dL_isSo_646 : decode cL_isSo 646 = .ok (.istore 11, 2) := by decide +kernel
theorem dL_isSo_648 : decode cL_isSo 648 = .ok (.iconst 0, 1) := by decide +kernel
theorem dL_isSo_649 : decode cL_isSo 649 = .ok (.istore 12, 2) := by decide +kernel
theorem dL_isSo_651 : decode cL_isSo 651 = .ok (.iconst 0, 1) := by decide +kernel
theorem dL_isSo_652 : decode cL_isSo 652 = .ok (.istore 13, 2) := by decide +kernel
theorem dL_isSo_654 : decode cL_isSo 654 = .ok (.iload 13, 2) := by decide +kernel
theorem dL_isSo_656 : decode cL_isSo 656 = .ok (.aload 7, 2) := by decide +kernel
theorem dL_isSo_658 : decode cL_isSo 658 = .ok (.iconst 4, 1) := by decide +kernel
theorem dL_isSo_659 : decode cL_isSo 659 = .ok (.iaload, 1) := by decide +kernel
theorem dL_isSo_660 : decode cL_isSo 660 = .ok (.if_icmp .ge 99, 3) := by decide +kernel
theorem dL_isSo_663 : decode cL_isSo 663 = .ok (.iload 11, 2) := by decide +kernel
theorem dL_isSo_665 : decode cL_isSo 665 = .ok (.aload 4, 2) := by decide +kernel
theorem dL_isSo_667 : decode cL_isSo 667 = .ok (.iload 13, 2) := by decide +kernel
theorem dL_isSo_669 : decode cL_isSo 669 = .ok (.iaload, 1) := by decide +kernel
theorem dL_isSo_670 : decode cL_isSo 670 = .ok (.sipush 256, 3) := by decide +kernel
theorem dL_isSo_673 : decode cL_isSo 673 = .ok (.idiv, 1) := by decide +kernel
theorem dL_isSo_674 : decode cL_isSo 674 = .ok (.iconst 1, 1) := by decide +kernel
theorem dL_isSo_675 : decode cL_isSo 675 = .ok (.isub, 1) := by decide +kernel
theorem dL_isSo_676 : decode cL_isSo 676 = .ok (.iload 10, 2) := by decide +kernel
theorem dL_isSo_678 : decode cL_isSo 678 = .ok (.if_icmp .ne 26, 3) := by decide +kernel
theorem dL_isSo_681 : decode cL_isSo 681 = .ok (.aload 4, 2) := by decide +kernel
theorem dL_isSo_683 : decode cL_isSo 683 = .ok (.iload 13, 2) := by decide +kernel
theorem dL_isSo_685 : decode cL_isSo 685 = .ok (.iaload, 1) := by decide +kernel
theorem dL_isSo_686 : decode cL_isSo 686 = .ok (.bipush 8, 2) := by decide +kernel
theorem dL_isSo_688 : decode cL_isSo 688 = .ok (.irem, 1) := by decide +kernel
theorem dL_isSo_689 : decode cL_isSo 689 = .ok (.iconst 4, 1) := by decide +kernel
theorem dL_isSo_690 : decode cL_isSo 690 = .ok (.if_icmp .ge 14, 3) := by decide +kernel
theorem dL_isSo_693 : decode cL_isSo 693 = .ok (.aload 5, 2) := by decide +kernel
theorem dL_isSo_695 : decode cL_isSo 695 = .ok (.bipush 8, 2) := by decide +kernel
theorem dL_isSo_697 : decode cL_isSo 697 = .ok (.iload 13, 2) := by decide +kernel
theorem dL_isSo_699 : decode cL_isSo 699 = .ok (.iadd, 1) := by decide +kernel
theorem dL_isSo_700 : decode cL_isSo 700 = .ok (.iaload, 1) := by decide +kernel
theorem dL_isSo_701 : decode cL_isSo 701 = .ok (.goto 4, 3) := by decide +kernel
theorem dL_isSo_704 : decode cL_isSo 704 = .ok (.iconst 0, 1) := by decide +kernel
theorem dL_isSo_705 : decode cL_isSo 705 = .ok (.iadd, 1) := by decide +kernel
theorem dL_isSo_706 : decode cL_isSo 706 = .ok (.istore 11, 2) := by decide +kernel
theorem dL_isSo_708 : decode cL_isSo 708 = .ok (.iload 12, 2) := by decide +kernel
theorem dL_isSo_710 : decode cL_isSo 710 = .ok (.aload 4, 2) := by decide +kernel
theorem dL_isSo_712 : decode cL_isSo 712 = .ok (.iload 13, 2) := by decide +kernel
theorem dL_isSo_714 : decode cL_isSo 714 = .ok (.iaload, 1) := by decide +kernel
theorem dL_isSo_715 : decode cL_isSo 715 = .ok (.sipush 256, 3) := by decide +kernel
theorem dL_isSo_718 : decode cL_isSo 718 = .ok (.idiv, 1) := by decide +kernel
theorem dL_isSo_719 : decode cL_isSo 719 = .ok (.iconst 1, 1) := by decide +kernel
theorem dL_isSo_720 : decode cL_isSo 720 = .ok (.isub, 1) := by decide +kernel
theorem dL_isSo_721 : decode cL_isSo 721 = .ok (.iload 10, 2) := by decide +kernel
theorem dL_isSo_723 : decode cL_isSo 723 = .ok (.if_icmp .ne 26, 3) := by decide +kernel
theorem dL_isSo_726 : decode cL_isSo 726 = .ok (.aload 4, 2) := by decide +kernel
theorem dL_isSo_728 : decode cL_isSo 728 = .ok (.iload 13, 2) := by decide +kernel
theorem dL_isSo_730 : decode cL_isSo 730 = .ok (.iaload, 1) := by decide +kernel
theorem dL_isSo_731 : decode cL_isSo 731 = .ok (.bipush 8, 2) := by decide +kernel
theorem dL_isSo_733 : decode cL_isSo 733 = .ok (.irem, 1) := by decide +kernel
theorem dL_isSo_734 : decode cL_isSo 734 = .ok (.iconst 4, 1) := by decide +kernel
theorem dL_isSo_735 : decode cL_isSo 735 = .ok (.if_icmp .ne 14, 3) := by decide +kernel
theorem dL_isSo_738 : decode cL_isSo 738 = .ok (.aload 5, 2) := by decide +kernel
theorem dL_isSo_740 : decode cL_isSo 740 = .ok (.bipush 8, 2) := by decide +kernel
theorem dL_isSo_742 : decode cL_isSo 742 = .ok (.iload 13, 2) := by decide +kernel
theorem dL_isSo_744 : decode cL_isSo 744 = .ok (.iadd, 1) := by decide +kernel
theorem dL_isSo_745 : decode cL_isSo 745 = .ok (.iaload, 1) := by decide +kernel
theorem dL_isSo_746 : decode cL_isSo 746 = .ok (.goto 4, 3) := by decide +kernel
theorem dL_isSo_749 : decode cL_isSo 749 = .ok (.iconst 0, 1) := by decide +kernel
theorem dL_isSo_750 : decode cL_isSo 750 = .ok (.iadd, 1) := by decide +kernel
theorem dL_isSo_751 : decode cL_isSo 751 = .ok (.istore 12, 2) := by decide +kernel
theorem dL_isSo_753 : decode cL_isSo 753 = .ok (.iinc 13 1, 3) := by decide +kernel
theorem dL_isSo_756 : decode cL_isSo 756 = .ok (.goto (-102), 3) := by decide +kernel
theorem dL_isSo_759 : decode cL_isSo 759 = .ok (.aload 6, 2) := by decide +kernel
theorem dL_isSo_761 : decode cL_isSo 761 = .ok (.bipush 6, 2) := by decide +kernel
theorem dL_isSo_763 : decode cL_isSo 763 = .ok (.iload 10, 2) := by decide +kernel
theorem dL_isSo_765 : decode cL_isSo 765 = .ok (.iadd, 1) := by decide +kernel
theorem dL_isSo_766 : decode cL_isSo 766 = .ok (.iaload, 1) := by decide +kernel
theorem dL_isSo_767 : decode cL_isSo 767 = .ok (.aload 6, 2) := by decide +kernel
theorem dL_isSo_769 : decode cL_isSo 769 = .ok (.iconst 3, 1) := by decide +kernel
theorem dL_isSo_770 : decode cL_isSo 770 = .ok (.iload 10, 2) := by decide +kernel
theorem dL_isSo_772 : decode cL_isSo 772 = .ok (.iadd, 1) := by decide +kernel
theorem dL_isSo_773 : decode cL_isSo 773 = .ok (.iaload, 1) := by decide +kernel
theorem dL_isSo_774 : decode cL_isSo 774 = .ok (.if_icmp .le 22, 3) := by decide +kernel
theorem dL_isSo_777 : decode cL_isSo 777 = .ok (.aload 6, 2) := by decide +kernel
theorem dL_isSo_779 : decode cL_isSo 779 = .ok (.bipush 6, 2) := by decide +kernel
theorem dL_isSo_781 : decode cL_isSo 781 = .ok (.iload 10, 2) := by decide +kernel
theorem dL_isSo_783 : decode cL_isSo 783 = .ok (.iadd, 1) := by decide +kernel
theorem dL_isSo_784 : decode cL_isSo 784 = .ok (.iaload, 1) := by decide +kernel
theorem dL_isSo_785 : decode cL_isSo 785 = .ok (.aload 6, 2) := by decide +kernel
theorem dL_isSo_787 : decode cL_isSo 787 = .ok (.iconst 3, 1) := by decide +kernel
theorem dL_isSo_788 : decode cL_isSo 788 = .ok (.iload 10, 2) := by decide +kernel
theorem dL_isSo_790 : decode cL_isSo 790 = .ok (.iadd, 1) := by decide +kernel
theorem dL_isSo_791 : decode cL_isSo 791 = .ok (.iaload, 1) := by decide +kernel
theorem dL_isSo_792 : decode cL_isSo 792 = .ok (.isub, 1) := by decide +kernel
theorem dL_isSo_793 : decode cL_isSo 793 = .ok (.goto 4, 3) := by decide +kernel
theorem dL_isSo_796 : decode cL_isSo 796 = .ok (.iconst 0, 1) := by decide +kernel
theorem dL_isSo_797 : decode cL_isSo 797 = .ok (.istore 13, 2) := by decide +kernel
theorem dL_isSo_799 : decode cL_isSo 799 = .ok (.iload 9, 2) := by decide +kernel
theorem dL_isSo_801 : decode cL_isSo 801 = .ok (.aload 6, 2) := by decide +kernel
theorem dL_isSo_803 : decode cL_isSo 803 = .ok (.iconst 3, 1) := by decide +kernel
theorem dL_isSo_804 : decode cL_isSo 804 = .ok (.iload 10, 2) := by decide +kernel
theorem dL_isSo_806 : decode cL_isSo 806 = .ok (.iadd, 1) := by decide +kernel
theorem dL_isSo_807 : decode cL_isSo 807 = .ok (.iaload, 1) := by decide +kernel
theorem dL_isSo_808 : decode cL_isSo 808 = .ok (.bipush 40, 2) := by decide +kernel
theorem dL_isSo_810 : decode cL_isSo 810 = .ok (.iload 13, 2) := by decide +kernel
theorem dL_isSo_812 : decode cL_isSo 812 = .ok (.imul, 1) := by decide +kernel
theorem dL_isSo_813 : decode cL_isSo 813 = .ok (.iadd, 1) := by decide +kernel
theorem dL_isSo_814 : decode cL_isSo 814 = .ok (.iadd, 1) := by decide +kernel
theorem dL_isSo_815 : decode cL_isSo 815 = .ok (.istore 9, 2) := by decide +kernel
theorem dL_isSo_817 : decode cL_isSo 817 = .ok (.aload_n 0, 1) := by decide +kernel
theorem dL_isSo_818 : decode cL_isSo 818 = .ok (.iload 10, 2) := by decide +kernel
theorem dL_isSo_820 : decode cL_isSo 820 = .ok (.iconst 0, 1) := by decide +kernel
theorem dL_isSo_821 : decode cL_isSo 821 = .ok (.invokevirtual 71, 3) := by decide +kernel
theorem dL_isSo_824 : decode cL_isSo 824 = .ok (.aload 6, 2) := by decide +kernel
theorem dL_isSo_826 : decode cL_isSo 826 = .ok (.iload 10, 2) := by decide +kernel
theorem dL_isSo_828 : decode cL_isSo 828 = .ok (.iaload, 1) := by decide +kernel
theorem dL_isSo_829 : decode cL_isSo 829 = .ok (.if_icmp .ne 95, 3) := by decide +kernel
theorem dL_isSo_832 : decode cL_isSo 832 = .ok (.aload_n 0, 1) := by decide +kernel
theorem dL_isSo_833 : decode cL_isSo 833 = .ok (.iload 10, 2) := by decide +kernel
theorem dL_isSo_835 : decode cL_isSo 835 = .ok (.invokevirtual 144, 3) := by decide +kernel
theorem dL_isSo_838 : decode cL_isSo 838 = .ok (.aload 6, 2) := by decide +kernel
theorem dL_isSo_840 : decode cL_isSo 840 = .ok (.iload 10, 2) := by decide +kernel
theorem dL_isSo_842 : decode cL_isSo 842 = .ok (.iaload, 1) := by decide +kernel
theorem dL_isSo_843 : decode cL_isSo 843 = .ok (.if_icmp .ne 81, 3) := by decide +kernel
theorem dL_isSo_846 : decode cL_isSo 846 = .ok (.aload_n 0, 1) := by decide +kernel
theorem dL_isSo_847 : decode cL_isSo 847 = .ok (.iload 10, 2) := by decide +kernel
theorem dL_isSo_849 : decode cL_isSo 849 = .ok (.iconst 1, 1) := by decide +kernel
theorem dL_isSo_850 : decode cL_isSo 850 = .ok (.invokevirtual 71, 3) := by decide +kernel
theorem dL_isSo_853 : decode cL_isSo 853 = .ok (.aload 6, 2) := by decide +kernel
theorem dL_isSo_855 : decode cL_isSo 855 = .ok (.iconst 3, 1) := by decide +kernel
theorem dL_isSo_856 : decode cL_isSo 856 = .ok (.iload 10, 2) := by decide +kernel
theorem dL_isSo_858 : decode cL_isSo 858 = .ok (.iadd, 1) := by decide +kernel
theorem dL_isSo_859 : decode cL_isSo 859 = .ok (.iaload, 1) := by decide +kernel
theorem dL_isSo_860 : decode cL_isSo 860 = .ok (.if_icmp .ne 64, 3) := by decide +kernel
theorem dL_isSo_863 : decode cL_isSo 863 = .ok (.aload_n 0, 1) := by decide +kernel
theorem dL_isSo_864 : decode cL_isSo 864 = .ok (.iload 10, 2) := by decide +kernel
theorem dL_isSo_866 : decode cL_isSo 866 = .ok (.iconst 2, 1) := by decide +kernel
theorem dL_isSo_867 : decode cL_isSo 867 = .ok (.invokevirtual 71, 3) := by decide +kernel
theorem dL_isSo_870 : decode cL_isSo 870 = .ok (.iload 11, 2) := by decide +kernel
theorem dL_isSo_872 : decode cL_isSo 872 = .ok (.if_icmp .ne 52, 3) := by decide +kernel
theorem dL_isSo_875 : decode cL_isSo 875 = .ok (.aload_n 0, 1) := by decide +kernel
theorem dL_isSo_876 : decode cL_isSo 876 = .ok (.iload 10, 2) := by decide +kernel
theorem dL_isSo_878 : decode cL_isSo 878 = .ok (.iconst 3, 1) := by decide +kernel
theorem dL_isSo_879 : decode cL_isSo 879 = .ok (.invokevirtual 71, 3) := by decide +kernel
theorem dL_isSo_882 : decode cL_isSo 882 = .ok (.iload 12, 2) := by decide +kernel
theorem dL_isSo_884 : decode cL_isSo 884 = .ok (.if_icmp .ne 40, 3) := by decide +kernel
theorem dL_isSo_887 : decode cL_isSo 887 = .ok (.aload_n 0, 1) := by decide +kernel
theorem dL_isSo_888 : decode cL_isSo 888 = .ok (.iload 10, 2) := by decide +kernel
theorem dL_isSo_890 : decode cL_isSo 890 = .ok (.iconst 4, 1) := by decide +kernel
theorem dL_isSo_891 : decode cL_isSo 891 = .ok (.invokevirtual 71, 3) := by decide +kernel
theorem dL_isSo_894 : decode cL_isSo 894 = .ok (.iload 13, 2) := by decide +kernel
theorem dL_isSo_896 : decode cL_isSo 896 = .ok (.if_icmp .ne 28, 3) := by decide +kernel
theorem dL_isSo_899 : decode cL_isSo 899 = .ok (.aload 6, 2) := by decide +kernel
theorem dL_isSo_901 : decode cL_isSo 901 = .ok (.iload 10, 2) := by decide +kernel
theorem dL_isSo_903 : decode cL_isSo 903 = .ok (.iaload, 1) := by decide +kernel
theorem dL_isSo_904 : decode cL_isSo 904 = .ok (.aload 6, 2) := by decide +kernel
theorem dL_isSo_906 : decode cL_isSo 906 = .ok (.iconst 3, 1) := by decide +kernel
theorem dL_isSo_907 : decode cL_isSo 907 = .ok (.iload 10, 2) := by decide +kernel
theorem dL_isSo_909 : decode cL_isSo 909 = .ok (.iadd, 1) := by decide +kernel
theorem dL_isSo_910 : decode cL_isSo 910 = .ok (.iaload, 1) := by decide +kernel
theorem dL_isSo_911 : decode cL_isSo 911 = .ok (.iload 11, 2) := by decide +kernel
theorem dL_isSo_913 : decode cL_isSo 913 = .ok (.iadd, 1) := by decide +kernel
theorem dL_isSo_914 : decode cL_isSo 914 = .ok (.iload 12, 2) := by decide +kernel
theorem dL_isSo_916 : decode cL_isSo 916 = .ok (.iadd, 1) := by decide +kernel
theorem dL_isSo_917 : decode cL_isSo 917 = .ok (.if_icmp .ne 7, 3) := by decide +kernel
theorem dL_isSo_920 : decode cL_isSo 920 = .ok (.iconst 1, 1) := by decide +kernel
theorem dL_isSo_921 : decode cL_isSo 921 = .ok (.goto 4, 3) := by decide +kernel
theorem dL_isSo_924 : decode cL_isSo 924 = .ok (.iconst 0, 1) := by decide +kernel
theorem dL_isSo_925 : decode cL_isSo 925 = .ok (.istore 8, 2) := by decide +kernel
theorem dL_isSo_927 : decode cL_isSo 927 = .ok (.iinc 10 1, 3) := by decide +kernel
theorem dL_isSo_930 : decode cL_isSo 930 = .ok (.goto (-296), 3) := by decide +kernel
theorem dL_isSo_933 : decode cL_isSo 933 = .ok (.iload 8, 2) := by decide +kernel
theorem dL_isSo_935 : decode cL_isSo 935 = .ok (.ifCond .eq 66, 3) := by decide +kernel
theorem dL_isSo_938 : decode cL_isSo 938 = .ok (.aload_n 0, 1) := by decide +kernel
theorem dL_isSo_939 : decode cL_isSo 939 = .ok (.invokevirtual 147, 3) := by decide +kernel
theorem dL_isSo_942 : decode cL_isSo 942 = .ok (.iload 9, 2) := by decide +kernel
theorem dL_isSo_944 : decode cL_isSo 944 = .ok (.i2l, 1) := by decide +kernel
theorem dL_isSo_945 : decode cL_isSo 945 = .ok (.lcmp, 1) := by decide +kernel
theorem dL_isSo_946 : decode cL_isSo 946 = .ok (.ifCond .ne 55, 3) := by decide +kernel
theorem dL_isSo_949 : decode cL_isSo 949 = .ok (.aload_n 0, 1) := by decide +kernel
theorem dL_isSo_950 : decode cL_isSo 950 = .ok (.bipush 15, 2) := by decide +kernel
theorem dL_isSo_952 : decode cL_isSo 952 = .ok (.aload 7, 2) := by decide +kernel
theorem dL_isSo_954 : decode cL_isSo 954 = .ok (.iconst 3, 1) := by decide +kernel
theorem dL_isSo_955 : decode cL_isSo 955 = .ok (.iaload, 1) := by decide +kernel
theorem dL_isSo_956 : decode cL_isSo 956 = .ok (.iconst 0, 1) := by decide +kernel
theorem dL_isSo_957 : decode cL_isSo 957 = .ok (.iconst 0, 1) := by decide +kernel
theorem dL_isSo_958 : decode cL_isSo 958 = .ok (.invokestatic 151, 3) := by decide +kernel
theorem dL_isSo_961 : decode cL_isSo 961 = .ok (.ldc 76, 2) := by decide +kernel
theorem dL_isSo_963 : decode cL_isSo 963 = .ok (.if_icmp .ne 38, 3) := by decide +kernel
theorem dL_isSo_966 : decode cL_isSo 966 = .ok (.aload_n 0, 1) := by decide +kernel
theorem dL_isSo_967 : decode cL_isSo 967 = .ok (.bipush 16, 2) := by decide +kernel
theorem dL_isSo_969 : decode cL_isSo 969 = .ok (.aload 7, 2) := by decide +kernel
theorem dL_isSo_971 : decode cL_isSo 971 = .ok (.iconst 4, 1) := by decide +kernel
theorem dL_isSo_972 : decode cL_isSo 972 = .ok (.iaload, 1) := by decide +kernel
theorem dL_isSo_973 : decode cL_isSo 973 = .ok (.iconst 0, 1) := by decide +kernel
theorem dL_isSo_974 : decode cL_isSo 974 = .ok (.iconst 0, 1) := by decide +kernel
theorem dL_isSo_975 : decode cL_isSo 975 = .ok (.invokestatic 151, 3) := by decide +kernel
theorem dL_isSo_978 : decode cL_isSo 978 = .ok (.ldc 76, 2) := by decide +kernel
theorem dL_isSo_980 : decode cL_isSo 980 = .ok (.if_icmp .ne 21, 3) := by decide +kernel
theorem dL_isSo_983 : decode cL_isSo 983 = .ok (.aload_n 0, 1) := by decide +kernel
theorem dL_isSo_984 : decode cL_isSo 984 = .ok (.bipush 18, 2) := by decide +kernel
theorem dL_isSo_986 : decode cL_isSo 986 = .ok (.iconst 3, 1) := by decide +kernel
theorem dL_isSo_987 : decode cL_isSo 987 = .ok (.iconst 0, 1) := by decide +kernel
theorem dL_isSo_988 : decode cL_isSo 988 = .ok (.iconst 0, 1) := by decide +kernel
theorem dL_isSo_989 : decode cL_isSo 989 = .ok (.invokestatic 151, 3) := by decide +kernel
theorem dL_isSo_992 : decode cL_isSo 992 = .ok (.ldc 76, 2) := by decide +kernel
theorem dL_isSo_994 : decode cL_isSo 994 = .ok (.if_icmp .ne 7, 3) := by decide +kernel
theorem dL_isSo_997 : decode cL_isSo 997 = .ok (.iconst 1, 1) := by decide +kernel
theorem dL_isSo_998 : decode cL_isSo 998 = .ok (.goto 4, 3) := by decide +kernel
theorem dL_isSo_1001 : decode cL_isSo 1001 = .ok (.iconst 0, 1) := by decide +kernel
theorem dL_isSo_1002 : decode cL_isSo 1002 = .ok (.ireturn, 1) := by decide +kernel
theorem dL_isPiece_0 : decode cL_isPiece 0 = .ok (.iload 5, 2) := by decide +kernel
theorem dL_isPiece_2 : decode cL_isPiece 2 = .ok (.ifCond .ne 268, 3) := by decide +kernel
theorem dL_isPiece_5 : decode cL_isPiece 5 = .ok (.aload 4, 2) := by decide +kernel
theorem dL_isPiece_7 : decode cL_isPiece 7 = .ok (.iconst 3, 1) := by decide +kernel
theorem dL_isPiece_8 : decode cL_isPiece 8 = .ok (.iaload, 1) := by decide +kernel
theorem dL_isPiece_9 : decode cL_isPiece 9 = .ok (.bipush 8, 2) := by decide +kernel
theorem dL_isPiece_11 : decode cL_isPiece 11 = .ok (.if_icmp .ge 259, 3) := by decide +kernel
theorem dL_isPiece_14 : decode cL_isPiece 14 = .ok (.iload 6, 2) := by decide +kernel
theorem dL_isPiece_16 : decode cL_isPiece 16 = .ok (.bipush 9, 2) := by decide +kernel
theorem dL_isPiece_18 : decode cL_isPiece 18 = .ok (.irem, 1) := by decide +kernel
theorem dL_isPiece_19 : decode cL_isPiece 19 = .ok (.bipush 8, 2) := by decide +kernel
theorem dL_isPiece_21 : decode cL_isPiece 21 = .ok (.if_icmp .ne 7, 3) := by decide +kernel
theorem dL_isPiece_24 : decode cL_isPiece 24 = .ok (.iconst 3, 1) := by decide +kernel
theorem dL_isPiece_25 : decode cL_isPiece 25 = .ok (.goto 7, 3) := by decide +kernel
theorem dL_isPiece_28 : decode cL_isPiece 28 = .ok (.iload 6, 2) := by decide +kernel
theorem dL_isPiece_30 : decode cL_isPiece 30 = .ok (.iconst 3, 1) := by decide +kernel
theorem dL_isPiece_31 : decode cL_isPiece 31 = .ok (.irem, 1) := by decide +kernel
theorem dL_isPiece_32 : decode cL_isPiece 32 = .ok (.istore 8, 2) := by decide +kernel
theorem dL_isPiece_34 : decode cL_isPiece 34 = .ok (.iload 6, 2) := by decide +kernel
theorem dL_isPiece_36 : decode cL_isPiece 36 = .ok (.bipush 9, 2) := by decide +kernel
theorem dL_isPiece_38 : decode cL_isPiece 38 = .ok (.idiv, 1) := by decide +kernel
theorem dL_isPiece_39 : decode cL_isPiece 39 = .ok (.bipush 9, 2) := by decide +kernel
theorem dL_isPiece_41 : decode cL_isPiece 41 = .ok (.irem, 1) := by decide +kernel
theorem dL_isPiece_42 : decode cL_isPiece 42 = .ok (.ifCond .ne 18, 3) := by decide +kernel
theorem dL_isPiece_45 : decode cL_isPiece 45 = .ok (.iload 6, 2) := by decide +kernel
theorem dL_isPiece_47 : decode cL_isPiece 47 = .ok (.bipush 81, 2) := by decide +kernel
theorem dL_isPiece_49 : decode cL_isPiece 49 = .ok (.idiv, 1) := by decide +kernel
theorem dL_isPiece_50 : decode cL_isPiece 50 = .ok (.bipush 30, 2) := by decide +kernel
theorem dL_isPiece_52 : decode cL_isPiece 52 = .ok (.imul, 1) := by decide +kernel
theorem dL_isPiece_53 : decode cL_isPiece 53 = .ok (.sipush 20002, 3) := by decide +kernel
theorem dL_isPiece_56 : decode cL_isPiece 56 = .ok (.irem, 1) := by decide +kernel
theorem dL_isPiece_57 : decode cL_isPiece 57 = .ok (.goto 15, 3) := by decide +kernel
theorem dL_isPiece_60 : decode cL_isPiece 60 = .ok (.bipush 50, 2) := by decide +kernel
theorem dL_isPiece_62 : decode cL_isPiece 62 = .ok (.iload 6, 2) := by decide +kernel
theorem dL_isPiece_64 : decode cL_isPiece 64 = .ok (.bipush 9, 2) := by decide +kernel
theorem dL_isPiece_66 : decode cL_isPiece 66 = .ok (.idiv, 1) := by decide +kernel
theorem dL_isPiece_67 : decode cL_isPiece 67 = .ok (.sipush 3000, 3) := by decide +kernel
theorem dL_isPiece_70 : decode cL_isPiece 70 = .ok (.irem, 1) := by decide +kernel
theorem dL_isPiece_71 : decode cL_isPiece 71 = .ok (.iadd, 1) := by decide +kernel
theorem dL_isPiece_72 : decode cL_isPiece 72 = .ok (.istore 9, 2) := by decide +kernel
theorem dL_isPiece_74 : decode cL_isPiece 74 = .ok (.iload 7, 2) := by decide +kernel
theorem dL_isPiece_76 : decode cL_isPiece 76 = .ok (.bipush 9, 2) := by decide +kernel
theorem dL_isPiece_78 : decode cL_isPiece 78 = .ok (.irem, 1) := by decide +kernel
theorem dL_isPiece_79 : decode cL_isPiece 79 = .ok (.ifCond .ne 12, 3) := by decide +kernel
theorem dL_isPiece_82 : decode cL_isPiece 82 = .ok (.iload 7, 2) := by decide +kernel
theorem dL_isPiece_84 : decode cL_isPiece 84 = .ok (.sipush 1001, 3) := by decide +kernel
theorem dL_isPiece_87 : decode cL_isPiece 87 = .ok (.irem, 1) := by decide +kernel
theorem dL_isPiece_88 : decode cL_isPiece 88 = .ok (.goto 10, 3) := by decide +kernel
theorem dL_isPiece_91 : decode cL_isPiece 91 = .ok (.iconst 5, 1) := by decide +kernel
theorem dL_isPiece_92 : decode cL_isPiece 92 = .ok (.iload 7, 2) := by decide +kernel
theorem dL_isPiece_94 : decode cL_isPiece 94 = .ok (.bipush 80, 2) := by decide +kernel
theorem dL_isPiece_96 : decode cL_isPiece 96 = .ok (.irem, 1) := by decide +kernel
theorem dL_isPiece_97 : decode cL_isPiece 97 = .ok (.iadd, 1) := by decide +kernel
theorem dL_isPiece_98 : decode cL_isPiece 98 = .ok (.istore 10, 2) := by decide +kernel
theorem dL_isPiece_100 : decode cL_isPiece 100 = .ok (.iload 8, 2) := by decide +kernel
theorem dL_isPiece_102 : decode cL_isPiece 102 = .ok (.iconst 3, 1) := by decide +kernel
theorem dL_isPiece_103 : decode cL_isPiece 103 = .ok (.if_icmp .ge 33, 3) := by decide +kernel
theorem dL_isPiece_106 : decode cL_isPiece 106 = .ok (.iload 9, 2) := by decide +kernel
theorem dL_isPiece_108 : decode cL_isPiece 108 = .ok (.ifCond .le 28, 3) := by decide +kernel
theorem dL_isPiece_111 : decode cL_isPiece 111 = .ok (.iload 9, 2) := by decide +kernel
theorem dL_isPiece_113 : decode cL_isPiece 113 = .ok (.sipush 20001, 3) := by decide +kernel
theorem dL_isPiece_116 : decode cL_isPiece 116 = .ok (.if_icmp .ge 20, 3) := by decide +kernel
theorem dL_isPiece_119 : decode cL_isPiece 119 = .ok (.iload 10, 2) := by decide +kernel
theorem dL_isPiece_121 : decode cL_isPiece 121 = .ok (.ifCond .le 15, 3) := by decide +kernel
theorem dL_isPiece_124 : decode cL_isPiece 124 = .ok (.iload 10, 2) := by decide +kernel
theorem dL_isPiece_126 : decode cL_isPiece 126 = .ok (.sipush 1000, 3) := by decide +kernel
theorem dL_isPiece_129 : decode cL_isPiece 129 = .ok (.if_icmp .ge 7, 3) := by decide +kernel
theorem dL_isPiece_132 : decode cL_isPiece 132 = .ok (.iconst 1, 1) := by decide +kernel
theorem dL_isPiece_133 : decode cL_isPiece 133 = .ok (.goto 4, 3) := by decide +kernel
theorem dL_isPiece_136 : decode cL_isPiece 136 = .ok (.iconst 0, 1) := by decide +kernel
theorem dL_isPiece_137 : decode cL_isPiece 137 = .ok (.istore 11, 2) := by decide +kernel
theorem dL_isPiece_139 : decode cL_isPiece 139 = .ok (.iload 11, 2) := by decide +kernel
theorem dL_isPiece_141 : decode cL_isPiece 141 = .ok (.ifCond .eq 14, 3) := by decide +kernel
theorem dL_isPiece_144 : decode cL_isPiece 144 = .ok (.aload 4, 2) := by decide +kernel
theorem dL_isPiece_146 : decode cL_isPiece 146 = .ok (.iconst 4, 1) := by decide +kernel
theorem dL_isPiece_147 : decode cL_isPiece 147 = .ok (.iaload, 1) := by decide +kernel
theorem dL_isPiece_148 : decode cL_isPiece 148 = .ok (.ifCond .ne 7, 3) := by decide +kernel
theorem dL_isPiece_151 : decode cL_isPiece 151 = .ok (.iconst 1, 1) := by decide +kernel
theorem dL_isPiece_152 : decode cL_isPiece 152 = .ok (.goto 4, 3) := by decide +kernel
theorem dL_isPiece_155 : decode cL_isPiece 155 = .ok (.iconst 0, 1) := by decide +kernel
theorem dL_isPiece_156 : decode cL_isPiece 156 = .ok (.istore 12, 2) := by decide +kernel
theorem dL_isPiece_158 : decode cL_isPiece 158 = .ok (.iload 12, 2) := by decide +kernel
theorem dL_isPiece_160 : decode cL_isPiece 160 = .ok (.ifCond .eq 64, 3) := by decide +kernel
theorem dL_isPiece_163 : decode cL_isPiece 163 = .ok (.aload_n 2, 1) := by decide +kernel
theorem dL_isPiece_164 : decode cL_isPiece 164 = .ok (.aload 4, 2) := by decide +kernel
theorem dL_isPiece_166 : decode cL_isPiece 166 = .ok (.iconst 3, 1) := by decide +kernel
theorem dL_isPiece_167 : decode cL_isPiece 167 = .ok (.iaload, 1) := by decide +kernel
theorem dL_isPiece_168 : decode cL_isPiece 168 = .ok (.iload 8, 2) := by decide +kernel
theorem dL_isPiece_170 : decode cL_isPiece 170 = .ok (.sipush 6400, 3) := by decide +kernel
theorem dL_isPiece_173 : decode cL_isPiece 173 = .ok (.iadd, 1) := by decide +kernel
theorem dL_isPiece_174 : decode cL_isPiece 174 = .ok (.iastore, 1) := by decide +kernel
theorem dL_isPiece_175 : decode cL_isPiece 175 = .ok (.aload_n 3, 1) := by decide +kernel
theorem dL_isPiece_176 : decode cL_isPiece 176 = .ok (.aload 4, 2) := by decide +kernel
theorem dL_isPiece_178 : decode cL_isPiece 178 = .ok (.iconst 3, 1) := by decide +kernel
theorem dL_isPiece_179 : decode cL_isPiece 179 = .ok (.iaload, 1) := by decide +kernel
theorem dL_isPiece_180 : decode cL_isPiece 180 = .ok (.iload 9, 2) := by decide +kernel
theorem dL_isPiece_182 : decode cL_isPiece 182 = .ok (.iastore, 1) := by decide +kernel
theorem dL_isPiece_183 : decode cL_isPiece 183 = .ok (.aload_n 3, 1) := by decide +kernel
theorem dL_isPiece_184 : decode cL_isPiece 184 = .ok (.bipush 8, 2) := by decide +kernel
theorem dL_isPiece_186 : decode cL_isPiece 186 = .ok (.aload 4, 2) := by decide +kernel
theorem dL_isPiece_188 : decode cL_isPiece 188 = .ok (.iconst 3, 1) := by decide +kernel
theorem dL_isPiece_189 : decode cL_isPiece 189 = .ok (.iaload, 1) := by decide +kernel
theorem dL_isPiece_190 : decode cL_isPiece 190 = .ok (.iadd, 1) := by decide +kernel
theorem dL_isPiece_191 : decode cL_isPiece 191 = .ok (.iload 10, 2) := by decide +kernel
theorem dL_isPiece_193 : decode cL_isPiece 193 = .ok (.iastore, 1) := by decide +kernel
theorem dL_isPiece_194 : decode cL_isPiece 194 = .ok (.aload_n 1, 1) := by decide +kernel
theorem dL_isPiece_195 : decode cL_isPiece 195 = .ok (.bipush 40, 2) := by decide +kernel
theorem dL_isPiece_197 : decode cL_isPiece 197 = .ok (.aload 4, 2) := by decide +kernel
theorem dL_isPiece_199 : decode cL_isPiece 199 = .ok (.iconst 3, 1) := by decide +kernel
theorem dL_isPiece_200 : decode cL_isPiece 200 = .ok (.iaload, 1) := by decide +kernel
theorem dL_isPiece_201 : decode cL_isPiece 201 = .ok (.iadd, 1) := by decide +kernel
theorem dL_isPiece_202 : decode cL_isPiece 202 = .ok (.ldc 155, 2) := by decide +kernel
theorem dL_isPiece_204 : decode cL_isPiece 204 = .ok (.iastore, 1) := by decide +kernel
theorem dL_isPiece_205 : decode cL_isPiece 205 = .ok (.aload_n 1, 1) := by decide +kernel
theorem dL_isPiece_206 : decode cL_isPiece 206 = .ok (.bipush 48, 2) := by decide +kernel
theorem dL_isPiece_208 : decode cL_isPiece 208 = .ok (.aload 4, 2) := by decide +kernel
theorem dL_isPiece_210 : decode cL_isPiece 210 = .ok (.iconst 3, 1) := by decide +kernel
theorem dL_isPiece_211 : decode cL_isPiece 211 = .ok (.iaload, 1) := by decide +kernel
theorem dL_isPiece_212 : decode cL_isPiece 212 = .ok (.iadd, 1) := by decide +kernel
theorem dL_isPiece_213 : decode cL_isPiece 213 = .ok (.ldc 155, 2) := by decide +kernel
theorem dL_isPiece_215 : decode cL_isPiece 215 = .ok (.iastore, 1) := by decide +kernel
theorem dL_isPiece_216 : decode cL_isPiece 216 = .ok (.aload 4, 2) := by decide +kernel
theorem dL_isPiece_218 : decode cL_isPiece 218 = .ok (.iconst 3, 1) := by decide +kernel
theorem dL_isPiece_219 : decode cL_isPiece 219 = .ok (.dup2, 1) := by decide +kernel
theorem dL_isPiece_220 : decode cL_isPiece 220 = .ok (.iaload, 1) := by decide +kernel
theorem dL_isPiece_221 : decode cL_isPiece 221 = .ok (.iconst 1, 1) := by decide +kernel
theorem dL_isPiece_222 : decode cL_isPiece 222 = .ok (.iadd, 1) := by decide +kernel
theorem dL_isPiece_223 : decode cL_isPiece 223 = .ok (.iastore, 1) := by decide +kernel
theorem dL_isPiece_224 : decode cL_isPiece 224 = .ok (.aload_n 0, 1) := by decide +kernel
theorem dL_isPiece_225 : decode cL_isPiece 225 = .ok (.iconst 0, 1) := by decide +kernel
theorem dL_isPiece_226 : decode cL_isPiece 226 = .ok (.iload 8, 2) := by decide +kernel
theorem dL_isPiece_228 : decode cL_isPiece 228 = .ok (.iload 9, 2) := by decide +kernel
theorem dL_isPiece_230 : decode cL_isPiece 230 = .ok (.iload 10, 2) := by decide +kernel
theorem dL_isPiece_232 : decode cL_isPiece 232 = .ok (.invokestatic 151, 3) := by decide +kernel
theorem dL_isPiece_235 : decode cL_isPiece 235 = .ok (.iload 11, 2) := by decide +kernel
theorem dL_isPiece_237 : decode cL_isPiece 237 = .ok (.ifCond .ne 8, 3) := by decide +kernel
theorem dL_isPiece_240 : decode cL_isPiece 240 = .ok (.ldc 79, 2) := by decide +kernel
theorem dL_isPiece_242 : decode cL_isPiece 242 = .ok (.goto 19, 3) := by decide +kernel
theorem dL_isPiece_245 : decode cL_isPiece 245 = .ok (.iload 12, 2) := by decide +kernel
theorem dL_isPiece_247 : decode cL_isPiece 247 = .ok (.ifCond .eq 12, 3) := by decide +kernel
theorem dL_isPiece_250 : decode cL_isPiece 250 = .ok (.aload 4, 2) := by decide +kernel
theorem dL_isPiece_252 : decode cL_isPiece 252 = .ok (.iconst 3, 1) := by decide +kernel
theorem dL_isPiece_253 : decode cL_isPiece 253 = .ok (.iaload, 1) := by decide +kernel
theorem dL_isPiece_254 : decode cL_isPiece 254 = .ok (.iconst 1, 1) := by decide +kernel
theorem dL_isPiece_255 : decode cL_isPiece 255 = .ok (.isub, 1) := by decide +kernel
theorem dL_isPiece_256 : decode cL_isPiece 256 = .ok (.goto 5, 3) := by decide +kernel
theorem dL_isPiece_259 : decode cL_isPiece 259 = .ok (.ldc 82, 2) := by decide +kernel
theorem dL_isPiece_261 : decode cL_isPiece 261 = .ok (.if_icmp .ne 7, 3) := by decide +kernel
theorem dL_isPiece_264 : decode cL_isPiece 264 = .ok (.iconst 1, 1) := by decide +kernel
theorem dL_isPiece_265 : decode cL_isPiece 265 = .ok (.goto 4, 3) := by decide +kernel
theorem dL_isPiece_268 : decode cL_isPiece 268 = .ok (.iconst 0, 1) := by decide +kernel
theorem dL_isPiece_269 : decode cL_isPiece 269 = .ok (.ireturn, 1) := by decide +kernel
theorem dL_isPiece_270 : decode cL_isPiece 270 = .ok (.iload 5, 2) := by decide +kernel
theorem dL_isPiece_272 : decode cL_isPiece 272 = .ok (.iconst 2, 1) := by decide +kernel
theorem dL_isPiece_273 : decode cL_isPiece 273 = .ok (.if_icmp .ge 121, 3) := by decide +kernel
theorem dL_isPiece_276 : decode cL_isPiece 276 = .ok (.iload 7, 2) := by decide +kernel
theorem dL_isPiece_278 : decode cL_isPiece 278 = .ok (.bipush 9, 2) := by decide +kernel
theorem dL_isPiece_280 : decode cL_isPiece 280 = .ok (.irem, 1) := by decide +kernel
theorem dL_isPiece_281 : decode cL_isPiece 281 = .ok (.ifCond .ne 17, 3) := by decide +kernel
theorem dL_isPiece_284 : decode cL_isPiece 284 = .ok (.iload 7, 2) := by decide +kernel
theorem dL_isPiece_286 : decode cL_isPiece 286 = .ok (.bipush 9, 2) := by decide +kernel
theorem dL_isPiece_288 : decode cL_isPiece 288 = .ok (.idiv, 1) := by decide +kernel
theorem dL_isPiece_289 : decode cL_isPiece 289 = .ok (.iconst 3, 1) := by decide +kernel
theorem dL_isPiece_290 : decode cL_isPiece 290 = .ok (.irem, 1) := by decide +kernel
theorem dL_isPiece_291 : decode cL_isPiece 291 = .ok (.sipush 501, 3) := by decide +kernel
theorem dL_isPiece_294 : decode cL_isPiece 294 = .ok (.imul, 1) := by decide +kernel
theorem dL_isPiece_295 : decode cL_isPiece 295 = .ok (.goto 10, 3) := by decide +kernel
theorem dL_isPiece_298 : decode cL_isPiece 298 = .ok (.iconst 1, 1) := by decide +kernel
theorem dL_isPiece_299 : decode cL_isPiece 299 = .ok (.iload 7, 2) := by decide +kernel
theorem dL_isPiece_301 : decode cL_isPiece 301 = .ok (.bipush 60, 2) := by decide +kernel
theorem dL_isPiece_303 : decode cL_isPiece 303 = .ok (.irem, 1) := by decide +kernel
theorem dL_isPiece_304 : decode cL_isPiece 304 = .ok (.iadd, 1) := by decide +kernel
theorem dL_isPiece_305 : decode cL_isPiece 305 = .ok (.istore 8, 2) := by decide +kernel
theorem dL_isPiece_307 : decode cL_isPiece 307 = .ok (.iload 8, 2) := by decide +kernel
theorem dL_isPiece_309 : decode cL_isPiece 309 = .ok (.ifCond .le 15, 3) := by decide +kernel
theorem dL_isPiece_312 : decode cL_isPiece 312 = .ok (.iload 8, 2) := by decide +kernel
theorem dL_isPiece_314 : decode cL_isPiece 314 = .ok (.sipush 501, 3) := by decide +kernel
theorem dL_isPiece_317 : decode cL_isPiece 317 = .ok (.if_icmp .ge 7, 3) := by decide +kernel
theorem dL_isPiece_320 : decode cL_isPiece 320 = .ok (.iconst 1, 1) := by decide +kernel
theorem dL_isPiece_321 : decode cL_isPiece 321 = .ok (.goto 4, 3) := by decide +kernel
theorem dL_isPiece_324 : decode cL_isPiece 324 = .ok (.iconst 0, 1) := by decide +kernel
theorem dL_isPiece_325 : decode cL_isPiece 325 = .ok (.istore 9, 2) := by decide +kernel
theorem dL_isPiece_327 : decode cL_isPiece 327 = .ok (.iconst 0, 1) := by decide +kernel
theorem dL_isPiece_328 : decode cL_isPiece 328 = .ok (.istore 10, 2) := by decide +kernel
theorem dL_isPiece_330 : decode cL_isPiece 330 = .ok (.iload 10, 2) := by decide +kernel
theorem dL_isPiece_332 : decode cL_isPiece 332 = .ok (.aload 4, 2) := by decide +kernel
theorem dL_isPiece_334 : decode cL_isPiece 334 = .ok (.iconst 3, 1) := by decide +kernel
theorem dL_isPiece_335 : decode cL_isPiece 335 = .ok (.iaload, 1) := by decide +kernel
theorem dL_isPiece_336 : decode cL_isPiece 336 = .ok (.if_icmp .ge 26, 3) := by decide +kernel
theorem dL_isPiece_339 : decode cL_isPiece 339 = .ok (.iload 9, 2) := by decide +kernel
theorem dL_isPiece_341 : decode cL_isPiece 341 = .ok (.ifCond .eq 21, 3) := by decide +kernel
theorem dL_isPiece_344 : decode cL_isPiece 344 = .ok (.aload_n 1, 1) := by decide +kernel
theorem dL_isPiece_345 : decode cL_isPiece 345 = .ok (.bipush 24, 2) := by decide +kernel
theorem dL_isPiece_347 : decode cL_isPiece 347 = .ok (.iload 10, 2) := by decide +kernel
theorem dL_isPiece_349 : decode cL_isPiece 349 = .ok (.iadd, 1) := by decide +kernel
theorem dL_isPiece_350 : decode cL_isPiece 350 = .ok (.dup2, 1) := by decide +kernel
theorem dL_isPiece_351 : decode cL_isPiece 351 = .ok (.iaload, 1) := by decide +kernel
theorem dL_isPiece_352 : decode cL_isPiece 352 = .ok (.iload 8, 2) := by decide +kernel
theorem dL_isPiece_354 : decode cL_isPiece 354 = .ok (.iadd, 1) := by decide +kernel
theorem dL_isPiece_355 : decode cL_isPiece 355 = .ok (.iastore, 1) := by decide +kernel
theorem dL_isPiece_356 : decode cL_isPiece 356 = .ok (.iinc 10 1, 3) := by decide +kernel
theorem dL_isPiece_359 : decode cL_isPiece 359 = .ok (.goto (-29), 3) := by decide +kernel
theorem dL_isPiece_362 : decode cL_isPiece 362 = .ok (.aload_n 0, 1) := by decide +kernel
theorem dL_isPiece_363 : decode cL_isPiece 363 = .ok (.iconst 2, 1) := by decide +kernel
theorem dL_isPiece_364 : decode cL_isPiece 364 = .ok (.iload 8, 2) := by decide +kernel
theorem dL_isPiece_366 : decode cL_isPiece 366 = .ok (.iconst 0, 1) := by decide +kernel
theorem dL_isPiece_367 : decode cL_isPiece 367 = .ok (.iconst 0, 1) := by decide +kernel
theorem dL_isPiece_368 : decode cL_isPiece 368 = .ok (.invokestatic 151, 3) := by decide +kernel
theorem dL_isPiece_371 : decode cL_isPiece 371 = .ok (.iload 9, 2) := by decide +kernel
theorem dL_isPiece_373 : decode cL_isPiece 373 = .ok (.ifCond .eq 10, 3) := by decide +kernel
theorem dL_isPiece_376 : decode cL_isPiece 376 = .ok (.aload 4, 2) := by decide +kernel
theorem dL_isPiece_378 : decode cL_isPiece 378 = .ok (.iconst 3, 1) := by decide +kernel
theorem dL_isPiece_379 : decode cL_isPiece 379 = .ok (.iaload, 1) := by decide +kernel
theorem dL_isPiece_380 : decode cL_isPiece 380 = .ok (.goto 5, 3) := by decide +kernel
theorem dL_isPiece_383 : decode cL_isPiece 383 = .ok (.ldc 79, 2) := by decide +kernel
theorem dL_isPiece_385 : decode cL_isPiece 385 = .ok (.if_icmp .ne 7, 3) := by decide +kernel
theorem dL_isPiece_388 : decode cL_isPiece 388 = .ok (.iconst 1, 1) := by decide +kernel
theorem dL_isPiece_389 : decode cL_isPiece 389 = .ok (.goto 4, 3) := by decide +kernel
theorem dL_isPiece_392 : decode cL_isPiece 392 = .ok (.iconst 0, 1) := by decide +kernel
theorem dL_isPiece_393 : decode cL_isPiece 393 = .ok (.ireturn, 1) := by decide +kernel
theorem dL_isPiece_394 : decode cL_isPiece 394 = .ok (.iload 6, 2) := by decide +kernel
theorem dL_isPiece_396 : decode cL_isPiece 396 = .ok (.aload 4, 2) := by decide +kernel
theorem dL_isPiece_398 : decode cL_isPiece 398 = .ok (.iconst 3, 1) := by decide +kernel
theorem dL_isPiece_399 : decode cL_isPiece 399 = .ok (.iaload, 1) := by decide +kernel
theorem dL_isPiece_400 : decode cL_isPiece 400 = .ok (.iconst 1, 1) := by decide +kernel
theorem dL_isPiece_401 : decode cL_isPiece 401 = .ok (.iadd, 1) := by decide +kernel
theorem dL_isPiece_402 : decode cL_isPiece 402 = .ok (.irem, 1) := by decide +kernel
theorem dL_isPiece_403 : decode cL_isPiece 403 = .ok (.istore 8, 2) := by decide +kernel
theorem dL_isPiece_405 : decode cL_isPiece 405 = .ok (.iload 8, 2) := by decide +kernel
theorem dL_isPiece_407 : decode cL_isPiece 407 = .ok (.aload 4, 2) := by decide +kernel
theorem dL_isPiece_409 : decode cL_isPiece 409 = .ok (.iconst 3, 1) := by decide +kernel
theorem dL_isPiece_410 : decode cL_isPiece 410 = .ok (.iaload, 1) := by decide +kernel
theorem dL_isPiece_411 : decode cL_isPiece 411 = .ok (.if_icmp .ge 7, 3) := by decide +kernel
theorem dL_isPiece_414 : decode cL_isPiece 414 = .ok (.iconst 1, 1) := by decide +kernel
theorem dL_isPiece_415 : decode cL_isPiece 415 = .ok (.goto 4, 3) := by decide +kernel
theorem dL_isPiece_418 : decode cL_isPiece 418 = .ok (.iconst 0, 1) := by decide +kernel
theorem dL_isPiece_419 : decode cL_isPiece 419 = .ok (.istore 9, 2) := by decide +kernel
theorem dL_isPiece_421 : decode cL_isPiece 421 = .ok (.iload 5, 2) := by decide +kernel
theorem dL_isPiece_423 : decode cL_isPiece 423 = .ok (.iconst 2, 1) := by decide +kernel
theorem dL_isPiece_424 : decode cL_isPiece 424 = .ok (.if_icmp .ne 69, 3) := by decide +kernel
theorem dL_isPiece_427 : decode cL_isPiece 427 = .ok (.iload 9, 2) := by decide +kernel
theorem dL_isPiece_429 : decode cL_isPiece 429 = .ok (.ifCond .eq 13, 3) := by decide +kernel
theorem dL_isPiece_432 : decode cL_isPiece 432 = .ok (.aload_n 1, 1) := by decide +kernel
theorem dL_isPiece_433 : decode cL_isPiece 433 = .ok (.bipush 24, 2) := by decide +kernel
theorem dL_isPiece_435 : decode cL_isPiece 435 = .ok (.iload 8, 2) := by decide +kernel
theorem dL_isPiece_437 : decode cL_isPiece 437 = .ok (.iadd, 1) := by decide +kernel
theorem dL_isPiece_438 : decode cL_isPiece 438 = .ok (.iaload, 1) := by decide +kernel
theorem dL_isPiece_439 : decode cL_isPiece 439 = .ok (.goto 4, 3) := by decide +kernel
theorem dL_isPiece_442 : decode cL_isPiece 442 = .ok (.iconst 0, 1) := by decide +kernel
theorem dL_isPiece_443 : decode cL_isPiece 443 = .ok (.istore 10, 2) := by decide +kernel
theorem dL_isPiece_445 : decode cL_isPiece 445 = .ok (.aload_n 1, 1) := by decide +kernel
theorem dL_isPiece_446 : decode cL_isPiece 446 = .ok (.iload 9, 2) := by decide +kernel
theorem dL_isPiece_448 : decode cL_isPiece 448 = .ok (.ifCond .eq 11, 3) := by decide +kernel
theorem dL_isPiece_451 : decode cL_isPiece 451 = .ok (.bipush 24, 2) := by decide +kernel
theorem dL_isPiece_453 : decode cL_isPiece 453 = .ok (.iload 8, 2) := by decide +kernel
theorem dL_isPiece_455 : decode cL_isPiece 455 = .ok (.iadd, 1) := by decide +kernel
theorem dL_isPiece_456 : decode cL_isPiece 456 = .ok (.goto 5, 3) := by decide +kernel
theorem dL_isPiece_459 : decode cL_isPiece 459 = .ok (.bipush 56, 2) := by decide +kernel
theorem dL_isPiece_461 : decode cL_isPiece 461 = .ok (.iconst 0, 1) := by decide +kernel
theorem dL_isPiece_462 : decode cL_isPiece 462 = .ok (.iastore, 1) := by decide +kernel
theorem dL_isPiece_463 : decode cL_isPiece 463 = .ok (.aload_n 0, 1) := by decide +kernel
theorem dL_isPiece_464 : decode cL_isPiece 464 = .ok (.iconst 3, 1) := by decide +kernel
theorem dL_isPiece_465 : decode cL_isPiece 465 = .ok (.iload 8, 2) := by decide +kernel
theorem dL_isPiece_467 : decode cL_isPiece 467 = .ok (.iconst 0, 1) := by decide +kernel
theorem dL_isPiece_468 : decode cL_isPiece 468 = .ok (.iconst 0, 1) := by decide +kernel
theorem dL_isPiece_469 : decode cL_isPiece 469 = .ok (.invokestatic 151, 3) := by decide +kernel
theorem dL_isPiece_472 : decode cL_isPiece 472 = .ok (.iload 9, 2) := by decide +kernel
theorem dL_isPiece_474 : decode cL_isPiece 474 = .ok (.ifCond .eq 8, 3) := by decide +kernel
theorem dL_isPiece_477 : decode cL_isPiece 477 = .ok (.iload 10, 2) := by decide +kernel
theorem dL_isPiece_479 : decode cL_isPiece 479 = .ok (.goto 5, 3) := by decide +kernel
theorem dL_isPiece_482 : decode cL_isPiece 482 = .ok (.ldc 76, 2) := by decide +kernel
theorem dL_isPiece_484 : decode cL_isPiece 484 = .ok (.if_icmp .ne 7, 3) := by decide +kernel
theorem dL_isPiece_487 : decode cL_isPiece 487 = .ok (.iconst 1, 1) := by decide +kernel
theorem dL_isPiece_488 : decode cL_isPiece 488 = .ok (.goto 4, 3) := by decide +kernel
theorem dL_isPiece_491 : decode cL_isPiece 491 = .ok (.iconst 0, 1) := by decide +kernel
theorem dL_isPiece_492 : decode cL_isPiece 492 = .ok (.ireturn, 1) := by decide +kernel
theorem dL_isPiece_493 : decode cL_isPiece 493 = .ok (.iload 5, 2) := by decide +kernel
theorem dL_isPiece_495 : decode cL_isPiece 495 = .ok (.iconst 3, 1) := by decide +kernel
theorem dL_isPiece_496 : decode cL_isPiece 496 = .ok (.if_icmp .ne 190, 3) := by decide +kernel
theorem dL_isPiece_499 : decode cL_isPiece 499 = .ok (.iload 7, 2) := by decide +kernel
theorem dL_isPiece_501 : decode cL_isPiece 501 = .ok (.bipush 9, 2) := by decide +kernel
theorem dL_isPiece_503 : decode cL_isPiece 503 = .ok (.irem, 1) := by decide +kernel
theorem dL_isPiece_504 : decode cL_isPiece 504 = .ok (.ifCond .ne 14, 3) := by decide +kernel
theorem dL_isPiece_507 : decode cL_isPiece 507 = .ok (.iload 7, 2) := by decide +kernel
theorem dL_isPiece_509 : decode cL_isPiece 509 = .ok (.bipush 9, 2) := by decide +kernel
theorem dL_isPiece_511 : decode cL_isPiece 511 = .ok (.idiv, 1) := by decide +kernel
theorem dL_isPiece_512 : decode cL_isPiece 512 = .ok (.bipush 102, 2) := by decide +kernel
theorem dL_isPiece_514 : decode cL_isPiece 514 = .ok (.irem, 1) := by decide +kernel
theorem dL_isPiece_515 : decode cL_isPiece 515 = .ok (.goto 11, 3) := by decide +kernel
theorem dL_isPiece_518 : decode cL_isPiece 518 = .ok (.bipush 20, 2) := by decide +kernel
theorem dL_isPiece_520 : decode cL_isPiece 520 = .ok (.iload 7, 2) := by decide +kernel
theorem dL_isPiece_522 : decode cL_isPiece 522 = .ok (.bipush 80, 2) := by decide +kernel
theorem dL_isPiece_524 : decode cL_isPiece 524 = .ok (.irem, 1) := by decide +kernel
theorem dL_isPiece_525 : decode cL_isPiece 525 = .ok (.iadd, 1) := by decide +kernel
theorem dL_isPiece_526 : decode cL_isPiece 526 = .ok (.istore 10, 2) := by decide +kernel
theorem dL_isPiece_528 : decode cL_isPiece 528 = .ok (.iload 10, 2) := by decide +kernel
theorem dL_isPiece_530 : decode cL_isPiece 530 = .ok (.ifCond .le 14, 3) := by decide +kernel
theorem dL_isPiece_533 : decode cL_isPiece 533 = .ok (.iload 10, 2) := by decide +kernel
theorem dL_isPiece_535 : decode cL_isPiece 535 = .ok (.bipush 101, 2) := by decide +kernel
theorem dL_isPiece_537 : decode cL_isPiece 537 = .ok (.if_icmp .ge 7, 3) := by decide +kernel
theorem dL_isPiece_540 : decode cL_isPiece 540 = .ok (.iconst 1, 1) := by decide +kernel
theorem dL_isPiece_541 : decode cL_isPiece 541 = .ok (.goto 4, 3) := by decide +kernel
theorem dL_isPiece_544 : decode cL_isPiece 544 = .ok (.iconst 0, 1) := by decide +kernel
theorem dL_isPiece_545 : decode cL_isPiece 545 = .ok (.istore 11, 2) := by decide +kernel
theorem dL_isPiece_547 : decode cL_isPiece 547 = .ok (.iload 9, 2) := by decide +kernel
theorem dL_isPiece_549 : decode cL_isPiece 549 = .ok (.ifCond .eq 53, 3) := by decide +kernel
theorem dL_isPiece_552 : decode cL_isPiece 552 = .ok (.iload 11, 2) := by decide +kernel
theorem dL_isPiece_554 : decode cL_isPiece 554 = .ok (.ifCond .eq 48, 3) := by decide +kernel
theorem dL_isPiece_557 : decode cL_isPiece 557 = .ok (.aload_n 2, 1) := by decide +kernel
theorem dL_isPiece_558 : decode cL_isPiece 558 = .ok (.iload 8, 2) := by decide +kernel
theorem dL_isPiece_560 : decode cL_isPiece 560 = .ok (.iaload, 1) := by decide +kernel
theorem dL_isPiece_561 : decode cL_isPiece 561 = .ok (.iconst 4, 1) := by decide +kernel
theorem dL_isPiece_562 : decode cL_isPiece 562 = .ok (.irem, 1) := by decide +kernel
theorem dL_isPiece_563 : decode cL_isPiece 563 = .ok (.iconst 2, 1) := by decide +kernel
theorem dL_isPiece_564 : decode cL_isPiece 564 = .ok (.if_icmp .ge 38, 3) := by decide +kernel
theorem dL_isPiece_567 : decode cL_isPiece 567 = .ok (.aload_n 1, 1) := by decide +kernel
theorem dL_isPiece_568 : decode cL_isPiece 568 = .ok (.iload 8, 2) := by decide +kernel
theorem dL_isPiece_570 : decode cL_isPiece 570 = .ok (.iaload, 1) := by decide +kernel
theorem dL_isPiece_571 : decode cL_isPiece 571 = .ok (.aload_n 1, 1) := by decide +kernel
theorem dL_isPiece_572 : decode cL_isPiece 572 = .ok (.bipush 8, 2) := by decide +kernel
theorem dL_isPiece_574 : decode cL_isPiece 574 = .ok (.iload 8, 2) := by decide +kernel
theorem dL_isPiece_576 : decode cL_isPiece 576 = .ok (.iadd, 1) := by decide +kernel
theorem dL_isPiece_577 : decode cL_isPiece 577 = .ok (.iaload, 1) := by decide +kernel
theorem dL_isPiece_578 : decode cL_isPiece 578 = .ok (.iadd, 1) := by decide +kernel
theorem dL_isPiece_579 : decode cL_isPiece 579 = .ok (.ifCond .le 23, 3) := by decide +kernel
theorem dL_isPiece_582 : decode cL_isPiece 582 = .ok (.aload_n 1, 1) := by decide +kernel
theorem dL_isPiece_583 : decode cL_isPiece 583 = .ok (.bipush 16, 2) := by decide +kernel
theorem dL_isPiece_585 : decode cL_isPiece 585 = .ok (.iload 8, 2) := by decide +kernel
theorem dL_isPiece_587 : decode cL_isPiece 587 = .ok (.iadd, 1) := by decide +kernel
theorem dL_isPiece_588 : decode cL_isPiece 588 = .ok (.iaload, 1) := by decide +kernel
theorem dL_isPiece_589 : decode cL_isPiece 589 = .ok (.iload 10, 2) := by decide +kernel
theorem dL_isPiece_591 : decode cL_isPiece 591 = .ok (.iadd, 1) := by decide +kernel
theorem dL_isPiece_592 : decode cL_isPiece 592 = .ok (.sipush 501, 3) := by decide +kernel
theorem dL_isPiece_595 : decode cL_isPiece 595 = .ok (.if_icmp .ge 7, 3) := by decide +kernel
theorem dL_isPiece_598 : decode cL_isPiece 598 = .ok (.iconst 1, 1) := by decide +kernel
theorem dL_isPiece_599 : decode cL_isPiece 599 = .ok (.goto 4, 3) := by decide +kernel
theorem dL_isPiece_602 : decode cL_isPiece 602 = .ok (.iconst 0, 1) := by decide +kernel
theorem dL_isPiece_603 : decode cL_isPiece 603 = .ok (.istore 12, 2) := by decide +kernel
theorem dL_isPiece_605 : decode cL_isPiece 605 = .ok (.iload 12, 2) := by decide +kernel
theorem dL_isPiece_607 : decode cL_isPiece 607 = .ok (.ifCond .eq 23, 3) := by decide +kernel
theorem dL_isPiece_610 : decode cL_isPiece 610 = .ok (.aload_n 1, 1) := by decide +kernel
theorem dL_isPiece_611 : decode cL_isPiece 611 = .ok (.bipush 24, 2) := by decide +kernel
theorem dL_isPiece_613 : decode cL_isPiece 613 = .ok (.iload 8, 2) := by decide +kernel
theorem dL_isPiece_615 : decode cL_isPiece 615 = .ok (.iadd, 1) := by decide +kernel
theorem dL_isPiece_616 : decode cL_isPiece 616 = .ok (.iconst 0, 1) := by decide +kernel
theorem dL_isPiece_617 : decode cL_isPiece 617 = .ok (.iastore, 1) := by decide +kernel
theorem dL_isPiece_618 : decode cL_isPiece 618 = .ok (.aload_n 1, 1) := by decide +kernel
theorem dL_isPiece_619 : decode cL_isPiece 619 = .ok (.bipush 16, 2) := by decide +kernel
theorem dL_isPiece_621 : decode cL_isPiece 621 = .ok (.iload 8, 2) := by decide +kernel
theorem dL_isPiece_623 : decode cL_isPiece 623 = .ok (.iadd, 1) := by decide +kernel
theorem dL_isPiece_624 : decode cL_isPiece 624 = .ok (.dup2, 1) := by decide +kernel
theorem dL_isPiece_625 : decode cL_isPiece 625 = .ok (.iaload, 1) := by decide +kernel
theorem dL_isPiece_626 : decode cL_isPiece 626 = .ok (.iload 10, 2) := by decide +kernel
theorem dL_isPiece_628 : decode cL_isPiece 628 = .ok (.iadd, 1) := by decide +kernel
theorem dL_isPiece_629 : decode cL_isPiece 629 = .ok (.iastore, 1) := by decide +kernel
theorem dL_isPiece_630 : decode cL_isPiece 630 = .ok (.aload_n 0, 1) := by decide +kernel
theorem dL_isPiece_631 : decode cL_isPiece 631 = .ok (.iconst 4, 1) := by decide +kernel
theorem dL_isPiece_632 : decode cL_isPiece 632 = .ok (.iload 8, 2) := by decide +kernel
theorem dL_isPiece_634 : decode cL_isPiece 634 = .ok (.iload 10, 2) := by decide +kernel
theorem dL_isPiece_636 : decode cL_isPiece 636 = .ok (.iconst 0, 1) := by decide +kernel
theorem dL_isPiece_637 : decode cL_isPiece 637 = .ok (.invokestatic 151, 3) := by decide +kernel
theorem dL_isPiece_640 : decode cL_isPiece 640 = .ok (.iload 9, 2) := by decide +kernel
theorem dL_isPiece_642 : decode cL_isPiece 642 = .ok (.ifCond .ne 8, 3) := by decide +kernel
theorem dL_isPiece_645 : decode cL_isPiece 645 = .ok (.ldc 76, 2) := by decide +kernel
theorem dL_isPiece_647 : decode cL_isPiece 647 = .ok (.goto 30, 3) := by decide +kernel
theorem dL_isPiece_650 : decode cL_isPiece 650 = .ok (.iload 11, 2) := by decide +kernel
theorem dL_isPiece_652 : decode cL_isPiece 652 = .ok (.ifCond .ne 8, 3) := by decide +kernel
theorem dL_isPiece_655 : decode cL_isPiece 655 = .ok (.ldc 79, 2) := by decide +kernel
theorem dL_isPiece_657 : decode cL_isPiece 657 = .ok (.goto 20, 3) := by decide +kernel
theorem dL_isPiece_660 : decode cL_isPiece 660 = .ok (.iload 12, 2) := by decide +kernel
theorem dL_isPiece_662 : decode cL_isPiece 662 = .ok (.ifCond .eq 13, 3) := by decide +kernel
theorem dL_isPiece_665 : decode cL_isPiece 665 = .ok (.aload_n 1, 1) := by decide +kernel
theorem dL_isPiece_666 : decode cL_isPiece 666 = .ok (.bipush 16, 2) := by decide +kernel
theorem dL_isPiece_668 : decode cL_isPiece 668 = .ok (.iload 8, 2) := by decide +kernel
theorem dL_isPiece_670 : decode cL_isPiece 670 = .ok (.iadd, 1) := by decide +kernel
theorem dL_isPiece_671 : decode cL_isPiece 671 = .ok (.iaload, 1) := by decide +kernel
theorem dL_isPiece_672 : decode cL_isPiece 672 = .ok (.goto 5, 3) := by decide +kernel
theorem dL_isPiece_675 : decode cL_isPiece 675 = .ok (.ldc 82, 2) := by decide +kernel
theorem dL_isPiece_677 : decode cL_isPiece 677 = .ok (.if_icmp .ne 7, 3) := by decide +kernel
theorem dL_isPiece_680 : decode cL_isPiece 680 = .ok (.iconst 1, 1) := by decide +kernel
theorem dL_isPiece_681 : decode cL_isPiece 681 = .ok (.goto 4, 3) := by decide +kernel
theorem dL_isPiece_684 : decode cL_isPiece 684 = .ok (.iconst 0, 1) := by decide +kernel
theorem dL_isPiece_685 : decode cL_isPiece 685 = .ok (.ireturn, 1) := by decide +kernel
theorem dL_isPiece_686 : decode cL_isPiece 686 = .ok (.iload 5, 2) := by decide +kernel
theorem dL_isPiece_688 : decode cL_isPiece 688 = .ok (.iconst 4, 1) := by decide +kernel
theorem dL_isPiece_689 : decode cL_isPiece 689 = .ok (.if_icmp .ne 69, 3) := by decide +kernel
theorem dL_isPiece_692 : decode cL_isPiece 692 = .ok (.aload_n 1, 1) := by decide +kernel
theorem dL_isPiece_693 : decode cL_isPiece 693 = .ok (.iload 9, 2) := by decide +kernel
theorem dL_isPiece_695 : decode cL_isPiece 695 = .ok (.ifCond .eq 11, 3) := by decide +kernel
theorem dL_isPiece_698 : decode cL_isPiece 698 = .ok (.bipush 32, 2) := by decide +kernel
theorem dL_isPiece_700 : decode cL_isPiece 700 = .ok (.iload 8, 2) := by decide +kernel
theorem dL_isPiece_702 : decode cL_isPiece 702 = .ok (.iadd, 1) := by decide +kernel
theorem dL_isPiece_703 : decode cL_isPiece 703 = .ok (.goto 5, 3) := by decide +kernel
theorem dL_isPiece_706 : decode cL_isPiece 706 = .ok (.bipush 56, 2) := by decide +kernel
theorem dL_isPiece_708 : decode cL_isPiece 708 = .ok (.iload 9, 2) := by decide +kernel
theorem dL_isPiece_710 : decode cL_isPiece 710 = .ok (.ifCond .eq 12, 3) := by decide +kernel
theorem dL_isPiece_713 : decode cL_isPiece 713 = .ok (.aload_n 1, 1) := by decide +kernel
theorem dL_isPiece_714 : decode cL_isPiece 714 = .ok (.iload 8, 2) := by decide +kernel
theorem dL_isPiece_716 : decode cL_isPiece 716 = .ok (.invokestatic 119, 3) := by decide +kernel
theorem dL_isPiece_719 : decode cL_isPiece 719 = .ok (.goto 4, 3) := by decide +kernel
theorem dL_isPiece_722 : decode cL_isPiece 722 = .ok (.iconst 0, 1) := by decide +kernel
theorem dL_isPiece_723 : decode cL_isPiece 723 = .ok (.iastore, 1) := by decide +kernel
theorem dL_isPiece_724 : decode cL_isPiece 724 = .ok (.aload_n 0, 1) := by decide +kernel
theorem dL_isPiece_725 : decode cL_isPiece 725 = .ok (.iconst 5, 1) := by decide +kernel
theorem dL_isPiece_726 : decode cL_isPiece 726 = .ok (.iload 8, 2) := by decide +kernel
theorem dL_isPiece_728 : decode cL_isPiece 728 = .ok (.iconst 0, 1) := by decide +kernel
theorem dL_isPiece_729 : decode cL_isPiece 729 = .ok (.iconst 0, 1) := by decide +kernel
theorem dL_isPiece_730 : decode cL_isPiece 730 = .ok (.invokestatic 151, 3) := by decide +kernel
theorem dL_isPiece_733 : decode cL_isPiece 733 = .ok (.iload 9, 2) := by decide +kernel
theorem dL_isPiece_735 : decode cL_isPiece 735 = .ok (.ifCond .eq 12, 3) := by decide +kernel
theorem dL_isPiece_738 : decode cL_isPiece 738 = .ok (.aload_n 1, 1) := by decide +kernel
theorem dL_isPiece_739 : decode cL_isPiece 739 = .ok (.iload 8, 2) := by decide +kernel
theorem dL_isPiece_741 : decode cL_isPiece 741 = .ok (.invokestatic 119, 3) := by decide +kernel
theorem dL_isPiece_744 : decode cL_isPiece 744 = .ok (.goto 5, 3) := by decide +kernel
theorem dL_isPiece_747 : decode cL_isPiece 747 = .ok (.ldc 76, 2) := by decide +kernel
theorem dL_isPiece_749 : decode cL_isPiece 749 = .ok (.if_icmp .ne 7, 3) := by decide +kernel
theorem dL_isPiece_752 : decode cL_isPiece 752 = .ok (.iconst 1, 1) := by decide +kernel
theorem dL_isPiece_753 : decode cL_isPiece 753 = .ok (.goto 4, 3) := by decide +kernel
theorem dL_isPiece_756 : decode cL_isPiece 756 = .ok (.iconst 0, 1) := by decide +kernel
theorem dL_isPiece_757 : decode cL_isPiece 757 = .ok (.ireturn, 1) := by decide +kernel
theorem dL_isPiece_758 : decode cL_isPiece 758 = .ok (.iload 5, 2) := by decide +kernel
theorem dL_isPiece_760 : decode cL_isPiece 760 = .ok (.iconst 5, 1) := by decide +kernel
theorem dL_isPiece_761 : decode cL_isPiece 761 = .ok (.if_icmp .ne 131, 3) := by decide +kernel
theorem dL_isPiece_764 : decode cL_isPiece 764 = .ok (.iload 7, 2) := by decide +kernel
theorem dL_isPiece_766 : decode cL_isPiece 766 = .ok (.bipush 9, 2) := by decide +kernel
theorem dL_isPiece_768 : decode cL_isPiece 768 = .ok (.irem, 1) := by decide +kernel
theorem dL_isPiece_769 : decode cL_isPiece 769 = .ok (.bipush 8, 2) := by decide +kernel
theorem dL_isPiece_771 : decode cL_isPiece 771 = .ok (.if_icmp .ne 7, 3) := by decide +kernel
theorem dL_isPiece_774 : decode cL_isPiece 774 = .ok (.iconst 3, 1) := by decide +kernel
theorem dL_isPiece_775 : decode cL_isPiece 775 = .ok (.goto 21, 3) := by decide +kernel
theorem dL_isPiece_778 : decode cL_isPiece 778 = .ok (.iload 7, 2) := by decide +kernel
theorem dL_isPiece_780 : decode cL_isPiece 780 = .ok (.iconst 3, 1) := by decide +kernel
theorem dL_isPiece_781 : decode cL_isPiece 781 = .ok (.irem, 1) := by decide +kernel
theorem dL_isPiece_782 : decode cL_isPiece 782 = .ok (.ifCond .ne 13, 3) := by decide +kernel
theorem dL_isPiece_785 : decode cL_isPiece 785 = .ok (.iload 7, 2) := by decide +kernel
theorem dL_isPiece_787 : decode cL_isPiece 787 = .ok (.bipush 9, 2) := by decide +kernel
theorem dL_isPiece_789 : decode cL_isPiece 789 = .ok (.idiv, 1) := by decide +kernel
theorem dL_isPiece_790 : decode cL_isPiece 790 = .ok (.iconst 3, 1) := by decide +kernel
theorem dL_isPiece_791 : decode cL_isPiece 791 = .ok (.irem, 1) := by decide +kernel
theorem dL_isPiece_792 : decode cL_isPiece 792 = .ok (.goto 4, 3) := by decide +kernel
theorem dL_isPiece_795 : decode cL_isPiece 795 = .ok (.iconst 2, 1) := by decide +kernel
theorem dL_isPiece_796 : decode cL_isPiece 796 = .ok (.istore 10, 2) := by decide +kernel
theorem dL_isPiece_798 : decode cL_isPiece 798 = .ok (.iload 9, 2) := by decide +kernel
theorem dL_isPiece_800 : decode cL_isPiece 800 = .ok (.ifCond .eq 15, 3) := by decide +kernel
theorem dL_isPiece_803 : decode cL_isPiece 803 = .ok (.aload_n 2, 1) := by decide +kernel
theorem dL_isPiece_804 : decode cL_isPiece 804 = .ok (.iload 8, 2) := by decide +kernel
theorem dL_isPiece_806 : decode cL_isPiece 806 = .ok (.iaload, 1) := by decide +kernel
theorem dL_isPiece_807 : decode cL_isPiece 807 = .ok (.bipush 16, 2) := by decide +kernel
theorem dL_isPiece_809 : decode cL_isPiece 809 = .ok (.idiv, 1) := by decide +kernel
theorem dL_isPiece_810 : decode cL_isPiece 810 = .ok (.iconst 4, 1) := by decide +kernel
theorem dL_isPiece_811 : decode cL_isPiece 811 = .ok (.irem, 1) := by decide +kernel
theorem dL_isPiece_812 : decode cL_isPiece 812 = .ok (.goto 4, 3) := by decide +kernel
theorem dL_isPiece_815 : decode cL_isPiece 815 = .ok (.iconst 0, 1) := by decide +kernel
theorem dL_isPiece_816 : decode cL_isPiece 816 = .ok (.istore 11, 2) := by decide +kernel
theorem dL_isPiece_818 : decode cL_isPiece 818 = .ok (.aload_n 2, 1) := by decide +kernel
theorem dL_isPiece_819 : decode cL_isPiece 819 = .ok (.iload 9, 2) := by decide +kernel
theorem dL_isPiece_821 : decode cL_isPiece 821 = .ok (.ifCond .eq 14, 3) := by decide +kernel
theorem dL_isPiece_824 : decode cL_isPiece 824 = .ok (.iload 10, 2) := by decide +kernel
theorem dL_isPiece_826 : decode cL_isPiece 826 = .ok (.iconst 3, 1) := by decide +kernel
theorem dL_isPiece_827 : decode cL_isPiece 827 = .ok (.if_icmp .ge 8, 3) := by decide +kernel
theorem dL_isPiece_830 : decode cL_isPiece 830 = .ok (.iload 8, 2) := by decide +kernel
theorem dL_isPiece_832 : decode cL_isPiece 832 = .ok (.goto 5, 3) := by decide +kernel
theorem dL_isPiece_835 : decode cL_isPiece 835 = .ok (.bipush 8, 2) := by decide +kernel
theorem dL_isPiece_837 : decode cL_isPiece 837 = .ok (.dup2, 1) := by decide +kernel
theorem dL_isPiece_838 : decode cL_isPiece 838 = .ok (.iaload, 1) := by decide +kernel
theorem dL_isPiece_839 : decode cL_isPiece 839 = .ok (.bipush 16, 2) := by decide +kernel
theorem dL_isPiece_841 : decode cL_isPiece 841 = .ok (.iload 10, 2) := by decide +kernel
theorem dL_isPiece_843 : decode cL_isPiece 843 = .ok (.iload 11, 2) := by decide +kernel
theorem dL_isPiece_845 : decode cL_isPiece 845 = .ok (.isub, 1) := by decide +kernel
theorem dL_isPiece_846 : decode cL_isPiece 846 = .ok (.imul, 1) := by decide +kernel
theorem dL_isPiece_847 : decode cL_isPiece 847 = .ok (.iadd, 1) := by decide +kernel
theorem dL_isPiece_848 : decode cL_isPiece 848 = .ok (.iastore, 1) := by decide +kernel
theorem dL_isPiece_849 : decode cL_isPiece 849 = .ok (.aload_n 0, 1) := by decide +kernel
theorem dL_isPiece_850 : decode cL_isPiece 850 = .ok (.bipush 6, 2) := by decide +kernel
theorem dL_isPiece_852 : decode cL_isPiece 852 = .ok (.iload 8, 2) := by decide +kernel
theorem dL_isPiece_854 : decode cL_isPiece 854 = .ok (.iload 10, 2) := by decide +kernel
theorem dL_isPiece_856 : decode cL_isPiece 856 = .ok (.iconst 0, 1) := by decide +kernel
theorem dL_isPiece_857 : decode cL_isPiece 857 = .ok (.invokestatic 151, 3) := by decide +kernel
theorem dL_isPiece_860 : decode cL_isPiece 860 = .ok (.iload 9, 2) := by decide +kernel
theorem dL_isPiece_862 : decode cL_isPiece 862 = .ok (.ifCond .ne 8, 3) := by decide +kernel
theorem dL_isPiece_865 : decode cL_isPiece 865 = .ok (.ldc 76, 2) := by decide +kernel
theorem dL_isPiece_867 : decode cL_isPiece 867 = .ok (.goto 16, 3) := by decide +kernel
theorem dL_isPiece_870 : decode cL_isPiece 870 = .ok (.iload 10, 2) := by decide +kernel
theorem dL_isPiece_872 : decode cL_isPiece 872 = .ok (.iconst 3, 1) := by decide +kernel
theorem dL_isPiece_873 : decode cL_isPiece 873 = .ok (.if_icmp .ge 8, 3) := by decide +kernel
theorem dL_isPiece_876 : decode cL_isPiece 876 = .ok (.iload 11, 2) := by decide +kernel
theorem dL_isPiece_878 : decode cL_isPiece 878 = .ok (.goto 5, 3) := by decide +kernel
theorem dL_isPiece_881 : decode cL_isPiece 881 = .ok (.ldc 79, 2) := by decide +kernel
theorem dL_isPiece_883 : decode cL_isPiece 883 = .ok (.if_icmp .ne 7, 3) := by decide +kernel
theorem dL_isPiece_886 : decode cL_isPiece 886 = .ok (.iconst 1, 1) := by decide +kernel
theorem dL_isPiece_887 : decode cL_isPiece 887 = .ok (.goto 4, 3) := by decide +kernel
theorem dL_isPiece_890 : decode cL_isPiece 890 = .ok (.iconst 0, 1) := by decide +kernel
theorem dL_isPiece_891 : decode cL_isPiece 891 = .ok (.ireturn, 1) := by decide +kernel
theorem dL_isPiece_892 : decode cL_isPiece 892 = .ok (.iload 7, 2) := by decide +kernel
theorem dL_isPiece_894 : decode cL_isPiece 894 = .ok (.bipush 9, 2) := by decide +kernel
theorem dL_isPiece_896 : decode cL_isPiece 896 = .ok (.irem, 1) := by decide +kernel
theorem dL_isPiece_897 : decode cL_isPiece 897 = .ok (.ifCond .ne 12, 3) := by decide +kernel
theorem dL_isPiece_900 : decode cL_isPiece 900 = .ok (.iload 7, 2) := by decide +kernel
theorem dL_isPiece_902 : decode cL_isPiece 902 = .ok (.sipush 302, 3) := by decide +kernel
theorem dL_isPiece_905 : decode cL_isPiece 905 = .ok (.irem, 1) := by decide +kernel
theorem dL_isPiece_906 : decode cL_isPiece 906 = .ok (.goto 11, 3) := by decide +kernel
theorem dL_isPiece_909 : decode cL_isPiece 909 = .ok (.bipush 10, 2) := by decide +kernel
theorem dL_isPiece_911 : decode cL_isPiece 911 = .ok (.iload 7, 2) := by decide +kernel
theorem dL_isPiece_913 : decode cL_isPiece 913 = .ok (.bipush 120, 2) := by decide +kernel
theorem dL_isPiece_915 : decode cL_isPiece 915 = .ok (.irem, 1) := by decide +kernel
theorem dL_isPiece_916 : decode cL_isPiece 916 = .ok (.iadd, 1) := by decide +kernel
theorem dL_isPiece_917 : decode cL_isPiece 917 = .ok (.istore 10, 2) := by decide +kernel
theorem dL_isPiece_919 : decode cL_isPiece 919 = .ok (.iload 10, 2) := by decide +kernel
theorem dL_isPiece_921 : decode cL_isPiece 921 = .ok (.ifCond .le 15, 3) := by decide +kernel
theorem dL_isPiece_924 : decode cL_isPiece 924 = .ok (.iload 10, 2) := by decide +kernel
theorem dL_isPiece_926 : decode cL_isPiece 926 = .ok (.sipush 301, 3) := by decide +kernel
theorem dL_isPiece_929 : decode cL_isPiece 929 = .ok (.if_icmp .ge 7, 3) := by decide +kernel
theorem dL_isPiece_932 : decode cL_isPiece 932 = .ok (.iconst 1, 1) := by decide +kernel
theorem dL_isPiece_933 : decode cL_isPiece 933 = .ok (.goto 4, 3) := by decide +kernel
theorem dL_isPiece_936 : decode cL_isPiece 936 = .ok (.iconst 0, 1) := by decide +kernel
theorem dL_isPiece_937 : decode cL_isPiece 937 = .ok (.istore 11, 2) := by decide +kernel
theorem dL_isPiece_939 : decode cL_isPiece 939 = .ok (.iload 9, 2) := by decide +kernel
theorem dL_isPiece_941 : decode cL_isPiece 941 = .ok (.ifCond .eq 13, 3) := by decide +kernel
theorem dL_isPiece_944 : decode cL_isPiece 944 = .ok (.aload_n 2, 1) := by decide +kernel
theorem dL_isPiece_945 : decode cL_isPiece 945 = .ok (.iload 8, 2) := by decide +kernel
theorem dL_isPiece_947 : decode cL_isPiece 947 = .ok (.iaload, 1) := by decide +kernel
theorem dL_isPiece_948 : decode cL_isPiece 948 = .ok (.bipush 64, 2) := by decide +kernel
theorem dL_isPiece_950 : decode cL_isPiece 950 = .ok (.idiv, 1) := by decide +kernel
theorem dL_isPiece_951 : decode cL_isPiece 951 = .ok (.goto 4, 3) := by decide +kernel
theorem dL_isPiece_954 : decode cL_isPiece 954 = .ok (.iconst 0, 1) := by decide +kernel
theorem dL_isPiece_955 : decode cL_isPiece 955 = .ok (.istore 12, 2) := by decide +kernel
theorem dL_isPiece_957 : decode cL_isPiece 957 = .ok (.aload_n 2, 1) := by decide +kernel
theorem dL_isPiece_958 : decode cL_isPiece 958 = .ok (.iload 9, 2) := by decide +kernel
theorem dL_isPiece_960 : decode cL_isPiece 960 = .ok (.ifCond .eq 13, 3) := by decide +kernel
theorem dL_isPiece_963 : decode cL_isPiece 963 = .ok (.iload 11, 2) := by decide +kernel
theorem dL_isPiece_965 : decode cL_isPiece 965 = .ok (.ifCond .eq 8, 3) := by decide +kernel
theorem dL_isPiece_968 : decode cL_isPiece 968 = .ok (.iload 8, 2) := by decide +kernel
theorem dL_isPiece_970 : decode cL_isPiece 970 = .ok (.goto 5, 3) := by decide +kernel
theorem dL_isPiece_973 : decode cL_isPiece 973 = .ok (.bipush 8, 2) := by decide +kernel
theorem dL_isPiece_975 : decode cL_isPiece 975 = .ok (.dup2, 1) := by decide +kernel
theorem dL_isPiece_976 : decode cL_isPiece 976 = .ok (.iaload, 1) := by decide +kernel
theorem dL_isPiece_977 : decode cL_isPiece 977 = .ok (.bipush 64, 2) := by decide +kernel
theorem dL_isPiece_979 : decode cL_isPiece 979 = .ok (.iload 10, 2) := by decide +kernel
theorem dL_isPiece_981 : decode cL_isPiece 981 = .ok (.iload 12, 2) := by decide +kernel
theorem dL_isPiece_983 : decode cL_isPiece 983 = .ok (.isub, 1) := by decide +kernel
theorem dL_isPiece_984 : decode cL_isPiece 984 = .ok (.imul, 1) := by decide +kernel
theorem dL_isPiece_985 : decode cL_isPiece 985 = .ok (.iadd, 1) := by decide +kernel
theorem dL_isPiece_986 : decode cL_isPiece 986 = .ok (.iastore, 1) := by decide +kernel
theorem dL_isPiece_987 : decode cL_isPiece 987 = .ok (.aload_n 0, 1) := by decide +kernel
theorem dL_isPiece_988 : decode cL_isPiece 988 = .ok (.bipush 7, 2) := by decide +kernel
theorem dL_isPiece_990 : decode cL_isPiece 990 = .ok (.iload 8, 2) := by decide +kernel
theorem dL_isPiece_992 : decode cL_isPiece 992 = .ok (.iload 10, 2) := by decide +kernel
theorem dL_isPiece_994 : decode cL_isPiece 994 = .ok (.iconst 0, 1) := by decide +kernel
theorem dL_isPiece_995 : decode cL_isPiece 995 = .ok (.invokestatic 151, 3) := by decide +kernel
theorem dL_isPiece_998 : decode cL_isPiece 998 = .ok (.iload 9, 2) := by decide +kernel
theorem dL_isPiece_1000 : decode cL_isPiece 1000 = .ok (.ifCond .ne 8, 3) := by decide +kernel
theorem dL_isPiece_1003 : decode cL_isPiece 1003 = .ok (.ldc 76, 2) := by decide +kernel
theorem dL_isPiece_1005 : decode cL_isPiece 1005 = .ok (.goto 15, 3) := by decide +kernel
theorem dL_isPiece_1008 : decode cL_isPiece 1008 = .ok (.iload 11, 2) := by decide +kernel
theorem dL_isPiece_1010 : decode cL_isPiece 1010 = .ok (.ifCond .eq 8, 3) := by decide +kernel
theorem dL_isPiece_1013 : decode cL_isPiece 1013 = .ok (.iload 12, 2) := by decide +kernel
theorem dL_isPiece_1015 : decode cL_isPiece 1015 = .ok (.goto 5, 3) := by decide +kernel
theorem dL_isPiece_1018 : decode cL_isPiece 1018 = .ok (.ldc 79, 2) := by decide +kernel
theorem dL_isPiece_1020 : decode cL_isPiece 1020 = .ok (.if_icmp .ne 7, 3) := by decide +kernel
theorem dL_isPiece_1023 : decode cL_isPiece 1023 = .ok (.iconst 1, 1) := by decide +kernel
theorem dL_isPiece_1024 : decode cL_isPiece 1024 = .ok (.goto 4, 3) := by decide +kernel
theorem dL_isPiece_1027 : decode cL_isPiece 1027 = .ok (.iconst 0, 1) := by decide +kernel
theorem dL_isPiece_1028 : decode cL_isPiece 1028 = .ok (.ireturn, 1) := by decide +kernel
theorem dL_isVehicle_0 : decode cL_isVehicle 0 = .ok (.iload 5, 2) := by decide +kernel
theorem dL_isVehicle_2 : decode cL_isVehicle 2 = .ok (.ifCond .ne 251, 3) := by decide +kernel
theorem dL_isVehicle_5 : decode cL_isVehicle 5 = .ok (.aload 4, 2) := by decide +kernel
theorem dL_isVehicle_7 : decode cL_isVehicle 7 = .ok (.iconst 4, 1) := by decide +kernel
theorem dL_isVehicle_8 : decode cL_isVehicle 8 = .ok (.iaload, 1) := by decide +kernel
theorem dL_isVehicle_9 : decode cL_isVehicle 9 = .ok (.bipush 8, 2) := by decide +kernel
theorem dL_isVehicle_11 : decode cL_isVehicle 11 = .ok (.if_icmp .ge 242, 3) := by decide +kernel
theorem dL_isVehicle_14 : decode cL_isVehicle 14 = .ok (.iload 6, 2) := by decide +kernel
theorem dL_isVehicle_16 : decode cL_isVehicle 16 = .ok (.bipush 9, 2) := by decide +kernel
theorem dL_isVehicle_18 : decode cL_isVehicle 18 = .ok (.irem, 1) := by decide +kernel
theorem dL_isVehicle_19 : decode cL_isVehicle 19 = .ok (.ifCond .ne 11, 3) := by decide +kernel
theorem dL_isVehicle_22 : decode cL_isVehicle 22 = .ok (.iload 6, 2) := by decide +kernel
theorem dL_isVehicle_24 : decode cL_isVehicle 24 = .ok (.ldc 156, 2) := by decide +kernel
theorem dL_isVehicle_26 : decode cL_isVehicle 26 = .ok (.irem, 1) := by decide +kernel
theorem dL_isVehicle_27 : decode cL_isVehicle 27 = .ok (.goto 13, 3) := by decide +kernel
theorem dL_isVehicle_30 : decode cL_isVehicle 30 = .ok (.sipush 500, 3) := by decide +kernel
theorem dL_isVehicle_33 : decode cL_isVehicle 33 = .ok (.iload 6, 2) := by decide +kernel
theorem dL_isVehicle_35 : decode cL_isVehicle 35 = .ok (.sipush 9000, 3) := by decide +kernel
theorem dL_isVehicle_38 : decode cL_isVehicle 38 = .ok (.irem, 1) := by decide +kernel
theorem dL_isVehicle_39 : decode cL_isVehicle 39 = .ok (.iadd, 1) := by decide +kernel
theorem dL_isVehicle_40 : decode cL_isVehicle 40 = .ok (.istore 8, 2) := by decide +kernel
theorem dL_isVehicle_42 : decode cL_isVehicle 42 = .ok (.iload 7, 2) := by decide +kernel
theorem dL_isVehicle_44 : decode cL_isVehicle 44 = .ok (.bipush 9, 2) := by decide +kernel
theorem dL_isVehicle_46 : decode cL_isVehicle 46 = .ok (.irem, 1) := by decide +kernel
theorem dL_isVehicle_47 : decode cL_isVehicle 47 = .ok (.ifCond .ne 11, 3) := by decide +kernel
theorem dL_isVehicle_50 : decode cL_isVehicle 50 = .ok (.iload 7, 2) := by decide +kernel
theorem dL_isVehicle_52 : decode cL_isVehicle 52 = .ok (.ldc 157, 2) := by decide +kernel
theorem dL_isVehicle_54 : decode cL_isVehicle 54 = .ok (.irem, 1) := by decide +kernel
theorem dL_isVehicle_55 : decode cL_isVehicle 55 = .ok (.goto 9, 3) := by decide +kernel
theorem dL_isVehicle_58 : decode cL_isVehicle 58 = .ok (.iload 7, 2) := by decide +kernel
theorem dL_isVehicle_60 : decode cL_isVehicle 60 = .ok (.sipush 20000, 3) := by decide +kernel
theorem dL_isVehicle_63 : decode cL_isVehicle 63 = .ok (.irem, 1) := by decide +kernel
theorem dL_isVehicle_64 : decode cL_isVehicle 64 = .ok (.istore 9, 2) := by decide +kernel
theorem dL_isVehicle_66 : decode cL_isVehicle 66 = .ok (.iload 6, 2) := by decide +kernel
theorem dL_isVehicle_68 : decode cL_isVehicle 68 = .ok (.bipush 9, 2) := by decide +kernel
theorem dL_isVehicle_70 : decode cL_isVehicle 70 = .ok (.idiv, 1) := by decide +kernel
theorem dL_isVehicle_71 : decode cL_isVehicle 71 = .ok (.bipush 9, 2) := by decide +kernel
theorem dL_isVehicle_73 : decode cL_isVehicle 73 = .ok (.irem, 1) := by decide +kernel
theorem dL_isVehicle_74 : decode cL_isVehicle 74 = .ok (.ifCond .ne 15, 3) := by decide +kernel
theorem dL_isVehicle_77 : decode cL_isVehicle 77 = .ok (.iload 6, 2) := by decide +kernel
theorem dL_isVehicle_79 : decode cL_isVehicle 79 = .ok (.bipush 81, 2) := by decide +kernel
theorem dL_isVehicle_81 : decode cL_isVehicle 81 = .ok (.idiv, 1) := by decide +kernel
theorem dL_isVehicle_82 : decode cL_isVehicle 82 = .ok (.sipush 302, 3) := by decide +kernel
theorem dL_isVehicle_85 : decode cL_isVehicle 85 = .ok (.irem, 1) := by decide +kernel
theorem dL_isVehicle_86 : decode cL_isVehicle 86 = .ok (.goto 14, 3) := by decide +kernel
theorem dL_isVehicle_89 : decode cL_isVehicle 89 = .ok (.bipush 30, 2) := by decide +kernel
theorem dL_isVehicle_91 : decode cL_isVehicle 91 = .ok (.iload 6, 2) := by decide +kernel
theorem dL_isVehicle_93 : decode cL_isVehicle 93 = .ok (.bipush 9, 2) := by decide +kernel
theorem dL_isVehicle_95 : decode cL_isVehicle 95 = .ok (.idiv, 1) := by decide +kernel
theorem dL_isVehicle_96 : decode cL_isVehicle 96 = .ok (.bipush 90, 2) := by decide +kernel
theorem dL_isVehicle_98 : decode cL_isVehicle 98 = .ok (.irem, 1) := by decide +kernel
theorem dL_isVehicle_99 : decode cL_isVehicle 99 = .ok (.iadd, 1) := by decide +kernel
theorem dL_isVehicle_100 : decode cL_isVehicle 100 = .ok (.istore 10, 2) := by decide +kernel
theorem dL_isVehicle_102 : decode cL_isVehicle 102 = .ok (.iload 8, 2) := by decide +kernel
theorem dL_isVehicle_104 : decode cL_isVehicle 104 = .ok (.sipush 499, 3) := by decide +kernel
theorem dL_isVehicle_107 : decode cL_isVehicle 107 = .ok (.if_icmp .le 34, 3) := by decide +kernel
theorem dL_isVehicle_110 : decode cL_isVehicle 110 = .ok (.iload 8, 2) := by decide +kernel
theorem dL_isVehicle_112 : decode cL_isVehicle 112 = .ok (.ldc 158, 2) := by decide +kernel
theorem dL_isVehicle_114 : decode cL_isVehicle 114 = .ok (.if_icmp .ge 27, 3) := by decide +kernel
theorem dL_isVehicle_117 : decode cL_isVehicle 117 = .ok (.iload 9, 2) := by decide +kernel
theorem dL_isVehicle_119 : decode cL_isVehicle 119 = .ok (.ldc 159, 2) := by decide +kernel
theorem dL_isVehicle_121 : decode cL_isVehicle 121 = .ok (.if_icmp .ge 20, 3) := by decide +kernel
theorem dL_isVehicle_124 : decode cL_isVehicle 124 = .ok (.iload 10, 2) := by decide +kernel
theorem dL_isVehicle_126 : decode cL_isVehicle 126 = .ok (.ifCond .le 15, 3) := by decide +kernel
theorem dL_isVehicle_129 : decode cL_isVehicle 129 = .ok (.iload 10, 2) := by decide +kernel
theorem dL_isVehicle_131 : decode cL_isVehicle 131 = .ok (.sipush 301, 3) := by decide +kernel
theorem dL_isVehicle_134 : decode cL_isVehicle 134 = .ok (.if_icmp .ge 7, 3) := by decide +kernel
theorem dL_isVehicle_137 : decode cL_isVehicle 137 = .ok (.iconst 1, 1) := by decide +kernel
theorem dL_isVehicle_138 : decode cL_isVehicle 138 = .ok (.goto 4, 3) := by decide +kernel
theorem dL_isVehicle_141 : decode cL_isVehicle 141 = .ok (.iconst 0, 1) := by decide +kernel
theorem dL_isVehicle_142 : decode cL_isVehicle 142 = .ok (.istore 11, 2) := by decide +kernel
theorem dL_isVehicle_144 : decode cL_isVehicle 144 = .ok (.iload 11, 2) := by decide +kernel
theorem dL_isVehicle_146 : decode cL_isVehicle 146 = .ok (.ifCond .eq 14, 3) := by decide +kernel
theorem dL_isVehicle_149 : decode cL_isVehicle 149 = .ok (.aload 4, 2) := by decide +kernel
theorem dL_isVehicle_151 : decode cL_isVehicle 151 = .ok (.iconst 3, 1) := by decide +kernel
theorem dL_isVehicle_152 : decode cL_isVehicle 152 = .ok (.iaload, 1) := by decide +kernel
theorem dL_isVehicle_153 : decode cL_isVehicle 153 = .ok (.ifCond .le 7, 3) := by decide +kernel
theorem dL_isVehicle_156 : decode cL_isVehicle 156 = .ok (.iconst 1, 1) := by decide +kernel
theorem dL_isVehicle_157 : decode cL_isVehicle 157 = .ok (.goto 4, 3) := by decide +kernel
theorem dL_isVehicle_160 : decode cL_isVehicle 160 = .ok (.iconst 0, 1) := by decide +kernel
theorem dL_isVehicle_161 : decode cL_isVehicle 161 = .ok (.istore 12, 2) := by decide +kernel
theorem dL_isVehicle_163 : decode cL_isVehicle 163 = .ok (.iload 12, 2) := by decide +kernel
theorem dL_isVehicle_165 : decode cL_isVehicle 165 = .ok (.ifCond .eq 41, 3) := by decide +kernel
theorem dL_isVehicle_168 : decode cL_isVehicle 168 = .ok (.aload_n 2, 1) := by decide +kernel
theorem dL_isVehicle_169 : decode cL_isVehicle 169 = .ok (.aload 4, 2) := by decide +kernel
theorem dL_isVehicle_171 : decode cL_isVehicle 171 = .ok (.iconst 4, 1) := by decide +kernel
theorem dL_isVehicle_172 : decode cL_isVehicle 172 = .ok (.iaload, 1) := by decide +kernel
theorem dL_isVehicle_173 : decode cL_isVehicle 173 = .ok (.iload 8, 2) := by decide +kernel
theorem dL_isVehicle_175 : decode cL_isVehicle 175 = .ok (.iastore, 1) := by decide +kernel
theorem dL_isVehicle_176 : decode cL_isVehicle 176 = .ok (.aload_n 2, 1) := by decide +kernel
theorem dL_isVehicle_177 : decode cL_isVehicle 177 = .ok (.bipush 16, 2) := by decide +kernel
theorem dL_isVehicle_179 : decode cL_isVehicle 179 = .ok (.aload 4, 2) := by decide +kernel
theorem dL_isVehicle_181 : decode cL_isVehicle 181 = .ok (.iconst 4, 1) := by decide +kernel
theorem dL_isVehicle_182 : decode cL_isVehicle 182 = .ok (.iaload, 1) := by decide +kernel
theorem dL_isVehicle_183 : decode cL_isVehicle 183 = .ok (.iadd, 1) := by decide +kernel
theorem dL_isVehicle_184 : decode cL_isVehicle 184 = .ok (.iload 9, 2) := by decide +kernel
theorem dL_isVehicle_186 : decode cL_isVehicle 186 = .ok (.iastore, 1) := by decide +kernel
theorem dL_isVehicle_187 : decode cL_isVehicle 187 = .ok (.aload_n 2, 1) := by decide +kernel
theorem dL_isVehicle_188 : decode cL_isVehicle 188 = .ok (.bipush 24, 2) := by decide +kernel
theorem dL_isVehicle_190 : decode cL_isVehicle 190 = .ok (.aload 4, 2) := by decide +kernel
theorem dL_isVehicle_192 : decode cL_isVehicle 192 = .ok (.iconst 4, 1) := by decide +kernel
theorem dL_isVehicle_193 : decode cL_isVehicle 193 = .ok (.iaload, 1) := by decide +kernel
theorem dL_isVehicle_194 : decode cL_isVehicle 194 = .ok (.iadd, 1) := by decide +kernel
theorem dL_isVehicle_195 : decode cL_isVehicle 195 = .ok (.iload 10, 2) := by decide +kernel
theorem dL_isVehicle_197 : decode cL_isVehicle 197 = .ok (.iastore, 1) := by decide +kernel
theorem dL_isVehicle_198 : decode cL_isVehicle 198 = .ok (.aload 4, 2) := by decide +kernel
theorem dL_isVehicle_200 : decode cL_isVehicle 200 = .ok (.iconst 4, 1) := by decide +kernel
theorem dL_isVehicle_201 : decode cL_isVehicle 201 = .ok (.dup2, 1) := by decide +kernel
theorem dL_isVehicle_202 : decode cL_isVehicle 202 = .ok (.iaload, 1) := by decide +kernel
theorem dL_isVehicle_203 : decode cL_isVehicle 203 = .ok (.iconst 1, 1) := by decide +kernel
theorem dL_isVehicle_204 : decode cL_isVehicle 204 = .ok (.iadd, 1) := by decide +kernel
theorem dL_isVehicle_205 : decode cL_isVehicle 205 = .ok (.iastore, 1) := by decide +kernel
theorem dL_isVehicle_206 : decode cL_isVehicle 206 = .ok (.aload_n 0, 1) := by decide +kernel
theorem dL_isVehicle_207 : decode cL_isVehicle 207 = .ok (.bipush 9, 2) := by decide +kernel
theorem dL_isVehicle_209 : decode cL_isVehicle 209 = .ok (.iload 8, 2) := by decide +kernel
theorem dL_isVehicle_211 : decode cL_isVehicle 211 = .ok (.iload 9, 2) := by decide +kernel
theorem dL_isVehicle_213 : decode cL_isVehicle 213 = .ok (.iload 10, 2) := by decide +kernel
theorem dL_isVehicle_215 : decode cL_isVehicle 215 = .ok (.invokestatic 151, 3) := by decide +kernel
theorem dL_isVehicle_218 : decode cL_isVehicle 218 = .ok (.iload 11, 2) := by decide +kernel
theorem dL_isVehicle_220 : decode cL_isVehicle 220 = .ok (.ifCond .ne 8, 3) := by decide +kernel
theorem dL_isVehicle_223 : decode cL_isVehicle 223 = .ok (.ldc 79, 2) := by decide +kernel
theorem dL_isVehicle_225 : decode cL_isVehicle 225 = .ok (.goto 19, 3) := by decide +kernel
theorem dL_isVehicle_228 : decode cL_isVehicle 228 = .ok (.iload 12, 2) := by decide +kernel
theorem dL_isVehicle_230 : decode cL_isVehicle 230 = .ok (.ifCond .eq 12, 3) := by decide +kernel
theorem dL_isVehicle_233 : decode cL_isVehicle 233 = .ok (.aload 4, 2) := by decide +kernel
theorem dL_isVehicle_235 : decode cL_isVehicle 235 = .ok (.iconst 4, 1) := by decide +kernel
theorem dL_isVehicle_236 : decode cL_isVehicle 236 = .ok (.iaload, 1) := by decide +kernel
theorem dL_isVehicle_237 : decode cL_isVehicle 237 = .ok (.iconst 1, 1) := by decide +kernel
theorem dL_isVehicle_238 : decode cL_isVehicle 238 = .ok (.isub, 1) := by decide +kernel
theorem dL_isVehicle_239 : decode cL_isVehicle 239 = .ok (.goto 5, 3) := by decide +kernel
theorem dL_isVehicle_242 : decode cL_isVehicle 242 = .ok (.ldc 82, 2) := by decide +kernel
theorem dL_isVehicle_244 : decode cL_isVehicle 244 = .ok (.if_icmp .ne 7, 3) := by decide +kernel
theorem dL_isVehicle_247 : decode cL_isVehicle 247 = .ok (.iconst 1, 1) := by decide +kernel
theorem dL_isVehicle_248 : decode cL_isVehicle 248 = .ok (.goto 4, 3) := by decide +kernel
theorem dL_isVehicle_251 : decode cL_isVehicle 251 = .ok (.iconst 0, 1) := by decide +kernel
theorem dL_isVehicle_252 : decode cL_isVehicle 252 = .ok (.ireturn, 1) := by decide +kernel
theorem dL_isVehicle_253 : decode cL_isVehicle 253 = .ok (.iload 6, 2) := by decide +kernel
theorem dL_isVehicle_255 : decode cL_isVehicle 255 = .ok (.aload 4, 2) := by decide +kernel
theorem dL_isVehicle_257 : decode cL_isVehicle 257 = .ok (.iconst 4, 1) := by decide +kernel
theorem dL_isVehicle_258 : decode cL_isVehicle 258 = .ok (.iaload, 1) := by decide +kernel
theorem dL_isVehicle_259 : decode cL_isVehicle 259 = .ok (.iconst 1, 1) := by decide +kernel
theorem dL_isVehicle_260 : decode cL_isVehicle 260 = .ok (.iadd, 1) := by decide +kernel
theorem dL_isVehicle_261 : decode cL_isVehicle 261 = .ok (.irem, 1) := by decide +kernel
theorem dL_isVehicle_262 : decode cL_isVehicle 262 = .ok (.istore 8, 2) := by decide +kernel
theorem dL_isVehicle_264 : decode cL_isVehicle 264 = .ok (.iload 8, 2) := by decide +kernel
theorem dL_isVehicle_266 : decode cL_isVehicle 266 = .ok (.aload 4, 2) := by decide +kernel
theorem dL_isVehicle_268 : decode cL_isVehicle 268 = .ok (.iconst 4, 1) := by decide +kernel
theorem dL_isVehicle_269 : decode cL_isVehicle 269 = .ok (.iaload, 1) := by decide +kernel
theorem dL_isVehicle_270 : decode cL_isVehicle 270 = .ok (.if_icmp .ge 7, 3) := by decide +kernel
theorem dL_isVehicle_273 : decode cL_isVehicle 273 = .ok (.iconst 1, 1) := by decide +kernel
theorem dL_isVehicle_274 : decode cL_isVehicle 274 = .ok (.goto 4, 3) := by decide +kernel
theorem dL_isVehicle_277 : decode cL_isVehicle 277 = .ok (.iconst 0, 1) := by decide +kernel
theorem dL_isVehicle_278 : decode cL_isVehicle 278 = .ok (.istore 9, 2) := by decide +kernel
theorem dL_isVehicle_280 : decode cL_isVehicle 280 = .ok (.iload 5, 2) := by decide +kernel
theorem dL_isVehicle_282 : decode cL_isVehicle 282 = .ok (.iconst 2, 1) := by decide +kernel
theorem dL_isVehicle_283 : decode cL_isVehicle 283 = .ok (.if_icmp .ge 261, 3) := by decide +kernel
theorem dL_isVehicle_286 : decode cL_isVehicle 286 = .ok (.iload 7, 2) := by decide +kernel
theorem dL_isVehicle_288 : decode cL_isVehicle 288 = .ok (.bipush 9, 2) := by decide +kernel
theorem dL_isVehicle_290 : decode cL_isVehicle 290 = .ok (.irem, 1) := by decide +kernel
theorem dL_isVehicle_291 : decode cL_isVehicle 291 = .ok (.bipush 8, 2) := by decide +kernel
theorem dL_isVehicle_293 : decode cL_isVehicle 293 = .ok (.if_icmp .ne 7, 3) := by decide +kernel
theorem dL_isVehicle_296 : decode cL_isVehicle 296 = .ok (.iconst 3, 1) := by decide +kernel
theorem dL_isVehicle_297 : decode cL_isVehicle 297 = .ok (.goto 7, 3) := by decide +kernel
theorem dL_isVehicle_300 : decode cL_isVehicle 300 = .ok (.iload 7, 2) := by decide +kernel
theorem dL_isVehicle_302 : decode cL_isVehicle 302 = .ok (.iconst 3, 1) := by decide +kernel
theorem dL_isVehicle_303 : decode cL_isVehicle 303 = .ok (.irem, 1) := by decide +kernel
theorem dL_isVehicle_304 : decode cL_isVehicle 304 = .ok (.istore 10, 2) := by decide +kernel
theorem dL_isVehicle_306 : decode cL_isVehicle 306 = .ok (.iload 9, 2) := by decide +kernel
theorem dL_isVehicle_308 : decode cL_isVehicle 308 = .ok (.ifCond .eq 13, 3) := by decide +kernel
theorem dL_isVehicle_311 : decode cL_isVehicle 311 = .ok (.aload_n 2, 1) := by decide +kernel
theorem dL_isVehicle_312 : decode cL_isVehicle 312 = .ok (.bipush 16, 2) := by decide +kernel
theorem dL_isVehicle_314 : decode cL_isVehicle 314 = .ok (.iload 8, 2) := by decide +kernel
theorem dL_isVehicle_316 : decode cL_isVehicle 316 = .ok (.iadd, 1) := by decide +kernel
theorem dL_isVehicle_317 : decode cL_isVehicle 317 = .ok (.iaload, 1) := by decide +kernel
theorem dL_isVehicle_318 : decode cL_isVehicle 318 = .ok (.goto 4, 3) := by decide +kernel
theorem dL_isVehicle_321 : decode cL_isVehicle 321 = .ok (.iconst 0, 1) := by decide +kernel
theorem dL_isVehicle_322 : decode cL_isVehicle 322 = .ok (.istore 11, 2) := by decide +kernel
theorem dL_isVehicle_324 : decode cL_isVehicle 324 = .ok (.iload 7, 2) := by decide +kernel
theorem dL_isVehicle_326 : decode cL_isVehicle 326 = .ok (.bipush 9, 2) := by decide +kernel
theorem dL_isVehicle_328 : decode cL_isVehicle 328 = .ok (.idiv, 1) := by decide +kernel
theorem dL_isVehicle_329 : decode cL_isVehicle 329 = .ok (.bipush 9, 2) := by decide +kernel
theorem dL_isVehicle_331 : decode cL_isVehicle 331 = .ok (.irem, 1) := by decide +kernel
theorem dL_isVehicle_332 : decode cL_isVehicle 332 = .ok (.ifCond .ne 18, 3) := by decide +kernel
theorem dL_isVehicle_335 : decode cL_isVehicle 335 = .ok (.iload 7, 2) := by decide +kernel
theorem dL_isVehicle_337 : decode cL_isVehicle 337 = .ok (.bipush 81, 2) := by decide +kernel
theorem dL_isVehicle_339 : decode cL_isVehicle 339 = .ok (.idiv, 1) := by decide +kernel
theorem dL_isVehicle_340 : decode cL_isVehicle 340 = .ok (.iconst 2, 1) := by decide +kernel
theorem dL_isVehicle_341 : decode cL_isVehicle 341 = .ok (.irem, 1) := by decide +kernel
theorem dL_isVehicle_342 : decode cL_isVehicle 342 = .ok (.iload 11, 2) := by decide +kernel
theorem dL_isVehicle_344 : decode cL_isVehicle 344 = .ok (.iconst 1, 1) := by decide +kernel
theorem dL_isVehicle_345 : decode cL_isVehicle 345 = .ok (.iadd, 1) := by decide +kernel
theorem dL_isVehicle_346 : decode cL_isVehicle 346 = .ok (.imul, 1) := by decide +kernel
theorem dL_isVehicle_347 : decode cL_isVehicle 347 = .ok (.goto 25, 3) := by decide +kernel
theorem dL_isVehicle_350 : decode cL_isVehicle 350 = .ok (.iload 11, 2) := by decide +kernel
theorem dL_isVehicle_352 : decode cL_isVehicle 352 = .ok (.ifCond .ne 7, 3) := by decide +kernel
theorem dL_isVehicle_355 : decode cL_isVehicle 355 = .ok (.iconst 1, 1) := by decide +kernel
theorem dL_isVehicle_356 : decode cL_isVehicle 356 = .ok (.goto 16, 3) := by decide +kernel
theorem dL_isVehicle_359 : decode cL_isVehicle 359 = .ok (.iconst 1, 1) := by decide +kernel
theorem dL_isVehicle_360 : decode cL_isVehicle 360 = .ok (.iload 7, 2) := by decide +kernel
theorem dL_isVehicle_362 : decode cL_isVehicle 362 = .ok (.bipush 9, 2) := by decide +kernel
theorem dL_isVehicle_364 : decode cL_isVehicle 364 = .ok (.idiv, 1) := by decide +kernel
theorem dL_isVehicle_365 : decode cL_isVehicle 365 = .ok (.bipush 7, 2) := by decide +kernel
theorem dL_isVehicle_367 : decode cL_isVehicle 367 = .ok (.imul, 1) := by decide +kernel
theorem dL_isVehicle_368 : decode cL_isVehicle 368 = .ok (.iload 11, 2) := by decide +kernel
theorem dL_isVehicle_370 : decode cL_isVehicle 370 = .ok (.irem, 1) := by decide +kernel
theorem dL_isVehicle_371 : decode cL_isVehicle 371 = .ok (.iadd, 1) := by decide +kernel
theorem dL_isVehicle_372 : decode cL_isVehicle 372 = .ok (.istore 12, 2) := by decide +kernel
theorem dL_isVehicle_374 : decode cL_isVehicle 374 = .ok (.iload 9, 2) := by decide +kernel
theorem dL_isVehicle_376 : decode cL_isVehicle 376 = .ok (.ifCond .eq 13, 3) := by decide +kernel
theorem dL_isVehicle_379 : decode cL_isVehicle 379 = .ok (.iload 10, 2) := by decide +kernel
theorem dL_isVehicle_381 : decode cL_isVehicle 381 = .ok (.iconst 3, 1) := by decide +kernel
theorem dL_isVehicle_382 : decode cL_isVehicle 382 = .ok (.if_icmp .ge 7, 3) := by decide +kernel
theorem dL_isVehicle_385 : decode cL_isVehicle 385 = .ok (.iconst 1, 1) := by decide +kernel
theorem dL_isVehicle_386 : decode cL_isVehicle 386 = .ok (.goto 4, 3) := by decide +kernel
theorem dL_isVehicle_389 : decode cL_isVehicle 389 = .ok (.iconst 0, 1) := by decide +kernel
theorem dL_isVehicle_390 : decode cL_isVehicle 390 = .ok (.istore 13, 2) := by decide +kernel
theorem dL_isVehicle_392 : decode cL_isVehicle 392 = .ok (.iload 12, 2) := by decide +kernel
theorem dL_isVehicle_394 : decode cL_isVehicle 394 = .ok (.ifCond .le 14, 3) := by decide +kernel
theorem dL_isVehicle_397 : decode cL_isVehicle 397 = .ok (.iload 12, 2) := by decide +kernel
theorem dL_isVehicle_399 : decode cL_isVehicle 399 = .ok (.iload 11, 2) := by decide +kernel
theorem dL_isVehicle_401 : decode cL_isVehicle 401 = .ok (.if_icmp .gt 7, 3) := by decide +kernel
theorem dL_isVehicle_404 : decode cL_isVehicle 404 = .ok (.iconst 1, 1) := by decide +kernel
theorem dL_isVehicle_405 : decode cL_isVehicle 405 = .ok (.goto 4, 3) := by decide +kernel
theorem dL_isVehicle_408 : decode cL_isVehicle 408 = .ok (.iconst 0, 1) := by decide +kernel
theorem dL_isVehicle_409 : decode cL_isVehicle 409 = .ok (.istore 14, 2) := by decide +kernel
theorem dL_isVehicle_411 : decode cL_isVehicle 411 = .ok (.iload 13, 2) := by decide +kernel
theorem dL_isVehicle_413 : decode cL_isVehicle 413 = .ok (.ifCond .eq 32, 3) := by decide +kernel
theorem dL_isVehicle_416 : decode cL_isVehicle 416 = .ok (.iload 14, 2) := by decide +kernel
theorem dL_isVehicle_418 : decode cL_isVehicle 418 = .ok (.ifCond .eq 27, 3) := by decide +kernel
theorem dL_isVehicle_421 : decode cL_isVehicle 421 = .ok (.aload_n 1, 1) := by decide +kernel
theorem dL_isVehicle_422 : decode cL_isVehicle 422 = .ok (.iload 8, 2) := by decide +kernel
theorem dL_isVehicle_424 : decode cL_isVehicle 424 = .ok (.iaload, 1) := by decide +kernel
theorem dL_isVehicle_425 : decode cL_isVehicle 425 = .ok (.bipush 8, 2) := by decide +kernel
theorem dL_isVehicle_427 : decode cL_isVehicle 427 = .ok (.irem, 1) := by decide +kernel
theorem dL_isVehicle_428 : decode cL_isVehicle 428 = .ok (.ifCond .ne 17, 3) := by decide +kernel
theorem dL_isVehicle_431 : decode cL_isVehicle 431 = .ok (.aload_n 2, 1) := by decide +kernel
theorem dL_isVehicle_432 : decode cL_isVehicle 432 = .ok (.bipush 8, 2) := by decide +kernel
theorem dL_isVehicle_434 : decode cL_isVehicle 434 = .ok (.iload 8, 2) := by decide +kernel
theorem dL_isVehicle_436 : decode cL_isVehicle 436 = .ok (.iadd, 1) := by decide +kernel
theorem dL_isVehicle_437 : decode cL_isVehicle 437 = .ok (.iaload, 1) := by decide +kernel
theorem dL_isVehicle_438 : decode cL_isVehicle 438 = .ok (.ifCond .ne 7, 3) := by decide +kernel
theorem dL_isVehicle_441 : decode cL_isVehicle 441 = .ok (.iconst 1, 1) := by decide +kernel
theorem dL_isVehicle_442 : decode cL_isVehicle 442 = .ok (.goto 4, 3) := by decide +kernel
theorem dL_isVehicle_445 : decode cL_isVehicle 445 = .ok (.iconst 0, 1) := by decide +kernel
theorem dL_isVehicle_446 : decode cL_isVehicle 446 = .ok (.istore 15, 2) := by decide +kernel
theorem dL_isVehicle_448 : decode cL_isVehicle 448 = .ok (.iload 15, 2) := by decide +kernel
theorem dL_isVehicle_450 : decode cL_isVehicle 450 = .ok (.ifCond .eq 36, 3) := by decide +kernel
theorem dL_isVehicle_453 : decode cL_isVehicle 453 = .ok (.aload_n 2, 1) := by decide +kernel
theorem dL_isVehicle_454 : decode cL_isVehicle 454 = .ok (.bipush 8, 2) := by decide +kernel
theorem dL_isVehicle_456 : decode cL_isVehicle 456 = .ok (.iload 8, 2) := by decide +kernel
theorem dL_isVehicle_458 : decode cL_isVehicle 458 = .ok (.iadd, 1) := by decide +kernel
theorem dL_isVehicle_459 : decode cL_isVehicle 459 = .ok (.iload 12, 2) := by decide +kernel
theorem dL_isVehicle_461 : decode cL_isVehicle 461 = .ok (.iastore, 1) := by decide +kernel
theorem dL_isVehicle_462 : decode cL_isVehicle 462 = .ok (.aload_n 1, 1) := by decide +kernel
theorem dL_isVehicle_463 : decode cL_isVehicle 463 = .ok (.iload 8, 2) := by decide +kernel
theorem dL_isVehicle_465 : decode cL_isVehicle 465 = .ok (.dup2, 1) := by decide +kernel
theorem dL_isVehicle_466 : decode cL_isVehicle 466 = .ok (.iaload, 1) := by decide +kernel
theorem dL_isVehicle_467 : decode cL_isVehicle 467 = .ok (.sipush 256, 3) := by decide +kernel
theorem dL_isVehicle_470 : decode cL_isVehicle 470 = .ok (.iload 10, 2) := by decide +kernel
theorem dL_isVehicle_472 : decode cL_isVehicle 472 = .ok (.iconst 1, 1) := by decide +kernel
theorem dL_isVehicle_473 : decode cL_isVehicle 473 = .ok (.iadd, 1) := by decide +kernel
theorem dL_isVehicle_474 : decode cL_isVehicle 474 = .ok (.imul, 1) := by decide +kernel
theorem dL_isVehicle_475 : decode cL_isVehicle 475 = .ok (.iadd, 1) := by decide +kernel
theorem dL_isVehicle_476 : decode cL_isVehicle 476 = .ok (.iastore, 1) := by decide +kernel
theorem dL_isVehicle_477 : decode cL_isVehicle 477 = .ok (.aload_n 3, 1) := by decide +kernel
theorem dL_isVehicle_478 : decode cL_isVehicle 478 = .ok (.iload 10, 2) := by decide +kernel
theorem dL_isVehicle_480 : decode cL_isVehicle 480 = .ok (.dup2, 1) := by decide +kernel
theorem dL_isVehicle_481 : decode cL_isVehicle 481 = .ok (.iaload, 1) := by decide +kernel
theorem dL_isVehicle_482 : decode cL_isVehicle 482 = .ok (.iload 12, 2) := by decide +kernel
theorem dL_isVehicle_484 : decode cL_isVehicle 484 = .ok (.iadd, 1) := by decide +kernel
theorem dL_isVehicle_485 : decode cL_isVehicle 485 = .ok (.iastore, 1) := by decide +kernel
theorem dL_isVehicle_486 : decode cL_isVehicle 486 = .ok (.aload_n 0, 1) := by decide +kernel
theorem dL_isVehicle_487 : decode cL_isVehicle 487 = .ok (.bipush 10, 2) := by decide +kernel
theorem dL_isVehicle_489 : decode cL_isVehicle 489 = .ok (.iload 8, 2) := by decide +kernel
theorem dL_isVehicle_491 : decode cL_isVehicle 491 = .ok (.iload 10, 2) := by decide +kernel
theorem dL_isVehicle_493 : decode cL_isVehicle 493 = .ok (.iload 12, 2) := by decide +kernel
theorem dL_isVehicle_495 : decode cL_isVehicle 495 = .ok (.invokestatic 151, 3) := by decide +kernel
theorem dL_isVehicle_498 : decode cL_isVehicle 498 = .ok (.iload 13, 2) := by decide +kernel
theorem dL_isVehicle_500 : decode cL_isVehicle 500 = .ok (.ifCond .ne 8, 3) := by decide +kernel
theorem dL_isVehicle_503 : decode cL_isVehicle 503 = .ok (.ldc 76, 2) := by decide +kernel
theorem dL_isVehicle_505 : decode cL_isVehicle 505 = .ok (.goto 30, 3) := by decide +kernel
theorem dL_isVehicle_508 : decode cL_isVehicle 508 = .ok (.iload 14, 2) := by decide +kernel
theorem dL_isVehicle_510 : decode cL_isVehicle 510 = .ok (.ifCond .ne 8, 3) := by decide +kernel
theorem dL_isVehicle_513 : decode cL_isVehicle 513 = .ok (.ldc 79, 2) := by decide +kernel
theorem dL_isVehicle_515 : decode cL_isVehicle 515 = .ok (.goto 20, 3) := by decide +kernel
theorem dL_isVehicle_518 : decode cL_isVehicle 518 = .ok (.iload 15, 2) := by decide +kernel
theorem dL_isVehicle_520 : decode cL_isVehicle 520 = .ok (.ifCond .eq 13, 3) := by decide +kernel
theorem dL_isVehicle_523 : decode cL_isVehicle 523 = .ok (.aload_n 2, 1) := by decide +kernel
theorem dL_isVehicle_524 : decode cL_isVehicle 524 = .ok (.iload 8, 2) := by decide +kernel
theorem dL_isVehicle_526 : decode cL_isVehicle 526 = .ok (.iaload, 1) := by decide +kernel
theorem dL_isVehicle_527 : decode cL_isVehicle 527 = .ok (.iload 12, 2) := by decide +kernel
theorem dL_isVehicle_529 : decode cL_isVehicle 529 = .ok (.iadd, 1) := by decide +kernel
theorem dL_isVehicle_530 : decode cL_isVehicle 530 = .ok (.goto 5, 3) := by decide +kernel
theorem dL_isVehicle_533 : decode cL_isVehicle 533 = .ok (.ldc 82, 2) := by decide +kernel
theorem dL_isVehicle_535 : decode cL_isVehicle 535 = .ok (.if_icmp .ne 7, 3) := by decide +kernel
theorem dL_isVehicle_538 : decode cL_isVehicle 538 = .ok (.iconst 1, 1) := by decide +kernel
theorem dL_isVehicle_539 : decode cL_isVehicle 539 = .ok (.goto 4, 3) := by decide +kernel
theorem dL_isVehicle_542 : decode cL_isVehicle 542 = .ok (.iconst 0, 1) := by decide +kernel
theorem dL_isVehicle_543 : decode cL_isVehicle 543 = .ok (.ireturn, 1) := by decide +kernel
theorem dL_isVehicle_544 : decode cL_isVehicle 544 = .ok (.iload 9, 2) := by decide +kernel
theorem dL_isVehicle_546 : decode cL_isVehicle 546 = .ok (.ifCond .eq 13, 3) := by decide +kernel
theorem dL_isVehicle_549 : decode cL_isVehicle 549 = .ok (.aload_n 1, 1) := by decide +kernel
theorem dL_isVehicle_550 : decode cL_isVehicle 550 = .ok (.iload 8, 2) := by decide +kernel
theorem dL_isVehicle_552 : decode cL_isVehicle 552 = .ok (.iaload, 1) := by decide +kernel
theorem dL_isVehicle_553 : decode cL_isVehicle 553 = .ok (.bipush 8, 2) := by decide +kernel
theorem dL_isVehicle_555 : decode cL_isVehicle 555 = .ok (.irem, 1) := by decide +kernel
theorem dL_isVehicle_556 : decode cL_isVehicle 556 = .ok (.goto 4, 3) := by decide +kernel
theorem dL_isVehicle_559 : decode cL_isVehicle 559 = .ok (.iconst 4, 1) := by decide +kernel
theorem dL_isVehicle_560 : decode cL_isVehicle 560 = .ok (.istore 10, 2) := by decide +kernel
theorem dL_isVehicle_562 : decode cL_isVehicle 562 = .ok (.iload 9, 2) := by decide +kernel
theorem dL_isVehicle_564 : decode cL_isVehicle 564 = .ok (.ifCond .eq 16, 3) := by decide +kernel
theorem dL_isVehicle_567 : decode cL_isVehicle 567 = .ok (.aload_n 1, 1) := by decide +kernel
theorem dL_isVehicle_568 : decode cL_isVehicle 568 = .ok (.iload 8, 2) := by decide +kernel
theorem dL_isVehicle_570 : decode cL_isVehicle 570 = .ok (.iaload, 1) := by decide +kernel
theorem dL_isVehicle_571 : decode cL_isVehicle 571 = .ok (.sipush 128, 3) := by decide +kernel
theorem dL_isVehicle_574 : decode cL_isVehicle 574 = .ok (.idiv, 1) := by decide +kernel
theorem dL_isVehicle_575 : decode cL_isVehicle 575 = .ok (.iconst 2, 1) := by decide +kernel
theorem dL_isVehicle_576 : decode cL_isVehicle 576 = .ok (.irem, 1) := by decide +kernel
theorem dL_isVehicle_577 : decode cL_isVehicle 577 = .ok (.goto 4, 3) := by decide +kernel
theorem dL_isVehicle_580 : decode cL_isVehicle 580 = .ok (.iconst 0, 1) := by decide +kernel
theorem dL_isVehicle_581 : decode cL_isVehicle 581 = .ok (.istore 11, 2) := by decide +kernel
theorem dL_isVehicle_583 : decode cL_isVehicle 583 = .ok (.iload 5, 2) := by decide +kernel
theorem dL_isVehicle_585 : decode cL_isVehicle 585 = .ok (.iconst 2, 1) := by decide +kernel
theorem dL_isVehicle_586 : decode cL_isVehicle 586 = .ok (.if_icmp .ne 108, 3) := by decide +kernel
theorem dL_isVehicle_589 : decode cL_isVehicle 589 = .ok (.iload 10, 2) := by decide +kernel
theorem dL_isVehicle_591 : decode cL_isVehicle 591 = .ok (.ifCond .eq 9, 3) := by decide +kernel
theorem dL_isVehicle_594 : decode cL_isVehicle 594 = .ok (.iload 10, 2) := by decide +kernel
theorem dL_isVehicle_596 : decode cL_isVehicle 596 = .ok (.iconst 3, 1) := by decide +kernel
theorem dL_isVehicle_597 : decode cL_isVehicle 597 = .ok (.if_icmp .ne 7, 3) := by decide +kernel
theorem dL_isVehicle_600 : decode cL_isVehicle 600 = .ok (.iconst 1, 1) := by decide +kernel
theorem dL_isVehicle_601 : decode cL_isVehicle 601 = .ok (.goto 4, 3) := by decide +kernel
theorem dL_isVehicle_604 : decode cL_isVehicle 604 = .ok (.iconst 0, 1) := by decide +kernel
theorem dL_isVehicle_605 : decode cL_isVehicle 605 = .ok (.istore 12, 2) := by decide +kernel
theorem dL_isVehicle_607 : decode cL_isVehicle 607 = .ok (.iload 12, 2) := by decide +kernel
theorem dL_isVehicle_609 : decode cL_isVehicle 609 = .ok (.ifCond .eq 36, 3) := by decide +kernel
theorem dL_isVehicle_612 : decode cL_isVehicle 612 = .ok (.aload_n 1, 1) := by decide +kernel
theorem dL_isVehicle_613 : decode cL_isVehicle 613 = .ok (.iload 8, 2) := by decide +kernel
theorem dL_isVehicle_615 : decode cL_isVehicle 615 = .ok (.dup2, 1) := by decide +kernel
theorem dL_isVehicle_616 : decode cL_isVehicle 616 = .ok (.iaload, 1) := by decide +kernel
theorem dL_isVehicle_617 : decode cL_isVehicle 617 = .ok (.iload 10, 2) := by decide +kernel
theorem dL_isVehicle_619 : decode cL_isVehicle 619 = .ok (.ifCond .ne 16, 3) := by decide +kernel
theorem dL_isVehicle_622 : decode cL_isVehicle 622 = .ok (.iconst 2, 1) := by decide +kernel
theorem dL_isVehicle_623 : decode cL_isVehicle 623 = .ok (.sipush 128, 3) := by decide +kernel
theorem dL_isVehicle_626 : decode cL_isVehicle 626 = .ok (.iconst 1, 1) := by decide +kernel
theorem dL_isVehicle_627 : decode cL_isVehicle 627 = .ok (.iload 11, 2) := by decide +kernel
theorem dL_isVehicle_629 : decode cL_isVehicle 629 = .ok (.isub, 1) := by decide +kernel
theorem dL_isVehicle_630 : decode cL_isVehicle 630 = .ok (.imul, 1) := by decide +kernel
theorem dL_isVehicle_631 : decode cL_isVehicle 631 = .ok (.iadd, 1) := by decide +kernel
theorem dL_isVehicle_632 : decode cL_isVehicle 632 = .ok (.goto 11, 3) := by decide +kernel
theorem dL_isVehicle_635 : decode cL_isVehicle 635 = .ok (.iconst (-1), 1) := by decide +kernel
theorem dL_isVehicle_636 : decode cL_isVehicle 636 = .ok (.sipush 128, 3) := by decide +kernel
theorem dL_isVehicle_639 : decode cL_isVehicle 639 = .ok (.iload 11, 2) := by decide +kernel
theorem dL_isVehicle_641 : decode cL_isVehicle 641 = .ok (.imul, 1) := by decide +kernel
theorem dL_isVehicle_642 : decode cL_isVehicle 642 = .ok (.isub, 1) := by decide +kernel
theorem dL_isVehicle_643 : decode cL_isVehicle 643 = .ok (.iadd, 1) := by decide +kernel
theorem dL_isVehicle_644 : decode cL_isVehicle 644 = .ok (.iastore, 1) := by decide +kernel
theorem dL_isVehicle_645 : decode cL_isVehicle 645 = .ok (.aload_n 0, 1) := by decide +kernel
theorem dL_isVehicle_646 : decode cL_isVehicle 646 = .ok (.bipush 11, 2) := by decide +kernel
theorem dL_isVehicle_648 : decode cL_isVehicle 648 = .ok (.iload 8, 2) := by decide +kernel
theorem dL_isVehicle_650 : decode cL_isVehicle 650 = .ok (.iconst 0, 1) := by decide +kernel
theorem dL_isVehicle_651 : decode cL_isVehicle 651 = .ok (.iconst 0, 1) := by decide +kernel
theorem dL_isVehicle_652 : decode cL_isVehicle 652 = .ok (.invokestatic 151, 3) := by decide +kernel
theorem dL_isVehicle_655 : decode cL_isVehicle 655 = .ok (.iload 9, 2) := by decide +kernel
theorem dL_isVehicle_657 : decode cL_isVehicle 657 = .ok (.ifCond .ne 8, 3) := by decide +kernel
theorem dL_isVehicle_660 : decode cL_isVehicle 660 = .ok (.ldc 76, 2) := by decide +kernel
theorem dL_isVehicle_662 : decode cL_isVehicle 662 = .ok (.goto 23, 3) := by decide +kernel
theorem dL_isVehicle_665 : decode cL_isVehicle 665 = .ok (.iload 12, 2) := by decide +kernel
theorem dL_isVehicle_667 : decode cL_isVehicle 667 = .ok (.ifCond .eq 16, 3) := by decide +kernel
theorem dL_isVehicle_670 : decode cL_isVehicle 670 = .ok (.iload 10, 2) := by decide +kernel
theorem dL_isVehicle_672 : decode cL_isVehicle 672 = .ok (.ifCond .ne 7, 3) := by decide +kernel
theorem dL_isVehicle_675 : decode cL_isVehicle 675 = .ok (.iconst 1, 1) := by decide +kernel
theorem dL_isVehicle_676 : decode cL_isVehicle 676 = .ok (.goto 9, 3) := by decide +kernel
theorem dL_isVehicle_679 : decode cL_isVehicle 679 = .ok (.iconst 0, 1) := by decide +kernel
theorem dL_isVehicle_680 : decode cL_isVehicle 680 = .ok (.goto 5, 3) := by decide +kernel
theorem dL_isVehicle_683 : decode cL_isVehicle 683 = .ok (.ldc 82, 2) := by decide +kernel
theorem dL_isVehicle_685 : decode cL_isVehicle 685 = .ok (.if_icmp .ne 7, 3) := by decide +kernel
theorem dL_isVehicle_688 : decode cL_isVehicle 688 = .ok (.iconst 1, 1) := by decide +kernel
theorem dL_isVehicle_689 : decode cL_isVehicle 689 = .ok (.goto 4, 3) := by decide +kernel
theorem dL_isVehicle_692 : decode cL_isVehicle 692 = .ok (.iconst 0, 1) := by decide +kernel
theorem dL_isVehicle_693 : decode cL_isVehicle 693 = .ok (.ireturn, 1) := by decide +kernel
theorem dL_isVehicle_694 : decode cL_isVehicle 694 = .ok (.iload 10, 2) := by decide +kernel
theorem dL_isVehicle_696 : decode cL_isVehicle 696 = .ok (.iconst 2, 1) := by decide +kernel
theorem dL_isVehicle_697 : decode cL_isVehicle 697 = .ok (.if_icmp .ne 7, 3) := by decide +kernel
theorem dL_isVehicle_700 : decode cL_isVehicle 700 = .ok (.iconst 1, 1) := by decide +kernel
theorem dL_isVehicle_701 : decode cL_isVehicle 701 = .ok (.goto 4, 3) := by decide +kernel
theorem dL_isVehicle_704 : decode cL_isVehicle 704 = .ok (.iconst 0, 1) := by decide +kernel
theorem dL_isVehicle_705 : decode cL_isVehicle 705 = .ok (.istore 12, 2) := by decide +kernel
theorem dL_isVehicle_707 : decode cL_isVehicle 707 = .ok (.iload 12, 2) := by decide +kernel
theorem dL_isVehicle_709 : decode cL_isVehicle 709 = .ok (.ifCond .eq 98, 3) := by decide +kernel
theorem dL_isVehicle_712 : decode cL_isVehicle 712 = .ok (.aload_n 1, 1) := by decide +kernel
theorem dL_isVehicle_713 : decode cL_isVehicle 713 = .ok (.iload 8, 2) := by decide +kernel
theorem dL_isVehicle_715 : decode cL_isVehicle 715 = .ok (.dup2, 1) := by decide +kernel
theorem dL_isVehicle_716 : decode cL_isVehicle 716 = .ok (.iaload, 1) := by decide +kernel
theorem dL_isVehicle_717 : decode cL_isVehicle 717 = .ok (.iload 11, 2) := by decide +kernel
theorem dL_isVehicle_719 : decode cL_isVehicle 719 = .ok (.iconst 1, 1) := by decide +kernel
theorem dL_isVehicle_720 : decode cL_isVehicle 720 = .ok (.if_icmp .ne 8, 3) := by decide +kernel
theorem dL_isVehicle_723 : decode cL_isVehicle 723 = .ok (.bipush (-128), 2) := by decide +kernel
theorem dL_isVehicle_725 : decode cL_isVehicle 725 = .ok (.goto 6, 3) := by decide +kernel
theorem dL_isVehicle_728 : decode cL_isVehicle 728 = .ok (.sipush 128, 3) := by decide +kernel
theorem dL_isVehicle_731 : decode cL_isVehicle 731 = .ok (.iadd, 1) := by decide +kernel
theorem dL_isVehicle_732 : decode cL_isVehicle 732 = .ok (.iastore, 1) := by decide +kernel
theorem dL_isVehicle_733 : decode cL_isVehicle 733 = .ok (.aload_n 1, 1) := by decide +kernel
theorem dL_isVehicle_734 : decode cL_isVehicle 734 = .ok (.iload 8, 2) := by decide +kernel
theorem dL_isVehicle_736 : decode cL_isVehicle 736 = .ok (.iaload, 1) := by decide +kernel
theorem dL_isVehicle_737 : decode cL_isVehicle 737 = .ok (.bipush 8, 2) := by decide +kernel
theorem dL_isVehicle_739 : decode cL_isVehicle 739 = .ok (.idiv, 1) := by decide +kernel
theorem dL_isVehicle_740 : decode cL_isVehicle 740 = .ok (.bipush 16, 2) := by decide +kernel
theorem dL_isVehicle_742 : decode cL_isVehicle 742 = .ok (.irem, 1) := by decide +kernel
theorem dL_isVehicle_743 : decode cL_isVehicle 743 = .ok (.istore 13, 2) := by decide +kernel
theorem dL_isVehicle_745 : decode cL_isVehicle 745 = .ok (.iload 11, 2) := by decide +kernel
theorem dL_isVehicle_747 : decode cL_isVehicle 747 = .ok (.iconst 1, 1) := by decide +kernel
theorem dL_isVehicle_748 : decode cL_isVehicle 748 = .ok (.if_icmp .ne 8, 3) := by decide +kernel
theorem dL_isVehicle_751 : decode cL_isVehicle 751 = .ok (.iload 13, 2) := by decide +kernel
theorem dL_isVehicle_753 : decode cL_isVehicle 753 = .ok (.ifCond .eq 17, 3) := by decide +kernel
theorem dL_isVehicle_756 : decode cL_isVehicle 756 = .ok (.iload 11, 2) := by decide +kernel
theorem dL_isVehicle_758 : decode cL_isVehicle 758 = .ok (.ifCond .ne 49, 3) := by decide +kernel
theorem dL_isVehicle_761 : decode cL_isVehicle 761 = .ok (.iload 13, 2) := by decide +kernel
theorem dL_isVehicle_763 : decode cL_isVehicle 763 = .ok (.aload 4, 2) := by decide +kernel
theorem dL_isVehicle_765 : decode cL_isVehicle 765 = .ok (.iconst 3, 1) := by decide +kernel
theorem dL_isVehicle_766 : decode cL_isVehicle 766 = .ok (.iaload, 1) := by decide +kernel
theorem dL_isVehicle_767 : decode cL_isVehicle 767 = .ok (.if_icmp .ne 40, 3) := by decide +kernel
theorem dL_isVehicle_770 : decode cL_isVehicle 770 = .ok (.aload_n 1, 1) := by decide +kernel
theorem dL_isVehicle_771 : decode cL_isVehicle 771 = .ok (.iload 8, 2) := by decide +kernel
theorem dL_isVehicle_773 : decode cL_isVehicle 773 = .ok (.dup2, 1) := by decide +kernel
theorem dL_isVehicle_774 : decode cL_isVehicle 774 = .ok (.iaload, 1) := by decide +kernel
theorem dL_isVehicle_775 : decode cL_isVehicle 775 = .ok (.iload 11, 2) := by decide +kernel
theorem dL_isVehicle_777 : decode cL_isVehicle 777 = .ok (.iconst 1, 1) := by decide +kernel
theorem dL_isVehicle_778 : decode cL_isVehicle 778 = .ok (.if_icmp .ne 8, 3) := by decide +kernel
theorem dL_isVehicle_781 : decode cL_isVehicle 781 = .ok (.bipush (-2), 2) := by decide +kernel
theorem dL_isVehicle_783 : decode cL_isVehicle 783 = .ok (.goto 4, 3) := by decide +kernel
theorem dL_isVehicle_786 : decode cL_isVehicle 786 = .ok (.iconst 1, 1) := by decide +kernel
theorem dL_isVehicle_787 : decode cL_isVehicle 787 = .ok (.iadd, 1) := by decide +kernel
theorem dL_isVehicle_788 : decode cL_isVehicle 788 = .ok (.iastore, 1) := by decide +kernel
theorem dL_isVehicle_789 : decode cL_isVehicle 789 = .ok (.aload_n 1, 1) := by decide +kernel
theorem dL_isVehicle_790 : decode cL_isVehicle 790 = .ok (.aload_n 2, 1) := by decide +kernel
theorem dL_isVehicle_791 : decode cL_isVehicle 791 = .ok (.aload_n 3, 1) := by decide +kernel
theorem dL_isVehicle_792 : decode cL_isVehicle 792 = .ok (.iload 8, 2) := by decide +kernel
theorem dL_isVehicle_794 : decode cL_isVehicle 794 = .ok (.iload 11, 2) := by decide +kernel
theorem dL_isVehicle_796 : decode cL_isVehicle 796 = .ok (.ifCond .ne 7, 3) := by decide +kernel
theorem dL_isVehicle_799 : decode cL_isVehicle 799 = .ok (.iconst 1, 1) := by decide +kernel
theorem dL_isVehicle_800 : decode cL_isVehicle 800 = .ok (.goto 4, 3) := by decide +kernel
theorem dL_isVehicle_803 : decode cL_isVehicle 803 = .ok (.iconst 0, 1) := by decide +kernel
theorem dL_isVehicle_804 : decode cL_isVehicle 804 = .ok (.invokestatic 112, 3) := by decide +kernel
theorem dL_isVehicle_807 : decode cL_isVehicle 807 = .ok (.aload_n 0, 1) := by decide +kernel
theorem dL_isVehicle_808 : decode cL_isVehicle 808 = .ok (.bipush 12, 2) := by decide +kernel
theorem dL_isVehicle_810 : decode cL_isVehicle 810 = .ok (.iload 8, 2) := by decide +kernel
theorem dL_isVehicle_812 : decode cL_isVehicle 812 = .ok (.iconst 0, 1) := by decide +kernel
theorem dL_isVehicle_813 : decode cL_isVehicle 813 = .ok (.iconst 0, 1) := by decide +kernel
theorem dL_isVehicle_814 : decode cL_isVehicle 814 = .ok (.invokestatic 151, 3) := by decide +kernel
theorem dL_isVehicle_817 : decode cL_isVehicle 817 = .ok (.iload 9, 2) := by decide +kernel
theorem dL_isVehicle_819 : decode cL_isVehicle 819 = .ok (.ifCond .ne 8, 3) := by decide +kernel
theorem dL_isVehicle_822 : decode cL_isVehicle 822 = .ok (.ldc 76, 2) := by decide +kernel
theorem dL_isVehicle_824 : decode cL_isVehicle 824 = .ok (.goto 17, 3) := by decide +kernel
theorem dL_isVehicle_827 : decode cL_isVehicle 827 = .ok (.iload 12, 2) := by decide +kernel
theorem dL_isVehicle_829 : decode cL_isVehicle 829 = .ok (.ifCond .eq 10, 3) := by decide +kernel
theorem dL_isVehicle_832 : decode cL_isVehicle 832 = .ok (.iconst 1, 1) := by decide +kernel
theorem dL_isVehicle_833 : decode cL_isVehicle 833 = .ok (.iload 11, 2) := by decide +kernel
theorem dL_isVehicle_835 : decode cL_isVehicle 835 = .ok (.isub, 1) := by decide +kernel
theorem dL_isVehicle_836 : decode cL_isVehicle 836 = .ok (.goto 5, 3) := by decide +kernel
theorem dL_isVehicle_839 : decode cL_isVehicle 839 = .ok (.ldc 82, 2) := by decide +kernel
theorem dL_isVehicle_841 : decode cL_isVehicle 841 = .ok (.if_icmp .ne 7, 3) := by decide +kernel
theorem dL_isVehicle_844 : decode cL_isVehicle 844 = .ok (.iconst 1, 1) := by decide +kernel
theorem dL_isVehicle_845 : decode cL_isVehicle 845 = .ok (.goto 4, 3) := by decide +kernel
theorem dL_isVehicle_848 : decode cL_isVehicle 848 = .ok (.iconst 0, 1) := by decide +kernel
theorem dL_isVehicle_849 : decode cL_isVehicle 849 = .ok (.ireturn, 1) := by decide +kernel
theorem dL_isTold_0 : decode cL_isTold 0 = .ok (.iload 8, 2) := by decide +kernel
theorem dL_isTold_2 : decode cL_isTold 2 = .ok (.ifCond .ne 127, 3) := by decide +kernel
theorem dL_isTold_5 : decode cL_isTold 5 = .ok (.iload 9, 2) := by decide +kernel
theorem dL_isTold_7 : decode cL_isTold 7 = .ok (.bipush 9, 2) := by decide +kernel
theorem dL_isTold_9 : decode cL_isTold 9 = .ok (.irem, 1) := by decide +kernel
theorem dL_isTold_10 : decode cL_isTold 10 = .ok (.ifCond .ne 17, 3) := by decide +kernel
theorem dL_isTold_13 : decode cL_isTold 13 = .ok (.iload 9, 2) := by decide +kernel
theorem dL_isTold_15 : decode cL_isTold 15 = .ok (.bipush 9, 2) := by decide +kernel
theorem dL_isTold_17 : decode cL_isTold 17 = .ok (.idiv, 1) := by decide +kernel
theorem dL_isTold_18 : decode cL_isTold 18 = .ok (.bipush 83, 2) := by decide +kernel
theorem dL_isTold_20 : decode cL_isTold 20 = .ok (.irem, 1) := by decide +kernel
theorem dL_isTold_21 : decode cL_isTold 21 = .ok (.bipush 21, 2) := by decide +kernel
theorem dL_isTold_23 : decode cL_isTold 23 = .ok (.isub, 1) := by decide +kernel
theorem dL_isTold_24 : decode cL_isTold 24 = .ok (.goto 30, 3) := by decide +kernel
theorem dL_isTold_27 : decode cL_isTold 27 = .ok (.iload 9, 2) := by decide +kernel
theorem dL_isTold_29 : decode cL_isTold 29 = .ok (.iconst 3, 1) := by decide +kernel
theorem dL_isTold_30 : decode cL_isTold 30 = .ok (.irem, 1) := by decide +kernel
theorem dL_isTold_31 : decode cL_isTold 31 = .ok (.ifCond .ne 15, 3) := by decide +kernel
theorem dL_isTold_34 : decode cL_isTold 34 = .ok (.iload 9, 2) := by decide +kernel
theorem dL_isTold_36 : decode cL_isTold 36 = .ok (.bipush 9, 2) := by decide +kernel
theorem dL_isTold_38 : decode cL_isTold 38 = .ok (.idiv, 1) := by decide +kernel
theorem dL_isTold_39 : decode cL_isTold 39 = .ok (.bipush 15, 2) := by decide +kernel
theorem dL_isTold_41 : decode cL_isTold 41 = .ok (.irem, 1) := by decide +kernel
theorem dL_isTold_42 : decode cL_isTold 42 = .ok (.ineg, 1) := by decide +kernel
theorem dL_isTold_43 : decode cL_isTold 43 = .ok (.goto 11, 3) := by decide +kernel
theorem dL_isTold_46 : decode cL_isTold 46 = .ok (.iload 9, 2) := by decide +kernel
theorem dL_isTold_48 : decode cL_isTold 48 = .ok (.bipush 9, 2) := by decide +kernel
theorem dL_isTold_50 : decode cL_isTold 50 = .ok (.idiv, 1) := by decide +kernel
theorem dL_isTold_51 : decode cL_isTold 51 = .ok (.bipush 60, 2) := by decide +kernel
theorem dL_isTold_53 : decode cL_isTold 53 = .ok (.irem, 1) := by decide +kernel
theorem dL_isTold_54 : decode cL_isTold 54 = .ok (.istore 11, 2) := by decide +kernel
theorem dL_isTold_56 : decode cL_isTold 56 = .ok (.iload 11, 2) := by decide +kernel
theorem dL_isTold_58 : decode cL_isTold 58 = .ok (.bipush (-21), 2) := by decide +kernel
theorem dL_isTold_60 : decode cL_isTold 60 = .ok (.if_icmp .le 14, 3) := by decide +kernel
theorem dL_isTold_63 : decode cL_isTold 63 = .ok (.iload 11, 2) := by decide +kernel
theorem dL_isTold_65 : decode cL_isTold 65 = .ok (.bipush 61, 2) := by decide +kernel
theorem dL_isTold_67 : decode cL_isTold 67 = .ok (.if_icmp .ge 7, 3) := by decide +kernel
theorem dL_isTold_70 : decode cL_isTold 70 = .ok (.iconst 1, 1) := by decide +kernel
theorem dL_isTold_71 : decode cL_isTold 71 = .ok (.goto 4, 3) := by decide +kernel
theorem dL_isTold_74 : decode cL_isTold 74 = .ok (.iconst 0, 1) := by decide +kernel
theorem dL_isTold_75 : decode cL_isTold 75 = .ok (.istore 12, 2) := by decide +kernel
theorem dL_isTold_77 : decode cL_isTold 77 = .ok (.aload 7, 2) := by decide +kernel
theorem dL_isTold_79 : decode cL_isTold 79 = .ok (.iconst 1, 1) := by decide +kernel
theorem dL_isTold_80 : decode cL_isTold 80 = .ok (.iaload, 1) := by decide +kernel
theorem dL_isTold_81 : decode cL_isTold 81 = .ok (.istore 13, 2) := by decide +kernel
theorem dL_isTold_83 : decode cL_isTold 83 = .ok (.aload 7, 2) := by decide +kernel
theorem dL_isTold_85 : decode cL_isTold 85 = .ok (.iconst 1, 1) := by decide +kernel
theorem dL_isTold_86 : decode cL_isTold 86 = .ok (.iload 12, 2) := by decide +kernel
theorem dL_isTold_88 : decode cL_isTold 88 = .ok (.ifCond .eq 8, 3) := by decide +kernel
theorem dL_isTold_91 : decode cL_isTold 91 = .ok (.iload 11, 2) := by decide +kernel
theorem dL_isTold_93 : decode cL_isTold 93 = .ok (.goto 5, 3) := by decide +kernel
theorem dL_isTold_96 : decode cL_isTold 96 = .ok (.iload 13, 2) := by decide +kernel
theorem dL_isTold_98 : decode cL_isTold 98 = .ok (.iastore, 1) := by decide +kernel
theorem dL_isTold_99 : decode cL_isTold 99 = .ok (.aload_n 0, 1) := by decide +kernel
theorem dL_isTold_100 : decode cL_isTold 100 = .ok (.iconst 1, 1) := by decide +kernel
theorem dL_isTold_101 : decode cL_isTold 101 = .ok (.iload 11, 2) := by decide +kernel
theorem dL_isTold_103 : decode cL_isTold 103 = .ok (.iconst 0, 1) := by decide +kernel
theorem dL_isTold_104 : decode cL_isTold 104 = .ok (.iconst 0, 1) := by decide +kernel
theorem dL_isTold_105 : decode cL_isTold 105 = .ok (.invokestatic 151, 3) := by decide +kernel
theorem dL_isTold_108 : decode cL_isTold 108 = .ok (.iload 12, 2) := by decide +kernel
theorem dL_isTold_110 : decode cL_isTold 110 = .ok (.ifCond .eq 8, 3) := by decide +kernel
theorem dL_isTold_113 : decode cL_isTold 113 = .ok (.iload 13, 2) := by decide +kernel
theorem dL_isTold_115 : decode cL_isTold 115 = .ok (.goto 5, 3) := by decide +kernel
theorem dL_isTold_118 : decode cL_isTold 118 = .ok (.ldc 79, 2) := by decide +kernel
theorem dL_isTold_120 : decode cL_isTold 120 = .ok (.if_icmp .ne 7, 3) := by decide +kernel
theorem dL_isTold_123 : decode cL_isTold 123 = .ok (.iconst 1, 1) := by decide +kernel
theorem dL_isTold_124 : decode cL_isTold 124 = .ok (.goto 4, 3) := by decide +kernel
theorem dL_isTold_127 : decode cL_isTold 127 = .ok (.iconst 0, 1) := by decide +kernel
theorem dL_isTold_128 : decode cL_isTold 128 = .ok (.ireturn, 1) := by decide +kernel
theorem dL_isTold_129 : decode cL_isTold 129 = .ok (.iload 8, 2) := by decide +kernel
theorem dL_isTold_131 : decode cL_isTold 131 = .ok (.iconst 1, 1) := by decide +kernel
theorem dL_isTold_132 : decode cL_isTold 132 = .ok (.if_icmp .ne 133, 3) := by decide +kernel
theorem dL_isTold_135 : decode cL_isTold 135 = .ok (.iload 9, 2) := by decide +kernel
theorem dL_isTold_137 : decode cL_isTold 137 = .ok (.iconst 4, 1) := by decide +kernel
theorem dL_isTold_138 : decode cL_isTold 138 = .ok (.irem, 1) := by decide +kernel
theorem dL_isTold_139 : decode cL_isTold 139 = .ok (.istore 11, 2) := by decide +kernel
theorem dL_isTold_141 : decode cL_isTold 141 = .ok (.iload 10, 2) := by decide +kernel
theorem dL_isTold_143 : decode cL_isTold 143 = .ok (.bipush 9, 2) := by decide +kernel
theorem dL_isTold_145 : decode cL_isTold 145 = .ok (.irem, 1) := by decide +kernel
theorem dL_isTold_146 : decode cL_isTold 146 = .ok (.ifCond .ne 16, 3) := by decide +kernel
theorem dL_isTold_149 : decode cL_isTold 149 = .ok (.iload 10, 2) := by decide +kernel
theorem dL_isTold_151 : decode cL_isTold 151 = .ok (.bipush 9, 2) := by decide +kernel
theorem dL_isTold_153 : decode cL_isTold 153 = .ok (.idiv, 1) := by decide +kernel
theorem dL_isTold_154 : decode cL_isTold 154 = .ok (.iconst 2, 1) := by decide +kernel
theorem dL_isTold_155 : decode cL_isTold 155 = .ok (.irem, 1) := by decide +kernel
theorem dL_isTold_156 : decode cL_isTold 156 = .ok (.ldc 160, 2) := by decide +kernel
theorem dL_isTold_158 : decode cL_isTold 158 = .ok (.imul, 1) := by decide +kernel
theorem dL_isTold_159 : decode cL_isTold 159 = .ok (.goto 7, 3) := by decide +kernel
theorem dL_isTold_162 : decode cL_isTold 162 = .ok (.iconst 1, 1) := by decide +kernel
theorem dL_isTold_163 : decode cL_isTold 163 = .ok (.iload 10, 2) := by decide +kernel
theorem dL_isTold_165 : decode cL_isTold 165 = .ok (.iadd, 1) := by decide +kernel
theorem dL_isTold_166 : decode cL_isTold 166 = .ok (.istore 12, 2) := by decide +kernel
theorem dL_isTold_168 : decode cL_isTold 168 = .ok (.iload 12, 2) := by decide +kernel
theorem dL_isTold_170 : decode cL_isTold 170 = .ok (.ifCond .le 14, 3) := by decide +kernel
theorem dL_isTold_173 : decode cL_isTold 173 = .ok (.iload 12, 2) := by decide +kernel
theorem dL_isTold_175 : decode cL_isTold 175 = .ok (.ldc 160, 2) := by decide +kernel
theorem dL_isTold_177 : decode cL_isTold 177 = .ok (.if_icmp .ge 7, 3) := by decide +kernel
theorem dL_isTold_180 : decode cL_isTold 180 = .ok (.iconst 1, 1) := by decide +kernel
theorem dL_isTold_181 : decode cL_isTold 181 = .ok (.goto 4, 3) := by decide +kernel
theorem dL_isTold_184 : decode cL_isTold 184 = .ok (.iconst 0, 1) := by decide +kernel
theorem dL_isTold_185 : decode cL_isTold 185 = .ok (.istore 13, 2) := by decide +kernel
theorem dL_isTold_187 : decode cL_isTold 187 = .ok (.aload 6, 2) := by decide +kernel
theorem dL_isTold_189 : decode cL_isTold 189 = .ok (.iload 11, 2) := by decide +kernel
theorem dL_isTold_191 : decode cL_isTold 191 = .ok (.iconst 3, 1) := by decide +kernel
theorem dL_isTold_192 : decode cL_isTold 192 = .ok (.if_icmp .ge 16, 3) := by decide +kernel
theorem dL_isTold_195 : decode cL_isTold 195 = .ok (.iload 13, 2) := by decide +kernel
theorem dL_isTold_197 : decode cL_isTold 197 = .ok (.ifCond .eq 11, 3) := by decide +kernel
theorem dL_isTold_200 : decode cL_isTold 200 = .ok (.bipush 6, 2) := by decide +kernel
theorem dL_isTold_202 : decode cL_isTold 202 = .ok (.iload 11, 2) := by decide +kernel
theorem dL_isTold_204 : decode cL_isTold 204 = .ok (.iadd, 1) := by decide +kernel
theorem dL_isTold_205 : decode cL_isTold 205 = .ok (.goto 5, 3) := by decide +kernel
theorem dL_isTold_208 : decode cL_isTold 208 = .ok (.bipush 9, 2) := by decide +kernel
theorem dL_isTold_210 : decode cL_isTold 210 = .ok (.dup2, 1) := by decide +kernel
theorem dL_isTold_211 : decode cL_isTold 211 = .ok (.iaload, 1) := by decide +kernel
theorem dL_isTold_212 : decode cL_isTold 212 = .ok (.iload 12, 2) := by decide +kernel
theorem dL_isTold_214 : decode cL_isTold 214 = .ok (.iadd, 1) := by decide +kernel
theorem dL_isTold_215 : decode cL_isTold 215 = .ok (.iastore, 1) := by decide +kernel
theorem dL_isTold_216 : decode cL_isTold 216 = .ok (.aload_n 0, 1) := by decide +kernel
theorem dL_isTold_217 : decode cL_isTold 217 = .ok (.bipush 13, 2) := by decide +kernel
theorem dL_isTold_219 : decode cL_isTold 219 = .ok (.iload 11, 2) := by decide +kernel
theorem dL_isTold_221 : decode cL_isTold 221 = .ok (.iload 12, 2) := by decide +kernel
theorem dL_isTold_223 : decode cL_isTold 223 = .ok (.iconst 0, 1) := by decide +kernel
theorem dL_isTold_224 : decode cL_isTold 224 = .ok (.invokestatic 151, 3) := by decide +kernel
theorem dL_isTold_227 : decode cL_isTold 227 = .ok (.iload 11, 2) := by decide +kernel
theorem dL_isTold_229 : decode cL_isTold 229 = .ok (.iconst 3, 1) := by decide +kernel
theorem dL_isTold_230 : decode cL_isTold 230 = .ok (.if_icmp .ne 8, 3) := by decide +kernel
theorem dL_isTold_233 : decode cL_isTold 233 = .ok (.ldc 76, 2) := by decide +kernel
theorem dL_isTold_235 : decode cL_isTold 235 = .ok (.goto 21, 3) := by decide +kernel
theorem dL_isTold_238 : decode cL_isTold 238 = .ok (.iload 13, 2) := by decide +kernel
theorem dL_isTold_240 : decode cL_isTold 240 = .ok (.ifCond .eq 14, 3) := by decide +kernel
theorem dL_isTold_243 : decode cL_isTold 243 = .ok (.aload 6, 2) := by decide +kernel
theorem dL_isTold_245 : decode cL_isTold 245 = .ok (.bipush 6, 2) := by decide +kernel
theorem dL_isTold_247 : decode cL_isTold 247 = .ok (.iload 11, 2) := by decide +kernel
theorem dL_isTold_249 : decode cL_isTold 249 = .ok (.iadd, 1) := by decide +kernel
theorem dL_isTold_250 : decode cL_isTold 250 = .ok (.iaload, 1) := by decide +kernel
theorem dL_isTold_251 : decode cL_isTold 251 = .ok (.goto 5, 3) := by decide +kernel
theorem dL_isTold_254 : decode cL_isTold 254 = .ok (.ldc 79, 2) := by decide +kernel
theorem dL_isTold_256 : decode cL_isTold 256 = .ok (.if_icmp .ne 7, 3) := by decide +kernel
theorem dL_isTold_259 : decode cL_isTold 259 = .ok (.iconst 1, 1) := by decide +kernel
theorem dL_isTold_260 : decode cL_isTold 260 = .ok (.goto 4, 3) := by decide +kernel
theorem dL_isTold_263 : decode cL_isTold 263 = .ok (.iconst 0, 1) := by decide +kernel
theorem dL_isTold_264 : decode cL_isTold 264 = .ok (.ireturn, 1) := by decide +kernel
theorem dL_isTold_265 : decode cL_isTold 265 = .ok (.iload 8, 2) := by decide +kernel
theorem dL_isTold_267 : decode cL_isTold 267 = .ok (.iconst 2, 1) := by decide +kernel
theorem dL_isTold_268 : decode cL_isTold 268 = .ok (.if_icmp .ne 93, 3) := by decide +kernel
theorem dL_isTold_271 : decode cL_isTold 271 = .ok (.iload 9, 2) := by decide +kernel
theorem dL_isTold_273 : decode cL_isTold 273 = .ok (.bipush 9, 2) := by decide +kernel
theorem dL_isTold_275 : decode cL_isTold 275 = .ok (.irem, 1) := by decide +kernel
theorem dL_isTold_276 : decode cL_isTold 276 = .ok (.ifCond .ne 11, 3) := by decide +kernel
theorem dL_isTold_279 : decode cL_isTold 279 = .ok (.iload 9, 2) := by decide +kernel
theorem dL_isTold_281 : decode cL_isTold 281 = .ok (.bipush 122, 2) := by decide +kernel
theorem dL_isTold_283 : decode cL_isTold 283 = .ok (.irem, 1) := by decide +kernel
theorem dL_isTold_284 : decode cL_isTold 284 = .ok (.goto 8, 3) := by decide +kernel
theorem dL_isTold_287 : decode cL_isTold 287 = .ok (.iload 9, 2) := by decide +kernel
theorem dL_isTold_289 : decode cL_isTold 289 = .ok (.bipush 12, 2) := by decide +kernel
theorem dL_isTold_291 : decode cL_isTold 291 = .ok (.irem, 1) := by decide +kernel
theorem dL_isTold_292 : decode cL_isTold 292 = .ok (.istore 11, 2) := by decide +kernel
theorem dL_isTold_294 : decode cL_isTold 294 = .ok (.iload 11, 2) := by decide +kernel
theorem dL_isTold_296 : decode cL_isTold 296 = .ok (.bipush 121, 2) := by decide +kernel
theorem dL_isTold_298 : decode cL_isTold 298 = .ok (.if_icmp .ge 7, 3) := by decide +kernel
theorem dL_isTold_301 : decode cL_isTold 301 = .ok (.iconst 1, 1) := by decide +kernel
theorem dL_isTold_302 : decode cL_isTold 302 = .ok (.goto 4, 3) := by decide +kernel
theorem dL_isTold_305 : decode cL_isTold 305 = .ok (.iconst 0, 1) := by decide +kernel
theorem dL_isTold_306 : decode cL_isTold 306 = .ok (.istore 12, 2) := by decide +kernel
theorem dL_isTold_308 : decode cL_isTold 308 = .ok (.aload 7, 2) := by decide +kernel
theorem dL_isTold_310 : decode cL_isTold 310 = .ok (.iconst 2, 1) := by decide +kernel
theorem dL_isTold_311 : decode cL_isTold 311 = .ok (.iaload, 1) := by decide +kernel
theorem dL_isTold_312 : decode cL_isTold 312 = .ok (.istore 13, 2) := by decide +kernel
theorem dL_isTold_314 : decode cL_isTold 314 = .ok (.aload 7, 2) := by decide +kernel
theorem dL_isTold_316 : decode cL_isTold 316 = .ok (.iconst 2, 1) := by decide +kernel
theorem dL_isTold_317 : decode cL_isTold 317 = .ok (.iload 12, 2) := by decide +kernel
theorem dL_isTold_319 : decode cL_isTold 319 = .ok (.ifCond .eq 8, 3) := by decide +kernel
theorem dL_isTold_322 : decode cL_isTold 322 = .ok (.iload 11, 2) := by decide +kernel
theorem dL_isTold_324 : decode cL_isTold 324 = .ok (.goto 5, 3) := by decide +kernel
theorem dL_isTold_327 : decode cL_isTold 327 = .ok (.iload 13, 2) := by decide +kernel
theorem dL_isTold_329 : decode cL_isTold 329 = .ok (.iastore, 1) := by decide +kernel
theorem dL_isTold_330 : decode cL_isTold 330 = .ok (.aload_n 0, 1) := by decide +kernel
theorem dL_isTold_331 : decode cL_isTold 331 = .ok (.bipush 8, 2) := by decide +kernel
theorem dL_isTold_333 : decode cL_isTold 333 = .ok (.iload 11, 2) := by decide +kernel
theorem dL_isTold_335 : decode cL_isTold 335 = .ok (.iconst 0, 1) := by decide +kernel
theorem dL_isTold_336 : decode cL_isTold 336 = .ok (.iconst 0, 1) := by decide +kernel
theorem dL_isTold_337 : decode cL_isTold 337 = .ok (.invokestatic 151, 3) := by decide +kernel
theorem dL_isTold_340 : decode cL_isTold 340 = .ok (.iload 12, 2) := by decide +kernel
theorem dL_isTold_342 : decode cL_isTold 342 = .ok (.ifCond .eq 8, 3) := by decide +kernel
theorem dL_isTold_345 : decode cL_isTold 345 = .ok (.iload 13, 2) := by decide +kernel
theorem dL_isTold_347 : decode cL_isTold 347 = .ok (.goto 5, 3) := by decide +kernel
theorem dL_isTold_350 : decode cL_isTold 350 = .ok (.ldc 79, 2) := by decide +kernel
theorem dL_isTold_352 : decode cL_isTold 352 = .ok (.if_icmp .ne 7, 3) := by decide +kernel
theorem dL_isTold_355 : decode cL_isTold 355 = .ok (.iconst 1, 1) := by decide +kernel
theorem dL_isTold_356 : decode cL_isTold 356 = .ok (.goto 4, 3) := by decide +kernel
theorem dL_isTold_359 : decode cL_isTold 359 = .ok (.iconst 0, 1) := by decide +kernel
theorem dL_isTold_360 : decode cL_isTold 360 = .ok (.ireturn, 1) := by decide +kernel
theorem dL_isTold_361 : decode cL_isTold 361 = .ok (.iload 9, 2) := by decide +kernel
theorem dL_isTold_363 : decode cL_isTold 363 = .ok (.bipush 9, 2) := by decide +kernel
theorem dL_isTold_365 : decode cL_isTold 365 = .ok (.irem, 1) := by decide +kernel
theorem dL_isTold_366 : decode cL_isTold 366 = .ok (.ifCond .ne 14, 3) := by decide +kernel
theorem dL_isTold_369 : decode cL_isTold 369 = .ok (.iload 10, 2) := by decide +kernel
theorem dL_isTold_371 : decode cL_isTold 371 = .ok (.iconst 2, 1) := by decide +kernel
theorem dL_isTold_372 : decode cL_isTold 372 = .ok (.irem, 1) := by decide +kernel
theorem dL_isTold_373 : decode cL_isTold 373 = .ok (.sipush 3001, 3) := by decide +kernel
theorem dL_isTold_376 : decode cL_isTold 376 = .ok (.imul, 1) := by decide +kernel
theorem dL_isTold_377 : decode cL_isTold 377 = .ok (.goto 32, 3) := by decide +kernel
theorem dL_isTold_380 : decode cL_isTold 380 = .ok (.iload 9, 2) := by decide +kernel
theorem dL_isTold_382 : decode cL_isTold 382 = .ok (.iconst 2, 1) := by decide +kernel
theorem dL_isTold_383 : decode cL_isTold 383 = .ok (.irem, 1) := by decide +kernel
theorem dL_isTold_384 : decode cL_isTold 384 = .ok (.ifCond .ne 18, 3) := by decide +kernel
theorem dL_isTold_387 : decode cL_isTold 387 = .ok (.sipush 1440, 3) := by decide +kernel
theorem dL_isTold_390 : decode cL_isTold 390 = .ok (.aload 7, 2) := by decide +kernel
theorem dL_isTold_392 : decode cL_isTold 392 = .ok (.iconst 0, 1) := by decide +kernel
theorem dL_isTold_393 : decode cL_isTold 393 = .ok (.iaload, 1) := by decide +kernel
theorem dL_isTold_394 : decode cL_isTold 394 = .ok (.sipush 1440, 3) := by decide +kernel
theorem dL_isTold_397 : decode cL_isTold 397 = .ok (.irem, 1) := by decide +kernel
theorem dL_isTold_398 : decode cL_isTold 398 = .ok (.isub, 1) := by decide +kernel
theorem dL_isTold_399 : decode cL_isTold 399 = .ok (.goto 10, 3) := by decide +kernel
theorem dL_isTold_402 : decode cL_isTold 402 = .ok (.iconst 1, 1) := by decide +kernel
theorem dL_isTold_403 : decode cL_isTold 403 = .ok (.iload 10, 2) := by decide +kernel
theorem dL_isTold_405 : decode cL_isTold 405 = .ok (.bipush 60, 2) := by decide +kernel
theorem dL_isTold_407 : decode cL_isTold 407 = .ok (.irem, 1) := by decide +kernel
theorem dL_isTold_408 : decode cL_isTold 408 = .ok (.iadd, 1) := by decide +kernel
theorem dL_isTold_409 : decode cL_isTold 409 = .ok (.istore 11, 2) := by decide +kernel
theorem dL_isTold_411 : decode cL_isTold 411 = .ok (.iload 11, 2) := by decide +kernel
theorem dL_isTold_413 : decode cL_isTold 413 = .ok (.ifCond .le 15, 3) := by decide +kernel
theorem dL_isTold_416 : decode cL_isTold 416 = .ok (.iload 11, 2) := by decide +kernel
theorem dL_isTold_418 : decode cL_isTold 418 = .ok (.sipush 3001, 3) := by decide +kernel
theorem dL_isTold_421 : decode cL_isTold 421 = .ok (.if_icmp .ge 7, 3) := by decide +kernel
theorem dL_isTold_424 : decode cL_isTold 424 = .ok (.iconst 1, 1) := by decide +kernel
theorem dL_isTold_425 : decode cL_isTold 425 = .ok (.goto 4, 3) := by decide +kernel
theorem dL_isTold_428 : decode cL_isTold 428 = .ok (.iconst 0, 1) := by decide +kernel
theorem dL_isTold_429 : decode cL_isTold 429 = .ok (.istore 12, 2) := by decide +kernel
theorem dL_isTold_431 : decode cL_isTold 431 = .ok (.iconst 0, 1) := by decide +kernel
theorem dL_isTold_432 : decode cL_isTold 432 = .ok (.istore 13, 2) := by decide +kernel
theorem dL_isTold_434 : decode cL_isTold 434 = .ok (.iload 13, 2) := by decide +kernel
theorem dL_isTold_436 : decode cL_isTold 436 = .ok (.iload 11, 2) := by decide +kernel
theorem dL_isTold_438 : decode cL_isTold 438 = .ok (.if_icmp .ge 28, 3) := by decide +kernel
theorem dL_isTold_441 : decode cL_isTold 441 = .ok (.iload 12, 2) := by decide +kernel
theorem dL_isTold_443 : decode cL_isTold 443 = .ok (.ifCond .eq 23, 3) := by decide +kernel
theorem dL_isTold_446 : decode cL_isTold 446 = .ok (.aload_n 1, 1) := by decide +kernel
theorem dL_isTold_447 : decode cL_isTold 447 = .ok (.aload_n 2, 1) := by decide +kernel
theorem dL_isTold_448 : decode cL_isTold 448 = .ok (.aload_n 3, 1) := by decide +kernel
theorem dL_isTold_449 : decode cL_isTold 449 = .ok (.aload 4, 2) := by decide +kernel
theorem dL_isTold_451 : decode cL_isTold 451 = .ok (.aload 5, 2) := by decide +kernel
theorem dL_isTold_453 : decode cL_isTold 453 = .ok (.aload 6, 2) := by decide +kernel
theorem dL_isTold_455 : decode cL_isTold 455 = .ok (.aload 7, 2) := by decide +kernel
theorem dL_isTold_457 : decode cL_isTold 457 = .ok (.invokestatic 161, 3) := by decide +kernel
theorem dL_isTold_460 : decode cL_isTold 460 = .ok (.iinc 13 1, 3) := by decide +kernel
theorem dL_isTold_463 : decode cL_isTold 463 = .ok (.goto (-29), 3) := by decide +kernel
theorem dL_isTold_466 : decode cL_isTold 466 = .ok (.aload_n 0, 1) := by decide +kernel
theorem dL_isTold_467 : decode cL_isTold 467 = .ok (.bipush 14, 2) := by decide +kernel
theorem dL_isTold_469 : decode cL_isTold 469 = .ok (.iload 11, 2) := by decide +kernel
theorem dL_isTold_471 : decode cL_isTold 471 = .ok (.iconst 0, 1) := by decide +kernel
theorem dL_isTold_472 : decode cL_isTold 472 = .ok (.iconst 0, 1) := by decide +kernel
theorem dL_isTold_473 : decode cL_isTold 473 = .ok (.invokestatic 151, 3) := by decide +kernel
theorem dL_isTold_476 : decode cL_isTold 476 = .ok (.iload 12, 2) := by decide +kernel
theorem dL_isTold_478 : decode cL_isTold 478 = .ok (.ifCond .eq 10, 3) := by decide +kernel
theorem dL_isTold_481 : decode cL_isTold 481 = .ok (.aload 7, 2) := by decide +kernel
theorem dL_isTold_483 : decode cL_isTold 483 = .ok (.iconst 0, 1) := by decide +kernel
theorem dL_isTold_484 : decode cL_isTold 484 = .ok (.iaload, 1) := by decide +kernel
theorem dL_isTold_485 : decode cL_isTold 485 = .ok (.goto 5, 3) := by decide +kernel
theorem dL_isTold_488 : decode cL_isTold 488 = .ok (.ldc 79, 2) := by decide +kernel
theorem dL_isTold_490 : decode cL_isTold 490 = .ok (.if_icmp .ne 7, 3) := by decide +kernel
theorem dL_isTold_493 : decode cL_isTold 493 = .ok (.iconst 1, 1) := by decide +kernel
theorem dL_isTold_494 : decode cL_isTold 494 = .ok (.goto 4, 3) := by decide +kernel
theorem dL_isTold_497 : decode cL_isTold 497 = .ok (.iconst 0, 1) := by decide +kernel
theorem dL_isTold_498 : decode cL_isTold 498 = .ok (.ireturn, 1) := by decide +kernel
theorem dL_law_0 : decode cL_law 0 = .ok (.new 9, 3) := by decide +kernel
theorem dL_law_3 : decode cL_law 3 = .ok (.dup, 1) := by decide +kernel
theorem dL_law_4 : decode cL_law 4 = .ok (.invokespecial 164, 3) := by decide +kernel
theorem dL_law_7 : decode cL_law 7 = .ok (.astore_n 1, 1) := by decide +kernel
theorem dL_law_8 : decode cL_law 8 = .ok (.bipush 57, 2) := by decide +kernel
theorem dL_law_10 : decode cL_law 10 = .ok (.newarray .int, 2) := by decide +kernel
theorem dL_law_12 : decode cL_law 12 = .ok (.astore_n 2, 1) := by decide +kernel
theorem dL_law_13 : decode cL_law 13 = .ok (.bipush 9, 2) := by decide +kernel
theorem dL_law_15 : decode cL_law 15 = .ok (.newarray .int, 2) := by decide +kernel
theorem dL_law_17 : decode cL_law 17 = .ok (.astore_n 3, 1) := by decide +kernel
theorem dL_law_18 : decode cL_law 18 = .ok (.bipush 16, 2) := by decide +kernel
theorem dL_law_20 : decode cL_law 20 = .ok (.newarray .int, 2) := by decide +kernel
theorem dL_law_22 : decode cL_law 22 = .ok (.astore 4, 2) := by decide +kernel
theorem dL_law_24 : decode cL_law 24 = .ok (.bipush 8, 2) := by decide +kernel
theorem dL_law_26 : decode cL_law 26 = .ok (.newarray .int, 2) := by decide +kernel
theorem dL_law_28 : decode cL_law 28 = .ok (.astore 5, 2) := by decide +kernel
theorem dL_law_30 : decode cL_law 30 = .ok (.bipush 40, 2) := by decide +kernel
theorem dL_law_32 : decode cL_law 32 = .ok (.newarray .int, 2) := by decide +kernel
theorem dL_law_34 : decode cL_law 34 = .ok (.astore 6, 2) := by decide +kernel
theorem dL_law_36 : decode cL_law 36 = .ok (.bipush 10, 2) := by decide +kernel
theorem dL_law_38 : decode cL_law 38 = .ok (.newarray .int, 2) := by decide +kernel
theorem dL_law_40 : decode cL_law 40 = .ok (.astore 7, 2) := by decide +kernel
theorem dL_law_42 : decode cL_law 42 = .ok (.iconst 5, 1) := by decide +kernel
theorem dL_law_43 : decode cL_law 43 = .ok (.newarray .int, 2) := by decide +kernel
theorem dL_law_45 : decode cL_law 45 = .ok (.astore 8, 2) := by decide +kernel
theorem dL_law_47 : decode cL_law 47 = .ok (.aload 8, 2) := by decide +kernel
theorem dL_law_49 : decode cL_law 49 = .ok (.iconst 2, 1) := by decide +kernel
theorem dL_law_50 : decode cL_law 50 = .ok (.iconst 5, 1) := by decide +kernel
theorem dL_law_51 : decode cL_law 51 = .ok (.iastore, 1) := by decide +kernel
theorem dL_law_52 : decode cL_law 52 = .ok (.aload_n 1, 1) := by decide +kernel
theorem dL_law_53 : decode cL_law 53 = .ok (.bipush 9, 2) := by decide +kernel
theorem dL_law_55 : decode cL_law 55 = .ok (.sipush 1000, 3) := by decide +kernel
theorem dL_law_58 : decode cL_law 58 = .ok (.iconst 0, 1) := by decide +kernel
theorem dL_law_59 : decode cL_law 59 = .ok (.bipush 10, 2) := by decide +kernel
theorem dL_law_61 : decode cL_law 61 = .ok (.invokestatic 151, 3) := by decide +kernel
theorem dL_law_64 : decode cL_law 64 = .ok (.ldc 82, 2) := by decide +kernel
theorem dL_law_66 : decode cL_law 66 = .ok (.if_icmp .ne 71, 3) := by decide +kernel
theorem dL_law_69 : decode cL_law 69 = .ok (.aload_n 1, 1) := by decide +kernel
theorem dL_law_70 : decode cL_law 70 = .ok (.iconst 0, 1) := by decide +kernel
theorem dL_law_71 : decode cL_law 71 = .ok (.iconst 3, 1) := by decide +kernel
theorem dL_law_72 : decode cL_law 72 = .ok (.iconst 1, 1) := by decide +kernel
theorem dL_law_73 : decode cL_law 73 = .ok (.iconst 1, 1) := by decide +kernel
theorem dL_law_74 : decode cL_law 74 = .ok (.invokestatic 151, 3) := by decide +kernel
theorem dL_law_77 : decode cL_law 77 = .ok (.ldc 79, 2) := by decide +kernel
theorem dL_law_79 : decode cL_law 79 = .ok (.if_icmp .ne 58, 3) := by decide +kernel
theorem dL_law_82 : decode cL_law 82 = .ok (.aload_n 1, 1) := by decide +kernel
theorem dL_law_83 : decode cL_law 83 = .ok (.bipush 14, 2) := by decide +kernel
theorem dL_law_85 : decode cL_law 85 = .ok (.iconst 0, 1) := by decide +kernel
theorem dL_law_86 : decode cL_law 86 = .ok (.iconst 0, 1) := by decide +kernel
theorem dL_law_87 : decode cL_law 87 = .ok (.iconst 0, 1) := by decide +kernel
theorem dL_law_88 : decode cL_law 88 = .ok (.invokestatic 151, 3) := by decide +kernel
theorem dL_law_91 : decode cL_law 91 = .ok (.ldc 79, 2) := by decide +kernel
theorem dL_law_93 : decode cL_law 93 = .ok (.if_icmp .ne 44, 3) := by decide +kernel
theorem dL_law_96 : decode cL_law 96 = .ok (.aload_n 1, 1) := by decide +kernel
theorem dL_law_97 : decode cL_law 97 = .ok (.bipush 17, 2) := by decide +kernel
theorem dL_law_99 : decode cL_law 99 = .ok (.iconst 0, 1) := by decide +kernel
theorem dL_law_100 : decode cL_law 100 = .ok (.iconst 0, 1) := by decide +kernel
theorem dL_law_101 : decode cL_law 101 = .ok (.iconst 0, 1) := by decide +kernel
theorem dL_law_102 : decode cL_law 102 = .ok (.invokestatic 151, 3) := by decide +kernel
theorem dL_law_105 : decode cL_law 105 = .ok (.ldc 76, 2) := by decide +kernel
theorem dL_law_107 : decode cL_law 107 = .ok (.if_icmp .ne 30, 3) := by decide +kernel
theorem dL_law_110 : decode cL_law 110 = .ok (.aload_n 1, 1) := by decide +kernel
theorem dL_law_111 : decode cL_law 111 = .ok (.bipush 13, 2) := by decide +kernel
theorem dL_law_113 : decode cL_law 113 = .ok (.iconst 3, 1) := by decide +kernel
theorem dL_law_114 : decode cL_law 114 = .ok (.iconst 1, 1) := by decide +kernel
theorem dL_law_115 : decode cL_law 115 = .ok (.iconst 0, 1) := by decide +kernel
theorem dL_law_116 : decode cL_law 116 = .ok (.invokestatic 151, 3) := by decide +kernel
theorem dL_law_119 : decode cL_law 119 = .ok (.ldc 76, 2) := by decide +kernel
theorem dL_law_121 : decode cL_law 121 = .ok (.if_icmp .ne 16, 3) := by decide +kernel
theorem dL_law_124 : decode cL_law 124 = .ok (.aload_n 1, 1) := by decide +kernel
theorem dL_law_125 : decode cL_law 125 = .ok (.invokevirtual 147, 3) := by decide +kernel
theorem dL_law_128 : decode cL_law 128 = .ok (.lconst 0, 1) := by decide +kernel
theorem dL_law_129 : decode cL_law 129 = .ok (.lcmp, 1) := by decide +kernel
theorem dL_law_130 : decode cL_law 130 = .ok (.ifCond .ne 7, 3) := by decide +kernel
theorem dL_law_133 : decode cL_law 133 = .ok (.iconst 1, 1) := by decide +kernel
theorem dL_law_134 : decode cL_law 134 = .ok (.goto 4, 3) := by decide +kernel
theorem dL_law_137 : decode cL_law 137 = .ok (.iconst 0, 1) := by decide +kernel
theorem dL_law_138 : decode cL_law 138 = .ok (.istore 9, 2) := by decide +kernel
theorem dL_law_140 : decode cL_law 140 = .ok (.iconst 0, 1) := by decide +kernel
theorem dL_law_141 : decode cL_law 141 = .ok (.istore 10, 2) := by decide +kernel
theorem dL_law_143 : decode cL_law 143 = .ok (.iload 10, 2) := by decide +kernel
theorem dL_law_145 : decode cL_law 145 = .ok (.bipush 64, 2) := by decide +kernel
theorem dL_law_147 : decode cL_law 147 = .ok (.if_icmp .ge 345, 3) := by decide +kernel
theorem dL_law_150 : decode cL_law 150 = .ok (.iload 9, 2) := by decide +kernel
theorem dL_law_152 : decode cL_law 152 = .ok (.ifCond .eq 340, 3) := by decide +kernel
theorem dL_law_155 : decode cL_law 155 = .ok (.iload 10, 2) := by decide +kernel
theorem dL_law_157 : decode cL_law 157 = .ok (.iconst 3, 1) := by decide +kernel
theorem dL_law_158 : decode cL_law 158 = .ok (.if_icmp .ge 7, 3) := by decide +kernel
theorem dL_law_161 : decode cL_law 161 = .ok (.iconst 0, 1) := by decide +kernel
theorem dL_law_162 : decode cL_law 162 = .ok (.goto 48, 3) := by decide +kernel
theorem dL_law_165 : decode cL_law 165 = .ok (.iload 10, 2) := by decide +kernel
theorem dL_law_167 : decode cL_law 167 = .ok (.iconst 5, 1) := by decide +kernel
theorem dL_law_168 : decode cL_law 168 = .ok (.if_icmp .ge 8, 3) := by decide +kernel
theorem dL_law_171 : decode cL_law 171 = .ok (.bipush 12, 2) := by decide +kernel
theorem dL_law_173 : decode cL_law 173 = .ok (.goto 37, 3) := by decide +kernel
theorem dL_law_176 : decode cL_law 176 = .ok (.iload 10, 2) := by decide +kernel
theorem dL_law_178 : decode cL_law 178 = .ok (.bipush 8, 2) := by decide +kernel
theorem dL_law_180 : decode cL_law 180 = .ok (.if_icmp .ge 8, 3) := by decide +kernel
theorem dL_law_183 : decode cL_law 183 = .ok (.bipush 30, 2) := by decide +kernel
theorem dL_law_185 : decode cL_law 185 = .ok (.goto 25, 3) := by decide +kernel
theorem dL_law_188 : decode cL_law 188 = .ok (.iload 10, 2) := by decide +kernel
theorem dL_law_190 : decode cL_law 190 = .ok (.bipush 12, 2) := by decide +kernel
theorem dL_law_192 : decode cL_law 192 = .ok (.if_icmp .ge 8, 3) := by decide +kernel
theorem dL_law_195 : decode cL_law 195 = .ok (.bipush 14, 2) := by decide +kernel
theorem dL_law_197 : decode cL_law 197 = .ok (.goto 13, 3) := by decide +kernel
theorem dL_law_200 : decode cL_law 200 = .ok (.aload_n 0, 1) := by decide +kernel
theorem dL_law_201 : decode cL_law 201 = .ok (.iconst 3, 1) := by decide +kernel
theorem dL_law_202 : decode cL_law 202 = .ok (.iload 10, 2) := by decide +kernel
theorem dL_law_204 : decode cL_law 204 = .ok (.imul, 1) := by decide +kernel
theorem dL_law_205 : decode cL_law 205 = .ok (.bipush 36, 2) := by decide +kernel
theorem dL_law_207 : decode cL_law 207 = .ok (.invokestatic 165, 3) := by decide +kernel
theorem dL_law_210 : decode cL_law 210 = .ok (.istore 11, 2) := by decide +kernel
theorem dL_law_212 : decode cL_law 212 = .ok (.aload_n 0, 1) := by decide +kernel
theorem dL_law_213 : decode cL_law 213 = .ok (.iconst 3, 1) := by decide +kernel
theorem dL_law_214 : decode cL_law 214 = .ok (.iload 10, 2) := by decide +kernel
theorem dL_law_216 : decode cL_law 216 = .ok (.imul, 1) := by decide +kernel
theorem dL_law_217 : decode cL_law 217 = .ok (.iconst 1, 1) := by decide +kernel
theorem dL_law_218 : decode cL_law 218 = .ok (.iadd, 1) := by decide +kernel
theorem dL_law_219 : decode cL_law 219 = .ok (.ldc 83, 2) := by decide +kernel
theorem dL_law_221 : decode cL_law 221 = .ok (.invokestatic 165, 3) := by decide +kernel
theorem dL_law_224 : decode cL_law 224 = .ok (.istore 12, 2) := by decide +kernel
theorem dL_law_226 : decode cL_law 226 = .ok (.aload_n 0, 1) := by decide +kernel
theorem dL_law_227 : decode cL_law 227 = .ok (.iconst 3, 1) := by decide +kernel
theorem dL_law_228 : decode cL_law 228 = .ok (.iload 10, 2) := by decide +kernel
theorem dL_law_230 : decode cL_law 230 = .ok (.imul, 1) := by decide +kernel
theorem dL_law_231 : decode cL_law 231 = .ok (.iconst 2, 1) := by decide +kernel
theorem dL_law_232 : decode cL_law 232 = .ok (.iadd, 1) := by decide +kernel
theorem dL_law_233 : decode cL_law 233 = .ok (.ldc 83, 2) := by decide +kernel
theorem dL_law_235 : decode cL_law 235 = .ok (.invokestatic 165, 3) := by decide +kernel
theorem dL_law_238 : decode cL_law 238 = .ok (.istore 13, 2) := by decide +kernel
theorem dL_law_240 : decode cL_law 240 = .ok (.iload 11, 2) := by decide +kernel
theorem dL_law_242 : decode cL_law 242 = .ok (.iconst 2, 1) := by decide +kernel
theorem dL_law_243 : decode cL_law 243 = .ok (.if_icmp .ge 24, 3) := by decide +kernel
theorem dL_law_246 : decode cL_law 246 = .ok (.aload_n 1, 1) := by decide +kernel
theorem dL_law_247 : decode cL_law 247 = .ok (.aload_n 2, 1) := by decide +kernel
theorem dL_law_248 : decode cL_law 248 = .ok (.aload_n 3, 1) := by decide +kernel
theorem dL_law_249 : decode cL_law 249 = .ok (.aload 4, 2) := by decide +kernel
theorem dL_law_251 : decode cL_law 251 = .ok (.aload 8, 2) := by decide +kernel
theorem dL_law_253 : decode cL_law 253 = .ok (.iload 11, 2) := by decide +kernel
theorem dL_law_255 : decode cL_law 255 = .ok (.iload 12, 2) := by decide +kernel
theorem dL_law_257 : decode cL_law 257 = .ok (.iload 13, 2) := by decide +kernel
theorem dL_law_259 : decode cL_law 259 = .ok (.invokestatic 169, 3) := by decide +kernel
theorem dL_law_262 : decode cL_law 262 = .ok (.istore 9, 2) := by decide +kernel
theorem dL_law_264 : decode cL_law 264 = .ok (.goto 191, 3) := by decide +kernel
theorem dL_law_267 : decode cL_law 267 = .ok (.iload 11, 2) := by decide +kernel
theorem dL_law_269 : decode cL_law 269 = .ok (.bipush 12, 2) := by decide +kernel
theorem dL_law_271 : decode cL_law 271 = .ok (.if_icmp .ge 66, 3) := by decide +kernel
theorem dL_law_274 : decode cL_law 274 = .ok (.aload_n 1, 1) := by decide +kernel
theorem dL_law_275 : decode cL_law 275 = .ok (.aload_n 2, 1) := by decide +kernel
theorem dL_law_276 : decode cL_law 276 = .ok (.aload_n 3, 1) := by decide +kernel
theorem dL_law_277 : decode cL_law 277 = .ok (.aload 4, 2) := by decide +kernel
theorem dL_law_279 : decode cL_law 279 = .ok (.aload 8, 2) := by decide +kernel
theorem dL_law_281 : decode cL_law 281 = .ok (.iload 11, 2) := by decide +kernel
theorem dL_law_283 : decode cL_law 283 = .ok (.iconst 3, 1) := by decide +kernel
theorem dL_law_284 : decode cL_law 284 = .ok (.if_icmp .ge 7, 3) := by decide +kernel
theorem dL_law_287 : decode cL_law 287 = .ok (.iconst 2, 1) := by decide +kernel
theorem dL_law_288 : decode cL_law 288 = .ok (.goto 37, 3) := by decide +kernel
theorem dL_law_291 : decode cL_law 291 = .ok (.iload 11, 2) := by decide +kernel
theorem dL_law_293 : decode cL_law 293 = .ok (.iconst 5, 1) := by decide +kernel
theorem dL_law_294 : decode cL_law 294 = .ok (.if_icmp .ge 7, 3) := by decide +kernel
theorem dL_law_297 : decode cL_law 297 = .ok (.iconst 3, 1) := by decide +kernel
theorem dL_law_298 : decode cL_law 298 = .ok (.goto 27, 3) := by decide +kernel
theorem dL_law_301 : decode cL_law 301 = .ok (.iload 11, 2) := by decide +kernel
theorem dL_law_303 : decode cL_law 303 = .ok (.bipush 8, 2) := by decide +kernel
theorem dL_law_305 : decode cL_law 305 = .ok (.if_icmp .ge 7, 3) := by decide +kernel
theorem dL_law_308 : decode cL_law 308 = .ok (.iconst 4, 1) := by decide +kernel
theorem dL_law_309 : decode cL_law 309 = .ok (.goto 16, 3) := by decide +kernel
theorem dL_law_312 : decode cL_law 312 = .ok (.iload 11, 2) := by decide +kernel
theorem dL_law_314 : decode cL_law 314 = .ok (.bipush 11, 2) := by decide +kernel
theorem dL_law_316 : decode cL_law 316 = .ok (.if_icmp .ge 7, 3) := by decide +kernel
theorem dL_law_319 : decode cL_law 319 = .ok (.iconst 5, 1) := by decide +kernel
theorem dL_law_320 : decode cL_law 320 = .ok (.goto 5, 3) := by decide +kernel
theorem dL_law_323 : decode cL_law 323 = .ok (.bipush 6, 2) := by decide +kernel
theorem dL_law_325 : decode cL_law 325 = .ok (.iload 12, 2) := by decide +kernel
theorem dL_law_327 : decode cL_law 327 = .ok (.iload 13, 2) := by decide +kernel
theorem dL_law_329 : decode cL_law 329 = .ok (.invokestatic 169, 3) := by decide +kernel
theorem dL_law_332 : decode cL_law 332 = .ok (.istore 9, 2) := by decide +kernel
theorem dL_law_334 : decode cL_law 334 = .ok (.goto 121, 3) := by decide +kernel
theorem dL_law_337 : decode cL_law 337 = .ok (.iload 11, 2) := by decide +kernel
theorem dL_law_339 : decode cL_law 339 = .ok (.bipush 24, 2) := by decide +kernel
theorem dL_law_341 : decode cL_law 341 = .ok (.if_icmp .ge 58, 3) := by decide +kernel
theorem dL_law_344 : decode cL_law 344 = .ok (.aload_n 1, 1) := by decide +kernel
theorem dL_law_345 : decode cL_law 345 = .ok (.aload 5, 2) := by decide +kernel
theorem dL_law_347 : decode cL_law 347 = .ok (.aload 6, 2) := by decide +kernel
theorem dL_law_349 : decode cL_law 349 = .ok (.aload 7, 2) := by decide +kernel
theorem dL_law_351 : decode cL_law 351 = .ok (.aload 8, 2) := by decide +kernel
theorem dL_law_353 : decode cL_law 353 = .ok (.iload 11, 2) := by decide +kernel
theorem dL_law_355 : decode cL_law 355 = .ok (.bipush 12, 2) := by decide +kernel
theorem dL_law_357 : decode cL_law 357 = .ok (.if_icmp .ne 7, 3) := by decide +kernel
theorem dL_law_360 : decode cL_law 360 = .ok (.iconst 0, 1) := by decide +kernel
theorem dL_law_361 : decode cL_law 361 = .ok (.goto 26, 3) := by decide +kernel
theorem dL_law_364 : decode cL_law 364 = .ok (.iload 11, 2) := by decide +kernel
theorem dL_law_366 : decode cL_law 366 = .ok (.bipush 16, 2) := by decide +kernel
theorem dL_law_368 : decode cL_law 368 = .ok (.if_icmp .ge 7, 3) := by decide +kernel
theorem dL_law_371 : decode cL_law 371 = .ok (.iconst 1, 1) := by decide +kernel
theorem dL_law_372 : decode cL_law 372 = .ok (.goto 15, 3) := by decide +kernel
theorem dL_law_375 : decode cL_law 375 = .ok (.iload 11, 2) := by decide +kernel
theorem dL_law_377 : decode cL_law 377 = .ok (.bipush 22, 2) := by decide +kernel
theorem dL_law_379 : decode cL_law 379 = .ok (.if_icmp .ge 7, 3) := by decide +kernel
theorem dL_law_382 : decode cL_law 382 = .ok (.iconst 2, 1) := by decide +kernel
theorem dL_law_383 : decode cL_law 383 = .ok (.goto 4, 3) := by decide +kernel
theorem dL_law_386 : decode cL_law 386 = .ok (.iconst 3, 1) := by decide +kernel
theorem dL_law_387 : decode cL_law 387 = .ok (.iload 12, 2) := by decide +kernel
theorem dL_law_389 : decode cL_law 389 = .ok (.iload 13, 2) := by decide +kernel
theorem dL_law_391 : decode cL_law 391 = .ok (.invokestatic 173, 3) := by decide +kernel
theorem dL_law_394 : decode cL_law 394 = .ok (.istore 9, 2) := by decide +kernel
theorem dL_law_396 : decode cL_law 396 = .ok (.goto 59, 3) := by decide +kernel
theorem dL_law_399 : decode cL_law 399 = .ok (.aload_n 1, 1) := by decide +kernel
theorem dL_law_400 : decode cL_law 400 = .ok (.aload_n 2, 1) := by decide +kernel
theorem dL_law_401 : decode cL_law 401 = .ok (.aload_n 3, 1) := by decide +kernel
theorem dL_law_402 : decode cL_law 402 = .ok (.aload 4, 2) := by decide +kernel
theorem dL_law_404 : decode cL_law 404 = .ok (.aload 5, 2) := by decide +kernel
theorem dL_law_406 : decode cL_law 406 = .ok (.aload 6, 2) := by decide +kernel
theorem dL_law_408 : decode cL_law 408 = .ok (.aload 7, 2) := by decide +kernel
theorem dL_law_410 : decode cL_law 410 = .ok (.aload 8, 2) := by decide +kernel
theorem dL_law_412 : decode cL_law 412 = .ok (.iload 11, 2) := by decide +kernel
theorem dL_law_414 : decode cL_law 414 = .ok (.bipush 26, 2) := by decide +kernel
theorem dL_law_416 : decode cL_law 416 = .ok (.if_icmp .ge 7, 3) := by decide +kernel
theorem dL_law_419 : decode cL_law 419 = .ok (.iconst 0, 1) := by decide +kernel
theorem dL_law_420 : decode cL_law 420 = .ok (.goto 26, 3) := by decide +kernel
theorem dL_law_423 : decode cL_law 423 = .ok (.iload 11, 2) := by decide +kernel
theorem dL_law_425 : decode cL_law 425 = .ok (.bipush 26, 2) := by decide +kernel
theorem dL_law_427 : decode cL_law 427 = .ok (.if_icmp .ne 7, 3) := by decide +kernel
theorem dL_law_430 : decode cL_law 430 = .ok (.iconst 1, 1) := by decide +kernel
theorem dL_law_431 : decode cL_law 431 = .ok (.goto 15, 3) := by decide +kernel
theorem dL_law_434 : decode cL_law 434 = .ok (.iload 11, 2) := by decide +kernel
theorem dL_law_436 : decode cL_law 436 = .ok (.bipush 27, 2) := by decide +kernel
theorem dL_law_438 : decode cL_law 438 = .ok (.if_icmp .ne 7, 3) := by decide +kernel
theorem dL_law_441 : decode cL_law 441 = .ok (.iconst 2, 1) := by decide +kernel
theorem dL_law_442 : decode cL_law 442 = .ok (.goto 4, 3) := by decide +kernel
theorem dL_law_445 : decode cL_law 445 = .ok (.iconst 3, 1) := by decide +kernel
theorem dL_law_446 : decode cL_law 446 = .ok (.iload 12, 2) := by decide +kernel
theorem dL_law_448 : decode cL_law 448 = .ok (.iload 13, 2) := by decide +kernel
theorem dL_law_450 : decode cL_law 450 = .ok (.invokestatic 176, 3) := by decide +kernel
theorem dL_law_453 : decode cL_law 453 = .ok (.istore 9, 2) := by decide +kernel
theorem dL_law_455 : decode cL_law 455 = .ok (.iload 9, 2) := by decide +kernel
theorem dL_law_457 : decode cL_law 457 = .ok (.ifCond .eq 26, 3) := by decide +kernel
theorem dL_law_460 : decode cL_law 460 = .ok (.aload_n 1, 1) := by decide +kernel
theorem dL_law_461 : decode cL_law 461 = .ok (.aload_n 2, 1) := by decide +kernel
theorem dL_law_462 : decode cL_law 462 = .ok (.aload_n 3, 1) := by decide +kernel
theorem dL_law_463 : decode cL_law 463 = .ok (.aload 4, 2) := by decide +kernel
theorem dL_law_465 : decode cL_law 465 = .ok (.aload 5, 2) := by decide +kernel
theorem dL_law_467 : decode cL_law 467 = .ok (.aload 6, 2) := by decide +kernel
theorem dL_law_469 : decode cL_law 469 = .ok (.aload 7, 2) := by decide +kernel
theorem dL_law_471 : decode cL_law 471 = .ok (.aload 8, 2) := by decide +kernel
theorem dL_law_473 : decode cL_law 473 = .ok (.invokestatic 180, 3) := by decide +kernel
theorem dL_law_476 : decode cL_law 476 = .ok (.ifCond .eq 7, 3) := by decide +kernel
theorem dL_law_479 : decode cL_law 479 = .ok (.iconst 1, 1) := by decide +kernel
theorem dL_law_480 : decode cL_law 480 = .ok (.goto 4, 3) := by decide +kernel
theorem dL_law_483 : decode cL_law 483 = .ok (.iconst 0, 1) := by decide +kernel
theorem dL_law_484 : decode cL_law 484 = .ok (.istore 9, 2) := by decide +kernel
theorem dL_law_486 : decode cL_law 486 = .ok (.iinc 10 1, 3) := by decide +kernel
theorem dL_law_489 : decode cL_law 489 = .ok (.goto (-346), 3) := by decide +kernel
theorem dL_law_492 : decode cL_law 492 = .ok (.iload 9, 2) := by decide +kernel
theorem dL_law_494 : decode cL_law 494 = .ok (.ireturn, 1) := by decide +kernel
