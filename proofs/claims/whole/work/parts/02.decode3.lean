theorem d_M_matrix_207 : decode b_M_matrix 207 = .ok (.aload_n 0, 1) := by decide +kernel
theorem d_M_matrix_208 : decode b_M_matrix 208 = .ok (.bipush 96, 2) := by decide +kernel
theorem d_M_matrix_210 : decode b_M_matrix 210 = .ok (.iconst 5, 1) := by decide +kernel
theorem d_M_matrix_211 : decode b_M_matrix 211 = .ok (.invokevirtual 123, 3) := by decide +kernel
theorem d_M_matrix_214 : decode b_M_matrix 214 = .ok (.return_, 1) := by decide +kernel
theorem d_M_smoothAt_0 : decode b_M_smoothAt 0 = .ok (.bipush 24, 2) := by decide +kernel
theorem d_M_smoothAt_2 : decode b_M_smoothAt 2 = .ok (.bipush 6, 2) := by decide +kernel
theorem d_M_smoothAt_4 : decode b_M_smoothAt 4 = .ok (.iload_n 1, 1) := by decide +kernel
theorem d_M_smoothAt_5 : decode b_M_smoothAt 5 = .ok (.imul, 1) := by decide +kernel
theorem d_M_smoothAt_6 : decode b_M_smoothAt 6 = .ok (.iadd, 1) := by decide +kernel
theorem d_M_smoothAt_7 : decode b_M_smoothAt 7 = .ok (.istore_n 2, 1) := by decide +kernel
theorem d_M_smoothAt_8 : decode b_M_smoothAt 8 = .ok (.iconst 0, 1) := by decide +kernel
theorem d_M_smoothAt_9 : decode b_M_smoothAt 9 = .ok (.bipush 6, 2) := by decide +kernel
theorem d_M_smoothAt_11 : decode b_M_smoothAt 11 = .ok (.iload_n 1, 1) := by decide +kernel
theorem d_M_smoothAt_12 : decode b_M_smoothAt 12 = .ok (.imul, 1) := by decide +kernel
theorem d_M_smoothAt_13 : decode b_M_smoothAt 13 = .ok (.iadd, 1) := by decide +kernel
theorem d_M_smoothAt_14 : decode b_M_smoothAt 14 = .ok (.bipush 6, 2) := by decide +kernel
theorem d_M_smoothAt_16 : decode b_M_smoothAt 16 = .ok (.iadd, 1) := by decide +kernel
theorem d_M_smoothAt_17 : decode b_M_smoothAt 17 = .ok (.istore_n 3, 1) := by decide +kernel
theorem d_M_smoothAt_18 : decode b_M_smoothAt 18 = .ok (.bipush 48, 2) := by decide +kernel
theorem d_M_smoothAt_20 : decode b_M_smoothAt 20 = .ok (.bipush 6, 2) := by decide +kernel
theorem d_M_smoothAt_22 : decode b_M_smoothAt 22 = .ok (.iload_n 1, 1) := by decide +kernel
theorem d_M_smoothAt_23 : decode b_M_smoothAt 23 = .ok (.imul, 1) := by decide +kernel
theorem d_M_smoothAt_24 : decode b_M_smoothAt 24 = .ok (.iadd, 1) := by decide +kernel
theorem d_M_smoothAt_25 : decode b_M_smoothAt 25 = .ok (.bipush 6, 2) := by decide +kernel
theorem d_M_smoothAt_27 : decode b_M_smoothAt 27 = .ok (.iadd, 1) := by decide +kernel
theorem d_M_smoothAt_28 : decode b_M_smoothAt 28 = .ok (.istore 4, 2) := by decide +kernel
theorem d_M_smoothAt_30 : decode b_M_smoothAt 30 = .ok (.bipush 48, 2) := by decide +kernel
theorem d_M_smoothAt_32 : decode b_M_smoothAt 32 = .ok (.bipush 6, 2) := by decide +kernel
theorem d_M_smoothAt_34 : decode b_M_smoothAt 34 = .ok (.iload_n 1, 1) := by decide +kernel
theorem d_M_smoothAt_35 : decode b_M_smoothAt 35 = .ok (.imul, 1) := by decide +kernel
theorem d_M_smoothAt_36 : decode b_M_smoothAt 36 = .ok (.iadd, 1) := by decide +kernel
theorem d_M_smoothAt_37 : decode b_M_smoothAt 37 = .ok (.istore 5, 2) := by decide +kernel
theorem d_M_smoothAt_39 : decode b_M_smoothAt 39 = .ok (.bipush 110, 2) := by decide +kernel
theorem d_M_smoothAt_41 : decode b_M_smoothAt 41 = .ok (.istore 6, 2) := by decide +kernel
theorem d_M_smoothAt_43 : decode b_M_smoothAt 43 = .ok (.aload_n 0, 1) := by decide +kernel
theorem d_M_smoothAt_44 : decode b_M_smoothAt 44 = .ok (.iload_n 2, 1) := by decide +kernel
theorem d_M_smoothAt_45 : decode b_M_smoothAt 45 = .ok (.iload_n 3, 1) := by decide +kernel
theorem d_M_smoothAt_46 : decode b_M_smoothAt 46 = .ok (.iconst 4, 1) := by decide +kernel
theorem d_M_smoothAt_47 : decode b_M_smoothAt 47 = .ok (.iload_n 1, 1) := by decide +kernel
theorem d_M_smoothAt_48 : decode b_M_smoothAt 48 = .ok (.imul, 1) := by decide +kernel
theorem d_M_smoothAt_49 : decode b_M_smoothAt 49 = .ok (.invokevirtual 134, 3) := by decide +kernel
theorem d_M_smoothAt_52 : decode b_M_smoothAt 52 = .ok (.iconst 0, 1) := by decide +kernel
theorem d_M_smoothAt_53 : decode b_M_smoothAt 53 = .ok (.istore 7, 2) := by decide +kernel
theorem d_M_smoothAt_55 : decode b_M_smoothAt 55 = .ok (.iload 7, 2) := by decide +kernel
theorem d_M_smoothAt_57 : decode b_M_smoothAt 57 = .ok (.iconst 5, 1) := by decide +kernel
theorem d_M_smoothAt_58 : decode b_M_smoothAt 58 = .ok (.if_icmp .ge 37, 3) := by decide +kernel
theorem d_M_smoothAt_61 : decode b_M_smoothAt 61 = .ok (.aload_n 0, 1) := by decide +kernel
theorem d_M_smoothAt_62 : decode b_M_smoothAt 62 = .ok (.bipush 101, 2) := by decide +kernel
theorem d_M_smoothAt_64 : decode b_M_smoothAt 64 = .ok (.iload 7, 2) := by decide +kernel
theorem d_M_smoothAt_66 : decode b_M_smoothAt 66 = .ok (.iadd, 1) := by decide +kernel
theorem d_M_smoothAt_67 : decode b_M_smoothAt 67 = .ok (.iload 4, 2) := by decide +kernel
theorem d_M_smoothAt_69 : decode b_M_smoothAt 69 = .ok (.iload 7, 2) := by decide +kernel
theorem d_M_smoothAt_71 : decode b_M_smoothAt 71 = .ok (.iadd, 1) := by decide +kernel
theorem d_M_smoothAt_72 : decode b_M_smoothAt 72 = .ok (.iload_n 3, 1) := by decide +kernel
theorem d_M_smoothAt_73 : decode b_M_smoothAt 73 = .ok (.iconst 5, 1) := by decide +kernel
theorem d_M_smoothAt_74 : decode b_M_smoothAt 74 = .ok (.iadd, 1) := by decide +kernel
theorem d_M_smoothAt_75 : decode b_M_smoothAt 75 = .ok (.iload_n 3, 1) := by decide +kernel
theorem d_M_smoothAt_76 : decode b_M_smoothAt 76 = .ok (.iload 7, 2) := by decide +kernel
theorem d_M_smoothAt_78 : decode b_M_smoothAt 78 = .ok (.iadd, 1) := by decide +kernel
theorem d_M_smoothAt_79 : decode b_M_smoothAt 79 = .ok (.iload 4, 2) := by decide +kernel
theorem d_M_smoothAt_81 : decode b_M_smoothAt 81 = .ok (.iconst 5, 1) := by decide +kernel
theorem d_M_smoothAt_82 : decode b_M_smoothAt 82 = .ok (.iadd, 1) := by decide +kernel
theorem d_M_smoothAt_83 : decode b_M_smoothAt 83 = .ok (.iconst (-1), 1) := by decide +kernel
theorem d_M_smoothAt_84 : decode b_M_smoothAt 84 = .ok (.iload 6, 2) := by decide +kernel
theorem d_M_smoothAt_86 : decode b_M_smoothAt 86 = .ok (.invokevirtual 130, 3) := by decide +kernel
theorem d_M_smoothAt_89 : decode b_M_smoothAt 89 = .ok (.iinc 7 1, 3) := by decide +kernel
theorem d_M_smoothAt_92 : decode b_M_smoothAt 92 = .ok (.goto (-37), 3) := by decide +kernel
theorem d_M_smoothAt_95 : decode b_M_smoothAt 95 = .ok (.iconst 0, 1) := by decide +kernel
theorem d_M_smoothAt_96 : decode b_M_smoothAt 96 = .ok (.istore 7, 2) := by decide +kernel
theorem d_M_smoothAt_98 : decode b_M_smoothAt 98 = .ok (.iload 7, 2) := by decide +kernel
theorem d_M_smoothAt_100 : decode b_M_smoothAt 100 = .ok (.iconst 2, 1) := by decide +kernel
theorem d_M_smoothAt_101 : decode b_M_smoothAt 101 = .ok (.if_icmp .ge 77, 3) := by decide +kernel
theorem d_M_smoothAt_104 : decode b_M_smoothAt 104 = .ok (.aload_n 0, 1) := by decide +kernel
theorem d_M_smoothAt_105 : decode b_M_smoothAt 105 = .ok (.bipush 106, 2) := by decide +kernel
theorem d_M_smoothAt_107 : decode b_M_smoothAt 107 = .ok (.iconst 2, 1) := by decide +kernel
theorem d_M_smoothAt_108 : decode b_M_smoothAt 108 = .ok (.iload 7, 2) := by decide +kernel
theorem d_M_smoothAt_110 : decode b_M_smoothAt 110 = .ok (.imul, 1) := by decide +kernel
theorem d_M_smoothAt_111 : decode b_M_smoothAt 111 = .ok (.iadd, 1) := by decide +kernel
theorem d_M_smoothAt_112 : decode b_M_smoothAt 112 = .ok (.bipush 96, 2) := by decide +kernel
theorem d_M_smoothAt_114 : decode b_M_smoothAt 114 = .ok (.iconst 2, 1) := by decide +kernel
theorem d_M_smoothAt_115 : decode b_M_smoothAt 115 = .ok (.iload 7, 2) := by decide +kernel
theorem d_M_smoothAt_117 : decode b_M_smoothAt 117 = .ok (.imul, 1) := by decide +kernel
theorem d_M_smoothAt_118 : decode b_M_smoothAt 118 = .ok (.iadd, 1) := by decide +kernel
theorem d_M_smoothAt_119 : decode b_M_smoothAt 119 = .ok (.bipush 103, 2) := by decide +kernel
theorem d_M_smoothAt_121 : decode b_M_smoothAt 121 = .ok (.bipush 96, 2) := by decide +kernel
theorem d_M_smoothAt_123 : decode b_M_smoothAt 123 = .ok (.iconst 2, 1) := by decide +kernel
theorem d_M_smoothAt_124 : decode b_M_smoothAt 124 = .ok (.iload 7, 2) := by decide +kernel
theorem d_M_smoothAt_126 : decode b_M_smoothAt 126 = .ok (.imul, 1) := by decide +kernel
theorem d_M_smoothAt_127 : decode b_M_smoothAt 127 = .ok (.iadd, 1) := by decide +kernel
theorem d_M_smoothAt_128 : decode b_M_smoothAt 128 = .ok (.iconst 1, 1) := by decide +kernel
theorem d_M_smoothAt_129 : decode b_M_smoothAt 129 = .ok (.iadd, 1) := by decide +kernel
theorem d_M_smoothAt_130 : decode b_M_smoothAt 130 = .ok (.bipush 104, 2) := by decide +kernel
theorem d_M_smoothAt_132 : decode b_M_smoothAt 132 = .ok (.iconst 1, 1) := by decide +kernel
theorem d_M_smoothAt_133 : decode b_M_smoothAt 133 = .ok (.iload 6, 2) := by decide +kernel
theorem d_M_smoothAt_135 : decode b_M_smoothAt 135 = .ok (.invokevirtual 130, 3) := by decide +kernel
theorem d_M_smoothAt_138 : decode b_M_smoothAt 138 = .ok (.aload_n 0, 1) := by decide +kernel
theorem d_M_smoothAt_139 : decode b_M_smoothAt 139 = .ok (.bipush 107, 2) := by decide +kernel
theorem d_M_smoothAt_141 : decode b_M_smoothAt 141 = .ok (.iconst 2, 1) := by decide +kernel
theorem d_M_smoothAt_142 : decode b_M_smoothAt 142 = .ok (.iload 7, 2) := by decide +kernel
theorem d_M_smoothAt_144 : decode b_M_smoothAt 144 = .ok (.imul, 1) := by decide +kernel
theorem d_M_smoothAt_145 : decode b_M_smoothAt 145 = .ok (.iadd, 1) := by decide +kernel
theorem d_M_smoothAt_146 : decode b_M_smoothAt 146 = .ok (.bipush 96, 2) := by decide +kernel
theorem d_M_smoothAt_148 : decode b_M_smoothAt 148 = .ok (.iconst 2, 1) := by decide +kernel
theorem d_M_smoothAt_149 : decode b_M_smoothAt 149 = .ok (.iload 7, 2) := by decide +kernel
theorem d_M_smoothAt_151 : decode b_M_smoothAt 151 = .ok (.imul, 1) := by decide +kernel
theorem d_M_smoothAt_152 : decode b_M_smoothAt 152 = .ok (.iadd, 1) := by decide +kernel
theorem d_M_smoothAt_153 : decode b_M_smoothAt 153 = .ok (.bipush 104, 2) := by decide +kernel
theorem d_M_smoothAt_155 : decode b_M_smoothAt 155 = .ok (.bipush 96, 2) := by decide +kernel
theorem d_M_smoothAt_157 : decode b_M_smoothAt 157 = .ok (.iconst 2, 1) := by decide +kernel
theorem d_M_smoothAt_158 : decode b_M_smoothAt 158 = .ok (.iload 7, 2) := by decide +kernel
theorem d_M_smoothAt_160 : decode b_M_smoothAt 160 = .ok (.imul, 1) := by decide +kernel
theorem d_M_smoothAt_161 : decode b_M_smoothAt 161 = .ok (.iadd, 1) := by decide +kernel
theorem d_M_smoothAt_162 : decode b_M_smoothAt 162 = .ok (.iconst 1, 1) := by decide +kernel
theorem d_M_smoothAt_163 : decode b_M_smoothAt 163 = .ok (.iadd, 1) := by decide +kernel
theorem d_M_smoothAt_164 : decode b_M_smoothAt 164 = .ok (.bipush 105, 2) := by decide +kernel
theorem d_M_smoothAt_166 : decode b_M_smoothAt 166 = .ok (.iconst 1, 1) := by decide +kernel
theorem d_M_smoothAt_167 : decode b_M_smoothAt 167 = .ok (.iload 6, 2) := by decide +kernel
theorem d_M_smoothAt_169 : decode b_M_smoothAt 169 = .ok (.invokevirtual 130, 3) := by decide +kernel
theorem d_M_smoothAt_172 : decode b_M_smoothAt 172 = .ok (.iinc 7 1, 3) := by decide +kernel
theorem d_M_smoothAt_175 : decode b_M_smoothAt 175 = .ok (.goto (-77), 3) := by decide +kernel
theorem d_M_smoothAt_178 : decode b_M_smoothAt 178 = .ok (.bipush 100, 2) := by decide +kernel
theorem d_M_smoothAt_180 : decode b_M_smoothAt 180 = .ok (.istore 7, 2) := by decide +kernel
theorem d_M_smoothAt_182 : decode b_M_smoothAt 182 = .ok (.bipush 111, 2) := by decide +kernel
theorem d_M_smoothAt_184 : decode b_M_smoothAt 184 = .ok (.istore 8, 2) := by decide +kernel
theorem d_M_smoothAt_186 : decode b_M_smoothAt 186 = .ok (.aload_n 0, 1) := by decide +kernel
theorem d_M_smoothAt_187 : decode b_M_smoothAt 187 = .ok (.iload 8, 2) := by decide +kernel
theorem d_M_smoothAt_189 : decode b_M_smoothAt 189 = .ok (.iload 7, 2) := by decide +kernel
theorem d_M_smoothAt_191 : decode b_M_smoothAt 191 = .ok (.iload 7, 2) := by decide +kernel
theorem d_M_smoothAt_193 : decode b_M_smoothAt 193 = .ok (.invokevirtual 59, 3) := by decide +kernel
theorem d_M_smoothAt_196 : decode b_M_smoothAt 196 = .ok (.aload_n 0, 1) := by decide +kernel
theorem d_M_smoothAt_197 : decode b_M_smoothAt 197 = .ok (.iload 8, 2) := by decide +kernel
theorem d_M_smoothAt_199 : decode b_M_smoothAt 199 = .ok (.iload 8, 2) := by decide +kernel
theorem d_M_smoothAt_201 : decode b_M_smoothAt 201 = .ok (.iload 4, 2) := by decide +kernel
theorem d_M_smoothAt_203 : decode b_M_smoothAt 203 = .ok (.iconst 5, 1) := by decide +kernel
theorem d_M_smoothAt_204 : decode b_M_smoothAt 204 = .ok (.iadd, 1) := by decide +kernel
theorem d_M_smoothAt_205 : decode b_M_smoothAt 205 = .ok (.invokevirtual 59, 3) := by decide +kernel
theorem d_M_smoothAt_208 : decode b_M_smoothAt 208 = .ok (.iconst 0, 1) := by decide +kernel
theorem d_M_smoothAt_209 : decode b_M_smoothAt 209 = .ok (.istore 9, 2) := by decide +kernel
theorem d_M_smoothAt_211 : decode b_M_smoothAt 211 = .ok (.iload 9, 2) := by decide +kernel
theorem d_M_smoothAt_213 : decode b_M_smoothAt 213 = .ok (.iconst 2, 1) := by decide +kernel
theorem d_M_smoothAt_214 : decode b_M_smoothAt 214 = .ok (.if_icmp .ge 75, 3) := by decide +kernel
theorem d_M_smoothAt_217 : decode b_M_smoothAt 217 = .ok (.aload_n 0, 1) := by decide +kernel
theorem d_M_smoothAt_218 : decode b_M_smoothAt 218 = .ok (.iload 5, 2) := by decide +kernel
theorem d_M_smoothAt_220 : decode b_M_smoothAt 220 = .ok (.iload 9, 2) := by decide +kernel
theorem d_M_smoothAt_222 : decode b_M_smoothAt 222 = .ok (.iadd, 1) := by decide +kernel
theorem d_M_smoothAt_223 : decode b_M_smoothAt 223 = .ok (.bipush 96, 2) := by decide +kernel
theorem d_M_smoothAt_225 : decode b_M_smoothAt 225 = .ok (.iconst 2, 1) := by decide +kernel
theorem d_M_smoothAt_226 : decode b_M_smoothAt 226 = .ok (.iload 9, 2) := by decide +kernel
theorem d_M_smoothAt_228 : decode b_M_smoothAt 228 = .ok (.imul, 1) := by decide +kernel
theorem d_M_smoothAt_229 : decode b_M_smoothAt 229 = .ok (.iadd, 1) := by decide +kernel
theorem d_M_smoothAt_230 : decode b_M_smoothAt 230 = .ok (.bipush 101, 2) := by decide +kernel
theorem d_M_smoothAt_232 : decode b_M_smoothAt 232 = .ok (.bipush 96, 2) := by decide +kernel
theorem d_M_smoothAt_234 : decode b_M_smoothAt 234 = .ok (.iconst 2, 1) := by decide +kernel
theorem d_M_smoothAt_235 : decode b_M_smoothAt 235 = .ok (.iload 9, 2) := by decide +kernel
theorem d_M_smoothAt_237 : decode b_M_smoothAt 237 = .ok (.imul, 1) := by decide +kernel
theorem d_M_smoothAt_238 : decode b_M_smoothAt 238 = .ok (.iadd, 1) := by decide +kernel
theorem d_M_smoothAt_239 : decode b_M_smoothAt 239 = .ok (.iconst 1, 1) := by decide +kernel
theorem d_M_smoothAt_240 : decode b_M_smoothAt 240 = .ok (.iadd, 1) := by decide +kernel
theorem d_M_smoothAt_241 : decode b_M_smoothAt 241 = .ok (.bipush 102, 2) := by decide +kernel
theorem d_M_smoothAt_243 : decode b_M_smoothAt 243 = .ok (.iconst 1, 1) := by decide +kernel
theorem d_M_smoothAt_244 : decode b_M_smoothAt 244 = .ok (.iload 6, 2) := by decide +kernel
theorem d_M_smoothAt_246 : decode b_M_smoothAt 246 = .ok (.invokevirtual 130, 3) := by decide +kernel
theorem d_M_smoothAt_249 : decode b_M_smoothAt 249 = .ok (.aload_n 0, 1) := by decide +kernel
theorem d_M_smoothAt_250 : decode b_M_smoothAt 250 = .ok (.iload 5, 2) := by decide +kernel
theorem d_M_smoothAt_252 : decode b_M_smoothAt 252 = .ok (.iload 9, 2) := by decide +kernel
theorem d_M_smoothAt_254 : decode b_M_smoothAt 254 = .ok (.iadd, 1) := by decide +kernel
theorem d_M_smoothAt_255 : decode b_M_smoothAt 255 = .ok (.iload 5, 2) := by decide +kernel
theorem d_M_smoothAt_257 : decode b_M_smoothAt 257 = .ok (.iload 9, 2) := by decide +kernel
theorem d_M_smoothAt_259 : decode b_M_smoothAt 259 = .ok (.iadd, 1) := by decide +kernel
theorem d_M_smoothAt_260 : decode b_M_smoothAt 260 = .ok (.iload 7, 2) := by decide +kernel
theorem d_M_smoothAt_262 : decode b_M_smoothAt 262 = .ok (.invokevirtual 59, 3) := by decide +kernel
theorem d_M_smoothAt_265 : decode b_M_smoothAt 265 = .ok (.aload_n 0, 1) := by decide +kernel
theorem d_M_smoothAt_266 : decode b_M_smoothAt 266 = .ok (.iload 5, 2) := by decide +kernel
theorem d_M_smoothAt_268 : decode b_M_smoothAt 268 = .ok (.iload 9, 2) := by decide +kernel
theorem d_M_smoothAt_270 : decode b_M_smoothAt 270 = .ok (.iadd, 1) := by decide +kernel
theorem d_M_smoothAt_271 : decode b_M_smoothAt 271 = .ok (.iload_n 2, 1) := by decide +kernel
theorem d_M_smoothAt_272 : decode b_M_smoothAt 272 = .ok (.iload 9, 2) := by decide +kernel
theorem d_M_smoothAt_274 : decode b_M_smoothAt 274 = .ok (.iadd, 1) := by decide +kernel
theorem d_M_smoothAt_275 : decode b_M_smoothAt 275 = .ok (.iload 8, 2) := by decide +kernel
theorem d_M_smoothAt_277 : decode b_M_smoothAt 277 = .ok (.iconst 1, 1) := by decide +kernel
theorem d_M_smoothAt_278 : decode b_M_smoothAt 278 = .ok (.iload 6, 2) := by decide +kernel
theorem d_M_smoothAt_280 : decode b_M_smoothAt 280 = .ok (.invokevirtual 120, 3) := by decide +kernel
theorem d_M_smoothAt_283 : decode b_M_smoothAt 283 = .ok (.iinc 9 1, 3) := by decide +kernel
theorem d_M_smoothAt_286 : decode b_M_smoothAt 286 = .ok (.goto (-75), 3) := by decide +kernel
theorem d_M_smoothAt_289 : decode b_M_smoothAt 289 = .ok (.aload_n 0, 1) := by decide +kernel
theorem d_M_smoothAt_290 : decode b_M_smoothAt 290 = .ok (.iload 5, 2) := by decide +kernel
theorem d_M_smoothAt_292 : decode b_M_smoothAt 292 = .ok (.iconst 2, 1) := by decide +kernel
theorem d_M_smoothAt_293 : decode b_M_smoothAt 293 = .ok (.iadd, 1) := by decide +kernel
theorem d_M_smoothAt_294 : decode b_M_smoothAt 294 = .ok (.bipush 106, 2) := by decide +kernel
theorem d_M_smoothAt_296 : decode b_M_smoothAt 296 = .ok (.bipush 96, 2) := by decide +kernel
theorem d_M_smoothAt_298 : decode b_M_smoothAt 298 = .ok (.bipush 107, 2) := by decide +kernel
theorem d_M_smoothAt_300 : decode b_M_smoothAt 300 = .ok (.bipush 97, 2) := by decide +kernel
theorem d_M_smoothAt_302 : decode b_M_smoothAt 302 = .ok (.iconst 1, 1) := by decide +kernel
theorem d_M_smoothAt_303 : decode b_M_smoothAt 303 = .ok (.iload 6, 2) := by decide +kernel
theorem d_M_smoothAt_305 : decode b_M_smoothAt 305 = .ok (.invokevirtual 130, 3) := by decide +kernel
theorem d_M_smoothAt_308 : decode b_M_smoothAt 308 = .ok (.aload_n 0, 1) := by decide +kernel
theorem d_M_smoothAt_309 : decode b_M_smoothAt 309 = .ok (.iload 5, 2) := by decide +kernel
theorem d_M_smoothAt_311 : decode b_M_smoothAt 311 = .ok (.iconst 3, 1) := by decide +kernel
theorem d_M_smoothAt_312 : decode b_M_smoothAt 312 = .ok (.iadd, 1) := by decide +kernel
theorem d_M_smoothAt_313 : decode b_M_smoothAt 313 = .ok (.bipush 106, 2) := by decide +kernel
theorem d_M_smoothAt_315 : decode b_M_smoothAt 315 = .ok (.bipush 98, 2) := by decide +kernel
theorem d_M_smoothAt_317 : decode b_M_smoothAt 317 = .ok (.bipush 107, 2) := by decide +kernel
theorem d_M_smoothAt_319 : decode b_M_smoothAt 319 = .ok (.bipush 99, 2) := by decide +kernel
theorem d_M_smoothAt_321 : decode b_M_smoothAt 321 = .ok (.iconst 1, 1) := by decide +kernel
theorem d_M_smoothAt_322 : decode b_M_smoothAt 322 = .ok (.iload 6, 2) := by decide +kernel
theorem d_M_smoothAt_324 : decode b_M_smoothAt 324 = .ok (.invokevirtual 130, 3) := by decide +kernel
theorem d_M_smoothAt_327 : decode b_M_smoothAt 327 = .ok (.aload_n 0, 1) := by decide +kernel
theorem d_M_smoothAt_328 : decode b_M_smoothAt 328 = .ok (.iload 5, 2) := by decide +kernel
theorem d_M_smoothAt_330 : decode b_M_smoothAt 330 = .ok (.iconst 4, 1) := by decide +kernel
theorem d_M_smoothAt_331 : decode b_M_smoothAt 331 = .ok (.iadd, 1) := by decide +kernel
theorem d_M_smoothAt_332 : decode b_M_smoothAt 332 = .ok (.bipush 108, 2) := by decide +kernel
theorem d_M_smoothAt_334 : decode b_M_smoothAt 334 = .ok (.bipush 98, 2) := by decide +kernel
theorem d_M_smoothAt_336 : decode b_M_smoothAt 336 = .ok (.bipush 109, 2) := by decide +kernel
theorem d_M_smoothAt_338 : decode b_M_smoothAt 338 = .ok (.bipush 99, 2) := by decide +kernel
theorem d_M_smoothAt_340 : decode b_M_smoothAt 340 = .ok (.iconst 1, 1) := by decide +kernel
theorem d_M_smoothAt_341 : decode b_M_smoothAt 341 = .ok (.iload 6, 2) := by decide +kernel
theorem d_M_smoothAt_343 : decode b_M_smoothAt 343 = .ok (.invokevirtual 130, 3) := by decide +kernel
theorem d_M_smoothAt_346 : decode b_M_smoothAt 346 = .ok (.iconst 2, 1) := by decide +kernel
theorem d_M_smoothAt_347 : decode b_M_smoothAt 347 = .ok (.istore 9, 2) := by decide +kernel
theorem d_M_smoothAt_349 : decode b_M_smoothAt 349 = .ok (.iload 9, 2) := by decide +kernel
theorem d_M_smoothAt_351 : decode b_M_smoothAt 351 = .ok (.iconst 5, 1) := by decide +kernel
theorem d_M_smoothAt_352 : decode b_M_smoothAt 352 = .ok (.if_icmp .ge 27, 3) := by decide +kernel
theorem d_M_smoothAt_355 : decode b_M_smoothAt 355 = .ok (.aload_n 0, 1) := by decide +kernel
theorem d_M_smoothAt_356 : decode b_M_smoothAt 356 = .ok (.iload 5, 2) := by decide +kernel
theorem d_M_smoothAt_358 : decode b_M_smoothAt 358 = .ok (.iload 9, 2) := by decide +kernel
theorem d_M_smoothAt_360 : decode b_M_smoothAt 360 = .ok (.iadd, 1) := by decide +kernel
theorem d_M_smoothAt_361 : decode b_M_smoothAt 361 = .ok (.iload_n 2, 1) := by decide +kernel
theorem d_M_smoothAt_362 : decode b_M_smoothAt 362 = .ok (.iload 9, 2) := by decide +kernel
theorem d_M_smoothAt_364 : decode b_M_smoothAt 364 = .ok (.iadd, 1) := by decide +kernel
theorem d_M_smoothAt_365 : decode b_M_smoothAt 365 = .ok (.iload 8, 2) := by decide +kernel
theorem d_M_smoothAt_367 : decode b_M_smoothAt 367 = .ok (.iconst 1, 1) := by decide +kernel
theorem d_M_smoothAt_368 : decode b_M_smoothAt 368 = .ok (.iload 6, 2) := by decide +kernel
theorem d_M_smoothAt_370 : decode b_M_smoothAt 370 = .ok (.invokevirtual 120, 3) := by decide +kernel
theorem d_M_smoothAt_373 : decode b_M_smoothAt 373 = .ok (.iinc 9 1, 3) := by decide +kernel
theorem d_M_smoothAt_376 : decode b_M_smoothAt 376 = .ok (.goto (-27), 3) := by decide +kernel
theorem d_M_smoothAt_379 : decode b_M_smoothAt 379 = .ok (.aload_n 0, 1) := by decide +kernel
theorem d_M_smoothAt_380 : decode b_M_smoothAt 380 = .ok (.iload 5, 2) := by decide +kernel
theorem d_M_smoothAt_382 : decode b_M_smoothAt 382 = .ok (.iconst 5, 1) := by decide +kernel
theorem d_M_smoothAt_383 : decode b_M_smoothAt 383 = .ok (.iadd, 1) := by decide +kernel
theorem d_M_smoothAt_384 : decode b_M_smoothAt 384 = .ok (.iload 8, 2) := by decide +kernel
theorem d_M_smoothAt_386 : decode b_M_smoothAt 386 = .ok (.iload_n 2, 1) := by decide +kernel
theorem d_M_smoothAt_387 : decode b_M_smoothAt 387 = .ok (.iconst 5, 1) := by decide +kernel
theorem d_M_smoothAt_388 : decode b_M_smoothAt 388 = .ok (.iadd, 1) := by decide +kernel
theorem d_M_smoothAt_389 : decode b_M_smoothAt 389 = .ok (.invokevirtual 59, 3) := by decide +kernel
theorem d_M_smoothAt_392 : decode b_M_smoothAt 392 = .ok (.aload_n 0, 1) := by decide +kernel
theorem d_M_smoothAt_393 : decode b_M_smoothAt 393 = .ok (.iload 5, 2) := by decide +kernel
theorem d_M_smoothAt_395 : decode b_M_smoothAt 395 = .ok (.bipush 6, 2) := by decide +kernel
theorem d_M_smoothAt_397 : decode b_M_smoothAt 397 = .ok (.invokevirtual 123, 3) := by decide +kernel
theorem d_M_smoothAt_400 : decode b_M_smoothAt 400 = .ok (.return_, 1) := by decide +kernel
theorem d_M_smoothAll_0 : decode b_M_smoothAll 0 = .ok (.aload_n 0, 1) := by decide +kernel
theorem d_M_smoothAll_1 : decode b_M_smoothAll 1 = .ok (.getfield 97, 3) := by decide +kernel
theorem d_M_smoothAll_4 : decode b_M_smoothAll 4 = .ok (.ifCond .ne 54, 3) := by decide +kernel
theorem d_M_smoothAll_7 : decode b_M_smoothAll 7 = .ok (.aload_n 0, 1) := by decide +kernel
theorem d_M_smoothAll_8 : decode b_M_smoothAll 8 = .ok (.bipush 48, 2) := by decide +kernel
theorem d_M_smoothAll_10 : decode b_M_smoothAll 10 = .ok (.bipush 6, 2) := by decide +kernel
theorem d_M_smoothAll_12 : decode b_M_smoothAll 12 = .ok (.aload_n 0, 1) := by decide +kernel
theorem d_M_smoothAll_13 : decode b_M_smoothAll 13 = .ok (.getfield 90, 3) := by decide +kernel
theorem d_M_smoothAll_16 : decode b_M_smoothAll 16 = .ok (.imul, 1) := by decide +kernel
theorem d_M_smoothAll_17 : decode b_M_smoothAll 17 = .ok (.iadd, 1) := by decide +kernel
theorem d_M_smoothAll_18 : decode b_M_smoothAll 18 = .ok (.bipush 24, 2) := by decide +kernel
theorem d_M_smoothAll_20 : decode b_M_smoothAll 20 = .ok (.bipush 6, 2) := by decide +kernel
theorem d_M_smoothAll_22 : decode b_M_smoothAll 22 = .ok (.aload_n 0, 1) := by decide +kernel
theorem d_M_smoothAll_23 : decode b_M_smoothAll 23 = .ok (.getfield 90, 3) := by decide +kernel
theorem d_M_smoothAll_26 : decode b_M_smoothAll 26 = .ok (.imul, 1) := by decide +kernel
theorem d_M_smoothAll_27 : decode b_M_smoothAll 27 = .ok (.iadd, 1) := by decide +kernel
theorem d_M_smoothAll_28 : decode b_M_smoothAll 28 = .ok (.invokevirtual 104, 3) := by decide +kernel
theorem d_M_smoothAll_31 : decode b_M_smoothAll 31 = .ok (.aload_n 0, 1) := by decide +kernel
theorem d_M_smoothAll_32 : decode b_M_smoothAll 32 = .ok (.getfield 90, 3) := by decide +kernel
theorem d_M_smoothAll_35 : decode b_M_smoothAll 35 = .ok (.iconst 1, 1) := by decide +kernel
theorem d_M_smoothAll_36 : decode b_M_smoothAll 36 = .ok (.isub, 1) := by decide +kernel
theorem d_M_smoothAll_37 : decode b_M_smoothAll 37 = .ok (.istore_n 1, 1) := by decide +kernel
theorem d_M_smoothAll_38 : decode b_M_smoothAll 38 = .ok (.iload_n 1, 1) := by decide +kernel
theorem d_M_smoothAll_39 : decode b_M_smoothAll 39 = .ok (.ifCond .lt 14, 3) := by decide +kernel
theorem d_M_smoothAll_42 : decode b_M_smoothAll 42 = .ok (.aload_n 0, 1) := by decide +kernel
theorem d_M_smoothAll_43 : decode b_M_smoothAll 43 = .ok (.iload_n 1, 1) := by decide +kernel
theorem d_M_smoothAll_44 : decode b_M_smoothAll 44 = .ok (.invokevirtual 137, 3) := by decide +kernel
theorem d_M_smoothAll_47 : decode b_M_smoothAll 47 = .ok (.iinc 1 (-1), 3) := by decide +kernel
theorem d_M_smoothAll_50 : decode b_M_smoothAll 50 = .ok (.goto (-12), 3) := by decide +kernel
theorem d_M_smoothAll_53 : decode b_M_smoothAll 53 = .ok (.aload_n 0, 1) := by decide +kernel
theorem d_M_smoothAll_54 : decode b_M_smoothAll 54 = .ok (.iconst 1, 1) := by decide +kernel
theorem d_M_smoothAll_55 : decode b_M_smoothAll 55 = .ok (.putfield 97, 3) := by decide +kernel
theorem d_M_smoothAll_58 : decode b_M_smoothAll 58 = .ok (.return_, 1) := by decide +kernel
theorem d_M_time_0 : decode b_M_time 0 = .ok (.aload_n 0, 1) := by decide +kernel
theorem d_M_time_1 : decode b_M_time 1 = .ok (.getfield 90, 3) := by decide +kernel
theorem d_M_time_4 : decode b_M_time 4 = .ok (.ireturn, 1) := by decide +kernel
theorem d_M_observations_0 : decode b_M_observations 0 = .ok (.aload_n 0, 1) := by decide +kernel
theorem d_M_observations_1 : decode b_M_observations 1 = .ok (.getfield 94, 3) := by decide +kernel
theorem d_M_observations_4 : decode b_M_observations 4 = .ok (.ireturn, 1) := by decide +kernel
theorem d_M_none_0 : decode b_M_none 0 = .ok (.iload_n 1, 1) := by decide +kernel
theorem d_M_none_1 : decode b_M_none 1 = .ok (.iconst 3, 1) := by decide +kernel
theorem d_M_none_2 : decode b_M_none 2 = .ok (.if_icmp .ne 30, 3) := by decide +kernel
theorem d_M_none_5 : decode b_M_none 5 = .ok (.iload_n 2, 1) := by decide +kernel
theorem d_M_none_6 : decode b_M_none 6 = .ok (.ifCond .lt 20, 3) := by decide +kernel
theorem d_M_none_9 : decode b_M_none 9 = .ok (.iload_n 2, 1) := by decide +kernel
theorem d_M_none_10 : decode b_M_none 10 = .ok (.aload_n 0, 1) := by decide +kernel
theorem d_M_none_11 : decode b_M_none 11 = .ok (.getfield 94, 3) := by decide +kernel
theorem d_M_none_14 : decode b_M_none 14 = .ok (.if_icmp .ge 12, 3) := by decide +kernel
theorem d_M_none_17 : decode b_M_none 17 = .ok (.iload_n 3, 1) := by decide +kernel
theorem d_M_none_18 : decode b_M_none 18 = .ok (.ifCond .lt 8, 3) := by decide +kernel
theorem d_M_none_21 : decode b_M_none 21 = .ok (.iload_n 3, 1) := by decide +kernel
theorem d_M_none_22 : decode b_M_none 22 = .ok (.iconst 1, 1) := by decide +kernel
theorem d_M_none_23 : decode b_M_none 23 = .ok (.if_icmp .le 7, 3) := by decide +kernel
theorem d_M_none_26 : decode b_M_none 26 = .ok (.iconst 1, 1) := by decide +kernel
theorem d_M_none_27 : decode b_M_none 27 = .ok (.goto 4, 3) := by decide +kernel
theorem d_M_none_30 : decode b_M_none 30 = .ok (.iconst 0, 1) := by decide +kernel
theorem d_M_none_31 : decode b_M_none 31 = .ok (.ireturn, 1) := by decide +kernel
theorem d_M_none_32 : decode b_M_none 32 = .ok (.iload_n 1, 1) := by decide +kernel
theorem d_M_none_33 : decode b_M_none 33 = .ok (.ifCond .lt 29, 3) := by decide +kernel
theorem d_M_none_36 : decode b_M_none 36 = .ok (.iload_n 1, 1) := by decide +kernel
theorem d_M_none_37 : decode b_M_none 37 = .ok (.iconst 2, 1) := by decide +kernel
theorem d_M_none_38 : decode b_M_none 38 = .ok (.if_icmp .gt 24, 3) := by decide +kernel
theorem d_M_none_41 : decode b_M_none 41 = .ok (.iload_n 2, 1) := by decide +kernel
theorem d_M_none_42 : decode b_M_none 42 = .ok (.ifCond .lt 20, 3) := by decide +kernel
theorem d_M_none_45 : decode b_M_none 45 = .ok (.iload_n 2, 1) := by decide +kernel
theorem d_M_none_46 : decode b_M_none 46 = .ok (.aload_n 0, 1) := by decide +kernel
theorem d_M_none_47 : decode b_M_none 47 = .ok (.getfield 90, 3) := by decide +kernel
theorem d_M_none_50 : decode b_M_none 50 = .ok (.if_icmp .gt 12, 3) := by decide +kernel
theorem d_M_none_53 : decode b_M_none 53 = .ok (.iload_n 3, 1) := by decide +kernel
theorem d_M_none_54 : decode b_M_none 54 = .ok (.ifCond .lt 8, 3) := by decide +kernel
theorem d_M_none_57 : decode b_M_none 57 = .ok (.iload_n 3, 1) := by decide +kernel
theorem d_M_none_58 : decode b_M_none 58 = .ok (.iconst 4, 1) := by decide +kernel
theorem d_M_none_59 : decode b_M_none 59 = .ok (.if_icmp .le 7, 3) := by decide +kernel
theorem d_M_none_62 : decode b_M_none 62 = .ok (.iconst 1, 1) := by decide +kernel
theorem d_M_none_63 : decode b_M_none 63 = .ok (.goto 4, 3) := by decide +kernel
theorem d_M_none_66 : decode b_M_none 66 = .ok (.iconst 0, 1) := by decide +kernel
theorem d_M_none_67 : decode b_M_none 67 = .ok (.ireturn, 1) := by decide +kernel
theorem d_M_upper_0 : decode b_M_upper 0 = .ok (.iload_n 1, 1) := by decide +kernel
theorem d_M_upper_1 : decode b_M_upper 1 = .ok (.iconst 2, 1) := by decide +kernel
theorem d_M_upper_2 : decode b_M_upper 2 = .ok (.if_icmp .ne 7, 3) := by decide +kernel
theorem d_M_upper_5 : decode b_M_upper 5 = .ok (.aload_n 0, 1) := by decide +kernel
theorem d_M_upper_6 : decode b_M_upper 6 = .ok (.invokevirtual 141, 3) := by decide +kernel
theorem d_M_upper_9 : decode b_M_upper 9 = .ok (.iload_n 1, 1) := by decide +kernel
theorem d_M_upper_10 : decode b_M_upper 10 = .ok (.iconst 3, 1) := by decide +kernel
theorem d_M_upper_11 : decode b_M_upper 11 = .ok (.if_icmp .ne 16, 3) := by decide +kernel
theorem d_M_upper_14 : decode b_M_upper 14 = .ok (.bipush 72, 2) := by decide +kernel
theorem d_M_upper_16 : decode b_M_upper 16 = .ok (.iconst 4, 1) := by decide +kernel
theorem d_M_upper_17 : decode b_M_upper 17 = .ok (.iload_n 2, 1) := by decide +kernel
theorem d_M_upper_18 : decode b_M_upper 18 = .ok (.imul, 1) := by decide +kernel
theorem d_M_upper_19 : decode b_M_upper 19 = .ok (.iadd, 1) := by decide +kernel
theorem d_M_upper_20 : decode b_M_upper 20 = .ok (.iconst 2, 1) := by decide +kernel
theorem d_M_upper_21 : decode b_M_upper 21 = .ok (.iload_n 3, 1) := by decide +kernel
theorem d_M_upper_22 : decode b_M_upper 22 = .ok (.imul, 1) := by decide +kernel
theorem d_M_upper_23 : decode b_M_upper 23 = .ok (.iadd, 1) := by decide +kernel
theorem d_M_upper_24 : decode b_M_upper 24 = .ok (.goto 14, 3) := by decide +kernel
theorem d_M_upper_27 : decode b_M_upper 27 = .ok (.bipush 24, 2) := by decide +kernel
theorem d_M_upper_29 : decode b_M_upper 29 = .ok (.iload_n 1, 1) := by decide +kernel
theorem d_M_upper_30 : decode b_M_upper 30 = .ok (.imul, 1) := by decide +kernel
theorem d_M_upper_31 : decode b_M_upper 31 = .ok (.bipush 6, 2) := by decide +kernel
theorem d_M_upper_33 : decode b_M_upper 33 = .ok (.iload_n 2, 1) := by decide +kernel
theorem d_M_upper_34 : decode b_M_upper 34 = .ok (.imul, 1) := by decide +kernel
theorem d_M_upper_35 : decode b_M_upper 35 = .ok (.iadd, 1) := by decide +kernel
theorem d_M_upper_36 : decode b_M_upper 36 = .ok (.iload_n 3, 1) := by decide +kernel
theorem d_M_upper_37 : decode b_M_upper 37 = .ok (.iadd, 1) := by decide +kernel
theorem d_M_upper_38 : decode b_M_upper 38 = .ok (.ireturn, 1) := by decide +kernel
theorem d_M_lowerOf_0 : decode b_M_lowerOf 0 = .ok (.iload_n 1, 1) := by decide +kernel
theorem d_M_lowerOf_1 : decode b_M_lowerOf 1 = .ok (.iconst 3, 1) := by decide +kernel
theorem d_M_lowerOf_2 : decode b_M_lowerOf 2 = .ok (.if_icmp .ne 18, 3) := by decide +kernel
theorem d_M_lowerOf_5 : decode b_M_lowerOf 5 = .ok (.bipush 72, 2) := by decide +kernel
theorem d_M_lowerOf_7 : decode b_M_lowerOf 7 = .ok (.iconst 4, 1) := by decide +kernel
theorem d_M_lowerOf_8 : decode b_M_lowerOf 8 = .ok (.iload_n 2, 1) := by decide +kernel
theorem d_M_lowerOf_9 : decode b_M_lowerOf 9 = .ok (.imul, 1) := by decide +kernel
theorem d_M_lowerOf_10 : decode b_M_lowerOf 10 = .ok (.iadd, 1) := by decide +kernel
theorem d_M_lowerOf_11 : decode b_M_lowerOf 11 = .ok (.iconst 2, 1) := by decide +kernel
theorem d_M_lowerOf_12 : decode b_M_lowerOf 12 = .ok (.iload_n 3, 1) := by decide +kernel
theorem d_M_lowerOf_13 : decode b_M_lowerOf 13 = .ok (.imul, 1) := by decide +kernel
theorem d_M_lowerOf_14 : decode b_M_lowerOf 14 = .ok (.iadd, 1) := by decide +kernel
theorem d_M_lowerOf_15 : decode b_M_lowerOf 15 = .ok (.iconst 1, 1) := by decide +kernel
theorem d_M_lowerOf_16 : decode b_M_lowerOf 16 = .ok (.iadd, 1) := by decide +kernel
theorem d_M_lowerOf_17 : decode b_M_lowerOf 17 = .ok (.goto 14, 3) := by decide +kernel
theorem d_M_lowerOf_20 : decode b_M_lowerOf 20 = .ok (.bipush 24, 2) := by decide +kernel
theorem d_M_lowerOf_22 : decode b_M_lowerOf 22 = .ok (.iload_n 1, 1) := by decide +kernel
theorem d_M_lowerOf_23 : decode b_M_lowerOf 23 = .ok (.imul, 1) := by decide +kernel
theorem d_M_lowerOf_24 : decode b_M_lowerOf 24 = .ok (.bipush 6, 2) := by decide +kernel
theorem d_M_lowerOf_26 : decode b_M_lowerOf 26 = .ok (.iload_n 2, 1) := by decide +kernel
theorem d_M_lowerOf_27 : decode b_M_lowerOf 27 = .ok (.imul, 1) := by decide +kernel
theorem d_M_lowerOf_28 : decode b_M_lowerOf 28 = .ok (.iadd, 1) := by decide +kernel
theorem d_M_lowerOf_29 : decode b_M_lowerOf 29 = .ok (.iconst 5, 1) := by decide +kernel
theorem d_M_lowerOf_30 : decode b_M_lowerOf 30 = .ok (.iadd, 1) := by decide +kernel
theorem d_M_lowerOf_31 : decode b_M_lowerOf 31 = .ok (.ireturn, 1) := by decide +kernel
theorem d_M_sign_0 : decode b_M_sign 0 = .ok (.aload_n 0, 1) := by decide +kernel
theorem d_M_sign_1 : decode b_M_sign 1 = .ok (.iload_n 1, 1) := by decide +kernel
theorem d_M_sign_2 : decode b_M_sign 2 = .ok (.iload_n 2, 1) := by decide +kernel
theorem d_M_sign_3 : decode b_M_sign 3 = .ok (.iload_n 3, 1) := by decide +kernel
theorem d_M_sign_4 : decode b_M_sign 4 = .ok (.invokevirtual 144, 3) := by decide +kernel
theorem d_M_sign_7 : decode b_M_sign 7 = .ok (.ifCond .eq 6, 3) := by decide +kernel
theorem d_M_sign_10 : decode b_M_sign 10 = .ok (.bipush (-2), 2) := by decide +kernel
theorem d_M_sign_12 : decode b_M_sign 12 = .ok (.ireturn, 1) := by decide +kernel
theorem d_M_sign_13 : decode b_M_sign 13 = .ok (.aload_n 0, 1) := by decide +kernel
theorem d_M_sign_14 : decode b_M_sign 14 = .ok (.getfield 16, 3) := by decide +kernel
theorem d_M_sign_17 : decode b_M_sign 17 = .ok (.aload_n 0, 1) := by decide +kernel
theorem d_M_sign_18 : decode b_M_sign 18 = .ok (.iload_n 1, 1) := by decide +kernel
theorem d_M_sign_19 : decode b_M_sign 19 = .ok (.iload_n 2, 1) := by decide +kernel
theorem d_M_sign_20 : decode b_M_sign 20 = .ok (.iload_n 3, 1) := by decide +kernel
theorem d_M_sign_21 : decode b_M_sign 21 = .ok (.invokevirtual 147, 3) := by decide +kernel
theorem d_M_sign_24 : decode b_M_sign 24 = .ok (.iaload, 1) := by decide +kernel
theorem d_M_sign_25 : decode b_M_sign 25 = .ok (.ireturn, 1) := by decide +kernel
theorem d_M_lowest_0 : decode b_M_lowest 0 = .ok (.aload_n 0, 1) := by decide +kernel
theorem d_M_lowest_1 : decode b_M_lowest 1 = .ok (.bipush 96, 2) := by decide +kernel
theorem d_M_lowest_3 : decode b_M_lowest 3 = .ok (.aload_n 0, 1) := by decide +kernel
theorem d_M_lowest_4 : decode b_M_lowest 4 = .ok (.iload_n 1, 1) := by decide +kernel
theorem d_M_lowest_5 : decode b_M_lowest 5 = .ok (.iload_n 2, 1) := by decide +kernel
theorem d_M_lowest_6 : decode b_M_lowest 6 = .ok (.iload_n 3, 1) := by decide +kernel
theorem d_M_lowest_7 : decode b_M_lowest 7 = .ok (.invokevirtual 147, 3) := by decide +kernel
theorem d_M_lowest_10 : decode b_M_lowest 10 = .ok (.invokevirtual 78, 3) := by decide +kernel
theorem d_M_lowest_13 : decode b_M_lowest 13 = .ok (.aload_n 0, 1) := by decide +kernel
theorem d_M_lowest_14 : decode b_M_lowest 14 = .ok (.bipush 97, 2) := by decide +kernel
theorem d_M_lowest_16 : decode b_M_lowest 16 = .ok (.aload_n 0, 1) := by decide +kernel
theorem d_M_lowest_17 : decode b_M_lowest 17 = .ok (.iload_n 1, 1) := by decide +kernel
theorem d_M_lowest_18 : decode b_M_lowest 18 = .ok (.iload_n 2, 1) := by decide +kernel
theorem d_M_lowest_19 : decode b_M_lowest 19 = .ok (.iload_n 3, 1) := by decide +kernel
theorem d_M_lowest_20 : decode b_M_lowest 20 = .ok (.invokevirtual 151, 3) := by decide +kernel
theorem d_M_lowest_23 : decode b_M_lowest 23 = .ok (.invokevirtual 78, 3) := by decide +kernel
theorem d_M_lowest_26 : decode b_M_lowest 26 = .ok (.aload_n 0, 1) := by decide +kernel
theorem d_M_lowest_27 : decode b_M_lowest 27 = .ok (.bipush 96, 2) := by decide +kernel
theorem d_M_lowest_29 : decode b_M_lowest 29 = .ok (.iconst 2, 1) := by decide +kernel
theorem d_M_lowest_30 : decode b_M_lowest 30 = .ok (.invokevirtual 123, 3) := by decide +kernel
theorem d_M_lowest_33 : decode b_M_lowest 33 = .ok (.iload 4, 2) := by decide +kernel
theorem d_M_lowest_35 : decode b_M_lowest 35 = .ok (.ifCond .eq 8, 3) := by decide +kernel
theorem d_M_lowest_38 : decode b_M_lowest 38 = .ok (.bipush 97, 2) := by decide +kernel
theorem d_M_lowest_40 : decode b_M_lowest 40 = .ok (.goto 5, 3) := by decide +kernel
theorem d_M_lowest_43 : decode b_M_lowest 43 = .ok (.bipush 96, 2) := by decide +kernel
theorem d_M_lowest_45 : decode b_M_lowest 45 = .ok (.ireturn, 1) := by decide +kernel
theorem d_M_bits_0 : decode b_M_bits 0 = .ok (.aload_n 0, 1) := by decide +kernel
theorem d_M_bits_1 : decode b_M_bits 1 = .ok (.iload_n 1, 1) := by decide +kernel
theorem d_M_bits_2 : decode b_M_bits 2 = .ok (.iload_n 2, 1) := by decide +kernel
theorem d_M_bits_3 : decode b_M_bits 3 = .ok (.iload_n 3, 1) := by decide +kernel
theorem d_M_bits_4 : decode b_M_bits 4 = .ok (.invokevirtual 144, 3) := by decide +kernel
theorem d_M_bits_7 : decode b_M_bits 7 = .ok (.ifCond .eq 6, 3) := by decide +kernel
theorem d_M_bits_10 : decode b_M_bits 10 = .ok (.bipush (-2), 2) := by decide +kernel
theorem d_M_bits_12 : decode b_M_bits 12 = .ok (.ireturn, 1) := by decide +kernel
theorem d_M_bits_13 : decode b_M_bits 13 = .ok (.aload_n 0, 1) := by decide +kernel
theorem d_M_bits_14 : decode b_M_bits 14 = .ok (.iload_n 1, 1) := by decide +kernel
theorem d_M_bits_15 : decode b_M_bits 15 = .ok (.iload_n 2, 1) := by decide +kernel
theorem d_M_bits_16 : decode b_M_bits 16 = .ok (.iload_n 3, 1) := by decide +kernel
theorem d_M_bits_17 : decode b_M_bits 17 = .ok (.iload 4, 2) := by decide +kernel
theorem d_M_bits_19 : decode b_M_bits 19 = .ok (.invokevirtual 154, 3) := by decide +kernel
theorem d_M_bits_22 : decode b_M_bits 22 = .ok (.istore 5, 2) := by decide +kernel
theorem d_M_bits_24 : decode b_M_bits 24 = .ok (.bipush 16, 2) := by decide +kernel
theorem d_M_bits_26 : decode b_M_bits 26 = .ok (.aload_n 0, 1) := by decide +kernel
theorem d_M_bits_27 : decode b_M_bits 27 = .ok (.getfield 13, 3) := by decide +kernel
theorem d_M_bits_30 : decode b_M_bits 30 = .ok (.iload 5, 2) := by decide +kernel
theorem d_M_bits_32 : decode b_M_bits 32 = .ok (.iaload, 1) := by decide +kernel
theorem d_M_bits_33 : decode b_M_bits 33 = .ok (.imul, 1) := by decide +kernel
theorem d_M_bits_34 : decode b_M_bits 34 = .ok (.istore 6, 2) := by decide +kernel
theorem d_M_bits_36 : decode b_M_bits 36 = .ok (.iload 6, 2) := by decide +kernel
theorem d_M_bits_38 : decode b_M_bits 38 = .ok (.ifCond .le 40, 3) := by decide +kernel
theorem d_M_bits_41 : decode b_M_bits 41 = .ok (.aload_n 0, 1) := by decide +kernel
theorem d_M_bits_42 : decode b_M_bits 42 = .ok (.getfield 7, 3) := by decide +kernel
theorem d_M_bits_45 : decode b_M_bits 45 = .ok (.bipush 110, 2) := by decide +kernel
theorem d_M_bits_47 : decode b_M_bits 47 = .ok (.iload 5, 2) := by decide +kernel
theorem d_M_bits_49 : decode b_M_bits 49 = .ok (.imul, 1) := by decide +kernel
theorem d_M_bits_50 : decode b_M_bits 50 = .ok (.iload 6, 2) := by decide +kernel
theorem d_M_bits_52 : decode b_M_bits 52 = .ok (.iconst 1, 1) := by decide +kernel
theorem d_M_bits_53 : decode b_M_bits 53 = .ok (.isub, 1) := by decide +kernel
theorem d_M_bits_54 : decode b_M_bits 54 = .ok (.bipush 16, 2) := by decide +kernel
theorem d_M_bits_56 : decode b_M_bits 56 = .ok (.idiv, 1) := by decide +kernel
theorem d_M_bits_57 : decode b_M_bits 57 = .ok (.iadd, 1) := by decide +kernel
theorem d_M_bits_58 : decode b_M_bits 58 = .ok (.iaload, 1) := by decide +kernel
theorem d_M_bits_59 : decode b_M_bits 59 = .ok (.iload 6, 2) := by decide +kernel
theorem d_M_bits_61 : decode b_M_bits 61 = .ok (.iconst 1, 1) := by decide +kernel
theorem d_M_bits_62 : decode b_M_bits 62 = .ok (.isub, 1) := by decide +kernel
theorem d_M_bits_63 : decode b_M_bits 63 = .ok (.bipush 16, 2) := by decide +kernel
theorem d_M_bits_65 : decode b_M_bits 65 = .ok (.irem, 1) := by decide +kernel
theorem d_M_bits_66 : decode b_M_bits 66 = .ok (.ishr, 1) := by decide +kernel
theorem d_M_bits_67 : decode b_M_bits 67 = .ok (.iconst 1, 1) := by decide +kernel
theorem d_M_bits_68 : decode b_M_bits 68 = .ok (.iand, 1) := by decide +kernel
theorem d_M_bits_69 : decode b_M_bits 69 = .ok (.ifCond .ne 9, 3) := by decide +kernel
theorem d_M_bits_72 : decode b_M_bits 72 = .ok (.iinc 6 (-1), 3) := by decide +kernel
theorem d_M_bits_75 : decode b_M_bits 75 = .ok (.goto (-39), 3) := by decide +kernel
theorem d_M_bits_78 : decode b_M_bits 78 = .ok (.iload 6, 2) := by decide +kernel
theorem d_M_bits_80 : decode b_M_bits 80 = .ok (.ireturn, 1) := by decide +kernel
theorem d_M_word_0 : decode b_M_word 0 = .ok (.aload_n 0, 1) := by decide +kernel
theorem d_M_word_1 : decode b_M_word 1 = .ok (.iload_n 1, 1) := by decide +kernel
theorem d_M_word_2 : decode b_M_word 2 = .ok (.iload_n 2, 1) := by decide +kernel
theorem d_M_word_3 : decode b_M_word 3 = .ok (.iload_n 3, 1) := by decide +kernel
theorem d_M_word_4 : decode b_M_word 4 = .ok (.invokevirtual 144, 3) := by decide +kernel
theorem d_M_word_7 : decode b_M_word 7 = .ok (.ifCond .eq 7, 3) := by decide +kernel
theorem d_M_word_10 : decode b_M_word 10 = .ok (.ldc2_w 158, 3) := by decide +kernel
theorem d_M_word_13 : decode b_M_word 13 = .ok (.lreturn, 1) := by decide +kernel
theorem d_M_word_14 : decode b_M_word 14 = .ok (.iload 5, 2) := by decide +kernel
theorem d_M_word_16 : decode b_M_word 16 = .ok (.ifCond .lt 10, 3) := by decide +kernel
theorem d_M_word_19 : decode b_M_word 19 = .ok (.iload 5, 2) := by decide +kernel
theorem d_M_word_21 : decode b_M_word 21 = .ok (.bipush 31, 2) := by decide +kernel
theorem d_M_word_23 : decode b_M_word 23 = .ok (.if_icmp .le 7, 3) := by decide +kernel
theorem d_M_word_26 : decode b_M_word 26 = .ok (.ldc2_w 160, 3) := by decide +kernel
theorem d_M_word_29 : decode b_M_word 29 = .ok (.lreturn, 1) := by decide +kernel
theorem d_M_word_30 : decode b_M_word 30 = .ok (.aload_n 0, 1) := by decide +kernel
theorem d_M_word_31 : decode b_M_word 31 = .ok (.iload_n 1, 1) := by decide +kernel
theorem d_M_word_32 : decode b_M_word 32 = .ok (.iload_n 2, 1) := by decide +kernel
theorem d_M_word_33 : decode b_M_word 33 = .ok (.iload_n 3, 1) := by decide +kernel
theorem d_M_word_34 : decode b_M_word 34 = .ok (.iload 4, 2) := by decide +kernel
theorem d_M_word_36 : decode b_M_word 36 = .ok (.invokevirtual 154, 3) := by decide +kernel
theorem d_M_word_39 : decode b_M_word 39 = .ok (.istore 6, 2) := by decide +kernel
theorem d_M_word_41 : decode b_M_word 41 = .ok (.aload_n 0, 1) := by decide +kernel
theorem d_M_word_42 : decode b_M_word 42 = .ok (.iload 6, 2) := by decide +kernel
theorem d_M_word_44 : decode b_M_word 44 = .ok (.iconst 2, 1) := by decide +kernel
theorem d_M_word_45 : decode b_M_word 45 = .ok (.iload 5, 2) := by decide +kernel
theorem d_M_word_47 : decode b_M_word 47 = .ok (.imul, 1) := by decide +kernel
theorem d_M_word_48 : decode b_M_word 48 = .ok (.invokevirtual 40, 3) := by decide +kernel
theorem d_M_word_51 : decode b_M_word 51 = .ok (.i2l, 1) := by decide +kernel
theorem d_M_word_52 : decode b_M_word 52 = .ok (.ldc2_w 62, 3) := by decide +kernel
theorem d_M_word_55 : decode b_M_word 55 = .ok (.aload_n 0, 1) := by decide +kernel
theorem d_M_word_56 : decode b_M_word 56 = .ok (.iload 6, 2) := by decide +kernel
theorem d_M_word_58 : decode b_M_word 58 = .ok (.iconst 2, 1) := by decide +kernel
theorem d_M_word_59 : decode b_M_word 59 = .ok (.iload 5, 2) := by decide +kernel
theorem d_M_word_61 : decode b_M_word 61 = .ok (.imul, 1) := by decide +kernel
theorem d_M_word_62 : decode b_M_word 62 = .ok (.iconst 1, 1) := by decide +kernel
theorem d_M_word_63 : decode b_M_word 63 = .ok (.iadd, 1) := by decide +kernel
theorem d_M_word_64 : decode b_M_word 64 = .ok (.invokevirtual 40, 3) := by decide +kernel
theorem d_M_word_67 : decode b_M_word 67 = .ok (.i2l, 1) := by decide +kernel
theorem d_M_word_68 : decode b_M_word 68 = .ok (.lmul, 1) := by decide +kernel
theorem d_M_word_69 : decode b_M_word 69 = .ok (.ladd, 1) := by decide +kernel
theorem d_M_word_70 : decode b_M_word 70 = .ok (.lreturn, 1) := by decide +kernel
theorem d_M_compare_0 : decode b_M_compare 0 = .ok (.aload_n 0, 1) := by decide +kernel
theorem d_M_compare_1 : decode b_M_compare 1 = .ok (.iload_n 1, 1) := by decide +kernel
theorem d_M_compare_2 : decode b_M_compare 2 = .ok (.iload_n 2, 1) := by decide +kernel
theorem d_M_compare_3 : decode b_M_compare 3 = .ok (.iload_n 3, 1) := by decide +kernel
theorem d_M_compare_4 : decode b_M_compare 4 = .ok (.invokevirtual 144, 3) := by decide +kernel
theorem d_M_compare_7 : decode b_M_compare 7 = .ok (.ifCond .eq 6, 3) := by decide +kernel
theorem d_M_compare_10 : decode b_M_compare 10 = .ok (.bipush (-2), 2) := by decide +kernel
theorem d_M_compare_12 : decode b_M_compare 12 = .ok (.ireturn, 1) := by decide +kernel
theorem d_M_compare_13 : decode b_M_compare 13 = .ok (.iload 5, 2) := by decide +kernel
theorem d_M_compare_15 : decode b_M_compare 15 = .ok (.iconst 1, 1) := by decide +kernel
theorem d_M_compare_16 : decode b_M_compare 16 = .ok (.if_icmp .ge 6, 3) := by decide +kernel
theorem d_M_compare_19 : decode b_M_compare 19 = .ok (.bipush (-3), 2) := by decide +kernel
theorem d_M_compare_21 : decode b_M_compare 21 = .ok (.ireturn, 1) := by decide +kernel
theorem d_M_compare_22 : decode b_M_compare 22 = .ok (.aload_n 0, 1) := by decide +kernel
theorem d_M_compare_23 : decode b_M_compare 23 = .ok (.bipush 96, 2) := by decide +kernel
theorem d_M_compare_25 : decode b_M_compare 25 = .ok (.aload_n 0, 1) := by decide +kernel
theorem d_M_compare_26 : decode b_M_compare 26 = .ok (.iload_n 1, 1) := by decide +kernel
theorem d_M_compare_27 : decode b_M_compare 27 = .ok (.iload_n 2, 1) := by decide +kernel
theorem d_M_compare_28 : decode b_M_compare 28 = .ok (.iload_n 3, 1) := by decide +kernel
theorem d_M_compare_29 : decode b_M_compare 29 = .ok (.invokevirtual 147, 3) := by decide +kernel
theorem d_M_compare_32 : decode b_M_compare 32 = .ok (.iload 5, 2) := by decide +kernel
theorem d_M_compare_34 : decode b_M_compare 34 = .ok (.invokevirtual 52, 3) := by decide +kernel
theorem d_M_compare_37 : decode b_M_compare 37 = .ok (.aload_n 0, 1) := by decide +kernel
theorem d_M_compare_38 : decode b_M_compare 38 = .ok (.bipush 97, 2) := by decide +kernel
theorem d_M_compare_40 : decode b_M_compare 40 = .ok (.aload_n 0, 1) := by decide +kernel
theorem d_M_compare_41 : decode b_M_compare 41 = .ok (.iload_n 1, 1) := by decide +kernel
theorem d_M_compare_42 : decode b_M_compare 42 = .ok (.iload_n 2, 1) := by decide +kernel
theorem d_M_compare_43 : decode b_M_compare 43 = .ok (.iload_n 3, 1) := by decide +kernel
theorem d_M_compare_44 : decode b_M_compare 44 = .ok (.invokevirtual 151, 3) := by decide +kernel
theorem d_M_compare_47 : decode b_M_compare 47 = .ok (.iload 4, 2) := by decide +kernel
theorem d_M_compare_49 : decode b_M_compare 49 = .ok (.invokevirtual 52, 3) := by decide +kernel
theorem d_M_compare_52 : decode b_M_compare 52 = .ok (.aload_n 0, 1) := by decide +kernel
theorem d_M_compare_53 : decode b_M_compare 53 = .ok (.bipush 96, 2) := by decide +kernel
theorem d_M_compare_55 : decode b_M_compare 55 = .ok (.bipush 96, 2) := by decide +kernel
theorem d_M_compare_57 : decode b_M_compare 57 = .ok (.bipush 97, 2) := by decide +kernel
theorem d_M_compare_59 : decode b_M_compare 59 = .ok (.iconst (-1), 1) := by decide +kernel
theorem d_M_compare_60 : decode b_M_compare 60 = .ok (.invokevirtual 55, 3) := by decide +kernel
theorem d_M_compare_63 : decode b_M_compare 63 = .ok (.aload_n 0, 1) := by decide +kernel
theorem d_M_compare_64 : decode b_M_compare 64 = .ok (.getfield 16, 3) := by decide +kernel
theorem d_M_compare_67 : decode b_M_compare 67 = .ok (.bipush 96, 2) := by decide +kernel
theorem d_M_compare_69 : decode b_M_compare 69 = .ok (.iaload, 1) := by decide +kernel
theorem d_M_compare_70 : decode b_M_compare 70 = .ok (.ireturn, 1) := by decide +kernel
theorem d_B_init_0 : decode b_B_init 0 = .ok (.aload_n 0, 1) := by decide +kernel
theorem d_B_init_1 : decode b_B_init 1 = .ok (.invokespecial 1, 3) := by decide +kernel
theorem d_B_init_4 : decode b_B_init 4 = .ok (.aload_n 0, 1) := by decide +kernel
theorem d_B_init_5 : decode b_B_init 5 = .ok (.new 7, 3) := by decide +kernel
theorem d_B_init_8 : decode b_B_init 8 = .ok (.dup, 1) := by decide +kernel
theorem d_B_init_9 : decode b_B_init 9 = .ok (.invokespecial 9, 3) := by decide +kernel
theorem d_B_init_12 : decode b_B_init 12 = .ok (.putfield 10, 3) := by decide +kernel
theorem d_B_init_15 : decode b_B_init 15 = .ok (.aload_n 0, 1) := by decide +kernel
theorem d_B_init_16 : decode b_B_init 16 = .ok (.new 7, 3) := by decide +kernel
theorem d_B_init_19 : decode b_B_init 19 = .ok (.dup, 1) := by decide +kernel
theorem d_B_init_20 : decode b_B_init 20 = .ok (.invokespecial 9, 3) := by decide +kernel
theorem d_B_init_23 : decode b_B_init 23 = .ok (.putfield 16, 3) := by decide +kernel
theorem d_B_init_26 : decode b_B_init 26 = .ok (.aload_n 0, 1) := by decide +kernel
theorem d_B_init_27 : decode b_B_init 27 = .ok (.new 7, 3) := by decide +kernel
theorem d_B_init_30 : decode b_B_init 30 = .ok (.dup, 1) := by decide +kernel
theorem d_B_init_31 : decode b_B_init 31 = .ok (.invokespecial 9, 3) := by decide +kernel
theorem d_B_init_34 : decode b_B_init 34 = .ok (.putfield 19, 3) := by decide +kernel
theorem d_B_init_37 : decode b_B_init 37 = .ok (.aload_n 0, 1) := by decide +kernel
theorem d_B_init_38 : decode b_B_init 38 = .ok (.new 7, 3) := by decide +kernel
theorem d_B_init_41 : decode b_B_init 41 = .ok (.dup, 1) := by decide +kernel
theorem d_B_init_42 : decode b_B_init 42 = .ok (.invokespecial 9, 3) := by decide +kernel
theorem d_B_init_45 : decode b_B_init 45 = .ok (.putfield 22, 3) := by decide +kernel
theorem d_B_init_48 : decode b_B_init 48 = .ok (.aload_n 0, 1) := by decide +kernel
theorem d_B_init_49 : decode b_B_init 49 = .ok (.new 7, 3) := by decide +kernel
theorem d_B_init_52 : decode b_B_init 52 = .ok (.dup, 1) := by decide +kernel
theorem d_B_init_53 : decode b_B_init 53 = .ok (.invokespecial 9, 3) := by decide +kernel
theorem d_B_init_56 : decode b_B_init 56 = .ok (.putfield 25, 3) := by decide +kernel
theorem d_B_init_59 : decode b_B_init 59 = .ok (.aload_n 0, 1) := by decide +kernel
theorem d_B_init_60 : decode b_B_init 60 = .ok (.new 7, 3) := by decide +kernel
theorem d_B_init_63 : decode b_B_init 63 = .ok (.dup, 1) := by decide +kernel
theorem d_B_init_64 : decode b_B_init 64 = .ok (.invokespecial 9, 3) := by decide +kernel
theorem d_B_init_67 : decode b_B_init 67 = .ok (.putfield 28, 3) := by decide +kernel
theorem d_B_init_70 : decode b_B_init 70 = .ok (.aload_n 0, 1) := by decide +kernel
theorem d_B_init_71 : decode b_B_init 71 = .ok (.new 7, 3) := by decide +kernel
theorem d_B_init_74 : decode b_B_init 74 = .ok (.dup, 1) := by decide +kernel
theorem d_B_init_75 : decode b_B_init 75 = .ok (.invokespecial 9, 3) := by decide +kernel
theorem d_B_init_78 : decode b_B_init 78 = .ok (.putfield 31, 3) := by decide +kernel
theorem d_B_init_81 : decode b_B_init 81 = .ok (.aload_n 0, 1) := by decide +kernel
theorem d_B_init_82 : decode b_B_init 82 = .ok (.new 7, 3) := by decide +kernel
theorem d_B_init_85 : decode b_B_init 85 = .ok (.dup, 1) := by decide +kernel
theorem d_B_init_86 : decode b_B_init 86 = .ok (.invokespecial 9, 3) := by decide +kernel
theorem d_B_init_89 : decode b_B_init 89 = .ok (.putfield 34, 3) := by decide +kernel
theorem d_B_init_92 : decode b_B_init 92 = .ok (.aload_n 0, 1) := by decide +kernel
theorem d_B_init_93 : decode b_B_init 93 = .ok (.new 7, 3) := by decide +kernel
theorem d_B_init_96 : decode b_B_init 96 = .ok (.dup, 1) := by decide +kernel
theorem d_B_init_97 : decode b_B_init 97 = .ok (.invokespecial 9, 3) := by decide +kernel
theorem d_B_init_100 : decode b_B_init 100 = .ok (.putfield 37, 3) := by decide +kernel
theorem d_B_init_103 : decode b_B_init 103 = .ok (.return_, 1) := by decide +kernel
theorem d_B_setBlank_0 : decode b_B_setBlank 0 = .ok (.aload_n 0, 1) := by decide +kernel
theorem d_B_setBlank_1 : decode b_B_setBlank 1 = .ok (.getfield 10, 3) := by decide +kernel
theorem d_B_setBlank_4 : decode b_B_setBlank 4 = .ok (.iconst 1, 1) := by decide +kernel
theorem d_B_setBlank_5 : decode b_B_setBlank 5 = .ok (.invokevirtual 40, 3) := by decide +kernel
theorem d_B_setBlank_8 : decode b_B_setBlank 8 = .ok (.aload_n 0, 1) := by decide +kernel
theorem d_B_setBlank_9 : decode b_B_setBlank 9 = .ok (.getfield 16, 3) := by decide +kernel
theorem d_B_setBlank_12 : decode b_B_setBlank 12 = .ok (.iconst 0, 1) := by decide +kernel
theorem d_B_setBlank_13 : decode b_B_setBlank 13 = .ok (.invokevirtual 40, 3) := by decide +kernel
theorem d_B_setBlank_16 : decode b_B_setBlank 16 = .ok (.aload_n 0, 1) := by decide +kernel
theorem d_B_setBlank_17 : decode b_B_setBlank 17 = .ok (.getfield 19, 3) := by decide +kernel
theorem d_B_setBlank_20 : decode b_B_setBlank 20 = .ok (.iconst 0, 1) := by decide +kernel
theorem d_B_setBlank_21 : decode b_B_setBlank 21 = .ok (.invokevirtual 40, 3) := by decide +kernel
theorem d_B_setBlank_24 : decode b_B_setBlank 24 = .ok (.aload_n 0, 1) := by decide +kernel
theorem d_B_setBlank_25 : decode b_B_setBlank 25 = .ok (.getfield 22, 3) := by decide +kernel
theorem d_B_setBlank_28 : decode b_B_setBlank 28 = .ok (.iconst 0, 1) := by decide +kernel
theorem d_B_setBlank_29 : decode b_B_setBlank 29 = .ok (.invokevirtual 40, 3) := by decide +kernel
theorem d_B_setBlank_32 : decode b_B_setBlank 32 = .ok (.aload_n 0, 1) := by decide +kernel
theorem d_B_setBlank_33 : decode b_B_setBlank 33 = .ok (.getfield 25, 3) := by decide +kernel
theorem d_B_setBlank_36 : decode b_B_setBlank 36 = .ok (.iconst 0, 1) := by decide +kernel
theorem d_B_setBlank_37 : decode b_B_setBlank 37 = .ok (.invokevirtual 40, 3) := by decide +kernel
theorem d_B_setBlank_40 : decode b_B_setBlank 40 = .ok (.aload_n 0, 1) := by decide +kernel
theorem d_B_setBlank_41 : decode b_B_setBlank 41 = .ok (.getfield 28, 3) := by decide +kernel
theorem d_B_setBlank_44 : decode b_B_setBlank 44 = .ok (.iconst 0, 1) := by decide +kernel
theorem d_B_setBlank_45 : decode b_B_setBlank 45 = .ok (.invokevirtual 40, 3) := by decide +kernel
theorem d_B_setBlank_48 : decode b_B_setBlank 48 = .ok (.aload_n 0, 1) := by decide +kernel
theorem d_B_setBlank_49 : decode b_B_setBlank 49 = .ok (.getfield 31, 3) := by decide +kernel
theorem d_B_setBlank_52 : decode b_B_setBlank 52 = .ok (.iconst 0, 1) := by decide +kernel
theorem d_B_setBlank_53 : decode b_B_setBlank 53 = .ok (.invokevirtual 40, 3) := by decide +kernel
theorem d_B_setBlank_56 : decode b_B_setBlank 56 = .ok (.aload_n 0, 1) := by decide +kernel
theorem d_B_setBlank_57 : decode b_B_setBlank 57 = .ok (.getfield 34, 3) := by decide +kernel
theorem d_B_setBlank_60 : decode b_B_setBlank 60 = .ok (.iconst 0, 1) := by decide +kernel
theorem d_B_setBlank_61 : decode b_B_setBlank 61 = .ok (.invokevirtual 40, 3) := by decide +kernel
theorem d_B_setBlank_64 : decode b_B_setBlank 64 = .ok (.aload_n 0, 1) := by decide +kernel
theorem d_B_setBlank_65 : decode b_B_setBlank 65 = .ok (.getfield 37, 3) := by decide +kernel
theorem d_B_setBlank_68 : decode b_B_setBlank 68 = .ok (.iconst 0, 1) := by decide +kernel
theorem d_B_setBlank_69 : decode b_B_setBlank 69 = .ok (.invokevirtual 40, 3) := by decide +kernel
theorem d_B_setBlank_72 : decode b_B_setBlank 72 = .ok (.return_, 1) := by decide +kernel
theorem d_B_setEstimate_0 : decode b_B_setEstimate 0 = .ok (.aload_n 0, 1) := by decide +kernel
theorem d_B_setEstimate_1 : decode b_B_setEstimate 1 = .ok (.getfield 10, 3) := by decide +kernel
theorem d_B_setEstimate_4 : decode b_B_setEstimate 4 = .ok (.iload_n 3, 1) := by decide +kernel
theorem d_B_setEstimate_5 : decode b_B_setEstimate 5 = .ok (.iload 5, 2) := by decide +kernel
theorem d_B_setEstimate_7 : decode b_B_setEstimate 7 = .ok (.imul, 1) := by decide +kernel
theorem d_B_setEstimate_8 : decode b_B_setEstimate 8 = .ok (.iload 4, 2) := by decide +kernel
theorem d_B_setEstimate_10 : decode b_B_setEstimate 10 = .ok (.iload 4, 2) := by decide +kernel
theorem d_B_setEstimate_12 : decode b_B_setEstimate 12 = .ok (.imul, 1) := by decide +kernel
theorem d_B_setEstimate_13 : decode b_B_setEstimate 13 = .ok (.isub, 1) := by decide +kernel
theorem d_B_setEstimate_14 : decode b_B_setEstimate 14 = .ok (.invokevirtual 40, 3) := by decide +kernel
theorem d_B_setEstimate_17 : decode b_B_setEstimate 17 = .ok (.aload_n 0, 1) := by decide +kernel
theorem d_B_setEstimate_18 : decode b_B_setEstimate 18 = .ok (.getfield 16, 3) := by decide +kernel
theorem d_B_setEstimate_21 : decode b_B_setEstimate 21 = .ok (.iload 5, 2) := by decide +kernel
theorem d_B_setEstimate_23 : decode b_B_setEstimate 23 = .ok (.invokevirtual 40, 3) := by decide +kernel
theorem d_B_setEstimate_26 : decode b_B_setEstimate 26 = .ok (.aload_n 0, 1) := by decide +kernel
theorem d_B_setEstimate_27 : decode b_B_setEstimate 27 = .ok (.getfield 19, 3) := by decide +kernel
theorem d_B_setEstimate_30 : decode b_B_setEstimate 30 = .ok (.iload 4, 2) := by decide +kernel
theorem d_B_setEstimate_32 : decode b_B_setEstimate 32 = .ok (.ineg, 1) := by decide +kernel
theorem d_B_setEstimate_33 : decode b_B_setEstimate 33 = .ok (.invokevirtual 40, 3) := by decide +kernel
theorem d_B_setEstimate_36 : decode b_B_setEstimate 36 = .ok (.aload_n 0, 1) := by decide +kernel
theorem d_B_setEstimate_37 : decode b_B_setEstimate 37 = .ok (.getfield 22, 3) := by decide +kernel
theorem d_B_setEstimate_40 : decode b_B_setEstimate 40 = .ok (.iload_n 3, 1) := by decide +kernel
theorem d_B_setEstimate_41 : decode b_B_setEstimate 41 = .ok (.invokevirtual 40, 3) := by decide +kernel
theorem d_B_setEstimate_44 : decode b_B_setEstimate 44 = .ok (.aload_n 0, 1) := by decide +kernel
theorem d_B_setEstimate_45 : decode b_B_setEstimate 45 = .ok (.getfield 25, 3) := by decide +kernel
theorem d_B_setEstimate_48 : decode b_B_setEstimate 48 = .ok (.iconst 1, 1) := by decide +kernel
theorem d_B_setEstimate_49 : decode b_B_setEstimate 49 = .ok (.invokevirtual 40, 3) := by decide +kernel
theorem d_B_setEstimate_52 : decode b_B_setEstimate 52 = .ok (.aload_n 0, 1) := by decide +kernel
theorem d_B_setEstimate_53 : decode b_B_setEstimate 53 = .ok (.getfield 28, 3) := by decide +kernel
theorem d_B_setEstimate_56 : decode b_B_setEstimate 56 = .ok (.iload 5, 2) := by decide +kernel
theorem d_B_setEstimate_58 : decode b_B_setEstimate 58 = .ok (.iload_n 1, 1) := by decide +kernel
theorem d_B_setEstimate_59 : decode b_B_setEstimate 59 = .ok (.imul, 1) := by decide +kernel
theorem d_B_setEstimate_60 : decode b_B_setEstimate 60 = .ok (.iload 4, 2) := by decide +kernel
theorem d_B_setEstimate_62 : decode b_B_setEstimate 62 = .ok (.iload_n 2, 1) := by decide +kernel
theorem d_B_setEstimate_63 : decode b_B_setEstimate 63 = .ok (.imul, 1) := by decide +kernel
theorem d_B_setEstimate_64 : decode b_B_setEstimate 64 = .ok (.isub, 1) := by decide +kernel
theorem d_B_setEstimate_65 : decode b_B_setEstimate 65 = .ok (.invokevirtual 40, 3) := by decide +kernel
theorem d_B_setEstimate_68 : decode b_B_setEstimate 68 = .ok (.aload_n 0, 1) := by decide +kernel
theorem d_B_setEstimate_69 : decode b_B_setEstimate 69 = .ok (.getfield 31, 3) := by decide +kernel
theorem d_B_setEstimate_72 : decode b_B_setEstimate 72 = .ok (.iload_n 3, 1) := by decide +kernel
theorem d_B_setEstimate_73 : decode b_B_setEstimate 73 = .ok (.iload_n 2, 1) := by decide +kernel
theorem d_B_setEstimate_74 : decode b_B_setEstimate 74 = .ok (.imul, 1) := by decide +kernel
theorem d_B_setEstimate_75 : decode b_B_setEstimate 75 = .ok (.iload 4, 2) := by decide +kernel
theorem d_B_setEstimate_77 : decode b_B_setEstimate 77 = .ok (.iload_n 1, 1) := by decide +kernel
theorem d_B_setEstimate_78 : decode b_B_setEstimate 78 = .ok (.imul, 1) := by decide +kernel
theorem d_B_setEstimate_79 : decode b_B_setEstimate 79 = .ok (.isub, 1) := by decide +kernel
theorem d_B_setEstimate_80 : decode b_B_setEstimate 80 = .ok (.invokevirtual 40, 3) := by decide +kernel
theorem d_B_setEstimate_83 : decode b_B_setEstimate 83 = .ok (.aload_n 0, 1) := by decide +kernel
theorem d_B_setEstimate_84 : decode b_B_setEstimate 84 = .ok (.getfield 34, 3) := by decide +kernel
theorem d_B_setEstimate_87 : decode b_B_setEstimate 87 = .ok (.iload_n 1, 1) := by decide +kernel
theorem d_B_setEstimate_88 : decode b_B_setEstimate 88 = .ok (.invokevirtual 40, 3) := by decide +kernel
theorem d_B_setEstimate_91 : decode b_B_setEstimate 91 = .ok (.aload_n 0, 1) := by decide +kernel
theorem d_B_setEstimate_92 : decode b_B_setEstimate 92 = .ok (.getfield 37, 3) := by decide +kernel
theorem d_B_setEstimate_95 : decode b_B_setEstimate 95 = .ok (.iload_n 2, 1) := by decide +kernel
theorem d_B_setEstimate_96 : decode b_B_setEstimate 96 = .ok (.invokevirtual 40, 3) := by decide +kernel
theorem d_B_setEstimate_99 : decode b_B_setEstimate 99 = .ok (.return_, 1) := by decide +kernel
theorem d_B_copy_0 : decode b_B_copy 0 = .ok (.aload_n 0, 1) := by decide +kernel
theorem d_B_copy_1 : decode b_B_copy 1 = .ok (.getfield 10, 3) := by decide +kernel
theorem d_B_copy_4 : decode b_B_copy 4 = .ok (.aload_n 1, 1) := by decide +kernel
theorem d_B_copy_5 : decode b_B_copy 5 = .ok (.getfield 10, 3) := by decide +kernel
theorem d_B_copy_8 : decode b_B_copy 8 = .ok (.invokevirtual 44, 3) := by decide +kernel
theorem d_B_copy_11 : decode b_B_copy 11 = .ok (.aload_n 0, 1) := by decide +kernel
theorem d_B_copy_12 : decode b_B_copy 12 = .ok (.getfield 16, 3) := by decide +kernel
theorem d_B_copy_15 : decode b_B_copy 15 = .ok (.aload_n 1, 1) := by decide +kernel
theorem d_B_copy_16 : decode b_B_copy 16 = .ok (.getfield 16, 3) := by decide +kernel
theorem d_B_copy_19 : decode b_B_copy 19 = .ok (.invokevirtual 44, 3) := by decide +kernel
theorem d_B_copy_22 : decode b_B_copy 22 = .ok (.aload_n 0, 1) := by decide +kernel
theorem d_B_copy_23 : decode b_B_copy 23 = .ok (.getfield 19, 3) := by decide +kernel
theorem d_B_copy_26 : decode b_B_copy 26 = .ok (.aload_n 1, 1) := by decide +kernel
theorem d_B_copy_27 : decode b_B_copy 27 = .ok (.getfield 19, 3) := by decide +kernel
theorem d_B_copy_30 : decode b_B_copy 30 = .ok (.invokevirtual 44, 3) := by decide +kernel
theorem d_B_copy_33 : decode b_B_copy 33 = .ok (.aload_n 0, 1) := by decide +kernel
theorem d_B_copy_34 : decode b_B_copy 34 = .ok (.getfield 22, 3) := by decide +kernel
theorem d_B_copy_37 : decode b_B_copy 37 = .ok (.aload_n 1, 1) := by decide +kernel
theorem d_B_copy_38 : decode b_B_copy 38 = .ok (.getfield 22, 3) := by decide +kernel
theorem d_B_copy_41 : decode b_B_copy 41 = .ok (.invokevirtual 44, 3) := by decide +kernel
theorem d_B_copy_44 : decode b_B_copy 44 = .ok (.aload_n 0, 1) := by decide +kernel
theorem d_B_copy_45 : decode b_B_copy 45 = .ok (.getfield 25, 3) := by decide +kernel
theorem d_B_copy_48 : decode b_B_copy 48 = .ok (.aload_n 1, 1) := by decide +kernel
theorem d_B_copy_49 : decode b_B_copy 49 = .ok (.getfield 25, 3) := by decide +kernel
theorem d_B_copy_52 : decode b_B_copy 52 = .ok (.invokevirtual 44, 3) := by decide +kernel
theorem d_B_copy_55 : decode b_B_copy 55 = .ok (.aload_n 0, 1) := by decide +kernel
theorem d_B_copy_56 : decode b_B_copy 56 = .ok (.getfield 28, 3) := by decide +kernel
theorem d_B_copy_59 : decode b_B_copy 59 = .ok (.aload_n 1, 1) := by decide +kernel
theorem d_B_copy_60 : decode b_B_copy 60 = .ok (.getfield 28, 3) := by decide +kernel
theorem d_B_copy_63 : decode b_B_copy 63 = .ok (.invokevirtual 44, 3) := by decide +kernel
theorem d_B_copy_66 : decode b_B_copy 66 = .ok (.aload_n 0, 1) := by decide +kernel
theorem d_B_copy_67 : decode b_B_copy 67 = .ok (.getfield 31, 3) := by decide +kernel
theorem d_B_copy_70 : decode b_B_copy 70 = .ok (.aload_n 1, 1) := by decide +kernel
theorem d_B_copy_71 : decode b_B_copy 71 = .ok (.getfield 31, 3) := by decide +kernel
theorem d_B_copy_74 : decode b_B_copy 74 = .ok (.invokevirtual 44, 3) := by decide +kernel
theorem d_B_copy_77 : decode b_B_copy 77 = .ok (.aload_n 0, 1) := by decide +kernel
theorem d_B_copy_78 : decode b_B_copy 78 = .ok (.getfield 34, 3) := by decide +kernel
theorem d_B_copy_81 : decode b_B_copy 81 = .ok (.aload_n 1, 1) := by decide +kernel
theorem d_B_copy_82 : decode b_B_copy 82 = .ok (.getfield 34, 3) := by decide +kernel
theorem d_B_copy_85 : decode b_B_copy 85 = .ok (.invokevirtual 44, 3) := by decide +kernel
theorem d_B_copy_88 : decode b_B_copy 88 = .ok (.aload_n 0, 1) := by decide +kernel
theorem d_B_copy_89 : decode b_B_copy 89 = .ok (.getfield 37, 3) := by decide +kernel
theorem d_B_copy_92 : decode b_B_copy 92 = .ok (.aload_n 1, 1) := by decide +kernel
theorem d_B_copy_93 : decode b_B_copy 93 = .ok (.getfield 37, 3) := by decide +kernel
theorem d_B_copy_96 : decode b_B_copy 96 = .ok (.invokevirtual 44, 3) := by decide +kernel
theorem d_B_copy_99 : decode b_B_copy 99 = .ok (.return_, 1) := by decide +kernel
theorem d_B_learn_0 : decode b_B_learn 0 = .ok (.aload_n 1, 1) := by decide +kernel
theorem d_B_learn_1 : decode b_B_learn 1 = .ok (.getfield 48, 3) := by decide +kernel
theorem d_B_learn_4 : decode b_B_learn 4 = .ok (.istore_n 2, 1) := by decide +kernel
theorem d_B_learn_5 : decode b_B_learn 5 = .ok (.aload_n 1, 1) := by decide +kernel
theorem d_B_learn_6 : decode b_B_learn 6 = .ok (.getfield 54, 3) := by decide +kernel
theorem d_B_learn_9 : decode b_B_learn 9 = .ok (.istore_n 3, 1) := by decide +kernel
theorem d_B_learn_10 : decode b_B_learn 10 = .ok (.aload_n 1, 1) := by decide +kernel
theorem d_B_learn_11 : decode b_B_learn 11 = .ok (.getfield 57, 3) := by decide +kernel
theorem d_B_learn_14 : decode b_B_learn 14 = .ok (.istore 4, 2) := by decide +kernel
theorem d_B_learn_16 : decode b_B_learn 16 = .ok (.aload_n 1, 1) := by decide +kernel
theorem d_B_learn_17 : decode b_B_learn 17 = .ok (.getfield 60, 3) := by decide +kernel
theorem d_B_learn_20 : decode b_B_learn 20 = .ok (.istore 5, 2) := by decide +kernel
theorem d_B_learn_22 : decode b_B_learn 22 = .ok (.aload_n 0, 1) := by decide +kernel
theorem d_B_learn_23 : decode b_B_learn 23 = .ok (.getfield 34, 3) := by decide +kernel
theorem d_B_learn_26 : decode b_B_learn 26 = .ok (.iload 4, 2) := by decide +kernel
theorem d_B_learn_28 : decode b_B_learn 28 = .ok (.invokevirtual 63, 3) := by decide +kernel
theorem d_B_learn_31 : decode b_B_learn 31 = .ok (.aload_n 0, 1) := by decide +kernel
theorem d_B_learn_32 : decode b_B_learn 32 = .ok (.getfield 34, 3) := by decide +kernel
theorem d_B_learn_35 : decode b_B_learn 35 = .ok (.aload_n 0, 1) := by decide +kernel
theorem d_B_learn_36 : decode b_B_learn 36 = .ok (.getfield 22, 3) := by decide +kernel
theorem d_B_learn_39 : decode b_B_learn 39 = .ok (.iload 5, 2) := by decide +kernel
theorem d_B_learn_41 : decode b_B_learn 41 = .ok (.iload_n 2, 1) := by decide +kernel
theorem d_B_learn_42 : decode b_B_learn 42 = .ok (.imul, 1) := by decide +kernel
theorem d_B_learn_43 : decode b_B_learn 43 = .ok (.aload_n 0, 1) := by decide +kernel
theorem d_B_learn_44 : decode b_B_learn 44 = .ok (.getfield 19, 3) := by decide +kernel
theorem d_B_learn_47 : decode b_B_learn 47 = .ok (.iload 5, 2) := by decide +kernel
theorem d_B_learn_49 : decode b_B_learn 49 = .ok (.ineg, 1) := by decide +kernel
theorem d_B_learn_50 : decode b_B_learn 50 = .ok (.iload_n 3, 1) := by decide +kernel
theorem d_B_learn_51 : decode b_B_learn 51 = .ok (.imul, 1) := by decide +kernel
theorem d_B_learn_52 : decode b_B_learn 52 = .ok (.invokevirtual 66, 3) := by decide +kernel
theorem d_B_learn_55 : decode b_B_learn 55 = .ok (.aload_n 0, 1) := by decide +kernel
theorem d_B_learn_56 : decode b_B_learn 56 = .ok (.getfield 34, 3) := by decide +kernel
theorem d_B_learn_59 : decode b_B_learn 59 = .ok (.aload_n 0, 1) := by decide +kernel
theorem d_B_learn_60 : decode b_B_learn 60 = .ok (.getfield 28, 3) := by decide +kernel
theorem d_B_learn_63 : decode b_B_learn 63 = .ok (.iload_n 3, 1) := by decide +kernel
theorem d_B_learn_64 : decode b_B_learn 64 = .ok (.iload_n 3, 1) := by decide +kernel
theorem d_B_learn_65 : decode b_B_learn 65 = .ok (.imul, 1) := by decide +kernel
theorem d_B_learn_66 : decode b_B_learn 66 = .ok (.aload_n 0, 1) := by decide +kernel
theorem d_B_learn_67 : decode b_B_learn 67 = .ok (.getfield 31, 3) := by decide +kernel
theorem d_B_learn_70 : decode b_B_learn 70 = .ok (.iload_n 2, 1) := by decide +kernel
theorem d_B_learn_71 : decode b_B_learn 71 = .ok (.ineg, 1) := by decide +kernel
theorem d_B_learn_72 : decode b_B_learn 72 = .ok (.iload_n 3, 1) := by decide +kernel
theorem d_B_learn_73 : decode b_B_learn 73 = .ok (.imul, 1) := by decide +kernel
theorem d_B_learn_74 : decode b_B_learn 74 = .ok (.invokevirtual 66, 3) := by decide +kernel
theorem d_B_learn_77 : decode b_B_learn 77 = .ok (.aload_n 0, 1) := by decide +kernel
theorem d_B_learn_78 : decode b_B_learn 78 = .ok (.getfield 37, 3) := by decide +kernel
theorem d_B_learn_81 : decode b_B_learn 81 = .ok (.iload 4, 2) := by decide +kernel
theorem d_B_learn_83 : decode b_B_learn 83 = .ok (.invokevirtual 63, 3) := by decide +kernel
theorem d_B_learn_86 : decode b_B_learn 86 = .ok (.aload_n 0, 1) := by decide +kernel
theorem d_B_learn_87 : decode b_B_learn 87 = .ok (.getfield 37, 3) := by decide +kernel
theorem d_B_learn_90 : decode b_B_learn 90 = .ok (.aload_n 0, 1) := by decide +kernel
theorem d_B_learn_91 : decode b_B_learn 91 = .ok (.getfield 16, 3) := by decide +kernel
theorem d_B_learn_94 : decode b_B_learn 94 = .ok (.iload 5, 2) := by decide +kernel
theorem d_B_learn_96 : decode b_B_learn 96 = .ok (.iload_n 3, 1) := by decide +kernel
theorem d_B_learn_97 : decode b_B_learn 97 = .ok (.imul, 1) := by decide +kernel
theorem d_B_learn_98 : decode b_B_learn 98 = .ok (.aload_n 0, 1) := by decide +kernel
theorem d_B_learn_99 : decode b_B_learn 99 = .ok (.getfield 19, 3) := by decide +kernel
theorem d_B_learn_102 : decode b_B_learn 102 = .ok (.iload 5, 2) := by decide +kernel
theorem d_B_learn_104 : decode b_B_learn 104 = .ok (.ineg, 1) := by decide +kernel
theorem d_B_learn_105 : decode b_B_learn 105 = .ok (.iload_n 2, 1) := by decide +kernel
theorem d_B_learn_106 : decode b_B_learn 106 = .ok (.imul, 1) := by decide +kernel
theorem d_B_learn_107 : decode b_B_learn 107 = .ok (.invokevirtual 66, 3) := by decide +kernel
theorem d_B_learn_110 : decode b_B_learn 110 = .ok (.aload_n 0, 1) := by decide +kernel
theorem d_B_learn_111 : decode b_B_learn 111 = .ok (.getfield 37, 3) := by decide +kernel
theorem d_B_learn_114 : decode b_B_learn 114 = .ok (.aload_n 0, 1) := by decide +kernel
theorem d_B_learn_115 : decode b_B_learn 115 = .ok (.getfield 31, 3) := by decide +kernel
theorem d_B_learn_118 : decode b_B_learn 118 = .ok (.iload_n 2, 1) := by decide +kernel
theorem d_B_learn_119 : decode b_B_learn 119 = .ok (.iload_n 2, 1) := by decide +kernel
theorem d_B_learn_120 : decode b_B_learn 120 = .ok (.imul, 1) := by decide +kernel
theorem d_B_learn_121 : decode b_B_learn 121 = .ok (.aload_n 0, 1) := by decide +kernel
theorem d_B_learn_122 : decode b_B_learn 122 = .ok (.getfield 28, 3) := by decide +kernel
theorem d_B_learn_125 : decode b_B_learn 125 = .ok (.iload_n 2, 1) := by decide +kernel
theorem d_B_learn_126 : decode b_B_learn 126 = .ok (.ineg, 1) := by decide +kernel
theorem d_B_learn_127 : decode b_B_learn 127 = .ok (.iload_n 3, 1) := by decide +kernel
theorem d_B_learn_128 : decode b_B_learn 128 = .ok (.imul, 1) := by decide +kernel
theorem d_B_learn_129 : decode b_B_learn 129 = .ok (.invokevirtual 66, 3) := by decide +kernel
theorem d_B_learn_132 : decode b_B_learn 132 = .ok (.aload_n 0, 1) := by decide +kernel
theorem d_B_learn_133 : decode b_B_learn 133 = .ok (.getfield 25, 3) := by decide +kernel
theorem d_B_learn_136 : decode b_B_learn 136 = .ok (.iload 4, 2) := by decide +kernel
theorem d_B_learn_138 : decode b_B_learn 138 = .ok (.invokevirtual 63, 3) := by decide +kernel
theorem d_B_learn_141 : decode b_B_learn 141 = .ok (.aload_n 0, 1) := by decide +kernel
theorem d_B_learn_142 : decode b_B_learn 142 = .ok (.getfield 25, 3) := by decide +kernel
theorem d_B_learn_145 : decode b_B_learn 145 = .ok (.aload_n 0, 1) := by decide +kernel
theorem d_B_learn_146 : decode b_B_learn 146 = .ok (.getfield 16, 3) := by decide +kernel
theorem d_B_learn_149 : decode b_B_learn 149 = .ok (.iload_n 3, 1) := by decide +kernel
theorem d_B_learn_150 : decode b_B_learn 150 = .ok (.iload_n 3, 1) := by decide +kernel
theorem d_B_learn_151 : decode b_B_learn 151 = .ok (.imul, 1) := by decide +kernel
theorem d_B_learn_152 : decode b_B_learn 152 = .ok (.aload_n 0, 1) := by decide +kernel
theorem d_B_learn_153 : decode b_B_learn 153 = .ok (.getfield 22, 3) := by decide +kernel
theorem d_B_learn_156 : decode b_B_learn 156 = .ok (.iload_n 2, 1) := by decide +kernel
theorem d_B_learn_157 : decode b_B_learn 157 = .ok (.iload_n 2, 1) := by decide +kernel
theorem d_B_learn_158 : decode b_B_learn 158 = .ok (.imul, 1) := by decide +kernel
theorem d_B_learn_159 : decode b_B_learn 159 = .ok (.invokevirtual 66, 3) := by decide +kernel
theorem d_B_learn_162 : decode b_B_learn 162 = .ok (.aload_n 0, 1) := by decide +kernel
theorem d_B_learn_163 : decode b_B_learn 163 = .ok (.getfield 25, 3) := by decide +kernel
theorem d_B_learn_166 : decode b_B_learn 166 = .ok (.aload_n 0, 1) := by decide +kernel
theorem d_B_learn_167 : decode b_B_learn 167 = .ok (.getfield 19, 3) := by decide +kernel
theorem d_B_learn_170 : decode b_B_learn 170 = .ok (.bipush (-2), 2) := by decide +kernel
theorem d_B_learn_172 : decode b_B_learn 172 = .ok (.iload_n 2, 1) := by decide +kernel
theorem d_B_learn_173 : decode b_B_learn 173 = .ok (.imul, 1) := by decide +kernel
theorem d_B_learn_174 : decode b_B_learn 174 = .ok (.iload_n 3, 1) := by decide +kernel
theorem d_B_learn_175 : decode b_B_learn 175 = .ok (.imul, 1) := by decide +kernel
theorem d_B_learn_176 : decode b_B_learn 176 = .ok (.invokevirtual 70, 3) := by decide +kernel
theorem d_B_learn_179 : decode b_B_learn 179 = .ok (.aload_n 0, 1) := by decide +kernel
theorem d_B_learn_180 : decode b_B_learn 180 = .ok (.getfield 28, 3) := by decide +kernel
theorem d_B_learn_183 : decode b_B_learn 183 = .ok (.iload 4, 2) := by decide +kernel
theorem d_B_learn_185 : decode b_B_learn 185 = .ok (.invokevirtual 63, 3) := by decide +kernel
theorem d_B_learn_188 : decode b_B_learn 188 = .ok (.aload_n 0, 1) := by decide +kernel
theorem d_B_learn_189 : decode b_B_learn 189 = .ok (.getfield 28, 3) := by decide +kernel
theorem d_B_learn_192 : decode b_B_learn 192 = .ok (.aload_n 0, 1) := by decide +kernel
theorem d_B_learn_193 : decode b_B_learn 193 = .ok (.getfield 10, 3) := by decide +kernel
theorem d_B_learn_196 : decode b_B_learn 196 = .ok (.iload 5, 2) := by decide +kernel
theorem d_B_learn_198 : decode b_B_learn 198 = .ok (.iload_n 2, 1) := by decide +kernel
theorem d_B_learn_199 : decode b_B_learn 199 = .ok (.imul, 1) := by decide +kernel
theorem d_B_learn_200 : decode b_B_learn 200 = .ok (.invokevirtual 70, 3) := by decide +kernel
theorem d_B_learn_203 : decode b_B_learn 203 = .ok (.aload_n 0, 1) := by decide +kernel
theorem d_B_learn_204 : decode b_B_learn 204 = .ok (.getfield 31, 3) := by decide +kernel
theorem d_B_learn_207 : decode b_B_learn 207 = .ok (.iload 4, 2) := by decide +kernel
theorem d_B_learn_209 : decode b_B_learn 209 = .ok (.invokevirtual 63, 3) := by decide +kernel
theorem d_B_learn_212 : decode b_B_learn 212 = .ok (.aload_n 0, 1) := by decide +kernel
theorem d_B_learn_213 : decode b_B_learn 213 = .ok (.getfield 31, 3) := by decide +kernel
theorem d_B_learn_216 : decode b_B_learn 216 = .ok (.aload_n 0, 1) := by decide +kernel
theorem d_B_learn_217 : decode b_B_learn 217 = .ok (.getfield 10, 3) := by decide +kernel
theorem d_B_learn_220 : decode b_B_learn 220 = .ok (.iload 5, 2) := by decide +kernel
theorem d_B_learn_222 : decode b_B_learn 222 = .ok (.iload_n 3, 1) := by decide +kernel
theorem d_B_learn_223 : decode b_B_learn 223 = .ok (.imul, 1) := by decide +kernel
theorem d_B_learn_224 : decode b_B_learn 224 = .ok (.invokevirtual 70, 3) := by decide +kernel
theorem d_B_learn_227 : decode b_B_learn 227 = .ok (.aload_n 0, 1) := by decide +kernel
theorem d_B_learn_228 : decode b_B_learn 228 = .ok (.getfield 16, 3) := by decide +kernel
theorem d_B_learn_231 : decode b_B_learn 231 = .ok (.iload 4, 2) := by decide +kernel
theorem d_B_learn_233 : decode b_B_learn 233 = .ok (.invokevirtual 63, 3) := by decide +kernel
theorem d_B_learn_236 : decode b_B_learn 236 = .ok (.aload_n 0, 1) := by decide +kernel
theorem d_B_learn_237 : decode b_B_learn 237 = .ok (.getfield 16, 3) := by decide +kernel
theorem d_B_learn_240 : decode b_B_learn 240 = .ok (.aload_n 0, 1) := by decide +kernel
theorem d_B_learn_241 : decode b_B_learn 241 = .ok (.getfield 10, 3) := by decide +kernel
theorem d_B_learn_244 : decode b_B_learn 244 = .ok (.iload_n 2, 1) := by decide +kernel
theorem d_B_learn_245 : decode b_B_learn 245 = .ok (.iload_n 2, 1) := by decide +kernel
theorem d_B_learn_246 : decode b_B_learn 246 = .ok (.imul, 1) := by decide +kernel
theorem d_B_learn_247 : decode b_B_learn 247 = .ok (.invokevirtual 70, 3) := by decide +kernel
theorem d_B_learn_250 : decode b_B_learn 250 = .ok (.aload_n 0, 1) := by decide +kernel
theorem d_B_learn_251 : decode b_B_learn 251 = .ok (.getfield 19, 3) := by decide +kernel
theorem d_B_learn_254 : decode b_B_learn 254 = .ok (.iload 4, 2) := by decide +kernel
theorem d_B_learn_256 : decode b_B_learn 256 = .ok (.invokevirtual 63, 3) := by decide +kernel
theorem d_B_learn_259 : decode b_B_learn 259 = .ok (.aload_n 0, 1) := by decide +kernel
theorem d_B_learn_260 : decode b_B_learn 260 = .ok (.getfield 19, 3) := by decide +kernel
theorem d_B_learn_263 : decode b_B_learn 263 = .ok (.aload_n 0, 1) := by decide +kernel
theorem d_B_learn_264 : decode b_B_learn 264 = .ok (.getfield 10, 3) := by decide +kernel
theorem d_B_learn_267 : decode b_B_learn 267 = .ok (.iload_n 2, 1) := by decide +kernel
theorem d_B_learn_268 : decode b_B_learn 268 = .ok (.iload_n 3, 1) := by decide +kernel
theorem d_B_learn_269 : decode b_B_learn 269 = .ok (.imul, 1) := by decide +kernel
theorem d_B_learn_270 : decode b_B_learn 270 = .ok (.invokevirtual 70, 3) := by decide +kernel
theorem d_B_learn_273 : decode b_B_learn 273 = .ok (.aload_n 0, 1) := by decide +kernel
theorem d_B_learn_274 : decode b_B_learn 274 = .ok (.getfield 22, 3) := by decide +kernel
theorem d_B_learn_277 : decode b_B_learn 277 = .ok (.iload 4, 2) := by decide +kernel
theorem d_B_learn_279 : decode b_B_learn 279 = .ok (.invokevirtual 63, 3) := by decide +kernel
theorem d_B_learn_282 : decode b_B_learn 282 = .ok (.aload_n 0, 1) := by decide +kernel
theorem d_B_learn_283 : decode b_B_learn 283 = .ok (.getfield 22, 3) := by decide +kernel
