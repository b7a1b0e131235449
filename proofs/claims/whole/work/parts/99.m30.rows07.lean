theorem dX12_study_16 : decode cX12_study 16 = .ok (.if_icmp .ge 21, 3) := by decide +kernel
theorem dX12_study_19 : decode cX12_study 19 = .ok (.aload_n 0, 1) := by decide +kernel
theorem dX12_study_20 : decode cX12_study 20 = .ok (.getfield 246, 3) := by decide +kernel
theorem dX12_study_23 : decode cX12_study 23 = .ok (.aload_n 0, 1) := by decide +kernel
theorem dX12_study_24 : decode cX12_study 24 = .ok (.iload_n 1, 1) := by decide +kernel
theorem dX12_study_25 : decode cX12_study 25 = .ok (.iload_n 2, 1) := by decide +kernel
theorem dX12_study_26 : decode cX12_study 26 = .ok (.invokevirtual 545, 3) := by decide +kernel
theorem dX12_study_29 : decode cX12_study 29 = .ok (.iconst 0, 1) := by decide +kernel
theorem dX12_study_30 : decode cX12_study 30 = .ok (.bastore, 1) := by decide +kernel
theorem dX12_study_31 : decode cX12_study 31 = .ok (.iinc 2 1, 3) := by decide +kernel
theorem dX12_study_34 : decode cX12_study 34 = .ok (.goto (-25), 3) := by decide +kernel
theorem dX12_study_37 : decode cX12_study 37 = .ok (.aload_n 0, 1) := by decide +kernel
theorem dX12_study_38 : decode cX12_study 38 = .ok (.iload_n 1, 1) := by decide +kernel
theorem dX12_study_39 : decode cX12_study 39 = .ok (.invokevirtual 558, 3) := by decide +kernel
theorem dX12_study_42 : decode cX12_study 42 = .ok (.aload_n 0, 1) := by decide +kernel
theorem dX12_study_43 : decode cX12_study 43 = .ok (.iload_n 1, 1) := by decide +kernel
theorem dX12_study_44 : decode cX12_study 44 = .ok (.invokevirtual 561, 3) := by decide +kernel
theorem dX12_study_47 : decode cX12_study 47 = .ok (.aload_n 0, 1) := by decide +kernel
theorem dX12_study_48 : decode cX12_study 48 = .ok (.iload_n 1, 1) := by decide +kernel
theorem dX12_study_49 : decode cX12_study 49 = .ok (.invokevirtual 564, 3) := by decide +kernel
theorem dX12_study_52 : decode cX12_study 52 = .ok (.aload_n 0, 1) := by decide +kernel
theorem dX12_study_53 : decode cX12_study 53 = .ok (.iload_n 1, 1) := by decide +kernel
theorem dX12_study_54 : decode cX12_study 54 = .ok (.invokevirtual 567, 3) := by decide +kernel
theorem dX12_study_57 : decode cX12_study 57 = .ok (.return_, 1) := by decide +kernel
theorem dX12_swap_0 : decode cX12_swap 0 = .ok (.aload_n 0, 1) := by decide +kernel
theorem dX12_swap_1 : decode cX12_swap 1 = .ok (.aload_n 0, 1) := by decide +kernel
theorem dX12_swap_2 : decode cX12_swap 2 = .ok (.iload_n 1, 1) := by decide +kernel
theorem dX12_swap_3 : decode cX12_swap 3 = .ok (.invokevirtual 473, 3) := by decide +kernel
theorem dX12_swap_6 : decode cX12_swap 6 = .ok (.ifCond .eq 11, 3) := by decide +kernel
theorem dX12_swap_9 : decode cX12_swap 9 = .ok (.aload_n 0, 1) := by decide +kernel
theorem dX12_swap_10 : decode cX12_swap 10 = .ok (.iload_n 2, 1) := by decide +kernel
theorem dX12_swap_11 : decode cX12_swap 11 = .ok (.invokevirtual 473, 3) := by decide +kernel
theorem dX12_swap_14 : decode cX12_swap 14 = .ok (.ifCond .ne 7, 3) := by decide +kernel
theorem dX12_swap_17 : decode cX12_swap 17 = .ok (.iconst 1, 1) := by decide +kernel
theorem dX12_swap_18 : decode cX12_swap 18 = .ok (.goto 13, 3) := by decide +kernel
theorem dX12_swap_21 : decode cX12_swap 21 = .ok (.iload_n 1, 1) := by decide +kernel
theorem dX12_swap_22 : decode cX12_swap 22 = .ok (.iload_n 2, 1) := by decide +kernel
theorem dX12_swap_23 : decode cX12_swap 23 = .ok (.if_icmp .ne 7, 3) := by decide +kernel
theorem dX12_swap_26 : decode cX12_swap 26 = .ok (.iconst 2, 1) := by decide +kernel
theorem dX12_swap_27 : decode cX12_swap 27 = .ok (.goto 4, 3) := by decide +kernel
theorem dX12_swap_30 : decode cX12_swap 30 = .ok (.iconst 0, 1) := by decide +kernel
theorem dX12_swap_31 : decode cX12_swap 31 = .ok (.putfield 388, 3) := by decide +kernel
theorem dX12_swap_34 : decode cX12_swap 34 = .ok (.aload_n 0, 1) := by decide +kernel
theorem dX12_swap_35 : decode cX12_swap 35 = .ok (.getfield 388, 3) := by decide +kernel
theorem dX12_swap_38 : decode cX12_swap 38 = .ok (.ifCond .le 5, 3) := by decide +kernel
theorem dX12_swap_41 : decode cX12_swap 41 = .ok (.iconst 0, 1) := by decide +kernel
theorem dX12_swap_42 : decode cX12_swap 42 = .ok (.ireturn, 1) := by decide +kernel
theorem dX12_swap_43 : decode cX12_swap 43 = .ok (.iconst 1, 1) := by decide +kernel
theorem dX12_swap_44 : decode cX12_swap 44 = .ok (.istore_n 3, 1) := by decide +kernel
theorem dX12_swap_45 : decode cX12_swap 45 = .ok (.iconst 0, 1) := by decide +kernel
theorem dX12_swap_46 : decode cX12_swap 46 = .ok (.istore 4, 2) := by decide +kernel
theorem dX12_swap_48 : decode cX12_swap 48 = .ok (.iload 4, 2) := by decide +kernel
theorem dX12_swap_50 : decode cX12_swap 50 = .ok (.aload_n 0, 1) := by decide +kernel
theorem dX12_swap_51 : decode cX12_swap 51 = .ok (.getfield 435, 3) := by decide +kernel
theorem dX12_swap_54 : decode cX12_swap 54 = .ok (.if_icmp .ge 135, 3) := by decide +kernel
theorem dX12_swap_57 : decode cX12_swap 57 = .ok (.iconst 0, 1) := by decide +kernel
theorem dX12_swap_58 : decode cX12_swap 58 = .ok (.istore 5, 2) := by decide +kernel
theorem dX12_swap_60 : decode cX12_swap 60 = .ok (.aload_n 0, 1) := by decide +kernel
theorem dX12_swap_61 : decode cX12_swap 61 = .ok (.getfield 134, 3) := by decide +kernel
theorem dX12_swap_64 : decode cX12_swap 64 = .ok (.iload 4, 2) := by decide +kernel
theorem dX12_swap_66 : decode cX12_swap 66 = .ok (.baload, 1) := by decide +kernel
theorem dX12_swap_67 : decode cX12_swap 67 = .ok (.ifCond .eq 116, 3) := by decide +kernel
theorem dX12_swap_70 : decode cX12_swap 70 = .ok (.iload 5, 2) := by decide +kernel
theorem dX12_swap_72 : decode cX12_swap 72 = .ok (.aload_n 0, 1) := by decide +kernel
theorem dX12_swap_73 : decode cX12_swap 73 = .ok (.aload_n 0, 1) := by decide +kernel
theorem dX12_swap_74 : decode cX12_swap 74 = .ok (.getfield 125, 3) := by decide +kernel
theorem dX12_swap_77 : decode cX12_swap 77 = .ok (.iload 4, 2) := by decide +kernel
theorem dX12_swap_79 : decode cX12_swap 79 = .ok (.iaload, 1) := by decide +kernel
theorem dX12_swap_80 : decode cX12_swap 80 = .ok (.aload_n 0, 1) := by decide +kernel
theorem dX12_swap_81 : decode cX12_swap 81 = .ok (.getfield 128, 3) := by decide +kernel
theorem dX12_swap_84 : decode cX12_swap 84 = .ok (.iload 4, 2) := by decide +kernel
theorem dX12_swap_86 : decode cX12_swap 86 = .ok (.iaload, 1) := by decide +kernel
theorem dX12_swap_87 : decode cX12_swap 87 = .ok (.invokevirtual 455, 3) := by decide +kernel
theorem dX12_swap_90 : decode cX12_swap 90 = .ok (.if_icmp .ge 93, 3) := by decide +kernel
theorem dX12_swap_93 : decode cX12_swap 93 = .ok (.aload_n 0, 1) := by decide +kernel
theorem dX12_swap_94 : decode cX12_swap 94 = .ok (.getfield 138, 3) := by decide +kernel
theorem dX12_swap_97 : decode cX12_swap 97 = .ok (.aload_n 0, 1) := by decide +kernel
theorem dX12_swap_98 : decode cX12_swap 98 = .ok (.getfield 131, 3) := by decide +kernel
theorem dX12_swap_101 : decode cX12_swap 101 = .ok (.iload 4, 2) := by decide +kernel
theorem dX12_swap_103 : decode cX12_swap 103 = .ok (.iaload, 1) := by decide +kernel
theorem dX12_swap_104 : decode cX12_swap 104 = .ok (.iload 5, 2) := by decide +kernel
theorem dX12_swap_106 : decode cX12_swap 106 = .ok (.iadd, 1) := by decide +kernel
theorem dX12_swap_107 : decode cX12_swap 107 = .ok (.laload, 1) := by decide +kernel
theorem dX12_swap_108 : decode cX12_swap 108 = .ok (.lstore 6, 2) := by decide +kernel
theorem dX12_swap_110 : decode cX12_swap 110 = .ok (.aload_n 0, 1) := by decide +kernel
theorem dX12_swap_111 : decode cX12_swap 111 = .ok (.iload 4, 2) := by decide +kernel
theorem dX12_swap_113 : decode cX12_swap 113 = .ok (.iload 5, 2) := by decide +kernel
theorem dX12_swap_115 : decode cX12_swap 115 = .ok (.invokevirtual 512, 3) := by decide +kernel
theorem dX12_swap_118 : decode cX12_swap 118 = .ok (.ifCond .eq 59, 3) := by decide +kernel
theorem dX12_swap_121 : decode cX12_swap 121 = .ok (.lload 6, 2) := by decide +kernel
theorem dX12_swap_123 : decode cX12_swap 123 = .ok (.iload_n 1, 1) := by decide +kernel
theorem dX12_swap_124 : decode cX12_swap 124 = .ok (.iload_n 2, 1) := by decide +kernel
theorem dX12_swap_125 : decode cX12_swap 125 = .ok (.invokestatic 515, 3) := by decide +kernel
theorem dX12_swap_128 : decode cX12_swap 128 = .ok (.lload 6, 2) := by decide +kernel
theorem dX12_swap_130 : decode cX12_swap 130 = .ok (.lcmp, 1) := by decide +kernel
theorem dX12_swap_131 : decode cX12_swap 131 = .ok (.ifCond .eq 46, 3) := by decide +kernel
theorem dX12_swap_134 : decode cX12_swap 134 = .ok (.iload_n 3, 1) := by decide +kernel
theorem dX12_swap_135 : decode cX12_swap 135 = .ok (.ifCond .eq 40, 3) := by decide +kernel
theorem dX12_swap_138 : decode cX12_swap 138 = .ok (.aload_n 0, 1) := by decide +kernel
theorem dX12_swap_139 : decode cX12_swap 139 = .ok (.aload_n 0, 1) := by decide +kernel
theorem dX12_swap_140 : decode cX12_swap 140 = .ok (.getfield 125, 3) := by decide +kernel
theorem dX12_swap_143 : decode cX12_swap 143 = .ok (.lload 6, 2) := by decide +kernel
theorem dX12_swap_145 : decode cX12_swap 145 = .ok (.iload_n 1, 1) := by decide +kernel
theorem dX12_swap_146 : decode cX12_swap 146 = .ok (.iload_n 2, 1) := by decide +kernel
theorem dX12_swap_147 : decode cX12_swap 147 = .ok (.invokestatic 515, 3) := by decide +kernel
theorem dX12_swap_150 : decode cX12_swap 150 = .ok (.l2i, 1) := by decide +kernel
theorem dX12_swap_151 : decode cX12_swap 151 = .ok (.iaload, 1) := by decide +kernel
theorem dX12_swap_152 : decode cX12_swap 152 = .ok (.aload_n 0, 1) := by decide +kernel
theorem dX12_swap_153 : decode cX12_swap 153 = .ok (.aload_n 0, 1) := by decide +kernel
theorem dX12_swap_154 : decode cX12_swap 154 = .ok (.getfield 125, 3) := by decide +kernel
theorem dX12_swap_157 : decode cX12_swap 157 = .ok (.iload 4, 2) := by decide +kernel
theorem dX12_swap_159 : decode cX12_swap 159 = .ok (.iaload, 1) := by decide +kernel
theorem dX12_swap_160 : decode cX12_swap 160 = .ok (.iload 5, 2) := by decide +kernel
theorem dX12_swap_162 : decode cX12_swap 162 = .ok (.invokevirtual 492, 3) := by decide +kernel
theorem dX12_swap_165 : decode cX12_swap 165 = .ok (.invokevirtual 449, 3) := by decide +kernel
theorem dX12_swap_168 : decode cX12_swap 168 = .ok (.ifCond .eq 7, 3) := by decide +kernel
theorem dX12_swap_171 : decode cX12_swap 171 = .ok (.iconst 1, 1) := by decide +kernel
theorem dX12_swap_172 : decode cX12_swap 172 = .ok (.goto 4, 3) := by decide +kernel
theorem dX12_swap_175 : decode cX12_swap 175 = .ok (.iconst 0, 1) := by decide +kernel
theorem dX12_swap_176 : decode cX12_swap 176 = .ok (.istore_n 3, 1) := by decide +kernel
theorem dX12_swap_177 : decode cX12_swap 177 = .ok (.iinc 5 1, 3) := by decide +kernel
theorem dX12_swap_180 : decode cX12_swap 180 = .ok (.goto (-120), 3) := by decide +kernel
theorem dX12_swap_183 : decode cX12_swap 183 = .ok (.iinc 4 1, 3) := by decide +kernel
theorem dX12_swap_186 : decode cX12_swap 186 = .ok (.goto (-138), 3) := by decide +kernel
theorem dX12_swap_189 : decode cX12_swap 189 = .ok (.iconst 0, 1) := by decide +kernel
theorem dX12_swap_190 : decode cX12_swap 190 = .ok (.istore 4, 2) := by decide +kernel
theorem dX12_swap_192 : decode cX12_swap 192 = .ok (.iload 4, 2) := by decide +kernel
theorem dX12_swap_194 : decode cX12_swap 194 = .ok (.bipush 6, 2) := by decide +kernel
theorem dX12_swap_196 : decode cX12_swap 196 = .ok (.aload_n 0, 1) := by decide +kernel
theorem dX12_swap_197 : decode cX12_swap 197 = .ok (.getfield 413, 3) := by decide +kernel
theorem dX12_swap_200 : decode cX12_swap 200 = .ok (.imul, 1) := by decide +kernel
theorem dX12_swap_201 : decode cX12_swap 201 = .ok (.if_icmp .ge 80, 3) := by decide +kernel
theorem dX12_swap_204 : decode cX12_swap 204 = .ok (.aload_n 0, 1) := by decide +kernel
theorem dX12_swap_205 : decode cX12_swap 205 = .ok (.iload 4, 2) := by decide +kernel
theorem dX12_swap_207 : decode cX12_swap 207 = .ok (.invokevirtual 519, 3) := by decide +kernel
theorem dX12_swap_210 : decode cX12_swap 210 = .ok (.ifCond .ne 6, 3) := by decide +kernel
theorem dX12_swap_213 : decode cX12_swap 213 = .ok (.goto 62, 3) := by decide +kernel
theorem dX12_swap_216 : decode cX12_swap 216 = .ok (.aload_n 0, 1) := by decide +kernel
theorem dX12_swap_217 : decode cX12_swap 217 = .ok (.getfield 84, 3) := by decide +kernel
theorem dX12_swap_220 : decode cX12_swap 220 = .ok (.iload 4, 2) := by decide +kernel
theorem dX12_swap_222 : decode cX12_swap 222 = .ok (.laload, 1) := by decide +kernel
theorem dX12_swap_223 : decode cX12_swap 223 = .ok (.lstore 5, 2) := by decide +kernel
theorem dX12_swap_225 : decode cX12_swap 225 = .ok (.lload 5, 2) := by decide +kernel
theorem dX12_swap_227 : decode cX12_swap 227 = .ok (.iload_n 1, 1) := by decide +kernel
theorem dX12_swap_228 : decode cX12_swap 228 = .ok (.iload_n 2, 1) := by decide +kernel
theorem dX12_swap_229 : decode cX12_swap 229 = .ok (.invokestatic 515, 3) := by decide +kernel
theorem dX12_swap_232 : decode cX12_swap 232 = .ok (.lload 5, 2) := by decide +kernel
theorem dX12_swap_234 : decode cX12_swap 234 = .ok (.lcmp, 1) := by decide +kernel
theorem dX12_swap_235 : decode cX12_swap 235 = .ok (.ifCond .eq 40, 3) := by decide +kernel
theorem dX12_swap_238 : decode cX12_swap 238 = .ok (.iload_n 3, 1) := by decide +kernel
theorem dX12_swap_239 : decode cX12_swap 239 = .ok (.ifCond .eq 34, 3) := by decide +kernel
theorem dX12_swap_242 : decode cX12_swap 242 = .ok (.aload_n 0, 1) := by decide +kernel
theorem dX12_swap_243 : decode cX12_swap 243 = .ok (.aload_n 0, 1) := by decide +kernel
theorem dX12_swap_244 : decode cX12_swap 244 = .ok (.getfield 125, 3) := by decide +kernel
theorem dX12_swap_247 : decode cX12_swap 247 = .ok (.lload 5, 2) := by decide +kernel
theorem dX12_swap_249 : decode cX12_swap 249 = .ok (.iload_n 1, 1) := by decide +kernel
theorem dX12_swap_250 : decode cX12_swap 250 = .ok (.iload_n 2, 1) := by decide +kernel
theorem dX12_swap_251 : decode cX12_swap 251 = .ok (.invokestatic 515, 3) := by decide +kernel
theorem dX12_swap_254 : decode cX12_swap 254 = .ok (.l2i, 1) := by decide +kernel
theorem dX12_swap_255 : decode cX12_swap 255 = .ok (.iaload, 1) := by decide +kernel
theorem dX12_swap_256 : decode cX12_swap 256 = .ok (.aload_n 0, 1) := by decide +kernel
theorem dX12_swap_257 : decode cX12_swap 257 = .ok (.getfield 106, 3) := by decide +kernel
theorem dX12_swap_260 : decode cX12_swap 260 = .ok (.iload 4, 2) := by decide +kernel
theorem dX12_swap_262 : decode cX12_swap 262 = .ok (.iaload, 1) := by decide +kernel
theorem dX12_swap_263 : decode cX12_swap 263 = .ok (.invokevirtual 449, 3) := by decide +kernel
theorem dX12_swap_266 : decode cX12_swap 266 = .ok (.ifCond .eq 7, 3) := by decide +kernel
theorem dX12_swap_269 : decode cX12_swap 269 = .ok (.iconst 1, 1) := by decide +kernel
theorem dX12_swap_270 : decode cX12_swap 270 = .ok (.goto 4, 3) := by decide +kernel
theorem dX12_swap_273 : decode cX12_swap 273 = .ok (.iconst 0, 1) := by decide +kernel
theorem dX12_swap_274 : decode cX12_swap 274 = .ok (.istore_n 3, 1) := by decide +kernel
theorem dX12_swap_275 : decode cX12_swap 275 = .ok (.iinc 4 1, 3) := by decide +kernel
theorem dX12_swap_278 : decode cX12_swap 278 = .ok (.goto (-86), 3) := by decide +kernel
theorem dX12_swap_281 : decode cX12_swap 281 = .ok (.aload_n 0, 1) := by decide +kernel
theorem dX12_swap_282 : decode cX12_swap 282 = .ok (.iload_n 3, 1) := by decide +kernel
theorem dX12_swap_283 : decode cX12_swap 283 = .ok (.ifCond .eq 7, 3) := by decide +kernel
theorem dX12_swap_286 : decode cX12_swap 286 = .ok (.iconst 0, 1) := by decide +kernel
theorem dX12_swap_287 : decode cX12_swap 287 = .ok (.goto 4, 3) := by decide +kernel
theorem dX12_swap_290 : decode cX12_swap 290 = .ok (.iconst 2, 1) := by decide +kernel
theorem dX12_swap_291 : decode cX12_swap 291 = .ok (.putfield 388, 3) := by decide +kernel
theorem dX12_swap_294 : decode cX12_swap 294 = .ok (.aload_n 0, 1) := by decide +kernel
theorem dX12_swap_295 : decode cX12_swap 295 = .ok (.getfield 388, 3) := by decide +kernel
theorem dX12_swap_298 : decode cX12_swap 298 = .ok (.ifCond .le 5, 3) := by decide +kernel
theorem dX12_swap_301 : decode cX12_swap 301 = .ok (.iconst 0, 1) := by decide +kernel
theorem dX12_swap_302 : decode cX12_swap 302 = .ok (.ireturn, 1) := by decide +kernel
theorem dX12_swap_303 : decode cX12_swap 303 = .ok (.iconst 0, 1) := by decide +kernel
theorem dX12_swap_304 : decode cX12_swap 304 = .ok (.istore 4, 2) := by decide +kernel
theorem dX12_swap_306 : decode cX12_swap 306 = .ok (.iconst 0, 1) := by decide +kernel
theorem dX12_swap_307 : decode cX12_swap 307 = .ok (.istore 5, 2) := by decide +kernel
theorem dX12_swap_309 : decode cX12_swap 309 = .ok (.iload 5, 2) := by decide +kernel
theorem dX12_swap_311 : decode cX12_swap 311 = .ok (.aload_n 0, 1) := by decide +kernel
theorem dX12_swap_312 : decode cX12_swap 312 = .ok (.getfield 435, 3) := by decide +kernel
theorem dX12_swap_315 : decode cX12_swap 315 = .ok (.if_icmp .ge 113, 3) := by decide +kernel
theorem dX12_swap_318 : decode cX12_swap 318 = .ok (.iconst 0, 1) := by decide +kernel
theorem dX12_swap_319 : decode cX12_swap 319 = .ok (.istore 6, 2) := by decide +kernel
theorem dX12_swap_321 : decode cX12_swap 321 = .ok (.aload_n 0, 1) := by decide +kernel
theorem dX12_swap_322 : decode cX12_swap 322 = .ok (.getfield 134, 3) := by decide +kernel
theorem dX12_swap_325 : decode cX12_swap 325 = .ok (.iload 5, 2) := by decide +kernel
theorem dX12_swap_327 : decode cX12_swap 327 = .ok (.baload, 1) := by decide +kernel
theorem dX12_swap_328 : decode cX12_swap 328 = .ok (.ifCond .eq 94, 3) := by decide +kernel
theorem dX12_swap_331 : decode cX12_swap 331 = .ok (.iload 6, 2) := by decide +kernel
theorem dX12_swap_333 : decode cX12_swap 333 = .ok (.aload_n 0, 1) := by decide +kernel
theorem dX12_swap_334 : decode cX12_swap 334 = .ok (.aload_n 0, 1) := by decide +kernel
theorem dX12_swap_335 : decode cX12_swap 335 = .ok (.getfield 125, 3) := by decide +kernel
theorem dX12_swap_338 : decode cX12_swap 338 = .ok (.iload 5, 2) := by decide +kernel
theorem dX12_swap_340 : decode cX12_swap 340 = .ok (.iaload, 1) := by decide +kernel
theorem dX12_swap_341 : decode cX12_swap 341 = .ok (.aload_n 0, 1) := by decide +kernel
theorem dX12_swap_342 : decode cX12_swap 342 = .ok (.getfield 128, 3) := by decide +kernel
theorem dX12_swap_345 : decode cX12_swap 345 = .ok (.iload 5, 2) := by decide +kernel
theorem dX12_swap_347 : decode cX12_swap 347 = .ok (.iaload, 1) := by decide +kernel
theorem dX12_swap_348 : decode cX12_swap 348 = .ok (.invokevirtual 455, 3) := by decide +kernel
theorem dX12_swap_351 : decode cX12_swap 351 = .ok (.if_icmp .ge 71, 3) := by decide +kernel
theorem dX12_swap_354 : decode cX12_swap 354 = .ok (.aload_n 0, 1) := by decide +kernel
theorem dX12_swap_355 : decode cX12_swap 355 = .ok (.getfield 138, 3) := by decide +kernel
theorem dX12_swap_358 : decode cX12_swap 358 = .ok (.aload_n 0, 1) := by decide +kernel
theorem dX12_swap_359 : decode cX12_swap 359 = .ok (.getfield 131, 3) := by decide +kernel
theorem dX12_swap_362 : decode cX12_swap 362 = .ok (.iload 5, 2) := by decide +kernel
theorem dX12_swap_364 : decode cX12_swap 364 = .ok (.iaload, 1) := by decide +kernel
theorem dX12_swap_365 : decode cX12_swap 365 = .ok (.iload 6, 2) := by decide +kernel
theorem dX12_swap_367 : decode cX12_swap 367 = .ok (.iadd, 1) := by decide +kernel
theorem dX12_swap_368 : decode cX12_swap 368 = .ok (.laload, 1) := by decide +kernel
theorem dX12_swap_369 : decode cX12_swap 369 = .ok (.lstore 7, 2) := by decide +kernel
theorem dX12_swap_371 : decode cX12_swap 371 = .ok (.aload_n 0, 1) := by decide +kernel
theorem dX12_swap_372 : decode cX12_swap 372 = .ok (.iload 5, 2) := by decide +kernel
theorem dX12_swap_374 : decode cX12_swap 374 = .ok (.iload 6, 2) := by decide +kernel
theorem dX12_swap_376 : decode cX12_swap 376 = .ok (.invokevirtual 512, 3) := by decide +kernel
theorem dX12_swap_379 : decode cX12_swap 379 = .ok (.ifCond .eq 37, 3) := by decide +kernel
theorem dX12_swap_382 : decode cX12_swap 382 = .ok (.lload 7, 2) := by decide +kernel
theorem dX12_swap_384 : decode cX12_swap 384 = .ok (.iload_n 1, 1) := by decide +kernel
theorem dX12_swap_385 : decode cX12_swap 385 = .ok (.iload_n 2, 1) := by decide +kernel
theorem dX12_swap_386 : decode cX12_swap 386 = .ok (.invokestatic 515, 3) := by decide +kernel
theorem dX12_swap_389 : decode cX12_swap 389 = .ok (.lload 7, 2) := by decide +kernel
theorem dX12_swap_391 : decode cX12_swap 391 = .ok (.lcmp, 1) := by decide +kernel
theorem dX12_swap_392 : decode cX12_swap 392 = .ok (.ifCond .ne 6, 3) := by decide +kernel
theorem dX12_swap_395 : decode cX12_swap 395 = .ok (.goto 21, 3) := by decide +kernel
theorem dX12_swap_398 : decode cX12_swap 398 = .ok (.aload_n 0, 1) := by decide +kernel
theorem dX12_swap_399 : decode cX12_swap 399 = .ok (.iload 5, 2) := by decide +kernel
theorem dX12_swap_401 : decode cX12_swap 401 = .ok (.iload 6, 2) := by decide +kernel
theorem dX12_swap_403 : decode cX12_swap 403 = .ok (.lload 7, 2) := by decide +kernel
theorem dX12_swap_405 : decode cX12_swap 405 = .ok (.iload_n 1, 1) := by decide +kernel
theorem dX12_swap_406 : decode cX12_swap 406 = .ok (.iload_n 2, 1) := by decide +kernel
theorem dX12_swap_407 : decode cX12_swap 407 = .ok (.invokestatic 515, 3) := by decide +kernel
theorem dX12_swap_410 : decode cX12_swap 410 = .ok (.invokevirtual 499, 3) := by decide +kernel
theorem dX12_swap_413 : decode cX12_swap 413 = .ok (.iinc 4 1, 3) := by decide +kernel
theorem dX12_swap_416 : decode cX12_swap 416 = .ok (.iinc 6 1, 3) := by decide +kernel
theorem dX12_swap_419 : decode cX12_swap 419 = .ok (.goto (-98), 3) := by decide +kernel
theorem dX12_swap_422 : decode cX12_swap 422 = .ok (.iinc 5 1, 3) := by decide +kernel
theorem dX12_swap_425 : decode cX12_swap 425 = .ok (.goto (-116), 3) := by decide +kernel
theorem dX12_swap_428 : decode cX12_swap 428 = .ok (.iconst 0, 1) := by decide +kernel
theorem dX12_swap_429 : decode cX12_swap 429 = .ok (.istore 5, 2) := by decide +kernel
theorem dX12_swap_431 : decode cX12_swap 431 = .ok (.iload 5, 2) := by decide +kernel
theorem dX12_swap_433 : decode cX12_swap 433 = .ok (.bipush 6, 2) := by decide +kernel
theorem dX12_swap_435 : decode cX12_swap 435 = .ok (.aload_n 0, 1) := by decide +kernel
theorem dX12_swap_436 : decode cX12_swap 436 = .ok (.getfield 413, 3) := by decide +kernel
theorem dX12_swap_439 : decode cX12_swap 439 = .ok (.imul, 1) := by decide +kernel
theorem dX12_swap_440 : decode cX12_swap 440 = .ok (.if_icmp .ge 66, 3) := by decide +kernel
theorem dX12_swap_443 : decode cX12_swap 443 = .ok (.aload_n 0, 1) := by decide +kernel
theorem dX12_swap_444 : decode cX12_swap 444 = .ok (.iload 5, 2) := by decide +kernel
theorem dX12_swap_446 : decode cX12_swap 446 = .ok (.invokevirtual 519, 3) := by decide +kernel
theorem dX12_swap_449 : decode cX12_swap 449 = .ok (.ifCond .eq 51, 3) := by decide +kernel
theorem dX12_swap_452 : decode cX12_swap 452 = .ok (.aload_n 0, 1) := by decide +kernel
theorem dX12_swap_453 : decode cX12_swap 453 = .ok (.getfield 84, 3) := by decide +kernel
theorem dX12_swap_456 : decode cX12_swap 456 = .ok (.iload 5, 2) := by decide +kernel
theorem dX12_swap_458 : decode cX12_swap 458 = .ok (.laload, 1) := by decide +kernel
theorem dX12_swap_459 : decode cX12_swap 459 = .ok (.iload_n 1, 1) := by decide +kernel
theorem dX12_swap_460 : decode cX12_swap 460 = .ok (.iload_n 2, 1) := by decide +kernel
theorem dX12_swap_461 : decode cX12_swap 461 = .ok (.invokestatic 515, 3) := by decide +kernel
theorem dX12_swap_464 : decode cX12_swap 464 = .ok (.aload_n 0, 1) := by decide +kernel
theorem dX12_swap_465 : decode cX12_swap 465 = .ok (.getfield 84, 3) := by decide +kernel
theorem dX12_swap_468 : decode cX12_swap 468 = .ok (.iload 5, 2) := by decide +kernel
theorem dX12_swap_470 : decode cX12_swap 470 = .ok (.laload, 1) := by decide +kernel
theorem dX12_swap_471 : decode cX12_swap 471 = .ok (.lcmp, 1) := by decide +kernel
theorem dX12_swap_472 : decode cX12_swap 472 = .ok (.ifCond .ne 6, 3) := by decide +kernel
theorem dX12_swap_475 : decode cX12_swap 475 = .ok (.goto 25, 3) := by decide +kernel
theorem dX12_swap_478 : decode cX12_swap 478 = .ok (.aload_n 0, 1) := by decide +kernel
theorem dX12_swap_479 : decode cX12_swap 479 = .ok (.iconst (-1), 1) := by decide +kernel
theorem dX12_swap_480 : decode cX12_swap 480 = .ok (.iload 5, 2) := by decide +kernel
theorem dX12_swap_482 : decode cX12_swap 482 = .ok (.aload_n 0, 1) := by decide +kernel
theorem dX12_swap_483 : decode cX12_swap 483 = .ok (.getfield 84, 3) := by decide +kernel
theorem dX12_swap_486 : decode cX12_swap 486 = .ok (.iload 5, 2) := by decide +kernel
theorem dX12_swap_488 : decode cX12_swap 488 = .ok (.laload, 1) := by decide +kernel
theorem dX12_swap_489 : decode cX12_swap 489 = .ok (.iload_n 1, 1) := by decide +kernel
theorem dX12_swap_490 : decode cX12_swap 490 = .ok (.iload_n 2, 1) := by decide +kernel
theorem dX12_swap_491 : decode cX12_swap 491 = .ok (.invokestatic 515, 3) := by decide +kernel
theorem dX12_swap_494 : decode cX12_swap 494 = .ok (.invokevirtual 499, 3) := by decide +kernel
theorem dX12_swap_497 : decode cX12_swap 497 = .ok (.iinc 4 1, 3) := by decide +kernel
theorem dX12_swap_500 : decode cX12_swap 500 = .ok (.iinc 5 1, 3) := by decide +kernel
theorem dX12_swap_503 : decode cX12_swap 503 = .ok (.goto (-72), 3) := by decide +kernel
theorem dX12_swap_506 : decode cX12_swap 506 = .ok (.iconst 0, 1) := by decide +kernel
theorem dX12_swap_507 : decode cX12_swap 507 = .ok (.istore 5, 2) := by decide +kernel
theorem dX12_swap_509 : decode cX12_swap 509 = .ok (.iload 5, 2) := by decide +kernel
theorem dX12_swap_511 : decode cX12_swap 511 = .ok (.aload_n 0, 1) := by decide +kernel
theorem dX12_swap_512 : decode cX12_swap 512 = .ok (.getfield 470, 3) := by decide +kernel
theorem dX12_swap_515 : decode cX12_swap 515 = .ok (.if_icmp .ge 30, 3) := by decide +kernel
theorem dX12_swap_518 : decode cX12_swap 518 = .ok (.aload_n 0, 1) := by decide +kernel
theorem dX12_swap_519 : decode cX12_swap 519 = .ok (.getfield 141, 3) := by decide +kernel
theorem dX12_swap_522 : decode cX12_swap 522 = .ok (.iload 5, 2) := by decide +kernel
theorem dX12_swap_524 : decode cX12_swap 524 = .ok (.aload_n 0, 1) := by decide +kernel
theorem dX12_swap_525 : decode cX12_swap 525 = .ok (.getfield 141, 3) := by decide +kernel
theorem dX12_swap_528 : decode cX12_swap 528 = .ok (.iload 5, 2) := by decide +kernel
theorem dX12_swap_530 : decode cX12_swap 530 = .ok (.iaload, 1) := by decide +kernel
theorem dX12_swap_531 : decode cX12_swap 531 = .ok (.i2l, 1) := by decide +kernel
theorem dX12_swap_532 : decode cX12_swap 532 = .ok (.iload_n 1, 1) := by decide +kernel
theorem dX12_swap_533 : decode cX12_swap 533 = .ok (.iload_n 2, 1) := by decide +kernel
theorem dX12_swap_534 : decode cX12_swap 534 = .ok (.invokestatic 515, 3) := by decide +kernel
theorem dX12_swap_537 : decode cX12_swap 537 = .ok (.l2i, 1) := by decide +kernel
theorem dX12_swap_538 : decode cX12_swap 538 = .ok (.iastore, 1) := by decide +kernel
theorem dX12_swap_539 : decode cX12_swap 539 = .ok (.iinc 5 1, 3) := by decide +kernel
theorem dX12_swap_542 : decode cX12_swap 542 = .ok (.goto (-33), 3) := by decide +kernel
theorem dX12_swap_545 : decode cX12_swap 545 = .ok (.iload 4, 2) := by decide +kernel
theorem dX12_swap_547 : decode cX12_swap 547 = .ok (.ifCond .le 13, 3) := by decide +kernel
theorem dX12_swap_550 : decode cX12_swap 550 = .ok (.aload_n 0, 1) := by decide +kernel
theorem dX12_swap_551 : decode cX12_swap 551 = .ok (.aload_n 0, 1) := by decide +kernel
theorem dX12_swap_552 : decode cX12_swap 552 = .ok (.getfield 482, 3) := by decide +kernel
theorem dX12_swap_555 : decode cX12_swap 555 = .ok (.iconst 1, 1) := by decide +kernel
theorem dX12_swap_556 : decode cX12_swap 556 = .ok (.isub, 1) := by decide +kernel
theorem dX12_swap_557 : decode cX12_swap 557 = .ok (.invokevirtual 503, 3) := by decide +kernel
theorem dX12_swap_560 : decode cX12_swap 560 = .ok (.iload 4, 2) := by decide +kernel
theorem dX12_swap_562 : decode cX12_swap 562 = .ok (.ireturn, 1) := by decide +kernel
theorem dX12_take_0 : decode cX12_take 0 = .ok (.aload_n 0, 1) := by decide +kernel
theorem dX12_take_1 : decode cX12_take 1 = .ok (.aload_n 0, 1) := by decide +kernel
theorem dX12_take_2 : decode cX12_take 2 = .ok (.iload_n 1, 1) := by decide +kernel
theorem dX12_take_3 : decode cX12_take 3 = .ok (.invokevirtual 542, 3) := by decide +kernel
theorem dX12_take_6 : decode cX12_take 6 = .ok (.ifCond .eq 7, 3) := by decide +kernel
theorem dX12_take_9 : decode cX12_take 9 = .ok (.iconst 0, 1) := by decide +kernel
theorem dX12_take_10 : decode cX12_take 10 = .ok (.goto 4, 3) := by decide +kernel
theorem dX12_take_13 : decode cX12_take 13 = .ok (.iconst 1, 1) := by decide +kernel
theorem dX12_take_14 : decode cX12_take 14 = .ok (.putfield 388, 3) := by decide +kernel
theorem dX12_take_17 : decode cX12_take 17 = .ok (.aload_n 0, 1) := by decide +kernel
theorem dX12_take_18 : decode cX12_take 18 = .ok (.getfield 388, 3) := by decide +kernel
theorem dX12_take_21 : decode cX12_take 21 = .ok (.ifCond .le 5, 3) := by decide +kernel
theorem dX12_take_24 : decode cX12_take 24 = .ok (.iconst 0, 1) := by decide +kernel
theorem dX12_take_25 : decode cX12_take 25 = .ok (.ireturn, 1) := by decide +kernel
theorem dX12_take_26 : decode cX12_take 26 = .ok (.aload_n 0, 1) := by decide +kernel
theorem dX12_take_27 : decode cX12_take 27 = .ok (.iload_n 1, 1) := by decide +kernel
theorem dX12_take_28 : decode cX12_take 28 = .ok (.invokevirtual 552, 3) := by decide +kernel
theorem dX12_take_31 : decode cX12_take 31 = .ok (.aload_n 0, 1) := by decide +kernel
theorem dX12_take_32 : decode cX12_take 32 = .ok (.iload_n 1, 1) := by decide +kernel
theorem dX12_take_33 : decode cX12_take 33 = .ok (.invokevirtual 555, 3) := by decide +kernel
theorem dX12_take_36 : decode cX12_take 36 = .ok (.aload_n 0, 1) := by decide +kernel
theorem dX12_take_37 : decode cX12_take 37 = .ok (.getfield 183, 3) := by decide +kernel
theorem dX12_take_40 : decode cX12_take 40 = .ok (.iload_n 1, 1) := by decide +kernel
theorem dX12_take_41 : decode cX12_take 41 = .ok (.iaload, 1) := by decide +kernel
theorem dX12_take_42 : decode cX12_take 42 = .ok (.ireturn, 1) := by decide +kernel
theorem dX12_takeByte_0 : decode cX12_takeByte 0 = .ok (.aload_n 0, 1) := by decide +kernel
theorem dX12_takeByte_1 : decode cX12_takeByte 1 = .ok (.getfield 625, 3) := by decide +kernel
theorem dX12_takeByte_4 : decode cX12_takeByte 4 = .ok (.ifCond .le 4, 3) := by decide +kernel
theorem dX12_takeByte_7 : decode cX12_takeByte 7 = .ok (.return_, 1) := by decide +kernel
theorem dX12_takeByte_8 : decode cX12_takeByte 8 = .ok (.aload_n 0, 1) := by decide +kernel
theorem dX12_takeByte_9 : decode cX12_takeByte 9 = .ok (.getfield 975, 3) := by decide +kernel
theorem dX12_takeByte_12 : decode cX12_takeByte 12 = .ok (.aload_n 0, 1) := by decide +kernel
theorem dX12_takeByte_13 : decode cX12_takeByte 13 = .ok (.getfield 953, 3) := by decide +kernel
theorem dX12_takeByte_16 : decode cX12_takeByte 16 = .ok (.if_icmp .ne 15, 3) := by decide +kernel
theorem dX12_takeByte_19 : decode cX12_takeByte 19 = .ok (.aload_n 0, 1) := by decide +kernel
theorem dX12_takeByte_20 : decode cX12_takeByte 20 = .ok (.iconst 1, 1) := by decide +kernel
theorem dX12_takeByte_21 : decode cX12_takeByte 21 = .ok (.aload_n 0, 1) := by decide +kernel
theorem dX12_takeByte_22 : decode cX12_takeByte 22 = .ok (.getfield 975, 3) := by decide +kernel
theorem dX12_takeByte_25 : decode cX12_takeByte 25 = .ok (.invokevirtual 653, 3) := by decide +kernel
theorem dX12_takeByte_28 : decode cX12_takeByte 28 = .ok (.goto 29, 3) := by decide +kernel
theorem dX12_takeByte_31 : decode cX12_takeByte 31 = .ok (.aload_n 0, 1) := by decide +kernel
theorem dX12_takeByte_32 : decode cX12_takeByte 32 = .ok (.getfield 369, 3) := by decide +kernel
theorem dX12_takeByte_35 : decode cX12_takeByte 35 = .ok (.aload_n 0, 1) := by decide +kernel
theorem dX12_takeByte_36 : decode cX12_takeByte 36 = .ok (.getfield 975, 3) := by decide +kernel
theorem dX12_takeByte_39 : decode cX12_takeByte 39 = .ok (.baload, 1) := by decide +kernel
theorem dX12_takeByte_40 : decode cX12_takeByte 40 = .ok (.sipush 255, 3) := by decide +kernel
theorem dX12_takeByte_43 : decode cX12_takeByte 43 = .ok (.iand, 1) := by decide +kernel
theorem dX12_takeByte_44 : decode cX12_takeByte 44 = .ok (.iload_n 1, 1) := by decide +kernel
theorem dX12_takeByte_45 : decode cX12_takeByte 45 = .ok (.if_icmp .eq 12, 3) := by decide +kernel
theorem dX12_takeByte_48 : decode cX12_takeByte 48 = .ok (.aload_n 0, 1) := by decide +kernel
theorem dX12_takeByte_49 : decode cX12_takeByte 49 = .ok (.iconst 2, 1) := by decide +kernel
theorem dX12_takeByte_50 : decode cX12_takeByte 50 = .ok (.aload_n 0, 1) := by decide +kernel
theorem dX12_takeByte_51 : decode cX12_takeByte 51 = .ok (.getfield 975, 3) := by decide +kernel
theorem dX12_takeByte_54 : decode cX12_takeByte 54 = .ok (.invokevirtual 653, 3) := by decide +kernel
theorem dX12_takeByte_57 : decode cX12_takeByte 57 = .ok (.aload_n 0, 1) := by decide +kernel
theorem dX12_takeByte_58 : decode cX12_takeByte 58 = .ok (.dup, 1) := by decide +kernel
theorem dX12_takeByte_59 : decode cX12_takeByte 59 = .ok (.getfield 975, 3) := by decide +kernel
theorem dX12_takeByte_62 : decode cX12_takeByte 62 = .ok (.iconst 1, 1) := by decide +kernel
theorem dX12_takeByte_63 : decode cX12_takeByte 63 = .ok (.iadd, 1) := by decide +kernel
theorem dX12_takeByte_64 : decode cX12_takeByte 64 = .ok (.putfield 975, 3) := by decide +kernel
theorem dX12_takeByte_67 : decode cX12_takeByte 67 = .ok (.return_, 1) := by decide +kernel
theorem dX12_takeNow_0 : decode cX12_takeNow 0 = .ok (.aload_n 0, 1) := by decide +kernel
theorem dX12_takeNow_1 : decode cX12_takeNow 1 = .ok (.iconst 4, 1) := by decide +kernel
theorem dX12_takeNow_2 : decode cX12_takeNow 2 = .ok (.invokevirtual 552, 3) := by decide +kernel
theorem dX12_takeNow_5 : decode cX12_takeNow 5 = .ok (.aload_n 0, 1) := by decide +kernel
theorem dX12_takeNow_6 : decode cX12_takeNow 6 = .ok (.iconst 4, 1) := by decide +kernel
theorem dX12_takeNow_7 : decode cX12_takeNow 7 = .ok (.invokevirtual 558, 3) := by decide +kernel
theorem dX12_takeNow_10 : decode cX12_takeNow 10 = .ok (.aload_n 0, 1) := by decide +kernel
theorem dX12_takeNow_11 : decode cX12_takeNow 11 = .ok (.getfield 869, 3) := by decide +kernel
theorem dX12_takeNow_14 : decode cX12_takeNow 14 = .ok (.ifCond .eq 8, 3) := by decide +kernel
theorem dX12_takeNow_17 : decode cX12_takeNow 17 = .ok (.aload_n 0, 1) := by decide +kernel
theorem dX12_takeNow_18 : decode cX12_takeNow 18 = .ok (.iconst 4, 1) := by decide +kernel
theorem dX12_takeNow_19 : decode cX12_takeNow 19 = .ok (.invokevirtual 561, 3) := by decide +kernel
theorem dX12_takeNow_22 : decode cX12_takeNow 22 = .ok (.return_, 1) := by decide +kernel
theorem dX12_takeNumber_0 : decode cX12_takeNumber 0 = .ok (.aload_n 0, 1) := by decide +kernel
theorem dX12_takeNumber_1 : decode cX12_takeNumber 1 = .ok (.aload_n 0, 1) := by decide +kernel
theorem dX12_takeNumber_2 : decode cX12_takeNumber 2 = .ok (.getfield 975, 3) := by decide +kernel
theorem dX12_takeNumber_5 : decode cX12_takeNumber 5 = .ok (.putfield 978, 3) := by decide +kernel
theorem dX12_takeNumber_8 : decode cX12_takeNumber 8 = .ok (.lconst 0, 1) := by decide +kernel
theorem dX12_takeNumber_9 : decode cX12_takeNumber 9 = .ok (.lstore_n 1, 1) := by decide +kernel
theorem dX12_takeNumber_10 : decode cX12_takeNumber 10 = .ok (.iconst 0, 1) := by decide +kernel
theorem dX12_takeNumber_11 : decode cX12_takeNumber 11 = .ok (.istore_n 3, 1) := by decide +kernel
theorem dX12_takeNumber_12 : decode cX12_takeNumber 12 = .ok (.aload_n 0, 1) := by decide +kernel
theorem dX12_takeNumber_13 : decode cX12_takeNumber 13 = .ok (.getfield 625, 3) := by decide +kernel
theorem dX12_takeNumber_16 : decode cX12_takeNumber 16 = .ok (.ifCond .ne 122, 3) := by decide +kernel
theorem dX12_takeNumber_19 : decode cX12_takeNumber 19 = .ok (.aload_n 0, 1) := by decide +kernel
theorem dX12_takeNumber_20 : decode cX12_takeNumber 20 = .ok (.getfield 975, 3) := by decide +kernel
theorem dX12_takeNumber_23 : decode cX12_takeNumber 23 = .ok (.aload_n 0, 1) := by decide +kernel
theorem dX12_takeNumber_24 : decode cX12_takeNumber 24 = .ok (.getfield 953, 3) := by decide +kernel
theorem dX12_takeNumber_27 : decode cX12_takeNumber 27 = .ok (.if_icmp .ne 14, 3) := by decide +kernel
theorem dX12_takeNumber_30 : decode cX12_takeNumber 30 = .ok (.aload_n 0, 1) := by decide +kernel
theorem dX12_takeNumber_31 : decode cX12_takeNumber 31 = .ok (.iconst 1, 1) := by decide +kernel
theorem dX12_takeNumber_32 : decode cX12_takeNumber 32 = .ok (.aload_n 0, 1) := by decide +kernel
theorem dX12_takeNumber_33 : decode cX12_takeNumber 33 = .ok (.getfield 953, 3) := by decide +kernel
theorem dX12_takeNumber_36 : decode cX12_takeNumber 36 = .ok (.invokevirtual 653, 3) := by decide +kernel
theorem dX12_takeNumber_39 : decode cX12_takeNumber 39 = .ok (.lconst 0, 1) := by decide +kernel
theorem dX12_takeNumber_40 : decode cX12_takeNumber 40 = .ok (.lreturn, 1) := by decide +kernel
theorem dX12_takeNumber_41 : decode cX12_takeNumber 41 = .ok (.aload_n 0, 1) := by decide +kernel
theorem dX12_takeNumber_42 : decode cX12_takeNumber 42 = .ok (.getfield 369, 3) := by decide +kernel
theorem dX12_takeNumber_45 : decode cX12_takeNumber 45 = .ok (.aload_n 0, 1) := by decide +kernel
theorem dX12_takeNumber_46 : decode cX12_takeNumber 46 = .ok (.getfield 975, 3) := by decide +kernel
theorem dX12_takeNumber_49 : decode cX12_takeNumber 49 = .ok (.baload, 1) := by decide +kernel
theorem dX12_takeNumber_50 : decode cX12_takeNumber 50 = .ok (.sipush 255, 3) := by decide +kernel
theorem dX12_takeNumber_53 : decode cX12_takeNumber 53 = .ok (.iand, 1) := by decide +kernel
theorem dX12_takeNumber_54 : decode cX12_takeNumber 54 = .ok (.istore 4, 2) := by decide +kernel
theorem dX12_takeNumber_56 : decode cX12_takeNumber 56 = .ok (.aload_n 0, 1) := by decide +kernel
theorem dX12_takeNumber_57 : decode cX12_takeNumber 57 = .ok (.dup, 1) := by decide +kernel
theorem dX12_takeNumber_58 : decode cX12_takeNumber 58 = .ok (.getfield 975, 3) := by decide +kernel
theorem dX12_takeNumber_61 : decode cX12_takeNumber 61 = .ok (.iconst 1, 1) := by decide +kernel
theorem dX12_takeNumber_62 : decode cX12_takeNumber 62 = .ok (.iadd, 1) := by decide +kernel
theorem dX12_takeNumber_63 : decode cX12_takeNumber 63 = .ok (.putfield 975, 3) := by decide +kernel
theorem dX12_takeNumber_66 : decode cX12_takeNumber 66 = .ok (.iload_n 3, 1) := by decide +kernel
theorem dX12_takeNumber_67 : decode cX12_takeNumber 67 = .ok (.bipush 9, 2) := by decide +kernel
theorem dX12_takeNumber_69 : decode cX12_takeNumber 69 = .ok (.if_icmp .ne 18, 3) := by decide +kernel
theorem dX12_takeNumber_72 : decode cX12_takeNumber 72 = .ok (.iload 4, 2) := by decide +kernel
theorem dX12_takeNumber_74 : decode cX12_takeNumber 74 = .ok (.iconst 1, 1) := by decide +kernel
theorem dX12_takeNumber_75 : decode cX12_takeNumber 75 = .ok (.if_icmp .le 12, 3) := by decide +kernel
theorem dX12_takeNumber_78 : decode cX12_takeNumber 78 = .ok (.aload_n 0, 1) := by decide +kernel
theorem dX12_takeNumber_79 : decode cX12_takeNumber 79 = .ok (.iconst 3, 1) := by decide +kernel
theorem dX12_takeNumber_80 : decode cX12_takeNumber 80 = .ok (.aload_n 0, 1) := by decide +kernel
theorem dX12_takeNumber_81 : decode cX12_takeNumber 81 = .ok (.getfield 978, 3) := by decide +kernel
theorem dX12_takeNumber_84 : decode cX12_takeNumber 84 = .ok (.invokevirtual 653, 3) := by decide +kernel
theorem dX12_takeNumber_87 : decode cX12_takeNumber 87 = .ok (.lload_n 1, 1) := by decide +kernel
theorem dX12_takeNumber_88 : decode cX12_takeNumber 88 = .ok (.iload 4, 2) := by decide +kernel
theorem dX12_takeNumber_90 : decode cX12_takeNumber 90 = .ok (.i2l, 1) := by decide +kernel
theorem dX12_takeNumber_91 : decode cX12_takeNumber 91 = .ok (.ldc2_w 951, 3) := by decide +kernel
theorem dX12_takeNumber_94 : decode cX12_takeNumber 94 = .ok (.land, 1) := by decide +kernel
theorem dX12_takeNumber_95 : decode cX12_takeNumber 95 = .ok (.bipush 7, 2) := by decide +kernel
theorem dX12_takeNumber_97 : decode cX12_takeNumber 97 = .ok (.iload_n 3, 1) := by decide +kernel
theorem dX12_takeNumber_98 : decode cX12_takeNumber 98 = .ok (.imul, 1) := by decide +kernel
theorem dX12_takeNumber_99 : decode cX12_takeNumber 99 = .ok (.lshl, 1) := by decide +kernel
theorem dX12_takeNumber_100 : decode cX12_takeNumber 100 = .ok (.lor, 1) := by decide +kernel
theorem dX12_takeNumber_101 : decode cX12_takeNumber 101 = .ok (.lstore_n 1, 1) := by decide +kernel
theorem dX12_takeNumber_102 : decode cX12_takeNumber 102 = .ok (.iload 4, 2) := by decide +kernel
theorem dX12_takeNumber_104 : decode cX12_takeNumber 104 = .ok (.bipush 127, 2) := by decide +kernel
theorem dX12_takeNumber_106 : decode cX12_takeNumber 106 = .ok (.if_icmp .le 6, 3) := by decide +kernel
theorem dX12_takeNumber_109 : decode cX12_takeNumber 109 = .ok (.goto 23, 3) := by decide +kernel
theorem dX12_takeNumber_112 : decode cX12_takeNumber 112 = .ok (.iload 4, 2) := by decide +kernel
theorem dX12_takeNumber_114 : decode cX12_takeNumber 114 = .ok (.ifCond .ne 16, 3) := by decide +kernel
theorem dX12_takeNumber_117 : decode cX12_takeNumber 117 = .ok (.iload_n 3, 1) := by decide +kernel
theorem dX12_takeNumber_118 : decode cX12_takeNumber 118 = .ok (.ifCond .le 12, 3) := by decide +kernel
theorem dX12_takeNumber_121 : decode cX12_takeNumber 121 = .ok (.aload_n 0, 1) := by decide +kernel
theorem dX12_takeNumber_122 : decode cX12_takeNumber 122 = .ok (.iconst 3, 1) := by decide +kernel
theorem dX12_takeNumber_123 : decode cX12_takeNumber 123 = .ok (.aload_n 0, 1) := by decide +kernel
theorem dX12_takeNumber_124 : decode cX12_takeNumber 124 = .ok (.getfield 978, 3) := by decide +kernel
theorem dX12_takeNumber_127 : decode cX12_takeNumber 127 = .ok (.invokevirtual 653, 3) := by decide +kernel
theorem dX12_takeNumber_130 : decode cX12_takeNumber 130 = .ok (.lload_n 1, 1) := by decide +kernel
theorem dX12_takeNumber_131 : decode cX12_takeNumber 131 = .ok (.lreturn, 1) := by decide +kernel
theorem dX12_takeNumber_132 : decode cX12_takeNumber 132 = .ok (.iinc 3 1, 3) := by decide +kernel
theorem dX12_takeNumber_135 : decode cX12_takeNumber 135 = .ok (.goto (-123), 3) := by decide +kernel
theorem dX12_takeNumber_138 : decode cX12_takeNumber 138 = .ok (.lconst 0, 1) := by decide +kernel
theorem dX12_takeNumber_139 : decode cX12_takeNumber 139 = .ok (.lreturn, 1) := by decide +kernel
theorem dX12_takePicture_0 : decode cX12_takePicture 0 = .ok (.aload_n 0, 1) := by decide +kernel
theorem dX12_takePicture_1 : decode cX12_takePicture 1 = .ok (.iconst 0, 1) := by decide +kernel
theorem dX12_takePicture_2 : decode cX12_takePicture 2 = .ok (.putfield 625, 3) := by decide +kernel
theorem dX12_takePicture_5 : decode cX12_takePicture 5 = .ok (.aload_n 0, 1) := by decide +kernel
theorem dX12_takePicture_6 : decode cX12_takePicture 6 = .ok (.iconst (-1), 1) := by decide +kernel
theorem dX12_takePicture_7 : decode cX12_takePicture 7 = .ok (.putfield 628, 3) := by decide +kernel
theorem dX12_takePicture_10 : decode cX12_takePicture 10 = .ok (.aload_n 0, 1) := by decide +kernel
theorem dX12_takePicture_11 : decode cX12_takePicture 11 = .ok (.iconst 0, 1) := by decide +kernel
theorem dX12_takePicture_12 : decode cX12_takePicture 12 = .ok (.putfield 975, 3) := by decide +kernel
theorem dX12_takePicture_15 : decode cX12_takePicture 15 = .ok (.aload_n 0, 1) := by decide +kernel
theorem dX12_takePicture_16 : decode cX12_takePicture 16 = .ok (.iconst 0, 1) := by decide +kernel
theorem dX12_takePicture_17 : decode cX12_takePicture 17 = .ok (.putfield 991, 3) := by decide +kernel
theorem dX12_takePicture_20 : decode cX12_takePicture 20 = .ok (.aload_n 0, 1) := by decide +kernel
theorem dX12_takePicture_21 : decode cX12_takePicture 21 = .ok (.bipush 72, 2) := by decide +kernel
theorem dX12_takePicture_23 : decode cX12_takePicture 23 = .ok (.invokevirtual 1004, 3) := by decide +kernel
theorem dX12_takePicture_26 : decode cX12_takePicture 26 = .ok (.aload_n 0, 1) := by decide +kernel
theorem dX12_takePicture_27 : decode cX12_takePicture 27 = .ok (.bipush 80, 2) := by decide +kernel
theorem dX12_takePicture_29 : decode cX12_takePicture 29 = .ok (.invokevirtual 1004, 3) := by decide +kernel
theorem dX12_takePicture_32 : decode cX12_takePicture 32 = .ok (.aload_n 0, 1) := by decide +kernel
theorem dX12_takePicture_33 : decode cX12_takePicture 33 = .ok (.getfield 625, 3) := by decide +kernel
theorem dX12_takePicture_36 : decode cX12_takePicture 36 = .ok (.ifCond .ne 10, 3) := by decide +kernel
theorem dX12_takePicture_39 : decode cX12_takePicture 39 = .ok (.aload_n 0, 1) := by decide +kernel
theorem dX12_takePicture_40 : decode cX12_takePicture 40 = .ok (.invokevirtual 983, 3) := by decide +kernel
theorem dX12_takePicture_43 : decode cX12_takePicture 43 = .ok (.goto 4, 3) := by decide +kernel
theorem dX12_takePicture_46 : decode cX12_takePicture 46 = .ok (.lconst 0, 1) := by decide +kernel
theorem dX12_takePicture_47 : decode cX12_takePicture 47 = .ok (.lstore_n 1, 1) := by decide +kernel
theorem dX12_takePicture_48 : decode cX12_takePicture 48 = .ok (.aload_n 0, 1) := by decide +kernel
theorem dX12_takePicture_49 : decode cX12_takePicture 49 = .ok (.getfield 625, 3) := by decide +kernel
theorem dX12_takePicture_52 : decode cX12_takePicture 52 = .ok (.ifCond .ne 26, 3) := by decide +kernel
theorem dX12_takePicture_55 : decode cX12_takePicture 55 = .ok (.lload_n 1, 1) := by decide +kernel
theorem dX12_takePicture_56 : decode cX12_takePicture 56 = .ok (.lconst 0, 1) := by decide +kernel
theorem dX12_takePicture_57 : decode cX12_takePicture 57 = .ok (.lcmp, 1) := by decide +kernel
theorem dX12_takePicture_58 : decode cX12_takePicture 58 = .ok (.ifCond .lt 11, 3) := by decide +kernel
theorem dX12_takePicture_61 : decode cX12_takePicture 61 = .ok (.lload_n 1, 1) := by decide +kernel
theorem dX12_takePicture_62 : decode cX12_takePicture 62 = .ok (.ldc2_w 1007, 3) := by decide +kernel
theorem dX12_takePicture_65 : decode cX12_takePicture 65 = .ok (.lcmp, 1) := by decide +kernel
theorem dX12_takePicture_66 : decode cX12_takePicture 66 = .ok (.ifCond .le 12, 3) := by decide +kernel
theorem dX12_takePicture_69 : decode cX12_takePicture 69 = .ok (.aload_n 0, 1) := by decide +kernel
theorem dX12_takePicture_70 : decode cX12_takePicture 70 = .ok (.iconst 4, 1) := by decide +kernel
theorem dX12_takePicture_71 : decode cX12_takePicture 71 = .ok (.aload_n 0, 1) := by decide +kernel
theorem dX12_takePicture_72 : decode cX12_takePicture 72 = .ok (.getfield 978, 3) := by decide +kernel
theorem dX12_takePicture_75 : decode cX12_takePicture 75 = .ok (.invokevirtual 653, 3) := by decide +kernel
theorem dX12_takePicture_78 : decode cX12_takePicture 78 = .ok (.aload_n 0, 1) := by decide +kernel
theorem dX12_takePicture_79 : decode cX12_takePicture 79 = .ok (.getfield 183, 3) := by decide +kernel
theorem dX12_takePicture_82 : decode cX12_takePicture 82 = .ok (.iconst 4, 1) := by decide +kernel
theorem dX12_takePicture_83 : decode cX12_takePicture 83 = .ok (.aload_n 0, 1) := by decide +kernel
theorem dX12_takePicture_84 : decode cX12_takePicture 84 = .ok (.getfield 625, 3) := by decide +kernel
theorem dX12_takePicture_87 : decode cX12_takePicture 87 = .ok (.ifCond .ne 8, 3) := by decide +kernel
theorem dX12_takePicture_90 : decode cX12_takePicture 90 = .ok (.lload_n 1, 1) := by decide +kernel
theorem dX12_takePicture_91 : decode cX12_takePicture 91 = .ok (.l2i, 1) := by decide +kernel
theorem dX12_takePicture_92 : decode cX12_takePicture 92 = .ok (.goto 4, 3) := by decide +kernel
theorem dX12_takePicture_95 : decode cX12_takePicture 95 = .ok (.iconst 0, 1) := by decide +kernel
theorem dX12_takePicture_96 : decode cX12_takePicture 96 = .ok (.iastore, 1) := by decide +kernel
theorem dX12_takePicture_97 : decode cX12_takePicture 97 = .ok (.iconst 0, 1) := by decide +kernel
theorem dX12_takePicture_98 : decode cX12_takePicture 98 = .ok (.istore_n 3, 1) := by decide +kernel
theorem dX12_takePicture_99 : decode cX12_takePicture 99 = .ok (.iload_n 3, 1) := by decide +kernel
theorem dX12_takePicture_100 : decode cX12_takePicture 100 = .ok (.aload_n 0, 1) := by decide +kernel
theorem dX12_takePicture_101 : decode cX12_takePicture 101 = .ok (.getfield 183, 3) := by decide +kernel
theorem dX12_takePicture_104 : decode cX12_takePicture 104 = .ok (.iconst 4, 1) := by decide +kernel
theorem dX12_takePicture_105 : decode cX12_takePicture 105 = .ok (.iaload, 1) := by decide +kernel
theorem dX12_takePicture_106 : decode cX12_takePicture 106 = .ok (.if_icmp .ge 21, 3) := by decide +kernel
theorem dX12_takePicture_109 : decode cX12_takePicture 109 = .ok (.aload_n 0, 1) := by decide +kernel
theorem dX12_takePicture_110 : decode cX12_takePicture 110 = .ok (.getfield 625, 3) := by decide +kernel
theorem dX12_takePicture_113 : decode cX12_takePicture 113 = .ok (.ifCond .ne 14, 3) := by decide +kernel
theorem dX12_takePicture_116 : decode cX12_takePicture 116 = .ok (.aload_n 0, 1) := by decide +kernel
theorem dX12_takePicture_117 : decode cX12_takePicture 117 = .ok (.iload_n 3, 1) := by decide +kernel
theorem dX12_takePicture_118 : decode cX12_takePicture 118 = .ok (.invokevirtual 1009, 3) := by decide +kernel
theorem dX12_takePicture_121 : decode cX12_takePicture 121 = .ok (.iinc 3 1, 3) := by decide +kernel
theorem dX12_takePicture_124 : decode cX12_takePicture 124 = .ok (.goto (-25), 3) := by decide +kernel
theorem dX12_takePicture_127 : decode cX12_takePicture 127 = .ok (.aload_n 0, 1) := by decide +kernel
theorem dX12_takePicture_128 : decode cX12_takePicture 128 = .ok (.getfield 625, 3) := by decide +kernel
theorem dX12_takePicture_131 : decode cX12_takePicture 131 = .ok (.ifCond .ne 7, 3) := by decide +kernel
theorem dX12_takePicture_134 : decode cX12_takePicture 134 = .ok (.aload_n 0, 1) := by decide +kernel
theorem dX12_takePicture_135 : decode cX12_takePicture 135 = .ok (.invokevirtual 1012, 3) := by decide +kernel
theorem dX12_takePicture_138 : decode cX12_takePicture 138 = .ok (.aload_n 0, 1) := by decide +kernel
theorem dX12_takePicture_139 : decode cX12_takePicture 139 = .ok (.getfield 625, 3) := by decide +kernel
theorem dX12_takePicture_142 : decode cX12_takePicture 142 = .ok (.ifCond .ne 7, 3) := by decide +kernel
theorem dX12_takePicture_145 : decode cX12_takePicture 145 = .ok (.aload_n 0, 1) := by decide +kernel
theorem dX12_takePicture_146 : decode cX12_takePicture 146 = .ok (.invokevirtual 1015, 3) := by decide +kernel
theorem dX12_takePicture_149 : decode cX12_takePicture 149 = .ok (.aload_n 0, 1) := by decide +kernel
theorem dX12_takePicture_150 : decode cX12_takePicture 150 = .ok (.getfield 975, 3) := by decide +kernel
theorem dX12_takePicture_153 : decode cX12_takePicture 153 = .ok (.istore_n 3, 1) := by decide +kernel
theorem dX12_takePicture_154 : decode cX12_takePicture 154 = .ok (.aload_n 0, 1) := by decide +kernel
theorem dX12_takePicture_155 : decode cX12_takePicture 155 = .ok (.getfield 625, 3) := by decide +kernel
theorem dX12_takePicture_158 : decode cX12_takePicture 158 = .ok (.ifCond .ne 25, 3) := by decide +kernel
theorem dX12_takePicture_161 : decode cX12_takePicture 161 = .ok (.aload_n 0, 1) := by decide +kernel
theorem dX12_takePicture_162 : decode cX12_takePicture 162 = .ok (.getfield 975, 3) := by decide +kernel
theorem dX12_takePicture_165 : decode cX12_takePicture 165 = .ok (.iconst 4, 1) := by decide +kernel
theorem dX12_takePicture_166 : decode cX12_takePicture 166 = .ok (.iadd, 1) := by decide +kernel
theorem dX12_takePicture_167 : decode cX12_takePicture 167 = .ok (.aload_n 0, 1) := by decide +kernel
theorem dX12_takePicture_168 : decode cX12_takePicture 168 = .ok (.getfield 953, 3) := by decide +kernel
theorem dX12_takePicture_171 : decode cX12_takePicture 171 = .ok (.if_icmp .le 12, 3) := by decide +kernel
theorem dX12_takePicture_174 : decode cX12_takePicture 174 = .ok (.aload_n 0, 1) := by decide +kernel
theorem dX12_takePicture_175 : decode cX12_takePicture 175 = .ok (.iconst 1, 1) := by decide +kernel
theorem dX12_takePicture_176 : decode cX12_takePicture 176 = .ok (.aload_n 0, 1) := by decide +kernel
theorem dX12_takePicture_177 : decode cX12_takePicture 177 = .ok (.getfield 953, 3) := by decide +kernel
theorem dX12_takePicture_180 : decode cX12_takePicture 180 = .ok (.invokevirtual 653, 3) := by decide +kernel
theorem dX12_takePicture_183 : decode cX12_takePicture 183 = .ok (.aload_n 0, 1) := by decide +kernel
theorem dX12_takePicture_184 : decode cX12_takePicture 184 = .ok (.getfield 625, 3) := by decide +kernel
theorem dX12_takePicture_187 : decode cX12_takePicture 187 = .ok (.ifCond .ne 66, 3) := by decide +kernel
theorem dX12_takePicture_190 : decode cX12_takePicture 190 = .ok (.aload_n 0, 1) := by decide +kernel
theorem dX12_takePicture_191 : decode cX12_takePicture 191 = .ok (.getfield 369, 3) := by decide +kernel
theorem dX12_takePicture_194 : decode cX12_takePicture 194 = .ok (.iconst 0, 1) := by decide +kernel
theorem dX12_takePicture_195 : decode cX12_takePicture 195 = .ok (.iload_n 3, 1) := by decide +kernel
theorem dX12_takePicture_196 : decode cX12_takePicture 196 = .ok (.invokestatic 968, 3) := by decide +kernel
theorem dX12_takePicture_199 : decode cX12_takePicture 199 = .ok (.istore 4, 2) := by decide +kernel
theorem dX12_takePicture_201 : decode cX12_takePicture 201 = .ok (.iconst 0, 1) := by decide +kernel
theorem dX12_takePicture_202 : decode cX12_takePicture 202 = .ok (.istore 5, 2) := by decide +kernel
theorem dX12_takePicture_204 : decode cX12_takePicture 204 = .ok (.iload 5, 2) := by decide +kernel
theorem dX12_takePicture_206 : decode cX12_takePicture 206 = .ok (.iconst 4, 1) := by decide +kernel
theorem dX12_takePicture_207 : decode cX12_takePicture 207 = .ok (.if_icmp .ge 36, 3) := by decide +kernel
theorem dX12_takePicture_210 : decode cX12_takePicture 210 = .ok (.iload 4, 2) := by decide +kernel
theorem dX12_takePicture_212 : decode cX12_takePicture 212 = .ok (.bipush 8, 2) := by decide +kernel
theorem dX12_takePicture_214 : decode cX12_takePicture 214 = .ok (.iload 5, 2) := by decide +kernel
theorem dX12_takePicture_216 : decode cX12_takePicture 216 = .ok (.imul, 1) := by decide +kernel
theorem dX12_takePicture_217 : decode cX12_takePicture 217 = .ok (.ishr, 1) := by decide +kernel
theorem dX12_takePicture_218 : decode cX12_takePicture 218 = .ok (.i2b, 1) := by decide +kernel
theorem dX12_takePicture_219 : decode cX12_takePicture 219 = .ok (.aload_n 0, 1) := by decide +kernel
theorem dX12_takePicture_220 : decode cX12_takePicture 220 = .ok (.getfield 369, 3) := by decide +kernel
theorem dX12_takePicture_223 : decode cX12_takePicture 223 = .ok (.iload_n 3, 1) := by decide +kernel
theorem dX12_takePicture_224 : decode cX12_takePicture 224 = .ok (.iload 5, 2) := by decide +kernel
theorem dX12_takePicture_226 : decode cX12_takePicture 226 = .ok (.iadd, 1) := by decide +kernel
theorem dX12_takePicture_227 : decode cX12_takePicture 227 = .ok (.baload, 1) := by decide +kernel
theorem dX12_takePicture_228 : decode cX12_takePicture 228 = .ok (.if_icmp .eq 9, 3) := by decide +kernel
theorem dX12_takePicture_231 : decode cX12_takePicture 231 = .ok (.aload_n 0, 1) := by decide +kernel
theorem dX12_takePicture_232 : decode cX12_takePicture 232 = .ok (.iconst 5, 1) := by decide +kernel
theorem dX12_takePicture_233 : decode cX12_takePicture 233 = .ok (.iload_n 3, 1) := by decide +kernel
theorem dX12_takePicture_234 : decode cX12_takePicture 234 = .ok (.invokevirtual 653, 3) := by decide +kernel
theorem dX12_takePicture_237 : decode cX12_takePicture 237 = .ok (.iinc 5 1, 3) := by decide +kernel
theorem dX12_takePicture_240 : decode cX12_takePicture 240 = .ok (.goto (-36), 3) := by decide +kernel
theorem dX12_takePicture_243 : decode cX12_takePicture 243 = .ok (.aload_n 0, 1) := by decide +kernel
theorem dX12_takePicture_244 : decode cX12_takePicture 244 = .ok (.dup, 1) := by decide +kernel
theorem dX12_takePicture_245 : decode cX12_takePicture 245 = .ok (.getfield 975, 3) := by decide +kernel
theorem dX12_takePicture_248 : decode cX12_takePicture 248 = .ok (.iconst 4, 1) := by decide +kernel
theorem dX12_takePicture_249 : decode cX12_takePicture 249 = .ok (.iadd, 1) := by decide +kernel
theorem dX12_takePicture_250 : decode cX12_takePicture 250 = .ok (.putfield 975, 3) := by decide +kernel
theorem dX12_takePicture_253 : decode cX12_takePicture 253 = .ok (.aload_n 0, 1) := by decide +kernel
theorem dX12_takePicture_254 : decode cX12_takePicture 254 = .ok (.getfield 625, 3) := by decide +kernel
theorem dX12_takePicture_257 : decode cX12_takePicture 257 = .ok (.ifCond .ne 24, 3) := by decide +kernel
theorem dX12_takePicture_260 : decode cX12_takePicture 260 = .ok (.aload_n 0, 1) := by decide +kernel
theorem dX12_takePicture_261 : decode cX12_takePicture 261 = .ok (.getfield 975, 3) := by decide +kernel
theorem dX12_takePicture_264 : decode cX12_takePicture 264 = .ok (.aload_n 0, 1) := by decide +kernel
theorem dX12_takePicture_265 : decode cX12_takePicture 265 = .ok (.getfield 953, 3) := by decide +kernel
theorem dX12_takePicture_268 : decode cX12_takePicture 268 = .ok (.if_icmp .ge 13, 3) := by decide +kernel
theorem dX12_takePicture_271 : decode cX12_takePicture 271 = .ok (.aload_n 0, 1) := by decide +kernel
theorem dX12_takePicture_272 : decode cX12_takePicture 272 = .ok (.bipush 6, 2) := by decide +kernel
theorem dX12_takePicture_274 : decode cX12_takePicture 274 = .ok (.aload_n 0, 1) := by decide +kernel
theorem dX12_takePicture_275 : decode cX12_takePicture 275 = .ok (.getfield 975, 3) := by decide +kernel
theorem dX12_takePicture_278 : decode cX12_takePicture 278 = .ok (.invokevirtual 653, 3) := by decide +kernel
theorem dX12_takePicture_281 : decode cX12_takePicture 281 = .ok (.aload_n 0, 1) := by decide +kernel
theorem dX12_takePicture_282 : decode cX12_takePicture 282 = .ok (.getfield 625, 3) := by decide +kernel
theorem dX12_takePicture_285 : decode cX12_takePicture 285 = .ok (.ifCond .ne 7, 3) := by decide +kernel
theorem dX12_takePicture_288 : decode cX12_takePicture 288 = .ok (.aload_n 0, 1) := by decide +kernel
theorem dX12_takePicture_289 : decode cX12_takePicture 289 = .ok (.invokevirtual 1018, 3) := by decide +kernel
theorem dX12_takePicture_292 : decode cX12_takePicture 292 = .ok (.iconst 0, 1) := by decide +kernel
theorem dX12_takePicture_293 : decode cX12_takePicture 293 = .ok (.istore 4, 2) := by decide +kernel
theorem dX12_takePicture_295 : decode cX12_takePicture 295 = .ok (.iload 4, 2) := by decide +kernel
theorem dX12_takePicture_297 : decode cX12_takePicture 297 = .ok (.aload_n 0, 1) := by decide +kernel
theorem dX12_takePicture_298 : decode cX12_takePicture 298 = .ok (.getfield 183, 3) := by decide +kernel
theorem dX12_takePicture_301 : decode cX12_takePicture 301 = .ok (.iconst 4, 1) := by decide +kernel
theorem dX12_takePicture_302 : decode cX12_takePicture 302 = .ok (.iaload, 1) := by decide +kernel
theorem dX12_takePicture_303 : decode cX12_takePicture 303 = .ok (.if_icmp .ge 59, 3) := by decide +kernel
theorem dX12_takePicture_306 : decode cX12_takePicture 306 = .ok (.aload_n 0, 1) := by decide +kernel
theorem dX12_takePicture_307 : decode cX12_takePicture 307 = .ok (.getfield 625, 3) := by decide +kernel
theorem dX12_takePicture_310 : decode cX12_takePicture 310 = .ok (.ifCond .ne 52, 3) := by decide +kernel
theorem dX12_takePicture_313 : decode cX12_takePicture 313 = .ok (.aload_n 0, 1) := by decide +kernel
theorem dX12_takePicture_314 : decode cX12_takePicture 314 = .ok (.getfield 189, 3) := by decide +kernel
theorem dX12_takePicture_317 : decode cX12_takePicture 317 = .ok (.aload_n 0, 1) := by decide +kernel
theorem dX12_takePicture_318 : decode cX12_takePicture 318 = .ok (.iconst 4, 1) := by decide +kernel
theorem dX12_takePicture_319 : decode cX12_takePicture 319 = .ok (.iload 4, 2) := by decide +kernel
theorem dX12_takePicture_321 : decode cX12_takePicture 321 = .ok (.invokevirtual 545, 3) := by decide +kernel
theorem dX12_takePicture_324 : decode cX12_takePicture 324 = .ok (.iaload, 1) := by decide +kernel
theorem dX12_takePicture_325 : decode cX12_takePicture 325 = .ok (.istore 5, 2) := by decide +kernel
theorem dX12_takePicture_327 : decode cX12_takePicture 327 = .ok (.aload_n 0, 1) := by decide +kernel
theorem dX12_takePicture_328 : decode cX12_takePicture 328 = .ok (.iload 5, 2) := by decide +kernel
theorem dX12_takePicture_330 : decode cX12_takePicture 330 = .ok (.invokevirtual 416, 3) := by decide +kernel
theorem dX12_takePicture_333 : decode cX12_takePicture 333 = .ok (.ifCond .eq 23, 3) := by decide +kernel
theorem dX12_takePicture_336 : decode cX12_takePicture 336 = .ok (.aload_n 0, 1) := by decide +kernel
theorem dX12_takePicture_337 : decode cX12_takePicture 337 = .ok (.getfield 115, 3) := by decide +kernel
theorem dX12_takePicture_340 : decode cX12_takePicture 340 = .ok (.iload 5, 2) := by decide +kernel
theorem dX12_takePicture_342 : decode cX12_takePicture 342 = .ok (.iconst 1, 1) := by decide +kernel
theorem dX12_takePicture_343 : decode cX12_takePicture 343 = .ok (.bastore, 1) := by decide +kernel
theorem dX12_takePicture_344 : decode cX12_takePicture 344 = .ok (.aload_n 0, 1) := by decide +kernel
theorem dX12_takePicture_345 : decode cX12_takePicture 345 = .ok (.getfield 91, 3) := by decide +kernel
theorem dX12_takePicture_348 : decode cX12_takePicture 348 = .ok (.iload 5, 2) := by decide +kernel
theorem dX12_takePicture_350 : decode cX12_takePicture 350 = .ok (.iaload, 1) := by decide +kernel
theorem dX12_takePicture_351 : decode cX12_takePicture 351 = .ok (.istore 5, 2) := by decide +kernel
theorem dX12_takePicture_353 : decode cX12_takePicture 353 = .ok (.goto (-26), 3) := by decide +kernel
theorem dX12_takePicture_356 : decode cX12_takePicture 356 = .ok (.iinc 4 1, 3) := by decide +kernel
theorem dX12_takePicture_359 : decode cX12_takePicture 359 = .ok (.goto (-64), 3) := by decide +kernel
theorem dX12_takePicture_362 : decode cX12_takePicture 362 = .ok (.return_, 1) := by decide +kernel
theorem dX12_takeRecord_0 : decode cX12_takeRecord 0 = .ok (.aload_n 0, 1) := by decide +kernel
theorem dX12_takeRecord_1 : decode cX12_takeRecord 1 = .ok (.aload_n 0, 1) := by decide +kernel
theorem dX12_takeRecord_2 : decode cX12_takeRecord 2 = .ok (.getfield 372, 3) := by decide +kernel
theorem dX12_takeRecord_5 : decode cX12_takeRecord 5 = .ok (.iload_n 1, 1) := by decide +kernel
theorem dX12_takeRecord_6 : decode cX12_takeRecord 6 = .ok (.baload, 1) := by decide +kernel
theorem dX12_takeRecord_7 : decode cX12_takeRecord 7 = .ok (.sipush 255, 3) := by decide +kernel
theorem dX12_takeRecord_10 : decode cX12_takeRecord 10 = .ok (.iand, 1) := by decide +kernel
theorem dX12_takeRecord_11 : decode cX12_takeRecord 11 = .ok (.sipush 256, 3) := by decide +kernel
theorem dX12_takeRecord_14 : decode cX12_takeRecord 14 = .ok (.aload_n 0, 1) := by decide +kernel
theorem dX12_takeRecord_15 : decode cX12_takeRecord 15 = .ok (.getfield 372, 3) := by decide +kernel
theorem dX12_takeRecord_18 : decode cX12_takeRecord 18 = .ok (.iload_n 1, 1) := by decide +kernel
theorem dX12_takeRecord_19 : decode cX12_takeRecord 19 = .ok (.iconst 1, 1) := by decide +kernel
theorem dX12_takeRecord_20 : decode cX12_takeRecord 20 = .ok (.iadd, 1) := by decide +kernel
theorem dX12_takeRecord_21 : decode cX12_takeRecord 21 = .ok (.baload, 1) := by decide +kernel
theorem dX12_takeRecord_22 : decode cX12_takeRecord 22 = .ok (.sipush 255, 3) := by decide +kernel
theorem dX12_takeRecord_25 : decode cX12_takeRecord 25 = .ok (.iand, 1) := by decide +kernel
theorem dX12_takeRecord_26 : decode cX12_takeRecord 26 = .ok (.imul, 1) := by decide +kernel
theorem dX12_takeRecord_27 : decode cX12_takeRecord 27 = .ok (.iadd, 1) := by decide +kernel
theorem dX12_takeRecord_28 : decode cX12_takeRecord 28 = .ok (.putfield 953, 3) := by decide +kernel
theorem dX12_takeRecord_31 : decode cX12_takeRecord 31 = .ok (.iconst 0, 1) := by decide +kernel
theorem dX12_takeRecord_32 : decode cX12_takeRecord 32 = .ok (.istore_n 2, 1) := by decide +kernel
theorem dX12_takeRecord_33 : decode cX12_takeRecord 33 = .ok (.iload_n 2, 1) := by decide +kernel
theorem dX12_takeRecord_34 : decode cX12_takeRecord 34 = .ok (.aload_n 0, 1) := by decide +kernel
theorem dX12_takeRecord_35 : decode cX12_takeRecord 35 = .ok (.getfield 953, 3) := by decide +kernel
theorem dX12_takeRecord_38 : decode cX12_takeRecord 38 = .ok (.if_icmp .ge 25, 3) := by decide +kernel
theorem dX12_takeRecord_41 : decode cX12_takeRecord 41 = .ok (.aload_n 0, 1) := by decide +kernel
theorem dX12_takeRecord_42 : decode cX12_takeRecord 42 = .ok (.getfield 369, 3) := by decide +kernel
theorem dX12_takeRecord_45 : decode cX12_takeRecord 45 = .ok (.iload_n 2, 1) := by decide +kernel
theorem dX12_takeRecord_46 : decode cX12_takeRecord 46 = .ok (.aload_n 0, 1) := by decide +kernel
theorem dX12_takeRecord_47 : decode cX12_takeRecord 47 = .ok (.getfield 372, 3) := by decide +kernel
theorem dX12_takeRecord_50 : decode cX12_takeRecord 50 = .ok (.iload_n 1, 1) := by decide +kernel
theorem dX12_takeRecord_51 : decode cX12_takeRecord 51 = .ok (.iconst 2, 1) := by decide +kernel
theorem dX12_takeRecord_52 : decode cX12_takeRecord 52 = .ok (.iadd, 1) := by decide +kernel
theorem dX12_takeRecord_53 : decode cX12_takeRecord 53 = .ok (.iload_n 2, 1) := by decide +kernel
theorem dX12_takeRecord_54 : decode cX12_takeRecord 54 = .ok (.iadd, 1) := by decide +kernel
theorem dX12_takeRecord_55 : decode cX12_takeRecord 55 = .ok (.baload, 1) := by decide +kernel
theorem dX12_takeRecord_56 : decode cX12_takeRecord 56 = .ok (.bastore, 1) := by decide +kernel
theorem dX12_takeRecord_57 : decode cX12_takeRecord 57 = .ok (.iinc 2 1, 3) := by decide +kernel
theorem dX12_takeRecord_60 : decode cX12_takeRecord 60 = .ok (.goto (-27), 3) := by decide +kernel
theorem dX12_takeRecord_63 : decode cX12_takeRecord 63 = .ok (.return_, 1) := by decide +kernel
theorem dX12_takeRoots_0 : decode cX12_takeRoots 0 = .ok (.aload_n 0, 1) := by decide +kernel
theorem dX12_takeRoots_1 : decode cX12_takeRoots 1 = .ok (.invokevirtual 983, 3) := by decide +kernel
theorem dX12_takeRoots_4 : decode cX12_takeRoots 4 = .ok (.lstore_n 1, 1) := by decide +kernel
theorem dX12_takeRoots_5 : decode cX12_takeRoots 5 = .ok (.aload_n 0, 1) := by decide +kernel
theorem dX12_takeRoots_6 : decode cX12_takeRoots 6 = .ok (.getfield 625, 3) := by decide +kernel
theorem dX12_takeRoots_9 : decode cX12_takeRoots 9 = .ok (.ifCond .ne 26, 3) := by decide +kernel
theorem dX12_takeRoots_12 : decode cX12_takeRoots 12 = .ok (.lload_n 1, 1) := by decide +kernel
theorem dX12_takeRoots_13 : decode cX12_takeRoots 13 = .ok (.lconst 0, 1) := by decide +kernel
theorem dX12_takeRoots_14 : decode cX12_takeRoots 14 = .ok (.lcmp, 1) := by decide +kernel
theorem dX12_takeRoots_15 : decode cX12_takeRoots 15 = .ok (.ifCond .lt 11, 3) := by decide +kernel
theorem dX12_takeRoots_18 : decode cX12_takeRoots 18 = .ok (.lload_n 1, 1) := by decide +kernel
theorem dX12_takeRoots_19 : decode cX12_takeRoots 19 = .ok (.ldc2_w 997, 3) := by decide +kernel
theorem dX12_takeRoots_22 : decode cX12_takeRoots 22 = .ok (.lcmp, 1) := by decide +kernel
theorem dX12_takeRoots_23 : decode cX12_takeRoots 23 = .ok (.ifCond .le 12, 3) := by decide +kernel
theorem dX12_takeRoots_26 : decode cX12_takeRoots 26 = .ok (.aload_n 0, 1) := by decide +kernel
theorem dX12_takeRoots_27 : decode cX12_takeRoots 27 = .ok (.iconst 4, 1) := by decide +kernel
theorem dX12_takeRoots_28 : decode cX12_takeRoots 28 = .ok (.aload_n 0, 1) := by decide +kernel
theorem dX12_takeRoots_29 : decode cX12_takeRoots 29 = .ok (.getfield 978, 3) := by decide +kernel
theorem dX12_takeRoots_32 : decode cX12_takeRoots 32 = .ok (.invokevirtual 653, 3) := by decide +kernel
theorem dX12_takeRoots_35 : decode cX12_takeRoots 35 = .ok (.aload_n 0, 1) := by decide +kernel
theorem dX12_takeRoots_36 : decode cX12_takeRoots 36 = .ok (.getfield 234, 3) := by decide +kernel
theorem dX12_takeRoots_39 : decode cX12_takeRoots 39 = .ok (.iconst 4, 1) := by decide +kernel
theorem dX12_takeRoots_40 : decode cX12_takeRoots 40 = .ok (.iconst 0, 1) := by decide +kernel
theorem dX12_takeRoots_41 : decode cX12_takeRoots 41 = .ok (.iastore, 1) := by decide +kernel
theorem dX12_takeRoots_42 : decode cX12_takeRoots 42 = .ok (.ldc2_w 433, 3) := by decide +kernel
theorem dX12_takeRoots_45 : decode cX12_takeRoots 45 = .ok (.lstore_n 3, 1) := by decide +kernel
theorem dX12_takeRoots_46 : decode cX12_takeRoots 46 = .ok (.iconst 0, 1) := by decide +kernel
theorem dX12_takeRoots_47 : decode cX12_takeRoots 47 = .ok (.istore 5, 2) := by decide +kernel
theorem dX12_takeRoots_49 : decode cX12_takeRoots 49 = .ok (.iload 5, 2) := by decide +kernel
theorem dX12_takeRoots_51 : decode cX12_takeRoots 51 = .ok (.i2l, 1) := by decide +kernel
theorem dX12_takeRoots_52 : decode cX12_takeRoots 52 = .ok (.lload_n 1, 1) := by decide +kernel
theorem dX12_takeRoots_53 : decode cX12_takeRoots 53 = .ok (.lcmp, 1) := by decide +kernel
theorem dX12_takeRoots_54 : decode cX12_takeRoots 54 = .ok (.ifCond .ge 128, 3) := by decide +kernel
theorem dX12_takeRoots_57 : decode cX12_takeRoots 57 = .ok (.aload_n 0, 1) := by decide +kernel
theorem dX12_takeRoots_58 : decode cX12_takeRoots 58 = .ok (.getfield 625, 3) := by decide +kernel
theorem dX12_takeRoots_61 : decode cX12_takeRoots 61 = .ok (.ifCond .ne 121, 3) := by decide +kernel
theorem dX12_takeRoots_64 : decode cX12_takeRoots 64 = .ok (.aload_n 0, 1) := by decide +kernel
theorem dX12_takeRoots_65 : decode cX12_takeRoots 65 = .ok (.invokevirtual 983, 3) := by decide +kernel
theorem dX12_takeRoots_68 : decode cX12_takeRoots 68 = .ok (.lstore 6, 2) := by decide +kernel
theorem dX12_takeRoots_70 : decode cX12_takeRoots 70 = .ok (.aload_n 0, 1) := by decide +kernel
theorem dX12_takeRoots_71 : decode cX12_takeRoots 71 = .ok (.getfield 625, 3) := by decide +kernel
theorem dX12_takeRoots_74 : decode cX12_takeRoots 74 = .ok (.ifCond .ne 28, 3) := by decide +kernel
theorem dX12_takeRoots_77 : decode cX12_takeRoots 77 = .ok (.lload 6, 2) := by decide +kernel
theorem dX12_takeRoots_79 : decode cX12_takeRoots 79 = .ok (.lload_n 3, 1) := by decide +kernel
theorem dX12_takeRoots_80 : decode cX12_takeRoots 80 = .ok (.lcmp, 1) := by decide +kernel
theorem dX12_takeRoots_81 : decode cX12_takeRoots 81 = .ok (.ifCond .le 12, 3) := by decide +kernel
theorem dX12_takeRoots_84 : decode cX12_takeRoots 84 = .ok (.lload 6, 2) := by decide +kernel
theorem dX12_takeRoots_86 : decode cX12_takeRoots 86 = .ok (.ldc2_w 999, 3) := by decide +kernel
theorem dX12_takeRoots_89 : decode cX12_takeRoots 89 = .ok (.lcmp, 1) := by decide +kernel
theorem dX12_takeRoots_90 : decode cX12_takeRoots 90 = .ok (.ifCond .le 12, 3) := by decide +kernel
theorem dX12_takeRoots_93 : decode cX12_takeRoots 93 = .ok (.aload_n 0, 1) := by decide +kernel
theorem dX12_takeRoots_94 : decode cX12_takeRoots 94 = .ok (.iconst 4, 1) := by decide +kernel
theorem dX12_takeRoots_95 : decode cX12_takeRoots 95 = .ok (.aload_n 0, 1) := by decide +kernel
theorem dX12_takeRoots_96 : decode cX12_takeRoots 96 = .ok (.getfield 978, 3) := by decide +kernel
theorem dX12_takeRoots_99 : decode cX12_takeRoots 99 = .ok (.invokevirtual 653, 3) := by decide +kernel
theorem dX12_takeRoots_102 : decode cX12_takeRoots 102 = .ok (.lload 6, 2) := by decide +kernel
theorem dX12_takeRoots_104 : decode cX12_takeRoots 104 = .ok (.lstore_n 3, 1) := by decide +kernel
theorem dX12_takeRoots_105 : decode cX12_takeRoots 105 = .ok (.aload_n 0, 1) := by decide +kernel
theorem dX12_takeRoots_106 : decode cX12_takeRoots 106 = .ok (.getfield 625, 3) := by decide +kernel
theorem dX12_takeRoots_109 : decode cX12_takeRoots 109 = .ok (.ifCond .ne 10, 3) := by decide +kernel
theorem dX12_takeRoots_112 : decode cX12_takeRoots 112 = .ok (.aload_n 0, 1) := by decide +kernel
theorem dX12_takeRoots_113 : decode cX12_takeRoots 113 = .ok (.invokevirtual 983, 3) := by decide +kernel
theorem dX12_takeRoots_116 : decode cX12_takeRoots 116 = .ok (.goto 4, 3) := by decide +kernel
theorem dX12_takeRoots_119 : decode cX12_takeRoots 119 = .ok (.lconst 0, 1) := by decide +kernel
theorem dX12_takeRoots_120 : decode cX12_takeRoots 120 = .ok (.lstore 8, 2) := by decide +kernel
theorem dX12_takeRoots_122 : decode cX12_takeRoots 122 = .ok (.aload_n 0, 1) := by decide +kernel
theorem dX12_takeRoots_123 : decode cX12_takeRoots 123 = .ok (.getfield 625, 3) := by decide +kernel
theorem dX12_takeRoots_126 : decode cX12_takeRoots 126 = .ok (.ifCond .ne 32, 3) := by decide +kernel
theorem dX12_takeRoots_129 : decode cX12_takeRoots 129 = .ok (.lload 8, 2) := by decide +kernel
theorem dX12_takeRoots_131 : decode cX12_takeRoots 131 = .ok (.lconst 0, 1) := by decide +kernel
theorem dX12_takeRoots_132 : decode cX12_takeRoots 132 = .ok (.lcmp, 1) := by decide +kernel
theorem dX12_takeRoots_133 : decode cX12_takeRoots 133 = .ok (.ifCond .lt 16, 3) := by decide +kernel
theorem dX12_takeRoots_136 : decode cX12_takeRoots 136 = .ok (.lload 8, 2) := by decide +kernel
theorem dX12_takeRoots_138 : decode cX12_takeRoots 138 = .ok (.aload_n 0, 1) := by decide +kernel
theorem dX12_takeRoots_139 : decode cX12_takeRoots 139 = .ok (.getfield 183, 3) := by decide +kernel
theorem dX12_takeRoots_142 : decode cX12_takeRoots 142 = .ok (.iconst 4, 1) := by decide +kernel
theorem dX12_takeRoots_143 : decode cX12_takeRoots 143 = .ok (.iaload, 1) := by decide +kernel
theorem dX12_takeRoots_144 : decode cX12_takeRoots 144 = .ok (.i2l, 1) := by decide +kernel
theorem dX12_takeRoots_145 : decode cX12_takeRoots 145 = .ok (.lcmp, 1) := by decide +kernel
theorem dX12_takeRoots_146 : decode cX12_takeRoots 146 = .ok (.ifCond .lt 12, 3) := by decide +kernel
theorem dX12_takeRoots_149 : decode cX12_takeRoots 149 = .ok (.aload_n 0, 1) := by decide +kernel
theorem dX12_takeRoots_150 : decode cX12_takeRoots 150 = .ok (.iconst 4, 1) := by decide +kernel
theorem dX12_takeRoots_151 : decode cX12_takeRoots 151 = .ok (.aload_n 0, 1) := by decide +kernel
theorem dX12_takeRoots_152 : decode cX12_takeRoots 152 = .ok (.getfield 978, 3) := by decide +kernel
theorem dX12_takeRoots_155 : decode cX12_takeRoots 155 = .ok (.invokevirtual 653, 3) := by decide +kernel
theorem dX12_takeRoots_158 : decode cX12_takeRoots 158 = .ok (.aload_n 0, 1) := by decide +kernel
theorem dX12_takeRoots_159 : decode cX12_takeRoots 159 = .ok (.getfield 625, 3) := by decide +kernel
theorem dX12_takeRoots_162 : decode cX12_takeRoots 162 = .ok (.ifCond .ne 14, 3) := by decide +kernel
theorem dX12_takeRoots_165 : decode cX12_takeRoots 165 = .ok (.aload_n 0, 1) := by decide +kernel
theorem dX12_takeRoots_166 : decode cX12_takeRoots 166 = .ok (.iconst 4, 1) := by decide +kernel
theorem dX12_takeRoots_167 : decode cX12_takeRoots 167 = .ok (.lload 6, 2) := by decide +kernel
theorem dX12_takeRoots_169 : decode cX12_takeRoots 169 = .ok (.l2i, 1) := by decide +kernel
theorem dX12_takeRoots_170 : decode cX12_takeRoots 170 = .ok (.lload 8, 2) := by decide +kernel
theorem dX12_takeRoots_172 : decode cX12_takeRoots 172 = .ok (.l2i, 1) := by decide +kernel
theorem dX12_takeRoots_173 : decode cX12_takeRoots 173 = .ok (.invokevirtual 548, 3) := by decide +kernel
theorem dX12_takeRoots_176 : decode cX12_takeRoots 176 = .ok (.iinc 5 1, 3) := by decide +kernel
theorem dX12_takeRoots_179 : decode cX12_takeRoots 179 = .ok (.goto (-130), 3) := by decide +kernel
theorem dX12_takeRoots_182 : decode cX12_takeRoots 182 = .ok (.return_, 1) := by decide +kernel
theorem dX12_takeSlot_0 : decode cX12_takeSlot 0 = .ok (.aload_n 0, 1) := by decide +kernel
theorem dX12_takeSlot_1 : decode cX12_takeSlot 1 = .ok (.invokevirtual 983, 3) := by decide +kernel
theorem dX12_takeSlot_4 : decode cX12_takeSlot 4 = .ok (.lstore_n 3, 1) := by decide +kernel
theorem dX12_takeSlot_5 : decode cX12_takeSlot 5 = .ok (.aload_n 0, 1) := by decide +kernel
theorem dX12_takeSlot_6 : decode cX12_takeSlot 6 = .ok (.getfield 195, 3) := by decide +kernel
theorem dX12_takeSlot_9 : decode cX12_takeSlot 9 = .ok (.aload_n 0, 1) := by decide +kernel
theorem dX12_takeSlot_10 : decode cX12_takeSlot 10 = .ok (.iconst 4, 1) := by decide +kernel
theorem dX12_takeSlot_11 : decode cX12_takeSlot 11 = .ok (.iload_n 1, 1) := by decide +kernel
theorem dX12_takeSlot_12 : decode cX12_takeSlot 12 = .ok (.invokevirtual 545, 3) := by decide +kernel
theorem dX12_takeSlot_15 : decode cX12_takeSlot 15 = .ok (.iaload, 1) := by decide +kernel
theorem dX12_takeSlot_16 : decode cX12_takeSlot 16 = .ok (.iload_n 2, 1) := by decide +kernel
theorem dX12_takeSlot_17 : decode cX12_takeSlot 17 = .ok (.iadd, 1) := by decide +kernel
theorem dX12_takeSlot_18 : decode cX12_takeSlot 18 = .ok (.istore 5, 2) := by decide +kernel
theorem dX12_takeSlot_20 : decode cX12_takeSlot 20 = .ok (.aload_n 0, 1) := by decide +kernel
theorem dX12_takeSlot_21 : decode cX12_takeSlot 21 = .ok (.getfield 378, 3) := by decide +kernel
theorem dX12_takeSlot_24 : decode cX12_takeSlot 24 = .ok (.iload 5, 2) := by decide +kernel
theorem dX12_takeSlot_26 : decode cX12_takeSlot 26 = .ok (.aload_n 0, 1) := by decide +kernel
theorem dX12_takeSlot_27 : decode cX12_takeSlot 27 = .ok (.getfield 978, 3) := by decide +kernel
theorem dX12_takeSlot_30 : decode cX12_takeSlot 30 = .ok (.iastore, 1) := by decide +kernel
theorem dX12_takeSlot_31 : decode cX12_takeSlot 31 = .ok (.aload_n 0, 1) := by decide +kernel
theorem dX12_takeSlot_32 : decode cX12_takeSlot 32 = .ok (.getfield 625, 3) := by decide +kernel
theorem dX12_takeSlot_35 : decode cX12_takeSlot 35 = .ok (.ifCond .le 4, 3) := by decide +kernel
theorem dX12_takeSlot_38 : decode cX12_takeSlot 38 = .ok (.return_, 1) := by decide +kernel
theorem dX12_takeSlot_39 : decode cX12_takeSlot 39 = .ok (.aload_n 0, 1) := by decide +kernel
theorem dX12_takeSlot_40 : decode cX12_takeSlot 40 = .ok (.iconst 4, 1) := by decide +kernel
theorem dX12_takeSlot_41 : decode cX12_takeSlot 41 = .ok (.iload_n 1, 1) := by decide +kernel
theorem dX12_takeSlot_42 : decode cX12_takeSlot 42 = .ok (.iload_n 2, 1) := by decide +kernel
theorem dX12_takeSlot_43 : decode cX12_takeSlot 43 = .ok (.invokevirtual 573, 3) := by decide +kernel
theorem dX12_takeSlot_46 : decode cX12_takeSlot 46 = .ok (.ifCond .eq 45, 3) := by decide +kernel
theorem dX12_takeSlot_49 : decode cX12_takeSlot 49 = .ok (.lload_n 3, 1) := by decide +kernel
theorem dX12_takeSlot_50 : decode cX12_takeSlot 50 = .ok (.lconst 0, 1) := by decide +kernel
theorem dX12_takeSlot_51 : decode cX12_takeSlot 51 = .ok (.lcmp, 1) := by decide +kernel
theorem dX12_takeSlot_52 : decode cX12_takeSlot 52 = .ok (.ifCond .lt 15, 3) := by decide +kernel
theorem dX12_takeSlot_55 : decode cX12_takeSlot 55 = .ok (.lload_n 3, 1) := by decide +kernel
theorem dX12_takeSlot_56 : decode cX12_takeSlot 56 = .ok (.aload_n 0, 1) := by decide +kernel
theorem dX12_takeSlot_57 : decode cX12_takeSlot 57 = .ok (.getfield 183, 3) := by decide +kernel
theorem dX12_takeSlot_60 : decode cX12_takeSlot 60 = .ok (.iconst 4, 1) := by decide +kernel
theorem dX12_takeSlot_61 : decode cX12_takeSlot 61 = .ok (.iaload, 1) := by decide +kernel
theorem dX12_takeSlot_62 : decode cX12_takeSlot 62 = .ok (.i2l, 1) := by decide +kernel
theorem dX12_takeSlot_63 : decode cX12_takeSlot 63 = .ok (.lcmp, 1) := by decide +kernel
theorem dX12_takeSlot_64 : decode cX12_takeSlot 64 = .ok (.ifCond .le 12, 3) := by decide +kernel
theorem dX12_takeSlot_67 : decode cX12_takeSlot 67 = .ok (.aload_n 0, 1) := by decide +kernel
theorem dX12_takeSlot_68 : decode cX12_takeSlot 68 = .ok (.iconst 4, 1) := by decide +kernel
theorem dX12_takeSlot_69 : decode cX12_takeSlot 69 = .ok (.aload_n 0, 1) := by decide +kernel
theorem dX12_takeSlot_70 : decode cX12_takeSlot 70 = .ok (.getfield 978, 3) := by decide +kernel
theorem dX12_takeSlot_73 : decode cX12_takeSlot 73 = .ok (.invokevirtual 653, 3) := by decide +kernel
theorem dX12_takeSlot_76 : decode cX12_takeSlot 76 = .ok (.aload_n 0, 1) := by decide +kernel
theorem dX12_takeSlot_77 : decode cX12_takeSlot 77 = .ok (.getfield 243, 3) := by decide +kernel
theorem dX12_takeSlot_80 : decode cX12_takeSlot 80 = .ok (.sipush 16000, 3) := by decide +kernel
theorem dX12_takeSlot_83 : decode cX12_takeSlot 83 = .ok (.iload 5, 2) := by decide +kernel
theorem dX12_takeSlot_85 : decode cX12_takeSlot 85 = .ok (.iadd, 1) := by decide +kernel
theorem dX12_takeSlot_86 : decode cX12_takeSlot 86 = .ok (.lload_n 3, 1) := by decide +kernel
theorem dX12_takeSlot_87 : decode cX12_takeSlot 87 = .ok (.lconst 1, 1) := by decide +kernel
theorem dX12_takeSlot_88 : decode cX12_takeSlot 88 = .ok (.lsub, 1) := by decide +kernel
theorem dX12_takeSlot_89 : decode cX12_takeSlot 89 = .ok (.lastore, 1) := by decide +kernel
theorem dX12_takeSlot_90 : decode cX12_takeSlot 90 = .ok (.return_, 1) := by decide +kernel
theorem dX12_takeSlot_91 : decode cX12_takeSlot 91 = .ok (.lload_n 3, 1) := by decide +kernel
theorem dX12_takeSlot_92 : decode cX12_takeSlot 92 = .ok (.lconst 1, 1) := by decide +kernel
theorem dX12_takeSlot_93 : decode cX12_takeSlot 93 = .ok (.land, 1) := by decide +kernel
theorem dX12_takeSlot_94 : decode cX12_takeSlot 94 = .ok (.lconst 0, 1) := by decide +kernel
theorem dX12_takeSlot_95 : decode cX12_takeSlot 95 = .ok (.lcmp, 1) := by decide +kernel
theorem dX12_takeSlot_96 : decode cX12_takeSlot 96 = .ok (.ifCond .ne 9, 3) := by decide +kernel
theorem dX12_takeSlot_99 : decode cX12_takeSlot 99 = .ok (.lload_n 3, 1) := by decide +kernel
theorem dX12_takeSlot_100 : decode cX12_takeSlot 100 = .ok (.iconst 1, 1) := by decide +kernel
theorem dX12_takeSlot_101 : decode cX12_takeSlot 101 = .ok (.lushr, 1) := by decide +kernel
theorem dX12_takeSlot_102 : decode cX12_takeSlot 102 = .ok (.goto 9, 3) := by decide +kernel
theorem dX12_takeSlot_105 : decode cX12_takeSlot 105 = .ok (.lload_n 3, 1) := by decide +kernel
theorem dX12_takeSlot_106 : decode cX12_takeSlot 106 = .ok (.iconst 1, 1) := by decide +kernel
theorem dX12_takeSlot_107 : decode cX12_takeSlot 107 = .ok (.lushr, 1) := by decide +kernel
theorem dX12_takeSlot_108 : decode cX12_takeSlot 108 = .ok (.lneg, 1) := by decide +kernel
theorem dX12_takeSlot_109 : decode cX12_takeSlot 109 = .ok (.lconst 1, 1) := by decide +kernel
theorem dX12_takeSlot_110 : decode cX12_takeSlot 110 = .ok (.lsub, 1) := by decide +kernel
theorem dX12_takeSlot_111 : decode cX12_takeSlot 111 = .ok (.lstore 6, 2) := by decide +kernel
theorem dX12_takeSlot_113 : decode cX12_takeSlot 113 = .ok (.aload_n 0, 1) := by decide +kernel
theorem dX12_takeSlot_114 : decode cX12_takeSlot 114 = .ok (.aload_n 0, 1) := by decide +kernel
theorem dX12_takeSlot_115 : decode cX12_takeSlot 115 = .ok (.getfield 189, 3) := by decide +kernel
theorem dX12_takeSlot_118 : decode cX12_takeSlot 118 = .ok (.aload_n 0, 1) := by decide +kernel
theorem dX12_takeSlot_119 : decode cX12_takeSlot 119 = .ok (.iconst 4, 1) := by decide +kernel
theorem dX12_takeSlot_120 : decode cX12_takeSlot 120 = .ok (.iload_n 1, 1) := by decide +kernel
theorem dX12_takeSlot_121 : decode cX12_takeSlot 121 = .ok (.invokevirtual 545, 3) := by decide +kernel
theorem dX12_takeSlot_124 : decode cX12_takeSlot 124 = .ok (.iaload, 1) := by decide +kernel
theorem dX12_takeSlot_125 : decode cX12_takeSlot 125 = .ok (.iload_n 2, 1) := by decide +kernel
theorem dX12_takeSlot_126 : decode cX12_takeSlot 126 = .ok (.invokevirtual 458, 3) := by decide +kernel
theorem dX12_takeSlot_129 : decode cX12_takeSlot 129 = .ok (.istore 8, 2) := by decide +kernel
theorem dX12_takeSlot_131 : decode cX12_takeSlot 131 = .ok (.aload_n 0, 1) := by decide +kernel
theorem dX12_takeSlot_132 : decode cX12_takeSlot 132 = .ok (.iload 8, 2) := by decide +kernel
theorem dX12_takeSlot_134 : decode cX12_takeSlot 134 = .ok (.iconst (-1), 1) := by decide +kernel
theorem dX12_takeSlot_135 : decode cX12_takeSlot 135 = .ok (.lload 6, 2) := by decide +kernel
theorem dX12_takeSlot_137 : decode cX12_takeSlot 137 = .ok (.invokevirtual 495, 3) := by decide +kernel
theorem dX12_takeSlot_140 : decode cX12_takeSlot 140 = .ok (.ifCond .ne 12, 3) := by decide +kernel
theorem dX12_takeSlot_143 : decode cX12_takeSlot 143 = .ok (.aload_n 0, 1) := by decide +kernel
theorem dX12_takeSlot_144 : decode cX12_takeSlot 144 = .ok (.iconst 4, 1) := by decide +kernel
theorem dX12_takeSlot_145 : decode cX12_takeSlot 145 = .ok (.aload_n 0, 1) := by decide +kernel
theorem dX12_takeSlot_146 : decode cX12_takeSlot 146 = .ok (.getfield 978, 3) := by decide +kernel
theorem dX12_takeSlot_149 : decode cX12_takeSlot 149 = .ok (.invokevirtual 653, 3) := by decide +kernel
theorem dX12_takeSlot_152 : decode cX12_takeSlot 152 = .ok (.aload_n 0, 1) := by decide +kernel
theorem dX12_takeSlot_153 : decode cX12_takeSlot 153 = .ok (.getfield 243, 3) := by decide +kernel
theorem dX12_takeSlot_156 : decode cX12_takeSlot 156 = .ok (.sipush 16000, 3) := by decide +kernel
theorem dX12_takeSlot_159 : decode cX12_takeSlot 159 = .ok (.iload 5, 2) := by decide +kernel
theorem dX12_takeSlot_161 : decode cX12_takeSlot 161 = .ok (.iadd, 1) := by decide +kernel
theorem dX12_takeSlot_162 : decode cX12_takeSlot 162 = .ok (.lload 6, 2) := by decide +kernel
theorem dX12_takeSlot_164 : decode cX12_takeSlot 164 = .ok (.lastore, 1) := by decide +kernel
theorem dX12_takeSlot_165 : decode cX12_takeSlot 165 = .ok (.return_, 1) := by decide +kernel
theorem dX12_takeThing_0 : decode cX12_takeThing 0 = .ok (.aload_n 0, 1) := by decide +kernel
theorem dX12_takeThing_1 : decode cX12_takeThing 1 = .ok (.invokevirtual 983, 3) := by decide +kernel
theorem dX12_takeThing_4 : decode cX12_takeThing 4 = .ok (.lstore_n 2, 1) := by decide +kernel
theorem dX12_takeThing_5 : decode cX12_takeThing 5 = .ok (.iconst 0, 1) := by decide +kernel
theorem dX12_takeThing_6 : decode cX12_takeThing 6 = .ok (.istore 4, 2) := by decide +kernel
theorem dX12_takeThing_8 : decode cX12_takeThing 8 = .ok (.aload_n 0, 1) := by decide +kernel
theorem dX12_takeThing_9 : decode cX12_takeThing 9 = .ok (.getfield 375, 3) := by decide +kernel
theorem dX12_takeThing_12 : decode cX12_takeThing 12 = .ok (.iload_n 1, 1) := by decide +kernel
theorem dX12_takeThing_13 : decode cX12_takeThing 13 = .ok (.aload_n 0, 1) := by decide +kernel
theorem dX12_takeThing_14 : decode cX12_takeThing 14 = .ok (.getfield 978, 3) := by decide +kernel
theorem dX12_takeThing_17 : decode cX12_takeThing 17 = .ok (.iastore, 1) := by decide +kernel
theorem dX12_takeThing_18 : decode cX12_takeThing 18 = .ok (.iconst 0, 1) := by decide +kernel
theorem dX12_takeThing_19 : decode cX12_takeThing 19 = .ok (.istore 5, 2) := by decide +kernel
theorem dX12_takeThing_21 : decode cX12_takeThing 21 = .ok (.iload 5, 2) := by decide +kernel
theorem dX12_takeThing_23 : decode cX12_takeThing 23 = .ok (.iload_n 1, 1) := by decide +kernel
theorem dX12_takeThing_24 : decode cX12_takeThing 24 = .ok (.if_icmp .ge 39, 3) := by decide +kernel
theorem dX12_takeThing_27 : decode cX12_takeThing 27 = .ok (.iload 4, 2) := by decide +kernel
theorem dX12_takeThing_29 : decode cX12_takeThing 29 = .ok (.ifCond .ne 21, 3) := by decide +kernel
theorem dX12_takeThing_32 : decode cX12_takeThing 32 = .ok (.aload_n 0, 1) := by decide +kernel
theorem dX12_takeThing_33 : decode cX12_takeThing 33 = .ok (.getfield 186, 3) := by decide +kernel
theorem dX12_takeThing_36 : decode cX12_takeThing 36 = .ok (.aload_n 0, 1) := by decide +kernel
theorem dX12_takeThing_37 : decode cX12_takeThing 37 = .ok (.iconst 4, 1) := by decide +kernel
theorem dX12_takeThing_38 : decode cX12_takeThing 38 = .ok (.iload 5, 2) := by decide +kernel
theorem dX12_takeThing_40 : decode cX12_takeThing 40 = .ok (.invokevirtual 545, 3) := by decide +kernel
theorem dX12_takeThing_43 : decode cX12_takeThing 43 = .ok (.iaload, 1) := by decide +kernel
theorem dX12_takeThing_44 : decode cX12_takeThing 44 = .ok (.i2l, 1) := by decide +kernel
theorem dX12_takeThing_45 : decode cX12_takeThing 45 = .ok (.lload_n 2, 1) := by decide +kernel
theorem dX12_takeThing_46 : decode cX12_takeThing 46 = .ok (.lcmp, 1) := by decide +kernel
theorem dX12_takeThing_47 : decode cX12_takeThing 47 = .ok (.ifCond .ne 7, 3) := by decide +kernel
theorem dX12_takeThing_50 : decode cX12_takeThing 50 = .ok (.iconst 1, 1) := by decide +kernel
theorem dX12_takeThing_51 : decode cX12_takeThing 51 = .ok (.goto 4, 3) := by decide +kernel
theorem dX12_takeThing_54 : decode cX12_takeThing 54 = .ok (.iconst 0, 1) := by decide +kernel
theorem dX12_takeThing_55 : decode cX12_takeThing 55 = .ok (.istore 4, 2) := by decide +kernel
theorem dX12_takeThing_57 : decode cX12_takeThing 57 = .ok (.iinc 5 1, 3) := by decide +kernel
theorem dX12_takeThing_60 : decode cX12_takeThing 60 = .ok (.goto (-39), 3) := by decide +kernel
theorem dX12_takeThing_63 : decode cX12_takeThing 63 = .ok (.aload_n 0, 1) := by decide +kernel
theorem dX12_takeThing_64 : decode cX12_takeThing 64 = .ok (.getfield 625, 3) := by decide +kernel
theorem dX12_takeThing_67 : decode cX12_takeThing 67 = .ok (.ifCond .ne 31, 3) := by decide +kernel
theorem dX12_takeThing_70 : decode cX12_takeThing 70 = .ok (.lload_n 2, 1) := by decide +kernel
theorem dX12_takeThing_71 : decode cX12_takeThing 71 = .ok (.lconst 0, 1) := by decide +kernel
theorem dX12_takeThing_72 : decode cX12_takeThing 72 = .ok (.lcmp, 1) := by decide +kernel
theorem dX12_takeThing_73 : decode cX12_takeThing 73 = .ok (.ifCond .lt 16, 3) := by decide +kernel
theorem dX12_takeThing_76 : decode cX12_takeThing 76 = .ok (.lload_n 2, 1) := by decide +kernel
theorem dX12_takeThing_77 : decode cX12_takeThing 77 = .ok (.ldc2_w 986, 3) := by decide +kernel
theorem dX12_takeThing_80 : decode cX12_takeThing 80 = .ok (.lcmp, 1) := by decide +kernel
theorem dX12_takeThing_81 : decode cX12_takeThing 81 = .ok (.ifCond .gt 8, 3) := by decide +kernel
theorem dX12_takeThing_84 : decode cX12_takeThing 84 = .ok (.iload 4, 2) := by decide +kernel
theorem dX12_takeThing_86 : decode cX12_takeThing 86 = .ok (.ifCond .eq 12, 3) := by decide +kernel
theorem dX12_takeThing_89 : decode cX12_takeThing 89 = .ok (.aload_n 0, 1) := by decide +kernel
theorem dX12_takeThing_90 : decode cX12_takeThing 90 = .ok (.iconst 4, 1) := by decide +kernel
theorem dX12_takeThing_91 : decode cX12_takeThing 91 = .ok (.aload_n 0, 1) := by decide +kernel
theorem dX12_takeThing_92 : decode cX12_takeThing 92 = .ok (.getfield 978, 3) := by decide +kernel
theorem dX12_takeThing_95 : decode cX12_takeThing 95 = .ok (.invokevirtual 653, 3) := by decide +kernel
theorem dX12_takeThing_98 : decode cX12_takeThing 98 = .ok (.aload_n 0, 1) := by decide +kernel
theorem dX12_takeThing_99 : decode cX12_takeThing 99 = .ok (.getfield 625, 3) := by decide +kernel
theorem dX12_takeThing_102 : decode cX12_takeThing 102 = .ok (.ifCond .le 4, 3) := by decide +kernel
theorem dX12_takeThing_105 : decode cX12_takeThing 105 = .ok (.return_, 1) := by decide +kernel
theorem dX12_takeThing_106 : decode cX12_takeThing 106 = .ok (.aload_n 0, 1) := by decide +kernel
theorem dX12_takeThing_107 : decode cX12_takeThing 107 = .ok (.getfield 186, 3) := by decide +kernel
theorem dX12_takeThing_110 : decode cX12_takeThing 110 = .ok (.aload_n 0, 1) := by decide +kernel
theorem dX12_takeThing_111 : decode cX12_takeThing 111 = .ok (.iconst 4, 1) := by decide +kernel
theorem dX12_takeThing_112 : decode cX12_takeThing 112 = .ok (.iload_n 1, 1) := by decide +kernel
theorem dX12_takeThing_113 : decode cX12_takeThing 113 = .ok (.invokevirtual 545, 3) := by decide +kernel
theorem dX12_takeThing_116 : decode cX12_takeThing 116 = .ok (.lload_n 2, 1) := by decide +kernel
theorem dX12_takeThing_117 : decode cX12_takeThing 117 = .ok (.l2i, 1) := by decide +kernel
theorem dX12_takeThing_118 : decode cX12_takeThing 118 = .ok (.iastore, 1) := by decide +kernel
theorem dX12_takeThing_119 : decode cX12_takeThing 119 = .ok (.aload_n 0, 1) := by decide +kernel
theorem dX12_takeThing_120 : decode cX12_takeThing 120 = .ok (.invokevirtual 983, 3) := by decide +kernel
theorem dX12_takeThing_123 : decode cX12_takeThing 123 = .ok (.lstore 5, 2) := by decide +kernel
theorem dX12_takeThing_125 : decode cX12_takeThing 125 = .ok (.aload_n 0, 1) := by decide +kernel
theorem dX12_takeThing_126 : decode cX12_takeThing 126 = .ok (.getfield 625, 3) := by decide +kernel
theorem dX12_takeThing_129 : decode cX12_takeThing 129 = .ok (.ifCond .ne 21, 3) := by decide +kernel
theorem dX12_takeThing_132 : decode cX12_takeThing 132 = .ok (.aload_n 0, 1) := by decide +kernel
theorem dX12_takeThing_133 : decode cX12_takeThing 133 = .ok (.lload 5, 2) := by decide +kernel
theorem dX12_takeThing_135 : decode cX12_takeThing 135 = .ok (.invokevirtual 988, 3) := by decide +kernel
theorem dX12_takeThing_138 : decode cX12_takeThing 138 = .ok (.ifCond .ne 12, 3) := by decide +kernel
theorem dX12_takeThing_141 : decode cX12_takeThing 141 = .ok (.aload_n 0, 1) := by decide +kernel
theorem dX12_takeThing_142 : decode cX12_takeThing 142 = .ok (.iconst 4, 1) := by decide +kernel
theorem dX12_takeThing_143 : decode cX12_takeThing 143 = .ok (.aload_n 0, 1) := by decide +kernel
theorem dX12_takeThing_144 : decode cX12_takeThing 144 = .ok (.getfield 978, 3) := by decide +kernel
theorem dX12_takeThing_147 : decode cX12_takeThing 147 = .ok (.invokevirtual 653, 3) := by decide +kernel
theorem dX12_takeThing_150 : decode cX12_takeThing 150 = .ok (.aload_n 0, 1) := by decide +kernel
theorem dX12_takeThing_151 : decode cX12_takeThing 151 = .ok (.getfield 625, 3) := by decide +kernel
theorem dX12_takeThing_154 : decode cX12_takeThing 154 = .ok (.ifCond .le 4, 3) := by decide +kernel
theorem dX12_takeThing_157 : decode cX12_takeThing 157 = .ok (.return_, 1) := by decide +kernel
theorem dX12_takeThing_158 : decode cX12_takeThing 158 = .ok (.aload_n 0, 1) := by decide +kernel
theorem dX12_takeThing_159 : decode cX12_takeThing 159 = .ok (.getfield 189, 3) := by decide +kernel
theorem dX12_takeThing_162 : decode cX12_takeThing 162 = .ok (.aload_n 0, 1) := by decide +kernel
theorem dX12_takeThing_163 : decode cX12_takeThing 163 = .ok (.iconst 4, 1) := by decide +kernel
theorem dX12_takeThing_164 : decode cX12_takeThing 164 = .ok (.iload_n 1, 1) := by decide +kernel
theorem dX12_takeThing_165 : decode cX12_takeThing 165 = .ok (.invokevirtual 545, 3) := by decide +kernel
theorem dX12_takeThing_168 : decode cX12_takeThing 168 = .ok (.lload 5, 2) := by decide +kernel
theorem dX12_takeThing_170 : decode cX12_takeThing 170 = .ok (.l2i, 1) := by decide +kernel
theorem dX12_takeThing_171 : decode cX12_takeThing 171 = .ok (.iastore, 1) := by decide +kernel
theorem dX12_takeThing_172 : decode cX12_takeThing 172 = .ok (.aload_n 0, 1) := by decide +kernel
theorem dX12_takeThing_173 : decode cX12_takeThing 173 = .ok (.invokevirtual 983, 3) := by decide +kernel
theorem dX12_takeThing_176 : decode cX12_takeThing 176 = .ok (.lstore 7, 2) := by decide +kernel
theorem dX12_takeThing_178 : decode cX12_takeThing 178 = .ok (.aload_n 0, 1) := by decide +kernel
theorem dX12_takeThing_179 : decode cX12_takeThing 179 = .ok (.getfield 625, 3) := by decide +kernel
theorem dX12_takeThing_182 : decode cX12_takeThing 182 = .ok (.ifCond .ne 45, 3) := by decide +kernel
theorem dX12_takeThing_185 : decode cX12_takeThing 185 = .ok (.lload 7, 2) := by decide +kernel
theorem dX12_takeThing_187 : decode cX12_takeThing 187 = .ok (.lconst 0, 1) := by decide +kernel
theorem dX12_takeThing_188 : decode cX12_takeThing 188 = .ok (.lcmp, 1) := by decide +kernel
theorem dX12_takeThing_189 : decode cX12_takeThing 189 = .ok (.ifCond .lt 29, 3) := by decide +kernel
theorem dX12_takeThing_192 : decode cX12_takeThing 192 = .ok (.lload 7, 2) := by decide +kernel
theorem dX12_takeThing_194 : decode cX12_takeThing 194 = .ok (.ldc2_w 696, 3) := by decide +kernel
theorem dX12_takeThing_197 : decode cX12_takeThing 197 = .ok (.lcmp, 1) := by decide +kernel
theorem dX12_takeThing_198 : decode cX12_takeThing 198 = .ok (.ifCond .gt 20, 3) := by decide +kernel
theorem dX12_takeThing_201 : decode cX12_takeThing 201 = .ok (.aload_n 0, 1) := by decide +kernel
theorem dX12_takeThing_202 : decode cX12_takeThing 202 = .ok (.lload 5, 2) := by decide +kernel
theorem dX12_takeThing_204 : decode cX12_takeThing 204 = .ok (.l2i, 1) := by decide +kernel
theorem dX12_takeThing_205 : decode cX12_takeThing 205 = .ok (.invokevirtual 416, 3) := by decide +kernel
theorem dX12_takeThing_208 : decode cX12_takeThing 208 = .ok (.ifCond .eq 19, 3) := by decide +kernel
theorem dX12_takeThing_211 : decode cX12_takeThing 211 = .ok (.lload 7, 2) := by decide +kernel
theorem dX12_takeThing_213 : decode cX12_takeThing 213 = .ok (.lconst 0, 1) := by decide +kernel
theorem dX12_takeThing_214 : decode cX12_takeThing 214 = .ok (.lcmp, 1) := by decide +kernel
theorem dX12_takeThing_215 : decode cX12_takeThing 215 = .ok (.ifCond .eq 12, 3) := by decide +kernel
theorem dX12_takeThing_218 : decode cX12_takeThing 218 = .ok (.aload_n 0, 1) := by decide +kernel
theorem dX12_takeThing_219 : decode cX12_takeThing 219 = .ok (.iconst 4, 1) := by decide +kernel
theorem dX12_takeThing_220 : decode cX12_takeThing 220 = .ok (.aload_n 0, 1) := by decide +kernel
theorem dX12_takeThing_221 : decode cX12_takeThing 221 = .ok (.getfield 978, 3) := by decide +kernel
theorem dX12_takeThing_224 : decode cX12_takeThing 224 = .ok (.invokevirtual 653, 3) := by decide +kernel
theorem dX12_takeThing_227 : decode cX12_takeThing 227 = .ok (.aload_n 0, 1) := by decide +kernel
theorem dX12_takeThing_228 : decode cX12_takeThing 228 = .ok (.getfield 625, 3) := by decide +kernel
theorem dX12_takeThing_231 : decode cX12_takeThing 231 = .ok (.ifCond .le 4, 3) := by decide +kernel
theorem dX12_takeThing_234 : decode cX12_takeThing 234 = .ok (.return_, 1) := by decide +kernel
theorem dX12_takeThing_235 : decode cX12_takeThing 235 = .ok (.aload_n 0, 1) := by decide +kernel
theorem dX12_takeThing_236 : decode cX12_takeThing 236 = .ok (.getfield 192, 3) := by decide +kernel
theorem dX12_takeThing_239 : decode cX12_takeThing 239 = .ok (.aload_n 0, 1) := by decide +kernel
theorem dX12_takeThing_240 : decode cX12_takeThing 240 = .ok (.iconst 4, 1) := by decide +kernel
theorem dX12_takeThing_241 : decode cX12_takeThing 241 = .ok (.iload_n 1, 1) := by decide +kernel
theorem dX12_takeThing_242 : decode cX12_takeThing 242 = .ok (.invokevirtual 545, 3) := by decide +kernel
theorem dX12_takeThing_245 : decode cX12_takeThing 245 = .ok (.lload 7, 2) := by decide +kernel
theorem dX12_takeThing_247 : decode cX12_takeThing 247 = .ok (.l2i, 1) := by decide +kernel
theorem dX12_takeThing_248 : decode cX12_takeThing 248 = .ok (.iastore, 1) := by decide +kernel
theorem dX12_takeThing_249 : decode cX12_takeThing 249 = .ok (.aload_n 0, 1) := by decide +kernel
theorem dX12_takeThing_250 : decode cX12_takeThing 250 = .ok (.getfield 195, 3) := by decide +kernel
theorem dX12_takeThing_253 : decode cX12_takeThing 253 = .ok (.aload_n 0, 1) := by decide +kernel
theorem dX12_takeThing_254 : decode cX12_takeThing 254 = .ok (.iconst 4, 1) := by decide +kernel
theorem dX12_takeThing_255 : decode cX12_takeThing 255 = .ok (.iload_n 1, 1) := by decide +kernel
theorem dX12_takeThing_256 : decode cX12_takeThing 256 = .ok (.invokevirtual 545, 3) := by decide +kernel
theorem dX12_takeThing_259 : decode cX12_takeThing 259 = .ok (.aload_n 0, 1) := by decide +kernel
theorem dX12_takeThing_260 : decode cX12_takeThing 260 = .ok (.getfield 991, 3) := by decide +kernel
theorem dX12_takeThing_263 : decode cX12_takeThing 263 = .ok (.iastore, 1) := by decide +kernel
theorem dX12_takeThing_264 : decode cX12_takeThing 264 = .ok (.aload_n 0, 1) := by decide +kernel
theorem dX12_takeThing_265 : decode cX12_takeThing 265 = .ok (.lload 5, 2) := by decide +kernel
theorem dX12_takeThing_267 : decode cX12_takeThing 267 = .ok (.l2i, 1) := by decide +kernel
theorem dX12_takeThing_268 : decode cX12_takeThing 268 = .ok (.lload 7, 2) := by decide +kernel
theorem dX12_takeThing_270 : decode cX12_takeThing 270 = .ok (.l2i, 1) := by decide +kernel
theorem dX12_takeThing_271 : decode cX12_takeThing 271 = .ok (.invokevirtual 455, 3) := by decide +kernel
theorem dX12_takeThing_274 : decode cX12_takeThing 274 = .ok (.istore 9, 2) := by decide +kernel
theorem dX12_takeThing_276 : decode cX12_takeThing 276 = .ok (.aload_n 0, 1) := by decide +kernel
theorem dX12_takeThing_277 : decode cX12_takeThing 277 = .ok (.getfield 991, 3) := by decide +kernel
theorem dX12_takeThing_280 : decode cX12_takeThing 280 = .ok (.iload 9, 2) := by decide +kernel
theorem dX12_takeThing_282 : decode cX12_takeThing 282 = .ok (.iadd, 1) := by decide +kernel
theorem dX12_takeThing_283 : decode cX12_takeThing 283 = .ok (.sipush 4000, 3) := by decide +kernel
theorem dX12_takeThing_286 : decode cX12_takeThing 286 = .ok (.if_icmp .le 12, 3) := by decide +kernel
theorem dX12_takeThing_289 : decode cX12_takeThing 289 = .ok (.aload_n 0, 1) := by decide +kernel
theorem dX12_takeThing_290 : decode cX12_takeThing 290 = .ok (.iconst 4, 1) := by decide +kernel
theorem dX12_takeThing_291 : decode cX12_takeThing 291 = .ok (.aload_n 0, 1) := by decide +kernel
theorem dX12_takeThing_292 : decode cX12_takeThing 292 = .ok (.getfield 978, 3) := by decide +kernel
theorem dX12_takeThing_295 : decode cX12_takeThing 295 = .ok (.invokevirtual 653, 3) := by decide +kernel
theorem dX12_takeThing_298 : decode cX12_takeThing 298 = .ok (.iconst 0, 1) := by decide +kernel
theorem dX12_takeThing_299 : decode cX12_takeThing 299 = .ok (.istore 10, 2) := by decide +kernel
theorem dX12_takeThing_301 : decode cX12_takeThing 301 = .ok (.iload 10, 2) := by decide +kernel
theorem dX12_takeThing_303 : decode cX12_takeThing 303 = .ok (.iload 9, 2) := by decide +kernel
theorem dX12_takeThing_305 : decode cX12_takeThing 305 = .ok (.if_icmp .ge 23, 3) := by decide +kernel
theorem dX12_takeThing_308 : decode cX12_takeThing 308 = .ok (.aload_n 0, 1) := by decide +kernel
theorem dX12_takeThing_309 : decode cX12_takeThing 309 = .ok (.getfield 625, 3) := by decide +kernel
theorem dX12_takeThing_312 : decode cX12_takeThing 312 = .ok (.ifCond .ne 16, 3) := by decide +kernel
theorem dX12_takeThing_315 : decode cX12_takeThing 315 = .ok (.aload_n 0, 1) := by decide +kernel
theorem dX12_takeThing_316 : decode cX12_takeThing 316 = .ok (.iload_n 1, 1) := by decide +kernel
theorem dX12_takeThing_317 : decode cX12_takeThing 317 = .ok (.iload 10, 2) := by decide +kernel
theorem dX12_takeThing_319 : decode cX12_takeThing 319 = .ok (.invokevirtual 994, 3) := by decide +kernel
theorem dX12_takeThing_322 : decode cX12_takeThing 322 = .ok (.iinc 10 1, 3) := by decide +kernel
theorem dX12_takeThing_325 : decode cX12_takeThing 325 = .ok (.goto (-24), 3) := by decide +kernel
theorem dX12_takeThing_328 : decode cX12_takeThing 328 = .ok (.aload_n 0, 1) := by decide +kernel
theorem dX12_takeThing_329 : decode cX12_takeThing 329 = .ok (.dup, 1) := by decide +kernel
theorem dX12_takeThing_330 : decode cX12_takeThing 330 = .ok (.getfield 991, 3) := by decide +kernel
theorem dX12_takeThing_333 : decode cX12_takeThing 333 = .ok (.iload 9, 2) := by decide +kernel
theorem dX12_takeThing_335 : decode cX12_takeThing 335 = .ok (.iadd, 1) := by decide +kernel
theorem dX12_takeThing_336 : decode cX12_takeThing 336 = .ok (.putfield 991, 3) := by decide +kernel
theorem dX12_takeThing_339 : decode cX12_takeThing 339 = .ok (.return_, 1) := by decide +kernel
theorem dX12_takesKey_0 : decode cX12_takesKey 0 = .ok (.aload_n 0, 1) := by decide +kernel
theorem dX12_takesKey_1 : decode cX12_takesKey 1 = .ok (.getfield 625, 3) := by decide +kernel
theorem dX12_takesKey_4 : decode cX12_takesKey 4 = .ok (.ifCond .ne 15, 3) := by decide +kernel
theorem dX12_takesKey_7 : decode cX12_takesKey 7 = .ok (.aload_n 0, 1) := by decide +kernel
theorem dX12_takesKey_8 : decode cX12_takesKey 8 = .ok (.iload_n 1, 1) := by decide +kernel
theorem dX12_takesKey_9 : decode cX12_takesKey 9 = .ok (.invokevirtual 667, 3) := by decide +kernel
theorem dX12_takesKey_12 : decode cX12_takesKey 12 = .ok (.ifCond .eq 7, 3) := by decide +kernel
theorem dX12_takesKey_15 : decode cX12_takesKey 15 = .ok (.iconst 1, 1) := by decide +kernel
theorem dX12_takesKey_16 : decode cX12_takesKey 16 = .ok (.goto 4, 3) := by decide +kernel
theorem dX12_takesKey_19 : decode cX12_takesKey 19 = .ok (.iconst 0, 1) := by decide +kernel
theorem dX12_takesKey_20 : decode cX12_takesKey 20 = .ok (.istore_n 2, 1) := by decide +kernel
theorem dX12_takesKey_21 : decode cX12_takesKey 21 = .ok (.iload_n 2, 1) := by decide +kernel
theorem dX12_takesKey_22 : decode cX12_takesKey 22 = .ok (.ifCond .eq 7, 3) := by decide +kernel
theorem dX12_takesKey_25 : decode cX12_takesKey 25 = .ok (.aload_n 0, 1) := by decide +kernel
theorem dX12_takesKey_26 : decode cX12_takesKey 26 = .ok (.invokevirtual 661, 3) := by decide +kernel
theorem dX12_takesKey_29 : decode cX12_takesKey 29 = .ok (.iload_n 2, 1) := by decide +kernel
theorem dX12_takesKey_30 : decode cX12_takesKey 30 = .ok (.ireturn, 1) := by decide +kernel
theorem dX12_takesSign_0 : decode cX12_takesSign 0 = .ok (.aload_n 0, 1) := by decide +kernel
theorem dX12_takesSign_1 : decode cX12_takesSign 1 = .ok (.getfield 625, 3) := by decide +kernel
theorem dX12_takesSign_4 : decode cX12_takesSign 4 = .ok (.ifCond .ne 15, 3) := by decide +kernel
theorem dX12_takesSign_7 : decode cX12_takesSign 7 = .ok (.aload_n 0, 1) := by decide +kernel
theorem dX12_takesSign_8 : decode cX12_takesSign 8 = .ok (.lload_n 1, 1) := by decide +kernel
theorem dX12_takesSign_9 : decode cX12_takesSign 9 = .ok (.invokevirtual 657, 3) := by decide +kernel
theorem dX12_takesSign_12 : decode cX12_takesSign 12 = .ok (.ifCond .eq 7, 3) := by decide +kernel
theorem dX12_takesSign_15 : decode cX12_takesSign 15 = .ok (.iconst 1, 1) := by decide +kernel
theorem dX12_takesSign_16 : decode cX12_takesSign 16 = .ok (.goto 4, 3) := by decide +kernel
theorem dX12_takesSign_19 : decode cX12_takesSign 19 = .ok (.iconst 0, 1) := by decide +kernel
theorem dX12_takesSign_20 : decode cX12_takesSign 20 = .ok (.istore_n 3, 1) := by decide +kernel
theorem dX12_takesSign_21 : decode cX12_takesSign 21 = .ok (.iload_n 3, 1) := by decide +kernel
theorem dX12_takesSign_22 : decode cX12_takesSign 22 = .ok (.ifCond .eq 7, 3) := by decide +kernel
theorem dX12_takesSign_25 : decode cX12_takesSign 25 = .ok (.aload_n 0, 1) := by decide +kernel
theorem dX12_takesSign_26 : decode cX12_takesSign 26 = .ok (.invokevirtual 661, 3) := by decide +kernel
theorem dX12_takesSign_29 : decode cX12_takesSign 29 = .ok (.iload_n 3, 1) := by decide +kernel
theorem dX12_takesSign_30 : decode cX12_takesSign 30 = .ok (.ireturn, 1) := by decide +kernel
theorem dX12_tapeName_0 : decode cX12_tapeName 0 = .ok (.lconst 0, 1) := by decide +kernel
theorem dX12_tapeName_1 : decode cX12_tapeName 1 = .ok (.lstore_n 1, 1) := by decide +kernel
theorem dX12_tapeName_2 : decode cX12_tapeName 2 = .ok (.aload_n 0, 1) := by decide +kernel
theorem dX12_tapeName_3 : decode cX12_tapeName 3 = .ok (.getfield 391, 3) := by decide +kernel
theorem dX12_tapeName_6 : decode cX12_tapeName 6 = .ok (.ifCond .le 28, 3) := by decide +kernel
theorem dX12_tapeName_9 : decode cX12_tapeName 9 = .ok (.aload_n 0, 1) := by decide +kernel
theorem dX12_tapeName_10 : decode cX12_tapeName 10 = .ok (.getfield 391, 3) := by decide +kernel
theorem dX12_tapeName_13 : decode cX12_tapeName 13 = .ok (.bipush 10, 2) := by decide +kernel
theorem dX12_tapeName_15 : decode cX12_tapeName 15 = .ok (.if_icmp .gt 19, 3) := by decide +kernel
theorem dX12_tapeName_18 : decode cX12_tapeName 18 = .ok (.aload_n 0, 1) := by decide +kernel
theorem dX12_tapeName_19 : decode cX12_tapeName 19 = .ok (.getfield 7, 3) := by decide +kernel
theorem dX12_tapeName_22 : decode cX12_tapeName 22 = .ok (.iconst 0, 1) := by decide +kernel
theorem dX12_tapeName_23 : decode cX12_tapeName 23 = .ok (.baload, 1) := by decide +kernel
theorem dX12_tapeName_24 : decode cX12_tapeName 24 = .ok (.invokestatic 406, 3) := by decide +kernel
theorem dX12_tapeName_27 : decode cX12_tapeName 27 = .ok (.ifCond .eq 7, 3) := by decide +kernel
theorem dX12_tapeName_30 : decode cX12_tapeName 30 = .ok (.iconst 1, 1) := by decide +kernel
theorem dX12_tapeName_31 : decode cX12_tapeName 31 = .ok (.goto 4, 3) := by decide +kernel
theorem dX12_tapeName_34 : decode cX12_tapeName 34 = .ok (.iconst 0, 1) := by decide +kernel
theorem dX12_tapeName_35 : decode cX12_tapeName 35 = .ok (.istore_n 3, 1) := by decide +kernel
theorem dX12_tapeName_36 : decode cX12_tapeName 36 = .ok (.iconst 0, 1) := by decide +kernel
theorem dX12_tapeName_37 : decode cX12_tapeName 37 = .ok (.istore 4, 2) := by decide +kernel
theorem dX12_tapeName_39 : decode cX12_tapeName 39 = .ok (.iload 4, 2) := by decide +kernel
theorem dX12_tapeName_41 : decode cX12_tapeName 41 = .ok (.aload_n 0, 1) := by decide +kernel
theorem dX12_tapeName_42 : decode cX12_tapeName 42 = .ok (.getfield 391, 3) := by decide +kernel
theorem dX12_tapeName_45 : decode cX12_tapeName 45 = .ok (.if_icmp .ge 71, 3) := by decide +kernel
theorem dX12_tapeName_48 : decode cX12_tapeName 48 = .ok (.iload_n 3, 1) := by decide +kernel
theorem dX12_tapeName_49 : decode cX12_tapeName 49 = .ok (.ifCond .eq 67, 3) := by decide +kernel
theorem dX12_tapeName_52 : decode cX12_tapeName 52 = .ok (.aload_n 0, 1) := by decide +kernel
theorem dX12_tapeName_53 : decode cX12_tapeName 53 = .ok (.getfield 7, 3) := by decide +kernel
theorem dX12_tapeName_56 : decode cX12_tapeName 56 = .ok (.iload 4, 2) := by decide +kernel
theorem dX12_tapeName_58 : decode cX12_tapeName 58 = .ok (.baload, 1) := by decide +kernel
theorem dX12_tapeName_59 : decode cX12_tapeName 59 = .ok (.invokestatic 406, 3) := by decide +kernel
theorem dX12_tapeName_62 : decode cX12_tapeName 62 = .ok (.ifCond .ne 16, 3) := by decide +kernel
theorem dX12_tapeName_65 : decode cX12_tapeName 65 = .ok (.aload_n 0, 1) := by decide +kernel
theorem dX12_tapeName_66 : decode cX12_tapeName 66 = .ok (.getfield 7, 3) := by decide +kernel
theorem dX12_tapeName_69 : decode cX12_tapeName 69 = .ok (.iload 4, 2) := by decide +kernel
theorem dX12_tapeName_71 : decode cX12_tapeName 71 = .ok (.baload, 1) := by decide +kernel
theorem dX12_tapeName_72 : decode cX12_tapeName 72 = .ok (.invokestatic 394, 3) := by decide +kernel
theorem dX12_tapeName_75 : decode cX12_tapeName 75 = .ok (.ifCond .eq 7, 3) := by decide +kernel
theorem dX12_tapeName_78 : decode cX12_tapeName 78 = .ok (.iconst 1, 1) := by decide +kernel
theorem dX12_tapeName_79 : decode cX12_tapeName 79 = .ok (.goto 4, 3) := by decide +kernel
theorem dX12_tapeName_82 : decode cX12_tapeName 82 = .ok (.iconst 0, 1) := by decide +kernel
theorem dX12_tapeName_83 : decode cX12_tapeName 83 = .ok (.istore_n 3, 1) := by decide +kernel
theorem dX12_tapeName_84 : decode cX12_tapeName 84 = .ok (.iload_n 3, 1) := by decide +kernel
theorem dX12_tapeName_85 : decode cX12_tapeName 85 = .ok (.ifCond .eq 23, 3) := by decide +kernel
theorem dX12_tapeName_88 : decode cX12_tapeName 88 = .ok (.ldc2_w 400, 3) := by decide +kernel
theorem dX12_tapeName_91 : decode cX12_tapeName 91 = .ok (.lload_n 1, 1) := by decide +kernel
theorem dX12_tapeName_92 : decode cX12_tapeName 92 = .ok (.lmul, 1) := by decide +kernel
theorem dX12_tapeName_93 : decode cX12_tapeName 93 = .ok (.aload_n 0, 1) := by decide +kernel
theorem dX12_tapeName_94 : decode cX12_tapeName 94 = .ok (.getfield 7, 3) := by decide +kernel
theorem dX12_tapeName_97 : decode cX12_tapeName 97 = .ok (.iload 4, 2) := by decide +kernel
theorem dX12_tapeName_99 : decode cX12_tapeName 99 = .ok (.baload, 1) := by decide +kernel
theorem dX12_tapeName_100 : decode cX12_tapeName 100 = .ok (.invokestatic 402, 3) := by decide +kernel
theorem dX12_tapeName_103 : decode cX12_tapeName 103 = .ok (.i2l, 1) := by decide +kernel
theorem dX12_tapeName_104 : decode cX12_tapeName 104 = .ok (.ladd, 1) := by decide +kernel
theorem dX12_tapeName_105 : decode cX12_tapeName 105 = .ok (.goto 4, 3) := by decide +kernel
theorem dX12_tapeName_108 : decode cX12_tapeName 108 = .ok (.lconst 0, 1) := by decide +kernel
theorem dX12_tapeName_109 : decode cX12_tapeName 109 = .ok (.lstore_n 1, 1) := by decide +kernel
theorem dX12_tapeName_110 : decode cX12_tapeName 110 = .ok (.iinc 4 1, 3) := by decide +kernel
theorem dX12_tapeName_113 : decode cX12_tapeName 113 = .ok (.goto (-74), 3) := by decide +kernel
theorem dX12_tapeName_116 : decode cX12_tapeName 116 = .ok (.iload_n 3, 1) := by decide +kernel
theorem dX12_tapeName_117 : decode cX12_tapeName 117 = .ok (.ifCond .eq 16, 3) := by decide +kernel
theorem dX12_tapeName_120 : decode cX12_tapeName 120 = .ok (.aload_n 0, 1) := by decide +kernel
theorem dX12_tapeName_121 : decode cX12_tapeName 121 = .ok (.lload_n 1, 1) := by decide +kernel
theorem dX12_tapeName_122 : decode cX12_tapeName 122 = .ok (.invokevirtual 409, 3) := by decide +kernel
theorem dX12_tapeName_125 : decode cX12_tapeName 125 = .ok (.iconst (-1), 1) := by decide +kernel
theorem dX12_tapeName_126 : decode cX12_tapeName 126 = .ok (.if_icmp .ne 7, 3) := by decide +kernel
theorem dX12_tapeName_129 : decode cX12_tapeName 129 = .ok (.lload_n 1, 1) := by decide +kernel
theorem dX12_tapeName_130 : decode cX12_tapeName 130 = .ok (.goto 4, 3) := by decide +kernel
theorem dX12_tapeName_133 : decode cX12_tapeName 133 = .ok (.lconst 0, 1) := by decide +kernel
theorem dX12_tapeName_134 : decode cX12_tapeName 134 = .ok (.lreturn, 1) := by decide +kernel
theorem dX12_thing_0 : decode cX12_thing 0 = .ok (.aload_n 0, 1) := by decide +kernel
theorem dX12_thing_1 : decode cX12_thing 1 = .ok (.iconst 0, 1) := by decide +kernel
theorem dX12_thing_2 : decode cX12_thing 2 = .ok (.putfield 388, 3) := by decide +kernel
theorem dX12_thing_5 : decode cX12_thing 5 = .ok (.aload_n 0, 1) := by decide +kernel
theorem dX12_thing_6 : decode cX12_thing 6 = .ok (.iload_n 1, 1) := by decide +kernel
theorem dX12_thing_7 : decode cX12_thing 7 = .ok (.iload_n 2, 1) := by decide +kernel
theorem dX12_thing_8 : decode cX12_thing 8 = .ok (.invokevirtual 600, 3) := by decide +kernel
theorem dX12_thing_11 : decode cX12_thing 11 = .ok (.ifCond .ne 5, 3) := by decide +kernel
theorem dX12_thing_14 : decode cX12_thing 14 = .ok (.iconst (-1), 1) := by decide +kernel
theorem dX12_thing_15 : decode cX12_thing 15 = .ok (.ireturn, 1) := by decide +kernel
theorem dX12_thing_16 : decode cX12_thing 16 = .ok (.aload_n 0, 1) := by decide +kernel
theorem dX12_thing_17 : decode cX12_thing 17 = .ok (.iload_n 1, 1) := by decide +kernel
theorem dX12_thing_18 : decode cX12_thing 18 = .ok (.iload_n 2, 1) := by decide +kernel
theorem dX12_thing_19 : decode cX12_thing 19 = .ok (.invokevirtual 545, 3) := by decide +kernel
theorem dX12_thing_22 : decode cX12_thing 22 = .ok (.istore 4, 2) := by decide +kernel
theorem dX12_thing_24 : decode cX12_thing 24 = .ok (.iload_n 3, 1) := by decide +kernel
theorem dX12_thing_25 : decode cX12_thing 25 = .ok (.tableswitch 169 0 12 #[67, 75, 83, 91, 98, 106, 114, 122, 129, 137, 145, 153, 161], 67) := by decide +kernel
theorem dX12_thing_92 : decode cX12_thing 92 = .ok (.aload_n 0, 1) := by decide +kernel
theorem dX12_thing_93 : decode cX12_thing 93 = .ok (.getfield 186, 3) := by decide +kernel
theorem dX12_thing_96 : decode cX12_thing 96 = .ok (.iload 4, 2) := by decide +kernel
theorem dX12_thing_98 : decode cX12_thing 98 = .ok (.iaload, 1) := by decide +kernel
theorem dX12_thing_99 : decode cX12_thing 99 = .ok (.ireturn, 1) := by decide +kernel
theorem dX12_thing_100 : decode cX12_thing 100 = .ok (.aload_n 0, 1) := by decide +kernel
theorem dX12_thing_101 : decode cX12_thing 101 = .ok (.getfield 189, 3) := by decide +kernel
theorem dX12_thing_104 : decode cX12_thing 104 = .ok (.iload 4, 2) := by decide +kernel
theorem dX12_thing_106 : decode cX12_thing 106 = .ok (.iaload, 1) := by decide +kernel
theorem dX12_thing_107 : decode cX12_thing 107 = .ok (.ireturn, 1) := by decide +kernel
theorem dX12_thing_108 : decode cX12_thing 108 = .ok (.aload_n 0, 1) := by decide +kernel
theorem dX12_thing_109 : decode cX12_thing 109 = .ok (.getfield 192, 3) := by decide +kernel
theorem dX12_thing_112 : decode cX12_thing 112 = .ok (.iload 4, 2) := by decide +kernel
theorem dX12_thing_114 : decode cX12_thing 114 = .ok (.iaload, 1) := by decide +kernel
theorem dX12_thing_115 : decode cX12_thing 115 = .ok (.ireturn, 1) := by decide +kernel
theorem dX12_thing_116 : decode cX12_thing 116 = .ok (.aload_n 0, 1) := by decide +kernel
theorem dX12_thing_117 : decode cX12_thing 117 = .ok (.iload_n 1, 1) := by decide +kernel
theorem dX12_thing_118 : decode cX12_thing 118 = .ok (.iload_n 2, 1) := by decide +kernel
theorem dX12_thing_119 : decode cX12_thing 119 = .ok (.invokevirtual 594, 3) := by decide +kernel
theorem dX12_thing_122 : decode cX12_thing 122 = .ok (.ireturn, 1) := by decide +kernel
theorem dX12_thing_123 : decode cX12_thing 123 = .ok (.aload_n 0, 1) := by decide +kernel
theorem dX12_thing_124 : decode cX12_thing 124 = .ok (.getfield 198, 3) := by decide +kernel
theorem dX12_thing_127 : decode cX12_thing 127 = .ok (.iload 4, 2) := by decide +kernel
theorem dX12_thing_129 : decode cX12_thing 129 = .ok (.iaload, 1) := by decide +kernel
theorem dX12_thing_130 : decode cX12_thing 130 = .ok (.ireturn, 1) := by decide +kernel
theorem dX12_thing_131 : decode cX12_thing 131 = .ok (.aload_n 0, 1) := by decide +kernel
theorem dX12_thing_132 : decode cX12_thing 132 = .ok (.getfield 201, 3) := by decide +kernel
theorem dX12_thing_135 : decode cX12_thing 135 = .ok (.iload 4, 2) := by decide +kernel
theorem dX12_thing_137 : decode cX12_thing 137 = .ok (.iaload, 1) := by decide +kernel
theorem dX12_thing_138 : decode cX12_thing 138 = .ok (.ireturn, 1) := by decide +kernel
theorem dX12_thing_139 : decode cX12_thing 139 = .ok (.aload_n 0, 1) := by decide +kernel
theorem dX12_thing_140 : decode cX12_thing 140 = .ok (.getfield 204, 3) := by decide +kernel
theorem dX12_thing_143 : decode cX12_thing 143 = .ok (.iload 4, 2) := by decide +kernel
theorem dX12_thing_145 : decode cX12_thing 145 = .ok (.iaload, 1) := by decide +kernel
theorem dX12_thing_146 : decode cX12_thing 146 = .ok (.ireturn, 1) := by decide +kernel
theorem dX12_thing_147 : decode cX12_thing 147 = .ok (.aload_n 0, 1) := by decide +kernel
theorem dX12_thing_148 : decode cX12_thing 148 = .ok (.iload_n 1, 1) := by decide +kernel
theorem dX12_thing_149 : decode cX12_thing 149 = .ok (.iload_n 2, 1) := by decide +kernel
theorem dX12_thing_150 : decode cX12_thing 150 = .ok (.invokevirtual 603, 3) := by decide +kernel
theorem dX12_thing_153 : decode cX12_thing 153 = .ok (.ireturn, 1) := by decide +kernel
theorem dX12_thing_154 : decode cX12_thing 154 = .ok (.aload_n 0, 1) := by decide +kernel
theorem dX12_thing_155 : decode cX12_thing 155 = .ok (.getfield 207, 3) := by decide +kernel
theorem dX12_thing_158 : decode cX12_thing 158 = .ok (.iload 4, 2) := by decide +kernel
theorem dX12_thing_160 : decode cX12_thing 160 = .ok (.iaload, 1) := by decide +kernel
theorem dX12_thing_161 : decode cX12_thing 161 = .ok (.ireturn, 1) := by decide +kernel
theorem dX12_thing_162 : decode cX12_thing 162 = .ok (.aload_n 0, 1) := by decide +kernel
theorem dX12_thing_163 : decode cX12_thing 163 = .ok (.getfield 210, 3) := by decide +kernel
theorem dX12_thing_166 : decode cX12_thing 166 = .ok (.iload 4, 2) := by decide +kernel
theorem dX12_thing_168 : decode cX12_thing 168 = .ok (.iaload, 1) := by decide +kernel
theorem dX12_thing_169 : decode cX12_thing 169 = .ok (.ireturn, 1) := by decide +kernel
theorem dX12_thing_170 : decode cX12_thing 170 = .ok (.aload_n 0, 1) := by decide +kernel
theorem dX12_thing_171 : decode cX12_thing 171 = .ok (.getfield 213, 3) := by decide +kernel
theorem dX12_thing_174 : decode cX12_thing 174 = .ok (.iload 4, 2) := by decide +kernel
theorem dX12_thing_176 : decode cX12_thing 176 = .ok (.iaload, 1) := by decide +kernel
theorem dX12_thing_177 : decode cX12_thing 177 = .ok (.ireturn, 1) := by decide +kernel
theorem dX12_thing_178 : decode cX12_thing 178 = .ok (.aload_n 0, 1) := by decide +kernel
theorem dX12_thing_179 : decode cX12_thing 179 = .ok (.getfield 216, 3) := by decide +kernel
theorem dX12_thing_182 : decode cX12_thing 182 = .ok (.iload 4, 2) := by decide +kernel
theorem dX12_thing_184 : decode cX12_thing 184 = .ok (.iaload, 1) := by decide +kernel
theorem dX12_thing_185 : decode cX12_thing 185 = .ok (.ireturn, 1) := by decide +kernel
theorem dX12_thing_186 : decode cX12_thing 186 = .ok (.aload_n 0, 1) := by decide +kernel
theorem dX12_thing_187 : decode cX12_thing 187 = .ok (.getfield 219, 3) := by decide +kernel
theorem dX12_thing_190 : decode cX12_thing 190 = .ok (.iload 4, 2) := by decide +kernel
theorem dX12_thing_192 : decode cX12_thing 192 = .ok (.iaload, 1) := by decide +kernel
theorem dX12_thing_193 : decode cX12_thing 193 = .ok (.ireturn, 1) := by decide +kernel
theorem dX12_thing_194 : decode cX12_thing 194 = .ok (.iconst (-1), 1) := by decide +kernel
theorem dX12_thing_195 : decode cX12_thing 195 = .ok (.ireturn, 1) := by decide +kernel
theorem dX12_thingOf_0 : decode cX12_thingOf 0 = .ok (.iconst (-1), 1) := by decide +kernel
theorem dX12_thingOf_1 : decode cX12_thingOf 1 = .ok (.istore_n 3, 1) := by decide +kernel
theorem dX12_thingOf_2 : decode cX12_thingOf 2 = .ok (.iconst 0, 1) := by decide +kernel
theorem dX12_thingOf_3 : decode cX12_thingOf 3 = .ok (.istore 4, 2) := by decide +kernel
theorem dX12_thingOf_5 : decode cX12_thingOf 5 = .ok (.iload 4, 2) := by decide +kernel
theorem dX12_thingOf_7 : decode cX12_thingOf 7 = .ok (.aload_n 0, 1) := by decide +kernel
theorem dX12_thingOf_8 : decode cX12_thingOf 8 = .ok (.getfield 183, 3) := by decide +kernel
theorem dX12_thingOf_11 : decode cX12_thingOf 11 = .ok (.iload_n 1, 1) := by decide +kernel
theorem dX12_thingOf_12 : decode cX12_thingOf 12 = .ok (.iaload, 1) := by decide +kernel
theorem dX12_thingOf_13 : decode cX12_thingOf 13 = .ok (.if_icmp .ge 32, 3) := by decide +kernel
theorem dX12_thingOf_16 : decode cX12_thingOf 16 = .ok (.aload_n 0, 1) := by decide +kernel
theorem dX12_thingOf_17 : decode cX12_thingOf 17 = .ok (.getfield 186, 3) := by decide +kernel
theorem dX12_thingOf_20 : decode cX12_thingOf 20 = .ok (.aload_n 0, 1) := by decide +kernel
theorem dX12_thingOf_21 : decode cX12_thingOf 21 = .ok (.iload_n 1, 1) := by decide +kernel
theorem dX12_thingOf_22 : decode cX12_thingOf 22 = .ok (.iload 4, 2) := by decide +kernel
theorem dX12_thingOf_24 : decode cX12_thingOf 24 = .ok (.invokevirtual 545, 3) := by decide +kernel
theorem dX12_thingOf_27 : decode cX12_thingOf 27 = .ok (.iaload, 1) := by decide +kernel
theorem dX12_thingOf_28 : decode cX12_thingOf 28 = .ok (.iload_n 2, 1) := by decide +kernel
theorem dX12_thingOf_29 : decode cX12_thingOf 29 = .ok (.if_icmp .ne 8, 3) := by decide +kernel
theorem dX12_thingOf_32 : decode cX12_thingOf 32 = .ok (.iload 4, 2) := by decide +kernel
theorem dX12_thingOf_34 : decode cX12_thingOf 34 = .ok (.goto 4, 3) := by decide +kernel
theorem dX12_thingOf_37 : decode cX12_thingOf 37 = .ok (.iload_n 3, 1) := by decide +kernel
theorem dX12_thingOf_38 : decode cX12_thingOf 38 = .ok (.istore_n 3, 1) := by decide +kernel
theorem dX12_thingOf_39 : decode cX12_thingOf 39 = .ok (.iinc 4 1, 3) := by decide +kernel
theorem dX12_thingOf_42 : decode cX12_thingOf 42 = .ok (.goto (-37), 3) := by decide +kernel
theorem dX12_thingOf_45 : decode cX12_thingOf 45 = .ok (.iload_n 3, 1) := by decide +kernel
theorem dX12_thingOf_46 : decode cX12_thingOf 46 = .ok (.ireturn, 1) := by decide +kernel
theorem dX12_thrown_0 : decode cX12_thrown 0 = .ok (.aload_n 0, 1) := by decide +kernel
theorem dX12_thrown_1 : decode cX12_thrown 1 = .ok (.getfield 388, 3) := by decide +kernel
theorem dX12_thrown_4 : decode cX12_thrown 4 = .ok (.ireturn, 1) := by decide +kernel
theorem dX12_truth_0 : decode cX12_truth 0 = .ok (.aload_n 0, 1) := by decide +kernel
theorem dX12_truth_1 : decode cX12_truth 1 = .ok (.iconst 1, 1) := by decide +kernel
theorem dX12_truth_2 : decode cX12_truth 2 = .ok (.iload_n 1, 1) := by decide +kernel
theorem dX12_truth_3 : decode cX12_truth 3 = .ok (.ifCond .eq 7, 3) := by decide +kernel
theorem dX12_truth_6 : decode cX12_truth 6 = .ok (.lconst 1, 1) := by decide +kernel
theorem dX12_truth_7 : decode cX12_truth 7 = .ok (.goto 4, 3) := by decide +kernel
theorem dX12_truth_10 : decode cX12_truth 10 = .ok (.lconst 0, 1) := by decide +kernel
theorem dX12_truth_11 : decode cX12_truth 11 = .ok (.invokevirtual 791, 3) := by decide +kernel
theorem dX12_truth_14 : decode cX12_truth 14 = .ok (.return_, 1) := by decide +kernel
theorem dX12_turned_0 : decode cX12_turned 0 = .ok (.lload_n 0, 1) := by decide +kernel
theorem dX12_turned_1 : decode cX12_turned 1 = .ok (.iload_n 2, 1) := by decide +kernel
theorem dX12_turned_2 : decode cX12_turned 2 = .ok (.i2l, 1) := by decide +kernel
theorem dX12_turned_3 : decode cX12_turned 3 = .ok (.lcmp, 1) := by decide +kernel
theorem dX12_turned_4 : decode cX12_turned 4 = .ok (.ifCond .ne 8, 3) := by decide +kernel
theorem dX12_turned_7 : decode cX12_turned 7 = .ok (.iload_n 3, 1) := by decide +kernel
theorem dX12_turned_8 : decode cX12_turned 8 = .ok (.i2l, 1) := by decide +kernel
theorem dX12_turned_9 : decode cX12_turned 9 = .ok (.goto 16, 3) := by decide +kernel
theorem dX12_turned_12 : decode cX12_turned 12 = .ok (.lload_n 0, 1) := by decide +kernel
theorem dX12_turned_13 : decode cX12_turned 13 = .ok (.iload_n 3, 1) := by decide +kernel
theorem dX12_turned_14 : decode cX12_turned 14 = .ok (.i2l, 1) := by decide +kernel
theorem dX12_turned_15 : decode cX12_turned 15 = .ok (.lcmp, 1) := by decide +kernel
theorem dX12_turned_16 : decode cX12_turned 16 = .ok (.ifCond .ne 8, 3) := by decide +kernel
theorem dX12_turned_19 : decode cX12_turned 19 = .ok (.iload_n 2, 1) := by decide +kernel
theorem dX12_turned_20 : decode cX12_turned 20 = .ok (.i2l, 1) := by decide +kernel
theorem dX12_turned_21 : decode cX12_turned 21 = .ok (.goto 4, 3) := by decide +kernel
theorem dX12_turned_24 : decode cX12_turned 24 = .ok (.lload_n 0, 1) := by decide +kernel
theorem dX12_turned_25 : decode cX12_turned 25 = .ok (.lreturn, 1) := by decide +kernel
theorem dX12_type_0 : decode cX12_type 0 = .ok (.aload_n 0, 1) := by decide +kernel
theorem dX12_type_1 : decode cX12_type 1 = .ok (.iload_n 1, 1) := by decide +kernel
theorem dX12_type_2 : decode cX12_type 2 = .ok (.iconst (-1), 1) := by decide +kernel
theorem dX12_type_3 : decode cX12_type 3 = .ok (.if_icmp .eq 11, 3) := by decide +kernel
theorem dX12_type_6 : decode cX12_type 6 = .ok (.aload_n 0, 1) := by decide +kernel
theorem dX12_type_7 : decode cX12_type 7 = .ok (.iload_n 1, 1) := by decide +kernel
theorem dX12_type_8 : decode cX12_type 8 = .ok (.invokevirtual 416, 3) := by decide +kernel
theorem dX12_type_11 : decode cX12_type 11 = .ok (.ifCond .eq 12, 3) := by decide +kernel
theorem dX12_type_14 : decode cX12_type 14 = .ok (.iload_n 2, 1) := by decide +kernel
theorem dX12_type_15 : decode cX12_type 15 = .ok (.ifCond .lt 8, 3) := by decide +kernel
theorem dX12_type_18 : decode cX12_type 18 = .ok (.iload_n 2, 1) := by decide +kernel
theorem dX12_type_19 : decode cX12_type 19 = .ok (.iconst 3, 1) := by decide +kernel
theorem dX12_type_20 : decode cX12_type 20 = .ok (.if_icmp .le 7, 3) := by decide +kernel
theorem dX12_type_23 : decode cX12_type 23 = .ok (.iconst 1, 1) := by decide +kernel
theorem dX12_type_24 : decode cX12_type 24 = .ok (.goto 4, 3) := by decide +kernel
theorem dX12_type_27 : decode cX12_type 27 = .ok (.iconst 0, 1) := by decide +kernel
theorem dX12_type_28 : decode cX12_type 28 = .ok (.putfield 388, 3) := by decide +kernel
theorem dX12_type_31 : decode cX12_type 31 = .ok (.aload_n 0, 1) := by decide +kernel
theorem dX12_type_32 : decode cX12_type 32 = .ok (.getfield 388, 3) := by decide +kernel
theorem dX12_type_35 : decode cX12_type 35 = .ok (.ifCond .le 5, 3) := by decide +kernel
theorem dX12_type_38 : decode cX12_type 38 = .ok (.iconst 0, 1) := by decide +kernel
theorem dX12_type_39 : decode cX12_type 39 = .ok (.ireturn, 1) := by decide +kernel
theorem dX12_type_40 : decode cX12_type 40 = .ok (.aload_n 0, 1) := by decide +kernel
theorem dX12_type_41 : decode cX12_type 41 = .ok (.invokevirtual 419, 3) := by decide +kernel
theorem dX12_type_44 : decode cX12_type 44 = .ok (.lstore_n 3, 1) := by decide +kernel
theorem dX12_type_45 : decode cX12_type 45 = .ok (.aload_n 0, 1) := by decide +kernel
theorem dX12_type_46 : decode cX12_type 46 = .ok (.lload_n 3, 1) := by decide +kernel
theorem dX12_type_47 : decode cX12_type 47 = .ok (.lconst 0, 1) := by decide +kernel
theorem dX12_type_48 : decode cX12_type 48 = .ok (.lcmp, 1) := by decide +kernel
theorem dX12_type_49 : decode cX12_type 49 = .ok (.ifCond .ne 7, 3) := by decide +kernel
theorem dX12_type_52 : decode cX12_type 52 = .ok (.iconst 2, 1) := by decide +kernel
theorem dX12_type_53 : decode cX12_type 53 = .ok (.goto 4, 3) := by decide +kernel
theorem dX12_type_56 : decode cX12_type 56 = .ok (.iconst 0, 1) := by decide +kernel
theorem dX12_type_57 : decode cX12_type 57 = .ok (.putfield 388, 3) := by decide +kernel
theorem dX12_type_60 : decode cX12_type 60 = .ok (.aload_n 0, 1) := by decide +kernel
theorem dX12_type_61 : decode cX12_type 61 = .ok (.getfield 388, 3) := by decide +kernel
theorem dX12_type_64 : decode cX12_type 64 = .ok (.ifCond .le 5, 3) := by decide +kernel
theorem dX12_type_67 : decode cX12_type 67 = .ok (.iconst 0, 1) := by decide +kernel
theorem dX12_type_68 : decode cX12_type 68 = .ok (.ireturn, 1) := by decide +kernel
theorem dX12_type_69 : decode cX12_type 69 = .ok (.aload_n 0, 1) := by decide +kernel
theorem dX12_type_70 : decode cX12_type 70 = .ok (.getfield 413, 3) := by decide +kernel
theorem dX12_type_73 : decode cX12_type 73 = .ok (.bipush 16, 2) := by decide +kernel
theorem dX12_type_75 : decode cX12_type 75 = .ok (.if_icmp .ne 7, 3) := by decide +kernel
theorem dX12_type_78 : decode cX12_type 78 = .ok (.iconst 1, 1) := by decide +kernel
theorem dX12_type_79 : decode cX12_type 79 = .ok (.goto 4, 3) := by decide +kernel
theorem dX12_type_82 : decode cX12_type 82 = .ok (.iconst 0, 1) := by decide +kernel
theorem dX12_type_83 : decode cX12_type 83 = .ok (.istore 5, 2) := by decide +kernel
theorem dX12_type_85 : decode cX12_type 85 = .ok (.iconst 0, 1) := by decide +kernel
theorem dX12_type_86 : decode cX12_type 86 = .ok (.istore 6, 2) := by decide +kernel
theorem dX12_type_88 : decode cX12_type 88 = .ok (.iload 6, 2) := by decide +kernel
theorem dX12_type_90 : decode cX12_type 90 = .ok (.aload_n 0, 1) := by decide +kernel
theorem dX12_type_91 : decode cX12_type 91 = .ok (.getfield 413, 3) := by decide +kernel
theorem dX12_type_94 : decode cX12_type 94 = .ok (.if_icmp .ge 44, 3) := by decide +kernel
theorem dX12_type_97 : decode cX12_type 97 = .ok (.iload 5, 2) := by decide +kernel
theorem dX12_type_99 : decode cX12_type 99 = .ok (.ifCond .ne 26, 3) := by decide +kernel
theorem dX12_type_102 : decode cX12_type 102 = .ok (.aload_n 0, 1) := by decide +kernel
theorem dX12_type_103 : decode cX12_type 103 = .ok (.getfield 87, 3) := by decide +kernel
theorem dX12_type_106 : decode cX12_type 106 = .ok (.iload 6, 2) := by decide +kernel
theorem dX12_type_108 : decode cX12_type 108 = .ok (.iaload, 1) := by decide +kernel
theorem dX12_type_109 : decode cX12_type 109 = .ok (.iload_n 2, 1) := by decide +kernel
theorem dX12_type_110 : decode cX12_type 110 = .ok (.if_icmp .ne 19, 3) := by decide +kernel
theorem dX12_type_113 : decode cX12_type 113 = .ok (.aload_n 0, 1) := by decide +kernel
theorem dX12_type_114 : decode cX12_type 114 = .ok (.getfield 78, 3) := by decide +kernel
theorem dX12_type_117 : decode cX12_type 117 = .ok (.iload 6, 2) := by decide +kernel
theorem dX12_type_119 : decode cX12_type 119 = .ok (.laload, 1) := by decide +kernel
theorem dX12_type_120 : decode cX12_type 120 = .ok (.lload_n 3, 1) := by decide +kernel
theorem dX12_type_121 : decode cX12_type 121 = .ok (.lcmp, 1) := by decide +kernel
theorem dX12_type_122 : decode cX12_type 122 = .ok (.ifCond .ne 7, 3) := by decide +kernel
theorem dX12_type_125 : decode cX12_type 125 = .ok (.iconst 1, 1) := by decide +kernel
theorem dX12_type_126 : decode cX12_type 126 = .ok (.goto 4, 3) := by decide +kernel
theorem dX12_type_129 : decode cX12_type 129 = .ok (.iconst 0, 1) := by decide +kernel
theorem dX12_type_130 : decode cX12_type 130 = .ok (.istore 5, 2) := by decide +kernel
theorem dX12_type_132 : decode cX12_type 132 = .ok (.iinc 6 1, 3) := by decide +kernel
theorem dX12_type_135 : decode cX12_type 135 = .ok (.goto (-47), 3) := by decide +kernel
theorem dX12_type_138 : decode cX12_type 138 = .ok (.aload_n 0, 1) := by decide +kernel
theorem dX12_type_139 : decode cX12_type 139 = .ok (.iload 5, 2) := by decide +kernel
theorem dX12_type_141 : decode cX12_type 141 = .ok (.ifCond .eq 7, 3) := by decide +kernel
theorem dX12_type_144 : decode cX12_type 144 = .ok (.iconst 3, 1) := by decide +kernel
theorem dX12_type_145 : decode cX12_type 145 = .ok (.goto 4, 3) := by decide +kernel
theorem dX12_type_148 : decode cX12_type 148 = .ok (.iconst 0, 1) := by decide +kernel
theorem dX12_type_149 : decode cX12_type 149 = .ok (.putfield 388, 3) := by decide +kernel
theorem dX12_type_152 : decode cX12_type 152 = .ok (.aload_n 0, 1) := by decide +kernel
theorem dX12_type_153 : decode cX12_type 153 = .ok (.getfield 388, 3) := by decide +kernel
theorem dX12_type_156 : decode cX12_type 156 = .ok (.ifCond .le 5, 3) := by decide +kernel
theorem dX12_type_159 : decode cX12_type 159 = .ok (.iconst 0, 1) := by decide +kernel
theorem dX12_type_160 : decode cX12_type 160 = .ok (.ireturn, 1) := by decide +kernel
theorem dX12_type_161 : decode cX12_type 161 = .ok (.aload_n 0, 1) := by decide +kernel
theorem dX12_type_162 : decode cX12_type 162 = .ok (.getfield 413, 3) := by decide +kernel
theorem dX12_type_165 : decode cX12_type 165 = .ok (.istore 6, 2) := by decide +kernel
theorem dX12_type_167 : decode cX12_type 167 = .ok (.aload_n 0, 1) := by decide +kernel
theorem dX12_type_168 : decode cX12_type 168 = .ok (.dup, 1) := by decide +kernel
theorem dX12_type_169 : decode cX12_type 169 = .ok (.getfield 413, 3) := by decide +kernel
theorem dX12_type_172 : decode cX12_type 172 = .ok (.iconst 1, 1) := by decide +kernel
theorem dX12_type_173 : decode cX12_type 173 = .ok (.iadd, 1) := by decide +kernel
theorem dX12_type_174 : decode cX12_type 174 = .ok (.putfield 413, 3) := by decide +kernel
theorem dX12_type_177 : decode cX12_type 177 = .ok (.aload_n 0, 1) := by decide +kernel
theorem dX12_type_178 : decode cX12_type 178 = .ok (.getfield 78, 3) := by decide +kernel
theorem dX12_type_181 : decode cX12_type 181 = .ok (.iload 6, 2) := by decide +kernel
theorem dX12_type_183 : decode cX12_type 183 = .ok (.lload_n 3, 1) := by decide +kernel
theorem dX12_type_184 : decode cX12_type 184 = .ok (.lastore, 1) := by decide +kernel
theorem dX12_type_185 : decode cX12_type 185 = .ok (.aload_n 0, 1) := by decide +kernel
theorem dX12_type_186 : decode cX12_type 186 = .ok (.getfield 87, 3) := by decide +kernel
theorem dX12_type_189 : decode cX12_type 189 = .ok (.iload 6, 2) := by decide +kernel
theorem dX12_type_191 : decode cX12_type 191 = .ok (.iload_n 2, 1) := by decide +kernel
theorem dX12_type_192 : decode cX12_type 192 = .ok (.iastore, 1) := by decide +kernel
theorem dX12_type_193 : decode cX12_type 193 = .ok (.aload_n 0, 1) := by decide +kernel
theorem dX12_type_194 : decode cX12_type 194 = .ok (.getfield 91, 3) := by decide +kernel
theorem dX12_type_197 : decode cX12_type 197 = .ok (.iload 6, 2) := by decide +kernel
theorem dX12_type_199 : decode cX12_type 199 = .ok (.iload_n 1, 1) := by decide +kernel
theorem dX12_type_200 : decode cX12_type 200 = .ok (.iastore, 1) := by decide +kernel
theorem dX12_type_201 : decode cX12_type 201 = .ok (.aload_n 0, 1) := by decide +kernel
theorem dX12_type_202 : decode cX12_type 202 = .ok (.getfield 94, 3) := by decide +kernel
theorem dX12_type_205 : decode cX12_type 205 = .ok (.iload 6, 2) := by decide +kernel
theorem dX12_type_207 : decode cX12_type 207 = .ok (.iconst 0, 1) := by decide +kernel
theorem dX12_type_208 : decode cX12_type 208 = .ok (.iastore, 1) := by decide +kernel
theorem dX12_type_209 : decode cX12_type 209 = .ok (.aload_n 0, 1) := by decide +kernel
theorem dX12_type_210 : decode cX12_type 210 = .ok (.getfield 115, 3) := by decide +kernel
theorem dX12_type_213 : decode cX12_type 213 = .ok (.iload 6, 2) := by decide +kernel
theorem dX12_type_215 : decode cX12_type 215 = .ok (.iconst 0, 1) := by decide +kernel
theorem dX12_type_216 : decode cX12_type 216 = .ok (.bastore, 1) := by decide +kernel
theorem dX12_type_217 : decode cX12_type 217 = .ok (.iload_n 1, 1) := by decide +kernel
theorem dX12_type_218 : decode cX12_type 218 = .ok (.iconst (-1), 1) := by decide +kernel
theorem dX12_type_219 : decode cX12_type 219 = .ok (.if_icmp .eq 10, 3) := by decide +kernel
theorem dX12_type_222 : decode cX12_type 222 = .ok (.aload_n 0, 1) := by decide +kernel
theorem dX12_type_223 : decode cX12_type 223 = .ok (.getfield 115, 3) := by decide +kernel
theorem dX12_type_226 : decode cX12_type 226 = .ok (.iload_n 1, 1) := by decide +kernel
theorem dX12_type_227 : decode cX12_type 227 = .ok (.iconst 1, 1) := by decide +kernel
theorem dX12_type_228 : decode cX12_type 228 = .ok (.bastore, 1) := by decide +kernel
theorem dX12_type_229 : decode cX12_type 229 = .ok (.aload_n 0, 1) := by decide +kernel
theorem dX12_type_230 : decode cX12_type 230 = .ok (.iload 6, 2) := by decide +kernel
theorem dX12_type_232 : decode cX12_type 232 = .ok (.invokevirtual 423, 3) := by decide +kernel
theorem dX12_type_235 : decode cX12_type 235 = .ok (.aload_n 0, 1) := by decide +kernel
theorem dX12_type_236 : decode cX12_type 236 = .ok (.iconst 0, 1) := by decide +kernel
theorem dX12_type_237 : decode cX12_type 237 = .ok (.putfield 391, 3) := by decide +kernel
theorem dX12_type_240 : decode cX12_type 240 = .ok (.iload 6, 2) := by decide +kernel
theorem dX12_type_242 : decode cX12_type 242 = .ok (.ireturn, 1) := by decide +kernel
theorem dX12_typeLook_0 : decode cX12_typeLook 0 = .ok (.aload_n 0, 1) := by decide +kernel
theorem dX12_typeLook_1 : decode cX12_typeLook 1 = .ok (.iconst 0, 1) := by decide +kernel
theorem dX12_typeLook_2 : decode cX12_typeLook 2 = .ok (.putfield 388, 3) := by decide +kernel
theorem dX12_typeLook_5 : decode cX12_typeLook 5 = .ok (.aload_n 0, 1) := by decide +kernel
theorem dX12_typeLook_6 : decode cX12_typeLook 6 = .ok (.iload_n 1, 1) := by decide +kernel
theorem dX12_typeLook_7 : decode cX12_typeLook 7 = .ok (.invokevirtual 416, 3) := by decide +kernel
theorem dX12_typeLook_10 : decode cX12_typeLook 10 = .ok (.ifCond .ne 5, 3) := by decide +kernel
theorem dX12_typeLook_13 : decode cX12_typeLook 13 = .ok (.iconst (-1), 1) := by decide +kernel
theorem dX12_typeLook_14 : decode cX12_typeLook 14 = .ok (.ireturn, 1) := by decide +kernel
theorem dX12_typeLook_15 : decode cX12_typeLook 15 = .ok (.iconst 0, 1) := by decide +kernel
theorem dX12_typeLook_16 : decode cX12_typeLook 16 = .ok (.istore_n 3, 1) := by decide +kernel
theorem dX12_typeLook_17 : decode cX12_typeLook 17 = .ok (.iconst 0, 1) := by decide +kernel
theorem dX12_typeLook_18 : decode cX12_typeLook 18 = .ok (.istore 4, 2) := by decide +kernel
theorem dX12_typeLook_20 : decode cX12_typeLook 20 = .ok (.iconst 0, 1) := by decide +kernel
theorem dX12_typeLook_21 : decode cX12_typeLook 21 = .ok (.istore 5, 2) := by decide +kernel
theorem dX12_typeLook_23 : decode cX12_typeLook 23 = .ok (.iload 5, 2) := by decide +kernel
theorem dX12_typeLook_25 : decode cX12_typeLook 25 = .ok (.aload_n 0, 1) := by decide +kernel
theorem dX12_typeLook_26 : decode cX12_typeLook 26 = .ok (.getfield 94, 3) := by decide +kernel
theorem dX12_typeLook_29 : decode cX12_typeLook 29 = .ok (.iload_n 1, 1) := by decide +kernel
theorem dX12_typeLook_30 : decode cX12_typeLook 30 = .ok (.iaload, 1) := by decide +kernel
theorem dX12_typeLook_31 : decode cX12_typeLook 31 = .ok (.if_icmp .ge 32, 3) := by decide +kernel
theorem dX12_typeLook_34 : decode cX12_typeLook 34 = .ok (.iload_n 3, 1) := by decide +kernel
theorem dX12_typeLook_35 : decode cX12_typeLook 35 = .ok (.aload_n 0, 1) := by decide +kernel
theorem dX12_typeLook_36 : decode cX12_typeLook 36 = .ok (.getfield 119, 3) := by decide +kernel
theorem dX12_typeLook_39 : decode cX12_typeLook 39 = .ok (.bipush 6, 2) := by decide +kernel
theorem dX12_typeLook_41 : decode cX12_typeLook 41 = .ok (.iload_n 1, 1) := by decide +kernel
theorem dX12_typeLook_42 : decode cX12_typeLook 42 = .ok (.imul, 1) := by decide +kernel
theorem dX12_typeLook_43 : decode cX12_typeLook 43 = .ok (.iload 5, 2) := by decide +kernel
theorem dX12_typeLook_45 : decode cX12_typeLook 45 = .ok (.iadd, 1) := by decide +kernel
theorem dX12_typeLook_46 : decode cX12_typeLook 46 = .ok (.baload, 1) := by decide +kernel
theorem dX12_typeLook_47 : decode cX12_typeLook 47 = .ok (.ifCond .eq 7, 3) := by decide +kernel
theorem dX12_typeLook_50 : decode cX12_typeLook 50 = .ok (.iconst 1, 1) := by decide +kernel
theorem dX12_typeLook_51 : decode cX12_typeLook 51 = .ok (.goto 4, 3) := by decide +kernel
theorem dX12_typeLook_54 : decode cX12_typeLook 54 = .ok (.iconst 0, 1) := by decide +kernel
theorem dX12_typeLook_55 : decode cX12_typeLook 55 = .ok (.iadd, 1) := by decide +kernel
theorem dX12_typeLook_56 : decode cX12_typeLook 56 = .ok (.istore_n 3, 1) := by decide +kernel
theorem dX12_typeLook_57 : decode cX12_typeLook 57 = .ok (.iinc 5 1, 3) := by decide +kernel
theorem dX12_typeLook_60 : decode cX12_typeLook 60 = .ok (.goto (-37), 3) := by decide +kernel
theorem dX12_typeLook_63 : decode cX12_typeLook 63 = .ok (.iconst 0, 1) := by decide +kernel
theorem dX12_typeLook_64 : decode cX12_typeLook 64 = .ok (.istore 5, 2) := by decide +kernel
theorem dX12_typeLook_66 : decode cX12_typeLook 66 = .ok (.iload 5, 2) := by decide +kernel
theorem dX12_typeLook_68 : decode cX12_typeLook 68 = .ok (.aload_n 0, 1) := by decide +kernel
theorem dX12_typeLook_69 : decode cX12_typeLook 69 = .ok (.getfield 435, 3) := by decide +kernel
theorem dX12_typeLook_72 : decode cX12_typeLook 72 = .ok (.if_icmp .ge 40, 3) := by decide +kernel
theorem dX12_typeLook_75 : decode cX12_typeLook 75 = .ok (.iload 4, 2) := by decide +kernel
theorem dX12_typeLook_77 : decode cX12_typeLook 77 = .ok (.aload_n 0, 1) := by decide +kernel
theorem dX12_typeLook_78 : decode cX12_typeLook 78 = .ok (.getfield 134, 3) := by decide +kernel
theorem dX12_typeLook_81 : decode cX12_typeLook 81 = .ok (.iload 5, 2) := by decide +kernel
theorem dX12_typeLook_83 : decode cX12_typeLook 83 = .ok (.baload, 1) := by decide +kernel
theorem dX12_typeLook_84 : decode cX12_typeLook 84 = .ok (.ifCond .eq 18, 3) := by decide +kernel
theorem dX12_typeLook_87 : decode cX12_typeLook 87 = .ok (.aload_n 0, 1) := by decide +kernel
theorem dX12_typeLook_88 : decode cX12_typeLook 88 = .ok (.getfield 125, 3) := by decide +kernel
theorem dX12_typeLook_91 : decode cX12_typeLook 91 = .ok (.iload 5, 2) := by decide +kernel
theorem dX12_typeLook_93 : decode cX12_typeLook 93 = .ok (.iaload, 1) := by decide +kernel
theorem dX12_typeLook_94 : decode cX12_typeLook 94 = .ok (.iload_n 1, 1) := by decide +kernel
theorem dX12_typeLook_95 : decode cX12_typeLook 95 = .ok (.if_icmp .ne 7, 3) := by decide +kernel
theorem dX12_typeLook_98 : decode cX12_typeLook 98 = .ok (.iconst 1, 1) := by decide +kernel
theorem dX12_typeLook_99 : decode cX12_typeLook 99 = .ok (.goto 4, 3) := by decide +kernel
theorem dX12_typeLook_102 : decode cX12_typeLook 102 = .ok (.iconst 0, 1) := by decide +kernel
theorem dX12_typeLook_103 : decode cX12_typeLook 103 = .ok (.iadd, 1) := by decide +kernel
theorem dX12_typeLook_104 : decode cX12_typeLook 104 = .ok (.istore 4, 2) := by decide +kernel
theorem dX12_typeLook_106 : decode cX12_typeLook 106 = .ok (.iinc 5 1, 3) := by decide +kernel
theorem dX12_typeLook_109 : decode cX12_typeLook 109 = .ok (.goto (-43), 3) := by decide +kernel
theorem dX12_typeLook_112 : decode cX12_typeLook 112 = .ok (.iload_n 2, 1) := by decide +kernel
theorem dX12_typeLook_113 : decode cX12_typeLook 113 = .ok (.tableswitch 101 0 7 #[47, 54, 61, 68, 75, 81, 96, 98], 47) := by decide +kernel
theorem dX12_typeLook_160 : decode cX12_typeLook 160 = .ok (.aload_n 0, 1) := by decide +kernel
theorem dX12_typeLook_161 : decode cX12_typeLook 161 = .ok (.getfield 91, 3) := by decide +kernel
theorem dX12_typeLook_164 : decode cX12_typeLook 164 = .ok (.iload_n 1, 1) := by decide +kernel
theorem dX12_typeLook_165 : decode cX12_typeLook 165 = .ok (.iaload, 1) := by decide +kernel
theorem dX12_typeLook_166 : decode cX12_typeLook 166 = .ok (.ireturn, 1) := by decide +kernel
theorem dX12_typeLook_167 : decode cX12_typeLook 167 = .ok (.aload_n 0, 1) := by decide +kernel
theorem dX12_typeLook_168 : decode cX12_typeLook 168 = .ok (.getfield 87, 3) := by decide +kernel
theorem dX12_typeLook_171 : decode cX12_typeLook 171 = .ok (.iload_n 1, 1) := by decide +kernel
theorem dX12_typeLook_172 : decode cX12_typeLook 172 = .ok (.iaload, 1) := by decide +kernel
theorem dX12_typeLook_173 : decode cX12_typeLook 173 = .ok (.ireturn, 1) := by decide +kernel
theorem dX12_typeLook_174 : decode cX12_typeLook 174 = .ok (.aload_n 0, 1) := by decide +kernel
theorem dX12_typeLook_175 : decode cX12_typeLook 175 = .ok (.getfield 94, 3) := by decide +kernel
theorem dX12_typeLook_178 : decode cX12_typeLook 178 = .ok (.iload_n 1, 1) := by decide +kernel
theorem dX12_typeLook_179 : decode cX12_typeLook 179 = .ok (.iaload, 1) := by decide +kernel
theorem dX12_typeLook_180 : decode cX12_typeLook 180 = .ok (.ireturn, 1) := by decide +kernel
theorem dX12_typeLook_181 : decode cX12_typeLook 181 = .ok (.aload_n 0, 1) := by decide +kernel
theorem dX12_typeLook_182 : decode cX12_typeLook 182 = .ok (.getfield 97, 3) := by decide +kernel
theorem dX12_typeLook_185 : decode cX12_typeLook 185 = .ok (.iload_n 1, 1) := by decide +kernel
theorem dX12_typeLook_186 : decode cX12_typeLook 186 = .ok (.iaload, 1) := by decide +kernel
theorem dX12_typeLook_187 : decode cX12_typeLook 187 = .ok (.ireturn, 1) := by decide +kernel
theorem dX12_typeLook_188 : decode cX12_typeLook 188 = .ok (.aload_n 0, 1) := by decide +kernel
theorem dX12_typeLook_189 : decode cX12_typeLook 189 = .ok (.iload_n 1, 1) := by decide +kernel
theorem dX12_typeLook_190 : decode cX12_typeLook 190 = .ok (.invokevirtual 438, 3) := by decide +kernel
theorem dX12_typeLook_193 : decode cX12_typeLook 193 = .ok (.ireturn, 1) := by decide +kernel
theorem dX12_typeLook_194 : decode cX12_typeLook 194 = .ok (.aload_n 0, 1) := by decide +kernel
theorem dX12_typeLook_195 : decode cX12_typeLook 195 = .ok (.getfield 115, 3) := by decide +kernel
theorem dX12_typeLook_198 : decode cX12_typeLook 198 = .ok (.iload_n 1, 1) := by decide +kernel
theorem dX12_typeLook_199 : decode cX12_typeLook 199 = .ok (.baload, 1) := by decide +kernel
theorem dX12_typeLook_200 : decode cX12_typeLook 200 = .ok (.ifCond .eq 7, 3) := by decide +kernel
theorem dX12_typeLook_203 : decode cX12_typeLook 203 = .ok (.iconst 1, 1) := by decide +kernel
theorem dX12_typeLook_204 : decode cX12_typeLook 204 = .ok (.goto 4, 3) := by decide +kernel
theorem dX12_typeLook_207 : decode cX12_typeLook 207 = .ok (.iconst 0, 1) := by decide +kernel
theorem dX12_typeLook_208 : decode cX12_typeLook 208 = .ok (.ireturn, 1) := by decide +kernel
theorem dX12_typeLook_209 : decode cX12_typeLook 209 = .ok (.iload_n 3, 1) := by decide +kernel
theorem dX12_typeLook_210 : decode cX12_typeLook 210 = .ok (.ireturn, 1) := by decide +kernel
theorem dX12_typeLook_211 : decode cX12_typeLook 211 = .ok (.iload 4, 2) := by decide +kernel
theorem dX12_typeLook_213 : decode cX12_typeLook 213 = .ok (.ireturn, 1) := by decide +kernel
theorem dX12_typeLook_214 : decode cX12_typeLook 214 = .ok (.iconst (-1), 1) := by decide +kernel
theorem dX12_typeLook_215 : decode cX12_typeLook 215 = .ok (.ireturn, 1) := by decide +kernel
theorem dX12_undo_0 : decode cX12_undo 0 = .ok (.aload_n 0, 1) := by decide +kernel
theorem dX12_undo_1 : decode cX12_undo 1 = .ok (.iconst 0, 1) := by decide +kernel
theorem dX12_undo_2 : decode cX12_undo 2 = .ok (.putfield 388, 3) := by decide +kernel
theorem dX12_undo_5 : decode cX12_undo 5 = .ok (.aload_n 0, 1) := by decide +kernel
theorem dX12_undo_6 : decode cX12_undo 6 = .ok (.getfield 479, 3) := by decide +kernel
theorem dX12_undo_9 : decode cX12_undo 9 = .ok (.ifCond .ne 5, 3) := by decide +kernel
theorem dX12_undo_12 : decode cX12_undo 12 = .ok (.iconst (-1), 1) := by decide +kernel
theorem dX12_undo_13 : decode cX12_undo 13 = .ok (.ireturn, 1) := by decide +kernel
theorem dX12_undo_14 : decode cX12_undo 14 = .ok (.aload_n 0, 1) := by decide +kernel
theorem dX12_undo_15 : decode cX12_undo 15 = .ok (.dup, 1) := by decide +kernel
theorem dX12_undo_16 : decode cX12_undo 16 = .ok (.getfield 479, 3) := by decide +kernel
theorem dX12_undo_19 : decode cX12_undo 19 = .ok (.iconst 1, 1) := by decide +kernel
theorem dX12_undo_20 : decode cX12_undo 20 = .ok (.isub, 1) := by decide +kernel
theorem dX12_undo_21 : decode cX12_undo 21 = .ok (.putfield 479, 3) := by decide +kernel
theorem dX12_undo_24 : decode cX12_undo 24 = .ok (.aload_n 0, 1) := by decide +kernel
theorem dX12_undo_25 : decode cX12_undo 25 = .ok (.getfield 144, 3) := by decide +kernel
theorem dX12_undo_28 : decode cX12_undo 28 = .ok (.aload_n 0, 1) := by decide +kernel
theorem dX12_undo_29 : decode cX12_undo 29 = .ok (.getfield 479, 3) := by decide +kernel
theorem dX12_undo_32 : decode cX12_undo 32 = .ok (.iaload, 1) := by decide +kernel
theorem dX12_undo_33 : decode cX12_undo 33 = .ok (.istore_n 1, 1) := by decide +kernel
theorem dX12_undo_34 : decode cX12_undo 34 = .ok (.iload_n 1, 1) := by decide +kernel
theorem dX12_undo_35 : decode cX12_undo 35 = .ok (.iconst (-1), 1) := by decide +kernel
theorem dX12_undo_36 : decode cX12_undo 36 = .ok (.if_icmp .ne 29, 3) := by decide +kernel
theorem dX12_undo_39 : decode cX12_undo 39 = .ok (.aload_n 0, 1) := by decide +kernel
theorem dX12_undo_40 : decode cX12_undo 40 = .ok (.getfield 84, 3) := by decide +kernel
theorem dX12_undo_43 : decode cX12_undo 43 = .ok (.aload_n 0, 1) := by decide +kernel
theorem dX12_undo_44 : decode cX12_undo 44 = .ok (.getfield 147, 3) := by decide +kernel
theorem dX12_undo_47 : decode cX12_undo 47 = .ok (.aload_n 0, 1) := by decide +kernel
theorem dX12_undo_48 : decode cX12_undo 48 = .ok (.getfield 479, 3) := by decide +kernel
theorem dX12_undo_51 : decode cX12_undo 51 = .ok (.iaload, 1) := by decide +kernel
theorem dX12_undo_52 : decode cX12_undo 52 = .ok (.aload_n 0, 1) := by decide +kernel
theorem dX12_undo_53 : decode cX12_undo 53 = .ok (.getfield 153, 3) := by decide +kernel
theorem dX12_undo_56 : decode cX12_undo 56 = .ok (.aload_n 0, 1) := by decide +kernel
theorem dX12_undo_57 : decode cX12_undo 57 = .ok (.getfield 479, 3) := by decide +kernel
theorem dX12_undo_60 : decode cX12_undo 60 = .ok (.laload, 1) := by decide +kernel
theorem dX12_undo_61 : decode cX12_undo 61 = .ok (.lastore, 1) := by decide +kernel
theorem dX12_undo_62 : decode cX12_undo 62 = .ok (.goto 33, 3) := by decide +kernel
theorem dX12_undo_65 : decode cX12_undo 65 = .ok (.aload_n 0, 1) := by decide +kernel
theorem dX12_undo_66 : decode cX12_undo 66 = .ok (.getfield 138, 3) := by decide +kernel
theorem dX12_undo_69 : decode cX12_undo 69 = .ok (.aload_n 0, 1) := by decide +kernel
theorem dX12_undo_70 : decode cX12_undo 70 = .ok (.getfield 131, 3) := by decide +kernel
theorem dX12_undo_73 : decode cX12_undo 73 = .ok (.iload_n 1, 1) := by decide +kernel
theorem dX12_undo_74 : decode cX12_undo 74 = .ok (.iaload, 1) := by decide +kernel
theorem dX12_undo_75 : decode cX12_undo 75 = .ok (.aload_n 0, 1) := by decide +kernel
theorem dX12_undo_76 : decode cX12_undo 76 = .ok (.getfield 147, 3) := by decide +kernel
theorem dX12_undo_79 : decode cX12_undo 79 = .ok (.aload_n 0, 1) := by decide +kernel
theorem dX12_undo_80 : decode cX12_undo 80 = .ok (.getfield 479, 3) := by decide +kernel
theorem dX12_undo_83 : decode cX12_undo 83 = .ok (.iaload, 1) := by decide +kernel
theorem dX12_undo_84 : decode cX12_undo 84 = .ok (.iadd, 1) := by decide +kernel
theorem dX12_undo_85 : decode cX12_undo 85 = .ok (.aload_n 0, 1) := by decide +kernel
theorem dX12_undo_86 : decode cX12_undo 86 = .ok (.getfield 153, 3) := by decide +kernel
theorem dX12_undo_89 : decode cX12_undo 89 = .ok (.aload_n 0, 1) := by decide +kernel
theorem dX12_undo_90 : decode cX12_undo 90 = .ok (.getfield 479, 3) := by decide +kernel
theorem dX12_undo_93 : decode cX12_undo 93 = .ok (.laload, 1) := by decide +kernel
theorem dX12_undo_94 : decode cX12_undo 94 = .ok (.lastore, 1) := by decide +kernel
theorem dX12_undo_95 : decode cX12_undo 95 = .ok (.aload_n 0, 1) := by decide +kernel
theorem dX12_undo_96 : decode cX12_undo 96 = .ok (.getfield 150, 3) := by decide +kernel
theorem dX12_undo_99 : decode cX12_undo 99 = .ok (.aload_n 0, 1) := by decide +kernel
theorem dX12_undo_100 : decode cX12_undo 100 = .ok (.getfield 479, 3) := by decide +kernel
theorem dX12_undo_103 : decode cX12_undo 103 = .ok (.iaload, 1) := by decide +kernel
theorem dX12_undo_104 : decode cX12_undo 104 = .ok (.ireturn, 1) := by decide +kernel
theorem dX12_valueIn_0 : decode cX12_valueIn 0 = .ok (.aload_n 0, 1) := by decide +kernel
theorem dX12_valueIn_1 : decode cX12_valueIn 1 = .ok (.getfield 243, 3) := by decide +kernel
theorem dX12_valueIn_4 : decode cX12_valueIn 4 = .ok (.sipush 4000, 3) := by decide +kernel
theorem dX12_valueIn_7 : decode cX12_valueIn 7 = .ok (.iload_n 1, 1) := by decide +kernel
theorem dX12_valueIn_8 : decode cX12_valueIn 8 = .ok (.imul, 1) := by decide +kernel
theorem dX12_valueIn_9 : decode cX12_valueIn 9 = .ok (.aload_n 0, 1) := by decide +kernel
theorem dX12_valueIn_10 : decode cX12_valueIn 10 = .ok (.getfield 195, 3) := by decide +kernel
theorem dX12_valueIn_13 : decode cX12_valueIn 13 = .ok (.aload_n 0, 1) := by decide +kernel
theorem dX12_valueIn_14 : decode cX12_valueIn 14 = .ok (.iload_n 1, 1) := by decide +kernel
theorem dX12_valueIn_15 : decode cX12_valueIn 15 = .ok (.iload_n 2, 1) := by decide +kernel
theorem dX12_valueIn_16 : decode cX12_valueIn 16 = .ok (.invokevirtual 545, 3) := by decide +kernel
theorem dX12_valueIn_19 : decode cX12_valueIn 19 = .ok (.iaload, 1) := by decide +kernel
theorem dX12_valueIn_20 : decode cX12_valueIn 20 = .ok (.iadd, 1) := by decide +kernel
theorem dX12_valueIn_21 : decode cX12_valueIn 21 = .ok (.iload_n 3, 1) := by decide +kernel
theorem dX12_valueIn_22 : decode cX12_valueIn 22 = .ok (.iadd, 1) := by decide +kernel
theorem dX12_valueIn_23 : decode cX12_valueIn 23 = .ok (.laload, 1) := by decide +kernel
theorem dX12_valueIn_24 : decode cX12_valueIn 24 = .ok (.lreturn, 1) := by decide +kernel
theorem dX12_visit_0 : decode cX12_visit 0 = .ok (.aload_n 0, 1) := by decide +kernel
theorem dX12_visit_1 : decode cX12_visit 1 = .ok (.getfield 249, 3) := by decide +kernel
theorem dX12_visit_4 : decode cX12_visit 4 = .ok (.iload_n 2, 1) := by decide +kernel
theorem dX12_visit_5 : decode cX12_visit 5 = .ok (.baload, 1) := by decide +kernel
theorem dX12_visit_6 : decode cX12_visit 6 = .ok (.ifCond .ne 27, 3) := by decide +kernel
theorem dX12_visit_9 : decode cX12_visit 9 = .ok (.iload_n 2, 1) := by decide +kernel
theorem dX12_visit_10 : decode cX12_visit 10 = .ok (.iload_n 3, 1) := by decide +kernel
theorem dX12_visit_11 : decode cX12_visit 11 = .ok (.if_icmp .eq 22, 3) := by decide +kernel
theorem dX12_visit_14 : decode cX12_visit 14 = .ok (.iload 4, 2) := by decide +kernel
theorem dX12_visit_16 : decode cX12_visit 16 = .ok (.ifCond .eq 18, 3) := by decide +kernel
theorem dX12_visit_19 : decode cX12_visit 19 = .ok (.aload_n 0, 1) := by decide +kernel
theorem dX12_visit_20 : decode cX12_visit 20 = .ok (.getfield 246, 3) := by decide +kernel
theorem dX12_visit_23 : decode cX12_visit 23 = .ok (.aload_n 0, 1) := by decide +kernel
theorem dX12_visit_24 : decode cX12_visit 24 = .ok (.iload_n 1, 1) := by decide +kernel
theorem dX12_visit_25 : decode cX12_visit 25 = .ok (.iload_n 2, 1) := by decide +kernel
theorem dX12_visit_26 : decode cX12_visit 26 = .ok (.invokevirtual 545, 3) := by decide +kernel
theorem dX12_visit_29 : decode cX12_visit 29 = .ok (.baload, 1) := by decide +kernel
theorem dX12_visit_30 : decode cX12_visit 30 = .ok (.ifCond .eq 4, 3) := by decide +kernel
theorem dX12_visit_33 : decode cX12_visit 33 = .ok (.return_, 1) := by decide +kernel
theorem dX12_visit_34 : decode cX12_visit 34 = .ok (.aload_n 0, 1) := by decide +kernel
theorem dX12_visit_35 : decode cX12_visit 35 = .ok (.getfield 249, 3) := by decide +kernel
theorem dX12_visit_38 : decode cX12_visit 38 = .ok (.iload_n 2, 1) := by decide +kernel
theorem dX12_visit_39 : decode cX12_visit 39 = .ok (.iconst 1, 1) := by decide +kernel
theorem dX12_visit_40 : decode cX12_visit 40 = .ok (.bastore, 1) := by decide +kernel
theorem dX12_visit_41 : decode cX12_visit 41 = .ok (.aload_n 0, 1) := by decide +kernel
theorem dX12_visit_42 : decode cX12_visit 42 = .ok (.getfield 256, 3) := by decide +kernel
theorem dX12_visit_45 : decode cX12_visit 45 = .ok (.aload_n 0, 1) := by decide +kernel
theorem dX12_visit_46 : decode cX12_visit 46 = .ok (.getfield 581, 3) := by decide +kernel
theorem dX12_visit_49 : decode cX12_visit 49 = .ok (.iload_n 2, 1) := by decide +kernel
theorem dX12_visit_50 : decode cX12_visit 50 = .ok (.iastore, 1) := by decide +kernel
theorem dX12_visit_51 : decode cX12_visit 51 = .ok (.aload_n 0, 1) := by decide +kernel
theorem dX12_visit_52 : decode cX12_visit 52 = .ok (.dup, 1) := by decide +kernel
theorem dX12_visit_53 : decode cX12_visit 53 = .ok (.getfield 581, 3) := by decide +kernel
theorem dX12_visit_56 : decode cX12_visit 56 = .ok (.iconst 1, 1) := by decide +kernel
theorem dX12_visit_57 : decode cX12_visit 57 = .ok (.iadd, 1) := by decide +kernel
theorem dX12_visit_58 : decode cX12_visit 58 = .ok (.putfield 581, 3) := by decide +kernel
theorem dX12_visit_61 : decode cX12_visit 61 = .ok (.return_, 1) := by decide +kernel
theorem dX12_visitSlots_0 : decode cX12_visitSlots 0 = .ok (.iconst 0, 1) := by decide +kernel
theorem dX12_visitSlots_1 : decode cX12_visitSlots 1 = .ok (.istore 5, 2) := by decide +kernel
theorem dX12_visitSlots_3 : decode cX12_visitSlots 3 = .ok (.iload 5, 2) := by decide +kernel
theorem dX12_visitSlots_5 : decode cX12_visitSlots 5 = .ok (.aload_n 0, 1) := by decide +kernel
theorem dX12_visitSlots_6 : decode cX12_visitSlots 6 = .ok (.iload_n 1, 1) := by decide +kernel
theorem dX12_visitSlots_7 : decode cX12_visitSlots 7 = .ok (.iload_n 2, 1) := by decide +kernel
theorem dX12_visitSlots_8 : decode cX12_visitSlots 8 = .ok (.invokevirtual 570, 3) := by decide +kernel
theorem dX12_visitSlots_11 : decode cX12_visitSlots 11 = .ok (.if_icmp .ge 51, 3) := by decide +kernel
theorem dX12_visitSlots_14 : decode cX12_visitSlots 14 = .ok (.aload_n 0, 1) := by decide +kernel
theorem dX12_visitSlots_15 : decode cX12_visitSlots 15 = .ok (.iload_n 1, 1) := by decide +kernel
theorem dX12_visitSlots_16 : decode cX12_visitSlots 16 = .ok (.iload_n 2, 1) := by decide +kernel
theorem dX12_visitSlots_17 : decode cX12_visitSlots 17 = .ok (.iload 5, 2) := by decide +kernel
theorem dX12_visitSlots_19 : decode cX12_visitSlots 19 = .ok (.invokevirtual 573, 3) := by decide +kernel
theorem dX12_visitSlots_22 : decode cX12_visitSlots 22 = .ok (.ifCond .eq 15, 3) := by decide +kernel
theorem dX12_visitSlots_25 : decode cX12_visitSlots 25 = .ok (.aload_n 0, 1) := by decide +kernel
theorem dX12_visitSlots_26 : decode cX12_visitSlots 26 = .ok (.iload_n 1, 1) := by decide +kernel
theorem dX12_visitSlots_27 : decode cX12_visitSlots 27 = .ok (.iload_n 2, 1) := by decide +kernel
theorem dX12_visitSlots_28 : decode cX12_visitSlots 28 = .ok (.iload 5, 2) := by decide +kernel
theorem dX12_visitSlots_30 : decode cX12_visitSlots 30 = .ok (.invokevirtual 577, 3) := by decide +kernel
theorem dX12_visitSlots_33 : decode cX12_visitSlots 33 = .ok (.l2i, 1) := by decide +kernel
theorem dX12_visitSlots_34 : decode cX12_visitSlots 34 = .ok (.goto 4, 3) := by decide +kernel
theorem dX12_visitSlots_37 : decode cX12_visitSlots 37 = .ok (.iconst (-1), 1) := by decide +kernel
theorem dX12_visitSlots_38 : decode cX12_visitSlots 38 = .ok (.istore 6, 2) := by decide +kernel
theorem dX12_visitSlots_40 : decode cX12_visitSlots 40 = .ok (.iload 6, 2) := by decide +kernel
theorem dX12_visitSlots_42 : decode cX12_visitSlots 42 = .ok (.iconst (-1), 1) := by decide +kernel
theorem dX12_visitSlots_43 : decode cX12_visitSlots 43 = .ok (.if_icmp .eq 13, 3) := by decide +kernel
theorem dX12_visitSlots_46 : decode cX12_visitSlots 46 = .ok (.aload_n 0, 1) := by decide +kernel
theorem dX12_visitSlots_47 : decode cX12_visitSlots 47 = .ok (.iload_n 1, 1) := by decide +kernel
theorem dX12_visitSlots_48 : decode cX12_visitSlots 48 = .ok (.iload 6, 2) := by decide +kernel
theorem dX12_visitSlots_50 : decode cX12_visitSlots 50 = .ok (.iload_n 3, 1) := by decide +kernel
theorem dX12_visitSlots_51 : decode cX12_visitSlots 51 = .ok (.iload 4, 2) := by decide +kernel
theorem dX12_visitSlots_53 : decode cX12_visitSlots 53 = .ok (.invokevirtual 584, 3) := by decide +kernel
theorem dX12_visitSlots_56 : decode cX12_visitSlots 56 = .ok (.iinc 5 1, 3) := by decide +kernel
theorem dX12_visitSlots_59 : decode cX12_visitSlots 59 = .ok (.goto (-56), 3) := by decide +kernel
theorem dX12_visitSlots_62 : decode cX12_visitSlots 62 = .ok (.return_, 1) := by decide +kernel
theorem dX12_walkRoots_0 : decode cX12_walkRoots 0 = .ok (.aload_n 0, 1) := by decide +kernel
theorem dX12_walkRoots_1 : decode cX12_walkRoots 1 = .ok (.invokevirtual 532, 3) := by decide +kernel
theorem dX12_walkRoots_4 : decode cX12_walkRoots 4 = .ok (.iconst 0, 1) := by decide +kernel
theorem dX12_walkRoots_5 : decode cX12_walkRoots 5 = .ok (.istore_n 1, 1) := by decide +kernel
theorem dX12_walkRoots_6 : decode cX12_walkRoots 6 = .ok (.iload_n 1, 1) := by decide +kernel
theorem dX12_walkRoots_7 : decode cX12_walkRoots 7 = .ok (.aload_n 0, 1) := by decide +kernel
theorem dX12_walkRoots_8 : decode cX12_walkRoots 8 = .ok (.getfield 470, 3) := by decide +kernel
theorem dX12_walkRoots_11 : decode cX12_walkRoots 11 = .ok (.if_icmp .ge 20, 3) := by decide +kernel
