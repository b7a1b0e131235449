theorem dX12_init_0 : decode cX12_init 0 = .ok (.aload_n 0, 1) := by decide +kernel
theorem dX12_init_1 : decode cX12_init 1 = .ok (.invokespecial 1, 3) := by decide +kernel
theorem dX12_init_4 : decode cX12_init 4 = .ok (.aload_n 0, 1) := by decide +kernel
theorem dX12_init_5 : decode cX12_init 5 = .ok (.sipush 4000, 3) := by decide +kernel
theorem dX12_init_8 : decode cX12_init 8 = .ok (.newarray .byte, 2) := by decide +kernel
theorem dX12_init_10 : decode cX12_init 10 = .ok (.putfield 7, 3) := by decide +kernel
theorem dX12_init_13 : decode cX12_init 13 = .ok (.aload_n 0, 1) := by decide +kernel
theorem dX12_init_14 : decode cX12_init 14 = .ok (.bipush 20, 2) := by decide +kernel
theorem dX12_init_16 : decode cX12_init 16 = .ok (.newarray .byte, 2) := by decide +kernel
theorem dX12_init_18 : decode cX12_init 18 = .ok (.putfield 13, 3) := by decide +kernel
theorem dX12_init_21 : decode cX12_init 21 = .ok (.aload_n 0, 1) := by decide +kernel
theorem dX12_init_22 : decode cX12_init 22 = .ok (.bipush 29, 2) := by decide +kernel
theorem dX12_init_24 : decode cX12_init 24 = .ok (.newarray .long, 2) := by decide +kernel
theorem dX12_init_26 : decode cX12_init 26 = .ok (.dup, 1) := by decide +kernel
theorem dX12_init_27 : decode cX12_init 27 = .ok (.iconst 0, 1) := by decide +kernel
theorem dX12_init_28 : decode cX12_init 28 = .ok (.ldc2_w 16, 3) := by decide +kernel
theorem dX12_init_31 : decode cX12_init 31 = .ok (.lastore, 1) := by decide +kernel
theorem dX12_init_32 : decode cX12_init 32 = .ok (.dup, 1) := by decide +kernel
theorem dX12_init_33 : decode cX12_init 33 = .ok (.iconst 1, 1) := by decide +kernel
theorem dX12_init_34 : decode cX12_init 34 = .ok (.ldc2_w 18, 3) := by decide +kernel
theorem dX12_init_37 : decode cX12_init 37 = .ok (.lastore, 1) := by decide +kernel
theorem dX12_init_38 : decode cX12_init 38 = .ok (.dup, 1) := by decide +kernel
theorem dX12_init_39 : decode cX12_init 39 = .ok (.iconst 2, 1) := by decide +kernel
theorem dX12_init_40 : decode cX12_init 40 = .ok (.ldc2_w 20, 3) := by decide +kernel
theorem dX12_init_43 : decode cX12_init 43 = .ok (.lastore, 1) := by decide +kernel
theorem dX12_init_44 : decode cX12_init 44 = .ok (.dup, 1) := by decide +kernel
theorem dX12_init_45 : decode cX12_init 45 = .ok (.iconst 3, 1) := by decide +kernel
theorem dX12_init_46 : decode cX12_init 46 = .ok (.ldc2_w 22, 3) := by decide +kernel
theorem dX12_init_49 : decode cX12_init 49 = .ok (.lastore, 1) := by decide +kernel
theorem dX12_init_50 : decode cX12_init 50 = .ok (.dup, 1) := by decide +kernel
theorem dX12_init_51 : decode cX12_init 51 = .ok (.iconst 4, 1) := by decide +kernel
theorem dX12_init_52 : decode cX12_init 52 = .ok (.ldc2_w 24, 3) := by decide +kernel
theorem dX12_init_55 : decode cX12_init 55 = .ok (.lastore, 1) := by decide +kernel
theorem dX12_init_56 : decode cX12_init 56 = .ok (.dup, 1) := by decide +kernel
theorem dX12_init_57 : decode cX12_init 57 = .ok (.iconst 5, 1) := by decide +kernel
theorem dX12_init_58 : decode cX12_init 58 = .ok (.ldc2_w 26, 3) := by decide +kernel
theorem dX12_init_61 : decode cX12_init 61 = .ok (.lastore, 1) := by decide +kernel
theorem dX12_init_62 : decode cX12_init 62 = .ok (.dup, 1) := by decide +kernel
theorem dX12_init_63 : decode cX12_init 63 = .ok (.bipush 6, 2) := by decide +kernel
theorem dX12_init_65 : decode cX12_init 65 = .ok (.ldc2_w 28, 3) := by decide +kernel
theorem dX12_init_68 : decode cX12_init 68 = .ok (.lastore, 1) := by decide +kernel
theorem dX12_init_69 : decode cX12_init 69 = .ok (.dup, 1) := by decide +kernel
theorem dX12_init_70 : decode cX12_init 70 = .ok (.bipush 7, 2) := by decide +kernel
theorem dX12_init_72 : decode cX12_init 72 = .ok (.ldc2_w 30, 3) := by decide +kernel
theorem dX12_init_75 : decode cX12_init 75 = .ok (.lastore, 1) := by decide +kernel
theorem dX12_init_76 : decode cX12_init 76 = .ok (.dup, 1) := by decide +kernel
theorem dX12_init_77 : decode cX12_init 77 = .ok (.bipush 8, 2) := by decide +kernel
theorem dX12_init_79 : decode cX12_init 79 = .ok (.ldc2_w 32, 3) := by decide +kernel
theorem dX12_init_82 : decode cX12_init 82 = .ok (.lastore, 1) := by decide +kernel
theorem dX12_init_83 : decode cX12_init 83 = .ok (.dup, 1) := by decide +kernel
theorem dX12_init_84 : decode cX12_init 84 = .ok (.bipush 9, 2) := by decide +kernel
theorem dX12_init_86 : decode cX12_init 86 = .ok (.ldc2_w 34, 3) := by decide +kernel
theorem dX12_init_89 : decode cX12_init 89 = .ok (.lastore, 1) := by decide +kernel
theorem dX12_init_90 : decode cX12_init 90 = .ok (.dup, 1) := by decide +kernel
theorem dX12_init_91 : decode cX12_init 91 = .ok (.bipush 10, 2) := by decide +kernel
theorem dX12_init_93 : decode cX12_init 93 = .ok (.ldc2_w 36, 3) := by decide +kernel
theorem dX12_init_96 : decode cX12_init 96 = .ok (.lastore, 1) := by decide +kernel
theorem dX12_init_97 : decode cX12_init 97 = .ok (.dup, 1) := by decide +kernel
theorem dX12_init_98 : decode cX12_init 98 = .ok (.bipush 11, 2) := by decide +kernel
theorem dX12_init_100 : decode cX12_init 100 = .ok (.ldc2_w 38, 3) := by decide +kernel
theorem dX12_init_103 : decode cX12_init 103 = .ok (.lastore, 1) := by decide +kernel
theorem dX12_init_104 : decode cX12_init 104 = .ok (.dup, 1) := by decide +kernel
theorem dX12_init_105 : decode cX12_init 105 = .ok (.bipush 12, 2) := by decide +kernel
theorem dX12_init_107 : decode cX12_init 107 = .ok (.ldc2_w 40, 3) := by decide +kernel
theorem dX12_init_110 : decode cX12_init 110 = .ok (.lastore, 1) := by decide +kernel
theorem dX12_init_111 : decode cX12_init 111 = .ok (.dup, 1) := by decide +kernel
theorem dX12_init_112 : decode cX12_init 112 = .ok (.bipush 13, 2) := by decide +kernel
theorem dX12_init_114 : decode cX12_init 114 = .ok (.ldc2_w 42, 3) := by decide +kernel
theorem dX12_init_117 : decode cX12_init 117 = .ok (.lastore, 1) := by decide +kernel
theorem dX12_init_118 : decode cX12_init 118 = .ok (.dup, 1) := by decide +kernel
theorem dX12_init_119 : decode cX12_init 119 = .ok (.bipush 14, 2) := by decide +kernel
theorem dX12_init_121 : decode cX12_init 121 = .ok (.ldc2_w 44, 3) := by decide +kernel
theorem dX12_init_124 : decode cX12_init 124 = .ok (.lastore, 1) := by decide +kernel
theorem dX12_init_125 : decode cX12_init 125 = .ok (.dup, 1) := by decide +kernel
theorem dX12_init_126 : decode cX12_init 126 = .ok (.bipush 15, 2) := by decide +kernel
theorem dX12_init_128 : decode cX12_init 128 = .ok (.ldc2_w 46, 3) := by decide +kernel
theorem dX12_init_131 : decode cX12_init 131 = .ok (.lastore, 1) := by decide +kernel
theorem dX12_init_132 : decode cX12_init 132 = .ok (.dup, 1) := by decide +kernel
theorem dX12_init_133 : decode cX12_init 133 = .ok (.bipush 16, 2) := by decide +kernel
theorem dX12_init_135 : decode cX12_init 135 = .ok (.ldc2_w 48, 3) := by decide +kernel
theorem dX12_init_138 : decode cX12_init 138 = .ok (.lastore, 1) := by decide +kernel
theorem dX12_init_139 : decode cX12_init 139 = .ok (.dup, 1) := by decide +kernel
theorem dX12_init_140 : decode cX12_init 140 = .ok (.bipush 17, 2) := by decide +kernel
theorem dX12_init_142 : decode cX12_init 142 = .ok (.ldc2_w 50, 3) := by decide +kernel
theorem dX12_init_145 : decode cX12_init 145 = .ok (.lastore, 1) := by decide +kernel
theorem dX12_init_146 : decode cX12_init 146 = .ok (.dup, 1) := by decide +kernel
theorem dX12_init_147 : decode cX12_init 147 = .ok (.bipush 18, 2) := by decide +kernel
theorem dX12_init_149 : decode cX12_init 149 = .ok (.ldc2_w 52, 3) := by decide +kernel
theorem dX12_init_152 : decode cX12_init 152 = .ok (.lastore, 1) := by decide +kernel
theorem dX12_init_153 : decode cX12_init 153 = .ok (.dup, 1) := by decide +kernel
theorem dX12_init_154 : decode cX12_init 154 = .ok (.bipush 19, 2) := by decide +kernel
theorem dX12_init_156 : decode cX12_init 156 = .ok (.ldc2_w 54, 3) := by decide +kernel
theorem dX12_init_159 : decode cX12_init 159 = .ok (.lastore, 1) := by decide +kernel
theorem dX12_init_160 : decode cX12_init 160 = .ok (.dup, 1) := by decide +kernel
theorem dX12_init_161 : decode cX12_init 161 = .ok (.bipush 20, 2) := by decide +kernel
theorem dX12_init_163 : decode cX12_init 163 = .ok (.ldc2_w 56, 3) := by decide +kernel
theorem dX12_init_166 : decode cX12_init 166 = .ok (.lastore, 1) := by decide +kernel
theorem dX12_init_167 : decode cX12_init 167 = .ok (.dup, 1) := by decide +kernel
theorem dX12_init_168 : decode cX12_init 168 = .ok (.bipush 21, 2) := by decide +kernel
theorem dX12_init_170 : decode cX12_init 170 = .ok (.ldc2_w 58, 3) := by decide +kernel
theorem dX12_init_173 : decode cX12_init 173 = .ok (.lastore, 1) := by decide +kernel
theorem dX12_init_174 : decode cX12_init 174 = .ok (.dup, 1) := by decide +kernel
theorem dX12_init_175 : decode cX12_init 175 = .ok (.bipush 22, 2) := by decide +kernel
theorem dX12_init_177 : decode cX12_init 177 = .ok (.ldc2_w 60, 3) := by decide +kernel
theorem dX12_init_180 : decode cX12_init 180 = .ok (.lastore, 1) := by decide +kernel
theorem dX12_init_181 : decode cX12_init 181 = .ok (.dup, 1) := by decide +kernel
theorem dX12_init_182 : decode cX12_init 182 = .ok (.bipush 23, 2) := by decide +kernel
theorem dX12_init_184 : decode cX12_init 184 = .ok (.ldc2_w 62, 3) := by decide +kernel
theorem dX12_init_187 : decode cX12_init 187 = .ok (.lastore, 1) := by decide +kernel
theorem dX12_init_188 : decode cX12_init 188 = .ok (.dup, 1) := by decide +kernel
theorem dX12_init_189 : decode cX12_init 189 = .ok (.bipush 24, 2) := by decide +kernel
theorem dX12_init_191 : decode cX12_init 191 = .ok (.ldc2_w 64, 3) := by decide +kernel
theorem dX12_init_194 : decode cX12_init 194 = .ok (.lastore, 1) := by decide +kernel
theorem dX12_init_195 : decode cX12_init 195 = .ok (.dup, 1) := by decide +kernel
theorem dX12_init_196 : decode cX12_init 196 = .ok (.bipush 25, 2) := by decide +kernel
theorem dX12_init_198 : decode cX12_init 198 = .ok (.ldc2_w 66, 3) := by decide +kernel
theorem dX12_init_201 : decode cX12_init 201 = .ok (.lastore, 1) := by decide +kernel
theorem dX12_init_202 : decode cX12_init 202 = .ok (.dup, 1) := by decide +kernel
theorem dX12_init_203 : decode cX12_init 203 = .ok (.bipush 26, 2) := by decide +kernel
theorem dX12_init_205 : decode cX12_init 205 = .ok (.ldc2_w 68, 3) := by decide +kernel
theorem dX12_init_208 : decode cX12_init 208 = .ok (.lastore, 1) := by decide +kernel
theorem dX12_init_209 : decode cX12_init 209 = .ok (.dup, 1) := by decide +kernel
theorem dX12_init_210 : decode cX12_init 210 = .ok (.bipush 27, 2) := by decide +kernel
theorem dX12_init_212 : decode cX12_init 212 = .ok (.ldc2_w 70, 3) := by decide +kernel
theorem dX12_init_215 : decode cX12_init 215 = .ok (.lastore, 1) := by decide +kernel
theorem dX12_init_216 : decode cX12_init 216 = .ok (.dup, 1) := by decide +kernel
theorem dX12_init_217 : decode cX12_init 217 = .ok (.bipush 28, 2) := by decide +kernel
theorem dX12_init_219 : decode cX12_init 219 = .ok (.ldc2_w 72, 3) := by decide +kernel
theorem dX12_init_222 : decode cX12_init 222 = .ok (.lastore, 1) := by decide +kernel
theorem dX12_init_223 : decode cX12_init 223 = .ok (.putfield 74, 3) := by decide +kernel
theorem dX12_init_226 : decode cX12_init 226 = .ok (.aload_n 0, 1) := by decide +kernel
theorem dX12_init_227 : decode cX12_init 227 = .ok (.bipush 16, 2) := by decide +kernel
theorem dX12_init_229 : decode cX12_init 229 = .ok (.newarray .long, 2) := by decide +kernel
theorem dX12_init_231 : decode cX12_init 231 = .ok (.putfield 78, 3) := by decide +kernel
theorem dX12_init_234 : decode cX12_init 234 = .ok (.aload_n 0, 1) := by decide +kernel
theorem dX12_init_235 : decode cX12_init 235 = .ok (.bipush 96, 2) := by decide +kernel
theorem dX12_init_237 : decode cX12_init 237 = .ok (.newarray .long, 2) := by decide +kernel
theorem dX12_init_239 : decode cX12_init 239 = .ok (.putfield 81, 3) := by decide +kernel
theorem dX12_init_242 : decode cX12_init 242 = .ok (.aload_n 0, 1) := by decide +kernel
theorem dX12_init_243 : decode cX12_init 243 = .ok (.bipush 96, 2) := by decide +kernel
theorem dX12_init_245 : decode cX12_init 245 = .ok (.newarray .long, 2) := by decide +kernel
theorem dX12_init_247 : decode cX12_init 247 = .ok (.putfield 84, 3) := by decide +kernel
theorem dX12_init_250 : decode cX12_init 250 = .ok (.aload_n 0, 1) := by decide +kernel
theorem dX12_init_251 : decode cX12_init 251 = .ok (.bipush 16, 2) := by decide +kernel
theorem dX12_init_253 : decode cX12_init 253 = .ok (.newarray .int, 2) := by decide +kernel
theorem dX12_init_255 : decode cX12_init 255 = .ok (.putfield 87, 3) := by decide +kernel
theorem dX12_init_258 : decode cX12_init 258 = .ok (.aload_n 0, 1) := by decide +kernel
theorem dX12_init_259 : decode cX12_init 259 = .ok (.bipush 16, 2) := by decide +kernel
theorem dX12_init_261 : decode cX12_init 261 = .ok (.newarray .int, 2) := by decide +kernel
theorem dX12_init_263 : decode cX12_init 263 = .ok (.putfield 91, 3) := by decide +kernel
theorem dX12_init_266 : decode cX12_init 266 = .ok (.aload_n 0, 1) := by decide +kernel
theorem dX12_init_267 : decode cX12_init 267 = .ok (.bipush 16, 2) := by decide +kernel
theorem dX12_init_269 : decode cX12_init 269 = .ok (.newarray .int, 2) := by decide +kernel
theorem dX12_init_271 : decode cX12_init 271 = .ok (.putfield 94, 3) := by decide +kernel
theorem dX12_init_274 : decode cX12_init 274 = .ok (.aload_n 0, 1) := by decide +kernel
theorem dX12_init_275 : decode cX12_init 275 = .ok (.bipush 16, 2) := by decide +kernel
theorem dX12_init_277 : decode cX12_init 277 = .ok (.newarray .int, 2) := by decide +kernel
theorem dX12_init_279 : decode cX12_init 279 = .ok (.putfield 97, 3) := by decide +kernel
theorem dX12_init_282 : decode cX12_init 282 = .ok (.aload_n 0, 1) := by decide +kernel
theorem dX12_init_283 : decode cX12_init 283 = .ok (.bipush 16, 2) := by decide +kernel
theorem dX12_init_285 : decode cX12_init 285 = .ok (.newarray .int, 2) := by decide +kernel
theorem dX12_init_287 : decode cX12_init 287 = .ok (.putfield 100, 3) := by decide +kernel
theorem dX12_init_290 : decode cX12_init 290 = .ok (.aload_n 0, 1) := by decide +kernel
theorem dX12_init_291 : decode cX12_init 291 = .ok (.bipush 96, 2) := by decide +kernel
theorem dX12_init_293 : decode cX12_init 293 = .ok (.newarray .int, 2) := by decide +kernel
theorem dX12_init_295 : decode cX12_init 295 = .ok (.putfield 103, 3) := by decide +kernel
theorem dX12_init_298 : decode cX12_init 298 = .ok (.aload_n 0, 1) := by decide +kernel
theorem dX12_init_299 : decode cX12_init 299 = .ok (.bipush 96, 2) := by decide +kernel
theorem dX12_init_301 : decode cX12_init 301 = .ok (.newarray .int, 2) := by decide +kernel
theorem dX12_init_303 : decode cX12_init 303 = .ok (.putfield 106, 3) := by decide +kernel
theorem dX12_init_306 : decode cX12_init 306 = .ok (.aload_n 0, 1) := by decide +kernel
theorem dX12_init_307 : decode cX12_init 307 = .ok (.bipush 96, 2) := by decide +kernel
theorem dX12_init_309 : decode cX12_init 309 = .ok (.newarray .int, 2) := by decide +kernel
theorem dX12_init_311 : decode cX12_init 311 = .ok (.putfield 109, 3) := by decide +kernel
theorem dX12_init_314 : decode cX12_init 314 = .ok (.aload_n 0, 1) := by decide +kernel
theorem dX12_init_315 : decode cX12_init 315 = .ok (.bipush 96, 2) := by decide +kernel
theorem dX12_init_317 : decode cX12_init 317 = .ok (.newarray .int, 2) := by decide +kernel
theorem dX12_init_319 : decode cX12_init 319 = .ok (.putfield 112, 3) := by decide +kernel
theorem dX12_init_322 : decode cX12_init 322 = .ok (.aload_n 0, 1) := by decide +kernel
theorem dX12_init_323 : decode cX12_init 323 = .ok (.bipush 16, 2) := by decide +kernel
theorem dX12_init_325 : decode cX12_init 325 = .ok (.newarray .boolean, 2) := by decide +kernel
theorem dX12_init_327 : decode cX12_init 327 = .ok (.putfield 115, 3) := by decide +kernel
theorem dX12_init_330 : decode cX12_init 330 = .ok (.aload_n 0, 1) := by decide +kernel
theorem dX12_init_331 : decode cX12_init 331 = .ok (.bipush 96, 2) := by decide +kernel
theorem dX12_init_333 : decode cX12_init 333 = .ok (.newarray .boolean, 2) := by decide +kernel
theorem dX12_init_335 : decode cX12_init 335 = .ok (.putfield 119, 3) := by decide +kernel
theorem dX12_init_338 : decode cX12_init 338 = .ok (.aload_n 0, 1) := by decide +kernel
theorem dX12_init_339 : decode cX12_init 339 = .ok (.bipush 16, 2) := by decide +kernel
theorem dX12_init_341 : decode cX12_init 341 = .ok (.newarray .boolean, 2) := by decide +kernel
theorem dX12_init_343 : decode cX12_init 343 = .ok (.putfield 122, 3) := by decide +kernel
theorem dX12_init_346 : decode cX12_init 346 = .ok (.aload_n 0, 1) := by decide +kernel
theorem dX12_init_347 : decode cX12_init 347 = .ok (.sipush 400, 3) := by decide +kernel
theorem dX12_init_350 : decode cX12_init 350 = .ok (.newarray .int, 2) := by decide +kernel
theorem dX12_init_352 : decode cX12_init 352 = .ok (.putfield 125, 3) := by decide +kernel
theorem dX12_init_355 : decode cX12_init 355 = .ok (.aload_n 0, 1) := by decide +kernel
theorem dX12_init_356 : decode cX12_init 356 = .ok (.sipush 400, 3) := by decide +kernel
theorem dX12_init_359 : decode cX12_init 359 = .ok (.newarray .int, 2) := by decide +kernel
theorem dX12_init_361 : decode cX12_init 361 = .ok (.putfield 128, 3) := by decide +kernel
theorem dX12_init_364 : decode cX12_init 364 = .ok (.aload_n 0, 1) := by decide +kernel
theorem dX12_init_365 : decode cX12_init 365 = .ok (.sipush 400, 3) := by decide +kernel
theorem dX12_init_368 : decode cX12_init 368 = .ok (.newarray .int, 2) := by decide +kernel
theorem dX12_init_370 : decode cX12_init 370 = .ok (.putfield 131, 3) := by decide +kernel
theorem dX12_init_373 : decode cX12_init 373 = .ok (.aload_n 0, 1) := by decide +kernel
theorem dX12_init_374 : decode cX12_init 374 = .ok (.sipush 400, 3) := by decide +kernel
theorem dX12_init_377 : decode cX12_init 377 = .ok (.newarray .boolean, 2) := by decide +kernel
theorem dX12_init_379 : decode cX12_init 379 = .ok (.putfield 134, 3) := by decide +kernel
theorem dX12_init_382 : decode cX12_init 382 = .ok (.aload_n 0, 1) := by decide +kernel
theorem dX12_init_383 : decode cX12_init 383 = .ok (.ldc 137, 2) := by decide +kernel
theorem dX12_init_385 : decode cX12_init 385 = .ok (.newarray .long, 2) := by decide +kernel
theorem dX12_init_387 : decode cX12_init 387 = .ok (.putfield 138, 3) := by decide +kernel
theorem dX12_init_390 : decode cX12_init 390 = .ok (.aload_n 0, 1) := by decide +kernel
theorem dX12_init_391 : decode cX12_init 391 = .ok (.bipush 12, 2) := by decide +kernel
theorem dX12_init_393 : decode cX12_init 393 = .ok (.newarray .int, 2) := by decide +kernel
theorem dX12_init_395 : decode cX12_init 395 = .ok (.putfield 141, 3) := by decide +kernel
theorem dX12_init_398 : decode cX12_init 398 = .ok (.aload_n 0, 1) := by decide +kernel
theorem dX12_init_399 : decode cX12_init 399 = .ok (.bipush 100, 2) := by decide +kernel
theorem dX12_init_401 : decode cX12_init 401 = .ok (.newarray .int, 2) := by decide +kernel
theorem dX12_init_403 : decode cX12_init 403 = .ok (.putfield 144, 3) := by decide +kernel
theorem dX12_init_406 : decode cX12_init 406 = .ok (.aload_n 0, 1) := by decide +kernel
theorem dX12_init_407 : decode cX12_init 407 = .ok (.bipush 100, 2) := by decide +kernel
theorem dX12_init_409 : decode cX12_init 409 = .ok (.newarray .int, 2) := by decide +kernel
theorem dX12_init_411 : decode cX12_init 411 = .ok (.putfield 147, 3) := by decide +kernel
theorem dX12_init_414 : decode cX12_init 414 = .ok (.aload_n 0, 1) := by decide +kernel
theorem dX12_init_415 : decode cX12_init 415 = .ok (.bipush 100, 2) := by decide +kernel
theorem dX12_init_417 : decode cX12_init 417 = .ok (.newarray .int, 2) := by decide +kernel
theorem dX12_init_419 : decode cX12_init 419 = .ok (.putfield 150, 3) := by decide +kernel
theorem dX12_init_422 : decode cX12_init 422 = .ok (.aload_n 0, 1) := by decide +kernel
theorem dX12_init_423 : decode cX12_init 423 = .ok (.bipush 100, 2) := by decide +kernel
theorem dX12_init_425 : decode cX12_init 425 = .ok (.newarray .long, 2) := by decide +kernel
theorem dX12_init_427 : decode cX12_init 427 = .ok (.putfield 153, 3) := by decide +kernel
theorem dX12_init_430 : decode cX12_init 430 = .ok (.aload_n 0, 1) := by decide +kernel
theorem dX12_init_431 : decode cX12_init 431 = .ok (.bipush 6, 2) := by decide +kernel
theorem dX12_init_433 : decode cX12_init 433 = .ok (.newarray .int, 2) := by decide +kernel
theorem dX12_init_435 : decode cX12_init 435 = .ok (.putfield 156, 3) := by decide +kernel
theorem dX12_init_438 : decode cX12_init 438 = .ok (.aload_n 0, 1) := by decide +kernel
theorem dX12_init_439 : decode cX12_init 439 = .ok (.bipush 6, 2) := by decide +kernel
theorem dX12_init_441 : decode cX12_init 441 = .ok (.newarray .int, 2) := by decide +kernel
theorem dX12_init_443 : decode cX12_init 443 = .ok (.putfield 159, 3) := by decide +kernel
theorem dX12_init_446 : decode cX12_init 446 = .ok (.aload_n 0, 1) := by decide +kernel
theorem dX12_init_447 : decode cX12_init 447 = .ok (.bipush 6, 2) := by decide +kernel
theorem dX12_init_449 : decode cX12_init 449 = .ok (.newarray .int, 2) := by decide +kernel
theorem dX12_init_451 : decode cX12_init 451 = .ok (.putfield 162, 3) := by decide +kernel
theorem dX12_init_454 : decode cX12_init 454 = .ok (.aload_n 0, 1) := by decide +kernel
theorem dX12_init_455 : decode cX12_init 455 = .ok (.bipush 36, 2) := by decide +kernel
theorem dX12_init_457 : decode cX12_init 457 = .ok (.newarray .int, 2) := by decide +kernel
theorem dX12_init_459 : decode cX12_init 459 = .ok (.putfield 165, 3) := by decide +kernel
theorem dX12_init_462 : decode cX12_init 462 = .ok (.aload_n 0, 1) := by decide +kernel
theorem dX12_init_463 : decode cX12_init 463 = .ok (.bipush 36, 2) := by decide +kernel
theorem dX12_init_465 : decode cX12_init 465 = .ok (.newarray .int, 2) := by decide +kernel
theorem dX12_init_467 : decode cX12_init 467 = .ok (.putfield 168, 3) := by decide +kernel
theorem dX12_init_470 : decode cX12_init 470 = .ok (.aload_n 0, 1) := by decide +kernel
theorem dX12_init_471 : decode cX12_init 471 = .ok (.bipush 36, 2) := by decide +kernel
theorem dX12_init_473 : decode cX12_init 473 = .ok (.newarray .long, 2) := by decide +kernel
theorem dX12_init_475 : decode cX12_init 475 = .ok (.putfield 171, 3) := by decide +kernel
theorem dX12_init_478 : decode cX12_init 478 = .ok (.aload_n 0, 1) := by decide +kernel
theorem dX12_init_479 : decode cX12_init 479 = .ok (.bipush 36, 2) := by decide +kernel
theorem dX12_init_481 : decode cX12_init 481 = .ok (.newarray .long, 2) := by decide +kernel
theorem dX12_init_483 : decode cX12_init 483 = .ok (.putfield 174, 3) := by decide +kernel
theorem dX12_init_486 : decode cX12_init 486 = .ok (.aload_n 0, 1) := by decide +kernel
theorem dX12_init_487 : decode cX12_init 487 = .ok (.sipush 400, 3) := by decide +kernel
theorem dX12_init_490 : decode cX12_init 490 = .ok (.newarray .int, 2) := by decide +kernel
theorem dX12_init_492 : decode cX12_init 492 = .ok (.putfield 177, 3) := by decide +kernel
theorem dX12_init_495 : decode cX12_init 495 = .ok (.aload_n 0, 1) := by decide +kernel
theorem dX12_init_496 : decode cX12_init 496 = .ok (.sipush 400, 3) := by decide +kernel
theorem dX12_init_499 : decode cX12_init 499 = .ok (.newarray .int, 2) := by decide +kernel
theorem dX12_init_501 : decode cX12_init 501 = .ok (.putfield 180, 3) := by decide +kernel
theorem dX12_init_504 : decode cX12_init 504 = .ok (.aload_n 0, 1) := by decide +kernel
theorem dX12_init_505 : decode cX12_init 505 = .ok (.iconst 5, 1) := by decide +kernel
theorem dX12_init_506 : decode cX12_init 506 = .ok (.newarray .int, 2) := by decide +kernel
theorem dX12_init_508 : decode cX12_init 508 = .ok (.putfield 183, 3) := by decide +kernel
theorem dX12_init_511 : decode cX12_init 511 = .ok (.aload_n 0, 1) := by decide +kernel
theorem dX12_init_512 : decode cX12_init 512 = .ok (.sipush 2000, 3) := by decide +kernel
theorem dX12_init_515 : decode cX12_init 515 = .ok (.newarray .int, 2) := by decide +kernel
theorem dX12_init_517 : decode cX12_init 517 = .ok (.putfield 186, 3) := by decide +kernel
theorem dX12_init_520 : decode cX12_init 520 = .ok (.aload_n 0, 1) := by decide +kernel
theorem dX12_init_521 : decode cX12_init 521 = .ok (.sipush 2000, 3) := by decide +kernel
theorem dX12_init_524 : decode cX12_init 524 = .ok (.newarray .int, 2) := by decide +kernel
theorem dX12_init_526 : decode cX12_init 526 = .ok (.putfield 189, 3) := by decide +kernel
theorem dX12_init_529 : decode cX12_init 529 = .ok (.aload_n 0, 1) := by decide +kernel
theorem dX12_init_530 : decode cX12_init 530 = .ok (.sipush 2000, 3) := by decide +kernel
theorem dX12_init_533 : decode cX12_init 533 = .ok (.newarray .int, 2) := by decide +kernel
theorem dX12_init_535 : decode cX12_init 535 = .ok (.putfield 192, 3) := by decide +kernel
theorem dX12_init_538 : decode cX12_init 538 = .ok (.aload_n 0, 1) := by decide +kernel
theorem dX12_init_539 : decode cX12_init 539 = .ok (.sipush 2000, 3) := by decide +kernel
theorem dX12_init_542 : decode cX12_init 542 = .ok (.newarray .int, 2) := by decide +kernel
theorem dX12_init_544 : decode cX12_init 544 = .ok (.putfield 195, 3) := by decide +kernel
theorem dX12_init_547 : decode cX12_init 547 = .ok (.aload_n 0, 1) := by decide +kernel
theorem dX12_init_548 : decode cX12_init 548 = .ok (.sipush 2000, 3) := by decide +kernel
theorem dX12_init_551 : decode cX12_init 551 = .ok (.newarray .int, 2) := by decide +kernel
theorem dX12_init_553 : decode cX12_init 553 = .ok (.putfield 198, 3) := by decide +kernel
theorem dX12_init_556 : decode cX12_init 556 = .ok (.aload_n 0, 1) := by decide +kernel
theorem dX12_init_557 : decode cX12_init 557 = .ok (.sipush 2000, 3) := by decide +kernel
theorem dX12_init_560 : decode cX12_init 560 = .ok (.newarray .int, 2) := by decide +kernel
theorem dX12_init_562 : decode cX12_init 562 = .ok (.putfield 201, 3) := by decide +kernel
theorem dX12_init_565 : decode cX12_init 565 = .ok (.aload_n 0, 1) := by decide +kernel
theorem dX12_init_566 : decode cX12_init 566 = .ok (.sipush 2000, 3) := by decide +kernel
theorem dX12_init_569 : decode cX12_init 569 = .ok (.newarray .int, 2) := by decide +kernel
theorem dX12_init_571 : decode cX12_init 571 = .ok (.putfield 204, 3) := by decide +kernel
theorem dX12_init_574 : decode cX12_init 574 = .ok (.aload_n 0, 1) := by decide +kernel
theorem dX12_init_575 : decode cX12_init 575 = .ok (.sipush 2000, 3) := by decide +kernel
theorem dX12_init_578 : decode cX12_init 578 = .ok (.newarray .int, 2) := by decide +kernel
theorem dX12_init_580 : decode cX12_init 580 = .ok (.putfield 207, 3) := by decide +kernel
theorem dX12_init_583 : decode cX12_init 583 = .ok (.aload_n 0, 1) := by decide +kernel
theorem dX12_init_584 : decode cX12_init 584 = .ok (.sipush 2000, 3) := by decide +kernel
theorem dX12_init_587 : decode cX12_init 587 = .ok (.newarray .int, 2) := by decide +kernel
theorem dX12_init_589 : decode cX12_init 589 = .ok (.putfield 210, 3) := by decide +kernel
theorem dX12_init_592 : decode cX12_init 592 = .ok (.aload_n 0, 1) := by decide +kernel
theorem dX12_init_593 : decode cX12_init 593 = .ok (.sipush 2000, 3) := by decide +kernel
theorem dX12_init_596 : decode cX12_init 596 = .ok (.newarray .int, 2) := by decide +kernel
theorem dX12_init_598 : decode cX12_init 598 = .ok (.putfield 213, 3) := by decide +kernel
theorem dX12_init_601 : decode cX12_init 601 = .ok (.aload_n 0, 1) := by decide +kernel
theorem dX12_init_602 : decode cX12_init 602 = .ok (.sipush 2000, 3) := by decide +kernel
theorem dX12_init_605 : decode cX12_init 605 = .ok (.newarray .int, 2) := by decide +kernel
theorem dX12_init_607 : decode cX12_init 607 = .ok (.putfield 216, 3) := by decide +kernel
theorem dX12_init_610 : decode cX12_init 610 = .ok (.aload_n 0, 1) := by decide +kernel
theorem dX12_init_611 : decode cX12_init 611 = .ok (.sipush 2000, 3) := by decide +kernel
theorem dX12_init_614 : decode cX12_init 614 = .ok (.newarray .int, 2) := by decide +kernel
theorem dX12_init_616 : decode cX12_init 616 = .ok (.putfield 219, 3) := by decide +kernel
theorem dX12_init_619 : decode cX12_init 619 = .ok (.aload_n 0, 1) := by decide +kernel
theorem dX12_init_620 : decode cX12_init 620 = .ok (.sipush 2000, 3) := by decide +kernel
theorem dX12_init_623 : decode cX12_init 623 = .ok (.newarray .int, 2) := by decide +kernel
theorem dX12_init_625 : decode cX12_init 625 = .ok (.putfield 222, 3) := by decide +kernel
theorem dX12_init_628 : decode cX12_init 628 = .ok (.aload_n 0, 1) := by decide +kernel
theorem dX12_init_629 : decode cX12_init 629 = .ok (.iconst 5, 1) := by decide +kernel
theorem dX12_init_630 : decode cX12_init 630 = .ok (.newarray .int, 2) := by decide +kernel
theorem dX12_init_632 : decode cX12_init 632 = .ok (.putfield 225, 3) := by decide +kernel
theorem dX12_init_635 : decode cX12_init 635 = .ok (.aload_n 0, 1) := by decide +kernel
theorem dX12_init_636 : decode cX12_init 636 = .ok (.iconst 5, 1) := by decide +kernel
theorem dX12_init_637 : decode cX12_init 637 = .ok (.newarray .int, 2) := by decide +kernel
theorem dX12_init_639 : decode cX12_init 639 = .ok (.putfield 228, 3) := by decide +kernel
theorem dX12_init_642 : decode cX12_init 642 = .ok (.aload_n 0, 1) := by decide +kernel
theorem dX12_init_643 : decode cX12_init 643 = .ok (.iconst 5, 1) := by decide +kernel
theorem dX12_init_644 : decode cX12_init 644 = .ok (.newarray .int, 2) := by decide +kernel
theorem dX12_init_646 : decode cX12_init 646 = .ok (.putfield 231, 3) := by decide +kernel
theorem dX12_init_649 : decode cX12_init 649 = .ok (.aload_n 0, 1) := by decide +kernel
theorem dX12_init_650 : decode cX12_init 650 = .ok (.iconst 5, 1) := by decide +kernel
theorem dX12_init_651 : decode cX12_init 651 = .ok (.newarray .int, 2) := by decide +kernel
theorem dX12_init_653 : decode cX12_init 653 = .ok (.putfield 234, 3) := by decide +kernel
theorem dX12_init_656 : decode cX12_init 656 = .ok (.aload_n 0, 1) := by decide +kernel
theorem dX12_init_657 : decode cX12_init 657 = .ok (.sipush 640, 3) := by decide +kernel
theorem dX12_init_660 : decode cX12_init 660 = .ok (.newarray .int, 2) := by decide +kernel
theorem dX12_init_662 : decode cX12_init 662 = .ok (.putfield 237, 3) := by decide +kernel
theorem dX12_init_665 : decode cX12_init 665 = .ok (.aload_n 0, 1) := by decide +kernel
theorem dX12_init_666 : decode cX12_init 666 = .ok (.sipush 640, 3) := by decide +kernel
theorem dX12_init_669 : decode cX12_init 669 = .ok (.newarray .int, 2) := by decide +kernel
theorem dX12_init_671 : decode cX12_init 671 = .ok (.putfield 240, 3) := by decide +kernel
theorem dX12_init_674 : decode cX12_init 674 = .ok (.aload_n 0, 1) := by decide +kernel
theorem dX12_init_675 : decode cX12_init 675 = .ok (.sipush 20000, 3) := by decide +kernel
theorem dX12_init_678 : decode cX12_init 678 = .ok (.newarray .long, 2) := by decide +kernel
theorem dX12_init_680 : decode cX12_init 680 = .ok (.putfield 243, 3) := by decide +kernel
theorem dX12_init_683 : decode cX12_init 683 = .ok (.aload_n 0, 1) := by decide +kernel
theorem dX12_init_684 : decode cX12_init 684 = .ok (.sipush 2000, 3) := by decide +kernel
theorem dX12_init_687 : decode cX12_init 687 = .ok (.newarray .boolean, 2) := by decide +kernel
theorem dX12_init_689 : decode cX12_init 689 = .ok (.putfield 246, 3) := by decide +kernel
theorem dX12_init_692 : decode cX12_init 692 = .ok (.aload_n 0, 1) := by decide +kernel
theorem dX12_init_693 : decode cX12_init 693 = .ok (.sipush 400, 3) := by decide +kernel
theorem dX12_init_696 : decode cX12_init 696 = .ok (.newarray .boolean, 2) := by decide +kernel
theorem dX12_init_698 : decode cX12_init 698 = .ok (.putfield 249, 3) := by decide +kernel
theorem dX12_init_701 : decode cX12_init 701 = .ok (.aload_n 0, 1) := by decide +kernel
theorem dX12_init_702 : decode cX12_init 702 = .ok (.ldc 252, 2) := by decide +kernel
theorem dX12_init_704 : decode cX12_init 704 = .ok (.newarray .boolean, 2) := by decide +kernel
theorem dX12_init_706 : decode cX12_init 706 = .ok (.putfield 253, 3) := by decide +kernel
theorem dX12_init_709 : decode cX12_init 709 = .ok (.aload_n 0, 1) := by decide +kernel
theorem dX12_init_710 : decode cX12_init 710 = .ok (.sipush 400, 3) := by decide +kernel
theorem dX12_init_713 : decode cX12_init 713 = .ok (.newarray .int, 2) := by decide +kernel
theorem dX12_init_715 : decode cX12_init 715 = .ok (.putfield 256, 3) := by decide +kernel
theorem dX12_init_718 : decode cX12_init 718 = .ok (.aload_n 0, 1) := by decide +kernel
theorem dX12_init_719 : decode cX12_init 719 = .ok (.sipush 400, 3) := by decide +kernel
theorem dX12_init_722 : decode cX12_init 722 = .ok (.newarray .int, 2) := by decide +kernel
theorem dX12_init_724 : decode cX12_init 724 = .ok (.putfield 259, 3) := by decide +kernel
theorem dX12_init_727 : decode cX12_init 727 = .ok (.aload_n 0, 1) := by decide +kernel
theorem dX12_init_728 : decode cX12_init 728 = .ok (.sipush 400, 3) := by decide +kernel
theorem dX12_init_731 : decode cX12_init 731 = .ok (.newarray .int, 2) := by decide +kernel
theorem dX12_init_733 : decode cX12_init 733 = .ok (.putfield 262, 3) := by decide +kernel
theorem dX12_init_736 : decode cX12_init 736 = .ok (.aload_n 0, 1) := by decide +kernel
theorem dX12_init_737 : decode cX12_init 737 = .ok (.sipush 400, 3) := by decide +kernel
theorem dX12_init_740 : decode cX12_init 740 = .ok (.newarray .int, 2) := by decide +kernel
theorem dX12_init_742 : decode cX12_init 742 = .ok (.putfield 265, 3) := by decide +kernel
theorem dX12_init_745 : decode cX12_init 745 = .ok (.aload_n 0, 1) := by decide +kernel
theorem dX12_init_746 : decode cX12_init 746 = .ok (.iconst (-1), 1) := by decide +kernel
theorem dX12_init_747 : decode cX12_init 747 = .ok (.putfield 268, 3) := by decide +kernel
theorem dX12_init_750 : decode cX12_init 750 = .ok (.aload_n 0, 1) := by decide +kernel
theorem dX12_init_751 : decode cX12_init 751 = .ok (.sipush 480, 3) := by decide +kernel
theorem dX12_init_754 : decode cX12_init 754 = .ok (.newarray .int, 2) := by decide +kernel
theorem dX12_init_756 : decode cX12_init 756 = .ok (.putfield 272, 3) := by decide +kernel
theorem dX12_init_759 : decode cX12_init 759 = .ok (.aload_n 0, 1) := by decide +kernel
theorem dX12_init_760 : decode cX12_init 760 = .ok (.sipush 480, 3) := by decide +kernel
theorem dX12_init_763 : decode cX12_init 763 = .ok (.newarray .int, 2) := by decide +kernel
theorem dX12_init_765 : decode cX12_init 765 = .ok (.putfield 275, 3) := by decide +kernel
theorem dX12_init_768 : decode cX12_init 768 = .ok (.aload_n 0, 1) := by decide +kernel
theorem dX12_init_769 : decode cX12_init 769 = .ok (.sipush 480, 3) := by decide +kernel
theorem dX12_init_772 : decode cX12_init 772 = .ok (.newarray .int, 2) := by decide +kernel
theorem dX12_init_774 : decode cX12_init 774 = .ok (.putfield 278, 3) := by decide +kernel
theorem dX12_init_777 : decode cX12_init 777 = .ok (.aload_n 0, 1) := by decide +kernel
theorem dX12_init_778 : decode cX12_init 778 = .ok (.sipush 480, 3) := by decide +kernel
theorem dX12_init_781 : decode cX12_init 781 = .ok (.newarray .int, 2) := by decide +kernel
theorem dX12_init_783 : decode cX12_init 783 = .ok (.putfield 281, 3) := by decide +kernel
theorem dX12_init_786 : decode cX12_init 786 = .ok (.aload_n 0, 1) := by decide +kernel
theorem dX12_init_787 : decode cX12_init 787 = .ok (.sipush 480, 3) := by decide +kernel
theorem dX12_init_790 : decode cX12_init 790 = .ok (.newarray .long, 2) := by decide +kernel
theorem dX12_init_792 : decode cX12_init 792 = .ok (.putfield 284, 3) := by decide +kernel
theorem dX12_init_795 : decode cX12_init 795 = .ok (.aload_n 0, 1) := by decide +kernel
theorem dX12_init_796 : decode cX12_init 796 = .ok (.bipush 12, 2) := by decide +kernel
theorem dX12_init_798 : decode cX12_init 798 = .ok (.newarray .long, 2) := by decide +kernel
theorem dX12_init_800 : decode cX12_init 800 = .ok (.putfield 287, 3) := by decide +kernel
theorem dX12_init_803 : decode cX12_init 803 = .ok (.aload_n 0, 1) := by decide +kernel
theorem dX12_init_804 : decode cX12_init 804 = .ok (.bipush 12, 2) := by decide +kernel
theorem dX12_init_806 : decode cX12_init 806 = .ok (.newarray .int, 2) := by decide +kernel
theorem dX12_init_808 : decode cX12_init 808 = .ok (.putfield 290, 3) := by decide +kernel
theorem dX12_init_811 : decode cX12_init 811 = .ok (.aload_n 0, 1) := by decide +kernel
theorem dX12_init_812 : decode cX12_init 812 = .ok (.ldc_w 293, 3) := by decide +kernel
theorem dX12_init_815 : decode cX12_init 815 = .ok (.newarray .int, 2) := by decide +kernel
theorem dX12_init_817 : decode cX12_init 817 = .ok (.putfield 294, 3) := by decide +kernel
theorem dX12_init_820 : decode cX12_init 820 = .ok (.aload_n 0, 1) := by decide +kernel
theorem dX12_init_821 : decode cX12_init 821 = .ok (.bipush 12, 2) := by decide +kernel
theorem dX12_init_823 : decode cX12_init 823 = .ok (.newarray .int, 2) := by decide +kernel
theorem dX12_init_825 : decode cX12_init 825 = .ok (.putfield 297, 3) := by decide +kernel
theorem dX12_init_828 : decode cX12_init 828 = .ok (.aload_n 0, 1) := by decide +kernel
theorem dX12_init_829 : decode cX12_init 829 = .ok (.sipush 4400, 3) := by decide +kernel
theorem dX12_init_832 : decode cX12_init 832 = .ok (.newarray .int, 2) := by decide +kernel
theorem dX12_init_834 : decode cX12_init 834 = .ok (.putfield 300, 3) := by decide +kernel
theorem dX12_init_837 : decode cX12_init 837 = .ok (.aload_n 0, 1) := by decide +kernel
theorem dX12_init_838 : decode cX12_init 838 = .ok (.sipush 4400, 3) := by decide +kernel
theorem dX12_init_841 : decode cX12_init 841 = .ok (.newarray .int, 2) := by decide +kernel
theorem dX12_init_843 : decode cX12_init 843 = .ok (.putfield 303, 3) := by decide +kernel
theorem dX12_init_846 : decode cX12_init 846 = .ok (.aload_n 0, 1) := by decide +kernel
theorem dX12_init_847 : decode cX12_init 847 = .ok (.sipush 4400, 3) := by decide +kernel
theorem dX12_init_850 : decode cX12_init 850 = .ok (.newarray .long, 2) := by decide +kernel
theorem dX12_init_852 : decode cX12_init 852 = .ok (.putfield 306, 3) := by decide +kernel
theorem dX12_init_855 : decode cX12_init 855 = .ok (.aload_n 0, 1) := by decide +kernel
theorem dX12_init_856 : decode cX12_init 856 = .ok (.iconst 3, 1) := by decide +kernel
theorem dX12_init_857 : decode cX12_init 857 = .ok (.newarray .int, 2) := by decide +kernel
theorem dX12_init_859 : decode cX12_init 859 = .ok (.putfield 309, 3) := by decide +kernel
theorem dX12_init_862 : decode cX12_init 862 = .ok (.aload_n 0, 1) := by decide +kernel
theorem dX12_init_863 : decode cX12_init 863 = .ok (.iconst 3, 1) := by decide +kernel
theorem dX12_init_864 : decode cX12_init 864 = .ok (.newarray .int, 2) := by decide +kernel
theorem dX12_init_866 : decode cX12_init 866 = .ok (.putfield 312, 3) := by decide +kernel
theorem dX12_init_869 : decode cX12_init 869 = .ok (.aload_n 0, 1) := by decide +kernel
theorem dX12_init_870 : decode cX12_init 870 = .ok (.bipush 6, 2) := by decide +kernel
theorem dX12_init_872 : decode cX12_init 872 = .ok (.newarray .long, 2) := by decide +kernel
theorem dX12_init_874 : decode cX12_init 874 = .ok (.putfield 315, 3) := by decide +kernel
theorem dX12_init_877 : decode cX12_init 877 = .ok (.aload_n 0, 1) := by decide +kernel
theorem dX12_init_878 : decode cX12_init 878 = .ok (.bipush 9, 2) := by decide +kernel
theorem dX12_init_880 : decode cX12_init 880 = .ok (.newarray .long, 2) := by decide +kernel
theorem dX12_init_882 : decode cX12_init 882 = .ok (.putfield 318, 3) := by decide +kernel
theorem dX12_init_885 : decode cX12_init 885 = .ok (.aload_n 0, 1) := by decide +kernel
theorem dX12_init_886 : decode cX12_init 886 = .ok (.bipush 48, 2) := by decide +kernel
theorem dX12_init_888 : decode cX12_init 888 = .ok (.newarray .long, 2) := by decide +kernel
theorem dX12_init_890 : decode cX12_init 890 = .ok (.putfield 321, 3) := by decide +kernel
theorem dX12_init_893 : decode cX12_init 893 = .ok (.aload_n 0, 1) := by decide +kernel
theorem dX12_init_894 : decode cX12_init 894 = .ok (.bipush 6, 2) := by decide +kernel
theorem dX12_init_896 : decode cX12_init 896 = .ok (.newarray .int, 2) := by decide +kernel
theorem dX12_init_898 : decode cX12_init 898 = .ok (.putfield 324, 3) := by decide +kernel
theorem dX12_init_901 : decode cX12_init 901 = .ok (.aload_n 0, 1) := by decide +kernel
theorem dX12_init_902 : decode cX12_init 902 = .ok (.bipush 12, 2) := by decide +kernel
theorem dX12_init_904 : decode cX12_init 904 = .ok (.newarray .int, 2) := by decide +kernel
theorem dX12_init_906 : decode cX12_init 906 = .ok (.putfield 327, 3) := by decide +kernel
theorem dX12_init_909 : decode cX12_init 909 = .ok (.aload_n 0, 1) := by decide +kernel
theorem dX12_init_910 : decode cX12_init 910 = .ok (.bipush 12, 2) := by decide +kernel
theorem dX12_init_912 : decode cX12_init 912 = .ok (.newarray .int, 2) := by decide +kernel
theorem dX12_init_914 : decode cX12_init 914 = .ok (.putfield 330, 3) := by decide +kernel
theorem dX12_init_917 : decode cX12_init 917 = .ok (.aload_n 0, 1) := by decide +kernel
theorem dX12_init_918 : decode cX12_init 918 = .ok (.bipush 12, 2) := by decide +kernel
theorem dX12_init_920 : decode cX12_init 920 = .ok (.newarray .int, 2) := by decide +kernel
theorem dX12_init_922 : decode cX12_init 922 = .ok (.putfield 333, 3) := by decide +kernel
theorem dX12_init_925 : decode cX12_init 925 = .ok (.aload_n 0, 1) := by decide +kernel
theorem dX12_init_926 : decode cX12_init 926 = .ok (.bipush 12, 2) := by decide +kernel
theorem dX12_init_928 : decode cX12_init 928 = .ok (.newarray .int, 2) := by decide +kernel
theorem dX12_init_930 : decode cX12_init 930 = .ok (.putfield 336, 3) := by decide +kernel
theorem dX12_init_933 : decode cX12_init 933 = .ok (.aload_n 0, 1) := by decide +kernel
theorem dX12_init_934 : decode cX12_init 934 = .ok (.bipush 48, 2) := by decide +kernel
theorem dX12_init_936 : decode cX12_init 936 = .ok (.newarray .int, 2) := by decide +kernel
theorem dX12_init_938 : decode cX12_init 938 = .ok (.putfield 339, 3) := by decide +kernel
theorem dX12_init_941 : decode cX12_init 941 = .ok (.aload_n 0, 1) := by decide +kernel
theorem dX12_init_942 : decode cX12_init 942 = .ok (.bipush 48, 2) := by decide +kernel
theorem dX12_init_944 : decode cX12_init 944 = .ok (.newarray .int, 2) := by decide +kernel
theorem dX12_init_946 : decode cX12_init 946 = .ok (.putfield 342, 3) := by decide +kernel
theorem dX12_init_949 : decode cX12_init 949 = .ok (.aload_n 0, 1) := by decide +kernel
theorem dX12_init_950 : decode cX12_init 950 = .ok (.bipush 48, 2) := by decide +kernel
theorem dX12_init_952 : decode cX12_init 952 = .ok (.newarray .int, 2) := by decide +kernel
theorem dX12_init_954 : decode cX12_init 954 = .ok (.putfield 345, 3) := by decide +kernel
theorem dX12_init_957 : decode cX12_init 957 = .ok (.aload_n 0, 1) := by decide +kernel
theorem dX12_init_958 : decode cX12_init 958 = .ok (.bipush 48, 2) := by decide +kernel
theorem dX12_init_960 : decode cX12_init 960 = .ok (.newarray .int, 2) := by decide +kernel
theorem dX12_init_962 : decode cX12_init 962 = .ok (.putfield 348, 3) := by decide +kernel
theorem dX12_init_965 : decode cX12_init 965 = .ok (.aload_n 0, 1) := by decide +kernel
theorem dX12_init_966 : decode cX12_init 966 = .ok (.bipush 12, 2) := by decide +kernel
theorem dX12_init_968 : decode cX12_init 968 = .ok (.newarray .int, 2) := by decide +kernel
theorem dX12_init_970 : decode cX12_init 970 = .ok (.putfield 351, 3) := by decide +kernel
theorem dX12_init_973 : decode cX12_init 973 = .ok (.aload_n 0, 1) := by decide +kernel
theorem dX12_init_974 : decode cX12_init 974 = .ok (.bipush 9, 2) := by decide +kernel
theorem dX12_init_976 : decode cX12_init 976 = .ok (.newarray .int, 2) := by decide +kernel
theorem dX12_init_978 : decode cX12_init 978 = .ok (.putfield 354, 3) := by decide +kernel
theorem dX12_init_981 : decode cX12_init 981 = .ok (.aload_n 0, 1) := by decide +kernel
theorem dX12_init_982 : decode cX12_init 982 = .ok (.sipush 240, 3) := by decide +kernel
theorem dX12_init_985 : decode cX12_init 985 = .ok (.newarray .boolean, 2) := by decide +kernel
theorem dX12_init_987 : decode cX12_init 987 = .ok (.putfield 357, 3) := by decide +kernel
theorem dX12_init_990 : decode cX12_init 990 = .ok (.aload_n 0, 1) := by decide +kernel
theorem dX12_init_991 : decode cX12_init 991 = .ok (.sipush 9600, 3) := by decide +kernel
theorem dX12_init_994 : decode cX12_init 994 = .ok (.newarray .boolean, 2) := by decide +kernel
theorem dX12_init_996 : decode cX12_init 996 = .ok (.putfield 360, 3) := by decide +kernel
theorem dX12_init_999 : decode cX12_init 999 = .ok (.aload_n 0, 1) := by decide +kernel
theorem dX12_init_1000 : decode cX12_init 1000 = .ok (.bipush 9, 2) := by decide +kernel
theorem dX12_init_1002 : decode cX12_init 1002 = .ok (.newarray .boolean, 2) := by decide +kernel
theorem dX12_init_1004 : decode cX12_init 1004 = .ok (.putfield 363, 3) := by decide +kernel
theorem dX12_init_1007 : decode cX12_init 1007 = .ok (.aload_n 0, 1) := by decide +kernel
theorem dX12_init_1008 : decode cX12_init 1008 = .ok (.bipush 9, 2) := by decide +kernel
theorem dX12_init_1010 : decode cX12_init 1010 = .ok (.newarray .boolean, 2) := by decide +kernel
theorem dX12_init_1012 : decode cX12_init 1012 = .ok (.putfield 366, 3) := by decide +kernel
theorem dX12_init_1015 : decode cX12_init 1015 = .ok (.aload_n 0, 1) := by decide +kernel
theorem dX12_init_1016 : decode cX12_init 1016 = .ok (.sipush 9000, 3) := by decide +kernel
theorem dX12_init_1019 : decode cX12_init 1019 = .ok (.newarray .byte, 2) := by decide +kernel
theorem dX12_init_1021 : decode cX12_init 1021 = .ok (.putfield 369, 3) := by decide +kernel
theorem dX12_init_1024 : decode cX12_init 1024 = .ok (.aload_n 0, 1) := by decide +kernel
theorem dX12_init_1025 : decode cX12_init 1025 = .ok (.sipush 8000, 3) := by decide +kernel
theorem dX12_init_1028 : decode cX12_init 1028 = .ok (.newarray .byte, 2) := by decide +kernel
theorem dX12_init_1030 : decode cX12_init 1030 = .ok (.putfield 372, 3) := by decide +kernel
theorem dX12_init_1033 : decode cX12_init 1033 = .ok (.aload_n 0, 1) := by decide +kernel
theorem dX12_init_1034 : decode cX12_init 1034 = .ok (.sipush 400, 3) := by decide +kernel
theorem dX12_init_1037 : decode cX12_init 1037 = .ok (.newarray .int, 2) := by decide +kernel
theorem dX12_init_1039 : decode cX12_init 1039 = .ok (.putfield 375, 3) := by decide +kernel
theorem dX12_init_1042 : decode cX12_init 1042 = .ok (.aload_n 0, 1) := by decide +kernel
theorem dX12_init_1043 : decode cX12_init 1043 = .ok (.sipush 4000, 3) := by decide +kernel
theorem dX12_init_1046 : decode cX12_init 1046 = .ok (.newarray .int, 2) := by decide +kernel
theorem dX12_init_1048 : decode cX12_init 1048 = .ok (.putfield 378, 3) := by decide +kernel
theorem dX12_init_1051 : decode cX12_init 1051 = .ok (.aload_n 0, 1) := by decide +kernel
theorem dX12_init_1052 : decode cX12_init 1052 = .ok (.sipush 1000, 3) := by decide +kernel
theorem dX12_init_1055 : decode cX12_init 1055 = .ok (.newarray .int, 2) := by decide +kernel
theorem dX12_init_1057 : decode cX12_init 1057 = .ok (.putfield 381, 3) := by decide +kernel
theorem dX12_init_1060 : decode cX12_init 1060 = .ok (.iconst 0, 1) := by decide +kernel
theorem dX12_init_1061 : decode cX12_init 1061 = .ok (.istore_n 1, 1) := by decide +kernel
theorem dX12_init_1062 : decode cX12_init 1062 = .ok (.iload_n 1, 1) := by decide +kernel
theorem dX12_init_1063 : decode cX12_init 1063 = .ok (.aload_n 0, 1) := by decide +kernel
theorem dX12_init_1064 : decode cX12_init 1064 = .ok (.getfield 74, 3) := by decide +kernel
theorem dX12_init_1067 : decode cX12_init 1067 = .ok (.arraylength, 1) := by decide +kernel
theorem dX12_init_1068 : decode cX12_init 1068 = .ok (.if_icmp .ge 24, 3) := by decide +kernel
theorem dX12_init_1071 : decode cX12_init 1071 = .ok (.aload_n 0, 1) := by decide +kernel
theorem dX12_init_1072 : decode cX12_init 1072 = .ok (.getfield 74, 3) := by decide +kernel
theorem dX12_init_1075 : decode cX12_init 1075 = .ok (.iload_n 1, 1) := by decide +kernel
theorem dX12_init_1076 : decode cX12_init 1076 = .ok (.aload_n 0, 1) := by decide +kernel
theorem dX12_init_1077 : decode cX12_init 1077 = .ok (.getfield 74, 3) := by decide +kernel
theorem dX12_init_1080 : decode cX12_init 1080 = .ok (.iload_n 1, 1) := by decide +kernel
theorem dX12_init_1081 : decode cX12_init 1081 = .ok (.laload, 1) := by decide +kernel
theorem dX12_init_1082 : decode cX12_init 1082 = .ok (.invokestatic 384, 3) := by decide +kernel
theorem dX12_init_1085 : decode cX12_init 1085 = .ok (.lastore, 1) := by decide +kernel
theorem dX12_init_1086 : decode cX12_init 1086 = .ok (.iinc 1 1, 3) := by decide +kernel
theorem dX12_init_1089 : decode cX12_init 1089 = .ok (.goto (-27), 3) := by decide +kernel
theorem dX12_init_1092 : decode cX12_init 1092 = .ok (.return_, 1) := by decide +kernel
theorem dX12_thrown_0 : decode cX12_thrown 0 = .ok (.aload_n 0, 1) := by decide +kernel
theorem dX12_thrown_1 : decode cX12_thrown 1 = .ok (.getfield 388, 3) := by decide +kernel
theorem dX12_thrown_4 : decode cX12_thrown 4 = .ok (.ireturn, 1) := by decide +kernel
theorem dX12_feed_0 : decode cX12_feed 0 = .ok (.aload_n 0, 1) := by decide +kernel
theorem dX12_feed_1 : decode cX12_feed 1 = .ok (.iconst 0, 1) := by decide +kernel
theorem dX12_feed_2 : decode cX12_feed 2 = .ok (.putfield 388, 3) := by decide +kernel
theorem dX12_feed_5 : decode cX12_feed 5 = .ok (.iconst 0, 1) := by decide +kernel
theorem dX12_feed_6 : decode cX12_feed 6 = .ok (.istore 6, 2) := by decide +kernel
theorem dX12_feed_8 : decode cX12_feed 8 = .ok (.iload 6, 2) := by decide +kernel
theorem dX12_feed_10 : decode cX12_feed 10 = .ok (.iconst 4, 1) := by decide +kernel
theorem dX12_feed_11 : decode cX12_feed 11 = .ok (.if_icmp .ge 92, 3) := by decide +kernel
theorem dX12_feed_14 : decode cX12_feed 14 = .ok (.bipush 24, 2) := by decide +kernel
theorem dX12_feed_16 : decode cX12_feed 16 = .ok (.bipush 8, 2) := by decide +kernel
theorem dX12_feed_18 : decode cX12_feed 18 = .ok (.iload 6, 2) := by decide +kernel
theorem dX12_feed_20 : decode cX12_feed 20 = .ok (.imul, 1) := by decide +kernel
theorem dX12_feed_21 : decode cX12_feed 21 = .ok (.isub, 1) := by decide +kernel
theorem dX12_feed_22 : decode cX12_feed 22 = .ok (.istore 7, 2) := by decide +kernel
theorem dX12_feed_24 : decode cX12_feed 24 = .ok (.aload_n 0, 1) := by decide +kernel
theorem dX12_feed_25 : decode cX12_feed 25 = .ok (.getfield 13, 3) := by decide +kernel
theorem dX12_feed_28 : decode cX12_feed 28 = .ok (.iload 6, 2) := by decide +kernel
theorem dX12_feed_30 : decode cX12_feed 30 = .ok (.iload_n 1, 1) := by decide +kernel
theorem dX12_feed_31 : decode cX12_feed 31 = .ok (.iload 7, 2) := by decide +kernel
theorem dX12_feed_33 : decode cX12_feed 33 = .ok (.ishr, 1) := by decide +kernel
theorem dX12_feed_34 : decode cX12_feed 34 = .ok (.i2b, 1) := by decide +kernel
theorem dX12_feed_35 : decode cX12_feed 35 = .ok (.bastore, 1) := by decide +kernel
theorem dX12_feed_36 : decode cX12_feed 36 = .ok (.aload_n 0, 1) := by decide +kernel
theorem dX12_feed_37 : decode cX12_feed 37 = .ok (.getfield 13, 3) := by decide +kernel
theorem dX12_feed_40 : decode cX12_feed 40 = .ok (.iconst 4, 1) := by decide +kernel
theorem dX12_feed_41 : decode cX12_feed 41 = .ok (.iload 6, 2) := by decide +kernel
theorem dX12_feed_43 : decode cX12_feed 43 = .ok (.iadd, 1) := by decide +kernel
theorem dX12_feed_44 : decode cX12_feed 44 = .ok (.iload_n 2, 1) := by decide +kernel
theorem dX12_feed_45 : decode cX12_feed 45 = .ok (.iload 7, 2) := by decide +kernel
theorem dX12_feed_47 : decode cX12_feed 47 = .ok (.ishr, 1) := by decide +kernel
theorem dX12_feed_48 : decode cX12_feed 48 = .ok (.i2b, 1) := by decide +kernel
theorem dX12_feed_49 : decode cX12_feed 49 = .ok (.bastore, 1) := by decide +kernel
theorem dX12_feed_50 : decode cX12_feed 50 = .ok (.aload_n 0, 1) := by decide +kernel
theorem dX12_feed_51 : decode cX12_feed 51 = .ok (.getfield 13, 3) := by decide +kernel
theorem dX12_feed_54 : decode cX12_feed 54 = .ok (.bipush 8, 2) := by decide +kernel
theorem dX12_feed_56 : decode cX12_feed 56 = .ok (.iload 6, 2) := by decide +kernel
theorem dX12_feed_58 : decode cX12_feed 58 = .ok (.iadd, 1) := by decide +kernel
theorem dX12_feed_59 : decode cX12_feed 59 = .ok (.iload_n 3, 1) := by decide +kernel
theorem dX12_feed_60 : decode cX12_feed 60 = .ok (.iload 7, 2) := by decide +kernel
theorem dX12_feed_62 : decode cX12_feed 62 = .ok (.ishr, 1) := by decide +kernel
theorem dX12_feed_63 : decode cX12_feed 63 = .ok (.i2b, 1) := by decide +kernel
theorem dX12_feed_64 : decode cX12_feed 64 = .ok (.bastore, 1) := by decide +kernel
theorem dX12_feed_65 : decode cX12_feed 65 = .ok (.aload_n 0, 1) := by decide +kernel
theorem dX12_feed_66 : decode cX12_feed 66 = .ok (.getfield 13, 3) := by decide +kernel
theorem dX12_feed_69 : decode cX12_feed 69 = .ok (.bipush 12, 2) := by decide +kernel
theorem dX12_feed_71 : decode cX12_feed 71 = .ok (.iload 6, 2) := by decide +kernel
theorem dX12_feed_73 : decode cX12_feed 73 = .ok (.iadd, 1) := by decide +kernel
theorem dX12_feed_74 : decode cX12_feed 74 = .ok (.iload 4, 2) := by decide +kernel
theorem dX12_feed_76 : decode cX12_feed 76 = .ok (.iload 7, 2) := by decide +kernel
theorem dX12_feed_78 : decode cX12_feed 78 = .ok (.ishr, 1) := by decide +kernel
theorem dX12_feed_79 : decode cX12_feed 79 = .ok (.i2b, 1) := by decide +kernel
theorem dX12_feed_80 : decode cX12_feed 80 = .ok (.bastore, 1) := by decide +kernel
theorem dX12_feed_81 : decode cX12_feed 81 = .ok (.aload_n 0, 1) := by decide +kernel
theorem dX12_feed_82 : decode cX12_feed 82 = .ok (.getfield 13, 3) := by decide +kernel
theorem dX12_feed_85 : decode cX12_feed 85 = .ok (.bipush 16, 2) := by decide +kernel
theorem dX12_feed_87 : decode cX12_feed 87 = .ok (.iload 6, 2) := by decide +kernel
theorem dX12_feed_89 : decode cX12_feed 89 = .ok (.iadd, 1) := by decide +kernel
theorem dX12_feed_90 : decode cX12_feed 90 = .ok (.iload 5, 2) := by decide +kernel
theorem dX12_feed_92 : decode cX12_feed 92 = .ok (.iload 7, 2) := by decide +kernel
theorem dX12_feed_94 : decode cX12_feed 94 = .ok (.ishr, 1) := by decide +kernel
theorem dX12_feed_95 : decode cX12_feed 95 = .ok (.i2b, 1) := by decide +kernel
theorem dX12_feed_96 : decode cX12_feed 96 = .ok (.bastore, 1) := by decide +kernel
theorem dX12_feed_97 : decode cX12_feed 97 = .ok (.iinc 6 1, 3) := by decide +kernel
theorem dX12_feed_100 : decode cX12_feed 100 = .ok (.goto (-92), 3) := by decide +kernel
theorem dX12_feed_103 : decode cX12_feed 103 = .ok (.return_, 1) := by decide +kernel
theorem dX12_end_0 : decode cX12_end 0 = .ok (.aload_n 0, 1) := by decide +kernel
theorem dX12_end_1 : decode cX12_end 1 = .ok (.iconst 0, 1) := by decide +kernel
theorem dX12_end_2 : decode cX12_end 2 = .ok (.putfield 388, 3) := by decide +kernel
theorem dX12_end_5 : decode cX12_end 5 = .ok (.iload_n 1, 1) := by decide +kernel
theorem dX12_end_6 : decode cX12_end 6 = .ok (.ifCond .lt 21, 3) := by decide +kernel
theorem dX12_end_9 : decode cX12_end 9 = .ok (.iload_n 1, 1) := by decide +kernel
theorem dX12_end_10 : decode cX12_end 10 = .ok (.bipush 20, 2) := by decide +kernel
theorem dX12_end_12 : decode cX12_end 12 = .ok (.if_icmp .gt 15, 3) := by decide +kernel
theorem dX12_end_15 : decode cX12_end 15 = .ok (.aload_n 0, 1) := by decide +kernel
theorem dX12_end_16 : decode cX12_end 16 = .ok (.getfield 391, 3) := by decide +kernel
theorem dX12_end_19 : decode cX12_end 19 = .ok (.iload_n 1, 1) := by decide +kernel
theorem dX12_end_20 : decode cX12_end 20 = .ok (.iadd, 1) := by decide +kernel
theorem dX12_end_21 : decode cX12_end 21 = .ok (.sipush 4000, 3) := by decide +kernel
theorem dX12_end_24 : decode cX12_end 24 = .ok (.if_icmp .le 5, 3) := by decide +kernel
theorem dX12_end_27 : decode cX12_end 27 = .ok (.iconst (-1), 1) := by decide +kernel
theorem dX12_end_28 : decode cX12_end 28 = .ok (.ireturn, 1) := by decide +kernel
theorem dX12_end_29 : decode cX12_end 29 = .ok (.iconst 0, 1) := by decide +kernel
theorem dX12_end_30 : decode cX12_end 30 = .ok (.istore_n 2, 1) := by decide +kernel
theorem dX12_end_31 : decode cX12_end 31 = .ok (.iload_n 2, 1) := by decide +kernel
theorem dX12_end_32 : decode cX12_end 32 = .ok (.iload_n 1, 1) := by decide +kernel
theorem dX12_end_33 : decode cX12_end 33 = .ok (.if_icmp .ge 26, 3) := by decide +kernel
theorem dX12_end_36 : decode cX12_end 36 = .ok (.aload_n 0, 1) := by decide +kernel
theorem dX12_end_37 : decode cX12_end 37 = .ok (.getfield 7, 3) := by decide +kernel
theorem dX12_end_40 : decode cX12_end 40 = .ok (.aload_n 0, 1) := by decide +kernel
theorem dX12_end_41 : decode cX12_end 41 = .ok (.getfield 391, 3) := by decide +kernel
theorem dX12_end_44 : decode cX12_end 44 = .ok (.iload_n 2, 1) := by decide +kernel
theorem dX12_end_45 : decode cX12_end 45 = .ok (.iadd, 1) := by decide +kernel
theorem dX12_end_46 : decode cX12_end 46 = .ok (.aload_n 0, 1) := by decide +kernel
theorem dX12_end_47 : decode cX12_end 47 = .ok (.getfield 13, 3) := by decide +kernel
theorem dX12_end_50 : decode cX12_end 50 = .ok (.iload_n 2, 1) := by decide +kernel
theorem dX12_end_51 : decode cX12_end 51 = .ok (.baload, 1) := by decide +kernel
theorem dX12_end_52 : decode cX12_end 52 = .ok (.bastore, 1) := by decide +kernel
theorem dX12_end_53 : decode cX12_end 53 = .ok (.iinc 2 1, 3) := by decide +kernel
theorem dX12_end_56 : decode cX12_end 56 = .ok (.goto (-25), 3) := by decide +kernel
theorem dX12_end_59 : decode cX12_end 59 = .ok (.aload_n 0, 1) := by decide +kernel
theorem dX12_end_60 : decode cX12_end 60 = .ok (.dup, 1) := by decide +kernel
theorem dX12_end_61 : decode cX12_end 61 = .ok (.getfield 391, 3) := by decide +kernel
theorem dX12_end_64 : decode cX12_end 64 = .ok (.iload_n 1, 1) := by decide +kernel
theorem dX12_end_65 : decode cX12_end 65 = .ok (.iadd, 1) := by decide +kernel
theorem dX12_end_66 : decode cX12_end 66 = .ok (.putfield 391, 3) := by decide +kernel
theorem dX12_end_69 : decode cX12_end 69 = .ok (.iconst 0, 1) := by decide +kernel
theorem dX12_end_70 : decode cX12_end 70 = .ok (.istore_n 2, 1) := by decide +kernel
theorem dX12_end_71 : decode cX12_end 71 = .ok (.iload_n 2, 1) := by decide +kernel
theorem dX12_end_72 : decode cX12_end 72 = .ok (.bipush 20, 2) := by decide +kernel
theorem dX12_end_74 : decode cX12_end 74 = .ok (.if_icmp .ge 16, 3) := by decide +kernel
theorem dX12_end_77 : decode cX12_end 77 = .ok (.aload_n 0, 1) := by decide +kernel
theorem dX12_end_78 : decode cX12_end 78 = .ok (.getfield 13, 3) := by decide +kernel
theorem dX12_end_81 : decode cX12_end 81 = .ok (.iload_n 2, 1) := by decide +kernel
theorem dX12_end_82 : decode cX12_end 82 = .ok (.iconst 0, 1) := by decide +kernel
theorem dX12_end_83 : decode cX12_end 83 = .ok (.bastore, 1) := by decide +kernel
theorem dX12_end_84 : decode cX12_end 84 = .ok (.iinc 2 1, 3) := by decide +kernel
theorem dX12_end_87 : decode cX12_end 87 = .ok (.goto (-16), 3) := by decide +kernel
theorem dX12_end_90 : decode cX12_end 90 = .ok (.aload_n 0, 1) := by decide +kernel
theorem dX12_end_91 : decode cX12_end 91 = .ok (.getfield 391, 3) := by decide +kernel
theorem dX12_end_94 : decode cX12_end 94 = .ok (.ireturn, 1) := by decide +kernel
theorem dX12_wipe_0 : decode cX12_wipe 0 = .ok (.aload_n 0, 1) := by decide +kernel
theorem dX12_wipe_1 : decode cX12_wipe 1 = .ok (.iconst 0, 1) := by decide +kernel
theorem dX12_wipe_2 : decode cX12_wipe 2 = .ok (.putfield 388, 3) := by decide +kernel
theorem dX12_wipe_5 : decode cX12_wipe 5 = .ok (.aload_n 0, 1) := by decide +kernel
theorem dX12_wipe_6 : decode cX12_wipe 6 = .ok (.iconst 0, 1) := by decide +kernel
theorem dX12_wipe_7 : decode cX12_wipe 7 = .ok (.putfield 391, 3) := by decide +kernel
theorem dX12_wipe_10 : decode cX12_wipe 10 = .ok (.return_, 1) := by decide +kernel
theorem dX12_flip_0 : decode cX12_flip 0 = .ok (.aload_n 0, 1) := by decide +kernel
theorem dX12_flip_1 : decode cX12_flip 1 = .ok (.iconst 0, 1) := by decide +kernel
theorem dX12_flip_2 : decode cX12_flip 2 = .ok (.putfield 388, 3) := by decide +kernel
theorem dX12_flip_5 : decode cX12_flip 5 = .ok (.iload_n 1, 1) := by decide +kernel
theorem dX12_flip_6 : decode cX12_flip 6 = .ok (.ifCond .lt 21, 3) := by decide +kernel
theorem dX12_flip_9 : decode cX12_flip 9 = .ok (.iload_n 1, 1) := by decide +kernel
theorem dX12_flip_10 : decode cX12_flip 10 = .ok (.aload_n 0, 1) := by decide +kernel
theorem dX12_flip_11 : decode cX12_flip 11 = .ok (.getfield 391, 3) := by decide +kernel
theorem dX12_flip_14 : decode cX12_flip 14 = .ok (.if_icmp .ge 13, 3) := by decide +kernel
theorem dX12_flip_27 : decode cX12_flip 27 = .ok (.iconst 0, 1) := by decide +kernel
theorem dX12_flip_28 : decode cX12_flip 28 = .ok (.ireturn, 1) := by decide +kernel
theorem dX12_cut_0 : decode cX12_cut 0 = .ok (.aload_n 0, 1) := by decide +kernel
theorem dX12_cut_1 : decode cX12_cut 1 = .ok (.iconst 0, 1) := by decide +kernel
theorem dX12_cut_2 : decode cX12_cut 2 = .ok (.putfield 388, 3) := by decide +kernel
theorem dX12_cut_5 : decode cX12_cut 5 = .ok (.iload_n 1, 1) := by decide +kernel
theorem dX12_cut_6 : decode cX12_cut 6 = .ok (.ifCond .lt 11, 3) := by decide +kernel
theorem dX12_cut_9 : decode cX12_cut 9 = .ok (.iload_n 1, 1) := by decide +kernel
theorem dX12_cut_10 : decode cX12_cut 10 = .ok (.aload_n 0, 1) := by decide +kernel
theorem dX12_cut_11 : decode cX12_cut 11 = .ok (.getfield 391, 3) := by decide +kernel
theorem dX12_cut_14 : decode cX12_cut 14 = .ok (.if_icmp .le 5, 3) := by decide +kernel
theorem dX12_cut_17 : decode cX12_cut 17 = .ok (.iconst 0, 1) := by decide +kernel
theorem dX12_cut_18 : decode cX12_cut 18 = .ok (.ireturn, 1) := by decide +kernel
theorem dX12_cut_19 : decode cX12_cut 19 = .ok (.aload_n 0, 1) := by decide +kernel
theorem dX12_cut_20 : decode cX12_cut 20 = .ok (.iload_n 1, 1) := by decide +kernel
theorem dX12_cut_21 : decode cX12_cut 21 = .ok (.putfield 391, 3) := by decide +kernel
theorem dX12_cut_24 : decode cX12_cut 24 = .ok (.iconst 1, 1) := by decide +kernel
theorem dX12_cut_25 : decode cX12_cut 25 = .ok (.ireturn, 1) := by decide +kernel
theorem dX12_isDigit_0 : decode cX12_isDigit 0 = .ok (.iload_n 0, 1) := by decide +kernel
theorem dX12_isDigit_1 : decode cX12_isDigit 1 = .ok (.bipush 48, 2) := by decide +kernel
theorem dX12_isDigit_3 : decode cX12_isDigit 3 = .ok (.if_icmp .lt 13, 3) := by decide +kernel
theorem dX12_isDigit_6 : decode cX12_isDigit 6 = .ok (.iload_n 0, 1) := by decide +kernel
theorem dX12_isDigit_7 : decode cX12_isDigit 7 = .ok (.bipush 57, 2) := by decide +kernel
theorem dX12_isDigit_9 : decode cX12_isDigit 9 = .ok (.if_icmp .gt 7, 3) := by decide +kernel
theorem dX12_isDigit_12 : decode cX12_isDigit 12 = .ok (.iconst 1, 1) := by decide +kernel
theorem dX12_isDigit_13 : decode cX12_isDigit 13 = .ok (.goto 4, 3) := by decide +kernel
theorem dX12_isDigit_16 : decode cX12_isDigit 16 = .ok (.iconst 0, 1) := by decide +kernel
theorem dX12_isDigit_17 : decode cX12_isDigit 17 = .ok (.ireturn, 1) := by decide +kernel
theorem dX12_code_0 : decode cX12_code 0 = .ok (.iload_n 0, 1) := by decide +kernel
theorem dX12_code_1 : decode cX12_code 1 = .ok (.invokestatic 394, 3) := by decide +kernel
theorem dX12_code_4 : decode cX12_code 4 = .ok (.ifCond .eq 12, 3) := by decide +kernel
theorem dX12_code_7 : decode cX12_code 7 = .ok (.iload_n 0, 1) := by decide +kernel
theorem dX12_code_8 : decode cX12_code 8 = .ok (.bipush 48, 2) := by decide +kernel
theorem dX12_code_10 : decode cX12_code 10 = .ok (.isub, 1) := by decide +kernel
theorem dX12_code_11 : decode cX12_code 11 = .ok (.iconst 1, 1) := by decide +kernel
theorem dX12_code_12 : decode cX12_code 12 = .ok (.iadd, 1) := by decide +kernel
theorem dX12_code_13 : decode cX12_code 13 = .ok (.goto 26, 3) := by decide +kernel
theorem dX12_code_16 : decode cX12_code 16 = .ok (.iload_n 0, 1) := by decide +kernel
theorem dX12_code_17 : decode cX12_code 17 = .ok (.bipush 90, 2) := by decide +kernel
theorem dX12_code_19 : decode cX12_code 19 = .ok (.if_icmp .gt 13, 3) := by decide +kernel
theorem dX12_code_22 : decode cX12_code 22 = .ok (.iload_n 0, 1) := by decide +kernel
theorem dX12_code_23 : decode cX12_code 23 = .ok (.bipush 65, 2) := by decide +kernel
theorem dX12_code_25 : decode cX12_code 25 = .ok (.isub, 1) := by decide +kernel
theorem dX12_code_26 : decode cX12_code 26 = .ok (.bipush 11, 2) := by decide +kernel
theorem dX12_code_28 : decode cX12_code 28 = .ok (.iadd, 1) := by decide +kernel
theorem dX12_code_29 : decode cX12_code 29 = .ok (.goto 10, 3) := by decide +kernel
theorem dX12_code_32 : decode cX12_code 32 = .ok (.iload_n 0, 1) := by decide +kernel
theorem dX12_code_33 : decode cX12_code 33 = .ok (.bipush 97, 2) := by decide +kernel
theorem dX12_code_35 : decode cX12_code 35 = .ok (.isub, 1) := by decide +kernel
theorem dX12_code_36 : decode cX12_code 36 = .ok (.bipush 37, 2) := by decide +kernel
theorem dX12_code_38 : decode cX12_code 38 = .ok (.iadd, 1) := by decide +kernel
theorem dX12_code_39 : decode cX12_code 39 = .ok (.ireturn, 1) := by decide +kernel
theorem dX12_coded_0 : decode cX12_coded 0 = .ok (.lconst 0, 1) := by decide +kernel
theorem dX12_coded_1 : decode cX12_coded 1 = .ok (.lstore_n 2, 1) := by decide +kernel
theorem dX12_coded_2 : decode cX12_coded 2 = .ok (.bipush 7, 2) := by decide +kernel
theorem dX12_coded_4 : decode cX12_coded 4 = .ok (.istore 4, 2) := by decide +kernel
theorem dX12_coded_6 : decode cX12_coded 6 = .ok (.iload 4, 2) := by decide +kernel
theorem dX12_coded_8 : decode cX12_coded 8 = .ok (.ifCond .lt 45, 3) := by decide +kernel
theorem dX12_coded_11 : decode cX12_coded 11 = .ok (.lload_n 0, 1) := by decide +kernel
theorem dX12_coded_12 : decode cX12_coded 12 = .ok (.bipush 8, 2) := by decide +kernel
theorem dX12_coded_14 : decode cX12_coded 14 = .ok (.iload 4, 2) := by decide +kernel
theorem dX12_coded_16 : decode cX12_coded 16 = .ok (.imul, 1) := by decide +kernel
theorem dX12_coded_17 : decode cX12_coded 17 = .ok (.lshr, 1) := by decide +kernel
theorem dX12_coded_18 : decode cX12_coded 18 = .ok (.ldc2_w 398, 3) := by decide +kernel
theorem dX12_coded_21 : decode cX12_coded 21 = .ok (.land, 1) := by decide +kernel
theorem dX12_coded_22 : decode cX12_coded 22 = .ok (.l2i, 1) := by decide +kernel
theorem dX12_coded_23 : decode cX12_coded 23 = .ok (.istore 5, 2) := by decide +kernel
theorem dX12_coded_25 : decode cX12_coded 25 = .ok (.iload 5, 2) := by decide +kernel
theorem dX12_coded_27 : decode cX12_coded 27 = .ok (.ifCond .ne 7, 3) := by decide +kernel
theorem dX12_coded_30 : decode cX12_coded 30 = .ok (.lload_n 2, 1) := by decide +kernel
theorem dX12_coded_31 : decode cX12_coded 31 = .ok (.goto 15, 3) := by decide +kernel
theorem dX12_coded_34 : decode cX12_coded 34 = .ok (.ldc2_w 400, 3) := by decide +kernel
theorem dX12_coded_37 : decode cX12_coded 37 = .ok (.lload_n 2, 1) := by decide +kernel
theorem dX12_coded_38 : decode cX12_coded 38 = .ok (.lmul, 1) := by decide +kernel
theorem dX12_coded_39 : decode cX12_coded 39 = .ok (.iload 5, 2) := by decide +kernel
theorem dX12_coded_41 : decode cX12_coded 41 = .ok (.invokestatic 402, 3) := by decide +kernel
theorem dX12_coded_44 : decode cX12_coded 44 = .ok (.i2l, 1) := by decide +kernel
theorem dX12_coded_45 : decode cX12_coded 45 = .ok (.ladd, 1) := by decide +kernel
theorem dX12_coded_46 : decode cX12_coded 46 = .ok (.lstore_n 2, 1) := by decide +kernel
theorem dX12_coded_47 : decode cX12_coded 47 = .ok (.iinc 4 (-1), 3) := by decide +kernel
theorem dX12_coded_50 : decode cX12_coded 50 = .ok (.goto (-44), 3) := by decide +kernel
theorem dX12_coded_53 : decode cX12_coded 53 = .ok (.lload_n 2, 1) := by decide +kernel
theorem dX12_coded_54 : decode cX12_coded 54 = .ok (.lreturn, 1) := by decide +kernel
theorem dX12_tapeName_0 : decode cX12_tapeName 0 = .ok (.lconst 0, 1) := by decide +kernel
theorem dX12_tapeName_1 : decode cX12_tapeName 1 = .ok (.lstore_n 1, 1) := by decide +kernel
theorem dX12_tapeName_2 : decode cX12_tapeName 2 = .ok (.aload_n 0, 1) := by decide +kernel
theorem dX12_tapeName_3 : decode cX12_tapeName 3 = .ok (.getfield 391, 3) := by decide +kernel
theorem dX12_tapeName_6 : decode cX12_tapeName 6 = .ok (.ifCond .le 28, 3) := by decide +kernel
theorem dX12_tapeName_34 : decode cX12_tapeName 34 = .ok (.iconst 0, 1) := by decide +kernel
theorem dX12_tapeName_35 : decode cX12_tapeName 35 = .ok (.istore_n 3, 1) := by decide +kernel
theorem dX12_tapeName_36 : decode cX12_tapeName 36 = .ok (.iconst 0, 1) := by decide +kernel
theorem dX12_tapeName_37 : decode cX12_tapeName 37 = .ok (.istore 4, 2) := by decide +kernel
theorem dX12_tapeName_39 : decode cX12_tapeName 39 = .ok (.iload 4, 2) := by decide +kernel
theorem dX12_tapeName_41 : decode cX12_tapeName 41 = .ok (.aload_n 0, 1) := by decide +kernel
theorem dX12_tapeName_42 : decode cX12_tapeName 42 = .ok (.getfield 391, 3) := by decide +kernel
theorem dX12_tapeName_45 : decode cX12_tapeName 45 = .ok (.if_icmp .ge 71, 3) := by decide +kernel
theorem dX12_tapeName_116 : decode cX12_tapeName 116 = .ok (.iload_n 3, 1) := by decide +kernel
theorem dX12_tapeName_117 : decode cX12_tapeName 117 = .ok (.ifCond .eq 16, 3) := by decide +kernel
theorem dX12_tapeName_133 : decode cX12_tapeName 133 = .ok (.lconst 0, 1) := by decide +kernel
theorem dX12_tapeName_134 : decode cX12_tapeName 134 = .ok (.lreturn, 1) := by decide +kernel
theorem dX12_isClass_0 : decode cX12_isClass 0 = .ok (.iload_n 1, 1) := by decide +kernel
theorem dX12_isClass_1 : decode cX12_isClass 1 = .ok (.ifCond .lt 15, 3) := by decide +kernel
theorem dX12_isClass_4 : decode cX12_isClass 4 = .ok (.iload_n 1, 1) := by decide +kernel
theorem dX12_isClass_5 : decode cX12_isClass 5 = .ok (.aload_n 0, 1) := by decide +kernel
theorem dX12_isClass_6 : decode cX12_isClass 6 = .ok (.getfield 413, 3) := by decide +kernel
theorem dX12_isClass_9 : decode cX12_isClass 9 = .ok (.if_icmp .ge 7, 3) := by decide +kernel
theorem dX12_isClass_16 : decode cX12_isClass 16 = .ok (.iconst 0, 1) := by decide +kernel
theorem dX12_isClass_17 : decode cX12_isClass 17 = .ok (.ireturn, 1) := by decide +kernel
theorem dX12_type_0 : decode cX12_type 0 = .ok (.aload_n 0, 1) := by decide +kernel
theorem dX12_type_1 : decode cX12_type 1 = .ok (.iload_n 1, 1) := by decide +kernel
theorem dX12_type_2 : decode cX12_type 2 = .ok (.iconst (-1), 1) := by decide +kernel
theorem dX12_type_3 : decode cX12_type 3 = .ok (.if_icmp .eq 11, 3) := by decide +kernel
theorem dX12_type_6 : decode cX12_type 6 = .ok (.aload_n 0, 1) := by decide +kernel
theorem dX12_type_7 : decode cX12_type 7 = .ok (.iload_n 1, 1) := by decide +kernel
theorem dX12_type_8 : decode cX12_type 8 = .ok (.invokevirtual 416, 3) := by decide +kernel
theorem dX12_type_11 : decode cX12_type 11 = .ok (.ifCond .eq 12, 3) := by decide +kernel
theorem dX12_type_14 : decode cX12_type 14 = .ok (.iload_n 2, 1) := by decide +kernel
theorem dX12_type_15 : decode cX12_type 15 = .ok (.ifCond .lt 8, 3) := by decide +kernel
theorem dX12_type_18 : decode cX12_type 18 = .ok (.iload_n 2, 1) := by decide +kernel
theorem dX12_type_19 : decode cX12_type 19 = .ok (.iconst 3, 1) := by decide +kernel
theorem dX12_type_20 : decode cX12_type 20 = .ok (.if_icmp .le 7, 3) := by decide +kernel
theorem dX12_type_23 : decode cX12_type 23 = .ok (.iconst 1, 1) := by decide +kernel
theorem dX12_type_24 : decode cX12_type 24 = .ok (.goto 4, 3) := by decide +kernel
theorem dX12_type_27 : decode cX12_type 27 = .ok (.iconst 0, 1) := by decide +kernel
theorem dX12_type_28 : decode cX12_type 28 = .ok (.putfield 388, 3) := by decide +kernel
theorem dX12_type_31 : decode cX12_type 31 = .ok (.aload_n 0, 1) := by decide +kernel
theorem dX12_type_32 : decode cX12_type 32 = .ok (.getfield 388, 3) := by decide +kernel
theorem dX12_type_35 : decode cX12_type 35 = .ok (.ifCond .le 5, 3) := by decide +kernel
theorem dX12_type_38 : decode cX12_type 38 = .ok (.iconst 0, 1) := by decide +kernel
theorem dX12_type_39 : decode cX12_type 39 = .ok (.ireturn, 1) := by decide +kernel
theorem dX12_type_40 : decode cX12_type 40 = .ok (.aload_n 0, 1) := by decide +kernel
theorem dX12_type_41 : decode cX12_type 41 = .ok (.invokevirtual 419, 3) := by decide +kernel
theorem dX12_type_44 : decode cX12_type 44 = .ok (.lstore_n 3, 1) := by decide +kernel
theorem dX12_type_45 : decode cX12_type 45 = .ok (.aload_n 0, 1) := by decide +kernel
theorem dX12_type_46 : decode cX12_type 46 = .ok (.lload_n 3, 1) := by decide +kernel
theorem dX12_type_47 : decode cX12_type 47 = .ok (.lconst 0, 1) := by decide +kernel
theorem dX12_type_48 : decode cX12_type 48 = .ok (.lcmp, 1) := by decide +kernel
theorem dX12_type_49 : decode cX12_type 49 = .ok (.ifCond .ne 7, 3) := by decide +kernel
theorem dX12_type_52 : decode cX12_type 52 = .ok (.iconst 2, 1) := by decide +kernel
theorem dX12_type_53 : decode cX12_type 53 = .ok (.goto 4, 3) := by decide +kernel
theorem dX12_type_57 : decode cX12_type 57 = .ok (.putfield 388, 3) := by decide +kernel
theorem dX12_type_60 : decode cX12_type 60 = .ok (.aload_n 0, 1) := by decide +kernel
theorem dX12_type_61 : decode cX12_type 61 = .ok (.getfield 388, 3) := by decide +kernel
theorem dX12_type_64 : decode cX12_type 64 = .ok (.ifCond .le 5, 3) := by decide +kernel
theorem dX12_type_67 : decode cX12_type 67 = .ok (.iconst 0, 1) := by decide +kernel
theorem dX12_type_68 : decode cX12_type 68 = .ok (.ireturn, 1) := by decide +kernel
theorem dX12_field_0 : decode cX12_field 0 = .ok (.aload_n 0, 1) := by decide +kernel
theorem dX12_field_1 : decode cX12_field 1 = .ok (.aload_n 0, 1) := by decide +kernel
theorem dX12_field_2 : decode cX12_field 2 = .ok (.iload_n 1, 1) := by decide +kernel
theorem dX12_field_3 : decode cX12_field 3 = .ok (.invokevirtual 416, 3) := by decide +kernel
theorem dX12_field_6 : decode cX12_field 6 = .ok (.ifCond .eq 7, 3) := by decide +kernel
theorem dX12_field_13 : decode cX12_field 13 = .ok (.iconst 1, 1) := by decide +kernel
theorem dX12_field_14 : decode cX12_field 14 = .ok (.putfield 388, 3) := by decide +kernel
theorem dX12_field_17 : decode cX12_field 17 = .ok (.aload_n 0, 1) := by decide +kernel
theorem dX12_field_18 : decode cX12_field 18 = .ok (.getfield 388, 3) := by decide +kernel
theorem dX12_field_21 : decode cX12_field 21 = .ok (.ifCond .le 5, 3) := by decide +kernel
theorem dX12_field_24 : decode cX12_field 24 = .ok (.iconst 0, 1) := by decide +kernel
theorem dX12_field_25 : decode cX12_field 25 = .ok (.ireturn, 1) := by decide +kernel
theorem dX12_typeLook_0 : decode cX12_typeLook 0 = .ok (.aload_n 0, 1) := by decide +kernel
theorem dX12_typeLook_1 : decode cX12_typeLook 1 = .ok (.iconst 0, 1) := by decide +kernel
theorem dX12_typeLook_2 : decode cX12_typeLook 2 = .ok (.putfield 388, 3) := by decide +kernel
theorem dX12_typeLook_5 : decode cX12_typeLook 5 = .ok (.aload_n 0, 1) := by decide +kernel
theorem dX12_typeLook_6 : decode cX12_typeLook 6 = .ok (.iload_n 1, 1) := by decide +kernel
theorem dX12_typeLook_7 : decode cX12_typeLook 7 = .ok (.invokevirtual 416, 3) := by decide +kernel
theorem dX12_typeLook_10 : decode cX12_typeLook 10 = .ok (.ifCond .ne 5, 3) := by decide +kernel
theorem dX12_typeLook_13 : decode cX12_typeLook 13 = .ok (.iconst (-1), 1) := by decide +kernel
theorem dX12_typeLook_14 : decode cX12_typeLook 14 = .ok (.ireturn, 1) := by decide +kernel
theorem dX12_fieldLook_0 : decode cX12_fieldLook 0 = .ok (.aload_n 0, 1) := by decide +kernel
theorem dX12_fieldLook_1 : decode cX12_fieldLook 1 = .ok (.iconst 0, 1) := by decide +kernel
theorem dX12_fieldLook_2 : decode cX12_fieldLook 2 = .ok (.putfield 388, 3) := by decide +kernel
theorem dX12_fieldLook_5 : decode cX12_fieldLook 5 = .ok (.aload_n 0, 1) := by decide +kernel
theorem dX12_fieldLook_6 : decode cX12_fieldLook 6 = .ok (.iload_n 1, 1) := by decide +kernel
theorem dX12_fieldLook_7 : decode cX12_fieldLook 7 = .ok (.invokevirtual 416, 3) := by decide +kernel
theorem dX12_fieldLook_10 : decode cX12_fieldLook 10 = .ok (.ifCond .eq 17, 3) := by decide +kernel
theorem dX12_fieldLook_27 : decode cX12_fieldLook 27 = .ok (.iconst (-1), 1) := by decide +kernel
theorem dX12_fieldLook_28 : decode cX12_fieldLook 28 = .ok (.ireturn, 1) := by decide +kernel
theorem dX12_isArrayType_0 : decode cX12_isArrayType 0 = .ok (.iload_n 1, 1) := by decide +kernel
theorem dX12_isArrayType_1 : decode cX12_isArrayType 1 = .ok (.bipush 20, 2) := by decide +kernel
theorem dX12_isArrayType_3 : decode cX12_isArrayType 3 = .ok (.if_icmp .lt 9, 3) := by decide +kernel
theorem dX12_isArrayType_6 : decode cX12_isArrayType 6 = .ok (.iload_n 1, 1) := by decide +kernel
theorem dX12_isArrayType_7 : decode cX12_isArrayType 7 = .ok (.bipush 24, 2) := by decide +kernel
theorem dX12_isArrayType_9 : decode cX12_isArrayType 9 = .ok (.if_icmp .le 26, 3) := by decide +kernel
theorem dX12_isArrayType_12 : decode cX12_isArrayType 12 = .ok (.iload_n 1, 1) := by decide +kernel
theorem dX12_isArrayType_13 : decode cX12_isArrayType 13 = .ok (.bipush 29, 2) := by decide +kernel
theorem dX12_isArrayType_15 : decode cX12_isArrayType 15 = .ok (.if_icmp .eq 20, 3) := by decide +kernel
theorem dX12_isArrayType_18 : decode cX12_isArrayType 18 = .ok (.iload_n 1, 1) := by decide +kernel
theorem dX12_isArrayType_19 : decode cX12_isArrayType 19 = .ok (.bipush 30, 2) := by decide +kernel
theorem dX12_isArrayType_21 : decode cX12_isArrayType 21 = .ok (.if_icmp .lt 18, 3) := by decide +kernel
theorem dX12_isArrayType_24 : decode cX12_isArrayType 24 = .ok (.aload_n 0, 1) := by decide +kernel
theorem dX12_isArrayType_25 : decode cX12_isArrayType 25 = .ok (.iload_n 1, 1) := by decide +kernel
theorem dX12_isArrayType_26 : decode cX12_isArrayType 26 = .ok (.bipush 30, 2) := by decide +kernel
theorem dX12_isArrayType_28 : decode cX12_isArrayType 28 = .ok (.isub, 1) := by decide +kernel
theorem dX12_isArrayType_29 : decode cX12_isArrayType 29 = .ok (.invokevirtual 416, 3) := by decide +kernel
theorem dX12_isArrayType_32 : decode cX12_isArrayType 32 = .ok (.ifCond .eq 7, 3) := by decide +kernel
theorem dX12_isArrayType_35 : decode cX12_isArrayType 35 = .ok (.iconst 1, 1) := by decide +kernel
theorem dX12_isArrayType_36 : decode cX12_isArrayType 36 = .ok (.goto 4, 3) := by decide +kernel
theorem dX12_isArrayType_39 : decode cX12_isArrayType 39 = .ok (.iconst 0, 1) := by decide +kernel
theorem dX12_isArrayType_40 : decode cX12_isArrayType 40 = .ok (.ireturn, 1) := by decide +kernel
theorem dX12_slotCount_0 : decode cX12_slotCount 0 = .ok (.aload_n 0, 1) := by decide +kernel
theorem dX12_slotCount_1 : decode cX12_slotCount 1 = .ok (.iload_n 1, 1) := by decide +kernel
theorem dX12_slotCount_2 : decode cX12_slotCount 2 = .ok (.invokevirtual 416, 3) := by decide +kernel
theorem dX12_slotCount_5 : decode cX12_slotCount 5 = .ok (.ifCond .eq 12, 3) := by decide +kernel
theorem dX12_slotCount_17 : decode cX12_slotCount 17 = .ok (.iload_n 2, 1) := by decide +kernel
theorem dX12_slotCount_18 : decode cX12_slotCount 18 = .ok (.ireturn, 1) := by decide +kernel
theorem dX12_isObject_0 : decode cX12_isObject 0 = .ok (.iload_n 1, 1) := by decide +kernel
theorem dX12_isObject_1 : decode cX12_isObject 1 = .ok (.ifCond .lt 24, 3) := by decide +kernel
theorem dX12_isObject_4 : decode cX12_isObject 4 = .ok (.iload_n 1, 1) := by decide +kernel
theorem dX12_isObject_5 : decode cX12_isObject 5 = .ok (.aload_n 0, 1) := by decide +kernel
theorem dX12_isObject_6 : decode cX12_isObject 6 = .ok (.getfield 435, 3) := by decide +kernel
theorem dX12_isObject_9 : decode cX12_isObject 9 = .ok (.if_icmp .ge 16, 3) := by decide +kernel
theorem dX12_isObject_25 : decode cX12_isObject 25 = .ok (.iconst 0, 1) := by decide +kernel
theorem dX12_isObject_26 : decode cX12_isObject 26 = .ok (.ireturn, 1) := by decide +kernel
theorem dX12_kindOf_0 : decode cX12_kindOf 0 = .ok (.aload_n 0, 1) := by decide +kernel
theorem dX12_kindOf_1 : decode cX12_kindOf 1 = .ok (.iload_n 1, 1) := by decide +kernel
theorem dX12_kindOf_2 : decode cX12_kindOf 2 = .ok (.invokevirtual 416, 3) := by decide +kernel
theorem dX12_kindOf_5 : decode cX12_kindOf 5 = .ok (.ifCond .eq 17, 3) := by decide +kernel
theorem dX12_kindOf_22 : decode cX12_kindOf 22 = .ok (.iload_n 1, 1) := by decide +kernel
theorem dX12_kindOf_23 : decode cX12_kindOf 23 = .ok (.bipush 29, 2) := by decide +kernel
theorem dX12_kindOf_25 : decode cX12_kindOf 25 = .ok (.if_icmp .lt 7, 3) := by decide +kernel
theorem dX12_kindOf_28 : decode cX12_kindOf 28 = .ok (.iconst 5, 1) := by decide +kernel
theorem dX12_kindOf_29 : decode cX12_kindOf 29 = .ok (.goto 7, 3) := by decide +kernel
theorem dX12_kindOf_32 : decode cX12_kindOf 32 = .ok (.iload_n 1, 1) := by decide +kernel
theorem dX12_kindOf_33 : decode cX12_kindOf 33 = .ok (.bipush 20, 2) := by decide +kernel
theorem dX12_kindOf_35 : decode cX12_kindOf 35 = .ok (.isub, 1) := by decide +kernel
theorem dX12_kindOf_36 : decode cX12_kindOf 36 = .ok (.ireturn, 1) := by decide +kernel
theorem dX12_add_0 : decode cX12_add 0 = .ok (.aload_n 0, 1) := by decide +kernel
theorem dX12_add_1 : decode cX12_add 1 = .ok (.getfield 435, 3) := by decide +kernel
theorem dX12_add_4 : decode cX12_add 4 = .ok (.istore_n 3, 1) := by decide +kernel
theorem dX12_add_5 : decode cX12_add 5 = .ok (.aload_n 0, 1) := by decide +kernel
theorem dX12_add_6 : decode cX12_add 6 = .ok (.dup, 1) := by decide +kernel
theorem dX12_add_7 : decode cX12_add 7 = .ok (.getfield 435, 3) := by decide +kernel
theorem dX12_add_10 : decode cX12_add 10 = .ok (.iconst 1, 1) := by decide +kernel
theorem dX12_add_11 : decode cX12_add 11 = .ok (.iadd, 1) := by decide +kernel
theorem dX12_add_12 : decode cX12_add 12 = .ok (.putfield 435, 3) := by decide +kernel
theorem dX12_add_15 : decode cX12_add 15 = .ok (.aload_n 0, 1) := by decide +kernel
theorem dX12_add_16 : decode cX12_add 16 = .ok (.getfield 125, 3) := by decide +kernel
theorem dX12_add_19 : decode cX12_add 19 = .ok (.iload_n 3, 1) := by decide +kernel
theorem dX12_add_20 : decode cX12_add 20 = .ok (.iload_n 1, 1) := by decide +kernel
theorem dX12_add_21 : decode cX12_add 21 = .ok (.iastore, 1) := by decide +kernel
theorem dX12_add_22 : decode cX12_add 22 = .ok (.aload_n 0, 1) := by decide +kernel
theorem dX12_add_23 : decode cX12_add 23 = .ok (.getfield 128, 3) := by decide +kernel
theorem dX12_add_26 : decode cX12_add 26 = .ok (.iload_n 3, 1) := by decide +kernel
theorem dX12_add_27 : decode cX12_add 27 = .ok (.aload_n 0, 1) := by decide +kernel
theorem dX12_add_28 : decode cX12_add 28 = .ok (.iload_n 1, 1) := by decide +kernel
theorem dX12_add_29 : decode cX12_add 29 = .ok (.invokevirtual 416, 3) := by decide +kernel
theorem dX12_add_32 : decode cX12_add 32 = .ok (.ifCond .eq 7, 3) := by decide +kernel
theorem dX12_add_39 : decode cX12_add 39 = .ok (.iload_n 2, 1) := by decide +kernel
theorem dX12_add_40 : decode cX12_add 40 = .ok (.iastore, 1) := by decide +kernel
theorem dX12_add_41 : decode cX12_add 41 = .ok (.aload_n 0, 1) := by decide +kernel
theorem dX12_add_42 : decode cX12_add 42 = .ok (.getfield 131, 3) := by decide +kernel
theorem dX12_add_45 : decode cX12_add 45 = .ok (.iload_n 3, 1) := by decide +kernel
theorem dX12_add_46 : decode cX12_add 46 = .ok (.aload_n 0, 1) := by decide +kernel
theorem dX12_add_47 : decode cX12_add 47 = .ok (.getfield 452, 3) := by decide +kernel
theorem dX12_add_50 : decode cX12_add 50 = .ok (.iastore, 1) := by decide +kernel
theorem dX12_add_51 : decode cX12_add 51 = .ok (.aload_n 0, 1) := by decide +kernel
theorem dX12_add_52 : decode cX12_add 52 = .ok (.getfield 134, 3) := by decide +kernel
theorem dX12_add_55 : decode cX12_add 55 = .ok (.iload_n 3, 1) := by decide +kernel
theorem dX12_add_56 : decode cX12_add 56 = .ok (.iconst 1, 1) := by decide +kernel
theorem dX12_add_57 : decode cX12_add 57 = .ok (.bastore, 1) := by decide +kernel
theorem dX12_add_58 : decode cX12_add 58 = .ok (.aload_n 0, 1) := by decide +kernel
theorem dX12_add_59 : decode cX12_add 59 = .ok (.iload_n 1, 1) := by decide +kernel
theorem dX12_add_60 : decode cX12_add 60 = .ok (.iload_n 2, 1) := by decide +kernel
theorem dX12_add_61 : decode cX12_add 61 = .ok (.invokevirtual 455, 3) := by decide +kernel
theorem dX12_add_64 : decode cX12_add 64 = .ok (.istore 4, 2) := by decide +kernel
theorem dX12_add_66 : decode cX12_add 66 = .ok (.iconst 0, 1) := by decide +kernel
theorem dX12_add_67 : decode cX12_add 67 = .ok (.istore 5, 2) := by decide +kernel
theorem dX12_add_69 : decode cX12_add 69 = .ok (.iload 5, 2) := by decide +kernel
theorem dX12_add_71 : decode cX12_add 71 = .ok (.iload 4, 2) := by decide +kernel
theorem dX12_add_73 : decode cX12_add 73 = .ok (.if_icmp .ge 39, 3) := by decide +kernel
theorem dX12_add_76 : decode cX12_add 76 = .ok (.aload_n 0, 1) := by decide +kernel
theorem dX12_add_77 : decode cX12_add 77 = .ok (.getfield 138, 3) := by decide +kernel
theorem dX12_add_80 : decode cX12_add 80 = .ok (.aload_n 0, 1) := by decide +kernel
theorem dX12_add_81 : decode cX12_add 81 = .ok (.getfield 452, 3) := by decide +kernel
theorem dX12_add_84 : decode cX12_add 84 = .ok (.iload 5, 2) := by decide +kernel
theorem dX12_add_86 : decode cX12_add 86 = .ok (.iadd, 1) := by decide +kernel
theorem dX12_add_87 : decode cX12_add 87 = .ok (.aload_n 0, 1) := by decide +kernel
theorem dX12_add_88 : decode cX12_add 88 = .ok (.iload_n 1, 1) := by decide +kernel
theorem dX12_add_89 : decode cX12_add 89 = .ok (.iload 5, 2) := by decide +kernel
theorem dX12_add_91 : decode cX12_add 91 = .ok (.invokevirtual 458, 3) := by decide +kernel
theorem dX12_add_94 : decode cX12_add 94 = .ok (.iconst 5, 1) := by decide +kernel
theorem dX12_add_95 : decode cX12_add 95 = .ok (.if_icmp .ne 9, 3) := by decide +kernel
theorem dX12_add_98 : decode cX12_add 98 = .ok (.ldc2_w 433, 3) := by decide +kernel
theorem dX12_add_101 : decode cX12_add 101 = .ok (.goto 4, 3) := by decide +kernel
theorem dX12_add_104 : decode cX12_add 104 = .ok (.lconst 0, 1) := by decide +kernel
theorem dX12_add_105 : decode cX12_add 105 = .ok (.lastore, 1) := by decide +kernel
theorem dX12_add_106 : decode cX12_add 106 = .ok (.iinc 5 1, 3) := by decide +kernel
theorem dX12_add_109 : decode cX12_add 109 = .ok (.goto (-40), 3) := by decide +kernel
theorem dX12_add_112 : decode cX12_add 112 = .ok (.aload_n 0, 1) := by decide +kernel
theorem dX12_add_113 : decode cX12_add 113 = .ok (.dup, 1) := by decide +kernel
theorem dX12_add_114 : decode cX12_add 114 = .ok (.getfield 452, 3) := by decide +kernel
theorem dX12_add_117 : decode cX12_add 117 = .ok (.iload 4, 2) := by decide +kernel
theorem dX12_add_119 : decode cX12_add 119 = .ok (.iadd, 1) := by decide +kernel
theorem dX12_add_120 : decode cX12_add 120 = .ok (.putfield 452, 3) := by decide +kernel
theorem dX12_add_123 : decode cX12_add 123 = .ok (.aload_n 0, 1) := by decide +kernel
theorem dX12_add_124 : decode cX12_add 124 = .ok (.dup, 1) := by decide +kernel
theorem dX12_add_125 : decode cX12_add 125 = .ok (.getfield 461, 3) := by decide +kernel
theorem dX12_add_128 : decode cX12_add 128 = .ok (.iload 4, 2) := by decide +kernel
theorem dX12_add_130 : decode cX12_add 130 = .ok (.iadd, 1) := by decide +kernel
theorem dX12_add_131 : decode cX12_add 131 = .ok (.putfield 461, 3) := by decide +kernel
theorem dX12_add_134 : decode cX12_add 134 = .ok (.iload_n 3, 1) := by decide +kernel
theorem dX12_add_135 : decode cX12_add 135 = .ok (.ireturn, 1) := by decide +kernel
theorem dX12_make_0 : decode cX12_make 0 = .ok (.aload_n 0, 1) := by decide +kernel
theorem dX12_make_1 : decode cX12_make 1 = .ok (.aload_n 0, 1) := by decide +kernel
theorem dX12_make_2 : decode cX12_make 2 = .ok (.iload_n 1, 1) := by decide +kernel
theorem dX12_make_3 : decode cX12_make 3 = .ok (.invokevirtual 416, 3) := by decide +kernel
theorem dX12_make_6 : decode cX12_make 6 = .ok (.ifCond .ne 25, 3) := by decide +kernel
theorem dX12_make_9 : decode cX12_make 9 = .ok (.aload_n 0, 1) := by decide +kernel
theorem dX12_make_10 : decode cX12_make 10 = .ok (.iload_n 1, 1) := by decide +kernel
theorem dX12_make_11 : decode cX12_make 11 = .ok (.invokevirtual 464, 3) := by decide +kernel
theorem dX12_make_14 : decode cX12_make 14 = .ok (.ifCond .eq 13, 3) := by decide +kernel
theorem dX12_make_17 : decode cX12_make 17 = .ok (.iload_n 2, 1) := by decide +kernel
theorem dX12_make_18 : decode cX12_make 18 = .ok (.ifCond .lt 9, 3) := by decide +kernel
theorem dX12_make_21 : decode cX12_make 21 = .ok (.iload_n 2, 1) := by decide +kernel
theorem dX12_make_22 : decode cX12_make 22 = .ok (.bipush 60, 2) := by decide +kernel
theorem dX12_make_24 : decode cX12_make 24 = .ok (.if_icmp .le 7, 3) := by decide +kernel
theorem dX12_make_27 : decode cX12_make 27 = .ok (.iconst 1, 1) := by decide +kernel
theorem dX12_make_28 : decode cX12_make 28 = .ok (.goto 4, 3) := by decide +kernel
theorem dX12_make_31 : decode cX12_make 31 = .ok (.iconst 0, 1) := by decide +kernel
theorem dX12_make_32 : decode cX12_make 32 = .ok (.putfield 388, 3) := by decide +kernel
theorem dX12_make_35 : decode cX12_make 35 = .ok (.aload_n 0, 1) := by decide +kernel
theorem dX12_make_36 : decode cX12_make 36 = .ok (.getfield 388, 3) := by decide +kernel
theorem dX12_make_39 : decode cX12_make 39 = .ok (.ifCond .le 5, 3) := by decide +kernel
theorem dX12_make_42 : decode cX12_make 42 = .ok (.iconst 0, 1) := by decide +kernel
theorem dX12_make_43 : decode cX12_make 43 = .ok (.ireturn, 1) := by decide +kernel
theorem dX12_make_44 : decode cX12_make 44 = .ok (.aload_n 0, 1) := by decide +kernel
theorem dX12_make_45 : decode cX12_make 45 = .ok (.aload_n 0, 1) := by decide +kernel
theorem dX12_make_46 : decode cX12_make 46 = .ok (.getfield 435, 3) := by decide +kernel
theorem dX12_make_49 : decode cX12_make 49 = .ok (.sipush 400, 3) := by decide +kernel
theorem dX12_make_52 : decode cX12_make 52 = .ok (.if_icmp .eq 20, 3) := by decide +kernel
theorem dX12_make_55 : decode cX12_make 55 = .ok (.aload_n 0, 1) := by decide +kernel
theorem dX12_make_56 : decode cX12_make 56 = .ok (.getfield 461, 3) := by decide +kernel
theorem dX12_make_59 : decode cX12_make 59 = .ok (.aload_n 0, 1) := by decide +kernel
theorem dX12_make_60 : decode cX12_make 60 = .ok (.iload_n 1, 1) := by decide +kernel
theorem dX12_make_61 : decode cX12_make 61 = .ok (.iload_n 2, 1) := by decide +kernel
theorem dX12_make_62 : decode cX12_make 62 = .ok (.invokevirtual 455, 3) := by decide +kernel
theorem dX12_make_65 : decode cX12_make 65 = .ok (.iadd, 1) := by decide +kernel
theorem dX12_make_66 : decode cX12_make 66 = .ok (.sipush 4000, 3) := by decide +kernel
theorem dX12_make_69 : decode cX12_make 69 = .ok (.if_icmp .le 7, 3) := by decide +kernel
theorem dX12_make_76 : decode cX12_make 76 = .ok (.iconst 0, 1) := by decide +kernel
theorem dX12_make_77 : decode cX12_make 77 = .ok (.putfield 388, 3) := by decide +kernel
theorem dX12_make_80 : decode cX12_make 80 = .ok (.aload_n 0, 1) := by decide +kernel
theorem dX12_make_81 : decode cX12_make 81 = .ok (.getfield 388, 3) := by decide +kernel
theorem dX12_make_84 : decode cX12_make 84 = .ok (.ifCond .le 5, 3) := by decide +kernel
theorem dX12_make_89 : decode cX12_make 89 = .ok (.aload_n 0, 1) := by decide +kernel
theorem dX12_make_90 : decode cX12_make 90 = .ok (.iload_n 1, 1) := by decide +kernel
theorem dX12_make_91 : decode cX12_make 91 = .ok (.invokevirtual 416, 3) := by decide +kernel
theorem dX12_make_94 : decode cX12_make 94 = .ok (.ifCond .eq 27, 3) := by decide +kernel
theorem dX12_make_121 : decode cX12_make 121 = .ok (.aload_n 0, 1) := by decide +kernel
theorem dX12_make_122 : decode cX12_make 122 = .ok (.iload_n 1, 1) := by decide +kernel
theorem dX12_make_123 : decode cX12_make 123 = .ok (.iload_n 2, 1) := by decide +kernel
theorem dX12_make_124 : decode cX12_make 124 = .ok (.invokevirtual 467, 3) := by decide +kernel
theorem dX12_make_127 : decode cX12_make 127 = .ok (.ireturn, 1) := by decide +kernel
theorem dX12_root_0 : decode cX12_root 0 = .ok (.aload_n 0, 1) := by decide +kernel
theorem dX12_root_1 : decode cX12_root 1 = .ok (.aload_n 0, 1) := by decide +kernel
theorem dX12_root_2 : decode cX12_root 2 = .ok (.iload_n 1, 1) := by decide +kernel
theorem dX12_root_3 : decode cX12_root 3 = .ok (.invokevirtual 473, 3) := by decide +kernel
theorem dX12_root_6 : decode cX12_root 6 = .ok (.ifCond .eq 7, 3) := by decide +kernel
theorem dX12_root_13 : decode cX12_root 13 = .ok (.iconst 1, 1) := by decide +kernel
theorem dX12_root_14 : decode cX12_root 14 = .ok (.putfield 388, 3) := by decide +kernel
theorem dX12_root_17 : decode cX12_root 17 = .ok (.aload_n 0, 1) := by decide +kernel
theorem dX12_root_18 : decode cX12_root 18 = .ok (.getfield 388, 3) := by decide +kernel
theorem dX12_root_21 : decode cX12_root 21 = .ok (.ifCond .le 4, 3) := by decide +kernel
theorem dX12_root_24 : decode cX12_root 24 = .ok (.return_, 1) := by decide +kernel
theorem dX12_set_0 : decode cX12_set 0 = .ok (.aload_n 0, 1) := by decide +kernel
theorem dX12_set_1 : decode cX12_set 1 = .ok (.aload_n 0, 1) := by decide +kernel
theorem dX12_set_2 : decode cX12_set 2 = .ok (.iload_n 1, 1) := by decide +kernel
theorem dX12_set_3 : decode cX12_set 3 = .ok (.invokevirtual 473, 3) := by decide +kernel
theorem dX12_set_6 : decode cX12_set 6 = .ok (.ifCond .eq 27, 3) := by decide +kernel
theorem dX12_set_33 : decode cX12_set 33 = .ok (.iconst 1, 1) := by decide +kernel
theorem dX12_set_34 : decode cX12_set 34 = .ok (.goto 4, 3) := by decide +kernel
theorem dX12_set_38 : decode cX12_set 38 = .ok (.putfield 388, 3) := by decide +kernel
theorem dX12_set_41 : decode cX12_set 41 = .ok (.aload_n 0, 1) := by decide +kernel
theorem dX12_set_42 : decode cX12_set 42 = .ok (.getfield 388, 3) := by decide +kernel
theorem dX12_set_45 : decode cX12_set 45 = .ok (.ifCond .le 5, 3) := by decide +kernel
theorem dX12_set_48 : decode cX12_set 48 = .ok (.iconst 0, 1) := by decide +kernel
theorem dX12_set_49 : decode cX12_set 49 = .ok (.ireturn, 1) := by decide +kernel
theorem dX12_staticOf_0 : decode cX12_staticOf 0 = .ok (.iconst (-1), 1) := by decide +kernel
theorem dX12_staticOf_1 : decode cX12_staticOf 1 = .ok (.istore_n 3, 1) := by decide +kernel
theorem dX12_staticOf_2 : decode cX12_staticOf 2 = .ok (.iconst 0, 1) := by decide +kernel
theorem dX12_staticOf_3 : decode cX12_staticOf 3 = .ok (.istore 4, 2) := by decide +kernel
theorem dX12_staticOf_5 : decode cX12_staticOf 5 = .ok (.aload_n 0, 1) := by decide +kernel
theorem dX12_staticOf_6 : decode cX12_staticOf 6 = .ok (.iload_n 1, 1) := by decide +kernel
theorem dX12_staticOf_7 : decode cX12_staticOf 7 = .ok (.invokevirtual 416, 3) := by decide +kernel
theorem dX12_staticOf_10 : decode cX12_staticOf 10 = .ok (.ifCond .eq 63, 3) := by decide +kernel
theorem dX12_staticOf_73 : decode cX12_staticOf 73 = .ok (.iload_n 3, 1) := by decide +kernel
theorem dX12_staticOf_74 : decode cX12_staticOf 74 = .ok (.ireturn, 1) := by decide +kernel
theorem dX12_setStatic_0 : decode cX12_setStatic 0 = .ok (.aload_n 0, 1) := by decide +kernel
theorem dX12_setStatic_1 : decode cX12_setStatic 1 = .ok (.iload_n 1, 1) := by decide +kernel
theorem dX12_setStatic_2 : decode cX12_setStatic 2 = .ok (.iload_n 2, 1) := by decide +kernel
theorem dX12_setStatic_3 : decode cX12_setStatic 3 = .ok (.invokevirtual 506, 3) := by decide +kernel
theorem dX12_setStatic_6 : decode cX12_setStatic 6 = .ok (.istore 5, 2) := by decide +kernel
theorem dX12_setStatic_8 : decode cX12_setStatic 8 = .ok (.aload_n 0, 1) := by decide +kernel
theorem dX12_setStatic_9 : decode cX12_setStatic 9 = .ok (.iload 5, 2) := by decide +kernel
theorem dX12_setStatic_11 : decode cX12_setStatic 11 = .ok (.iconst (-1), 1) := by decide +kernel
theorem dX12_setStatic_12 : decode cX12_setStatic 12 = .ok (.if_icmp .ne 7, 3) := by decide +kernel
theorem dX12_setStatic_15 : decode cX12_setStatic 15 = .ok (.iconst 1, 1) := by decide +kernel
theorem dX12_setStatic_16 : decode cX12_setStatic 16 = .ok (.goto 4, 3) := by decide +kernel
theorem dX12_setStatic_20 : decode cX12_setStatic 20 = .ok (.putfield 388, 3) := by decide +kernel
theorem dX12_setStatic_23 : decode cX12_setStatic 23 = .ok (.aload_n 0, 1) := by decide +kernel
theorem dX12_setStatic_24 : decode cX12_setStatic 24 = .ok (.getfield 388, 3) := by decide +kernel
theorem dX12_setStatic_27 : decode cX12_setStatic 27 = .ok (.ifCond .le 5, 3) := by decide +kernel
theorem dX12_setStatic_30 : decode cX12_setStatic 30 = .ok (.iconst 0, 1) := by decide +kernel
theorem dX12_setStatic_31 : decode cX12_setStatic 31 = .ok (.ireturn, 1) := by decide +kernel
theorem dX12_get_0 : decode cX12_get 0 = .ok (.aload_n 0, 1) := by decide +kernel
theorem dX12_get_1 : decode cX12_get 1 = .ok (.aload_n 0, 1) := by decide +kernel
theorem dX12_get_2 : decode cX12_get 2 = .ok (.iload_n 1, 1) := by decide +kernel
theorem dX12_get_3 : decode cX12_get 3 = .ok (.invokevirtual 473, 3) := by decide +kernel
theorem dX12_get_6 : decode cX12_get 6 = .ok (.ifCond .eq 27, 3) := by decide +kernel
theorem dX12_get_33 : decode cX12_get 33 = .ok (.iconst 1, 1) := by decide +kernel
theorem dX12_get_34 : decode cX12_get 34 = .ok (.goto 4, 3) := by decide +kernel
theorem dX12_get_38 : decode cX12_get 38 = .ok (.putfield 388, 3) := by decide +kernel
theorem dX12_get_41 : decode cX12_get 41 = .ok (.aload_n 0, 1) := by decide +kernel
theorem dX12_get_42 : decode cX12_get 42 = .ok (.getfield 388, 3) := by decide +kernel
theorem dX12_get_45 : decode cX12_get 45 = .ok (.ifCond .le 7, 3) := by decide +kernel
theorem dX12_get_48 : decode cX12_get 48 = .ok (.lconst 0, 1) := by decide +kernel
theorem dX12_get_49 : decode cX12_get 49 = .ok (.goto 16, 3) := by decide +kernel
theorem dX12_get_65 : decode cX12_get 65 = .ok (.lreturn, 1) := by decide +kernel
theorem dX12_getStatic_0 : decode cX12_getStatic 0 = .ok (.aload_n 0, 1) := by decide +kernel
theorem dX12_getStatic_1 : decode cX12_getStatic 1 = .ok (.iload_n 1, 1) := by decide +kernel
theorem dX12_getStatic_2 : decode cX12_getStatic 2 = .ok (.iload_n 2, 1) := by decide +kernel
theorem dX12_getStatic_3 : decode cX12_getStatic 3 = .ok (.invokevirtual 506, 3) := by decide +kernel
theorem dX12_getStatic_6 : decode cX12_getStatic 6 = .ok (.istore_n 3, 1) := by decide +kernel
theorem dX12_getStatic_7 : decode cX12_getStatic 7 = .ok (.aload_n 0, 1) := by decide +kernel
theorem dX12_getStatic_8 : decode cX12_getStatic 8 = .ok (.iload_n 3, 1) := by decide +kernel
theorem dX12_getStatic_9 : decode cX12_getStatic 9 = .ok (.iconst (-1), 1) := by decide +kernel
theorem dX12_getStatic_10 : decode cX12_getStatic 10 = .ok (.if_icmp .ne 7, 3) := by decide +kernel
theorem dX12_getStatic_13 : decode cX12_getStatic 13 = .ok (.iconst 1, 1) := by decide +kernel
theorem dX12_getStatic_14 : decode cX12_getStatic 14 = .ok (.goto 4, 3) := by decide +kernel
theorem dX12_getStatic_18 : decode cX12_getStatic 18 = .ok (.putfield 388, 3) := by decide +kernel
theorem dX12_getStatic_21 : decode cX12_getStatic 21 = .ok (.aload_n 0, 1) := by decide +kernel
theorem dX12_getStatic_22 : decode cX12_getStatic 22 = .ok (.getfield 388, 3) := by decide +kernel
theorem dX12_getStatic_25 : decode cX12_getStatic 25 = .ok (.ifCond .le 7, 3) := by decide +kernel
theorem dX12_getStatic_28 : decode cX12_getStatic 28 = .ok (.lconst 0, 1) := by decide +kernel
theorem dX12_getStatic_29 : decode cX12_getStatic 29 = .ok (.goto 9, 3) := by decide +kernel
theorem dX12_getStatic_38 : decode cX12_getStatic 38 = .ok (.lreturn, 1) := by decide +kernel
theorem dX12_object_0 : decode cX12_object 0 = .ok (.aload_n 0, 1) := by decide +kernel
theorem dX12_object_1 : decode cX12_object 1 = .ok (.iconst 0, 1) := by decide +kernel
theorem dX12_object_2 : decode cX12_object 2 = .ok (.putfield 388, 3) := by decide +kernel
theorem dX12_object_5 : decode cX12_object 5 = .ok (.aload_n 0, 1) := by decide +kernel
theorem dX12_object_6 : decode cX12_object 6 = .ok (.iload_n 1, 1) := by decide +kernel
theorem dX12_object_7 : decode cX12_object 7 = .ok (.invokevirtual 473, 3) := by decide +kernel
theorem dX12_object_10 : decode cX12_object 10 = .ok (.ifCond .ne 5, 3) := by decide +kernel
theorem dX12_object_13 : decode cX12_object 13 = .ok (.iconst (-1), 1) := by decide +kernel
theorem dX12_object_14 : decode cX12_object 14 = .ok (.ireturn, 1) := by decide +kernel
theorem dX12_undo_0 : decode cX12_undo 0 = .ok (.aload_n 0, 1) := by decide +kernel
theorem dX12_undo_1 : decode cX12_undo 1 = .ok (.iconst 0, 1) := by decide +kernel
theorem dX12_undo_2 : decode cX12_undo 2 = .ok (.putfield 388, 3) := by decide +kernel
theorem dX12_undo_5 : decode cX12_undo 5 = .ok (.aload_n 0, 1) := by decide +kernel
theorem dX12_undo_6 : decode cX12_undo 6 = .ok (.getfield 479, 3) := by decide +kernel
theorem dX12_undo_9 : decode cX12_undo 9 = .ok (.ifCond .ne 5, 3) := by decide +kernel
theorem dX12_undo_12 : decode cX12_undo 12 = .ok (.iconst (-1), 1) := by decide +kernel
theorem dX12_undo_13 : decode cX12_undo 13 = .ok (.ireturn, 1) := by decide +kernel
theorem dX12_watch_0 : decode cX12_watch 0 = .ok (.aload_n 0, 1) := by decide +kernel
theorem dX12_watch_1 : decode cX12_watch 1 = .ok (.aload_n 0, 1) := by decide +kernel
theorem dX12_watch_2 : decode cX12_watch 2 = .ok (.iload_n 1, 1) := by decide +kernel
theorem dX12_watch_3 : decode cX12_watch 3 = .ok (.invokevirtual 416, 3) := by decide +kernel
theorem dX12_watch_6 : decode cX12_watch 6 = .ok (.ifCond .eq 17, 3) := by decide +kernel
theorem dX12_watch_23 : decode cX12_watch 23 = .ok (.iconst 1, 1) := by decide +kernel
theorem dX12_watch_24 : decode cX12_watch 24 = .ok (.goto 30, 3) := by decide +kernel
theorem dX12_watch_54 : decode cX12_watch 54 = .ok (.putfield 388, 3) := by decide +kernel
theorem dX12_watch_57 : decode cX12_watch 57 = .ok (.aload_n 0, 1) := by decide +kernel
theorem dX12_watch_58 : decode cX12_watch 58 = .ok (.getfield 388, 3) := by decide +kernel
theorem dX12_watch_61 : decode cX12_watch 61 = .ok (.ifCond .le 5, 3) := by decide +kernel
theorem dX12_watch_64 : decode cX12_watch 64 = .ok (.iconst 0, 1) := by decide +kernel
theorem dX12_watch_65 : decode cX12_watch 65 = .ok (.ireturn, 1) := by decide +kernel
theorem dX12_rows_0 : decode cX12_rows 0 = .ok (.aload_n 0, 1) := by decide +kernel
theorem dX12_rows_1 : decode cX12_rows 1 = .ok (.iconst 0, 1) := by decide +kernel
theorem dX12_rows_2 : decode cX12_rows 2 = .ok (.putfield 388, 3) := by decide +kernel
theorem dX12_rows_5 : decode cX12_rows 5 = .ok (.iload_n 1, 1) := by decide +kernel
theorem dX12_rows_6 : decode cX12_rows 6 = .ok (.ifCond .lt 20, 3) := by decide +kernel
theorem dX12_rows_9 : decode cX12_rows 9 = .ok (.iload_n 1, 1) := by decide +kernel
theorem dX12_rows_10 : decode cX12_rows 10 = .ok (.aload_n 0, 1) := by decide +kernel
theorem dX12_rows_11 : decode cX12_rows 11 = .ok (.getfield 485, 3) := by decide +kernel
theorem dX12_rows_14 : decode cX12_rows 14 = .ok (.if_icmp .ge 12, 3) := by decide +kernel
theorem dX12_rows_26 : decode cX12_rows 26 = .ok (.iconst (-1), 1) := by decide +kernel
theorem dX12_rows_27 : decode cX12_rows 27 = .ok (.ireturn, 1) := by decide +kernel
theorem dX12_row_0 : decode cX12_row 0 = .ok (.aload_n 0, 1) := by decide +kernel
theorem dX12_row_1 : decode cX12_row 1 = .ok (.iload_n 1, 1) := by decide +kernel
theorem dX12_row_2 : decode cX12_row 2 = .ok (.ifCond .lt 34, 3) := by decide +kernel
theorem dX12_row_5 : decode cX12_row 5 = .ok (.iload_n 1, 1) := by decide +kernel
theorem dX12_row_6 : decode cX12_row 6 = .ok (.aload_n 0, 1) := by decide +kernel
theorem dX12_row_7 : decode cX12_row 7 = .ok (.getfield 485, 3) := by decide +kernel
theorem dX12_row_10 : decode cX12_row 10 = .ok (.if_icmp .ge 26, 3) := by decide +kernel
theorem dX12_row_36 : decode cX12_row 36 = .ok (.iconst 1, 1) := by decide +kernel
theorem dX12_row_37 : decode cX12_row 37 = .ok (.goto 4, 3) := by decide +kernel
theorem dX12_row_41 : decode cX12_row 41 = .ok (.putfield 388, 3) := by decide +kernel
theorem dX12_row_44 : decode cX12_row 44 = .ok (.aload_n 0, 1) := by decide +kernel
theorem dX12_row_45 : decode cX12_row 45 = .ok (.getfield 388, 3) := by decide +kernel
theorem dX12_row_48 : decode cX12_row 48 = .ok (.ifCond .le 5, 3) := by decide +kernel
theorem dX12_row_51 : decode cX12_row 51 = .ok (.lconst 0, 1) := by decide +kernel
theorem dX12_row_52 : decode cX12_row 52 = .ok (.lreturn, 1) := by decide +kernel
theorem dX12_swap_0 : decode cX12_swap 0 = .ok (.aload_n 0, 1) := by decide +kernel
theorem dX12_swap_1 : decode cX12_swap 1 = .ok (.aload_n 0, 1) := by decide +kernel
theorem dX12_swap_2 : decode cX12_swap 2 = .ok (.iload_n 1, 1) := by decide +kernel
theorem dX12_swap_3 : decode cX12_swap 3 = .ok (.invokevirtual 473, 3) := by decide +kernel
theorem dX12_swap_6 : decode cX12_swap 6 = .ok (.ifCond .eq 11, 3) := by decide +kernel
theorem dX12_swap_17 : decode cX12_swap 17 = .ok (.iconst 1, 1) := by decide +kernel
theorem dX12_swap_18 : decode cX12_swap 18 = .ok (.goto 13, 3) := by decide +kernel
theorem dX12_swap_31 : decode cX12_swap 31 = .ok (.putfield 388, 3) := by decide +kernel
theorem dX12_swap_34 : decode cX12_swap 34 = .ok (.aload_n 0, 1) := by decide +kernel
theorem dX12_swap_35 : decode cX12_swap 35 = .ok (.getfield 388, 3) := by decide +kernel
theorem dX12_swap_38 : decode cX12_swap 38 = .ok (.ifCond .le 5, 3) := by decide +kernel
theorem dX12_swap_41 : decode cX12_swap 41 = .ok (.iconst 0, 1) := by decide +kernel
theorem dX12_swap_42 : decode cX12_swap 42 = .ok (.ireturn, 1) := by decide +kernel
theorem dX12_beginWalk_0 : decode cX12_beginWalk 0 = .ok (.aload_n 0, 1) := by decide +kernel
theorem dX12_beginWalk_1 : decode cX12_beginWalk 1 = .ok (.iconst 0, 1) := by decide +kernel
theorem dX12_beginWalk_2 : decode cX12_beginWalk 2 = .ok (.putfield 522, 3) := by decide +kernel
theorem dX12_beginWalk_5 : decode cX12_beginWalk 5 = .ok (.iconst 0, 1) := by decide +kernel
theorem dX12_beginWalk_6 : decode cX12_beginWalk 6 = .ok (.istore_n 1, 1) := by decide +kernel
theorem dX12_beginWalk_7 : decode cX12_beginWalk 7 = .ok (.iload_n 1, 1) := by decide +kernel
theorem dX12_beginWalk_8 : decode cX12_beginWalk 8 = .ok (.sipush 400, 3) := by decide +kernel
theorem dX12_beginWalk_11 : decode cX12_beginWalk 11 = .ok (.if_icmp .ge 16, 3) := by decide +kernel
theorem dX12_beginWalk_14 : decode cX12_beginWalk 14 = .ok (.aload_n 0, 1) := by decide +kernel
theorem dX12_beginWalk_15 : decode cX12_beginWalk 15 = .ok (.getfield 180, 3) := by decide +kernel
theorem dX12_beginWalk_18 : decode cX12_beginWalk 18 = .ok (.iload_n 1, 1) := by decide +kernel
theorem dX12_beginWalk_19 : decode cX12_beginWalk 19 = .ok (.iconst (-1), 1) := by decide +kernel
theorem dX12_beginWalk_20 : decode cX12_beginWalk 20 = .ok (.iastore, 1) := by decide +kernel
theorem dX12_beginWalk_21 : decode cX12_beginWalk 21 = .ok (.iinc 1 1, 3) := by decide +kernel
theorem dX12_beginWalk_24 : decode cX12_beginWalk 24 = .ok (.goto (-17), 3) := by decide +kernel
theorem dX12_beginWalk_27 : decode cX12_beginWalk 27 = .ok (.return_, 1) := by decide +kernel
theorem dX12_apart_0 : decode cX12_apart 0 = .ok (.aload_n 0, 1) := by decide +kernel
theorem dX12_apart_1 : decode cX12_apart 1 = .ok (.iconst 0, 1) := by decide +kernel
theorem dX12_apart_2 : decode cX12_apart 2 = .ok (.putfield 388, 3) := by decide +kernel
theorem dX12_apart_5 : decode cX12_apart 5 = .ok (.aload_n 0, 1) := by decide +kernel
theorem dX12_apart_6 : decode cX12_apart 6 = .ok (.iload_n 1, 1) := by decide +kernel
theorem dX12_apart_7 : decode cX12_apart 7 = .ok (.invokevirtual 416, 3) := by decide +kernel
theorem dX12_apart_10 : decode cX12_apart 10 = .ok (.ifCond .ne 5, 3) := by decide +kernel
theorem dX12_apart_13 : decode cX12_apart 13 = .ok (.iconst 0, 1) := by decide +kernel
theorem dX12_apart_14 : decode cX12_apart 14 = .ok (.ireturn, 1) := by decide +kernel
theorem dX12_copy_0 : decode cX12_copy 0 = .ok (.aload_n 0, 1) := by decide +kernel
theorem dX12_copy_1 : decode cX12_copy 1 = .ok (.aload_n 0, 1) := by decide +kernel
theorem dX12_copy_2 : decode cX12_copy 2 = .ok (.iload_n 1, 1) := by decide +kernel
theorem dX12_copy_3 : decode cX12_copy 3 = .ok (.invokevirtual 473, 3) := by decide +kernel
theorem dX12_copy_6 : decode cX12_copy 6 = .ok (.ifCond .ne 7, 3) := by decide +kernel
theorem dX12_copy_9 : decode cX12_copy 9 = .ok (.iconst 1, 1) := by decide +kernel
theorem dX12_copy_10 : decode cX12_copy 10 = .ok (.goto 17, 3) := by decide +kernel
theorem dX12_copy_27 : decode cX12_copy 27 = .ok (.putfield 388, 3) := by decide +kernel
theorem dX12_copy_30 : decode cX12_copy 30 = .ok (.aload_n 0, 1) := by decide +kernel
theorem dX12_copy_31 : decode cX12_copy 31 = .ok (.getfield 388, 3) := by decide +kernel
theorem dX12_copy_34 : decode cX12_copy 34 = .ok (.ifCond .le 5, 3) := by decide +kernel
theorem dX12_copy_37 : decode cX12_copy 37 = .ok (.iconst 0, 1) := by decide +kernel
theorem dX12_copy_38 : decode cX12_copy 38 = .ok (.ireturn, 1) := by decide +kernel
theorem dX12_walkRoots_0 : decode cX12_walkRoots 0 = .ok (.aload_n 0, 1) := by decide +kernel
theorem dX12_walkRoots_1 : decode cX12_walkRoots 1 = .ok (.invokevirtual 532, 3) := by decide +kernel
theorem dX12_walkRoots_4 : decode cX12_walkRoots 4 = .ok (.iconst 0, 1) := by decide +kernel
theorem dX12_walkRoots_5 : decode cX12_walkRoots 5 = .ok (.istore_n 1, 1) := by decide +kernel
theorem dX12_walkRoots_6 : decode cX12_walkRoots 6 = .ok (.iload_n 1, 1) := by decide +kernel
theorem dX12_walkRoots_7 : decode cX12_walkRoots 7 = .ok (.aload_n 0, 1) := by decide +kernel
theorem dX12_walkRoots_8 : decode cX12_walkRoots 8 = .ok (.getfield 470, 3) := by decide +kernel
theorem dX12_walkRoots_11 : decode cX12_walkRoots 11 = .ok (.if_icmp .ge 20, 3) := by decide +kernel
theorem dX12_walkRoots_31 : decode cX12_walkRoots 31 = .ok (.iconst 0, 1) := by decide +kernel
theorem dX12_walkRoots_32 : decode cX12_walkRoots 32 = .ok (.istore_n 1, 1) := by decide +kernel
theorem dX12_walkRoots_33 : decode cX12_walkRoots 33 = .ok (.iload_n 1, 1) := by decide +kernel
theorem dX12_walkRoots_34 : decode cX12_walkRoots 34 = .ok (.bipush 6, 2) := by decide +kernel
theorem dX12_walkRoots_36 : decode cX12_walkRoots 36 = .ok (.aload_n 0, 1) := by decide +kernel
theorem dX12_walkRoots_37 : decode cX12_walkRoots 37 = .ok (.getfield 413, 3) := by decide +kernel
theorem dX12_walkRoots_40 : decode cX12_walkRoots 40 = .ok (.imul, 1) := by decide +kernel
theorem dX12_walkRoots_41 : decode cX12_walkRoots 41 = .ok (.if_icmp .ge 27, 3) := by decide +kernel
theorem dX12_walkRoots_68 : decode cX12_walkRoots 68 = .ok (.iconst 0, 1) := by decide +kernel
theorem dX12_walkRoots_69 : decode cX12_walkRoots 69 = .ok (.istore_n 1, 1) := by decide +kernel
theorem dX12_walkRoots_70 : decode cX12_walkRoots 70 = .ok (.iload_n 1, 1) := by decide +kernel
theorem dX12_walkRoots_71 : decode cX12_walkRoots 71 = .ok (.aload_n 0, 1) := by decide +kernel
theorem dX12_walkRoots_72 : decode cX12_walkRoots 72 = .ok (.getfield 522, 3) := by decide +kernel
theorem dX12_walkRoots_75 : decode cX12_walkRoots 75 = .ok (.if_icmp .ge 20, 3) := by decide +kernel
theorem dX12_walkRoots_95 : decode cX12_walkRoots 95 = .ok (.return_, 1) := by decide +kernel
theorem dX12_collect_0 : decode cX12_collect 0 = .ok (.aload_n 0, 1) := by decide +kernel
theorem dX12_collect_1 : decode cX12_collect 1 = .ok (.iconst 0, 1) := by decide +kernel
theorem dX12_collect_2 : decode cX12_collect 2 = .ok (.putfield 388, 3) := by decide +kernel
theorem dX12_collect_5 : decode cX12_collect 5 = .ok (.aload_n 0, 1) := by decide +kernel
theorem dX12_collect_6 : decode cX12_collect 6 = .ok (.invokevirtual 539, 3) := by decide +kernel
theorem dX12_collect_9 : decode cX12_collect 9 = .ok (.iconst 0, 1) := by decide +kernel
theorem dX12_collect_10 : decode cX12_collect 10 = .ok (.istore_n 1, 1) := by decide +kernel
theorem dX12_collect_11 : decode cX12_collect 11 = .ok (.iconst 0, 1) := by decide +kernel
theorem dX12_collect_12 : decode cX12_collect 12 = .ok (.istore_n 2, 1) := by decide +kernel
theorem dX12_collect_13 : decode cX12_collect 13 = .ok (.iload_n 2, 1) := by decide +kernel
theorem dX12_collect_14 : decode cX12_collect 14 = .ok (.aload_n 0, 1) := by decide +kernel
theorem dX12_collect_15 : decode cX12_collect 15 = .ok (.getfield 435, 3) := by decide +kernel
theorem dX12_collect_18 : decode cX12_collect 18 = .ok (.if_icmp .ge 66, 3) := by decide +kernel
theorem dX12_collect_84 : decode cX12_collect 84 = .ok (.aload_n 0, 1) := by decide +kernel
theorem dX12_collect_85 : decode cX12_collect 85 = .ok (.iconst 0, 1) := by decide +kernel
theorem dX12_collect_86 : decode cX12_collect 86 = .ok (.putfield 479, 3) := by decide +kernel
theorem dX12_collect_89 : decode cX12_collect 89 = .ok (.iload_n 1, 1) := by decide +kernel
theorem dX12_collect_90 : decode cX12_collect 90 = .ok (.ireturn, 1) := by decide +kernel
theorem dX12_isPicture_0 : decode cX12_isPicture 0 = .ok (.iload_n 1, 1) := by decide +kernel
theorem dX12_isPicture_1 : decode cX12_isPicture 1 = .ok (.ifCond .lt 12, 3) := by decide +kernel
theorem dX12_isPicture_4 : decode cX12_isPicture 4 = .ok (.iload_n 1, 1) := by decide +kernel
theorem dX12_isPicture_5 : decode cX12_isPicture 5 = .ok (.iconst 4, 1) := by decide +kernel
theorem dX12_isPicture_6 : decode cX12_isPicture 6 = .ok (.if_icmp .ge 7, 3) := by decide +kernel
theorem dX12_isPicture_9 : decode cX12_isPicture 9 = .ok (.iconst 1, 1) := by decide +kernel
theorem dX12_isPicture_10 : decode cX12_isPicture 10 = .ok (.goto 4, 3) := by decide +kernel
theorem dX12_isPicture_13 : decode cX12_isPicture 13 = .ok (.iconst 0, 1) := by decide +kernel
theorem dX12_isPicture_14 : decode cX12_isPicture 14 = .ok (.ireturn, 1) := by decide +kernel
theorem dX12_isThing_0 : decode cX12_isThing 0 = .ok (.aload_n 0, 1) := by decide +kernel
theorem dX12_isThing_1 : decode cX12_isThing 1 = .ok (.iload_n 1, 1) := by decide +kernel
theorem dX12_isThing_2 : decode cX12_isThing 2 = .ok (.invokevirtual 542, 3) := by decide +kernel
theorem dX12_isThing_5 : decode cX12_isThing 5 = .ok (.ifCond .eq 21, 3) := by decide +kernel
theorem dX12_isThing_8 : decode cX12_isThing 8 = .ok (.iload_n 2, 1) := by decide +kernel
theorem dX12_isThing_9 : decode cX12_isThing 9 = .ok (.ifCond .lt 17, 3) := by decide +kernel
theorem dX12_isThing_12 : decode cX12_isThing 12 = .ok (.iload_n 2, 1) := by decide +kernel
theorem dX12_isThing_13 : decode cX12_isThing 13 = .ok (.aload_n 0, 1) := by decide +kernel
theorem dX12_isThing_14 : decode cX12_isThing 14 = .ok (.getfield 183, 3) := by decide +kernel
theorem dX12_isThing_17 : decode cX12_isThing 17 = .ok (.iload_n 1, 1) := by decide +kernel
theorem dX12_isThing_18 : decode cX12_isThing 18 = .ok (.iaload, 1) := by decide +kernel
theorem dX12_isThing_19 : decode cX12_isThing 19 = .ok (.if_icmp .ge 7, 3) := by decide +kernel
theorem dX12_isThing_26 : decode cX12_isThing 26 = .ok (.iconst 0, 1) := by decide +kernel
theorem dX12_isThing_27 : decode cX12_isThing 27 = .ok (.ireturn, 1) := by decide +kernel
theorem dX12_picture0_0 : decode cX12_picture0 0 = .ok (.aload_n 0, 1) := by decide +kernel
theorem dX12_picture0_1 : decode cX12_picture0 1 = .ok (.invokevirtual 539, 3) := by decide +kernel
theorem dX12_picture0_4 : decode cX12_picture0 4 = .ok (.aload_n 0, 1) := by decide +kernel
theorem dX12_picture0_5 : decode cX12_picture0 5 = .ok (.getfield 183, 3) := by decide +kernel
theorem dX12_picture0_8 : decode cX12_picture0 8 = .ok (.iload_n 1, 1) := by decide +kernel
theorem dX12_picture0_9 : decode cX12_picture0 9 = .ok (.aload_n 0, 1) := by decide +kernel
theorem dX12_picture0_10 : decode cX12_picture0 10 = .ok (.getfield 522, 3) := by decide +kernel
theorem dX12_picture0_13 : decode cX12_picture0 13 = .ok (.iastore, 1) := by decide +kernel
theorem dX12_picture0_14 : decode cX12_picture0 14 = .ok (.aload_n 0, 1) := by decide +kernel
theorem dX12_picture0_15 : decode cX12_picture0 15 = .ok (.getfield 234, 3) := by decide +kernel
theorem dX12_picture0_18 : decode cX12_picture0 18 = .ok (.iload_n 1, 1) := by decide +kernel
theorem dX12_picture0_19 : decode cX12_picture0 19 = .ok (.iconst 0, 1) := by decide +kernel
theorem dX12_picture0_20 : decode cX12_picture0 20 = .ok (.iastore, 1) := by decide +kernel
theorem dX12_picture0_21 : decode cX12_picture0 21 = .ok (.aload_n 0, 1) := by decide +kernel
theorem dX12_picture0_22 : decode cX12_picture0 22 = .ok (.getfield 470, 3) := by decide +kernel
theorem dX12_picture0_25 : decode cX12_picture0 25 = .ok (.istore_n 2, 1) := by decide +kernel
theorem dX12_picture0_26 : decode cX12_picture0 26 = .ok (.iconst 0, 1) := by decide +kernel
theorem dX12_picture0_27 : decode cX12_picture0 27 = .ok (.istore_n 3, 1) := by decide +kernel
theorem dX12_picture0_28 : decode cX12_picture0 28 = .ok (.iload_n 3, 1) := by decide +kernel
theorem dX12_picture0_29 : decode cX12_picture0 29 = .ok (.aload_n 0, 1) := by decide +kernel
theorem dX12_picture0_30 : decode cX12_picture0 30 = .ok (.getfield 470, 3) := by decide +kernel
theorem dX12_picture0_33 : decode cX12_picture0 33 = .ok (.if_icmp .ge 26, 3) := by decide +kernel
theorem dX12_picture0_59 : decode cX12_picture0 59 = .ok (.iconst 0, 1) := by decide +kernel
theorem dX12_picture0_60 : decode cX12_picture0 60 = .ok (.istore_n 3, 1) := by decide +kernel
theorem dX12_picture0_61 : decode cX12_picture0 61 = .ok (.iload_n 3, 1) := by decide +kernel
theorem dX12_picture0_62 : decode cX12_picture0 62 = .ok (.bipush 6, 2) := by decide +kernel
theorem dX12_picture0_64 : decode cX12_picture0 64 = .ok (.aload_n 0, 1) := by decide +kernel
theorem dX12_picture0_65 : decode cX12_picture0 65 = .ok (.getfield 413, 3) := by decide +kernel
theorem dX12_picture0_68 : decode cX12_picture0 68 = .ok (.imul, 1) := by decide +kernel
theorem dX12_picture0_69 : decode cX12_picture0 69 = .ok (.if_icmp .ge 54, 3) := by decide +kernel
theorem dX12_picture0_123 : decode cX12_picture0 123 = .ok (.iconst 0, 1) := by decide +kernel
theorem dX12_picture0_124 : decode cX12_picture0 124 = .ok (.istore_n 3, 1) := by decide +kernel
theorem dX12_picture0_125 : decode cX12_picture0 125 = .ok (.iconst 0, 1) := by decide +kernel
theorem dX12_picture0_126 : decode cX12_picture0 126 = .ok (.istore 4, 2) := by decide +kernel
theorem dX12_picture0_128 : decode cX12_picture0 128 = .ok (.iload 4, 2) := by decide +kernel
theorem dX12_picture0_130 : decode cX12_picture0 130 = .ok (.aload_n 0, 1) := by decide +kernel
theorem dX12_picture0_131 : decode cX12_picture0 131 = .ok (.getfield 522, 3) := by decide +kernel
theorem dX12_picture0_134 : decode cX12_picture0 134 = .ok (.if_icmp .ge 190, 3) := by decide +kernel
theorem dX12_picture0_324 : decode cX12_picture0 324 = .ok (.return_, 1) := by decide +kernel
theorem dX12_take_0 : decode cX12_take 0 = .ok (.aload_n 0, 1) := by decide +kernel
theorem dX12_take_1 : decode cX12_take 1 = .ok (.aload_n 0, 1) := by decide +kernel
theorem dX12_take_2 : decode cX12_take 2 = .ok (.iload_n 1, 1) := by decide +kernel
theorem dX12_take_3 : decode cX12_take 3 = .ok (.invokevirtual 542, 3) := by decide +kernel
theorem dX12_take_6 : decode cX12_take 6 = .ok (.ifCond .eq 7, 3) := by decide +kernel
theorem dX12_take_9 : decode cX12_take 9 = .ok (.iconst 0, 1) := by decide +kernel
theorem dX12_take_10 : decode cX12_take 10 = .ok (.goto 4, 3) := by decide +kernel
theorem dX12_take_13 : decode cX12_take 13 = .ok (.iconst 1, 1) := by decide +kernel
theorem dX12_take_14 : decode cX12_take 14 = .ok (.putfield 388, 3) := by decide +kernel
theorem dX12_take_17 : decode cX12_take 17 = .ok (.aload_n 0, 1) := by decide +kernel
theorem dX12_take_18 : decode cX12_take 18 = .ok (.getfield 388, 3) := by decide +kernel
theorem dX12_take_21 : decode cX12_take 21 = .ok (.ifCond .le 5, 3) := by decide +kernel
theorem dX12_take_24 : decode cX12_take 24 = .ok (.iconst 0, 1) := by decide +kernel
theorem dX12_take_25 : decode cX12_take 25 = .ok (.ireturn, 1) := by decide +kernel
theorem dX12_take_26 : decode cX12_take 26 = .ok (.aload_n 0, 1) := by decide +kernel
theorem dX12_take_27 : decode cX12_take 27 = .ok (.iload_n 1, 1) := by decide +kernel
theorem dX12_take_28 : decode cX12_take 28 = .ok (.invokevirtual 552, 3) := by decide +kernel
theorem dX12_take_31 : decode cX12_take 31 = .ok (.aload_n 0, 1) := by decide +kernel
theorem dX12_take_32 : decode cX12_take 32 = .ok (.iload_n 1, 1) := by decide +kernel
theorem dX12_take_33 : decode cX12_take 33 = .ok (.invokevirtual 555, 3) := by decide +kernel
theorem dX12_take_36 : decode cX12_take 36 = .ok (.aload_n 0, 1) := by decide +kernel
theorem dX12_take_37 : decode cX12_take 37 = .ok (.getfield 183, 3) := by decide +kernel
theorem dX12_take_40 : decode cX12_take 40 = .ok (.iload_n 1, 1) := by decide +kernel
theorem dX12_take_41 : decode cX12_take 41 = .ok (.iaload, 1) := by decide +kernel
theorem dX12_take_42 : decode cX12_take 42 = .ok (.ireturn, 1) := by decide +kernel
theorem dX12_study_0 : decode cX12_study 0 = .ok (.aload_n 0, 1) := by decide +kernel
theorem dX12_study_1 : decode cX12_study 1 = .ok (.getfield 225, 3) := by decide +kernel
theorem dX12_study_4 : decode cX12_study 4 = .ok (.iload_n 1, 1) := by decide +kernel
theorem dX12_study_5 : decode cX12_study 5 = .ok (.iconst 0, 1) := by decide +kernel
theorem dX12_study_6 : decode cX12_study 6 = .ok (.iastore, 1) := by decide +kernel
theorem dX12_study_7 : decode cX12_study 7 = .ok (.iconst 0, 1) := by decide +kernel
theorem dX12_study_8 : decode cX12_study 8 = .ok (.istore_n 2, 1) := by decide +kernel
theorem dX12_study_9 : decode cX12_study 9 = .ok (.iload_n 2, 1) := by decide +kernel
theorem dX12_study_10 : decode cX12_study 10 = .ok (.aload_n 0, 1) := by decide +kernel
theorem dX12_study_11 : decode cX12_study 11 = .ok (.getfield 183, 3) := by decide +kernel
theorem dX12_study_14 : decode cX12_study 14 = .ok (.iload_n 1, 1) := by decide +kernel
theorem dX12_study_15 : decode cX12_study 15 = .ok (.iaload, 1) := by decide +kernel
theorem dX12_study_16 : decode cX12_study 16 = .ok (.if_icmp .ge 21, 3) := by decide +kernel
theorem dX12_study_37 : decode cX12_study 37 = .ok (.aload_n 0, 1) := by decide +kernel
theorem dX12_study_38 : decode cX12_study 38 = .ok (.iload_n 1, 1) := by decide +kernel
theorem dX12_study_39 : decode cX12_study 39 = .ok (.invokevirtual 558, 3) := by decide +kernel
theorem dX12_study_42 : decode cX12_study 42 = .ok (.aload_n 0, 1) := by decide +kernel
theorem dX12_study_43 : decode cX12_study 43 = .ok (.iload_n 1, 1) := by decide +kernel
theorem dX12_study_44 : decode cX12_study 44 = .ok (.invokevirtual 561, 3) := by decide +kernel
theorem dX12_study_47 : decode cX12_study 47 = .ok (.aload_n 0, 1) := by decide +kernel
theorem dX12_study_48 : decode cX12_study 48 = .ok (.iload_n 1, 1) := by decide +kernel
theorem dX12_study_49 : decode cX12_study 49 = .ok (.invokevirtual 564, 3) := by decide +kernel
theorem dX12_study_52 : decode cX12_study 52 = .ok (.aload_n 0, 1) := by decide +kernel
theorem dX12_study_53 : decode cX12_study 53 = .ok (.iload_n 1, 1) := by decide +kernel
theorem dX12_study_54 : decode cX12_study 54 = .ok (.invokevirtual 567, 3) := by decide +kernel
theorem dX12_study_57 : decode cX12_study 57 = .ok (.return_, 1) := by decide +kernel
theorem dX12_findWays_0 : decode cX12_findWays 0 = .ok (.iconst 0, 1) := by decide +kernel
theorem dX12_findWays_1 : decode cX12_findWays 1 = .ok (.istore_n 2, 1) := by decide +kernel
theorem dX12_findWays_2 : decode cX12_findWays 2 = .ok (.iload_n 2, 1) := by decide +kernel
theorem dX12_findWays_3 : decode cX12_findWays 3 = .ok (.aload_n 0, 1) := by decide +kernel
theorem dX12_findWays_4 : decode cX12_findWays 4 = .ok (.getfield 183, 3) := by decide +kernel
theorem dX12_findWays_7 : decode cX12_findWays 7 = .ok (.iload_n 1, 1) := by decide +kernel
theorem dX12_findWays_8 : decode cX12_findWays 8 = .ok (.iaload, 1) := by decide +kernel
theorem dX12_findWays_9 : decode cX12_findWays 9 = .ok (.if_icmp .ge 16, 3) := by decide +kernel
theorem dX12_findWays_25 : decode cX12_findWays 25 = .ok (.iconst 0, 1) := by decide +kernel
theorem dX12_findWays_26 : decode cX12_findWays 26 = .ok (.istore_n 2, 1) := by decide +kernel
theorem dX12_findWays_27 : decode cX12_findWays 27 = .ok (.iload_n 2, 1) := by decide +kernel
theorem dX12_findWays_28 : decode cX12_findWays 28 = .ok (.aload_n 0, 1) := by decide +kernel
theorem dX12_findWays_29 : decode cX12_findWays 29 = .ok (.getfield 234, 3) := by decide +kernel
theorem dX12_findWays_32 : decode cX12_findWays 32 = .ok (.iload_n 1, 1) := by decide +kernel
theorem dX12_findWays_33 : decode cX12_findWays 33 = .ok (.iaload, 1) := by decide +kernel
theorem dX12_findWays_34 : decode cX12_findWays 34 = .ok (.if_icmp .ge 88, 3) := by decide +kernel
theorem dX12_findWays_122 : decode cX12_findWays 122 = .ok (.iconst 0, 1) := by decide +kernel
theorem dX12_findWays_123 : decode cX12_findWays 123 = .ok (.istore_n 2, 1) := by decide +kernel
theorem dX12_findWays_124 : decode cX12_findWays 124 = .ok (.iload_n 2, 1) := by decide +kernel
theorem dX12_findWays_125 : decode cX12_findWays 125 = .ok (.aload_n 0, 1) := by decide +kernel
theorem dX12_findWays_126 : decode cX12_findWays 126 = .ok (.getfield 183, 3) := by decide +kernel
theorem dX12_findWays_129 : decode cX12_findWays 129 = .ok (.iload_n 1, 1) := by decide +kernel
theorem dX12_findWays_130 : decode cX12_findWays 130 = .ok (.iaload, 1) := by decide +kernel
theorem dX12_findWays_131 : decode cX12_findWays 131 = .ok (.if_icmp .ge 129, 3) := by decide +kernel
theorem dX12_findWays_260 : decode cX12_findWays 260 = .ok (.return_, 1) := by decide +kernel
theorem dX12_reach_0 : decode cX12_reach 0 = .ok (.iconst 0, 1) := by decide +kernel
theorem dX12_reach_1 : decode cX12_reach 1 = .ok (.istore 5, 2) := by decide +kernel
theorem dX12_reach_3 : decode cX12_reach 3 = .ok (.iload 5, 2) := by decide +kernel
theorem dX12_reach_5 : decode cX12_reach 5 = .ok (.aload_n 0, 1) := by decide +kernel
theorem dX12_reach_6 : decode cX12_reach 6 = .ok (.getfield 183, 3) := by decide +kernel
theorem dX12_reach_9 : decode cX12_reach 9 = .ok (.iload_n 1, 1) := by decide +kernel
theorem dX12_reach_10 : decode cX12_reach 10 = .ok (.iaload, 1) := by decide +kernel
theorem dX12_reach_11 : decode cX12_reach 11 = .ok (.if_icmp .ge 17, 3) := by decide +kernel
theorem dX12_reach_28 : decode cX12_reach 28 = .ok (.aload_n 0, 1) := by decide +kernel
theorem dX12_reach_29 : decode cX12_reach 29 = .ok (.iconst 0, 1) := by decide +kernel
theorem dX12_reach_30 : decode cX12_reach 30 = .ok (.putfield 581, 3) := by decide +kernel
theorem dX12_reach_33 : decode cX12_reach 33 = .ok (.iload_n 2, 1) := by decide +kernel
theorem dX12_reach_34 : decode cX12_reach 34 = .ok (.iconst (-1), 1) := by decide +kernel
theorem dX12_reach_35 : decode cX12_reach 35 = .ok (.if_icmp .ne 47, 3) := by decide +kernel
theorem dX12_reach_38 : decode cX12_reach 38 = .ok (.iconst 0, 1) := by decide +kernel
theorem dX12_reach_39 : decode cX12_reach 39 = .ok (.istore 5, 2) := by decide +kernel
theorem dX12_reach_41 : decode cX12_reach 41 = .ok (.iload 5, 2) := by decide +kernel
theorem dX12_reach_43 : decode cX12_reach 43 = .ok (.aload_n 0, 1) := by decide +kernel
theorem dX12_reach_44 : decode cX12_reach 44 = .ok (.getfield 234, 3) := by decide +kernel
theorem dX12_reach_47 : decode cX12_reach 47 = .ok (.iload_n 1, 1) := by decide +kernel
theorem dX12_reach_48 : decode cX12_reach 48 = .ok (.iaload, 1) := by decide +kernel
theorem dX12_reach_49 : decode cX12_reach 49 = .ok (.if_icmp .ge 30, 3) := by decide +kernel
theorem dX12_reach_79 : decode cX12_reach 79 = .ok (.goto 12, 3) := by decide +kernel
theorem dX12_reach_91 : decode cX12_reach 91 = .ok (.iconst 0, 1) := by decide +kernel
theorem dX12_reach_92 : decode cX12_reach 92 = .ok (.istore 5, 2) := by decide +kernel
theorem dX12_reach_94 : decode cX12_reach 94 = .ok (.iload 5, 2) := by decide +kernel
theorem dX12_reach_96 : decode cX12_reach 96 = .ok (.aload_n 0, 1) := by decide +kernel
theorem dX12_reach_97 : decode cX12_reach 97 = .ok (.getfield 581, 3) := by decide +kernel
theorem dX12_reach_100 : decode cX12_reach 100 = .ok (.if_icmp .ge 24, 3) := by decide +kernel
theorem dX12_reach_124 : decode cX12_reach 124 = .ok (.return_, 1) := by decide +kernel
theorem dX12_findDominators_0 : decode cX12_findDominators 0 = .ok (.iconst 0, 1) := by decide +kernel
theorem dX12_findDominators_1 : decode cX12_findDominators 1 = .ok (.istore_n 2, 1) := by decide +kernel
theorem dX12_findDominators_2 : decode cX12_findDominators 2 = .ok (.iload_n 2, 1) := by decide +kernel
theorem dX12_findDominators_3 : decode cX12_findDominators 3 = .ok (.aload_n 0, 1) := by decide +kernel
theorem dX12_findDominators_4 : decode cX12_findDominators 4 = .ok (.getfield 183, 3) := by decide +kernel
theorem dX12_findDominators_7 : decode cX12_findDominators 7 = .ok (.iload_n 1, 1) := by decide +kernel
theorem dX12_findDominators_8 : decode cX12_findDominators 8 = .ok (.iaload, 1) := by decide +kernel
theorem dX12_findDominators_9 : decode cX12_findDominators 9 = .ok (.if_icmp .ge 21, 3) := by decide +kernel
theorem dX12_findDominators_30 : decode cX12_findDominators 30 = .ok (.iconst 0, 1) := by decide +kernel
theorem dX12_findDominators_31 : decode cX12_findDominators 31 = .ok (.istore_n 2, 1) := by decide +kernel
theorem dX12_findDominators_32 : decode cX12_findDominators 32 = .ok (.iload_n 2, 1) := by decide +kernel
theorem dX12_findDominators_33 : decode cX12_findDominators 33 = .ok (.aload_n 0, 1) := by decide +kernel
theorem dX12_findDominators_34 : decode cX12_findDominators 34 = .ok (.getfield 183, 3) := by decide +kernel
theorem dX12_findDominators_37 : decode cX12_findDominators 37 = .ok (.iload_n 1, 1) := by decide +kernel
theorem dX12_findDominators_38 : decode cX12_findDominators 38 = .ok (.iaload, 1) := by decide +kernel
theorem dX12_findDominators_39 : decode cX12_findDominators 39 = .ok (.if_icmp .ge 199, 3) := by decide +kernel
theorem dX12_findDominators_238 : decode cX12_findDominators 238 = .ok (.return_, 1) := by decide +kernel
theorem dX12_findRings_0 : decode cX12_findRings 0 = .ok (.aload_n 0, 1) := by decide +kernel
theorem dX12_findRings_1 : decode cX12_findRings 1 = .ok (.getfield 183, 3) := by decide +kernel
theorem dX12_findRings_4 : decode cX12_findRings 4 = .ok (.iload_n 1, 1) := by decide +kernel
theorem dX12_findRings_5 : decode cX12_findRings 5 = .ok (.iaload, 1) := by decide +kernel
theorem dX12_findRings_6 : decode cX12_findRings 6 = .ok (.istore_n 2, 1) := by decide +kernel
theorem dX12_findRings_7 : decode cX12_findRings 7 = .ok (.iconst 0, 1) := by decide +kernel
theorem dX12_findRings_8 : decode cX12_findRings 8 = .ok (.istore_n 3, 1) := by decide +kernel
theorem dX12_findRings_9 : decode cX12_findRings 9 = .ok (.iload_n 3, 1) := by decide +kernel
theorem dX12_findRings_10 : decode cX12_findRings 10 = .ok (.iload_n 2, 1) := by decide +kernel
theorem dX12_findRings_11 : decode cX12_findRings 11 = .ok (.if_icmp .ge 64, 3) := by decide +kernel
theorem dX12_findRings_75 : decode cX12_findRings 75 = .ok (.aload_n 0, 1) := by decide +kernel
theorem dX12_findRings_76 : decode cX12_findRings 76 = .ok (.getfield 228, 3) := by decide +kernel
theorem dX12_findRings_79 : decode cX12_findRings 79 = .ok (.iload_n 1, 1) := by decide +kernel
theorem dX12_findRings_80 : decode cX12_findRings 80 = .ok (.iconst 0, 1) := by decide +kernel
theorem dX12_findRings_81 : decode cX12_findRings 81 = .ok (.iastore, 1) := by decide +kernel
theorem dX12_findRings_82 : decode cX12_findRings 82 = .ok (.iconst 0, 1) := by decide +kernel
theorem dX12_findRings_83 : decode cX12_findRings 83 = .ok (.istore_n 3, 1) := by decide +kernel
theorem dX12_findRings_84 : decode cX12_findRings 84 = .ok (.iload_n 3, 1) := by decide +kernel
theorem dX12_findRings_85 : decode cX12_findRings 85 = .ok (.iload_n 2, 1) := by decide +kernel
theorem dX12_findRings_86 : decode cX12_findRings 86 = .ok (.if_icmp .ge 117, 3) := by decide +kernel
theorem dX12_findRings_203 : decode cX12_findRings 203 = .ok (.return_, 1) := by decide +kernel
theorem dX12_findGroups_0 : decode cX12_findGroups 0 = .ok (.aload_n 0, 1) := by decide +kernel
theorem dX12_findGroups_1 : decode cX12_findGroups 1 = .ok (.getfield 231, 3) := by decide +kernel
theorem dX12_findGroups_4 : decode cX12_findGroups 4 = .ok (.iload_n 1, 1) := by decide +kernel
theorem dX12_findGroups_5 : decode cX12_findGroups 5 = .ok (.iconst 0, 1) := by decide +kernel
theorem dX12_findGroups_6 : decode cX12_findGroups 6 = .ok (.iastore, 1) := by decide +kernel
theorem dX12_findGroups_7 : decode cX12_findGroups 7 = .ok (.iconst 0, 1) := by decide +kernel
theorem dX12_findGroups_8 : decode cX12_findGroups 8 = .ok (.istore_n 2, 1) := by decide +kernel
theorem dX12_findGroups_9 : decode cX12_findGroups 9 = .ok (.iload_n 2, 1) := by decide +kernel
theorem dX12_findGroups_10 : decode cX12_findGroups 10 = .ok (.aload_n 0, 1) := by decide +kernel
theorem dX12_findGroups_11 : decode cX12_findGroups 11 = .ok (.getfield 183, 3) := by decide +kernel
theorem dX12_findGroups_14 : decode cX12_findGroups 14 = .ok (.iload_n 1, 1) := by decide +kernel
theorem dX12_findGroups_15 : decode cX12_findGroups 15 = .ok (.iaload, 1) := by decide +kernel
theorem dX12_findGroups_16 : decode cX12_findGroups 16 = .ok (.if_icmp .ge 21, 3) := by decide +kernel
theorem dX12_findGroups_37 : decode cX12_findGroups 37 = .ok (.iconst 0, 1) := by decide +kernel
theorem dX12_findGroups_38 : decode cX12_findGroups 38 = .ok (.istore_n 2, 1) := by decide +kernel
theorem dX12_findGroups_39 : decode cX12_findGroups 39 = .ok (.iload_n 2, 1) := by decide +kernel
theorem dX12_findGroups_40 : decode cX12_findGroups 40 = .ok (.aload_n 0, 1) := by decide +kernel
theorem dX12_findGroups_41 : decode cX12_findGroups 41 = .ok (.getfield 183, 3) := by decide +kernel
theorem dX12_findGroups_44 : decode cX12_findGroups 44 = .ok (.iload_n 1, 1) := by decide +kernel
theorem dX12_findGroups_45 : decode cX12_findGroups 45 = .ok (.iaload, 1) := by decide +kernel
theorem dX12_findGroups_46 : decode cX12_findGroups 46 = .ok (.if_icmp .ge 135, 3) := by decide +kernel
theorem dX12_findGroups_181 : decode cX12_findGroups 181 = .ok (.return_, 1) := by decide +kernel
theorem dX12_thing_0 : decode cX12_thing 0 = .ok (.aload_n 0, 1) := by decide +kernel
theorem dX12_thing_1 : decode cX12_thing 1 = .ok (.iconst 0, 1) := by decide +kernel
theorem dX12_thing_2 : decode cX12_thing 2 = .ok (.putfield 388, 3) := by decide +kernel
theorem dX12_thing_5 : decode cX12_thing 5 = .ok (.aload_n 0, 1) := by decide +kernel
theorem dX12_thing_6 : decode cX12_thing 6 = .ok (.iload_n 1, 1) := by decide +kernel
theorem dX12_thing_7 : decode cX12_thing 7 = .ok (.iload_n 2, 1) := by decide +kernel
theorem dX12_thing_8 : decode cX12_thing 8 = .ok (.invokevirtual 600, 3) := by decide +kernel
theorem dX12_thing_11 : decode cX12_thing 11 = .ok (.ifCond .ne 5, 3) := by decide +kernel
theorem dX12_thing_14 : decode cX12_thing 14 = .ok (.iconst (-1), 1) := by decide +kernel
theorem dX12_thing_15 : decode cX12_thing 15 = .ok (.ireturn, 1) := by decide +kernel
theorem dX12_slot_0 : decode cX12_slot 0 = .ok (.aload_n 0, 1) := by decide +kernel
theorem dX12_slot_1 : decode cX12_slot 1 = .ok (.aload_n 0, 1) := by decide +kernel
theorem dX12_slot_2 : decode cX12_slot 2 = .ok (.iload_n 1, 1) := by decide +kernel
theorem dX12_slot_3 : decode cX12_slot 3 = .ok (.iload_n 2, 1) := by decide +kernel
theorem dX12_slot_4 : decode cX12_slot 4 = .ok (.invokevirtual 600, 3) := by decide +kernel
theorem dX12_slot_7 : decode cX12_slot 7 = .ok (.ifCond .eq 17, 3) := by decide +kernel
theorem dX12_slot_24 : decode cX12_slot 24 = .ok (.iconst 1, 1) := by decide +kernel
theorem dX12_slot_25 : decode cX12_slot 25 = .ok (.goto 4, 3) := by decide +kernel
theorem dX12_slot_29 : decode cX12_slot 29 = .ok (.putfield 388, 3) := by decide +kernel
theorem dX12_slot_32 : decode cX12_slot 32 = .ok (.aload_n 0, 1) := by decide +kernel
theorem dX12_slot_33 : decode cX12_slot 33 = .ok (.getfield 388, 3) := by decide +kernel
theorem dX12_slot_36 : decode cX12_slot 36 = .ok (.ifCond .le 7, 3) := by decide +kernel
theorem dX12_slot_39 : decode cX12_slot 39 = .ok (.lconst 0, 1) := by decide +kernel
theorem dX12_slot_40 : decode cX12_slot 40 = .ok (.goto 10, 3) := by decide +kernel
theorem dX12_slot_50 : decode cX12_slot 50 = .ok (.lreturn, 1) := by decide +kernel
theorem dX12_holder_0 : decode cX12_holder 0 = .ok (.aload_n 0, 1) := by decide +kernel
theorem dX12_holder_1 : decode cX12_holder 1 = .ok (.aload_n 0, 1) := by decide +kernel
theorem dX12_holder_2 : decode cX12_holder 2 = .ok (.iload_n 1, 1) := by decide +kernel
theorem dX12_holder_3 : decode cX12_holder 3 = .ok (.iload_n 2, 1) := by decide +kernel
theorem dX12_holder_4 : decode cX12_holder 4 = .ok (.invokevirtual 600, 3) := by decide +kernel
theorem dX12_holder_7 : decode cX12_holder 7 = .ok (.ifCond .eq 28, 3) := by decide +kernel
theorem dX12_holder_35 : decode cX12_holder 35 = .ok (.iconst 1, 1) := by decide +kernel
theorem dX12_holder_36 : decode cX12_holder 36 = .ok (.goto 4, 3) := by decide +kernel
theorem dX12_holder_40 : decode cX12_holder 40 = .ok (.putfield 388, 3) := by decide +kernel
theorem dX12_holder_43 : decode cX12_holder 43 = .ok (.aload_n 0, 1) := by decide +kernel
theorem dX12_holder_44 : decode cX12_holder 44 = .ok (.getfield 388, 3) := by decide +kernel
theorem dX12_holder_47 : decode cX12_holder 47 = .ok (.ifCond .le 5, 3) := by decide +kernel
theorem dX12_holder_50 : decode cX12_holder 50 = .ok (.iconst 0, 1) := by decide +kernel
theorem dX12_holder_51 : decode cX12_holder 51 = .ok (.ireturn, 1) := by decide +kernel
theorem dX12_picture_0 : decode cX12_picture 0 = .ok (.aload_n 0, 1) := by decide +kernel
theorem dX12_picture_1 : decode cX12_picture 1 = .ok (.iconst 0, 1) := by decide +kernel
theorem dX12_picture_2 : decode cX12_picture 2 = .ok (.putfield 388, 3) := by decide +kernel
theorem dX12_picture_5 : decode cX12_picture 5 = .ok (.aload_n 0, 1) := by decide +kernel
theorem dX12_picture_6 : decode cX12_picture 6 = .ok (.iload_n 1, 1) := by decide +kernel
theorem dX12_picture_7 : decode cX12_picture 7 = .ok (.invokevirtual 542, 3) := by decide +kernel
theorem dX12_picture_10 : decode cX12_picture 10 = .ok (.ifCond .ne 5, 3) := by decide +kernel
theorem dX12_picture_13 : decode cX12_picture 13 = .ok (.iconst (-1), 1) := by decide +kernel
theorem dX12_picture_14 : decode cX12_picture 14 = .ok (.ireturn, 1) := by decide +kernel
theorem dX12_picture_15 : decode cX12_picture 15 = .ok (.iconst 0, 1) := by decide +kernel
theorem dX12_picture_16 : decode cX12_picture 16 = .ok (.istore_n 3, 1) := by decide +kernel
theorem dX12_picture_17 : decode cX12_picture 17 = .ok (.iconst 0, 1) := by decide +kernel
theorem dX12_picture_18 : decode cX12_picture 18 = .ok (.istore 4, 2) := by decide +kernel
theorem dX12_picture_20 : decode cX12_picture 20 = .ok (.iconst (-1), 1) := by decide +kernel
theorem dX12_picture_21 : decode cX12_picture 21 = .ok (.istore 5, 2) := by decide +kernel
theorem dX12_picture_23 : decode cX12_picture 23 = .ok (.iconst 0, 1) := by decide +kernel
theorem dX12_picture_24 : decode cX12_picture 24 = .ok (.istore 6, 2) := by decide +kernel
theorem dX12_picture_26 : decode cX12_picture 26 = .ok (.iconst 0, 1) := by decide +kernel
theorem dX12_picture_27 : decode cX12_picture 27 = .ok (.istore 7, 2) := by decide +kernel
theorem dX12_picture_29 : decode cX12_picture 29 = .ok (.iconst 0, 1) := by decide +kernel
theorem dX12_picture_30 : decode cX12_picture 30 = .ok (.istore 8, 2) := by decide +kernel
theorem dX12_picture_32 : decode cX12_picture 32 = .ok (.iload 8, 2) := by decide +kernel
theorem dX12_picture_34 : decode cX12_picture 34 = .ok (.aload_n 0, 1) := by decide +kernel
theorem dX12_picture_35 : decode cX12_picture 35 = .ok (.getfield 183, 3) := by decide +kernel
theorem dX12_picture_38 : decode cX12_picture 38 = .ok (.iload_n 1, 1) := by decide +kernel
theorem dX12_picture_39 : decode cX12_picture 39 = .ok (.iaload, 1) := by decide +kernel
theorem dX12_picture_40 : decode cX12_picture 40 = .ok (.if_icmp .ge 184, 3) := by decide +kernel
theorem dX12_picture_224 : decode cX12_picture 224 = .ok (.iload_n 2, 1) := by decide +kernel
theorem dX12_picture_225 : decode cX12_picture 225 = .ok (.sipush 200, 3) := by decide +kernel
theorem dX12_picture_228 : decode cX12_picture 228 = .ok (.if_icmp .lt 22, 3) := by decide +kernel
theorem dX12_picture_231 : decode cX12_picture 231 = .ok (.aload_n 0, 1) := by decide +kernel
theorem dX12_picture_232 : decode cX12_picture 232 = .ok (.iload_n 2, 1) := by decide +kernel
theorem dX12_picture_233 : decode cX12_picture 233 = .ok (.sipush 200, 3) := by decide +kernel
theorem dX12_picture_236 : decode cX12_picture 236 = .ok (.isub, 1) := by decide +kernel
theorem dX12_picture_237 : decode cX12_picture 237 = .ok (.invokevirtual 416, 3) := by decide +kernel
theorem dX12_picture_240 : decode cX12_picture 240 = .ok (.ifCond .eq 8, 3) := by decide +kernel
theorem dX12_picture_248 : decode cX12_picture 248 = .ok (.iconst (-1), 1) := by decide +kernel
theorem dX12_picture_249 : decode cX12_picture 249 = .ok (.ireturn, 1) := by decide +kernel
theorem dX12_picture_250 : decode cX12_picture 250 = .ok (.iload_n 2, 1) := by decide +kernel
theorem dX12_picture_251 : decode cX12_picture 251 = .ok (.bipush 100, 2) := by decide +kernel
theorem dX12_picture_253 : decode cX12_picture 253 = .ok (.if_icmp .lt 21, 3) := by decide +kernel
theorem dX12_picture_256 : decode cX12_picture 256 = .ok (.aload_n 0, 1) := by decide +kernel
theorem dX12_picture_257 : decode cX12_picture 257 = .ok (.iload_n 2, 1) := by decide +kernel
theorem dX12_picture_258 : decode cX12_picture 258 = .ok (.bipush 100, 2) := by decide +kernel
theorem dX12_picture_260 : decode cX12_picture 260 = .ok (.isub, 1) := by decide +kernel
theorem dX12_picture_261 : decode cX12_picture 261 = .ok (.invokevirtual 416, 3) := by decide +kernel
theorem dX12_picture_264 : decode cX12_picture 264 = .ok (.ifCond .eq 8, 3) := by decide +kernel
theorem dX12_picture_272 : decode cX12_picture 272 = .ok (.iconst (-1), 1) := by decide +kernel
theorem dX12_picture_273 : decode cX12_picture 273 = .ok (.ireturn, 1) := by decide +kernel
theorem dX12_picture_274 : decode cX12_picture 274 = .ok (.iload_n 2, 1) := by decide +kernel
theorem dX12_picture_275 : decode cX12_picture 275 = .ok (.ifCond .ne 12, 3) := by decide +kernel
theorem dX12_picture_278 : decode cX12_picture 278 = .ok (.aload_n 0, 1) := by decide +kernel
theorem dX12_picture_279 : decode cX12_picture 279 = .ok (.getfield 183, 3) := by decide +kernel
theorem dX12_picture_282 : decode cX12_picture 282 = .ok (.iload_n 1, 1) := by decide +kernel
theorem dX12_picture_283 : decode cX12_picture 283 = .ok (.iaload, 1) := by decide +kernel
theorem dX12_picture_284 : decode cX12_picture 284 = .ok (.goto 61, 3) := by decide +kernel
theorem dX12_picture_287 : decode cX12_picture 287 = .ok (.iload_n 2, 1) := by decide +kernel
theorem dX12_picture_288 : decode cX12_picture 288 = .ok (.iconst 1, 1) := by decide +kernel
theorem dX12_picture_289 : decode cX12_picture 289 = .ok (.if_icmp .ne 12, 3) := by decide +kernel
theorem dX12_picture_292 : decode cX12_picture 292 = .ok (.aload_n 0, 1) := by decide +kernel
theorem dX12_picture_293 : decode cX12_picture 293 = .ok (.getfield 228, 3) := by decide +kernel
theorem dX12_picture_296 : decode cX12_picture 296 = .ok (.iload_n 1, 1) := by decide +kernel
theorem dX12_picture_297 : decode cX12_picture 297 = .ok (.iaload, 1) := by decide +kernel
theorem dX12_picture_298 : decode cX12_picture 298 = .ok (.goto 47, 3) := by decide +kernel
theorem dX12_picture_301 : decode cX12_picture 301 = .ok (.iload_n 2, 1) := by decide +kernel
theorem dX12_picture_302 : decode cX12_picture 302 = .ok (.iconst 2, 1) := by decide +kernel
theorem dX12_picture_303 : decode cX12_picture 303 = .ok (.if_icmp .ne 12, 3) := by decide +kernel
theorem dX12_picture_306 : decode cX12_picture 306 = .ok (.aload_n 0, 1) := by decide +kernel
theorem dX12_picture_307 : decode cX12_picture 307 = .ok (.getfield 231, 3) := by decide +kernel
theorem dX12_picture_310 : decode cX12_picture 310 = .ok (.iload_n 1, 1) := by decide +kernel
theorem dX12_picture_311 : decode cX12_picture 311 = .ok (.iaload, 1) := by decide +kernel
theorem dX12_picture_312 : decode cX12_picture 312 = .ok (.goto 33, 3) := by decide +kernel
theorem dX12_picture_315 : decode cX12_picture 315 = .ok (.iload_n 2, 1) := by decide +kernel
theorem dX12_picture_316 : decode cX12_picture 316 = .ok (.iconst 3, 1) := by decide +kernel
theorem dX12_picture_317 : decode cX12_picture 317 = .ok (.if_icmp .ne 7, 3) := by decide +kernel
theorem dX12_picture_320 : decode cX12_picture 320 = .ok (.iload_n 3, 1) := by decide +kernel
theorem dX12_picture_321 : decode cX12_picture 321 = .ok (.goto 24, 3) := by decide +kernel
theorem dX12_picture_324 : decode cX12_picture 324 = .ok (.iload_n 2, 1) := by decide +kernel
theorem dX12_picture_325 : decode cX12_picture 325 = .ok (.iconst 4, 1) := by decide +kernel
theorem dX12_picture_326 : decode cX12_picture 326 = .ok (.if_icmp .ne 8, 3) := by decide +kernel
theorem dX12_picture_329 : decode cX12_picture 329 = .ok (.iload 4, 2) := by decide +kernel
theorem dX12_picture_331 : decode cX12_picture 331 = .ok (.goto 14, 3) := by decide +kernel
theorem dX12_picture_334 : decode cX12_picture 334 = .ok (.iload_n 2, 1) := by decide +kernel
theorem dX12_picture_335 : decode cX12_picture 335 = .ok (.iconst 5, 1) := by decide +kernel
theorem dX12_picture_336 : decode cX12_picture 336 = .ok (.if_icmp .ne 8, 3) := by decide +kernel
theorem dX12_picture_339 : decode cX12_picture 339 = .ok (.iload 5, 2) := by decide +kernel
theorem dX12_picture_341 : decode cX12_picture 341 = .ok (.goto 4, 3) := by decide +kernel
theorem dX12_picture_344 : decode cX12_picture 344 = .ok (.iconst (-1), 1) := by decide +kernel
theorem dX12_picture_345 : decode cX12_picture 345 = .ok (.ireturn, 1) := by decide +kernel
theorem dX12_member_0 : decode cX12_member 0 = .ok (.iconst (-1), 1) := by decide +kernel
theorem dX12_member_1 : decode cX12_member 1 = .ok (.istore 5, 2) := by decide +kernel
theorem dX12_member_3 : decode cX12_member 3 = .ok (.iload 4, 2) := by decide +kernel
theorem dX12_member_5 : decode cX12_member 5 = .ok (.istore 6, 2) := by decide +kernel
theorem dX12_member_7 : decode cX12_member 7 = .ok (.iconst 0, 1) := by decide +kernel
theorem dX12_member_8 : decode cX12_member 8 = .ok (.istore 7, 2) := by decide +kernel
theorem dX12_member_10 : decode cX12_member 10 = .ok (.aload_n 0, 1) := by decide +kernel
theorem dX12_member_11 : decode cX12_member 11 = .ok (.iload_n 1, 1) := by decide +kernel
theorem dX12_member_12 : decode cX12_member 12 = .ok (.invokevirtual 542, 3) := by decide +kernel
theorem dX12_member_15 : decode cX12_member 15 = .ok (.ifCond .eq 94, 3) := by decide +kernel
theorem dX12_member_18 : decode cX12_member 18 = .ok (.iload_n 3, 1) := by decide +kernel
theorem dX12_member_19 : decode cX12_member 19 = .ok (.ifCond .lt 90, 3) := by decide +kernel
theorem dX12_member_22 : decode cX12_member 22 = .ok (.iload_n 2, 1) := by decide +kernel
theorem dX12_member_23 : decode cX12_member 23 = .ok (.ifCond .lt 86, 3) := by decide +kernel
theorem dX12_member_26 : decode cX12_member 26 = .ok (.iload_n 2, 1) := by decide +kernel
theorem dX12_member_27 : decode cX12_member 27 = .ok (.iconst 2, 1) := by decide +kernel
theorem dX12_member_28 : decode cX12_member 28 = .ok (.if_icmp .ge 81, 3) := by decide +kernel
theorem dX12_member_31 : decode cX12_member 31 = .ok (.iload 4, 2) := by decide +kernel
theorem dX12_member_33 : decode cX12_member 33 = .ok (.ifCond .lt 76, 3) := by decide +kernel
theorem dX12_member_36 : decode cX12_member 36 = .ok (.iload 7, 2) := by decide +kernel
theorem dX12_member_38 : decode cX12_member 38 = .ok (.aload_n 0, 1) := by decide +kernel
theorem dX12_member_39 : decode cX12_member 39 = .ok (.getfield 183, 3) := by decide +kernel
theorem dX12_member_42 : decode cX12_member 42 = .ok (.iload_n 1, 1) := by decide +kernel
theorem dX12_member_43 : decode cX12_member 43 = .ok (.iaload, 1) := by decide +kernel
theorem dX12_member_44 : decode cX12_member 44 = .ok (.if_icmp .ge 65, 3) := by decide +kernel
theorem dX12_member_109 : decode cX12_member 109 = .ok (.aload_n 0, 1) := by decide +kernel
theorem dX12_member_110 : decode cX12_member 110 = .ok (.iload 5, 2) := by decide +kernel
theorem dX12_member_112 : decode cX12_member 112 = .ok (.iconst (-1), 1) := by decide +kernel
theorem dX12_member_113 : decode cX12_member 113 = .ok (.if_icmp .ne 7, 3) := by decide +kernel
theorem dX12_member_116 : decode cX12_member 116 = .ok (.iconst 1, 1) := by decide +kernel
theorem dX12_member_117 : decode cX12_member 117 = .ok (.goto 4, 3) := by decide +kernel
theorem dX12_member_121 : decode cX12_member 121 = .ok (.putfield 388, 3) := by decide +kernel
theorem dX12_member_124 : decode cX12_member 124 = .ok (.aload_n 0, 1) := by decide +kernel
theorem dX12_member_125 : decode cX12_member 125 = .ok (.getfield 388, 3) := by decide +kernel
theorem dX12_member_128 : decode cX12_member 128 = .ok (.ifCond .le 7, 3) := by decide +kernel
theorem dX12_member_131 : decode cX12_member 131 = .ok (.iconst 0, 1) := by decide +kernel
theorem dX12_member_132 : decode cX12_member 132 = .ok (.goto 5, 3) := by decide +kernel
theorem dX12_member_137 : decode cX12_member 137 = .ok (.ireturn, 1) := by decide +kernel
theorem dX12_choose_0 : decode cX12_choose 0 = .ok (.aload_n 0, 1) := by decide +kernel
theorem dX12_choose_1 : decode cX12_choose 1 = .ok (.iconst 0, 1) := by decide +kernel
theorem dX12_choose_2 : decode cX12_choose 2 = .ok (.putfield 388, 3) := by decide +kernel
theorem dX12_choose_5 : decode cX12_choose 5 = .ok (.aload_n 0, 1) := by decide +kernel
theorem dX12_choose_6 : decode cX12_choose 6 = .ok (.iload_n 1, 1) := by decide +kernel
theorem dX12_choose_7 : decode cX12_choose 7 = .ok (.iload_n 2, 1) := by decide +kernel
theorem dX12_choose_8 : decode cX12_choose 8 = .ok (.invokevirtual 600, 3) := by decide +kernel
theorem dX12_choose_11 : decode cX12_choose 11 = .ok (.ifCond .ne 5, 3) := by decide +kernel
theorem dX12_choose_14 : decode cX12_choose 14 = .ok (.iconst 0, 1) := by decide +kernel
theorem dX12_choose_15 : decode cX12_choose 15 = .ok (.ireturn, 1) := by decide +kernel
theorem dX12_lost_0 : decode cX12_lost 0 = .ok (.aload_n 0, 1) := by decide +kernel
theorem dX12_lost_1 : decode cX12_lost 1 = .ok (.aload_n 0, 1) := by decide +kernel
theorem dX12_lost_2 : decode cX12_lost 2 = .ok (.iload_n 1, 1) := by decide +kernel
theorem dX12_lost_3 : decode cX12_lost 3 = .ok (.invokevirtual 542, 3) := by decide +kernel
theorem dX12_lost_6 : decode cX12_lost 6 = .ok (.ifCond .eq 7, 3) := by decide +kernel
theorem dX12_lost_9 : decode cX12_lost 9 = .ok (.iconst 0, 1) := by decide +kernel
theorem dX12_lost_10 : decode cX12_lost 10 = .ok (.goto 4, 3) := by decide +kernel
theorem dX12_lost_13 : decode cX12_lost 13 = .ok (.iconst 1, 1) := by decide +kernel
theorem dX12_lost_14 : decode cX12_lost 14 = .ok (.putfield 388, 3) := by decide +kernel
theorem dX12_lost_17 : decode cX12_lost 17 = .ok (.aload_n 0, 1) := by decide +kernel
theorem dX12_lost_18 : decode cX12_lost 18 = .ok (.getfield 388, 3) := by decide +kernel
theorem dX12_lost_21 : decode cX12_lost 21 = .ok (.ifCond .le 5, 3) := by decide +kernel
theorem dX12_lost_24 : decode cX12_lost 24 = .ok (.iconst 0, 1) := by decide +kernel
theorem dX12_lost_25 : decode cX12_lost 25 = .ok (.ireturn, 1) := by decide +kernel
theorem dX12_lost_26 : decode cX12_lost 26 = .ok (.aload_n 0, 1) := by decide +kernel
theorem dX12_lost_27 : decode cX12_lost 27 = .ok (.iload_n 1, 1) := by decide +kernel
theorem dX12_lost_28 : decode cX12_lost 28 = .ok (.iconst (-1), 1) := by decide +kernel
theorem dX12_lost_29 : decode cX12_lost 29 = .ok (.iconst (-1), 1) := by decide +kernel
theorem dX12_lost_30 : decode cX12_lost 30 = .ok (.iconst 1, 1) := by decide +kernel
theorem dX12_lost_31 : decode cX12_lost 31 = .ok (.invokevirtual 591, 3) := by decide +kernel
theorem dX12_lost_34 : decode cX12_lost 34 = .ok (.aload_n 0, 1) := by decide +kernel
theorem dX12_lost_35 : decode cX12_lost 35 = .ok (.getfield 225, 3) := by decide +kernel
theorem dX12_lost_38 : decode cX12_lost 38 = .ok (.iload_n 1, 1) := by decide +kernel
theorem dX12_lost_39 : decode cX12_lost 39 = .ok (.iconst 0, 1) := by decide +kernel
theorem dX12_lost_40 : decode cX12_lost 40 = .ok (.iastore, 1) := by decide +kernel
theorem dX12_lost_41 : decode cX12_lost 41 = .ok (.iconst 0, 1) := by decide +kernel
theorem dX12_lost_42 : decode cX12_lost 42 = .ok (.istore_n 2, 1) := by decide +kernel
theorem dX12_lost_43 : decode cX12_lost 43 = .ok (.iload_n 2, 1) := by decide +kernel
theorem dX12_lost_44 : decode cX12_lost 44 = .ok (.aload_n 0, 1) := by decide +kernel
theorem dX12_lost_45 : decode cX12_lost 45 = .ok (.getfield 183, 3) := by decide +kernel
theorem dX12_lost_48 : decode cX12_lost 48 = .ok (.iload_n 1, 1) := by decide +kernel
theorem dX12_lost_49 : decode cX12_lost 49 = .ok (.iaload, 1) := by decide +kernel
theorem dX12_lost_50 : decode cX12_lost 50 = .ok (.if_icmp .ge 48, 3) := by decide +kernel
theorem dX12_lost_98 : decode cX12_lost 98 = .ok (.aload_n 0, 1) := by decide +kernel
theorem dX12_lost_99 : decode cX12_lost 99 = .ok (.getfield 225, 3) := by decide +kernel
theorem dX12_lost_102 : decode cX12_lost 102 = .ok (.iload_n 1, 1) := by decide +kernel
theorem dX12_lost_103 : decode cX12_lost 103 = .ok (.iaload, 1) := by decide +kernel
theorem dX12_lost_104 : decode cX12_lost 104 = .ok (.ireturn, 1) := by decide +kernel
theorem dX12_lostThing_0 : decode cX12_lostThing 0 = .ok (.aload_n 0, 1) := by decide +kernel
theorem dX12_lostThing_1 : decode cX12_lostThing 1 = .ok (.iconst 0, 1) := by decide +kernel
theorem dX12_lostThing_2 : decode cX12_lostThing 2 = .ok (.putfield 388, 3) := by decide +kernel
theorem dX12_lostThing_5 : decode cX12_lostThing 5 = .ok (.aload_n 0, 1) := by decide +kernel
theorem dX12_lostThing_6 : decode cX12_lostThing 6 = .ok (.iload_n 1, 1) := by decide +kernel
theorem dX12_lostThing_7 : decode cX12_lostThing 7 = .ok (.invokevirtual 542, 3) := by decide +kernel
theorem dX12_lostThing_10 : decode cX12_lostThing 10 = .ok (.ifCond .eq 31, 3) := by decide +kernel
theorem dX12_lostThing_13 : decode cX12_lostThing 13 = .ok (.iload_n 2, 1) := by decide +kernel
theorem dX12_lostThing_14 : decode cX12_lostThing 14 = .ok (.ifCond .lt 27, 3) := by decide +kernel
theorem dX12_lostThing_17 : decode cX12_lostThing 17 = .ok (.iload_n 2, 1) := by decide +kernel
theorem dX12_lostThing_18 : decode cX12_lostThing 18 = .ok (.aload_n 0, 1) := by decide +kernel
theorem dX12_lostThing_19 : decode cX12_lostThing 19 = .ok (.getfield 225, 3) := by decide +kernel
theorem dX12_lostThing_22 : decode cX12_lostThing 22 = .ok (.iload_n 1, 1) := by decide +kernel
theorem dX12_lostThing_23 : decode cX12_lostThing 23 = .ok (.iaload, 1) := by decide +kernel
theorem dX12_lostThing_24 : decode cX12_lostThing 24 = .ok (.if_icmp .ge 17, 3) := by decide +kernel
theorem dX12_lostThing_41 : decode cX12_lostThing 41 = .ok (.iconst (-1), 1) := by decide +kernel
theorem dX12_lostThing_42 : decode cX12_lostThing 42 = .ok (.ireturn, 1) := by decide +kernel
theorem dX12_growth_0 : decode cX12_growth 0 = .ok (.aload_n 0, 1) := by decide +kernel
theorem dX12_growth_1 : decode cX12_growth 1 = .ok (.aload_n 0, 1) := by decide +kernel
theorem dX12_growth_2 : decode cX12_growth 2 = .ok (.iload_n 1, 1) := by decide +kernel
theorem dX12_growth_3 : decode cX12_growth 3 = .ok (.invokevirtual 542, 3) := by decide +kernel
theorem dX12_growth_6 : decode cX12_growth 6 = .ok (.ifCond .eq 20, 3) := by decide +kernel
theorem dX12_growth_9 : decode cX12_growth 9 = .ok (.aload_n 0, 1) := by decide +kernel
theorem dX12_growth_10 : decode cX12_growth 10 = .ok (.iload_n 2, 1) := by decide +kernel
theorem dX12_growth_11 : decode cX12_growth 11 = .ok (.invokevirtual 542, 3) := by decide +kernel
theorem dX12_growth_14 : decode cX12_growth 14 = .ok (.ifCond .eq 12, 3) := by decide +kernel
theorem dX12_growth_17 : decode cX12_growth 17 = .ok (.iload_n 3, 1) := by decide +kernel
theorem dX12_growth_18 : decode cX12_growth 18 = .ok (.ifCond .lt 8, 3) := by decide +kernel
theorem dX12_growth_21 : decode cX12_growth 21 = .ok (.iload_n 3, 1) := by decide +kernel
theorem dX12_growth_22 : decode cX12_growth 22 = .ok (.iconst 2, 1) := by decide +kernel
theorem dX12_growth_23 : decode cX12_growth 23 = .ok (.if_icmp .le 7, 3) := by decide +kernel
theorem dX12_growth_26 : decode cX12_growth 26 = .ok (.iconst 1, 1) := by decide +kernel
theorem dX12_growth_27 : decode cX12_growth 27 = .ok (.goto 4, 3) := by decide +kernel
theorem dX12_growth_30 : decode cX12_growth 30 = .ok (.iconst 0, 1) := by decide +kernel
theorem dX12_growth_31 : decode cX12_growth 31 = .ok (.putfield 388, 3) := by decide +kernel
theorem dX12_growth_34 : decode cX12_growth 34 = .ok (.aload_n 0, 1) := by decide +kernel
theorem dX12_growth_35 : decode cX12_growth 35 = .ok (.getfield 388, 3) := by decide +kernel
theorem dX12_growth_38 : decode cX12_growth 38 = .ok (.ifCond .le 5, 3) := by decide +kernel
theorem dX12_growth_41 : decode cX12_growth 41 = .ok (.iconst 0, 1) := by decide +kernel
theorem dX12_growth_42 : decode cX12_growth 42 = .ok (.ireturn, 1) := by decide +kernel
theorem dX12_growth_43 : decode cX12_growth 43 = .ok (.aload_n 0, 1) := by decide +kernel
theorem dX12_growth_44 : decode cX12_growth 44 = .ok (.iconst 0, 1) := by decide +kernel
theorem dX12_growth_45 : decode cX12_growth 45 = .ok (.putfield 612, 3) := by decide +kernel
theorem dX12_growth_48 : decode cX12_growth 48 = .ok (.iload_n 3, 1) := by decide +kernel
theorem dX12_growth_49 : decode cX12_growth 49 = .ok (.iconst 1, 1) := by decide +kernel
theorem dX12_growth_50 : decode cX12_growth 50 = .ok (.if_icmp .ne 7, 3) := by decide +kernel
theorem dX12_growth_53 : decode cX12_growth 53 = .ok (.iload_n 1, 1) := by decide +kernel
theorem dX12_growth_54 : decode cX12_growth 54 = .ok (.goto 4, 3) := by decide +kernel
theorem dX12_growth_57 : decode cX12_growth 57 = .ok (.iload_n 2, 1) := by decide +kernel
theorem dX12_growth_58 : decode cX12_growth 58 = .ok (.istore 4, 2) := by decide +kernel
theorem dX12_growth_60 : decode cX12_growth 60 = .ok (.iload_n 3, 1) := by decide +kernel
theorem dX12_growth_61 : decode cX12_growth 61 = .ok (.iconst 1, 1) := by decide +kernel
theorem dX12_growth_62 : decode cX12_growth 62 = .ok (.if_icmp .ne 7, 3) := by decide +kernel
theorem dX12_growth_65 : decode cX12_growth 65 = .ok (.iload_n 2, 1) := by decide +kernel
theorem dX12_growth_66 : decode cX12_growth 66 = .ok (.goto 4, 3) := by decide +kernel
theorem dX12_growth_69 : decode cX12_growth 69 = .ok (.iload_n 1, 1) := by decide +kernel
theorem dX12_growth_70 : decode cX12_growth 70 = .ok (.istore 5, 2) := by decide +kernel
theorem dX12_growth_72 : decode cX12_growth 72 = .ok (.iconst 0, 1) := by decide +kernel
theorem dX12_growth_73 : decode cX12_growth 73 = .ok (.istore 6, 2) := by decide +kernel
theorem dX12_growth_75 : decode cX12_growth 75 = .ok (.iload 6, 2) := by decide +kernel
theorem dX12_growth_77 : decode cX12_growth 77 = .ok (.aload_n 0, 1) := by decide +kernel
theorem dX12_growth_78 : decode cX12_growth 78 = .ok (.getfield 183, 3) := by decide +kernel
theorem dX12_growth_81 : decode cX12_growth 81 = .ok (.iload 4, 2) := by decide +kernel
theorem dX12_growth_83 : decode cX12_growth 83 = .ok (.iaload, 1) := by decide +kernel
theorem dX12_growth_84 : decode cX12_growth 84 = .ok (.if_icmp .ge 89, 3) := by decide +kernel
theorem dX12_growth_173 : decode cX12_growth 173 = .ok (.aload_n 0, 1) := by decide +kernel
theorem dX12_growth_174 : decode cX12_growth 174 = .ok (.getfield 612, 3) := by decide +kernel
theorem dX12_growth_177 : decode cX12_growth 177 = .ok (.ireturn, 1) := by decide +kernel
theorem dX12_grown_0 : decode cX12_grown 0 = .ok (.aload_n 0, 1) := by decide +kernel
theorem dX12_grown_1 : decode cX12_grown 1 = .ok (.iconst 0, 1) := by decide +kernel
theorem dX12_grown_2 : decode cX12_grown 2 = .ok (.putfield 388, 3) := by decide +kernel
theorem dX12_grown_5 : decode cX12_grown 5 = .ok (.iload_n 1, 1) := by decide +kernel
theorem dX12_grown_6 : decode cX12_grown 6 = .ok (.ifCond .lt 20, 3) := by decide +kernel
theorem dX12_grown_9 : decode cX12_grown 9 = .ok (.iload_n 1, 1) := by decide +kernel
theorem dX12_grown_10 : decode cX12_grown 10 = .ok (.aload_n 0, 1) := by decide +kernel
theorem dX12_grown_11 : decode cX12_grown 11 = .ok (.getfield 612, 3) := by decide +kernel
theorem dX12_grown_14 : decode cX12_grown 14 = .ok (.if_icmp .ge 12, 3) := by decide +kernel
theorem dX12_grown_26 : decode cX12_grown 26 = .ok (.iconst (-1), 1) := by decide +kernel
theorem dX12_grown_27 : decode cX12_grown 27 = .ok (.ireturn, 1) := by decide +kernel
theorem dX12_like_0 : decode cX12_like 0 = .ok (.aload_n 0, 1) := by decide +kernel
theorem dX12_like_1 : decode cX12_like 1 = .ok (.aload_n 0, 1) := by decide +kernel
theorem dX12_like_2 : decode cX12_like 2 = .ok (.iload_n 1, 1) := by decide +kernel
theorem dX12_like_3 : decode cX12_like 3 = .ok (.iload_n 2, 1) := by decide +kernel
theorem dX12_like_4 : decode cX12_like 4 = .ok (.invokevirtual 600, 3) := by decide +kernel
theorem dX12_like_7 : decode cX12_like 7 = .ok (.ifCond .eq 13, 3) := by decide +kernel
theorem dX12_like_20 : decode cX12_like 20 = .ok (.iconst 1, 1) := by decide +kernel
theorem dX12_like_21 : decode cX12_like 21 = .ok (.goto 4, 3) := by decide +kernel
theorem dX12_like_25 : decode cX12_like 25 = .ok (.putfield 388, 3) := by decide +kernel
theorem dX12_like_28 : decode cX12_like 28 = .ok (.aload_n 0, 1) := by decide +kernel
theorem dX12_like_29 : decode cX12_like 29 = .ok (.getfield 388, 3) := by decide +kernel
theorem dX12_like_32 : decode cX12_like 32 = .ok (.ifCond .le 5, 3) := by decide +kernel
theorem dX12_like_35 : decode cX12_like 35 = .ok (.iconst 0, 1) := by decide +kernel
theorem dX12_like_36 : decode cX12_like 36 = .ok (.ireturn, 1) := by decide +kernel
theorem dX12_byteAt_0 : decode cX12_byteAt 0 = .ok (.iload_n 1, 1) := by decide +kernel
theorem dX12_byteAt_1 : decode cX12_byteAt 1 = .ok (.aload_n 0, 1) := by decide +kernel
theorem dX12_byteAt_2 : decode cX12_byteAt 2 = .ok (.getfield 391, 3) := by decide +kernel
theorem dX12_byteAt_5 : decode cX12_byteAt 5 = .ok (.if_icmp .ge 16, 3) := by decide +kernel
theorem dX12_byteAt_21 : decode cX12_byteAt 21 = .ok (.iconst (-1), 1) := by decide +kernel
theorem dX12_byteAt_22 : decode cX12_byteAt 22 = .ok (.ireturn, 1) := by decide +kernel
theorem dX12_fail_0 : decode cX12_fail 0 = .ok (.aload_n 0, 1) := by decide +kernel
theorem dX12_fail_1 : decode cX12_fail 1 = .ok (.getfield 625, 3) := by decide +kernel
theorem dX12_fail_4 : decode cX12_fail 4 = .ok (.ifCond .le 4, 3) := by decide +kernel
theorem dX12_fail_8 : decode cX12_fail 8 = .ok (.aload_n 0, 1) := by decide +kernel
theorem dX12_fail_9 : decode cX12_fail 9 = .ok (.iload_n 1, 1) := by decide +kernel
theorem dX12_fail_10 : decode cX12_fail 10 = .ok (.putfield 625, 3) := by decide +kernel
theorem dX12_fail_13 : decode cX12_fail 13 = .ok (.aload_n 0, 1) := by decide +kernel
theorem dX12_fail_14 : decode cX12_fail 14 = .ok (.iload_n 2, 1) := by decide +kernel
theorem dX12_fail_15 : decode cX12_fail 15 = .ok (.putfield 628, 3) := by decide +kernel
theorem dX12_fail_18 : decode cX12_fail 18 = .ok (.return_, 1) := by decide +kernel
theorem dX12_advance_0 : decode cX12_advance 0 = .ok (.aload_n 0, 1) := by decide +kernel
theorem dX12_advance_1 : decode cX12_advance 1 = .ok (.aload_n 0, 1) := by decide +kernel
theorem dX12_advance_2 : decode cX12_advance 2 = .ok (.getfield 631, 3) := by decide +kernel
theorem dX12_advance_5 : decode cX12_advance 5 = .ok (.invokevirtual 634, 3) := by decide +kernel
theorem dX12_advance_8 : decode cX12_advance 8 = .ok (.istore_n 1, 1) := by decide +kernel
theorem dX12_advance_9 : decode cX12_advance 9 = .ok (.iload_n 1, 1) := by decide +kernel
theorem dX12_advance_10 : decode cX12_advance 10 = .ok (.bipush 9, 2) := by decide +kernel
theorem dX12_advance_12 : decode cX12_advance 12 = .ok (.if_icmp .eq 21, 3) := by decide +kernel
theorem dX12_advance_15 : decode cX12_advance 15 = .ok (.iload_n 1, 1) := by decide +kernel
theorem dX12_advance_16 : decode cX12_advance 16 = .ok (.bipush 10, 2) := by decide +kernel
theorem dX12_advance_18 : decode cX12_advance 18 = .ok (.if_icmp .eq 15, 3) := by decide +kernel
theorem dX12_advance_21 : decode cX12_advance 21 = .ok (.iload_n 1, 1) := by decide +kernel
theorem dX12_advance_22 : decode cX12_advance 22 = .ok (.bipush 13, 2) := by decide +kernel
theorem dX12_advance_24 : decode cX12_advance 24 = .ok (.if_icmp .eq 9, 3) := by decide +kernel
theorem dX12_advance_27 : decode cX12_advance 27 = .ok (.iload_n 1, 1) := by decide +kernel
theorem dX12_advance_28 : decode cX12_advance 28 = .ok (.bipush 32, 2) := by decide +kernel
theorem dX12_advance_30 : decode cX12_advance 30 = .ok (.if_icmp .ne 25, 3) := by decide +kernel
theorem dX12_advance_55 : decode cX12_advance 55 = .ok (.aload_n 0, 1) := by decide +kernel
theorem dX12_advance_56 : decode cX12_advance 56 = .ok (.aload_n 0, 1) := by decide +kernel
theorem dX12_advance_57 : decode cX12_advance 57 = .ok (.getfield 631, 3) := by decide +kernel
theorem dX12_advance_60 : decode cX12_advance 60 = .ok (.putfield 637, 3) := by decide +kernel
theorem dX12_advance_63 : decode cX12_advance 63 = .ok (.aload_n 0, 1) := by decide +kernel
theorem dX12_advance_64 : decode cX12_advance 64 = .ok (.lconst 0, 1) := by decide +kernel
theorem dX12_advance_65 : decode cX12_advance 65 = .ok (.putfield 640, 3) := by decide +kernel
theorem dX12_advance_68 : decode cX12_advance 68 = .ok (.iload_n 1, 1) := by decide +kernel
theorem dX12_advance_69 : decode cX12_advance 69 = .ok (.iconst (-1), 1) := by decide +kernel
theorem dX12_advance_70 : decode cX12_advance 70 = .ok (.if_icmp .ne 11, 3) := by decide +kernel
theorem dX12_advance_73 : decode cX12_advance 73 = .ok (.aload_n 0, 1) := by decide +kernel
theorem dX12_advance_74 : decode cX12_advance 74 = .ok (.iconst 0, 1) := by decide +kernel
theorem dX12_advance_75 : decode cX12_advance 75 = .ok (.putfield 644, 3) := by decide +kernel
theorem dX12_advance_78 : decode cX12_advance 78 = .ok (.goto 426, 3) := by decide +kernel
theorem dX12_advance_504 : decode cX12_advance 504 = .ok (.return_, 1) := by decide +kernel
theorem dX12_wrong_0 : decode cX12_wrong 0 = .ok (.aload_n 0, 1) := by decide +kernel
theorem dX12_wrong_1 : decode cX12_wrong 1 = .ok (.aload_n 0, 1) := by decide +kernel
theorem dX12_wrong_2 : decode cX12_wrong 2 = .ok (.getfield 644, 3) := by decide +kernel
theorem dX12_wrong_5 : decode cX12_wrong 5 = .ok (.iconst 4, 1) := by decide +kernel
theorem dX12_wrong_6 : decode cX12_wrong 6 = .ok (.if_icmp .ne 7, 3) := by decide +kernel
theorem dX12_wrong_13 : decode cX12_wrong 13 = .ok (.iconst 1, 1) := by decide +kernel
theorem dX12_wrong_14 : decode cX12_wrong 14 = .ok (.aload_n 0, 1) := by decide +kernel
theorem dX12_wrong_15 : decode cX12_wrong 15 = .ok (.getfield 637, 3) := by decide +kernel
theorem dX12_wrong_18 : decode cX12_wrong 18 = .ok (.invokevirtual 653, 3) := by decide +kernel
theorem dX12_wrong_21 : decode cX12_wrong 21 = .ok (.return_, 1) := by decide +kernel
theorem dX12_isSign_0 : decode cX12_isSign 0 = .ok (.aload_n 0, 1) := by decide +kernel
theorem dX12_isSign_1 : decode cX12_isSign 1 = .ok (.getfield 644, 3) := by decide +kernel
theorem dX12_isSign_4 : decode cX12_isSign 4 = .ok (.iconst 3, 1) := by decide +kernel
theorem dX12_isSign_5 : decode cX12_isSign 5 = .ok (.if_icmp .ne 16, 3) := by decide +kernel
theorem dX12_isSign_21 : decode cX12_isSign 21 = .ok (.iconst 0, 1) := by decide +kernel
theorem dX12_isSign_22 : decode cX12_isSign 22 = .ok (.ireturn, 1) := by decide +kernel
theorem dX12_isKey_0 : decode cX12_isKey 0 = .ok (.aload_n 0, 1) := by decide +kernel
theorem dX12_isKey_1 : decode cX12_isKey 1 = .ok (.getfield 644, 3) := by decide +kernel
theorem dX12_isKey_4 : decode cX12_isKey 4 = .ok (.iconst 1, 1) := by decide +kernel
theorem dX12_isKey_5 : decode cX12_isKey 5 = .ok (.if_icmp .ne 21, 3) := by decide +kernel
theorem dX12_isKey_26 : decode cX12_isKey 26 = .ok (.iconst 0, 1) := by decide +kernel
theorem dX12_isKey_27 : decode cX12_isKey 27 = .ok (.ireturn, 1) := by decide +kernel
theorem dX12_isName_0 : decode cX12_isName 0 = .ok (.aload_n 0, 1) := by decide +kernel
theorem dX12_isName_1 : decode cX12_isName 1 = .ok (.getfield 644, 3) := by decide +kernel
theorem dX12_isName_4 : decode cX12_isName 4 = .ok (.iconst 1, 1) := by decide +kernel
theorem dX12_isName_5 : decode cX12_isName 5 = .ok (.if_icmp .ne 19, 3) := by decide +kernel
theorem dX12_isName_24 : decode cX12_isName 24 = .ok (.iconst 0, 1) := by decide +kernel
theorem dX12_isName_25 : decode cX12_isName 25 = .ok (.ireturn, 1) := by decide +kernel
theorem dX12_takesKey_0 : decode cX12_takesKey 0 = .ok (.aload_n 0, 1) := by decide +kernel
theorem dX12_takesKey_1 : decode cX12_takesKey 1 = .ok (.getfield 625, 3) := by decide +kernel
theorem dX12_takesKey_4 : decode cX12_takesKey 4 = .ok (.ifCond .ne 15, 3) := by decide +kernel
theorem dX12_takesKey_19 : decode cX12_takesKey 19 = .ok (.iconst 0, 1) := by decide +kernel
theorem dX12_takesKey_20 : decode cX12_takesKey 20 = .ok (.istore_n 2, 1) := by decide +kernel
theorem dX12_takesKey_21 : decode cX12_takesKey 21 = .ok (.iload_n 2, 1) := by decide +kernel
theorem dX12_takesKey_22 : decode cX12_takesKey 22 = .ok (.ifCond .eq 7, 3) := by decide +kernel
theorem dX12_takesKey_29 : decode cX12_takesKey 29 = .ok (.iload_n 2, 1) := by decide +kernel
theorem dX12_takesKey_30 : decode cX12_takesKey 30 = .ok (.ireturn, 1) := by decide +kernel
theorem dX12_readE_0 : decode cX12_readE 0 = .ok (.aload_n 0, 1) := by decide +kernel
theorem dX12_readE_1 : decode cX12_readE 1 = .ok (.invokevirtual 679, 3) := by decide +kernel
theorem dX12_readE_4 : decode cX12_readE 4 = .ok (.istore_n 1, 1) := by decide +kernel
theorem dX12_readE_5 : decode cX12_readE 5 = .ok (.aload_n 0, 1) := by decide +kernel
theorem dX12_readE_6 : decode cX12_readE 6 = .ok (.getfield 625, 3) := by decide +kernel
theorem dX12_readE_9 : decode cX12_readE 9 = .ok (.ifCond .ne 45, 3) := by decide +kernel
theorem dX12_readE_54 : decode cX12_readE 54 = .ok (.iload_n 1, 1) := by decide +kernel
theorem dX12_readE_55 : decode cX12_readE 55 = .ok (.ireturn, 1) := by decide +kernel
theorem dX12_readAnd_0 : decode cX12_readAnd 0 = .ok (.aload_n 0, 1) := by decide +kernel
theorem dX12_readAnd_1 : decode cX12_readAnd 1 = .ok (.invokevirtual 686, 3) := by decide +kernel
theorem dX12_readAnd_4 : decode cX12_readAnd 4 = .ok (.istore_n 1, 1) := by decide +kernel
theorem dX12_readAnd_5 : decode cX12_readAnd 5 = .ok (.aload_n 0, 1) := by decide +kernel
theorem dX12_readAnd_6 : decode cX12_readAnd 6 = .ok (.getfield 625, 3) := by decide +kernel
theorem dX12_readAnd_9 : decode cX12_readAnd 9 = .ok (.ifCond .ne 43, 3) := by decide +kernel
theorem dX12_readAnd_52 : decode cX12_readAnd 52 = .ok (.iload_n 1, 1) := by decide +kernel
theorem dX12_readAnd_53 : decode cX12_readAnd 53 = .ok (.ireturn, 1) := by decide +kernel
theorem dX12_readNot_0 : decode cX12_readNot 0 = .ok (.aload_n 0, 1) := by decide +kernel
theorem dX12_readNot_1 : decode cX12_readNot 1 = .ok (.getfield 625, 3) := by decide +kernel
theorem dX12_readNot_4 : decode cX12_readNot 4 = .ok (.ifCond .gt 12, 3) := by decide +kernel
theorem dX12_readNot_7 : decode cX12_readNot 7 = .ok (.aload_n 0, 1) := by decide +kernel
theorem dX12_readNot_8 : decode cX12_readNot 8 = .ok (.bipush 7, 2) := by decide +kernel
theorem dX12_readNot_10 : decode cX12_readNot 10 = .ok (.invokevirtual 667, 3) := by decide +kernel
theorem dX12_readNot_13 : decode cX12_readNot 13 = .ok (.ifCond .ne 8, 3) := by decide +kernel
theorem dX12_readNot_16 : decode cX12_readNot 16 = .ok (.aload_n 0, 1) := by decide +kernel
theorem dX12_readNot_17 : decode cX12_readNot 17 = .ok (.invokevirtual 689, 3) := by decide +kernel
theorem dX12_readNot_20 : decode cX12_readNot 20 = .ok (.ireturn, 1) := by decide +kernel
theorem dX12_readCompared_0 : decode cX12_readCompared 0 = .ok (.aload_n 0, 1) := by decide +kernel
theorem dX12_readCompared_1 : decode cX12_readCompared 1 = .ok (.invokevirtual 704, 3) := by decide +kernel
theorem dX12_readCompared_4 : decode cX12_readCompared 4 = .ok (.istore_n 1, 1) := by decide +kernel
theorem dX12_readCompared_5 : decode cX12_readCompared 5 = .ok (.aload_n 0, 1) := by decide +kernel
theorem dX12_readCompared_6 : decode cX12_readCompared 6 = .ok (.getfield 625, 3) := by decide +kernel
theorem dX12_readCompared_9 : decode cX12_readCompared 9 = .ok (.ifCond .le 5, 3) := by decide +kernel
theorem dX12_readCompared_12 : decode cX12_readCompared 12 = .ok (.iload_n 1, 1) := by decide +kernel
theorem dX12_readCompared_13 : decode cX12_readCompared 13 = .ok (.ireturn, 1) := by decide +kernel
theorem dX12_readSum_0 : decode cX12_readSum 0 = .ok (.aload_n 0, 1) := by decide +kernel
theorem dX12_readSum_1 : decode cX12_readSum 1 = .ok (.invokevirtual 714, 3) := by decide +kernel
theorem dX12_readSum_4 : decode cX12_readSum 4 = .ok (.istore_n 1, 1) := by decide +kernel
theorem dX12_readSum_5 : decode cX12_readSum 5 = .ok (.aload_n 0, 1) := by decide +kernel
theorem dX12_readSum_6 : decode cX12_readSum 6 = .ok (.getfield 625, 3) := by decide +kernel
theorem dX12_readSum_9 : decode cX12_readSum 9 = .ok (.ifCond .ne 71, 3) := by decide +kernel
theorem dX12_readSum_80 : decode cX12_readSum 80 = .ok (.iload_n 1, 1) := by decide +kernel
theorem dX12_readSum_81 : decode cX12_readSum 81 = .ok (.ireturn, 1) := by decide +kernel
theorem dX12_readProduct_0 : decode cX12_readProduct 0 = .ok (.aload_n 0, 1) := by decide +kernel
theorem dX12_readProduct_1 : decode cX12_readProduct 1 = .ok (.invokevirtual 721, 3) := by decide +kernel
theorem dX12_readProduct_4 : decode cX12_readProduct 4 = .ok (.istore_n 1, 1) := by decide +kernel
theorem dX12_readProduct_5 : decode cX12_readProduct 5 = .ok (.aload_n 0, 1) := by decide +kernel
theorem dX12_readProduct_6 : decode cX12_readProduct 6 = .ok (.getfield 625, 3) := by decide +kernel
theorem dX12_readProduct_9 : decode cX12_readProduct 9 = .ok (.ifCond .ne 96, 3) := by decide +kernel
theorem dX12_readProduct_105 : decode cX12_readProduct 105 = .ok (.iload_n 1, 1) := by decide +kernel
theorem dX12_readProduct_106 : decode cX12_readProduct 106 = .ok (.ireturn, 1) := by decide +kernel
theorem dX12_readTurned_0 : decode cX12_readTurned 0 = .ok (.aload_n 0, 1) := by decide +kernel
theorem dX12_readTurned_1 : decode cX12_readTurned 1 = .ok (.getfield 625, 3) := by decide +kernel
theorem dX12_readTurned_4 : decode cX12_readTurned 4 = .ok (.ifCond .gt 13, 3) := by decide +kernel
theorem dX12_readTurned_7 : decode cX12_readTurned 7 = .ok (.aload_n 0, 1) := by decide +kernel
theorem dX12_readTurned_8 : decode cX12_readTurned 8 = .ok (.ldc2_w 719, 3) := by decide +kernel
theorem dX12_readTurned_11 : decode cX12_readTurned 11 = .ok (.invokevirtual 657, 3) := by decide +kernel
theorem dX12_readTurned_14 : decode cX12_readTurned 14 = .ok (.ifCond .ne 8, 3) := by decide +kernel
theorem dX12_readTurned_17 : decode cX12_readTurned 17 = .ok (.aload_n 0, 1) := by decide +kernel
theorem dX12_readTurned_18 : decode cX12_readTurned 18 = .ok (.invokevirtual 730, 3) := by decide +kernel
theorem dX12_readTurned_21 : decode cX12_readTurned 21 = .ok (.ireturn, 1) := by decide +kernel
theorem dX12_readP_0 : decode cX12_readP 0 = .ok (.aload_n 0, 1) := by decide +kernel
theorem dX12_readP_1 : decode cX12_readP 1 = .ok (.invokevirtual 733, 3) := by decide +kernel
theorem dX12_readP_4 : decode cX12_readP 4 = .ok (.istore_n 1, 1) := by decide +kernel
theorem dX12_readP_5 : decode cX12_readP 5 = .ok (.aload_n 0, 1) := by decide +kernel
theorem dX12_readP_6 : decode cX12_readP 6 = .ok (.getfield 625, 3) := by decide +kernel
theorem dX12_readP_9 : decode cX12_readP 9 = .ok (.ifCond .ne 162, 3) := by decide +kernel
theorem dX12_readP_171 : decode cX12_readP 171 = .ok (.iload_n 1, 1) := by decide +kernel
theorem dX12_readP_172 : decode cX12_readP 172 = .ok (.ireturn, 1) := by decide +kernel
theorem dX12_keyAtHand_0 : decode cX12_keyAtHand 0 = .ok (.aload_n 0, 1) := by decide +kernel
theorem dX12_keyAtHand_1 : decode cX12_keyAtHand 1 = .ok (.getfield 644, 3) := by decide +kernel
theorem dX12_keyAtHand_4 : decode cX12_keyAtHand 4 = .ok (.iconst 1, 1) := by decide +kernel
theorem dX12_keyAtHand_5 : decode cX12_keyAtHand 5 = .ok (.if_icmp .ne 14, 3) := by decide +kernel
theorem dX12_keyAtHand_19 : decode cX12_keyAtHand 19 = .ok (.iconst (-1), 1) := by decide +kernel
theorem dX12_keyAtHand_20 : decode cX12_keyAtHand 20 = .ok (.ireturn, 1) := by decide +kernel
theorem dX12_readAtom_0 : decode cX12_readAtom 0 = .ok (.aload_n 0, 1) := by decide +kernel
theorem dX12_readAtom_1 : decode cX12_readAtom 1 = .ok (.getfield 625, 3) := by decide +kernel
theorem dX12_readAtom_4 : decode cX12_readAtom 4 = .ok (.ifCond .le 8, 3) := by decide +kernel
theorem dX12_readAtom_12 : decode cX12_readAtom 12 = .ok (.aload_n 0, 1) := by decide +kernel
theorem dX12_readAtom_13 : decode cX12_readAtom 13 = .ok (.invokevirtual 751, 3) := by decide +kernel
theorem dX12_readAtom_16 : decode cX12_readAtom 16 = .ok (.istore_n 1, 1) := by decide +kernel
theorem dX12_readAtom_17 : decode cX12_readAtom 17 = .ok (.aload_n 0, 1) := by decide +kernel
theorem dX12_readAtom_18 : decode cX12_readAtom 18 = .ok (.ldc2_w 754, 3) := by decide +kernel
theorem dX12_readAtom_21 : decode cX12_readAtom 21 = .ok (.invokevirtual 657, 3) := by decide +kernel
theorem dX12_readAtom_24 : decode cX12_readAtom 24 = .ok (.ifCond .eq 56, 3) := by decide +kernel
theorem dX12_readAtom_80 : decode cX12_readAtom 80 = .ok (.iload_n 1, 1) := by decide +kernel
theorem dX12_readAtom_81 : decode cX12_readAtom 81 = .ok (.bipush 13, 2) := by decide +kernel
theorem dX12_readAtom_83 : decode cX12_readAtom 83 = .ok (.if_icmp .lt 15, 3) := by decide +kernel
theorem dX12_readAtom_98 : decode cX12_readAtom 98 = .ok (.iload_n 1, 1) := by decide +kernel
theorem dX12_readAtom_99 : decode cX12_readAtom 99 = .ok (.bipush 19, 2) := by decide +kernel
theorem dX12_readAtom_101 : decode cX12_readAtom 101 = .ok (.if_icmp .lt 38, 3) := by decide +kernel
theorem dX12_readAtom_139 : decode cX12_readAtom 139 = .ok (.iload_n 1, 1) := by decide +kernel
theorem dX12_readAtom_140 : decode cX12_readAtom 140 = .ok (.bipush 28, 2) := by decide +kernel
theorem dX12_readAtom_142 : decode cX12_readAtom 142 = .ok (.if_icmp .ne 63, 3) := by decide +kernel
theorem dX12_readAtom_205 : decode cX12_readAtom 205 = .ok (.aload_n 0, 1) := by decide +kernel
theorem dX12_readAtom_206 : decode cX12_readAtom 206 = .ok (.getfield 644, 3) := by decide +kernel
theorem dX12_readAtom_209 : decode cX12_readAtom 209 = .ok (.iconst 2, 1) := by decide +kernel
theorem dX12_readAtom_210 : decode cX12_readAtom 210 = .ok (.if_icmp .eq 27, 3) := by decide +kernel
theorem dX12_readAtom_213 : decode cX12_readAtom 213 = .ok (.iload_n 1, 1) := by decide +kernel
theorem dX12_readAtom_214 : decode cX12_readAtom 214 = .ok (.bipush 8, 2) := by decide +kernel
theorem dX12_readAtom_216 : decode cX12_readAtom 216 = .ok (.if_icmp .eq 21, 3) := by decide +kernel
theorem dX12_readAtom_219 : decode cX12_readAtom 219 = .ok (.iload_n 1, 1) := by decide +kernel
theorem dX12_readAtom_220 : decode cX12_readAtom 220 = .ok (.bipush 9, 2) := by decide +kernel
theorem dX12_readAtom_222 : decode cX12_readAtom 222 = .ok (.if_icmp .eq 15, 3) := by decide +kernel
theorem dX12_readAtom_225 : decode cX12_readAtom 225 = .ok (.iload_n 1, 1) := by decide +kernel
theorem dX12_readAtom_226 : decode cX12_readAtom 226 = .ok (.bipush 10, 2) := by decide +kernel
theorem dX12_readAtom_228 : decode cX12_readAtom 228 = .ok (.if_icmp .eq 9, 3) := by decide +kernel
theorem dX12_readAtom_231 : decode cX12_readAtom 231 = .ok (.iload_n 1, 1) := by decide +kernel
theorem dX12_readAtom_232 : decode cX12_readAtom 232 = .ok (.bipush 27, 2) := by decide +kernel
theorem dX12_readAtom_234 : decode cX12_readAtom 234 = .ok (.if_icmp .ne 7, 3) := by decide +kernel
theorem dX12_readAtom_241 : decode cX12_readAtom 241 = .ok (.iconst 0, 1) := by decide +kernel
theorem dX12_readAtom_242 : decode cX12_readAtom 242 = .ok (.istore_n 2, 1) := by decide +kernel
theorem dX12_readAtom_243 : decode cX12_readAtom 243 = .ok (.iload_n 2, 1) := by decide +kernel
theorem dX12_readAtom_244 : decode cX12_readAtom 244 = .ok (.ifCond .ne 19, 3) := by decide +kernel
theorem dX12_readAtom_247 : decode cX12_readAtom 247 = .ok (.aload_n 0, 1) := by decide +kernel
theorem dX12_readAtom_248 : decode cX12_readAtom 248 = .ok (.invokevirtual 710, 3) := by decide +kernel
theorem dX12_readAtom_251 : decode cX12_readAtom 251 = .ok (.ifCond .ne 12, 3) := by decide +kernel
theorem dX12_readAtom_254 : decode cX12_readAtom 254 = .ok (.aload_n 0, 1) := by decide +kernel
theorem dX12_readAtom_255 : decode cX12_readAtom 255 = .ok (.invokevirtual 664, 3) := by decide +kernel
theorem dX12_readAtom_258 : decode cX12_readAtom 258 = .ok (.aload_n 0, 1) := by decide +kernel
theorem dX12_readAtom_259 : decode cX12_readAtom 259 = .ok (.getfield 673, 3) := by decide +kernel
theorem dX12_readAtom_262 : decode cX12_readAtom 262 = .ok (.ireturn, 1) := by decide +kernel
theorem dX12_readSet_0 : decode cX12_readSet 0 = .ok (.aload_n 0, 1) := by decide +kernel
theorem dX12_readSet_1 : decode cX12_readSet 1 = .ok (.getfield 625, 3) := by decide +kernel
theorem dX12_readSet_4 : decode cX12_readSet 4 = .ok (.ifCond .le 8, 3) := by decide +kernel
theorem dX12_readSet_12 : decode cX12_readSet 12 = .ok (.aload_n 0, 1) := by decide +kernel
theorem dX12_readSet_13 : decode cX12_readSet 13 = .ok (.invokevirtual 751, 3) := by decide +kernel
theorem dX12_readSet_16 : decode cX12_readSet 16 = .ok (.istore_n 1, 1) := by decide +kernel
theorem dX12_readSet_17 : decode cX12_readSet 17 = .ok (.iload_n 1, 1) := by decide +kernel
theorem dX12_readSet_18 : decode cX12_readSet 18 = .ok (.ifCond .eq 31, 3) := by decide +kernel
theorem dX12_readSet_21 : decode cX12_readSet 21 = .ok (.iload_n 1, 1) := by decide +kernel
theorem dX12_readSet_22 : decode cX12_readSet 22 = .ok (.iconst 1, 1) := by decide +kernel
theorem dX12_readSet_23 : decode cX12_readSet 23 = .ok (.if_icmp .eq 26, 3) := by decide +kernel
theorem dX12_readSet_26 : decode cX12_readSet 26 = .ok (.iload_n 1, 1) := by decide +kernel
theorem dX12_readSet_27 : decode cX12_readSet 27 = .ok (.iconst 2, 1) := by decide +kernel
theorem dX12_readSet_28 : decode cX12_readSet 28 = .ok (.if_icmp .eq 21, 3) := by decide +kernel
theorem dX12_readSet_31 : decode cX12_readSet 31 = .ok (.iload_n 1, 1) := by decide +kernel
theorem dX12_readSet_32 : decode cX12_readSet 32 = .ok (.bipush 24, 2) := by decide +kernel
theorem dX12_readSet_34 : decode cX12_readSet 34 = .ok (.if_icmp .eq 15, 3) := by decide +kernel
theorem dX12_readSet_37 : decode cX12_readSet 37 = .ok (.iload_n 1, 1) := by decide +kernel
theorem dX12_readSet_38 : decode cX12_readSet 38 = .ok (.bipush 25, 2) := by decide +kernel
theorem dX12_readSet_40 : decode cX12_readSet 40 = .ok (.if_icmp .eq 9, 3) := by decide +kernel
theorem dX12_readSet_43 : decode cX12_readSet 43 = .ok (.iload_n 1, 1) := by decide +kernel
theorem dX12_readSet_44 : decode cX12_readSet 44 = .ok (.bipush 26, 2) := by decide +kernel
theorem dX12_readSet_46 : decode cX12_readSet 46 = .ok (.if_icmp .ne 7, 3) := by decide +kernel
theorem dX12_readSet_53 : decode cX12_readSet 53 = .ok (.iconst 0, 1) := by decide +kernel
theorem dX12_readSet_54 : decode cX12_readSet 54 = .ok (.istore_n 2, 1) := by decide +kernel
theorem dX12_readSet_55 : decode cX12_readSet 55 = .ok (.iload_n 2, 1) := by decide +kernel
theorem dX12_readSet_56 : decode cX12_readSet 56 = .ok (.ifCond .ne 12, 3) := by decide +kernel
theorem dX12_readSet_59 : decode cX12_readSet 59 = .ok (.aload_n 0, 1) := by decide +kernel
theorem dX12_readSet_60 : decode cX12_readSet 60 = .ok (.invokevirtual 664, 3) := by decide +kernel
theorem dX12_readSet_63 : decode cX12_readSet 63 = .ok (.aload_n 0, 1) := by decide +kernel
theorem dX12_readSet_64 : decode cX12_readSet 64 = .ok (.getfield 673, 3) := by decide +kernel
theorem dX12_readSet_67 : decode cX12_readSet 67 = .ok (.ireturn, 1) := by decide +kernel
theorem dX12_beginText_0 : decode cX12_beginText 0 = .ok (.aload_n 0, 1) := by decide +kernel
theorem dX12_beginText_1 : decode cX12_beginText 1 = .ok (.iload_n 1, 1) := by decide +kernel
theorem dX12_beginText_2 : decode cX12_beginText 2 = .ok (.putfield 673, 3) := by decide +kernel
theorem dX12_beginText_5 : decode cX12_beginText 5 = .ok (.aload_n 0, 1) := by decide +kernel
theorem dX12_beginText_6 : decode cX12_beginText 6 = .ok (.iconst 0, 1) := by decide +kernel
theorem dX12_beginText_7 : decode cX12_beginText 7 = .ok (.putfield 670, 3) := by decide +kernel
theorem dX12_beginText_10 : decode cX12_beginText 10 = .ok (.aload_n 0, 1) := by decide +kernel
theorem dX12_beginText_11 : decode cX12_beginText 11 = .ok (.iconst 0, 1) := by decide +kernel
theorem dX12_beginText_12 : decode cX12_beginText 12 = .ok (.putfield 676, 3) := by decide +kernel
theorem dX12_beginText_15 : decode cX12_beginText 15 = .ok (.aload_n 0, 1) := by decide +kernel
theorem dX12_beginText_16 : decode cX12_beginText 16 = .ok (.iconst 0, 1) := by decide +kernel
theorem dX12_beginText_17 : decode cX12_beginText 17 = .ok (.putfield 761, 3) := by decide +kernel
theorem dX12_beginText_20 : decode cX12_beginText 20 = .ok (.aload_n 0, 1) := by decide +kernel
theorem dX12_beginText_21 : decode cX12_beginText 21 = .ok (.iconst 0, 1) := by decide +kernel
theorem dX12_beginText_22 : decode cX12_beginText 22 = .ok (.putfield 625, 3) := by decide +kernel
theorem dX12_beginText_25 : decode cX12_beginText 25 = .ok (.aload_n 0, 1) := by decide +kernel
theorem dX12_beginText_26 : decode cX12_beginText 26 = .ok (.iconst (-1), 1) := by decide +kernel
theorem dX12_beginText_27 : decode cX12_beginText 27 = .ok (.putfield 628, 3) := by decide +kernel
theorem dX12_beginText_30 : decode cX12_beginText 30 = .ok (.aload_n 0, 1) := by decide +kernel
theorem dX12_beginText_31 : decode cX12_beginText 31 = .ok (.iconst 0, 1) := by decide +kernel
theorem dX12_beginText_32 : decode cX12_beginText 32 = .ok (.putfield 631, 3) := by decide +kernel
theorem dX12_beginText_35 : decode cX12_beginText 35 = .ok (.aload_n 0, 1) := by decide +kernel
theorem dX12_beginText_36 : decode cX12_beginText 36 = .ok (.invokevirtual 661, 3) := by decide +kernel
theorem dX12_beginText_39 : decode cX12_beginText 39 = .ok (.return_, 1) := by decide +kernel
theorem dX12_endText_0 : decode cX12_endText 0 = .ok (.aload_n 0, 1) := by decide +kernel
theorem dX12_endText_1 : decode cX12_endText 1 = .ok (.getfield 625, 3) := by decide +kernel
theorem dX12_endText_4 : decode cX12_endText 4 = .ok (.ifCond .ne 14, 3) := by decide +kernel
theorem dX12_endText_7 : decode cX12_endText 7 = .ok (.aload_n 0, 1) := by decide +kernel
theorem dX12_endText_8 : decode cX12_endText 8 = .ok (.getfield 644, 3) := by decide +kernel
theorem dX12_endText_11 : decode cX12_endText 11 = .ok (.ifCond .eq 7, 3) := by decide +kernel
theorem dX12_endText_18 : decode cX12_endText 18 = .ok (.aload_n 0, 1) := by decide +kernel
theorem dX12_endText_19 : decode cX12_endText 19 = .ok (.aload_n 0, 1) := by decide +kernel
theorem dX12_endText_20 : decode cX12_endText 20 = .ok (.getfield 625, 3) := by decide +kernel
theorem dX12_endText_23 : decode cX12_endText 23 = .ok (.putfield 776, 3) := by decide +kernel
theorem dX12_endText_26 : decode cX12_endText 26 = .ok (.aload_n 0, 1) := by decide +kernel
theorem dX12_endText_27 : decode cX12_endText 27 = .ok (.aload_n 0, 1) := by decide +kernel
theorem dX12_endText_28 : decode cX12_endText 28 = .ok (.getfield 625, 3) := by decide +kernel
theorem dX12_endText_31 : decode cX12_endText 31 = .ok (.ifCond .le 10, 3) := by decide +kernel
theorem dX12_endText_34 : decode cX12_endText 34 = .ok (.aload_n 0, 1) := by decide +kernel
theorem dX12_endText_35 : decode cX12_endText 35 = .ok (.getfield 628, 3) := by decide +kernel
theorem dX12_endText_38 : decode cX12_endText 38 = .ok (.goto 4, 3) := by decide +kernel
theorem dX12_endText_41 : decode cX12_endText 41 = .ok (.iconst (-1), 1) := by decide +kernel
theorem dX12_endText_42 : decode cX12_endText 42 = .ok (.putfield 268, 3) := by decide +kernel
theorem dX12_endText_45 : decode cX12_endText 45 = .ok (.return_, 1) := by decide +kernel
theorem dX12_ask_0 : decode cX12_ask 0 = .ok (.aload_n 0, 1) := by decide +kernel
theorem dX12_ask_1 : decode cX12_ask 1 = .ok (.aload_n 0, 1) := by decide +kernel
theorem dX12_ask_2 : decode cX12_ask 2 = .ok (.iload_n 1, 1) := by decide +kernel
theorem dX12_ask_3 : decode cX12_ask 3 = .ok (.invokevirtual 542, 3) := by decide +kernel
theorem dX12_ask_6 : decode cX12_ask 6 = .ok (.ifCond .eq 7, 3) := by decide +kernel
theorem dX12_ask_9 : decode cX12_ask 9 = .ok (.iconst 0, 1) := by decide +kernel
theorem dX12_ask_10 : decode cX12_ask 10 = .ok (.goto 4, 3) := by decide +kernel
theorem dX12_ask_13 : decode cX12_ask 13 = .ok (.iconst 1, 1) := by decide +kernel
theorem dX12_ask_14 : decode cX12_ask 14 = .ok (.putfield 388, 3) := by decide +kernel
theorem dX12_ask_17 : decode cX12_ask 17 = .ok (.aload_n 0, 1) := by decide +kernel
theorem dX12_ask_18 : decode cX12_ask 18 = .ok (.getfield 388, 3) := by decide +kernel
theorem dX12_ask_21 : decode cX12_ask 21 = .ok (.ifCond .le 5, 3) := by decide +kernel
theorem dX12_ask_24 : decode cX12_ask 24 = .ok (.iconst 0, 1) := by decide +kernel
theorem dX12_ask_25 : decode cX12_ask 25 = .ok (.ireturn, 1) := by decide +kernel
theorem dX12_ask_26 : decode cX12_ask 26 = .ok (.aload_n 0, 1) := by decide +kernel
theorem dX12_ask_27 : decode cX12_ask 27 = .ok (.iconst 0, 1) := by decide +kernel
theorem dX12_ask_28 : decode cX12_ask 28 = .ok (.putfield 852, 3) := by decide +kernel
theorem dX12_ask_31 : decode cX12_ask 31 = .ok (.aload_n 0, 1) := by decide +kernel
theorem dX12_ask_32 : decode cX12_ask 32 = .ok (.iconst 0, 1) := by decide +kernel
theorem dX12_ask_33 : decode cX12_ask 33 = .ok (.invokevirtual 855, 3) := by decide +kernel
theorem dX12_ask_36 : decode cX12_ask 36 = .ok (.aload_n 0, 1) := by decide +kernel
theorem dX12_ask_37 : decode cX12_ask 37 = .ok (.iconst 0, 1) := by decide +kernel
theorem dX12_ask_38 : decode cX12_ask 38 = .ok (.putfield 764, 3) := by decide +kernel
theorem dX12_ask_41 : decode cX12_ask 41 = .ok (.aload_n 0, 1) := by decide +kernel
theorem dX12_ask_42 : decode cX12_ask 42 = .ok (.invokevirtual 771, 3) := by decide +kernel
theorem dX12_ask_45 : decode cX12_ask 45 = .ok (.istore_n 2, 1) := by decide +kernel
theorem dX12_ask_46 : decode cX12_ask 46 = .ok (.aload_n 0, 1) := by decide +kernel
theorem dX12_ask_47 : decode cX12_ask 47 = .ok (.iconst 1, 1) := by decide +kernel
theorem dX12_ask_48 : decode cX12_ask 48 = .ok (.putfield 764, 3) := by decide +kernel
theorem dX12_ask_51 : decode cX12_ask 51 = .ok (.aload_n 0, 1) := by decide +kernel
theorem dX12_ask_52 : decode cX12_ask 52 = .ok (.iconst 3, 1) := by decide +kernel
theorem dX12_ask_53 : decode cX12_ask 53 = .ok (.invokevirtual 768, 3) := by decide +kernel
theorem dX12_ask_56 : decode cX12_ask 56 = .ok (.ifCond .eq 10, 3) := by decide +kernel
theorem dX12_ask_66 : decode cX12_ask 66 = .ok (.iconst (-1), 1) := by decide +kernel
theorem dX12_ask_67 : decode cX12_ask 67 = .ok (.istore_n 3, 1) := by decide +kernel
theorem dX12_ask_68 : decode cX12_ask 68 = .ok (.aload_n 0, 1) := by decide +kernel
theorem dX12_ask_69 : decode cX12_ask 69 = .ok (.iconst 4, 1) := by decide +kernel
theorem dX12_ask_70 : decode cX12_ask 70 = .ok (.invokevirtual 768, 3) := by decide +kernel
theorem dX12_ask_73 : decode cX12_ask 73 = .ok (.ifCond .eq 10, 3) := by decide +kernel
theorem dX12_ask_83 : decode cX12_ask 83 = .ok (.iconst (-1), 1) := by decide +kernel
theorem dX12_ask_84 : decode cX12_ask 84 = .ok (.istore 4, 2) := by decide +kernel
theorem dX12_ask_86 : decode cX12_ask 86 = .ok (.aload_n 0, 1) := by decide +kernel
theorem dX12_ask_87 : decode cX12_ask 87 = .ok (.invokevirtual 858, 3) := by decide +kernel
theorem dX12_ask_90 : decode cX12_ask 90 = .ok (.aload_n 0, 1) := by decide +kernel
theorem dX12_ask_91 : decode cX12_ask 91 = .ok (.getfield 776, 3) := by decide +kernel
theorem dX12_ask_94 : decode cX12_ask 94 = .ok (.ifCond .ne 12, 3) := by decide +kernel
theorem dX12_ask_106 : decode cX12_ask 106 = .ok (.aload_n 0, 1) := by decide +kernel
theorem dX12_ask_107 : decode cX12_ask 107 = .ok (.aload_n 0, 1) := by decide +kernel
theorem dX12_ask_108 : decode cX12_ask 108 = .ok (.getfield 776, 3) := by decide +kernel
theorem dX12_ask_111 : decode cX12_ask 111 = .ok (.ifCond .le 7, 3) := by decide +kernel
theorem dX12_ask_114 : decode cX12_ask 114 = .ok (.iconst 2, 1) := by decide +kernel
theorem dX12_ask_115 : decode cX12_ask 115 = .ok (.goto 4, 3) := by decide +kernel
theorem dX12_ask_119 : decode cX12_ask 119 = .ok (.putfield 388, 3) := by decide +kernel
theorem dX12_ask_122 : decode cX12_ask 122 = .ok (.aload_n 0, 1) := by decide +kernel
theorem dX12_ask_123 : decode cX12_ask 123 = .ok (.getfield 388, 3) := by decide +kernel
theorem dX12_ask_126 : decode cX12_ask 126 = .ok (.ifCond .le 8, 3) := by decide +kernel
theorem dX12_ask_129 : decode cX12_ask 129 = .ok (.aload_n 0, 1) := by decide +kernel
theorem dX12_ask_130 : decode cX12_ask 130 = .ok (.iconst 0, 1) := by decide +kernel
theorem dX12_ask_131 : decode cX12_ask 131 = .ok (.putfield 852, 3) := by decide +kernel
theorem dX12_ask_134 : decode cX12_ask 134 = .ok (.aload_n 0, 1) := by decide +kernel
theorem dX12_ask_135 : decode cX12_ask 135 = .ok (.getfield 852, 3) := by decide +kernel
theorem dX12_ask_138 : decode cX12_ask 138 = .ok (.ireturn, 1) := by decide +kernel
theorem dX12_answer_0 : decode cX12_answer 0 = .ok (.aload_n 0, 1) := by decide +kernel
theorem dX12_answer_1 : decode cX12_answer 1 = .ok (.iload_n 1, 1) := by decide +kernel
theorem dX12_answer_2 : decode cX12_answer 2 = .ok (.ifCond .lt 20, 3) := by decide +kernel
theorem dX12_answer_5 : decode cX12_answer 5 = .ok (.iload_n 1, 1) := by decide +kernel
theorem dX12_answer_6 : decode cX12_answer 6 = .ok (.aload_n 0, 1) := by decide +kernel
theorem dX12_answer_7 : decode cX12_answer 7 = .ok (.getfield 852, 3) := by decide +kernel
theorem dX12_answer_10 : decode cX12_answer 10 = .ok (.if_icmp .ge 12, 3) := by decide +kernel
theorem dX12_answer_22 : decode cX12_answer 22 = .ok (.iconst 1, 1) := by decide +kernel
theorem dX12_answer_23 : decode cX12_answer 23 = .ok (.goto 4, 3) := by decide +kernel
theorem dX12_answer_27 : decode cX12_answer 27 = .ok (.putfield 388, 3) := by decide +kernel
theorem dX12_answer_30 : decode cX12_answer 30 = .ok (.aload_n 0, 1) := by decide +kernel
theorem dX12_answer_31 : decode cX12_answer 31 = .ok (.getfield 388, 3) := by decide +kernel
theorem dX12_answer_34 : decode cX12_answer 34 = .ok (.ifCond .le 5, 3) := by decide +kernel
theorem dX12_answer_37 : decode cX12_answer 37 = .ok (.lconst 0, 1) := by decide +kernel
theorem dX12_answer_38 : decode cX12_answer 38 = .ok (.lreturn, 1) := by decide +kernel
theorem dX12_promise_0 : decode cX12_promise 0 = .ok (.aload_n 0, 1) := by decide +kernel
theorem dX12_promise_1 : decode cX12_promise 1 = .ok (.aload_n 0, 1) := by decide +kernel
theorem dX12_promise_2 : decode cX12_promise 2 = .ok (.getfield 872, 3) := by decide +kernel
theorem dX12_promise_5 : decode cX12_promise 5 = .ok (.iconst 3, 1) := by decide +kernel
theorem dX12_promise_6 : decode cX12_promise 6 = .ok (.if_icmp .ne 7, 3) := by decide +kernel
theorem dX12_promise_13 : decode cX12_promise 13 = .ok (.iconst 0, 1) := by decide +kernel
theorem dX12_promise_14 : decode cX12_promise 14 = .ok (.putfield 388, 3) := by decide +kernel
theorem dX12_promise_17 : decode cX12_promise 17 = .ok (.aload_n 0, 1) := by decide +kernel
theorem dX12_promise_18 : decode cX12_promise 18 = .ok (.getfield 388, 3) := by decide +kernel
theorem dX12_promise_21 : decode cX12_promise 21 = .ok (.ifCond .le 5, 3) := by decide +kernel
theorem dX12_promise_26 : decode cX12_promise 26 = .ok (.aload_n 0, 1) := by decide +kernel
theorem dX12_promise_27 : decode cX12_promise 27 = .ok (.bipush 120, 2) := by decide +kernel
theorem dX12_promise_29 : decode cX12_promise 29 = .ok (.aload_n 0, 1) := by decide +kernel
theorem dX12_promise_30 : decode cX12_promise 30 = .ok (.getfield 872, 3) := by decide +kernel
theorem dX12_promise_33 : decode cX12_promise 33 = .ok (.iconst 1, 1) := by decide +kernel
theorem dX12_promise_34 : decode cX12_promise 34 = .ok (.iadd, 1) := by decide +kernel
theorem dX12_promise_35 : decode cX12_promise 35 = .ok (.imul, 1) := by decide +kernel
theorem dX12_promise_36 : decode cX12_promise 36 = .ok (.invokevirtual 855, 3) := by decide +kernel
theorem dX12_promise_39 : decode cX12_promise 39 = .ok (.aload_n 0, 1) := by decide +kernel
theorem dX12_promise_40 : decode cX12_promise 40 = .ok (.iconst 0, 1) := by decide +kernel
theorem dX12_promise_41 : decode cX12_promise 41 = .ok (.putfield 764, 3) := by decide +kernel
theorem dX12_promise_44 : decode cX12_promise 44 = .ok (.aload_n 0, 1) := by decide +kernel
theorem dX12_promise_45 : decode cX12_promise 45 = .ok (.invokevirtual 743, 3) := by decide +kernel
theorem dX12_promise_48 : decode cX12_promise 48 = .ok (.istore_n 1, 1) := by decide +kernel
theorem dX12_promise_49 : decode cX12_promise 49 = .ok (.aload_n 0, 1) := by decide +kernel
theorem dX12_promise_50 : decode cX12_promise 50 = .ok (.invokevirtual 858, 3) := by decide +kernel
theorem dX12_promise_53 : decode cX12_promise 53 = .ok (.aload_n 0, 1) := by decide +kernel
theorem dX12_promise_54 : decode cX12_promise 54 = .ok (.aload_n 0, 1) := by decide +kernel
theorem dX12_promise_55 : decode cX12_promise 55 = .ok (.getfield 776, 3) := by decide +kernel
theorem dX12_promise_58 : decode cX12_promise 58 = .ok (.ifCond .le 7, 3) := by decide +kernel
theorem dX12_promise_61 : decode cX12_promise 61 = .ok (.iconst 2, 1) := by decide +kernel
theorem dX12_promise_62 : decode cX12_promise 62 = .ok (.goto 4, 3) := by decide +kernel
theorem dX12_promise_66 : decode cX12_promise 66 = .ok (.putfield 388, 3) := by decide +kernel
theorem dX12_promise_69 : decode cX12_promise 69 = .ok (.aload_n 0, 1) := by decide +kernel
theorem dX12_promise_70 : decode cX12_promise 70 = .ok (.getfield 388, 3) := by decide +kernel
theorem dX12_promise_73 : decode cX12_promise 73 = .ok (.ifCond .le 5, 3) := by decide +kernel
theorem dX12_promise_76 : decode cX12_promise 76 = .ok (.iconst 0, 1) := by decide +kernel
theorem dX12_promise_77 : decode cX12_promise 77 = .ok (.ireturn, 1) := by decide +kernel
theorem dX12_broken_0 : decode cX12_broken 0 = .ok (.aload_n 0, 1) := by decide +kernel
theorem dX12_broken_1 : decode cX12_broken 1 = .ok (.iload_n 1, 1) := by decide +kernel
theorem dX12_broken_2 : decode cX12_broken 2 = .ok (.ifCond .lt 11, 3) := by decide +kernel
theorem dX12_broken_5 : decode cX12_broken 5 = .ok (.iload_n 1, 1) := by decide +kernel
theorem dX12_broken_6 : decode cX12_broken 6 = .ok (.aload_n 0, 1) := by decide +kernel
theorem dX12_broken_7 : decode cX12_broken 7 = .ok (.getfield 872, 3) := by decide +kernel
theorem dX12_broken_10 : decode cX12_broken 10 = .ok (.if_icmp .lt 7, 3) := by decide +kernel
theorem dX12_broken_13 : decode cX12_broken 13 = .ok (.iconst 1, 1) := by decide +kernel
theorem dX12_broken_14 : decode cX12_broken 14 = .ok (.goto 4, 3) := by decide +kernel
theorem dX12_broken_18 : decode cX12_broken 18 = .ok (.putfield 388, 3) := by decide +kernel
theorem dX12_broken_21 : decode cX12_broken 21 = .ok (.aload_n 0, 1) := by decide +kernel
theorem dX12_broken_22 : decode cX12_broken 22 = .ok (.getfield 388, 3) := by decide +kernel
theorem dX12_broken_25 : decode cX12_broken 25 = .ok (.ifCond .le 7, 3) := by decide +kernel
theorem dX12_broken_28 : decode cX12_broken 28 = .ok (.iconst 0, 1) := by decide +kernel
theorem dX12_broken_29 : decode cX12_broken 29 = .ok (.goto 9, 3) := by decide +kernel
theorem dX12_broken_38 : decode cX12_broken 38 = .ok (.ireturn, 1) := by decide +kernel
theorem dX12_findLinks_0 : decode cX12_findLinks 0 = .ok (.aload_n 0, 1) := by decide +kernel
theorem dX12_findLinks_1 : decode cX12_findLinks 1 = .ok (.getfield 183, 3) := by decide +kernel
theorem dX12_findLinks_4 : decode cX12_findLinks 4 = .ok (.iload_n 1, 1) := by decide +kernel
theorem dX12_findLinks_5 : decode cX12_findLinks 5 = .ok (.iaload, 1) := by decide +kernel
theorem dX12_findLinks_6 : decode cX12_findLinks 6 = .ok (.istore_n 2, 1) := by decide +kernel
theorem dX12_findLinks_7 : decode cX12_findLinks 7 = .ok (.iconst 0, 1) := by decide +kernel
theorem dX12_findLinks_8 : decode cX12_findLinks 8 = .ok (.istore_n 3, 1) := by decide +kernel
theorem dX12_findLinks_9 : decode cX12_findLinks 9 = .ok (.iload_n 3, 1) := by decide +kernel
theorem dX12_findLinks_10 : decode cX12_findLinks 10 = .ok (.iload_n 2, 1) := by decide +kernel
theorem dX12_findLinks_11 : decode cX12_findLinks 11 = .ok (.if_icmp .ge 105, 3) := by decide +kernel
theorem dX12_findLinks_116 : decode cX12_findLinks 116 = .ok (.return_, 1) := by decide +kernel
theorem dX12_rules_0 : decode cX12_rules 0 = .ok (.aload_n 0, 1) := by decide +kernel
theorem dX12_rules_1 : decode cX12_rules 1 = .ok (.aload_n 0, 1) := by decide +kernel
theorem dX12_rules_2 : decode cX12_rules 2 = .ok (.iload_n 1, 1) := by decide +kernel
theorem dX12_rules_3 : decode cX12_rules 3 = .ok (.invokevirtual 542, 3) := by decide +kernel
theorem dX12_rules_6 : decode cX12_rules 6 = .ok (.ifCond .eq 22, 3) := by decide +kernel
theorem dX12_rules_9 : decode cX12_rules 9 = .ok (.aload_n 0, 1) := by decide +kernel
theorem dX12_rules_10 : decode cX12_rules 10 = .ok (.getfield 183, 3) := by decide +kernel
theorem dX12_rules_13 : decode cX12_rules 13 = .ok (.iload_n 1, 1) := by decide +kernel
theorem dX12_rules_14 : decode cX12_rules 14 = .ok (.iaload, 1) := by decide +kernel
theorem dX12_rules_15 : decode cX12_rules 15 = .ok (.bipush 40, 2) := by decide +kernel
theorem dX12_rules_17 : decode cX12_rules 17 = .ok (.if_icmp .le 7, 3) := by decide +kernel
theorem dX12_rules_24 : decode cX12_rules 24 = .ok (.iconst 0, 1) := by decide +kernel
theorem dX12_rules_25 : decode cX12_rules 25 = .ok (.goto 4, 3) := by decide +kernel
theorem dX12_rules_28 : decode cX12_rules 28 = .ok (.iconst 1, 1) := by decide +kernel
theorem dX12_rules_29 : decode cX12_rules 29 = .ok (.putfield 388, 3) := by decide +kernel
theorem dX12_rules_32 : decode cX12_rules 32 = .ok (.aload_n 0, 1) := by decide +kernel
theorem dX12_rules_33 : decode cX12_rules 33 = .ok (.getfield 388, 3) := by decide +kernel
theorem dX12_rules_36 : decode cX12_rules 36 = .ok (.ifCond .le 5, 3) := by decide +kernel
theorem dX12_rules_39 : decode cX12_rules 39 = .ok (.iconst 0, 1) := by decide +kernel
theorem dX12_rules_40 : decode cX12_rules 40 = .ok (.ireturn, 1) := by decide +kernel
theorem dX12_rules_41 : decode cX12_rules 41 = .ok (.aload_n 0, 1) := by decide +kernel
theorem dX12_rules_42 : decode cX12_rules 42 = .ok (.iconst 0, 1) := by decide +kernel
theorem dX12_rules_43 : decode cX12_rules 43 = .ok (.putfield 905, 3) := by decide +kernel
theorem dX12_rules_46 : decode cX12_rules 46 = .ok (.aload_n 0, 1) := by decide +kernel
theorem dX12_rules_47 : decode cX12_rules 47 = .ok (.iconst 0, 1) := by decide +kernel
theorem dX12_rules_48 : decode cX12_rules 48 = .ok (.putfield 908, 3) := by decide +kernel
theorem dX12_rules_51 : decode cX12_rules 51 = .ok (.aload_n 0, 1) := by decide +kernel
theorem dX12_rules_52 : decode cX12_rules 52 = .ok (.iconst 0, 1) := by decide +kernel
theorem dX12_rules_53 : decode cX12_rules 53 = .ok (.invokevirtual 855, 3) := by decide +kernel
theorem dX12_rules_56 : decode cX12_rules 56 = .ok (.aload_n 0, 1) := by decide +kernel
theorem dX12_rules_57 : decode cX12_rules 57 = .ok (.getfield 625, 3) := by decide +kernel
theorem dX12_rules_60 : decode cX12_rules 60 = .ok (.ifCond .ne 17, 3) := by decide +kernel
theorem dX12_rules_63 : decode cX12_rules 63 = .ok (.aload_n 0, 1) := by decide +kernel
theorem dX12_rules_64 : decode cX12_rules 64 = .ok (.getfield 644, 3) := by decide +kernel
theorem dX12_rules_67 : decode cX12_rules 67 = .ok (.ifCond .eq 10, 3) := by decide +kernel
theorem dX12_rules_77 : decode cX12_rules 77 = .ok (.aload_n 0, 1) := by decide +kernel
theorem dX12_rules_78 : decode cX12_rules 78 = .ok (.invokevirtual 858, 3) := by decide +kernel
theorem dX12_rules_81 : decode cX12_rules 81 = .ok (.aload_n 0, 1) := by decide +kernel
theorem dX12_rules_82 : decode cX12_rules 82 = .ok (.aload_n 0, 1) := by decide +kernel
theorem dX12_rules_83 : decode cX12_rules 83 = .ok (.getfield 776, 3) := by decide +kernel
theorem dX12_rules_86 : decode cX12_rules 86 = .ok (.ifCond .le 7, 3) := by decide +kernel
theorem dX12_rules_93 : decode cX12_rules 93 = .ok (.iconst 0, 1) := by decide +kernel
theorem dX12_rules_94 : decode cX12_rules 94 = .ok (.putfield 388, 3) := by decide +kernel
theorem dX12_rules_97 : decode cX12_rules 97 = .ok (.aload_n 0, 1) := by decide +kernel
theorem dX12_rules_98 : decode cX12_rules 98 = .ok (.getfield 388, 3) := by decide +kernel
theorem dX12_rules_101 : decode cX12_rules 101 = .ok (.ifCond .le 10, 3) := by decide +kernel
theorem dX12_rules_111 : decode cX12_rules 111 = .ok (.aload_n 0, 1) := by decide +kernel
theorem dX12_rules_112 : decode cX12_rules 112 = .ok (.iload_n 1, 1) := by decide +kernel
theorem dX12_rules_113 : decode cX12_rules 113 = .ok (.putfield 826, 3) := by decide +kernel
theorem dX12_rules_116 : decode cX12_rules 116 = .ok (.aload_n 0, 1) := by decide +kernel
theorem dX12_rules_117 : decode cX12_rules 117 = .ok (.iload_n 1, 1) := by decide +kernel
theorem dX12_rules_118 : decode cX12_rules 118 = .ok (.invokevirtual 945, 3) := by decide +kernel
theorem dX12_rules_121 : decode cX12_rules 121 = .ok (.iconst 0, 1) := by decide +kernel
theorem dX12_rules_122 : decode cX12_rules 122 = .ok (.istore_n 2, 1) := by decide +kernel
theorem dX12_rules_123 : decode cX12_rules 123 = .ok (.iload_n 2, 1) := by decide +kernel
theorem dX12_rules_124 : decode cX12_rules 124 = .ok (.sipush 240, 3) := by decide +kernel
theorem dX12_rules_127 : decode cX12_rules 127 = .ok (.if_icmp .ge 16, 3) := by decide +kernel
theorem dX12_rules_130 : decode cX12_rules 130 = .ok (.aload_n 0, 1) := by decide +kernel
theorem dX12_rules_131 : decode cX12_rules 131 = .ok (.getfield 357, 3) := by decide +kernel
theorem dX12_rules_134 : decode cX12_rules 134 = .ok (.iload_n 2, 1) := by decide +kernel
theorem dX12_rules_135 : decode cX12_rules 135 = .ok (.iconst 0, 1) := by decide +kernel
theorem dX12_rules_136 : decode cX12_rules 136 = .ok (.bastore, 1) := by decide +kernel
theorem dX12_rules_137 : decode cX12_rules 137 = .ok (.iinc 2 1, 3) := by decide +kernel
theorem dX12_rules_140 : decode cX12_rules 140 = .ok (.goto (-17), 3) := by decide +kernel
theorem dX12_rules_143 : decode cX12_rules 143 = .ok (.iconst 0, 1) := by decide +kernel
theorem dX12_rules_144 : decode cX12_rules 144 = .ok (.istore_n 2, 1) := by decide +kernel
theorem dX12_rules_145 : decode cX12_rules 145 = .ok (.iload_n 2, 1) := by decide +kernel
theorem dX12_rules_146 : decode cX12_rules 146 = .ok (.sipush 1600, 3) := by decide +kernel
theorem dX12_rules_149 : decode cX12_rules 149 = .ok (.aload_n 0, 1) := by decide +kernel
theorem dX12_rules_150 : decode cX12_rules 150 = .ok (.getfield 905, 3) := by decide +kernel
theorem dX12_rules_153 : decode cX12_rules 153 = .ok (.imul, 1) := by decide +kernel
theorem dX12_rules_154 : decode cX12_rules 154 = .ok (.if_icmp .ge 16, 3) := by decide +kernel
theorem dX12_rules_170 : decode cX12_rules 170 = .ok (.aload_n 0, 1) := by decide +kernel
theorem dX12_rules_171 : decode cX12_rules 171 = .ok (.iconst 1, 1) := by decide +kernel
theorem dX12_rules_172 : decode cX12_rules 172 = .ok (.putfield 933, 3) := by decide +kernel
theorem dX12_rules_175 : decode cX12_rules 175 = .ok (.aload_n 0, 1) := by decide +kernel
theorem dX12_rules_176 : decode cX12_rules 176 = .ok (.getfield 933, 3) := by decide +kernel
theorem dX12_rules_179 : decode cX12_rules 179 = .ok (.ifCond .eq 55, 3) := by decide +kernel
theorem dX12_rules_182 : decode cX12_rules 182 = .ok (.aload_n 0, 1) := by decide +kernel
theorem dX12_rules_183 : decode cX12_rules 183 = .ok (.iconst 0, 1) := by decide +kernel
theorem dX12_rules_184 : decode cX12_rules 184 = .ok (.putfield 933, 3) := by decide +kernel
theorem dX12_rules_187 : decode cX12_rules 187 = .ok (.iconst 0, 1) := by decide +kernel
theorem dX12_rules_188 : decode cX12_rules 188 = .ok (.istore_n 2, 1) := by decide +kernel
theorem dX12_rules_189 : decode cX12_rules 189 = .ok (.iload_n 2, 1) := by decide +kernel
theorem dX12_rules_190 : decode cX12_rules 190 = .ok (.aload_n 0, 1) := by decide +kernel
theorem dX12_rules_191 : decode cX12_rules 191 = .ok (.getfield 908, 3) := by decide +kernel
theorem dX12_rules_194 : decode cX12_rules 194 = .ok (.if_icmp .ge 37, 3) := by decide +kernel
theorem dX12_rules_231 : decode cX12_rules 231 = .ok (.goto (-56), 3) := by decide +kernel
theorem dX12_rules_234 : decode cX12_rules 234 = .ok (.iconst 0, 1) := by decide +kernel
theorem dX12_rules_235 : decode cX12_rules 235 = .ok (.istore_n 2, 1) := by decide +kernel
theorem dX12_rules_236 : decode cX12_rules 236 = .ok (.iconst 0, 1) := by decide +kernel
theorem dX12_rules_237 : decode cX12_rules 237 = .ok (.istore_n 3, 1) := by decide +kernel
theorem dX12_rules_238 : decode cX12_rules 238 = .ok (.iload_n 3, 1) := by decide +kernel
theorem dX12_rules_239 : decode cX12_rules 239 = .ok (.aload_n 0, 1) := by decide +kernel
theorem dX12_rules_240 : decode cX12_rules 240 = .ok (.getfield 905, 3) := by decide +kernel
theorem dX12_rules_243 : decode cX12_rules 243 = .ok (.if_icmp .ge 17, 3) := by decide +kernel
theorem dX12_rules_260 : decode cX12_rules 260 = .ok (.iload_n 2, 1) := by decide +kernel
theorem dX12_rules_261 : decode cX12_rules 261 = .ok (.ireturn, 1) := by decide +kernel
theorem dX12_facts_0 : decode cX12_facts 0 = .ok (.aload_n 0, 1) := by decide +kernel
theorem dX12_facts_1 : decode cX12_facts 1 = .ok (.iconst 0, 1) := by decide +kernel
theorem dX12_facts_2 : decode cX12_facts 2 = .ok (.putfield 388, 3) := by decide +kernel
theorem dX12_facts_5 : decode cX12_facts 5 = .ok (.iload_n 1, 1) := by decide +kernel
theorem dX12_facts_6 : decode cX12_facts 6 = .ok (.ifCond .lt 19, 3) := by decide +kernel
theorem dX12_facts_9 : decode cX12_facts 9 = .ok (.iload_n 1, 1) := by decide +kernel
theorem dX12_facts_10 : decode cX12_facts 10 = .ok (.aload_n 0, 1) := by decide +kernel
theorem dX12_facts_11 : decode cX12_facts 11 = .ok (.getfield 905, 3) := by decide +kernel
theorem dX12_facts_14 : decode cX12_facts 14 = .ok (.if_icmp .ge 11, 3) := by decide +kernel
theorem dX12_facts_25 : decode cX12_facts 25 = .ok (.iconst (-1), 1) := by decide +kernel
theorem dX12_facts_26 : decode cX12_facts 26 = .ok (.ireturn, 1) := by decide +kernel
theorem dX12_isFact_0 : decode cX12_isFact 0 = .ok (.aload_n 0, 1) := by decide +kernel
theorem dX12_isFact_1 : decode cX12_isFact 1 = .ok (.iload_n 1, 1) := by decide +kernel
theorem dX12_isFact_2 : decode cX12_isFact 2 = .ok (.ifCond .lt 11, 3) := by decide +kernel
theorem dX12_isFact_5 : decode cX12_isFact 5 = .ok (.iload_n 1, 1) := by decide +kernel
theorem dX12_isFact_6 : decode cX12_isFact 6 = .ok (.aload_n 0, 1) := by decide +kernel
theorem dX12_isFact_7 : decode cX12_isFact 7 = .ok (.getfield 905, 3) := by decide +kernel
theorem dX12_isFact_10 : decode cX12_isFact 10 = .ok (.if_icmp .lt 7, 3) := by decide +kernel
theorem dX12_isFact_13 : decode cX12_isFact 13 = .ok (.iconst 1, 1) := by decide +kernel
theorem dX12_isFact_14 : decode cX12_isFact 14 = .ok (.goto 4, 3) := by decide +kernel
theorem dX12_isFact_18 : decode cX12_isFact 18 = .ok (.putfield 388, 3) := by decide +kernel
theorem dX12_isFact_21 : decode cX12_isFact 21 = .ok (.aload_n 0, 1) := by decide +kernel
theorem dX12_isFact_22 : decode cX12_isFact 22 = .ok (.getfield 388, 3) := by decide +kernel
theorem dX12_isFact_25 : decode cX12_isFact 25 = .ok (.ifCond .le 5, 3) := by decide +kernel
theorem dX12_isFact_28 : decode cX12_isFact 28 = .ok (.iconst 0, 1) := by decide +kernel
theorem dX12_isFact_29 : decode cX12_isFact 29 = .ok (.ireturn, 1) := by decide +kernel
theorem dX12_fault_0 : decode cX12_fault 0 = .ok (.aload_n 0, 1) := by decide +kernel
theorem dX12_fault_1 : decode cX12_fault 1 = .ok (.iconst 0, 1) := by decide +kernel
theorem dX12_fault_2 : decode cX12_fault 2 = .ok (.putfield 388, 3) := by decide +kernel
theorem dX12_fault_5 : decode cX12_fault 5 = .ok (.iload_n 1, 1) := by decide +kernel
theorem dX12_fault_6 : decode cX12_fault 6 = .ok (.ifCond .ne 10, 3) := by decide +kernel
theorem dX12_fault_9 : decode cX12_fault 9 = .ok (.aload_n 0, 1) := by decide +kernel
theorem dX12_fault_10 : decode cX12_fault 10 = .ok (.getfield 776, 3) := by decide +kernel
theorem dX12_fault_13 : decode cX12_fault 13 = .ok (.goto 16, 3) := by decide +kernel
theorem dX12_fault_16 : decode cX12_fault 16 = .ok (.iload_n 1, 1) := by decide +kernel
theorem dX12_fault_17 : decode cX12_fault 17 = .ok (.iconst 1, 1) := by decide +kernel
theorem dX12_fault_18 : decode cX12_fault 18 = .ok (.if_icmp .ne 10, 3) := by decide +kernel
theorem dX12_fault_21 : decode cX12_fault 21 = .ok (.aload_n 0, 1) := by decide +kernel
theorem dX12_fault_22 : decode cX12_fault 22 = .ok (.getfield 268, 3) := by decide +kernel
theorem dX12_fault_25 : decode cX12_fault 25 = .ok (.goto 4, 3) := by decide +kernel
theorem dX12_fault_28 : decode cX12_fault 28 = .ok (.iconst (-1), 1) := by decide +kernel
theorem dX12_fault_29 : decode cX12_fault 29 = .ok (.ireturn, 1) := by decide +kernel
theorem dX12_putNumber_0 : decode cX12_putNumber 0 = .ok (.lload_n 1, 1) := by decide +kernel
theorem dX12_putNumber_1 : decode cX12_putNumber 1 = .ok (.lstore_n 3, 1) := by decide +kernel
theorem dX12_putNumber_2 : decode cX12_putNumber 2 = .ok (.lload_n 3, 1) := by decide +kernel
theorem dX12_putNumber_3 : decode cX12_putNumber 3 = .ok (.ldc2_w 951, 3) := by decide +kernel
theorem dX12_putNumber_6 : decode cX12_putNumber 6 = .ok (.land, 1) := by decide +kernel
theorem dX12_putNumber_7 : decode cX12_putNumber 7 = .ok (.l2i, 1) := by decide +kernel
theorem dX12_putNumber_8 : decode cX12_putNumber 8 = .ok (.istore 5, 2) := by decide +kernel
theorem dX12_putNumber_10 : decode cX12_putNumber 10 = .ok (.lload_n 3, 1) := by decide +kernel
theorem dX12_putNumber_11 : decode cX12_putNumber 11 = .ok (.bipush 7, 2) := by decide +kernel
theorem dX12_putNumber_13 : decode cX12_putNumber 13 = .ok (.lushr, 1) := by decide +kernel
theorem dX12_putNumber_14 : decode cX12_putNumber 14 = .ok (.lstore_n 3, 1) := by decide +kernel
theorem dX12_putNumber_15 : decode cX12_putNumber 15 = .ok (.aload_n 0, 1) := by decide +kernel
theorem dX12_putNumber_16 : decode cX12_putNumber 16 = .ok (.getfield 953, 3) := by decide +kernel
theorem dX12_putNumber_19 : decode cX12_putNumber 19 = .ok (.sipush 9000, 3) := by decide +kernel
theorem dX12_putNumber_22 : decode cX12_putNumber 22 = .ok (.if_icmp .ge 30, 3) := by decide +kernel
theorem dX12_putNumber_25 : decode cX12_putNumber 25 = .ok (.aload_n 0, 1) := by decide +kernel
theorem dX12_putNumber_26 : decode cX12_putNumber 26 = .ok (.getfield 369, 3) := by decide +kernel
theorem dX12_putNumber_29 : decode cX12_putNumber 29 = .ok (.aload_n 0, 1) := by decide +kernel
theorem dX12_putNumber_30 : decode cX12_putNumber 30 = .ok (.getfield 953, 3) := by decide +kernel
theorem dX12_putNumber_33 : decode cX12_putNumber 33 = .ok (.lload_n 3, 1) := by decide +kernel
theorem dX12_putNumber_34 : decode cX12_putNumber 34 = .ok (.lconst 0, 1) := by decide +kernel
theorem dX12_putNumber_35 : decode cX12_putNumber 35 = .ok (.lcmp, 1) := by decide +kernel
theorem dX12_putNumber_36 : decode cX12_putNumber 36 = .ok (.ifCond .ne 8, 3) := by decide +kernel
theorem dX12_putNumber_39 : decode cX12_putNumber 39 = .ok (.iload 5, 2) := by decide +kernel
theorem dX12_putNumber_41 : decode cX12_putNumber 41 = .ok (.goto 9, 3) := by decide +kernel
theorem dX12_putNumber_50 : decode cX12_putNumber 50 = .ok (.i2b, 1) := by decide +kernel
theorem dX12_putNumber_51 : decode cX12_putNumber 51 = .ok (.bastore, 1) := by decide +kernel
theorem dX12_putNumber_52 : decode cX12_putNumber 52 = .ok (.aload_n 0, 1) := by decide +kernel
theorem dX12_putNumber_53 : decode cX12_putNumber 53 = .ok (.dup, 1) := by decide +kernel
theorem dX12_putNumber_54 : decode cX12_putNumber 54 = .ok (.getfield 953, 3) := by decide +kernel
theorem dX12_putNumber_57 : decode cX12_putNumber 57 = .ok (.iconst 1, 1) := by decide +kernel
theorem dX12_putNumber_58 : decode cX12_putNumber 58 = .ok (.iadd, 1) := by decide +kernel
theorem dX12_putNumber_59 : decode cX12_putNumber 59 = .ok (.putfield 953, 3) := by decide +kernel
theorem dX12_putNumber_62 : decode cX12_putNumber 62 = .ok (.lload_n 3, 1) := by decide +kernel
theorem dX12_putNumber_63 : decode cX12_putNumber 63 = .ok (.lconst 0, 1) := by decide +kernel
theorem dX12_putNumber_64 : decode cX12_putNumber 64 = .ok (.lcmp, 1) := by decide +kernel
theorem dX12_putNumber_65 : decode cX12_putNumber 65 = .ok (.ifCond .ne (-63), 3) := by decide +kernel
theorem dX12_putNumber_68 : decode cX12_putNumber 68 = .ok (.return_, 1) := by decide +kernel
theorem dX12_check_0 : decode cX12_check 0 = .ok (.iconst 1, 1) := by decide +kernel
theorem dX12_check_1 : decode cX12_check 1 = .ok (.istore_n 3, 1) := by decide +kernel
theorem dX12_check_2 : decode cX12_check 2 = .ok (.iload_n 1, 1) := by decide +kernel
theorem dX12_check_3 : decode cX12_check 3 = .ok (.istore 4, 2) := by decide +kernel
theorem dX12_check_5 : decode cX12_check 5 = .ok (.iload 4, 2) := by decide +kernel
theorem dX12_check_7 : decode cX12_check 7 = .ok (.iload_n 2, 1) := by decide +kernel
theorem dX12_check_8 : decode cX12_check 8 = .ok (.if_icmp .ge 24, 3) := by decide +kernel
theorem dX12_check_11 : decode cX12_check 11 = .ok (.iload_n 3, 1) := by decide +kernel
theorem dX12_check_12 : decode cX12_check 12 = .ok (.ldc_w 956, 3) := by decide +kernel
theorem dX12_check_15 : decode cX12_check 15 = .ok (.imul, 1) := by decide +kernel
theorem dX12_check_16 : decode cX12_check 16 = .ok (.aload_n 0, 1) := by decide +kernel
theorem dX12_check_17 : decode cX12_check 17 = .ok (.iload 4, 2) := by decide +kernel
theorem dX12_check_19 : decode cX12_check 19 = .ok (.baload, 1) := by decide +kernel
theorem dX12_check_20 : decode cX12_check 20 = .ok (.sipush 255, 3) := by decide +kernel
theorem dX12_check_23 : decode cX12_check 23 = .ok (.iand, 1) := by decide +kernel
theorem dX12_check_24 : decode cX12_check 24 = .ok (.ixor, 1) := by decide +kernel
theorem dX12_check_25 : decode cX12_check 25 = .ok (.istore_n 3, 1) := by decide +kernel
theorem dX12_check_26 : decode cX12_check 26 = .ok (.iinc 4 1, 3) := by decide +kernel
theorem dX12_check_29 : decode cX12_check 29 = .ok (.goto (-24), 3) := by decide +kernel
theorem dX12_check_32 : decode cX12_check 32 = .ok (.iload_n 3, 1) := by decide +kernel
theorem dX12_check_33 : decode cX12_check 33 = .ok (.ireturn, 1) := by decide +kernel
theorem dX12_putPicture_0 : decode cX12_putPicture 0 = .ok (.aload_n 0, 1) := by decide +kernel
theorem dX12_putPicture_1 : decode cX12_putPicture 1 = .ok (.iconst 0, 1) := by decide +kernel
theorem dX12_putPicture_2 : decode cX12_putPicture 2 = .ok (.putfield 953, 3) := by decide +kernel
theorem dX12_putPicture_5 : decode cX12_putPicture 5 = .ok (.aload_n 0, 1) := by decide +kernel
theorem dX12_putPicture_6 : decode cX12_putPicture 6 = .ok (.ldc2_w 957, 3) := by decide +kernel
theorem dX12_putPicture_9 : decode cX12_putPicture 9 = .ok (.invokevirtual 959, 3) := by decide +kernel
theorem dX12_putPicture_12 : decode cX12_putPicture 12 = .ok (.aload_n 0, 1) := by decide +kernel
theorem dX12_putPicture_13 : decode cX12_putPicture 13 = .ok (.ldc2_w 962, 3) := by decide +kernel
theorem dX12_putPicture_16 : decode cX12_putPicture 16 = .ok (.invokevirtual 959, 3) := by decide +kernel
theorem dX12_putPicture_19 : decode cX12_putPicture 19 = .ok (.aload_n 0, 1) := by decide +kernel
theorem dX12_putPicture_20 : decode cX12_putPicture 20 = .ok (.aload_n 0, 1) := by decide +kernel
theorem dX12_putPicture_21 : decode cX12_putPicture 21 = .ok (.getfield 183, 3) := by decide +kernel
theorem dX12_putPicture_24 : decode cX12_putPicture 24 = .ok (.iload_n 1, 1) := by decide +kernel
theorem dX12_putPicture_25 : decode cX12_putPicture 25 = .ok (.iaload, 1) := by decide +kernel
theorem dX12_putPicture_26 : decode cX12_putPicture 26 = .ok (.i2l, 1) := by decide +kernel
theorem dX12_putPicture_27 : decode cX12_putPicture 27 = .ok (.invokevirtual 959, 3) := by decide +kernel
theorem dX12_putPicture_30 : decode cX12_putPicture 30 = .ok (.iconst 0, 1) := by decide +kernel
theorem dX12_putPicture_31 : decode cX12_putPicture 31 = .ok (.istore_n 2, 1) := by decide +kernel
theorem dX12_putPicture_32 : decode cX12_putPicture 32 = .ok (.iload_n 2, 1) := by decide +kernel
theorem dX12_putPicture_33 : decode cX12_putPicture 33 = .ok (.aload_n 0, 1) := by decide +kernel
theorem dX12_putPicture_34 : decode cX12_putPicture 34 = .ok (.getfield 183, 3) := by decide +kernel
theorem dX12_putPicture_37 : decode cX12_putPicture 37 = .ok (.iload_n 1, 1) := by decide +kernel
theorem dX12_putPicture_38 : decode cX12_putPicture 38 = .ok (.iaload, 1) := by decide +kernel
theorem dX12_putPicture_39 : decode cX12_putPicture 39 = .ok (.if_icmp .ge 129, 3) := by decide +kernel
theorem dX12_putPicture_168 : decode cX12_putPicture 168 = .ok (.aload_n 0, 1) := by decide +kernel
theorem dX12_putPicture_169 : decode cX12_putPicture 169 = .ok (.aload_n 0, 1) := by decide +kernel
theorem dX12_putPicture_170 : decode cX12_putPicture 170 = .ok (.getfield 234, 3) := by decide +kernel
theorem dX12_putPicture_173 : decode cX12_putPicture 173 = .ok (.iload_n 1, 1) := by decide +kernel
theorem dX12_putPicture_174 : decode cX12_putPicture 174 = .ok (.iaload, 1) := by decide +kernel
theorem dX12_putPicture_175 : decode cX12_putPicture 175 = .ok (.i2l, 1) := by decide +kernel
theorem dX12_putPicture_176 : decode cX12_putPicture 176 = .ok (.invokevirtual 959, 3) := by decide +kernel
theorem dX12_putPicture_179 : decode cX12_putPicture 179 = .ok (.iconst 0, 1) := by decide +kernel
theorem dX12_putPicture_180 : decode cX12_putPicture 180 = .ok (.istore_n 2, 1) := by decide +kernel
theorem dX12_putPicture_181 : decode cX12_putPicture 181 = .ok (.iload_n 2, 1) := by decide +kernel
theorem dX12_putPicture_182 : decode cX12_putPicture 182 = .ok (.aload_n 0, 1) := by decide +kernel
theorem dX12_putPicture_183 : decode cX12_putPicture 183 = .ok (.getfield 234, 3) := by decide +kernel
theorem dX12_putPicture_186 : decode cX12_putPicture 186 = .ok (.iload_n 1, 1) := by decide +kernel
theorem dX12_putPicture_187 : decode cX12_putPicture 187 = .ok (.iaload, 1) := by decide +kernel
theorem dX12_putPicture_188 : decode cX12_putPicture 188 = .ok (.if_icmp .ge 43, 3) := by decide +kernel
theorem dX12_putPicture_231 : decode cX12_putPicture 231 = .ok (.aload_n 0, 1) := by decide +kernel
theorem dX12_putPicture_232 : decode cX12_putPicture 232 = .ok (.getfield 953, 3) := by decide +kernel
theorem dX12_putPicture_235 : decode cX12_putPicture 235 = .ok (.iconst 4, 1) := by decide +kernel
theorem dX12_putPicture_236 : decode cX12_putPicture 236 = .ok (.iadd, 1) := by decide +kernel
theorem dX12_putPicture_237 : decode cX12_putPicture 237 = .ok (.sipush 4000, 3) := by decide +kernel
theorem dX12_putPicture_240 : decode cX12_putPicture 240 = .ok (.if_icmp .le 5, 3) := by decide +kernel
theorem dX12_putPicture_245 : decode cX12_putPicture 245 = .ok (.aload_n 0, 1) := by decide +kernel
theorem dX12_putPicture_246 : decode cX12_putPicture 246 = .ok (.getfield 369, 3) := by decide +kernel
theorem dX12_putPicture_249 : decode cX12_putPicture 249 = .ok (.iconst 0, 1) := by decide +kernel
theorem dX12_putPicture_250 : decode cX12_putPicture 250 = .ok (.aload_n 0, 1) := by decide +kernel
theorem dX12_putPicture_251 : decode cX12_putPicture 251 = .ok (.getfield 953, 3) := by decide +kernel
theorem dX12_putPicture_254 : decode cX12_putPicture 254 = .ok (.invokestatic 968, 3) := by decide +kernel
theorem dX12_putPicture_257 : decode cX12_putPicture 257 = .ok (.istore_n 2, 1) := by decide +kernel
theorem dX12_putPicture_258 : decode cX12_putPicture 258 = .ok (.iconst 0, 1) := by decide +kernel
theorem dX12_putPicture_259 : decode cX12_putPicture 259 = .ok (.istore_n 3, 1) := by decide +kernel
theorem dX12_putPicture_260 : decode cX12_putPicture 260 = .ok (.iload_n 3, 1) := by decide +kernel
theorem dX12_putPicture_261 : decode cX12_putPicture 261 = .ok (.iconst 4, 1) := by decide +kernel
theorem dX12_putPicture_262 : decode cX12_putPicture 262 = .ok (.if_icmp .ge 35, 3) := by decide +kernel
theorem dX12_putPicture_265 : decode cX12_putPicture 265 = .ok (.aload_n 0, 1) := by decide +kernel
theorem dX12_putPicture_266 : decode cX12_putPicture 266 = .ok (.getfield 369, 3) := by decide +kernel
theorem dX12_putPicture_269 : decode cX12_putPicture 269 = .ok (.aload_n 0, 1) := by decide +kernel
theorem dX12_putPicture_270 : decode cX12_putPicture 270 = .ok (.getfield 953, 3) := by decide +kernel
theorem dX12_putPicture_273 : decode cX12_putPicture 273 = .ok (.iload_n 2, 1) := by decide +kernel
theorem dX12_putPicture_274 : decode cX12_putPicture 274 = .ok (.bipush 8, 2) := by decide +kernel
theorem dX12_putPicture_276 : decode cX12_putPicture 276 = .ok (.iload_n 3, 1) := by decide +kernel
theorem dX12_putPicture_277 : decode cX12_putPicture 277 = .ok (.imul, 1) := by decide +kernel
theorem dX12_putPicture_278 : decode cX12_putPicture 278 = .ok (.ishr, 1) := by decide +kernel
theorem dX12_putPicture_279 : decode cX12_putPicture 279 = .ok (.i2b, 1) := by decide +kernel
theorem dX12_putPicture_280 : decode cX12_putPicture 280 = .ok (.bastore, 1) := by decide +kernel
theorem dX12_putPicture_281 : decode cX12_putPicture 281 = .ok (.aload_n 0, 1) := by decide +kernel
theorem dX12_putPicture_282 : decode cX12_putPicture 282 = .ok (.dup, 1) := by decide +kernel
theorem dX12_putPicture_283 : decode cX12_putPicture 283 = .ok (.getfield 953, 3) := by decide +kernel
theorem dX12_putPicture_286 : decode cX12_putPicture 286 = .ok (.iconst 1, 1) := by decide +kernel
theorem dX12_putPicture_287 : decode cX12_putPicture 287 = .ok (.iadd, 1) := by decide +kernel
theorem dX12_putPicture_288 : decode cX12_putPicture 288 = .ok (.putfield 953, 3) := by decide +kernel
theorem dX12_putPicture_291 : decode cX12_putPicture 291 = .ok (.iinc 3 1, 3) := by decide +kernel
theorem dX12_putPicture_294 : decode cX12_putPicture 294 = .ok (.goto (-34), 3) := by decide +kernel
theorem dX12_putPicture_297 : decode cX12_putPicture 297 = .ok (.iconst 1, 1) := by decide +kernel
theorem dX12_putPicture_298 : decode cX12_putPicture 298 = .ok (.ireturn, 1) := by decide +kernel
theorem dX12_bytes_0 : decode cX12_bytes 0 = .ok (.aload_n 0, 1) := by decide +kernel
theorem dX12_bytes_1 : decode cX12_bytes 1 = .ok (.aload_n 0, 1) := by decide +kernel
theorem dX12_bytes_2 : decode cX12_bytes 2 = .ok (.iload_n 1, 1) := by decide +kernel
theorem dX12_bytes_3 : decode cX12_bytes 3 = .ok (.invokevirtual 542, 3) := by decide +kernel
theorem dX12_bytes_6 : decode cX12_bytes 6 = .ok (.ifCond .eq 7, 3) := by decide +kernel
theorem dX12_bytes_9 : decode cX12_bytes 9 = .ok (.iconst 0, 1) := by decide +kernel
theorem dX12_bytes_10 : decode cX12_bytes 10 = .ok (.goto 4, 3) := by decide +kernel
theorem dX12_bytes_13 : decode cX12_bytes 13 = .ok (.iconst 1, 1) := by decide +kernel
theorem dX12_bytes_14 : decode cX12_bytes 14 = .ok (.putfield 388, 3) := by decide +kernel
theorem dX12_bytes_17 : decode cX12_bytes 17 = .ok (.aload_n 0, 1) := by decide +kernel
theorem dX12_bytes_18 : decode cX12_bytes 18 = .ok (.getfield 388, 3) := by decide +kernel
theorem dX12_bytes_21 : decode cX12_bytes 21 = .ok (.ifCond .le 5, 3) := by decide +kernel
theorem dX12_bytes_24 : decode cX12_bytes 24 = .ok (.iconst 0, 1) := by decide +kernel
theorem dX12_bytes_25 : decode cX12_bytes 25 = .ok (.ireturn, 1) := by decide +kernel
theorem dX12_bytes_26 : decode cX12_bytes 26 = .ok (.aload_n 0, 1) := by decide +kernel
theorem dX12_bytes_27 : decode cX12_bytes 27 = .ok (.aload_n 0, 1) := by decide +kernel
theorem dX12_bytes_28 : decode cX12_bytes 28 = .ok (.iload_n 1, 1) := by decide +kernel
theorem dX12_bytes_29 : decode cX12_bytes 29 = .ok (.invokevirtual 972, 3) := by decide +kernel
theorem dX12_bytes_32 : decode cX12_bytes 32 = .ok (.ifCond .eq 7, 3) := by decide +kernel
theorem dX12_bytes_35 : decode cX12_bytes 35 = .ok (.iconst 0, 1) := by decide +kernel
theorem dX12_bytes_36 : decode cX12_bytes 36 = .ok (.goto 4, 3) := by decide +kernel
theorem dX12_bytes_40 : decode cX12_bytes 40 = .ok (.putfield 388, 3) := by decide +kernel
theorem dX12_bytes_43 : decode cX12_bytes 43 = .ok (.aload_n 0, 1) := by decide +kernel
theorem dX12_bytes_44 : decode cX12_bytes 44 = .ok (.getfield 388, 3) := by decide +kernel
theorem dX12_bytes_47 : decode cX12_bytes 47 = .ok (.ifCond .le 5, 3) := by decide +kernel
theorem dX12_bytes_52 : decode cX12_bytes 52 = .ok (.iconst 0, 1) := by decide +kernel
theorem dX12_bytes_53 : decode cX12_bytes 53 = .ok (.istore_n 2, 1) := by decide +kernel
theorem dX12_bytes_54 : decode cX12_bytes 54 = .ok (.iload_n 2, 1) := by decide +kernel
theorem dX12_bytes_55 : decode cX12_bytes 55 = .ok (.aload_n 0, 1) := by decide +kernel
theorem dX12_bytes_56 : decode cX12_bytes 56 = .ok (.getfield 953, 3) := by decide +kernel
theorem dX12_bytes_59 : decode cX12_bytes 59 = .ok (.if_icmp .ge 21, 3) := by decide +kernel
theorem dX12_bytes_62 : decode cX12_bytes 62 = .ok (.aload_n 0, 1) := by decide +kernel
theorem dX12_bytes_63 : decode cX12_bytes 63 = .ok (.getfield 7, 3) := by decide +kernel
theorem dX12_bytes_66 : decode cX12_bytes 66 = .ok (.iload_n 2, 1) := by decide +kernel
theorem dX12_bytes_67 : decode cX12_bytes 67 = .ok (.aload_n 0, 1) := by decide +kernel
theorem dX12_bytes_68 : decode cX12_bytes 68 = .ok (.getfield 369, 3) := by decide +kernel
theorem dX12_bytes_71 : decode cX12_bytes 71 = .ok (.iload_n 2, 1) := by decide +kernel
theorem dX12_bytes_72 : decode cX12_bytes 72 = .ok (.baload, 1) := by decide +kernel
theorem dX12_bytes_73 : decode cX12_bytes 73 = .ok (.bastore, 1) := by decide +kernel
theorem dX12_bytes_74 : decode cX12_bytes 74 = .ok (.iinc 2 1, 3) := by decide +kernel
theorem dX12_bytes_77 : decode cX12_bytes 77 = .ok (.goto (-23), 3) := by decide +kernel
theorem dX12_bytes_80 : decode cX12_bytes 80 = .ok (.aload_n 0, 1) := by decide +kernel
theorem dX12_bytes_81 : decode cX12_bytes 81 = .ok (.aload_n 0, 1) := by decide +kernel
theorem dX12_bytes_82 : decode cX12_bytes 82 = .ok (.getfield 953, 3) := by decide +kernel
theorem dX12_bytes_85 : decode cX12_bytes 85 = .ok (.putfield 391, 3) := by decide +kernel
theorem dX12_bytes_88 : decode cX12_bytes 88 = .ok (.aload_n 0, 1) := by decide +kernel
theorem dX12_bytes_89 : decode cX12_bytes 89 = .ok (.getfield 391, 3) := by decide +kernel
theorem dX12_bytes_92 : decode cX12_bytes 92 = .ok (.ireturn, 1) := by decide +kernel
theorem dX12_letter_0 : decode cX12_letter 0 = .ok (.aload_n 0, 1) := by decide +kernel
theorem dX12_letter_1 : decode cX12_letter 1 = .ok (.iconst 0, 1) := by decide +kernel
theorem dX12_letter_2 : decode cX12_letter 2 = .ok (.putfield 388, 3) := by decide +kernel
theorem dX12_letter_5 : decode cX12_letter 5 = .ok (.iload_n 1, 1) := by decide +kernel
theorem dX12_letter_6 : decode cX12_letter 6 = .ok (.ifCond .lt 24, 3) := by decide +kernel
theorem dX12_letter_9 : decode cX12_letter 9 = .ok (.iload_n 1, 1) := by decide +kernel
theorem dX12_letter_10 : decode cX12_letter 10 = .ok (.aload_n 0, 1) := by decide +kernel
theorem dX12_letter_11 : decode cX12_letter 11 = .ok (.getfield 391, 3) := by decide +kernel
theorem dX12_letter_14 : decode cX12_letter 14 = .ok (.if_icmp .ge 16, 3) := by decide +kernel
theorem dX12_letter_30 : decode cX12_letter 30 = .ok (.iconst (-1), 1) := by decide +kernel
theorem dX12_letter_31 : decode cX12_letter 31 = .ok (.ireturn, 1) := by decide +kernel
theorem dX12_takeByte_0 : decode cX12_takeByte 0 = .ok (.aload_n 0, 1) := by decide +kernel
theorem dX12_takeByte_1 : decode cX12_takeByte 1 = .ok (.getfield 625, 3) := by decide +kernel
theorem dX12_takeByte_4 : decode cX12_takeByte 4 = .ok (.ifCond .le 4, 3) := by decide +kernel
theorem dX12_takeByte_7 : decode cX12_takeByte 7 = .ok (.return_, 1) := by decide +kernel
theorem dX12_takeByte_8 : decode cX12_takeByte 8 = .ok (.aload_n 0, 1) := by decide +kernel
theorem dX12_takeByte_9 : decode cX12_takeByte 9 = .ok (.getfield 975, 3) := by decide +kernel
theorem dX12_takeByte_12 : decode cX12_takeByte 12 = .ok (.aload_n 0, 1) := by decide +kernel
theorem dX12_takeByte_13 : decode cX12_takeByte 13 = .ok (.getfield 953, 3) := by decide +kernel
theorem dX12_takeByte_16 : decode cX12_takeByte 16 = .ok (.if_icmp .ne 15, 3) := by decide +kernel
theorem dX12_takeByte_19 : decode cX12_takeByte 19 = .ok (.aload_n 0, 1) := by decide +kernel
theorem dX12_takeByte_20 : decode cX12_takeByte 20 = .ok (.iconst 1, 1) := by decide +kernel
theorem dX12_takeByte_21 : decode cX12_takeByte 21 = .ok (.aload_n 0, 1) := by decide +kernel
theorem dX12_takeByte_22 : decode cX12_takeByte 22 = .ok (.getfield 975, 3) := by decide +kernel
theorem dX12_takeByte_25 : decode cX12_takeByte 25 = .ok (.invokevirtual 653, 3) := by decide +kernel
theorem dX12_takeByte_28 : decode cX12_takeByte 28 = .ok (.goto 29, 3) := by decide +kernel
theorem dX12_takeByte_57 : decode cX12_takeByte 57 = .ok (.aload_n 0, 1) := by decide +kernel
theorem dX12_takeByte_58 : decode cX12_takeByte 58 = .ok (.dup, 1) := by decide +kernel
theorem dX12_takeByte_59 : decode cX12_takeByte 59 = .ok (.getfield 975, 3) := by decide +kernel
theorem dX12_takeByte_62 : decode cX12_takeByte 62 = .ok (.iconst 1, 1) := by decide +kernel
theorem dX12_takeByte_63 : decode cX12_takeByte 63 = .ok (.iadd, 1) := by decide +kernel
theorem dX12_takeByte_64 : decode cX12_takeByte 64 = .ok (.putfield 975, 3) := by decide +kernel
theorem dX12_takeByte_67 : decode cX12_takeByte 67 = .ok (.return_, 1) := by decide +kernel
theorem dX12_takePicture_0 : decode cX12_takePicture 0 = .ok (.aload_n 0, 1) := by decide +kernel
theorem dX12_takePicture_1 : decode cX12_takePicture 1 = .ok (.iconst 0, 1) := by decide +kernel
theorem dX12_takePicture_2 : decode cX12_takePicture 2 = .ok (.putfield 625, 3) := by decide +kernel
theorem dX12_takePicture_5 : decode cX12_takePicture 5 = .ok (.aload_n 0, 1) := by decide +kernel
theorem dX12_takePicture_6 : decode cX12_takePicture 6 = .ok (.iconst (-1), 1) := by decide +kernel
theorem dX12_takePicture_7 : decode cX12_takePicture 7 = .ok (.putfield 628, 3) := by decide +kernel
theorem dX12_takePicture_10 : decode cX12_takePicture 10 = .ok (.aload_n 0, 1) := by decide +kernel
theorem dX12_takePicture_11 : decode cX12_takePicture 11 = .ok (.iconst 0, 1) := by decide +kernel
theorem dX12_takePicture_12 : decode cX12_takePicture 12 = .ok (.putfield 975, 3) := by decide +kernel
theorem dX12_takePicture_15 : decode cX12_takePicture 15 = .ok (.aload_n 0, 1) := by decide +kernel
theorem dX12_takePicture_16 : decode cX12_takePicture 16 = .ok (.iconst 0, 1) := by decide +kernel
theorem dX12_takePicture_17 : decode cX12_takePicture 17 = .ok (.putfield 991, 3) := by decide +kernel
theorem dX12_takePicture_20 : decode cX12_takePicture 20 = .ok (.aload_n 0, 1) := by decide +kernel
theorem dX12_takePicture_21 : decode cX12_takePicture 21 = .ok (.bipush 72, 2) := by decide +kernel
theorem dX12_takePicture_23 : decode cX12_takePicture 23 = .ok (.invokevirtual 1004, 3) := by decide +kernel
theorem dX12_takePicture_26 : decode cX12_takePicture 26 = .ok (.aload_n 0, 1) := by decide +kernel
theorem dX12_takePicture_27 : decode cX12_takePicture 27 = .ok (.bipush 80, 2) := by decide +kernel
theorem dX12_takePicture_29 : decode cX12_takePicture 29 = .ok (.invokevirtual 1004, 3) := by decide +kernel
theorem dX12_takePicture_32 : decode cX12_takePicture 32 = .ok (.aload_n 0, 1) := by decide +kernel
theorem dX12_takePicture_33 : decode cX12_takePicture 33 = .ok (.getfield 625, 3) := by decide +kernel
theorem dX12_takePicture_36 : decode cX12_takePicture 36 = .ok (.ifCond .ne 10, 3) := by decide +kernel
theorem dX12_takePicture_46 : decode cX12_takePicture 46 = .ok (.lconst 0, 1) := by decide +kernel
theorem dX12_takePicture_47 : decode cX12_takePicture 47 = .ok (.lstore_n 1, 1) := by decide +kernel
theorem dX12_takePicture_48 : decode cX12_takePicture 48 = .ok (.aload_n 0, 1) := by decide +kernel
theorem dX12_takePicture_49 : decode cX12_takePicture 49 = .ok (.getfield 625, 3) := by decide +kernel
theorem dX12_takePicture_52 : decode cX12_takePicture 52 = .ok (.ifCond .ne 26, 3) := by decide +kernel
theorem dX12_takePicture_78 : decode cX12_takePicture 78 = .ok (.aload_n 0, 1) := by decide +kernel
theorem dX12_takePicture_79 : decode cX12_takePicture 79 = .ok (.getfield 183, 3) := by decide +kernel
theorem dX12_takePicture_82 : decode cX12_takePicture 82 = .ok (.iconst 4, 1) := by decide +kernel
theorem dX12_takePicture_83 : decode cX12_takePicture 83 = .ok (.aload_n 0, 1) := by decide +kernel
theorem dX12_takePicture_84 : decode cX12_takePicture 84 = .ok (.getfield 625, 3) := by decide +kernel
theorem dX12_takePicture_87 : decode cX12_takePicture 87 = .ok (.ifCond .ne 8, 3) := by decide +kernel
theorem dX12_takePicture_95 : decode cX12_takePicture 95 = .ok (.iconst 0, 1) := by decide +kernel
theorem dX12_takePicture_96 : decode cX12_takePicture 96 = .ok (.iastore, 1) := by decide +kernel
theorem dX12_takePicture_97 : decode cX12_takePicture 97 = .ok (.iconst 0, 1) := by decide +kernel
theorem dX12_takePicture_98 : decode cX12_takePicture 98 = .ok (.istore_n 3, 1) := by decide +kernel
theorem dX12_takePicture_99 : decode cX12_takePicture 99 = .ok (.iload_n 3, 1) := by decide +kernel
theorem dX12_takePicture_100 : decode cX12_takePicture 100 = .ok (.aload_n 0, 1) := by decide +kernel
theorem dX12_takePicture_101 : decode cX12_takePicture 101 = .ok (.getfield 183, 3) := by decide +kernel
theorem dX12_takePicture_104 : decode cX12_takePicture 104 = .ok (.iconst 4, 1) := by decide +kernel
theorem dX12_takePicture_105 : decode cX12_takePicture 105 = .ok (.iaload, 1) := by decide +kernel
theorem dX12_takePicture_106 : decode cX12_takePicture 106 = .ok (.if_icmp .ge 21, 3) := by decide +kernel
theorem dX12_takePicture_127 : decode cX12_takePicture 127 = .ok (.aload_n 0, 1) := by decide +kernel
theorem dX12_takePicture_128 : decode cX12_takePicture 128 = .ok (.getfield 625, 3) := by decide +kernel
theorem dX12_takePicture_131 : decode cX12_takePicture 131 = .ok (.ifCond .ne 7, 3) := by decide +kernel
theorem dX12_takePicture_138 : decode cX12_takePicture 138 = .ok (.aload_n 0, 1) := by decide +kernel
theorem dX12_takePicture_139 : decode cX12_takePicture 139 = .ok (.getfield 625, 3) := by decide +kernel
theorem dX12_takePicture_142 : decode cX12_takePicture 142 = .ok (.ifCond .ne 7, 3) := by decide +kernel
theorem dX12_takePicture_149 : decode cX12_takePicture 149 = .ok (.aload_n 0, 1) := by decide +kernel
theorem dX12_takePicture_150 : decode cX12_takePicture 150 = .ok (.getfield 975, 3) := by decide +kernel
theorem dX12_takePicture_153 : decode cX12_takePicture 153 = .ok (.istore_n 3, 1) := by decide +kernel
theorem dX12_takePicture_154 : decode cX12_takePicture 154 = .ok (.aload_n 0, 1) := by decide +kernel
theorem dX12_takePicture_155 : decode cX12_takePicture 155 = .ok (.getfield 625, 3) := by decide +kernel
theorem dX12_takePicture_158 : decode cX12_takePicture 158 = .ok (.ifCond .ne 25, 3) := by decide +kernel
theorem dX12_takePicture_183 : decode cX12_takePicture 183 = .ok (.aload_n 0, 1) := by decide +kernel
theorem dX12_takePicture_184 : decode cX12_takePicture 184 = .ok (.getfield 625, 3) := by decide +kernel
theorem dX12_takePicture_187 : decode cX12_takePicture 187 = .ok (.ifCond .ne 66, 3) := by decide +kernel
theorem dX12_takePicture_253 : decode cX12_takePicture 253 = .ok (.aload_n 0, 1) := by decide +kernel
theorem dX12_takePicture_254 : decode cX12_takePicture 254 = .ok (.getfield 625, 3) := by decide +kernel
theorem dX12_takePicture_257 : decode cX12_takePicture 257 = .ok (.ifCond .ne 24, 3) := by decide +kernel
theorem dX12_takePicture_281 : decode cX12_takePicture 281 = .ok (.aload_n 0, 1) := by decide +kernel
theorem dX12_takePicture_282 : decode cX12_takePicture 282 = .ok (.getfield 625, 3) := by decide +kernel
theorem dX12_takePicture_285 : decode cX12_takePicture 285 = .ok (.ifCond .ne 7, 3) := by decide +kernel
theorem dX12_takePicture_292 : decode cX12_takePicture 292 = .ok (.iconst 0, 1) := by decide +kernel
theorem dX12_takePicture_293 : decode cX12_takePicture 293 = .ok (.istore 4, 2) := by decide +kernel
theorem dX12_takePicture_295 : decode cX12_takePicture 295 = .ok (.iload 4, 2) := by decide +kernel
theorem dX12_takePicture_297 : decode cX12_takePicture 297 = .ok (.aload_n 0, 1) := by decide +kernel
theorem dX12_takePicture_298 : decode cX12_takePicture 298 = .ok (.getfield 183, 3) := by decide +kernel
theorem dX12_takePicture_301 : decode cX12_takePicture 301 = .ok (.iconst 4, 1) := by decide +kernel
theorem dX12_takePicture_302 : decode cX12_takePicture 302 = .ok (.iaload, 1) := by decide +kernel
theorem dX12_takePicture_303 : decode cX12_takePicture 303 = .ok (.if_icmp .ge 59, 3) := by decide +kernel
theorem dX12_takePicture_362 : decode cX12_takePicture 362 = .ok (.return_, 1) := by decide +kernel
theorem dX12_load_0 : decode cX12_load 0 = .ok (.aload_n 0, 1) := by decide +kernel
theorem dX12_load_1 : decode cX12_load 1 = .ok (.aload_n 0, 1) := by decide +kernel
theorem dX12_load_2 : decode cX12_load 2 = .ok (.iload_n 1, 1) := by decide +kernel
theorem dX12_load_3 : decode cX12_load 3 = .ok (.invokevirtual 542, 3) := by decide +kernel
theorem dX12_load_6 : decode cX12_load 6 = .ok (.ifCond .eq 7, 3) := by decide +kernel
theorem dX12_load_9 : decode cX12_load 9 = .ok (.iconst 0, 1) := by decide +kernel
theorem dX12_load_10 : decode cX12_load 10 = .ok (.goto 4, 3) := by decide +kernel
theorem dX12_load_13 : decode cX12_load 13 = .ok (.iconst 1, 1) := by decide +kernel
theorem dX12_load_14 : decode cX12_load 14 = .ok (.putfield 388, 3) := by decide +kernel
theorem dX12_load_17 : decode cX12_load 17 = .ok (.aload_n 0, 1) := by decide +kernel
theorem dX12_load_18 : decode cX12_load 18 = .ok (.getfield 388, 3) := by decide +kernel
theorem dX12_load_21 : decode cX12_load 21 = .ok (.ifCond .le 5, 3) := by decide +kernel
theorem dX12_load_24 : decode cX12_load 24 = .ok (.iconst 0, 1) := by decide +kernel
theorem dX12_load_25 : decode cX12_load 25 = .ok (.ireturn, 1) := by decide +kernel
theorem dX12_load_26 : decode cX12_load 26 = .ok (.aload_n 0, 1) := by decide +kernel
theorem dX12_load_27 : decode cX12_load 27 = .ok (.aload_n 0, 1) := by decide +kernel
theorem dX12_load_28 : decode cX12_load 28 = .ok (.getfield 391, 3) := by decide +kernel
theorem dX12_load_31 : decode cX12_load 31 = .ok (.putfield 953, 3) := by decide +kernel
theorem dX12_load_34 : decode cX12_load 34 = .ok (.iconst 0, 1) := by decide +kernel
theorem dX12_load_35 : decode cX12_load 35 = .ok (.istore_n 2, 1) := by decide +kernel
theorem dX12_load_36 : decode cX12_load 36 = .ok (.iload_n 2, 1) := by decide +kernel
theorem dX12_load_37 : decode cX12_load 37 = .ok (.aload_n 0, 1) := by decide +kernel
theorem dX12_load_38 : decode cX12_load 38 = .ok (.getfield 391, 3) := by decide +kernel
theorem dX12_load_41 : decode cX12_load 41 = .ok (.if_icmp .ge 21, 3) := by decide +kernel
theorem dX12_load_62 : decode cX12_load 62 = .ok (.aload_n 0, 1) := by decide +kernel
theorem dX12_load_63 : decode cX12_load 63 = .ok (.invokevirtual 1021, 3) := by decide +kernel
theorem dX12_load_66 : decode cX12_load 66 = .ok (.aload_n 0, 1) := by decide +kernel
theorem dX12_load_67 : decode cX12_load 67 = .ok (.aload_n 0, 1) := by decide +kernel
theorem dX12_load_68 : decode cX12_load 68 = .ok (.getfield 625, 3) := by decide +kernel
theorem dX12_load_71 : decode cX12_load 71 = .ok (.putfield 776, 3) := by decide +kernel
theorem dX12_load_74 : decode cX12_load 74 = .ok (.aload_n 0, 1) := by decide +kernel
theorem dX12_load_75 : decode cX12_load 75 = .ok (.aload_n 0, 1) := by decide +kernel
theorem dX12_load_76 : decode cX12_load 76 = .ok (.getfield 625, 3) := by decide +kernel
theorem dX12_load_79 : decode cX12_load 79 = .ok (.ifCond .le 10, 3) := by decide +kernel
theorem dX12_load_82 : decode cX12_load 82 = .ok (.aload_n 0, 1) := by decide +kernel
theorem dX12_load_83 : decode cX12_load 83 = .ok (.getfield 628, 3) := by decide +kernel
theorem dX12_load_86 : decode cX12_load 86 = .ok (.goto 4, 3) := by decide +kernel
theorem dX12_load_90 : decode cX12_load 90 = .ok (.putfield 268, 3) := by decide +kernel
theorem dX12_load_93 : decode cX12_load 93 = .ok (.aload_n 0, 1) := by decide +kernel
theorem dX12_load_94 : decode cX12_load 94 = .ok (.aload_n 0, 1) := by decide +kernel
theorem dX12_load_95 : decode cX12_load 95 = .ok (.getfield 625, 3) := by decide +kernel
theorem dX12_load_98 : decode cX12_load 98 = .ok (.ifCond .le 7, 3) := by decide +kernel
theorem dX12_load_101 : decode cX12_load 101 = .ok (.iconst 2, 1) := by decide +kernel
theorem dX12_load_102 : decode cX12_load 102 = .ok (.goto 4, 3) := by decide +kernel
theorem dX12_load_106 : decode cX12_load 106 = .ok (.putfield 388, 3) := by decide +kernel
theorem dX12_load_109 : decode cX12_load 109 = .ok (.aload_n 0, 1) := by decide +kernel
theorem dX12_load_110 : decode cX12_load 110 = .ok (.getfield 388, 3) := by decide +kernel
theorem dX12_load_113 : decode cX12_load 113 = .ok (.ifCond .le 5, 3) := by decide +kernel
theorem dX12_load_116 : decode cX12_load 116 = .ok (.iconst 0, 1) := by decide +kernel
theorem dX12_load_117 : decode cX12_load 117 = .ok (.ireturn, 1) := by decide +kernel
theorem dX12_keep_0 : decode cX12_keep 0 = .ok (.aload_n 0, 1) := by decide +kernel
theorem dX12_keep_1 : decode cX12_keep 1 = .ok (.aload_n 0, 1) := by decide +kernel
theorem dX12_keep_2 : decode cX12_keep 2 = .ok (.iload_n 1, 1) := by decide +kernel
theorem dX12_keep_3 : decode cX12_keep 3 = .ok (.invokevirtual 542, 3) := by decide +kernel
theorem dX12_keep_6 : decode cX12_keep 6 = .ok (.ifCond .eq 7, 3) := by decide +kernel
theorem dX12_keep_9 : decode cX12_keep 9 = .ok (.iconst 0, 1) := by decide +kernel
theorem dX12_keep_10 : decode cX12_keep 10 = .ok (.goto 4, 3) := by decide +kernel
theorem dX12_keep_13 : decode cX12_keep 13 = .ok (.iconst 1, 1) := by decide +kernel
theorem dX12_keep_14 : decode cX12_keep 14 = .ok (.putfield 388, 3) := by decide +kernel
theorem dX12_keep_17 : decode cX12_keep 17 = .ok (.aload_n 0, 1) := by decide +kernel
theorem dX12_keep_18 : decode cX12_keep 18 = .ok (.getfield 388, 3) := by decide +kernel
theorem dX12_keep_21 : decode cX12_keep 21 = .ok (.ifCond .le 5, 3) := by decide +kernel
theorem dX12_keep_24 : decode cX12_keep 24 = .ok (.iconst 0, 1) := by decide +kernel
theorem dX12_keep_25 : decode cX12_keep 25 = .ok (.ireturn, 1) := by decide +kernel
theorem dX12_keep_26 : decode cX12_keep 26 = .ok (.aload_n 0, 1) := by decide +kernel
theorem dX12_keep_27 : decode cX12_keep 27 = .ok (.aload_n 0, 1) := by decide +kernel
theorem dX12_keep_28 : decode cX12_keep 28 = .ok (.iload_n 1, 1) := by decide +kernel
theorem dX12_keep_29 : decode cX12_keep 29 = .ok (.invokevirtual 972, 3) := by decide +kernel
theorem dX12_keep_32 : decode cX12_keep 32 = .ok (.ifCond .eq 20, 3) := by decide +kernel
theorem dX12_keep_35 : decode cX12_keep 35 = .ok (.aload_n 0, 1) := by decide +kernel
theorem dX12_keep_36 : decode cX12_keep 36 = .ok (.getfield 1027, 3) := by decide +kernel
theorem dX12_keep_39 : decode cX12_keep 39 = .ok (.iconst 2, 1) := by decide +kernel
theorem dX12_keep_40 : decode cX12_keep 40 = .ok (.iadd, 1) := by decide +kernel
theorem dX12_keep_41 : decode cX12_keep 41 = .ok (.aload_n 0, 1) := by decide +kernel
theorem dX12_keep_42 : decode cX12_keep 42 = .ok (.getfield 953, 3) := by decide +kernel
theorem dX12_keep_45 : decode cX12_keep 45 = .ok (.iadd, 1) := by decide +kernel
theorem dX12_keep_46 : decode cX12_keep 46 = .ok (.sipush 8000, 3) := by decide +kernel
theorem dX12_keep_49 : decode cX12_keep 49 = .ok (.if_icmp .le 7, 3) := by decide +kernel
theorem dX12_keep_56 : decode cX12_keep 56 = .ok (.iconst 0, 1) := by decide +kernel
theorem dX12_keep_57 : decode cX12_keep 57 = .ok (.putfield 388, 3) := by decide +kernel
theorem dX12_keep_60 : decode cX12_keep 60 = .ok (.aload_n 0, 1) := by decide +kernel
theorem dX12_keep_61 : decode cX12_keep 61 = .ok (.getfield 388, 3) := by decide +kernel
theorem dX12_keep_64 : decode cX12_keep 64 = .ok (.ifCond .le 5, 3) := by decide +kernel
theorem dX12_keep_69 : decode cX12_keep 69 = .ok (.aload_n 0, 1) := by decide +kernel
theorem dX12_keep_70 : decode cX12_keep 70 = .ok (.getfield 381, 3) := by decide +kernel
theorem dX12_keep_73 : decode cX12_keep 73 = .ok (.aload_n 0, 1) := by decide +kernel
theorem dX12_keep_74 : decode cX12_keep 74 = .ok (.getfield 1030, 3) := by decide +kernel
theorem dX12_keep_77 : decode cX12_keep 77 = .ok (.aload_n 0, 1) := by decide +kernel
theorem dX12_keep_78 : decode cX12_keep 78 = .ok (.getfield 1027, 3) := by decide +kernel
theorem dX12_keep_81 : decode cX12_keep 81 = .ok (.iastore, 1) := by decide +kernel
theorem dX12_keep_82 : decode cX12_keep 82 = .ok (.aload_n 0, 1) := by decide +kernel
theorem dX12_keep_83 : decode cX12_keep 83 = .ok (.dup, 1) := by decide +kernel
theorem dX12_keep_84 : decode cX12_keep 84 = .ok (.getfield 1030, 3) := by decide +kernel
theorem dX12_keep_87 : decode cX12_keep 87 = .ok (.iconst 1, 1) := by decide +kernel
theorem dX12_keep_88 : decode cX12_keep 88 = .ok (.iadd, 1) := by decide +kernel
theorem dX12_keep_89 : decode cX12_keep 89 = .ok (.putfield 1030, 3) := by decide +kernel
theorem dX12_keep_92 : decode cX12_keep 92 = .ok (.aload_n 0, 1) := by decide +kernel
theorem dX12_keep_93 : decode cX12_keep 93 = .ok (.getfield 372, 3) := by decide +kernel
theorem dX12_keep_96 : decode cX12_keep 96 = .ok (.aload_n 0, 1) := by decide +kernel
theorem dX12_keep_97 : decode cX12_keep 97 = .ok (.getfield 1027, 3) := by decide +kernel
theorem dX12_keep_100 : decode cX12_keep 100 = .ok (.aload_n 0, 1) := by decide +kernel
theorem dX12_keep_101 : decode cX12_keep 101 = .ok (.getfield 953, 3) := by decide +kernel
theorem dX12_keep_104 : decode cX12_keep 104 = .ok (.i2b, 1) := by decide +kernel
theorem dX12_keep_105 : decode cX12_keep 105 = .ok (.bastore, 1) := by decide +kernel
theorem dX12_keep_106 : decode cX12_keep 106 = .ok (.aload_n 0, 1) := by decide +kernel
theorem dX12_keep_107 : decode cX12_keep 107 = .ok (.getfield 372, 3) := by decide +kernel
theorem dX12_keep_110 : decode cX12_keep 110 = .ok (.aload_n 0, 1) := by decide +kernel
theorem dX12_keep_111 : decode cX12_keep 111 = .ok (.getfield 1027, 3) := by decide +kernel
theorem dX12_keep_114 : decode cX12_keep 114 = .ok (.iconst 1, 1) := by decide +kernel
theorem dX12_keep_115 : decode cX12_keep 115 = .ok (.iadd, 1) := by decide +kernel
theorem dX12_keep_116 : decode cX12_keep 116 = .ok (.aload_n 0, 1) := by decide +kernel
theorem dX12_keep_117 : decode cX12_keep 117 = .ok (.getfield 953, 3) := by decide +kernel
theorem dX12_keep_120 : decode cX12_keep 120 = .ok (.bipush 8, 2) := by decide +kernel
theorem dX12_keep_122 : decode cX12_keep 122 = .ok (.ishr, 1) := by decide +kernel
theorem dX12_keep_123 : decode cX12_keep 123 = .ok (.i2b, 1) := by decide +kernel
theorem dX12_keep_124 : decode cX12_keep 124 = .ok (.bastore, 1) := by decide +kernel
theorem dX12_keep_125 : decode cX12_keep 125 = .ok (.iconst 0, 1) := by decide +kernel
theorem dX12_keep_126 : decode cX12_keep 126 = .ok (.istore_n 2, 1) := by decide +kernel
theorem dX12_keep_127 : decode cX12_keep 127 = .ok (.iload_n 2, 1) := by decide +kernel
theorem dX12_keep_128 : decode cX12_keep 128 = .ok (.aload_n 0, 1) := by decide +kernel
theorem dX12_keep_129 : decode cX12_keep 129 = .ok (.getfield 953, 3) := by decide +kernel
theorem dX12_keep_132 : decode cX12_keep 132 = .ok (.if_icmp .ge 28, 3) := by decide +kernel
theorem dX12_keep_135 : decode cX12_keep 135 = .ok (.aload_n 0, 1) := by decide +kernel
theorem dX12_keep_136 : decode cX12_keep 136 = .ok (.getfield 372, 3) := by decide +kernel
theorem dX12_keep_139 : decode cX12_keep 139 = .ok (.aload_n 0, 1) := by decide +kernel
theorem dX12_keep_140 : decode cX12_keep 140 = .ok (.getfield 1027, 3) := by decide +kernel
theorem dX12_keep_143 : decode cX12_keep 143 = .ok (.iconst 2, 1) := by decide +kernel
theorem dX12_keep_144 : decode cX12_keep 144 = .ok (.iadd, 1) := by decide +kernel
theorem dX12_keep_145 : decode cX12_keep 145 = .ok (.iload_n 2, 1) := by decide +kernel
theorem dX12_keep_146 : decode cX12_keep 146 = .ok (.iadd, 1) := by decide +kernel
theorem dX12_keep_147 : decode cX12_keep 147 = .ok (.aload_n 0, 1) := by decide +kernel
theorem dX12_keep_148 : decode cX12_keep 148 = .ok (.getfield 369, 3) := by decide +kernel
theorem dX12_keep_151 : decode cX12_keep 151 = .ok (.iload_n 2, 1) := by decide +kernel
theorem dX12_keep_152 : decode cX12_keep 152 = .ok (.baload, 1) := by decide +kernel
theorem dX12_keep_153 : decode cX12_keep 153 = .ok (.bastore, 1) := by decide +kernel
theorem dX12_keep_154 : decode cX12_keep 154 = .ok (.iinc 2 1, 3) := by decide +kernel
theorem dX12_keep_157 : decode cX12_keep 157 = .ok (.goto (-30), 3) := by decide +kernel
theorem dX12_keep_160 : decode cX12_keep 160 = .ok (.aload_n 0, 1) := by decide +kernel
theorem dX12_keep_161 : decode cX12_keep 161 = .ok (.dup, 1) := by decide +kernel
theorem dX12_keep_162 : decode cX12_keep 162 = .ok (.getfield 1027, 3) := by decide +kernel
theorem dX12_keep_165 : decode cX12_keep 165 = .ok (.iconst 2, 1) := by decide +kernel
theorem dX12_keep_166 : decode cX12_keep 166 = .ok (.aload_n 0, 1) := by decide +kernel
theorem dX12_keep_167 : decode cX12_keep 167 = .ok (.getfield 953, 3) := by decide +kernel
theorem dX12_keep_170 : decode cX12_keep 170 = .ok (.iadd, 1) := by decide +kernel
theorem dX12_keep_171 : decode cX12_keep 171 = .ok (.iadd, 1) := by decide +kernel
theorem dX12_keep_172 : decode cX12_keep 172 = .ok (.putfield 1027, 3) := by decide +kernel
theorem dX12_keep_175 : decode cX12_keep 175 = .ok (.aload_n 0, 1) := by decide +kernel
theorem dX12_keep_176 : decode cX12_keep 176 = .ok (.getfield 1030, 3) := by decide +kernel
theorem dX12_keep_179 : decode cX12_keep 179 = .ok (.ireturn, 1) := by decide +kernel
theorem dX12_reopen_0 : decode cX12_reopen 0 = .ok (.aload_n 0, 1) := by decide +kernel
theorem dX12_reopen_1 : decode cX12_reopen 1 = .ok (.iconst 0, 1) := by decide +kernel
theorem dX12_reopen_2 : decode cX12_reopen 2 = .ok (.putfield 388, 3) := by decide +kernel
theorem dX12_reopen_5 : decode cX12_reopen 5 = .ok (.iload_n 1, 1) := by decide +kernel
theorem dX12_reopen_6 : decode cX12_reopen 6 = .ok (.ifCond .ge 7, 3) := by decide +kernel
theorem dX12_reopen_9 : decode cX12_reopen 9 = .ok (.iconst 0, 1) := by decide +kernel
theorem dX12_reopen_10 : decode cX12_reopen 10 = .ok (.goto 19, 3) := by decide +kernel
theorem dX12_reopen_13 : decode cX12_reopen 13 = .ok (.iload_n 1, 1) := by decide +kernel
theorem dX12_reopen_14 : decode cX12_reopen 14 = .ok (.aload_n 0, 1) := by decide +kernel
theorem dX12_reopen_15 : decode cX12_reopen 15 = .ok (.getfield 1027, 3) := by decide +kernel
theorem dX12_reopen_18 : decode cX12_reopen 18 = .ok (.if_icmp .ge 7, 3) := by decide +kernel
theorem dX12_reopen_25 : decode cX12_reopen 25 = .ok (.aload_n 0, 1) := by decide +kernel
theorem dX12_reopen_26 : decode cX12_reopen 26 = .ok (.getfield 1027, 3) := by decide +kernel
theorem dX12_reopen_29 : decode cX12_reopen 29 = .ok (.istore_n 2, 1) := by decide +kernel
theorem dX12_reopen_30 : decode cX12_reopen 30 = .ok (.aload_n 0, 1) := by decide +kernel
theorem dX12_reopen_31 : decode cX12_reopen 31 = .ok (.iconst 0, 1) := by decide +kernel
theorem dX12_reopen_32 : decode cX12_reopen 32 = .ok (.putfield 1030, 3) := by decide +kernel
theorem dX12_reopen_35 : decode cX12_reopen 35 = .ok (.aload_n 0, 1) := by decide +kernel
theorem dX12_reopen_36 : decode cX12_reopen 36 = .ok (.iconst 0, 1) := by decide +kernel
theorem dX12_reopen_37 : decode cX12_reopen 37 = .ok (.putfield 1027, 3) := by decide +kernel
theorem dX12_reopen_40 : decode cX12_reopen 40 = .ok (.iconst 1, 1) := by decide +kernel
theorem dX12_reopen_41 : decode cX12_reopen 41 = .ok (.istore_n 3, 1) := by decide +kernel
theorem dX12_reopen_42 : decode cX12_reopen 42 = .ok (.iload_n 3, 1) := by decide +kernel
theorem dX12_reopen_43 : decode cX12_reopen 43 = .ok (.ifCond .eq 151, 3) := by decide +kernel
theorem dX12_reopen_46 : decode cX12_reopen 46 = .ok (.aload_n 0, 1) := by decide +kernel
theorem dX12_reopen_47 : decode cX12_reopen 47 = .ok (.getfield 1027, 3) := by decide +kernel
theorem dX12_reopen_50 : decode cX12_reopen 50 = .ok (.iconst 2, 1) := by decide +kernel
theorem dX12_reopen_51 : decode cX12_reopen 51 = .ok (.iadd, 1) := by decide +kernel
theorem dX12_reopen_52 : decode cX12_reopen 52 = .ok (.iload_n 2, 1) := by decide +kernel
theorem dX12_reopen_53 : decode cX12_reopen 53 = .ok (.if_icmp .gt 39, 3) := by decide +kernel
theorem dX12_reopen_92 : decode cX12_reopen 92 = .ok (.sipush 9999, 3) := by decide +kernel
theorem dX12_reopen_95 : decode cX12_reopen 95 = .ok (.istore 4, 2) := by decide +kernel
theorem dX12_reopen_97 : decode cX12_reopen 97 = .ok (.aload_n 0, 1) := by decide +kernel
theorem dX12_reopen_98 : decode cX12_reopen 98 = .ok (.getfield 1027, 3) := by decide +kernel
theorem dX12_reopen_101 : decode cX12_reopen 101 = .ok (.iconst 2, 1) := by decide +kernel
theorem dX12_reopen_102 : decode cX12_reopen 102 = .ok (.iadd, 1) := by decide +kernel
theorem dX12_reopen_103 : decode cX12_reopen 103 = .ok (.iload 4, 2) := by decide +kernel
theorem dX12_reopen_105 : decode cX12_reopen 105 = .ok (.iadd, 1) := by decide +kernel
theorem dX12_reopen_106 : decode cX12_reopen 106 = .ok (.iload_n 2, 1) := by decide +kernel
theorem dX12_reopen_107 : decode cX12_reopen 107 = .ok (.if_icmp .gt 7, 3) := by decide +kernel
theorem dX12_reopen_114 : decode cX12_reopen 114 = .ok (.iconst 0, 1) := by decide +kernel
theorem dX12_reopen_115 : decode cX12_reopen 115 = .ok (.istore_n 3, 1) := by decide +kernel
theorem dX12_reopen_116 : decode cX12_reopen 116 = .ok (.iload_n 3, 1) := by decide +kernel
theorem dX12_reopen_117 : decode cX12_reopen 117 = .ok (.ifCond .ne 6, 3) := by decide +kernel
theorem dX12_reopen_120 : decode cX12_reopen 120 = .ok (.goto (-78), 3) := by decide +kernel
theorem dX12_reopen_194 : decode cX12_reopen 194 = .ok (.aload_n 0, 1) := by decide +kernel
theorem dX12_reopen_195 : decode cX12_reopen 195 = .ok (.getfield 1030, 3) := by decide +kernel
theorem dX12_reopen_198 : decode cX12_reopen 198 = .ok (.ireturn, 1) := by decide +kernel
theorem dX12_recall_0 : decode cX12_recall 0 = .ok (.aload_n 0, 1) := by decide +kernel
theorem dX12_recall_1 : decode cX12_recall 1 = .ok (.aload_n 0, 1) := by decide +kernel
theorem dX12_recall_2 : decode cX12_recall 2 = .ok (.iload_n 1, 1) := by decide +kernel
theorem dX12_recall_3 : decode cX12_recall 3 = .ok (.invokevirtual 542, 3) := by decide +kernel
theorem dX12_recall_6 : decode cX12_recall 6 = .ok (.ifCond .eq 23, 3) := by decide +kernel
theorem dX12_recall_9 : decode cX12_recall 9 = .ok (.iload_n 2, 1) := by decide +kernel
theorem dX12_recall_10 : decode cX12_recall 10 = .ok (.ifCond .lt 11, 3) := by decide +kernel
theorem dX12_recall_13 : decode cX12_recall 13 = .ok (.iload_n 2, 1) := by decide +kernel
theorem dX12_recall_14 : decode cX12_recall 14 = .ok (.aload_n 0, 1) := by decide +kernel
theorem dX12_recall_15 : decode cX12_recall 15 = .ok (.getfield 1030, 3) := by decide +kernel
theorem dX12_recall_18 : decode cX12_recall 18 = .ok (.if_icmp .lt 7, 3) := by decide +kernel
theorem dX12_recall_21 : decode cX12_recall 21 = .ok (.iconst 2, 1) := by decide +kernel
theorem dX12_recall_22 : decode cX12_recall 22 = .ok (.goto 8, 3) := by decide +kernel
theorem dX12_recall_29 : decode cX12_recall 29 = .ok (.iconst 1, 1) := by decide +kernel
theorem dX12_recall_30 : decode cX12_recall 30 = .ok (.putfield 388, 3) := by decide +kernel
theorem dX12_recall_33 : decode cX12_recall 33 = .ok (.aload_n 0, 1) := by decide +kernel
theorem dX12_recall_34 : decode cX12_recall 34 = .ok (.getfield 388, 3) := by decide +kernel
theorem dX12_recall_37 : decode cX12_recall 37 = .ok (.ifCond .le 5, 3) := by decide +kernel
theorem dX12_recall_40 : decode cX12_recall 40 = .ok (.iconst 0, 1) := by decide +kernel
theorem dX12_recall_41 : decode cX12_recall 41 = .ok (.ireturn, 1) := by decide +kernel
theorem dX12_about_0 : decode cX12_about 0 = .ok (.aload_n 0, 1) := by decide +kernel
theorem dX12_about_1 : decode cX12_about 1 = .ok (.iconst 0, 1) := by decide +kernel
theorem dX12_about_2 : decode cX12_about 2 = .ok (.putfield 388, 3) := by decide +kernel
theorem dX12_about_5 : decode cX12_about 5 = .ok (.iconst 0, 1) := by decide +kernel
theorem dX12_about_6 : decode cX12_about 6 = .ok (.istore_n 2, 1) := by decide +kernel
theorem dX12_about_7 : decode cX12_about 7 = .ok (.iconst 0, 1) := by decide +kernel
theorem dX12_about_8 : decode cX12_about 8 = .ok (.istore_n 3, 1) := by decide +kernel
theorem dX12_about_9 : decode cX12_about 9 = .ok (.iload_n 3, 1) := by decide +kernel
theorem dX12_about_10 : decode cX12_about 10 = .ok (.aload_n 0, 1) := by decide +kernel
theorem dX12_about_11 : decode cX12_about 11 = .ok (.getfield 435, 3) := by decide +kernel
theorem dX12_about_14 : decode cX12_about 14 = .ok (.if_icmp .ge 26, 3) := by decide +kernel
theorem dX12_about_40 : decode cX12_about 40 = .ok (.iload_n 1, 1) := by decide +kernel
theorem dX12_about_41 : decode cX12_about 41 = .ok (.tableswitch 129 0 12 #[67, 72, 77, 79, 84, 89, 94, 99, 104, 109, 114, 119, 124], 67) := by decide +kernel
theorem dX12_about_108 : decode cX12_about 108 = .ok (.aload_n 0, 1) := by decide +kernel
theorem dX12_about_109 : decode cX12_about 109 = .ok (.getfield 391, 3) := by decide +kernel
theorem dX12_about_112 : decode cX12_about 112 = .ok (.ireturn, 1) := by decide +kernel
theorem dX12_about_113 : decode cX12_about 113 = .ok (.aload_n 0, 1) := by decide +kernel
theorem dX12_about_114 : decode cX12_about 114 = .ok (.getfield 413, 3) := by decide +kernel
theorem dX12_about_117 : decode cX12_about 117 = .ok (.ireturn, 1) := by decide +kernel
theorem dX12_about_118 : decode cX12_about 118 = .ok (.iload_n 2, 1) := by decide +kernel
theorem dX12_about_119 : decode cX12_about 119 = .ok (.ireturn, 1) := by decide +kernel
theorem dX12_about_120 : decode cX12_about 120 = .ok (.aload_n 0, 1) := by decide +kernel
theorem dX12_about_121 : decode cX12_about 121 = .ok (.getfield 461, 3) := by decide +kernel
theorem dX12_about_124 : decode cX12_about 124 = .ok (.ireturn, 1) := by decide +kernel
theorem dX12_about_125 : decode cX12_about 125 = .ok (.aload_n 0, 1) := by decide +kernel
theorem dX12_about_126 : decode cX12_about 126 = .ok (.getfield 470, 3) := by decide +kernel
theorem dX12_about_129 : decode cX12_about 129 = .ok (.ireturn, 1) := by decide +kernel
theorem dX12_about_130 : decode cX12_about 130 = .ok (.aload_n 0, 1) := by decide +kernel
theorem dX12_about_131 : decode cX12_about 131 = .ok (.getfield 482, 3) := by decide +kernel
theorem dX12_about_134 : decode cX12_about 134 = .ok (.ireturn, 1) := by decide +kernel
theorem dX12_about_135 : decode cX12_about 135 = .ok (.aload_n 0, 1) := by decide +kernel
theorem dX12_about_136 : decode cX12_about 136 = .ok (.getfield 479, 3) := by decide +kernel
theorem dX12_about_139 : decode cX12_about 139 = .ok (.ireturn, 1) := by decide +kernel
theorem dX12_about_140 : decode cX12_about 140 = .ok (.aload_n 0, 1) := by decide +kernel
theorem dX12_about_141 : decode cX12_about 141 = .ok (.getfield 1030, 3) := by decide +kernel
theorem dX12_about_144 : decode cX12_about 144 = .ok (.ireturn, 1) := by decide +kernel
theorem dX12_about_145 : decode cX12_about 145 = .ok (.aload_n 0, 1) := by decide +kernel
theorem dX12_about_146 : decode cX12_about 146 = .ok (.getfield 1027, 3) := by decide +kernel
theorem dX12_about_149 : decode cX12_about 149 = .ok (.ireturn, 1) := by decide +kernel
theorem dX12_about_150 : decode cX12_about 150 = .ok (.aload_n 0, 1) := by decide +kernel
theorem dX12_about_151 : decode cX12_about 151 = .ok (.getfield 485, 3) := by decide +kernel
theorem dX12_about_154 : decode cX12_about 154 = .ok (.ireturn, 1) := by decide +kernel
theorem dX12_about_155 : decode cX12_about 155 = .ok (.aload_n 0, 1) := by decide +kernel
theorem dX12_about_156 : decode cX12_about 156 = .ok (.getfield 872, 3) := by decide +kernel
theorem dX12_about_159 : decode cX12_about 159 = .ok (.ireturn, 1) := by decide +kernel
theorem dX12_about_160 : decode cX12_about 160 = .ok (.aload_n 0, 1) := by decide +kernel
theorem dX12_about_161 : decode cX12_about 161 = .ok (.getfield 852, 3) := by decide +kernel
theorem dX12_about_164 : decode cX12_about 164 = .ok (.ireturn, 1) := by decide +kernel
theorem dX12_about_165 : decode cX12_about 165 = .ok (.aload_n 0, 1) := by decide +kernel
theorem dX12_about_166 : decode cX12_about 166 = .ok (.getfield 905, 3) := by decide +kernel
theorem dX12_about_169 : decode cX12_about 169 = .ok (.ireturn, 1) := by decide +kernel
theorem dX12_about_170 : decode cX12_about 170 = .ok (.iconst (-1), 1) := by decide +kernel
theorem dX12_about_171 : decode cX12_about 171 = .ok (.ireturn, 1) := by decide +kernel
