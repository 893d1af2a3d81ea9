/-! the reference: its constructor -/
theorem qw_1355 : (Jvm.Cond.instantiable "RingKeepersModel" (52 : Nat)) ∈ mx_wall := mx_w 1539 (by decide +kernel) (by decide +kernel)
theorem qw_1363 : (Jvm.Cond.instanceMethod ({ cls := "RingKeepersModel", name := "<init>", desc := "()V" } : Jvm.MethodName)) ∈ mx_wall := mx_w 1547 (by decide +kernel) (by decide +kernel)
theorem qw_1364 : (Jvm.Cond.code ({ cls := "RingKeepersModel", name := "<init>", desc := "()V" } : Jvm.MethodName) prog_15_method_14_code (2 : Nat) (Option.none : Option Jvm.ClassFile.FieldType)) ∈ mx_wall := mx_w 1548 (by decide +kernel) (by decide +kernel)
theorem yo_X13_init : mx_Y yX13_init cX13_init 2 none 0 := ⟨qw_1364, qw_14, by decide +kernel, by decide⟩
theorem dX13_init_0 : decode cX13_init 0 = .ok (.aload_n 0, 1) := by decide +kernel
theorem dX13_init_1 : decode cX13_init 1 = .ok (.invokespecial 27, 3) := by decide +kernel
theorem dX13_init_4 : decode cX13_init 4 = .ok (.aload_n 0, 1) := by decide +kernel
theorem dX13_init_5 : decode cX13_init 5 = .ok (.sipush 940, 3) := by decide +kernel
theorem dX13_init_8 : decode cX13_init 8 = .ok (.newarray .byte, 2) := by decide +kernel
theorem dX13_init_10 : decode cX13_init 10 = .ok (.putfield 14, 3) := by decide +kernel
theorem dX13_init_13 : decode cX13_init 13 = .ok (.aload_n 0, 1) := by decide +kernel
theorem dX13_init_14 : decode cX13_init 14 = .ok (.sipush 294, 3) := by decide +kernel
theorem dX13_init_17 : decode cX13_init 17 = .ok (.newarray .int, 2) := by decide +kernel
theorem dX13_init_19 : decode cX13_init 19 = .ok (.putfield 33, 3) := by decide +kernel
theorem dX13_init_22 : decode cX13_init 22 = .ok (.aload_n 0, 1) := by decide +kernel
theorem dX13_init_23 : decode cX13_init 23 = .ok (.bipush 54, 2) := by decide +kernel
theorem dX13_init_25 : decode cX13_init 25 = .ok (.newarray .int, 2) := by decide +kernel
theorem dX13_init_27 : decode cX13_init 27 = .ok (.putfield 37, 3) := by decide +kernel
theorem dX13_init_30 : decode cX13_init 30 = .ok (.aload_n 0, 1) := by decide +kernel
theorem dX13_init_31 : decode cX13_init 31 = .ok (.sipush 160, 3) := by decide +kernel
theorem dX13_init_34 : decode cX13_init 34 = .ok (.newarray .int, 2) := by decide +kernel
theorem dX13_init_36 : decode cX13_init 36 = .ok (.putfield 40, 3) := by decide +kernel
theorem dX13_init_39 : decode cX13_init 39 = .ok (.aload_n 0, 1) := by decide +kernel
theorem dX13_init_40 : decode cX13_init 40 = .ok (.bipush 28, 2) := by decide +kernel
theorem dX13_init_42 : decode cX13_init 42 = .ok (.newarray .long, 2) := by decide +kernel
theorem dX13_init_44 : decode cX13_init 44 = .ok (.putfield 43, 3) := by decide +kernel
theorem dX13_init_47 : decode cX13_init 47 = .ok (.aload_n 0, 1) := by decide +kernel
theorem dX13_init_48 : decode cX13_init 48 = .ok (.bipush 23, 2) := by decide +kernel
theorem dX13_init_50 : decode cX13_init 50 = .ok (.newarray .long, 2) := by decide +kernel
theorem dX13_init_52 : decode cX13_init 52 = .ok (.putfield 47, 3) := by decide +kernel
theorem dX13_init_55 : decode cX13_init 55 = .ok (.aload_n 0, 1) := by decide +kernel
theorem dX13_init_56 : decode cX13_init 56 = .ok (.sipush 472, 3) := by decide +kernel
theorem dX13_init_59 : decode cX13_init 59 = .ok (.newarray .int, 2) := by decide +kernel
theorem dX13_init_61 : decode cX13_init 61 = .ok (.putfield 50, 3) := by decide +kernel
theorem dX13_init_64 : decode cX13_init 64 = .ok (.aload_n 0, 1) := by decide +kernel
theorem dX13_init_65 : decode cX13_init 65 = .ok (.bipush 59, 2) := by decide +kernel
theorem dX13_init_67 : decode cX13_init 67 = .ok (.newarray .int, 2) := by decide +kernel
theorem dX13_init_69 : decode cX13_init 69 = .ok (.putfield 53, 3) := by decide +kernel
theorem dX13_init_72 : decode cX13_init 72 = .ok (.aload_n 0, 1) := by decide +kernel
theorem dX13_init_73 : decode cX13_init 73 = .ok (.bipush 7, 2) := by decide +kernel
theorem dX13_init_75 : decode cX13_init 75 = .ok (.newarray .int, 2) := by decide +kernel
theorem dX13_init_77 : decode cX13_init 77 = .ok (.putfield 56, 3) := by decide +kernel
theorem dX13_init_80 : decode cX13_init 80 = .ok (.aload_n 0, 1) := by decide +kernel
theorem dX13_init_81 : decode cX13_init 81 = .ok (.bipush 7, 2) := by decide +kernel
theorem dX13_init_83 : decode cX13_init 83 = .ok (.newarray .int, 2) := by decide +kernel
theorem dX13_init_85 : decode cX13_init 85 = .ok (.putfield 59, 3) := by decide +kernel
theorem dX13_init_88 : decode cX13_init 88 = .ok (.aload_n 0, 1) := by decide +kernel
theorem dX13_init_89 : decode cX13_init 89 = .ok (.iconst (-1), 1) := by decide +kernel
theorem dX13_init_90 : decode cX13_init 90 = .ok (.putfield 62, 3) := by decide +kernel
theorem dX13_init_93 : decode cX13_init 93 = .ok (.aload_n 0, 1) := by decide +kernel
theorem dX13_init_94 : decode cX13_init 94 = .ok (.sipush 1024, 3) := by decide +kernel
theorem dX13_init_97 : decode cX13_init 97 = .ok (.newarray .int, 2) := by decide +kernel
theorem dX13_init_99 : decode cX13_init 99 = .ok (.putfield 65, 3) := by decide +kernel
theorem dX13_init_102 : decode cX13_init 102 = .ok (.aload_n 0, 1) := by decide +kernel
theorem dX13_init_103 : decode cX13_init 103 = .ok (.bipush 7, 2) := by decide +kernel
theorem dX13_init_105 : decode cX13_init 105 = .ok (.newarray .int, 2) := by decide +kernel
theorem dX13_init_107 : decode cX13_init 107 = .ok (.putfield 68, 3) := by decide +kernel
theorem dX13_init_110 : decode cX13_init 110 = .ok (.aload_n 0, 1) := by decide +kernel
theorem dX13_init_111 : decode cX13_init 111 = .ok (.iconst (-1), 1) := by decide +kernel
theorem dX13_init_112 : decode cX13_init 112 = .ok (.putfield 71, 3) := by decide +kernel
theorem dX13_init_115 : decode cX13_init 115 = .ok (.aload_n 0, 1) := by decide +kernel
theorem dX13_init_116 : decode cX13_init 116 = .ok (.sipush 1024, 3) := by decide +kernel
theorem dX13_init_119 : decode cX13_init 119 = .ok (.newarray .int, 2) := by decide +kernel
theorem dX13_init_121 : decode cX13_init 121 = .ok (.putfield 74, 3) := by decide +kernel
theorem dX13_init_124 : decode cX13_init 124 = .ok (.aload_n 0, 1) := by decide +kernel
theorem dX13_init_125 : decode cX13_init 125 = .ok (.sipush 1024, 3) := by decide +kernel
theorem dX13_init_128 : decode cX13_init 128 = .ok (.newarray .int, 2) := by decide +kernel
theorem dX13_init_130 : decode cX13_init 130 = .ok (.putfield 77, 3) := by decide +kernel
theorem dX13_init_133 : decode cX13_init 133 = .ok (.aload_n 0, 1) := by decide +kernel
theorem dX13_init_134 : decode cX13_init 134 = .ok (.bipush 104, 2) := by decide +kernel
theorem dX13_init_136 : decode cX13_init 136 = .ok (.newarray .byte, 2) := by decide +kernel
theorem dX13_init_138 : decode cX13_init 138 = .ok (.putfield 80, 3) := by decide +kernel
theorem dX13_init_141 : decode cX13_init 141 = .ok (.aload_n 0, 1) := by decide +kernel
theorem dX13_init_142 : decode cX13_init 142 = .ok (.iconst 4, 1) := by decide +kernel
theorem dX13_init_143 : decode cX13_init 143 = .ok (.newarray .int, 2) := by decide +kernel
theorem dX13_init_145 : decode cX13_init 145 = .ok (.putfield 83, 3) := by decide +kernel
theorem dX13_init_148 : decode cX13_init 148 = .ok (.aload_n 0, 1) := by decide +kernel
theorem dX13_init_149 : decode cX13_init 149 = .ok (.bipush 45, 2) := by decide +kernel
theorem dX13_init_151 : decode cX13_init 151 = .ok (.newarray .int, 2) := by decide +kernel
theorem dX13_init_153 : decode cX13_init 153 = .ok (.putfield 86, 3) := by decide +kernel
theorem dX13_init_156 : decode cX13_init 156 = .ok (.aload_n 0, 1) := by decide +kernel
theorem dX13_init_157 : decode cX13_init 157 = .ok (.bipush 45, 2) := by decide +kernel
theorem dX13_init_159 : decode cX13_init 159 = .ok (.newarray .boolean, 2) := by decide +kernel
theorem dX13_init_161 : decode cX13_init 161 = .ok (.putfield 89, 3) := by decide +kernel
theorem dX13_init_164 : decode cX13_init 164 = .ok (.aload_n 0, 1) := by decide +kernel
theorem dX13_init_165 : decode cX13_init 165 = .ok (.sipush 588, 3) := by decide +kernel
theorem dX13_init_168 : decode cX13_init 168 = .ok (.newarray .int, 2) := by decide +kernel
theorem dX13_init_170 : decode cX13_init 170 = .ok (.putfield 93, 3) := by decide +kernel
theorem dX13_init_173 : decode cX13_init 173 = .ok (.aload_n 0, 1) := by decide +kernel
theorem dX13_init_174 : decode cX13_init 174 = .ok (.bipush 28, 2) := by decide +kernel
theorem dX13_init_176 : decode cX13_init 176 = .ok (.newarray .long, 2) := by decide +kernel
theorem dX13_init_178 : decode cX13_init 178 = .ok (.putfield 96, 3) := by decide +kernel
theorem dX13_init_181 : decode cX13_init 181 = .ok (.aload_n 0, 1) := by decide +kernel
theorem dX13_init_182 : decode cX13_init 182 = .ok (.iconst 2, 1) := by decide +kernel
theorem dX13_init_183 : decode cX13_init 183 = .ok (.newarray .boolean, 2) := by decide +kernel
theorem dX13_init_185 : decode cX13_init 185 = .ok (.putfield 99, 3) := by decide +kernel
theorem dX13_init_188 : decode cX13_init 188 = .ok (.aload_n 0, 1) := by decide +kernel
theorem dX13_init_189 : decode cX13_init 189 = .ok (.getfield 47, 3) := by decide +kernel
theorem dX13_init_192 : decode cX13_init 192 = .ok (.iconst 0, 1) := by decide +kernel
theorem dX13_init_193 : decode cX13_init 193 = .ok (.ldc2_w 102, 3) := by decide +kernel
theorem dX13_init_196 : decode cX13_init 196 = .ok (.lastore, 1) := by decide +kernel
theorem dX13_init_197 : decode cX13_init 197 = .ok (.aload_n 0, 1) := by decide +kernel
theorem dX13_init_198 : decode cX13_init 198 = .ok (.getfield 47, 3) := by decide +kernel
theorem dX13_init_201 : decode cX13_init 201 = .ok (.iconst 1, 1) := by decide +kernel
theorem dX13_init_202 : decode cX13_init 202 = .ok (.ldc2_w 104, 3) := by decide +kernel
theorem dX13_init_205 : decode cX13_init 205 = .ok (.lastore, 1) := by decide +kernel
theorem dX13_init_206 : decode cX13_init 206 = .ok (.aload_n 0, 1) := by decide +kernel
theorem dX13_init_207 : decode cX13_init 207 = .ok (.getfield 47, 3) := by decide +kernel
theorem dX13_init_210 : decode cX13_init 210 = .ok (.iconst 2, 1) := by decide +kernel
theorem dX13_init_211 : decode cX13_init 211 = .ok (.ldc2_w 106, 3) := by decide +kernel
theorem dX13_init_214 : decode cX13_init 214 = .ok (.lastore, 1) := by decide +kernel
theorem dX13_init_215 : decode cX13_init 215 = .ok (.aload_n 0, 1) := by decide +kernel
theorem dX13_init_216 : decode cX13_init 216 = .ok (.getfield 47, 3) := by decide +kernel
theorem dX13_init_219 : decode cX13_init 219 = .ok (.iconst 3, 1) := by decide +kernel
theorem dX13_init_220 : decode cX13_init 220 = .ok (.ldc2_w 108, 3) := by decide +kernel
theorem dX13_init_223 : decode cX13_init 223 = .ok (.lastore, 1) := by decide +kernel
theorem dX13_init_224 : decode cX13_init 224 = .ok (.aload_n 0, 1) := by decide +kernel
theorem dX13_init_225 : decode cX13_init 225 = .ok (.getfield 47, 3) := by decide +kernel
theorem dX13_init_228 : decode cX13_init 228 = .ok (.iconst 4, 1) := by decide +kernel
theorem dX13_init_229 : decode cX13_init 229 = .ok (.ldc2_w 110, 3) := by decide +kernel
theorem dX13_init_232 : decode cX13_init 232 = .ok (.lastore, 1) := by decide +kernel
theorem dX13_init_233 : decode cX13_init 233 = .ok (.aload_n 0, 1) := by decide +kernel
theorem dX13_init_234 : decode cX13_init 234 = .ok (.getfield 47, 3) := by decide +kernel
theorem dX13_init_237 : decode cX13_init 237 = .ok (.iconst 5, 1) := by decide +kernel
theorem dX13_init_238 : decode cX13_init 238 = .ok (.ldc2_w 112, 3) := by decide +kernel
theorem dX13_init_241 : decode cX13_init 241 = .ok (.lastore, 1) := by decide +kernel
theorem dX13_init_242 : decode cX13_init 242 = .ok (.aload_n 0, 1) := by decide +kernel
theorem dX13_init_243 : decode cX13_init 243 = .ok (.getfield 47, 3) := by decide +kernel
theorem dX13_init_246 : decode cX13_init 246 = .ok (.bipush 6, 2) := by decide +kernel
theorem dX13_init_248 : decode cX13_init 248 = .ok (.ldc2_w 114, 3) := by decide +kernel
theorem dX13_init_251 : decode cX13_init 251 = .ok (.lastore, 1) := by decide +kernel
theorem dX13_init_252 : decode cX13_init 252 = .ok (.aload_n 0, 1) := by decide +kernel
theorem dX13_init_253 : decode cX13_init 253 = .ok (.getfield 47, 3) := by decide +kernel
theorem dX13_init_256 : decode cX13_init 256 = .ok (.bipush 7, 2) := by decide +kernel
theorem dX13_init_258 : decode cX13_init 258 = .ok (.ldc2_w 116, 3) := by decide +kernel
theorem dX13_init_261 : decode cX13_init 261 = .ok (.lastore, 1) := by decide +kernel
theorem dX13_init_262 : decode cX13_init 262 = .ok (.aload_n 0, 1) := by decide +kernel
theorem dX13_init_263 : decode cX13_init 263 = .ok (.getfield 47, 3) := by decide +kernel
theorem dX13_init_266 : decode cX13_init 266 = .ok (.bipush 8, 2) := by decide +kernel
theorem dX13_init_268 : decode cX13_init 268 = .ok (.ldc2_w 118, 3) := by decide +kernel
theorem dX13_init_271 : decode cX13_init 271 = .ok (.lastore, 1) := by decide +kernel
theorem dX13_init_272 : decode cX13_init 272 = .ok (.aload_n 0, 1) := by decide +kernel
theorem dX13_init_273 : decode cX13_init 273 = .ok (.getfield 47, 3) := by decide +kernel
theorem dX13_init_276 : decode cX13_init 276 = .ok (.bipush 9, 2) := by decide +kernel
theorem dX13_init_278 : decode cX13_init 278 = .ok (.ldc2_w 120, 3) := by decide +kernel
theorem dX13_init_281 : decode cX13_init 281 = .ok (.lastore, 1) := by decide +kernel
theorem dX13_init_282 : decode cX13_init 282 = .ok (.aload_n 0, 1) := by decide +kernel
theorem dX13_init_283 : decode cX13_init 283 = .ok (.getfield 47, 3) := by decide +kernel
theorem dX13_init_286 : decode cX13_init 286 = .ok (.bipush 10, 2) := by decide +kernel
theorem dX13_init_288 : decode cX13_init 288 = .ok (.ldc2_w 122, 3) := by decide +kernel
theorem dX13_init_291 : decode cX13_init 291 = .ok (.lastore, 1) := by decide +kernel
theorem dX13_init_292 : decode cX13_init 292 = .ok (.aload_n 0, 1) := by decide +kernel
theorem dX13_init_293 : decode cX13_init 293 = .ok (.getfield 47, 3) := by decide +kernel
theorem dX13_init_296 : decode cX13_init 296 = .ok (.bipush 11, 2) := by decide +kernel
theorem dX13_init_298 : decode cX13_init 298 = .ok (.ldc2_w 124, 3) := by decide +kernel
theorem dX13_init_301 : decode cX13_init 301 = .ok (.lastore, 1) := by decide +kernel
theorem dX13_init_302 : decode cX13_init 302 = .ok (.aload_n 0, 1) := by decide +kernel
theorem dX13_init_303 : decode cX13_init 303 = .ok (.getfield 47, 3) := by decide +kernel
theorem dX13_init_306 : decode cX13_init 306 = .ok (.bipush 12, 2) := by decide +kernel
theorem dX13_init_308 : decode cX13_init 308 = .ok (.ldc2_w 126, 3) := by decide +kernel
theorem dX13_init_311 : decode cX13_init 311 = .ok (.lastore, 1) := by decide +kernel
theorem dX13_init_312 : decode cX13_init 312 = .ok (.aload_n 0, 1) := by decide +kernel
theorem dX13_init_313 : decode cX13_init 313 = .ok (.getfield 47, 3) := by decide +kernel
theorem dX13_init_316 : decode cX13_init 316 = .ok (.bipush 13, 2) := by decide +kernel
theorem dX13_init_318 : decode cX13_init 318 = .ok (.ldc2_w 128, 3) := by decide +kernel
theorem dX13_init_321 : decode cX13_init 321 = .ok (.lastore, 1) := by decide +kernel
theorem dX13_init_322 : decode cX13_init 322 = .ok (.aload_n 0, 1) := by decide +kernel
theorem dX13_init_323 : decode cX13_init 323 = .ok (.getfield 47, 3) := by decide +kernel
theorem dX13_init_326 : decode cX13_init 326 = .ok (.bipush 14, 2) := by decide +kernel
theorem dX13_init_328 : decode cX13_init 328 = .ok (.ldc2_w 130, 3) := by decide +kernel
theorem dX13_init_331 : decode cX13_init 331 = .ok (.lastore, 1) := by decide +kernel
theorem dX13_init_332 : decode cX13_init 332 = .ok (.aload_n 0, 1) := by decide +kernel
theorem dX13_init_333 : decode cX13_init 333 = .ok (.getfield 47, 3) := by decide +kernel
theorem dX13_init_336 : decode cX13_init 336 = .ok (.bipush 15, 2) := by decide +kernel
theorem dX13_init_338 : decode cX13_init 338 = .ok (.ldc2_w 132, 3) := by decide +kernel
theorem dX13_init_341 : decode cX13_init 341 = .ok (.lastore, 1) := by decide +kernel
theorem dX13_init_342 : decode cX13_init 342 = .ok (.aload_n 0, 1) := by decide +kernel
theorem dX13_init_343 : decode cX13_init 343 = .ok (.getfield 47, 3) := by decide +kernel
theorem dX13_init_346 : decode cX13_init 346 = .ok (.bipush 16, 2) := by decide +kernel
theorem dX13_init_348 : decode cX13_init 348 = .ok (.ldc2_w 134, 3) := by decide +kernel
theorem dX13_init_351 : decode cX13_init 351 = .ok (.lastore, 1) := by decide +kernel
theorem dX13_init_352 : decode cX13_init 352 = .ok (.aload_n 0, 1) := by decide +kernel
theorem dX13_init_353 : decode cX13_init 353 = .ok (.getfield 47, 3) := by decide +kernel
theorem dX13_init_356 : decode cX13_init 356 = .ok (.bipush 17, 2) := by decide +kernel
theorem dX13_init_358 : decode cX13_init 358 = .ok (.ldc2_w 136, 3) := by decide +kernel
theorem dX13_init_361 : decode cX13_init 361 = .ok (.lastore, 1) := by decide +kernel
theorem dX13_init_362 : decode cX13_init 362 = .ok (.aload_n 0, 1) := by decide +kernel
theorem dX13_init_363 : decode cX13_init 363 = .ok (.getfield 47, 3) := by decide +kernel
theorem dX13_init_366 : decode cX13_init 366 = .ok (.bipush 18, 2) := by decide +kernel
theorem dX13_init_368 : decode cX13_init 368 = .ok (.ldc2_w 138, 3) := by decide +kernel
theorem dX13_init_371 : decode cX13_init 371 = .ok (.lastore, 1) := by decide +kernel
theorem dX13_init_372 : decode cX13_init 372 = .ok (.aload_n 0, 1) := by decide +kernel
theorem dX13_init_373 : decode cX13_init 373 = .ok (.getfield 47, 3) := by decide +kernel
theorem dX13_init_376 : decode cX13_init 376 = .ok (.bipush 19, 2) := by decide +kernel
theorem dX13_init_378 : decode cX13_init 378 = .ok (.ldc2_w 140, 3) := by decide +kernel
theorem dX13_init_381 : decode cX13_init 381 = .ok (.lastore, 1) := by decide +kernel
theorem dX13_init_382 : decode cX13_init 382 = .ok (.aload_n 0, 1) := by decide +kernel
theorem dX13_init_383 : decode cX13_init 383 = .ok (.getfield 47, 3) := by decide +kernel
theorem dX13_init_386 : decode cX13_init 386 = .ok (.bipush 20, 2) := by decide +kernel
theorem dX13_init_388 : decode cX13_init 388 = .ok (.ldc2_w 142, 3) := by decide +kernel
theorem dX13_init_391 : decode cX13_init 391 = .ok (.lastore, 1) := by decide +kernel
theorem dX13_init_392 : decode cX13_init 392 = .ok (.aload_n 0, 1) := by decide +kernel
theorem dX13_init_393 : decode cX13_init 393 = .ok (.getfield 47, 3) := by decide +kernel
theorem dX13_init_396 : decode cX13_init 396 = .ok (.bipush 21, 2) := by decide +kernel
theorem dX13_init_398 : decode cX13_init 398 = .ok (.ldc2_w 144, 3) := by decide +kernel
theorem dX13_init_401 : decode cX13_init 401 = .ok (.lastore, 1) := by decide +kernel
theorem dX13_init_402 : decode cX13_init 402 = .ok (.aload_n 0, 1) := by decide +kernel
theorem dX13_init_403 : decode cX13_init 403 = .ok (.getfield 47, 3) := by decide +kernel
theorem dX13_init_406 : decode cX13_init 406 = .ok (.bipush 22, 2) := by decide +kernel
theorem dX13_init_408 : decode cX13_init 408 = .ok (.ldc2_w 146, 3) := by decide +kernel
theorem dX13_init_411 : decode cX13_init 411 = .ok (.lastore, 1) := by decide +kernel
theorem dX13_init_412 : decode cX13_init 412 = .ok (.aload_n 0, 1) := by decide +kernel
theorem dX13_init_413 : decode cX13_init 413 = .ok (.invokevirtual 148, 3) := by decide +kernel
theorem dX13_init_416 : decode cX13_init 416 = .ok (.iconst 0, 1) := by decide +kernel
theorem dX13_init_417 : decode cX13_init 417 = .ok (.istore_n 1, 1) := by decide +kernel
theorem dX13_init_418 : decode cX13_init 418 = .ok (.iload_n 1, 1) := by decide +kernel
theorem dX13_init_419 : decode cX13_init 419 = .ok (.bipush 54, 2) := by decide +kernel
theorem dX13_init_421 : decode cX13_init 421 = .ok (.if_icmp .ge 21, 3) := by decide +kernel
theorem dX13_init_424 : decode cX13_init 424 = .ok (.aload_n 0, 1) := by decide +kernel
theorem dX13_init_425 : decode cX13_init 425 = .ok (.getfield 33, 3) := by decide +kernel
theorem dX13_init_428 : decode cX13_init 428 = .ok (.iload_n 1, 1) := by decide +kernel
theorem dX13_init_429 : decode cX13_init 429 = .ok (.aload_n 0, 1) := by decide +kernel
theorem dX13_init_430 : decode cX13_init 430 = .ok (.getfield 37, 3) := by decide +kernel
theorem dX13_init_433 : decode cX13_init 433 = .ok (.iload_n 1, 1) := by decide +kernel
theorem dX13_init_434 : decode cX13_init 434 = .ok (.iaload, 1) := by decide +kernel
theorem dX13_init_435 : decode cX13_init 435 = .ok (.iastore, 1) := by decide +kernel
theorem dX13_init_436 : decode cX13_init 436 = .ok (.iinc 1 1, 3) := by decide +kernel
theorem dX13_init_439 : decode cX13_init 439 = .ok (.goto (-21), 3) := by decide +kernel
theorem dX13_init_442 : decode cX13_init 442 = .ok (.return_, 1) := by decide +kernel
def xr13 : List CN := [.inr (1, 940, 0, 0, 0, 0), .inr (0, 294, 0, 0, 0, 0), .inr (0, 54, 0, 0, 0, 0), .inr (0, 160, 0, 0, 0, 0), .inr (2, 28, 0, 0, 0, 0), .inr (2, 23, 0, 0, 0, 0), .inr (0, 472, 0, 0, 0, 0), .inr (0, 59, 0, 0, 0, 0), .inr (0, 7, 0, 0, 0, 0), .inr (0, 7, 0, 0, 0, 0), .inr (0, 1024, 0, 0, 0, 0), .inr (0, 7, 0, 0, 0, 0), .inr (0, 1024, 0, 0, 0, 0), .inr (0, 1024, 0, 0, 0, 0), .inr (1, 104, 0, 0, 0, 0), .inr (0, 4, 0, 0, 0, 0), .inr (0, 45, 0, 0, 0, 0), .inr (3, 45, 0, 0, 0, 0), .inr (0, 588, 0, 0, 0, 0), .inr (2, 28, 0, 0, 0, 0), .inr (3, 2, 0, 0, 0, 0)]
def x13 : List CN := .inl (13, [(0, 0, 0), (2, 1, 0), (0, 0, 0), (0, 0, 0), (0, 0, 0), (0, 0, 0), (2, 2, 0), (2, 3, 0), (2, 4, 0), (2, 5, 0), (2, 6, 0), (0, 0, 0), (0, 0, 0), (0, 0, 0), (0, 0, 0), (0, 0, 0), (0, 0, 0), (1, 0, 0), (0, 0, 0), (0, 0, 0), (0, 0, 0), (2, 7, 0), (2, 8, 0), (0, 0, 0), (2, 9, 0), (2, 10, 0), (0, 0, (-1 : Int32)), (2, 11, 0), (2, 12, 0), (0, 0, (-1 : Int32)), (0, 0, 0), (0, 0, 0), (0, 0, 0), (2, 13, 0), (2, 14, 0), (0, 0, 0), (2, 15, 0), (0, 0, 0), (0, 0, 0), (0, 0, 0), (2, 16, 0), (0, 0, 0), (2, 17, 0), (0, 0, 0), (0, 0, 0), (0, 0, 0), (0, 0, 0), (0, 0, 0), (2, 18, 0), (2, 19, 0), (2, 20, 0), (2, 21, 0)]) :: xr13
theorem cm_13 : cm_all x13 mt = true := by decide +kernel
def m0a (M : MM) : MM := (mx_sl (mx_sl (mx_sl (mx_sl (mx_sl (mx_sl (mx_sl (mx_sl (mx_sl (mx_sl (mx_sl (mx_sl (mx_sl (mx_sl (mx_sl (mx_sl (mx_sl (mx_sl (mx_sl (mx_sl (mx_sl (mx_sl (mx_sl M 6 0 (123581014175598 : Int64)) 6 1 (1919512167 : Int64)) 6 2 (6711668 : Int64)) 6 3 (2002873451 : Int64)) 6 4 (117001056382053 : Int64)) 6 5 (1735353715 : Int64)) 6 6 (448311223411 : Int64)) 6 7 (512801993331 : Int64)) 6 8 (431365711475 : Int64)) 6 9 (439855506547 : Int64)) 6 10 (6578553 : Int64)) 6 11 (28530 : Int64)) 6 12 (6385252 : Int64)) 6 13 (7237492 : Int64)) 6 14 (125797149402468 : Int64)) 6 15 (448311357561 : Int64)) 6 16 (1650553445 : Int64)) 6 17 (6840691 : Int64)) 6 18 (25209 : Int64)) 6 19 (461262647411 : Int64)) 6 20 (495874044019 : Int64)) 6 21 (112603009869170 : Int64)) 6 22 (121450625394034 : Int64))
def m0l : Nat → MM → MM
  | 0, M => M
  | j + 1, M => mx_si (m0l j M) 2 j ((m0l j M).1 3 j)
theorem bl_13 {X : XE} : ∀ j, j < 52 → defaultValue (tyX13 j) = vp_V ((([(0, 0, 0), (3, 0, 0), (0, 0, 0), (0, 0, 0), (0, 0, 0), (0, 0, 0), (3, 0, 0), (3, 0, 0), (3, 0, 0), (3, 0, 0), (3, 0, 0), (0, 0, 0), (0, 0, 0), (0, 0, 0), (0, 0, 0), (0, 0, 0), (0, 0, 0), (1, 0, 0), (0, 0, 0), (0, 0, 0), (0, 0, 0), (3, 0, 0), (3, 0, 0), (0, 0, 0), (3, 0, 0), (3, 0, 0), (0, 0, 0), (3, 0, 0), (3, 0, 0), (0, 0, 0), (0, 0, 0), (0, 0, 0), (0, 0, 0), (3, 0, 0), (3, 0, 0), (0, 0, 0), (3, 0, 0), (0, 0, 0), (0, 0, 0), (0, 0, 0), (3, 0, 0), (0, 0, 0), (3, 0, 0), (0, 0, 0), (0, 0, 0), (0, 0, 0), (0, 0, 0), (0, 0, 0), (3, 0, 0), (3, 0, 0), (3, 0, 0), (3, 0, 0)] : List FD)).map (cw_f X)) j
  | 0, _ => rfl
  | 1, _ => rfl
  | 2, _ => rfl
  | 3, _ => rfl
  | 4, _ => rfl
  | 5, _ => rfl
  | 6, _ => rfl
  | 7, _ => rfl
  | 8, _ => rfl
  | 9, _ => rfl
  | 10, _ => rfl
  | 11, _ => rfl
  | 12, _ => rfl
  | 13, _ => rfl
  | 14, _ => rfl
  | 15, _ => rfl
  | 16, _ => rfl
  | 17, _ => rfl
  | 18, _ => rfl
  | 19, _ => rfl
  | 20, _ => rfl
  | 21, _ => rfl
  | 22, _ => rfl
  | 23, _ => rfl
  | 24, _ => rfl
  | 25, _ => rfl
  | 26, _ => rfl
  | 27, _ => rfl
  | 28, _ => rfl
  | 29, _ => rfl
  | 30, _ => rfl
  | 31, _ => rfl
  | 32, _ => rfl
  | 33, _ => rfl
  | 34, _ => rfl
  | 35, _ => rfl
  | 36, _ => rfl
  | 37, _ => rfl
  | 38, _ => rfl
  | 39, _ => rfl
  | 40, _ => rfl
  | 41, _ => rfl
  | 42, _ => rfl
  | 43, _ => rfl
  | 44, _ => rfl
  | 45, _ => rfl
  | 46, _ => rfl
  | 47, _ => rfl
  | 48, _ => rfl
  | 49, _ => rfl
  | 50, _ => rfl
  | 51, _ => rfl
  | n + 52, h => absurd h (by omega)
theorem mx_D {X : XE} {A : Nat → Prop} (h : ∀ k, X.2.1 k = X.2.1 0 + k) (S : List CD) (hA : ∀ k, k < S.length → A (X.2.1 k)) (M : MM) : va_D A (mx_ws S X M) := by
  have key : ∀ (i : Nat) (q : Nat × va_E), (mx_ws S X M)[i]? = some q → q.1 = X.2.1 i ∧ i < S.length := by
    intro i q hq
    simp only [mx_ws, List.getElem?_mapIdx] at hq
    cases hT : S[i]? with
    | none => rw [hT] at hq; cases hq
    | some d =>
      rw [hT] at hq
      cases hq
      exact ⟨rfl, (List.getElem?_eq_some_iff.mp hT).1⟩
  constructor
  · intro i j p q hp hq he
    have h1 := (key i p hp).1
    have h2 := (key j q hq).1
    have h3 := h i
    have h4 := h j
    omega
  · intro k q hq
    have h1 := key k q hq
    rw [h1.1]
    exact hA k h1.2
abbrev mE (X : XE) : KE := (mt, X, cw_A X, fun _ => True)
theorem mE_ok {X : XE} (h : cw_ok X (fun _ => True)) : mx_ok (mE X) := ⟨fun M => mx_D h.1 mt (fun k _ => by have := h.1 k; show X.2.1 0 ≤ X.2.1 k; omega) M, fun _ _ _ _ _ _ => trivial⟩
theorem cw_enter2 {X : XE} {G : State → Prop} {l : Launch} {y : MethodName} {cc : ByteArray} {nL h mc ms : Nat} {av : List Value} {T : List CN} {Qc : Array Value → State → Outcome → State → Prop} (hX : cw_ok X G) (hy : plainName y.cls = true) (hn : (lg_sl av).length ≤ nL) (hyn : y.name = "<init>") (hT : 0 < T.length)
    (body : ∀ (p : Program) (e : Env) (s : State) (m : MethodId) (below : List Frame) (meth : Method) (c : Code), cw_C X G p m c cc nL s av.toArray y.cls meth → cw_H X s T s.heap [] 0 →
      ∀ ls : Array Slot, lv_has ls nL (lv_args 0 av) → W p l e (cw_rm h mc ms) s m av.toArray below meth c s.heap [] 0 0 (MQ below Qc av.toArray s mc ms (cw_A X)) (F0 m 0 ls [])) : Met l y (Cond.code y cc nL none :: mx_wall) (cw_rm h mc ms) (va_Pc av (cw_Pre X G T)) Qc mc ms (cw_A X) := by
  refine Met.ofW (cc := cc) (maxL := nL) (ret := none) hy rfl ?_
  intro p e s m args below meth c s₁ B hml hv
  obtain ⟨rfl, hP, hz, hK, hG⟩ := hv
  have hts := atoms_spec (ws := Cond.code y cc nL none :: mx_wall) B.pre
  have hown : s.vm.findClass y.cls = some m.cls := findClass_of_methodNamed B.named
  have hl := lv_entry av (n := nL) hn
  have hnm := (name_of_methodNamed B.named B.method).1
  have hC : cw_C X G p m c cc nL s av.toArray y.cls meth := ⟨⟨B.exec, B.bytes, hml, hown, fun w hw => hts w (List.mem_cons_of_mem _ hw)⟩, hK, hG, hX, B.notSynchronized, B.returns, by rw [hnm, hyn]⟩
  have hb := body p e s m below meth c hC ⟨hP, va_S.rf, hz, hT⟩
  rw [lg_entry_eq]
  exact hb _ hl
set_option maxRecDepth 100000 in
theorem wX13_init_l {X : XE} {p : Program} {l : Launch} {e : Env} {s : State} {m : MethodId} {args : Array Value} {below : List Frame} {meth : Method} {c : Code} (C : mx_C (mE X) p m c cX13_init 2 s args RX13 meth none) (M : MM) : ∀ (d j : Nat), j + d = 54 → ∀ (H : Heap) (locs : List Loc) (ls : Array Slot), mx_H (mE X) s (m0l j M) H locs → lv_has ls 2 [(1, .int (nI j)), (0, .ref (X.2.1 0))] → W p l e (cw_rm 1 21 5939) s m args below meth c H locs 21 5939 (MQ below (mx_Post (mE X) none (m0l 54 M)) args s 21 5939 (cw_A X)) (F0 m 418 ls []) := by
  have hx := C.1.1
  have hb := C.1.2.1
  intro d
  induction d with
  | zero =>
    intro j hj H locs ls hM hl
    have hj2 : j = 54 := by omega
    subst hj2
    refine lv_iload_n hx hb dX13_init_418 rfl (lv_at hl 0 rfl) ?_
    refine lv_bipush (v := (nI 54)) hx hb dX13_init_419 (by decide) ?_
    refine lv_icmp_ge (tgt := 442) hx hb dX13_init_421 (by decide) (fun hc => ?_) (fun hc => absurd (nI_le (Nat.le_refl _) (by decide)) hc)
    obtain ⟨⟨-, -, hml, hown, hts⟩, hK, hG, hE, hlo, hr⟩ := C
    exact W.vret hx hb hr (fun t ht hW => ⟨rfl, by rw [ht]; exact hM.1, hM.2.F ht⟩) hM.2.2.2 dX13_init_442
  | succ d ih =>
    intro j hj H locs ls hM hl
    refine lv_iload_n hx hb dX13_init_418 rfl (lv_at hl 0 rfl) ?_
    refine lv_bipush (v := (nI 54)) hx hb dX13_init_419 (by decide) ?_
    refine lv_icmp_ge (tgt := 442) hx hb dX13_init_421 (by decide) (fun hc => absurd hc (nI_ge (by omega) (by decide))) (fun hc => ?_)
    refine lv_aload_n hx hb dX13_init_424 rfl (lv_at hl 1 rfl) ?_
    refine g13_33 C rfl hM dX13_init_425 ?_
    refine lv_iload_n hx hb dX13_init_428 rfl (lv_at hl 0 rfl) ?_
    refine lv_aload_n hx hb dX13_init_429 rfl (lv_at hl 1 rfl) ?_
    refine g13_37 C rfl hM dX13_init_430 ?_
    refine lv_iload_n hx hb dX13_init_433 rfl (lv_at hl 0 rfl) ?_
    refine mx_ialdL C hM (mt_3 rfl) (j := j) (nI_clamp (by omega)) (vp_in_nI (by omega) (by decide)) dX13_init_434 ?_
    refine mx_iastL C hM (mt_2 rfl) (j := j) (nI_clamp (by omega)) (vp_in_nI (by omega) (by decide)) dX13_init_435 (fun H locs hM => ?_)
    refine lv_iinc (v := nI (j + 1)) (lv' := [(1, .int (nI (j + 1))), (0, .ref (X.2.1 0))]) hx hb dX13_init_436 hl (k := 0) rfl (nI_1 j) (by decide) rfl (fun ls hl => ?_)
    refine lv_goto (tgt := 418) hx hb dX13_init_439 (by decide) ?_
    exact ih (j + 1) (by omega) H locs ls hM hl
set_option maxRecDepth 100000 in
set_option maxHeartbeats 4000000 in
theorem kX13_init {X : XE} {l : Launch} (hX : cw_ok X (fun _ => True)) {q : MM} (hq : fX13_clears (m0a (cw_M x13)) = some q) : Met l yX13_init (Cond.code yX13_init cX13_init 2 none :: mx_wall) (cw_rm 1 21 5939) (va_Pc [.ref (X.2.1 0)] (cw_Pre X (fun _ => True) [.inl (13, [(0, 0, 0), (3, 0, 0), (0, 0, 0), (0, 0, 0), (0, 0, 0), (0, 0, 0), (3, 0, 0), (3, 0, 0), (3, 0, 0), (3, 0, 0), (3, 0, 0), (0, 0, 0), (0, 0, 0), (0, 0, 0), (0, 0, 0), (0, 0, 0), (0, 0, 0), (1, 0, 0), (0, 0, 0), (0, 0, 0), (0, 0, 0), (3, 0, 0), (3, 0, 0), (0, 0, 0), (3, 0, 0), (3, 0, 0), (0, 0, 0), (3, 0, 0), (3, 0, 0), (0, 0, 0), (0, 0, 0), (0, 0, 0), (0, 0, 0), (3, 0, 0), (3, 0, 0), (0, 0, 0), (3, 0, 0), (0, 0, 0), (0, 0, 0), (0, 0, 0), (3, 0, 0), (0, 0, 0), (3, 0, 0), (0, 0, 0), (0, 0, 0), (0, 0, 0), (0, 0, 0), (0, 0, 0), (3, 0, 0), (3, 0, 0), (3, 0, 0), (3, 0, 0)])])) (mx_Post (mE X) none (m0l 54 q)) 21 5939 (cw_A X) := by
  have ha : 0 < ([.inl (13, [(0, 0, 0), (3, 0, 0), (0, 0, 0), (0, 0, 0), (0, 0, 0), (0, 0, 0), (3, 0, 0), (3, 0, 0), (3, 0, 0), (3, 0, 0), (3, 0, 0), (0, 0, 0), (0, 0, 0), (0, 0, 0), (0, 0, 0), (0, 0, 0), (0, 0, 0), (1, 0, 0), (0, 0, 0), (0, 0, 0), (0, 0, 0), (3, 0, 0), (3, 0, 0), (0, 0, 0), (3, 0, 0), (3, 0, 0), (0, 0, 0), (3, 0, 0), (3, 0, 0), (0, 0, 0), (0, 0, 0), (0, 0, 0), (0, 0, 0), (3, 0, 0), (3, 0, 0), (0, 0, 0), (3, 0, 0), (0, 0, 0), (0, 0, 0), (0, 0, 0), (3, 0, 0), (0, 0, 0), (3, 0, 0), (0, 0, 0), (0, 0, 0), (0, 0, 0), (0, 0, 0), (0, 0, 0), (3, 0, 0), (3, 0, 0), (3, 0, 0), (3, 0, 0)])] : List CN).length := by decide
  refine cw_enter2 hX (by decide) (Nat.le_of_ble_eq_true rfl) rfl (by decide) ?_
  intro p e s m below meth c C hM ls hl
  have hx := C.1.1
  have hb := C.1.2.1
  have hown := C.1.2.2.2.1
  have hts := C.1.2.2.2.2
  have hl : lv_has ls 2 [(0, .ref (X.2.1 0))] := hl
  replace hM : cw_H X s (([.inl (13, [(0, 0, 0), (3, 0, 0), (0, 0, 0), (0, 0, 0), (0, 0, 0), (0, 0, 0), (3, 0, 0), (3, 0, 0), (3, 0, 0), (3, 0, 0), (3, 0, 0), (0, 0, 0), (0, 0, 0), (0, 0, 0), (0, 0, 0), (0, 0, 0), (0, 0, 0), (1, 0, 0), (0, 0, 0), (0, 0, 0), (0, 0, 0), (3, 0, 0), (3, 0, 0), (0, 0, 0), (3, 0, 0), (3, 0, 0), (0, 0, 0), (3, 0, 0), (3, 0, 0), (0, 0, 0), (0, 0, 0), (0, 0, 0), (0, 0, 0), (3, 0, 0), (3, 0, 0), (0, 0, 0), (3, 0, 0), (0, 0, 0), (0, 0, 0), (0, 0, 0), (3, 0, 0), (0, 0, 0), (3, 0, 0), (0, 0, 0), (0, 0, 0), (0, 0, 0), (0, 0, 0), (0, 0, 0), (3, 0, 0), (3, 0, 0), (3, 0, 0), (3, 0, 0)])] : List CN).set 0 (.inl (13, [(0, 0, 0), (3, 0, 0), (0, 0, 0), (0, 0, 0), (0, 0, 0), (0, 0, 0), (3, 0, 0), (3, 0, 0), (3, 0, 0), (3, 0, 0), (3, 0, 0), (0, 0, 0), (0, 0, 0), (0, 0, 0), (0, 0, 0), (0, 0, 0), (0, 0, 0), (1, 0, 0), (0, 0, 0), (0, 0, 0), (0, 0, 0), (3, 0, 0), (3, 0, 0), (0, 0, 0), (3, 0, 0), (3, 0, 0), (0, 0, 0), (3, 0, 0), (3, 0, 0), (0, 0, 0), (0, 0, 0), (0, 0, 0), (0, 0, 0), (3, 0, 0), (3, 0, 0), (0, 0, 0), (3, 0, 0), (0, 0, 0), (0, 0, 0), (0, 0, 0), (3, 0, 0), (0, 0, 0), (3, 0, 0), (0, 0, 0), (0, 0, 0), (0, 0, 0), (0, 0, 0), (0, 0, 0), (3, 0, 0), (3, 0, 0), (3, 0, 0), (3, 0, 0)])) ++ (xr13.take 0)) s.heap [] 0 := hM
  refine lv_aload_n hx hb dX13_init_0 rfl (lv_at hl 0 rfl) ?_
  refine cw_oi C hl.1 qw_1365 qoi_1 qoi_2 (by decide) dX13_init_1 rfl ?_
  refine lv_aload_n hx hb dX13_init_4 rfl (lv_at hl 0 rfl) ?_
  refine lv_sipush (v := (nI 940)) hx hb dX13_init_5 (by decide) ?_
  refine cn_newB C hM (N := 940) (v := 0) (L' := (xr13.take 1)) (a1 := 1) (nI_pos (by decide)) (nI_clamp (by decide)) (by decide) (Nat.le_of_ble_eq_true rfl) (Nat.le_of_ble_eq_true rfl) rfl rfl dX13_init_8 rfl (fun H hM => ?_)
  refine cn_put C ha hM cl_13 (j := 1) (f := (2, 1, 0)) (fs' := [(0, 0, 0), (2, 1, 0), (0, 0, 0), (0, 0, 0), (0, 0, 0), (0, 0, 0), (3, 0, 0), (3, 0, 0), (3, 0, 0), (3, 0, 0), (3, 0, 0), (0, 0, 0), (0, 0, 0), (0, 0, 0), (0, 0, 0), (0, 0, 0), (0, 0, 0), (1, 0, 0), (0, 0, 0), (0, 0, 0), (0, 0, 0), (3, 0, 0), (3, 0, 0), (0, 0, 0), (3, 0, 0), (3, 0, 0), (0, 0, 0), (3, 0, 0), (3, 0, 0), (0, 0, 0), (0, 0, 0), (0, 0, 0), (0, 0, 0), (3, 0, 0), (3, 0, 0), (0, 0, 0), (3, 0, 0), (0, 0, 0), (0, 0, 0), (0, 0, 0), (3, 0, 0), (0, 0, 0), (3, 0, 0), (0, 0, 0), (0, 0, 0), (0, 0, 0), (0, 0, 0), (0, 0, 0), (3, 0, 0), (3, 0, 0), (3, 0, 0), (3, 0, 0)]) (by decide) qw_1394 rfl rfl rfl rfl (Nat.le_of_ble_eq_true rfl) rfl dX13_init_10 rfl (fun H locs hM => ?_)
  refine lv_aload_n hx hb dX13_init_13 rfl (lv_at hl 0 rfl) ?_
  refine lv_sipush (v := (nI 294)) hx hb dX13_init_14 (by decide) ?_
  refine cn_newI C hM (N := 294) (v := 0) (L' := (xr13.take 2)) (a1 := 2) (nI_pos (by decide)) (nI_clamp (by decide)) (by decide) (Nat.le_of_ble_eq_true rfl) (Nat.le_of_ble_eq_true rfl) rfl rfl dX13_init_17 rfl (fun H hM => ?_)
  refine cn_put C ha hM cl_13 (j := 6) (f := (2, 2, 0)) (fs' := [(0, 0, 0), (2, 1, 0), (0, 0, 0), (0, 0, 0), (0, 0, 0), (0, 0, 0), (2, 2, 0), (3, 0, 0), (3, 0, 0), (3, 0, 0), (3, 0, 0), (0, 0, 0), (0, 0, 0), (0, 0, 0), (0, 0, 0), (0, 0, 0), (0, 0, 0), (1, 0, 0), (0, 0, 0), (0, 0, 0), (0, 0, 0), (3, 0, 0), (3, 0, 0), (0, 0, 0), (3, 0, 0), (3, 0, 0), (0, 0, 0), (3, 0, 0), (3, 0, 0), (0, 0, 0), (0, 0, 0), (0, 0, 0), (0, 0, 0), (3, 0, 0), (3, 0, 0), (0, 0, 0), (3, 0, 0), (0, 0, 0), (0, 0, 0), (0, 0, 0), (3, 0, 0), (0, 0, 0), (3, 0, 0), (0, 0, 0), (0, 0, 0), (0, 0, 0), (0, 0, 0), (0, 0, 0), (3, 0, 0), (3, 0, 0), (3, 0, 0), (3, 0, 0)]) (by decide) qw_1399 rfl rfl rfl rfl (Nat.le_of_ble_eq_true rfl) rfl dX13_init_19 rfl (fun H locs hM => ?_)
  refine lv_aload_n hx hb dX13_init_22 rfl (lv_at hl 0 rfl) ?_
  refine lv_bipush (v := (nI 54)) hx hb dX13_init_23 (by decide) ?_
  refine cn_newI C hM (N := 54) (v := 0) (L' := (xr13.take 3)) (a1 := 3) (nI_pos (by decide)) (nI_clamp (by decide)) (by decide) (Nat.le_of_ble_eq_true rfl) (Nat.le_of_ble_eq_true rfl) rfl rfl dX13_init_25 rfl (fun H hM => ?_)
  refine cn_put C ha hM cl_13 (j := 7) (f := (2, 3, 0)) (fs' := [(0, 0, 0), (2, 1, 0), (0, 0, 0), (0, 0, 0), (0, 0, 0), (0, 0, 0), (2, 2, 0), (2, 3, 0), (3, 0, 0), (3, 0, 0), (3, 0, 0), (0, 0, 0), (0, 0, 0), (0, 0, 0), (0, 0, 0), (0, 0, 0), (0, 0, 0), (1, 0, 0), (0, 0, 0), (0, 0, 0), (0, 0, 0), (3, 0, 0), (3, 0, 0), (0, 0, 0), (3, 0, 0), (3, 0, 0), (0, 0, 0), (3, 0, 0), (3, 0, 0), (0, 0, 0), (0, 0, 0), (0, 0, 0), (0, 0, 0), (3, 0, 0), (3, 0, 0), (0, 0, 0), (3, 0, 0), (0, 0, 0), (0, 0, 0), (0, 0, 0), (3, 0, 0), (0, 0, 0), (3, 0, 0), (0, 0, 0), (0, 0, 0), (0, 0, 0), (0, 0, 0), (0, 0, 0), (3, 0, 0), (3, 0, 0), (3, 0, 0), (3, 0, 0)]) (by decide) qw_1400 rfl rfl rfl rfl (Nat.le_of_ble_eq_true rfl) rfl dX13_init_27 rfl (fun H locs hM => ?_)
  refine lv_aload_n hx hb dX13_init_30 rfl (lv_at hl 0 rfl) ?_
  refine lv_sipush (v := (nI 160)) hx hb dX13_init_31 (by decide) ?_
  refine cn_newI C hM (N := 160) (v := 0) (L' := (xr13.take 4)) (a1 := 4) (nI_pos (by decide)) (nI_clamp (by decide)) (by decide) (Nat.le_of_ble_eq_true rfl) (Nat.le_of_ble_eq_true rfl) rfl rfl dX13_init_34 rfl (fun H hM => ?_)
  refine cn_put C ha hM cl_13 (j := 8) (f := (2, 4, 0)) (fs' := [(0, 0, 0), (2, 1, 0), (0, 0, 0), (0, 0, 0), (0, 0, 0), (0, 0, 0), (2, 2, 0), (2, 3, 0), (2, 4, 0), (3, 0, 0), (3, 0, 0), (0, 0, 0), (0, 0, 0), (0, 0, 0), (0, 0, 0), (0, 0, 0), (0, 0, 0), (1, 0, 0), (0, 0, 0), (0, 0, 0), (0, 0, 0), (3, 0, 0), (3, 0, 0), (0, 0, 0), (3, 0, 0), (3, 0, 0), (0, 0, 0), (3, 0, 0), (3, 0, 0), (0, 0, 0), (0, 0, 0), (0, 0, 0), (0, 0, 0), (3, 0, 0), (3, 0, 0), (0, 0, 0), (3, 0, 0), (0, 0, 0), (0, 0, 0), (0, 0, 0), (3, 0, 0), (0, 0, 0), (3, 0, 0), (0, 0, 0), (0, 0, 0), (0, 0, 0), (0, 0, 0), (0, 0, 0), (3, 0, 0), (3, 0, 0), (3, 0, 0), (3, 0, 0)]) (by decide) qw_1401 rfl rfl rfl rfl (Nat.le_of_ble_eq_true rfl) rfl dX13_init_36 rfl (fun H locs hM => ?_)
  refine lv_aload_n hx hb dX13_init_39 rfl (lv_at hl 0 rfl) ?_
  refine lv_bipush (v := (nI 28)) hx hb dX13_init_40 (by decide) ?_
  refine cn_newJ C hM (N := 28) (v := 0) (L' := (xr13.take 5)) (a1 := 5) (nI_pos (by decide)) (nI_clamp (by decide)) (by decide) (Nat.le_of_ble_eq_true rfl) (Nat.le_of_ble_eq_true rfl) rfl rfl dX13_init_42 rfl (fun H hM => ?_)
  refine cn_put C ha hM cl_13 (j := 9) (f := (2, 5, 0)) (fs' := [(0, 0, 0), (2, 1, 0), (0, 0, 0), (0, 0, 0), (0, 0, 0), (0, 0, 0), (2, 2, 0), (2, 3, 0), (2, 4, 0), (2, 5, 0), (3, 0, 0), (0, 0, 0), (0, 0, 0), (0, 0, 0), (0, 0, 0), (0, 0, 0), (0, 0, 0), (1, 0, 0), (0, 0, 0), (0, 0, 0), (0, 0, 0), (3, 0, 0), (3, 0, 0), (0, 0, 0), (3, 0, 0), (3, 0, 0), (0, 0, 0), (3, 0, 0), (3, 0, 0), (0, 0, 0), (0, 0, 0), (0, 0, 0), (0, 0, 0), (3, 0, 0), (3, 0, 0), (0, 0, 0), (3, 0, 0), (0, 0, 0), (0, 0, 0), (0, 0, 0), (3, 0, 0), (0, 0, 0), (3, 0, 0), (0, 0, 0), (0, 0, 0), (0, 0, 0), (0, 0, 0), (0, 0, 0), (3, 0, 0), (3, 0, 0), (3, 0, 0), (3, 0, 0)]) (by decide) qw_1402 rfl rfl rfl rfl (Nat.le_of_ble_eq_true rfl) rfl dX13_init_44 rfl (fun H locs hM => ?_)
  refine lv_aload_n hx hb dX13_init_47 rfl (lv_at hl 0 rfl) ?_
  refine lv_bipush (v := (nI 23)) hx hb dX13_init_48 (by decide) ?_
  refine cn_newJ C hM (N := 23) (v := 0) (L' := (xr13.take 6)) (a1 := 6) (nI_pos (by decide)) (nI_clamp (by decide)) (by decide) (Nat.le_of_ble_eq_true rfl) (Nat.le_of_ble_eq_true rfl) rfl rfl dX13_init_50 rfl (fun H hM => ?_)
  refine cn_put C ha hM cl_13 (j := 10) (f := (2, 6, 0)) (fs' := [(0, 0, 0), (2, 1, 0), (0, 0, 0), (0, 0, 0), (0, 0, 0), (0, 0, 0), (2, 2, 0), (2, 3, 0), (2, 4, 0), (2, 5, 0), (2, 6, 0), (0, 0, 0), (0, 0, 0), (0, 0, 0), (0, 0, 0), (0, 0, 0), (0, 0, 0), (1, 0, 0), (0, 0, 0), (0, 0, 0), (0, 0, 0), (3, 0, 0), (3, 0, 0), (0, 0, 0), (3, 0, 0), (3, 0, 0), (0, 0, 0), (3, 0, 0), (3, 0, 0), (0, 0, 0), (0, 0, 0), (0, 0, 0), (0, 0, 0), (3, 0, 0), (3, 0, 0), (0, 0, 0), (3, 0, 0), (0, 0, 0), (0, 0, 0), (0, 0, 0), (3, 0, 0), (0, 0, 0), (3, 0, 0), (0, 0, 0), (0, 0, 0), (0, 0, 0), (0, 0, 0), (0, 0, 0), (3, 0, 0), (3, 0, 0), (3, 0, 0), (3, 0, 0)]) (by decide) qw_1403 rfl rfl rfl rfl (Nat.le_of_ble_eq_true rfl) rfl dX13_init_52 rfl (fun H locs hM => ?_)
  refine lv_aload_n hx hb dX13_init_55 rfl (lv_at hl 0 rfl) ?_
  refine lv_sipush (v := (nI 472)) hx hb dX13_init_56 (by decide) ?_
  refine cn_newI C hM (N := 472) (v := 0) (L' := (xr13.take 7)) (a1 := 7) (nI_pos (by decide)) (nI_clamp (by decide)) (by decide) (Nat.le_of_ble_eq_true rfl) (Nat.le_of_ble_eq_true rfl) rfl rfl dX13_init_59 rfl (fun H hM => ?_)
  refine cn_put C ha hM cl_13 (j := 21) (f := (2, 7, 0)) (fs' := [(0, 0, 0), (2, 1, 0), (0, 0, 0), (0, 0, 0), (0, 0, 0), (0, 0, 0), (2, 2, 0), (2, 3, 0), (2, 4, 0), (2, 5, 0), (2, 6, 0), (0, 0, 0), (0, 0, 0), (0, 0, 0), (0, 0, 0), (0, 0, 0), (0, 0, 0), (1, 0, 0), (0, 0, 0), (0, 0, 0), (0, 0, 0), (2, 7, 0), (3, 0, 0), (0, 0, 0), (3, 0, 0), (3, 0, 0), (0, 0, 0), (3, 0, 0), (3, 0, 0), (0, 0, 0), (0, 0, 0), (0, 0, 0), (0, 0, 0), (3, 0, 0), (3, 0, 0), (0, 0, 0), (3, 0, 0), (0, 0, 0), (0, 0, 0), (0, 0, 0), (3, 0, 0), (0, 0, 0), (3, 0, 0), (0, 0, 0), (0, 0, 0), (0, 0, 0), (0, 0, 0), (0, 0, 0), (3, 0, 0), (3, 0, 0), (3, 0, 0), (3, 0, 0)]) (by decide) qw_1414 rfl rfl rfl rfl (Nat.le_of_ble_eq_true rfl) rfl dX13_init_61 rfl (fun H locs hM => ?_)
  refine lv_aload_n hx hb dX13_init_64 rfl (lv_at hl 0 rfl) ?_
  refine lv_bipush (v := (nI 59)) hx hb dX13_init_65 (by decide) ?_
  refine cn_newI C hM (N := 59) (v := 0) (L' := (xr13.take 8)) (a1 := 8) (nI_pos (by decide)) (nI_clamp (by decide)) (by decide) (Nat.le_of_ble_eq_true rfl) (Nat.le_of_ble_eq_true rfl) rfl rfl dX13_init_67 rfl (fun H hM => ?_)
  refine cn_put C ha hM cl_13 (j := 22) (f := (2, 8, 0)) (fs' := [(0, 0, 0), (2, 1, 0), (0, 0, 0), (0, 0, 0), (0, 0, 0), (0, 0, 0), (2, 2, 0), (2, 3, 0), (2, 4, 0), (2, 5, 0), (2, 6, 0), (0, 0, 0), (0, 0, 0), (0, 0, 0), (0, 0, 0), (0, 0, 0), (0, 0, 0), (1, 0, 0), (0, 0, 0), (0, 0, 0), (0, 0, 0), (2, 7, 0), (2, 8, 0), (0, 0, 0), (3, 0, 0), (3, 0, 0), (0, 0, 0), (3, 0, 0), (3, 0, 0), (0, 0, 0), (0, 0, 0), (0, 0, 0), (0, 0, 0), (3, 0, 0), (3, 0, 0), (0, 0, 0), (3, 0, 0), (0, 0, 0), (0, 0, 0), (0, 0, 0), (3, 0, 0), (0, 0, 0), (3, 0, 0), (0, 0, 0), (0, 0, 0), (0, 0, 0), (0, 0, 0), (0, 0, 0), (3, 0, 0), (3, 0, 0), (3, 0, 0), (3, 0, 0)]) (by decide) qw_1415 rfl rfl rfl rfl (Nat.le_of_ble_eq_true rfl) rfl dX13_init_69 rfl (fun H locs hM => ?_)
  refine lv_aload_n hx hb dX13_init_72 rfl (lv_at hl 0 rfl) ?_
  refine lv_bipush (v := (nI 7)) hx hb dX13_init_73 (by decide) ?_
  refine cn_newI C hM (N := 7) (v := 0) (L' := (xr13.take 9)) (a1 := 9) (nI_pos (by decide)) (nI_clamp (by decide)) (by decide) (Nat.le_of_ble_eq_true rfl) (Nat.le_of_ble_eq_true rfl) rfl rfl dX13_init_75 rfl (fun H hM => ?_)
  refine cn_put C ha hM cl_13 (j := 24) (f := (2, 9, 0)) (fs' := [(0, 0, 0), (2, 1, 0), (0, 0, 0), (0, 0, 0), (0, 0, 0), (0, 0, 0), (2, 2, 0), (2, 3, 0), (2, 4, 0), (2, 5, 0), (2, 6, 0), (0, 0, 0), (0, 0, 0), (0, 0, 0), (0, 0, 0), (0, 0, 0), (0, 0, 0), (1, 0, 0), (0, 0, 0), (0, 0, 0), (0, 0, 0), (2, 7, 0), (2, 8, 0), (0, 0, 0), (2, 9, 0), (3, 0, 0), (0, 0, 0), (3, 0, 0), (3, 0, 0), (0, 0, 0), (0, 0, 0), (0, 0, 0), (0, 0, 0), (3, 0, 0), (3, 0, 0), (0, 0, 0), (3, 0, 0), (0, 0, 0), (0, 0, 0), (0, 0, 0), (3, 0, 0), (0, 0, 0), (3, 0, 0), (0, 0, 0), (0, 0, 0), (0, 0, 0), (0, 0, 0), (0, 0, 0), (3, 0, 0), (3, 0, 0), (3, 0, 0), (3, 0, 0)]) (by decide) qw_1417 rfl rfl rfl rfl (Nat.le_of_ble_eq_true rfl) rfl dX13_init_77 rfl (fun H locs hM => ?_)
  refine lv_aload_n hx hb dX13_init_80 rfl (lv_at hl 0 rfl) ?_
  refine lv_bipush (v := (nI 7)) hx hb dX13_init_81 (by decide) ?_
  refine cn_newI C hM (N := 7) (v := 0) (L' := (xr13.take 10)) (a1 := 10) (nI_pos (by decide)) (nI_clamp (by decide)) (by decide) (Nat.le_of_ble_eq_true rfl) (Nat.le_of_ble_eq_true rfl) rfl rfl dX13_init_83 rfl (fun H hM => ?_)
  refine cn_put C ha hM cl_13 (j := 25) (f := (2, 10, 0)) (fs' := [(0, 0, 0), (2, 1, 0), (0, 0, 0), (0, 0, 0), (0, 0, 0), (0, 0, 0), (2, 2, 0), (2, 3, 0), (2, 4, 0), (2, 5, 0), (2, 6, 0), (0, 0, 0), (0, 0, 0), (0, 0, 0), (0, 0, 0), (0, 0, 0), (0, 0, 0), (1, 0, 0), (0, 0, 0), (0, 0, 0), (0, 0, 0), (2, 7, 0), (2, 8, 0), (0, 0, 0), (2, 9, 0), (2, 10, 0), (0, 0, 0), (3, 0, 0), (3, 0, 0), (0, 0, 0), (0, 0, 0), (0, 0, 0), (0, 0, 0), (3, 0, 0), (3, 0, 0), (0, 0, 0), (3, 0, 0), (0, 0, 0), (0, 0, 0), (0, 0, 0), (3, 0, 0), (0, 0, 0), (3, 0, 0), (0, 0, 0), (0, 0, 0), (0, 0, 0), (0, 0, 0), (0, 0, 0), (3, 0, 0), (3, 0, 0), (3, 0, 0), (3, 0, 0)]) (by decide) qw_1418 rfl rfl rfl rfl (Nat.le_of_ble_eq_true rfl) rfl dX13_init_85 rfl (fun H locs hM => ?_)
  refine lv_aload_n hx hb dX13_init_88 rfl (lv_at hl 0 rfl) ?_
  refine lv_iconst (v := (-1 : Int32)) hx hb dX13_init_89 (by decide) ?_
  refine cn_put C ha hM cl_13 (j := 26) (f := (0, 0, (-1 : Int32))) (fs' := [(0, 0, 0), (2, 1, 0), (0, 0, 0), (0, 0, 0), (0, 0, 0), (0, 0, 0), (2, 2, 0), (2, 3, 0), (2, 4, 0), (2, 5, 0), (2, 6, 0), (0, 0, 0), (0, 0, 0), (0, 0, 0), (0, 0, 0), (0, 0, 0), (0, 0, 0), (1, 0, 0), (0, 0, 0), (0, 0, 0), (0, 0, 0), (2, 7, 0), (2, 8, 0), (0, 0, 0), (2, 9, 0), (2, 10, 0), (0, 0, (-1 : Int32)), (3, 0, 0), (3, 0, 0), (0, 0, 0), (0, 0, 0), (0, 0, 0), (0, 0, 0), (3, 0, 0), (3, 0, 0), (0, 0, 0), (3, 0, 0), (0, 0, 0), (0, 0, 0), (0, 0, 0), (3, 0, 0), (0, 0, 0), (3, 0, 0), (0, 0, 0), (0, 0, 0), (0, 0, 0), (0, 0, 0), (0, 0, 0), (3, 0, 0), (3, 0, 0), (3, 0, 0), (3, 0, 0)]) (by decide) qw_1419 rfl rfl rfl rfl (Nat.le_of_ble_eq_true rfl) rfl dX13_init_90 rfl (fun H locs hM => ?_)
  refine lv_aload_n hx hb dX13_init_93 rfl (lv_at hl 0 rfl) ?_
  refine lv_sipush (v := (nI 1024)) hx hb dX13_init_94 (by decide) ?_
  refine cn_newI C hM (N := 1024) (v := 0) (L' := (xr13.take 11)) (a1 := 11) (nI_pos (by decide)) (nI_clamp (by decide)) (by decide) (Nat.le_of_ble_eq_true rfl) (Nat.le_of_ble_eq_true rfl) rfl rfl dX13_init_97 rfl (fun H hM => ?_)
  refine cn_put C ha hM cl_13 (j := 27) (f := (2, 11, 0)) (fs' := [(0, 0, 0), (2, 1, 0), (0, 0, 0), (0, 0, 0), (0, 0, 0), (0, 0, 0), (2, 2, 0), (2, 3, 0), (2, 4, 0), (2, 5, 0), (2, 6, 0), (0, 0, 0), (0, 0, 0), (0, 0, 0), (0, 0, 0), (0, 0, 0), (0, 0, 0), (1, 0, 0), (0, 0, 0), (0, 0, 0), (0, 0, 0), (2, 7, 0), (2, 8, 0), (0, 0, 0), (2, 9, 0), (2, 10, 0), (0, 0, (-1 : Int32)), (2, 11, 0), (3, 0, 0), (0, 0, 0), (0, 0, 0), (0, 0, 0), (0, 0, 0), (3, 0, 0), (3, 0, 0), (0, 0, 0), (3, 0, 0), (0, 0, 0), (0, 0, 0), (0, 0, 0), (3, 0, 0), (0, 0, 0), (3, 0, 0), (0, 0, 0), (0, 0, 0), (0, 0, 0), (0, 0, 0), (0, 0, 0), (3, 0, 0), (3, 0, 0), (3, 0, 0), (3, 0, 0)]) (by decide) qw_1420 rfl rfl rfl rfl (Nat.le_of_ble_eq_true rfl) rfl dX13_init_99 rfl (fun H locs hM => ?_)
  refine lv_aload_n hx hb dX13_init_102 rfl (lv_at hl 0 rfl) ?_
  refine lv_bipush (v := (nI 7)) hx hb dX13_init_103 (by decide) ?_
  refine cn_newI C hM (N := 7) (v := 0) (L' := (xr13.take 12)) (a1 := 12) (nI_pos (by decide)) (nI_clamp (by decide)) (by decide) (Nat.le_of_ble_eq_true rfl) (Nat.le_of_ble_eq_true rfl) rfl rfl dX13_init_105 rfl (fun H hM => ?_)
  refine cn_put C ha hM cl_13 (j := 28) (f := (2, 12, 0)) (fs' := [(0, 0, 0), (2, 1, 0), (0, 0, 0), (0, 0, 0), (0, 0, 0), (0, 0, 0), (2, 2, 0), (2, 3, 0), (2, 4, 0), (2, 5, 0), (2, 6, 0), (0, 0, 0), (0, 0, 0), (0, 0, 0), (0, 0, 0), (0, 0, 0), (0, 0, 0), (1, 0, 0), (0, 0, 0), (0, 0, 0), (0, 0, 0), (2, 7, 0), (2, 8, 0), (0, 0, 0), (2, 9, 0), (2, 10, 0), (0, 0, (-1 : Int32)), (2, 11, 0), (2, 12, 0), (0, 0, 0), (0, 0, 0), (0, 0, 0), (0, 0, 0), (3, 0, 0), (3, 0, 0), (0, 0, 0), (3, 0, 0), (0, 0, 0), (0, 0, 0), (0, 0, 0), (3, 0, 0), (0, 0, 0), (3, 0, 0), (0, 0, 0), (0, 0, 0), (0, 0, 0), (0, 0, 0), (0, 0, 0), (3, 0, 0), (3, 0, 0), (3, 0, 0), (3, 0, 0)]) (by decide) qw_1421 rfl rfl rfl rfl (Nat.le_of_ble_eq_true rfl) rfl dX13_init_107 rfl (fun H locs hM => ?_)
  refine lv_aload_n hx hb dX13_init_110 rfl (lv_at hl 0 rfl) ?_
  refine lv_iconst (v := (-1 : Int32)) hx hb dX13_init_111 (by decide) ?_
  refine cn_put C ha hM cl_13 (j := 29) (f := (0, 0, (-1 : Int32))) (fs' := [(0, 0, 0), (2, 1, 0), (0, 0, 0), (0, 0, 0), (0, 0, 0), (0, 0, 0), (2, 2, 0), (2, 3, 0), (2, 4, 0), (2, 5, 0), (2, 6, 0), (0, 0, 0), (0, 0, 0), (0, 0, 0), (0, 0, 0), (0, 0, 0), (0, 0, 0), (1, 0, 0), (0, 0, 0), (0, 0, 0), (0, 0, 0), (2, 7, 0), (2, 8, 0), (0, 0, 0), (2, 9, 0), (2, 10, 0), (0, 0, (-1 : Int32)), (2, 11, 0), (2, 12, 0), (0, 0, (-1 : Int32)), (0, 0, 0), (0, 0, 0), (0, 0, 0), (3, 0, 0), (3, 0, 0), (0, 0, 0), (3, 0, 0), (0, 0, 0), (0, 0, 0), (0, 0, 0), (3, 0, 0), (0, 0, 0), (3, 0, 0), (0, 0, 0), (0, 0, 0), (0, 0, 0), (0, 0, 0), (0, 0, 0), (3, 0, 0), (3, 0, 0), (3, 0, 0), (3, 0, 0)]) (by decide) qw_1422 rfl rfl rfl rfl (Nat.le_of_ble_eq_true rfl) rfl dX13_init_112 rfl (fun H locs hM => ?_)
  refine lv_aload_n hx hb dX13_init_115 rfl (lv_at hl 0 rfl) ?_
  refine lv_sipush (v := (nI 1024)) hx hb dX13_init_116 (by decide) ?_
  refine cn_newI C hM (N := 1024) (v := 0) (L' := (xr13.take 13)) (a1 := 13) (nI_pos (by decide)) (nI_clamp (by decide)) (by decide) (Nat.le_of_ble_eq_true rfl) (Nat.le_of_ble_eq_true rfl) rfl rfl dX13_init_119 rfl (fun H hM => ?_)
  refine cn_put C ha hM cl_13 (j := 33) (f := (2, 13, 0)) (fs' := [(0, 0, 0), (2, 1, 0), (0, 0, 0), (0, 0, 0), (0, 0, 0), (0, 0, 0), (2, 2, 0), (2, 3, 0), (2, 4, 0), (2, 5, 0), (2, 6, 0), (0, 0, 0), (0, 0, 0), (0, 0, 0), (0, 0, 0), (0, 0, 0), (0, 0, 0), (1, 0, 0), (0, 0, 0), (0, 0, 0), (0, 0, 0), (2, 7, 0), (2, 8, 0), (0, 0, 0), (2, 9, 0), (2, 10, 0), (0, 0, (-1 : Int32)), (2, 11, 0), (2, 12, 0), (0, 0, (-1 : Int32)), (0, 0, 0), (0, 0, 0), (0, 0, 0), (2, 13, 0), (3, 0, 0), (0, 0, 0), (3, 0, 0), (0, 0, 0), (0, 0, 0), (0, 0, 0), (3, 0, 0), (0, 0, 0), (3, 0, 0), (0, 0, 0), (0, 0, 0), (0, 0, 0), (0, 0, 0), (0, 0, 0), (3, 0, 0), (3, 0, 0), (3, 0, 0), (3, 0, 0)]) (by decide) qw_1426 rfl rfl rfl rfl (Nat.le_of_ble_eq_true rfl) rfl dX13_init_121 rfl (fun H locs hM => ?_)
  refine lv_aload_n hx hb dX13_init_124 rfl (lv_at hl 0 rfl) ?_
  refine lv_sipush (v := (nI 1024)) hx hb dX13_init_125 (by decide) ?_
  refine cn_newI C hM (N := 1024) (v := 0) (L' := (xr13.take 14)) (a1 := 14) (nI_pos (by decide)) (nI_clamp (by decide)) (by decide) (Nat.le_of_ble_eq_true rfl) (Nat.le_of_ble_eq_true rfl) rfl rfl dX13_init_128 rfl (fun H hM => ?_)
  refine cn_put C ha hM cl_13 (j := 34) (f := (2, 14, 0)) (fs' := [(0, 0, 0), (2, 1, 0), (0, 0, 0), (0, 0, 0), (0, 0, 0), (0, 0, 0), (2, 2, 0), (2, 3, 0), (2, 4, 0), (2, 5, 0), (2, 6, 0), (0, 0, 0), (0, 0, 0), (0, 0, 0), (0, 0, 0), (0, 0, 0), (0, 0, 0), (1, 0, 0), (0, 0, 0), (0, 0, 0), (0, 0, 0), (2, 7, 0), (2, 8, 0), (0, 0, 0), (2, 9, 0), (2, 10, 0), (0, 0, (-1 : Int32)), (2, 11, 0), (2, 12, 0), (0, 0, (-1 : Int32)), (0, 0, 0), (0, 0, 0), (0, 0, 0), (2, 13, 0), (2, 14, 0), (0, 0, 0), (3, 0, 0), (0, 0, 0), (0, 0, 0), (0, 0, 0), (3, 0, 0), (0, 0, 0), (3, 0, 0), (0, 0, 0), (0, 0, 0), (0, 0, 0), (0, 0, 0), (0, 0, 0), (3, 0, 0), (3, 0, 0), (3, 0, 0), (3, 0, 0)]) (by decide) qw_1427 rfl rfl rfl rfl (Nat.le_of_ble_eq_true rfl) rfl dX13_init_130 rfl (fun H locs hM => ?_)
  refine lv_aload_n hx hb dX13_init_133 rfl (lv_at hl 0 rfl) ?_
  refine lv_bipush (v := (nI 104)) hx hb dX13_init_134 (by decide) ?_
  refine cn_newB C hM (N := 104) (v := 0) (L' := (xr13.take 15)) (a1 := 15) (nI_pos (by decide)) (nI_clamp (by decide)) (by decide) (Nat.le_of_ble_eq_true rfl) (Nat.le_of_ble_eq_true rfl) rfl rfl dX13_init_136 rfl (fun H hM => ?_)
  refine cn_put C ha hM cl_13 (j := 36) (f := (2, 15, 0)) (fs' := [(0, 0, 0), (2, 1, 0), (0, 0, 0), (0, 0, 0), (0, 0, 0), (0, 0, 0), (2, 2, 0), (2, 3, 0), (2, 4, 0), (2, 5, 0), (2, 6, 0), (0, 0, 0), (0, 0, 0), (0, 0, 0), (0, 0, 0), (0, 0, 0), (0, 0, 0), (1, 0, 0), (0, 0, 0), (0, 0, 0), (0, 0, 0), (2, 7, 0), (2, 8, 0), (0, 0, 0), (2, 9, 0), (2, 10, 0), (0, 0, (-1 : Int32)), (2, 11, 0), (2, 12, 0), (0, 0, (-1 : Int32)), (0, 0, 0), (0, 0, 0), (0, 0, 0), (2, 13, 0), (2, 14, 0), (0, 0, 0), (2, 15, 0), (0, 0, 0), (0, 0, 0), (0, 0, 0), (3, 0, 0), (0, 0, 0), (3, 0, 0), (0, 0, 0), (0, 0, 0), (0, 0, 0), (0, 0, 0), (0, 0, 0), (3, 0, 0), (3, 0, 0), (3, 0, 0), (3, 0, 0)]) (by decide) qw_1429 rfl rfl rfl rfl (Nat.le_of_ble_eq_true rfl) rfl dX13_init_138 rfl (fun H locs hM => ?_)
  refine lv_aload_n hx hb dX13_init_141 rfl (lv_at hl 0 rfl) ?_
  refine lv_iconst (v := (nI 4)) hx hb dX13_init_142 (by decide) ?_
  refine cn_newI C hM (N := 4) (v := 0) (L' := (xr13.take 16)) (a1 := 16) (nI_pos (by decide)) (nI_clamp (by decide)) (by decide) (Nat.le_of_ble_eq_true rfl) (Nat.le_of_ble_eq_true rfl) rfl rfl dX13_init_143 rfl (fun H hM => ?_)
  refine cn_put C ha hM cl_13 (j := 40) (f := (2, 16, 0)) (fs' := [(0, 0, 0), (2, 1, 0), (0, 0, 0), (0, 0, 0), (0, 0, 0), (0, 0, 0), (2, 2, 0), (2, 3, 0), (2, 4, 0), (2, 5, 0), (2, 6, 0), (0, 0, 0), (0, 0, 0), (0, 0, 0), (0, 0, 0), (0, 0, 0), (0, 0, 0), (1, 0, 0), (0, 0, 0), (0, 0, 0), (0, 0, 0), (2, 7, 0), (2, 8, 0), (0, 0, 0), (2, 9, 0), (2, 10, 0), (0, 0, (-1 : Int32)), (2, 11, 0), (2, 12, 0), (0, 0, (-1 : Int32)), (0, 0, 0), (0, 0, 0), (0, 0, 0), (2, 13, 0), (2, 14, 0), (0, 0, 0), (2, 15, 0), (0, 0, 0), (0, 0, 0), (0, 0, 0), (2, 16, 0), (0, 0, 0), (3, 0, 0), (0, 0, 0), (0, 0, 0), (0, 0, 0), (0, 0, 0), (0, 0, 0), (3, 0, 0), (3, 0, 0), (3, 0, 0), (3, 0, 0)]) (by decide) qw_1433 rfl rfl rfl rfl (Nat.le_of_ble_eq_true rfl) rfl dX13_init_145 rfl (fun H locs hM => ?_)
  refine lv_aload_n hx hb dX13_init_148 rfl (lv_at hl 0 rfl) ?_
  refine lv_bipush (v := (nI 45)) hx hb dX13_init_149 (by decide) ?_
  refine cn_newI C hM (N := 45) (v := 0) (L' := (xr13.take 17)) (a1 := 17) (nI_pos (by decide)) (nI_clamp (by decide)) (by decide) (Nat.le_of_ble_eq_true rfl) (Nat.le_of_ble_eq_true rfl) rfl rfl dX13_init_151 rfl (fun H hM => ?_)
  refine cn_put C ha hM cl_13 (j := 42) (f := (2, 17, 0)) (fs' := [(0, 0, 0), (2, 1, 0), (0, 0, 0), (0, 0, 0), (0, 0, 0), (0, 0, 0), (2, 2, 0), (2, 3, 0), (2, 4, 0), (2, 5, 0), (2, 6, 0), (0, 0, 0), (0, 0, 0), (0, 0, 0), (0, 0, 0), (0, 0, 0), (0, 0, 0), (1, 0, 0), (0, 0, 0), (0, 0, 0), (0, 0, 0), (2, 7, 0), (2, 8, 0), (0, 0, 0), (2, 9, 0), (2, 10, 0), (0, 0, (-1 : Int32)), (2, 11, 0), (2, 12, 0), (0, 0, (-1 : Int32)), (0, 0, 0), (0, 0, 0), (0, 0, 0), (2, 13, 0), (2, 14, 0), (0, 0, 0), (2, 15, 0), (0, 0, 0), (0, 0, 0), (0, 0, 0), (2, 16, 0), (0, 0, 0), (2, 17, 0), (0, 0, 0), (0, 0, 0), (0, 0, 0), (0, 0, 0), (0, 0, 0), (3, 0, 0), (3, 0, 0), (3, 0, 0), (3, 0, 0)]) (by decide) qw_1435 rfl rfl rfl rfl (Nat.le_of_ble_eq_true rfl) rfl dX13_init_153 rfl (fun H locs hM => ?_)
  refine lv_aload_n hx hb dX13_init_156 rfl (lv_at hl 0 rfl) ?_
  refine lv_bipush (v := (nI 45)) hx hb dX13_init_157 (by decide) ?_
  refine cn_newZ C hM (N := 45) (v := 0) (L' := (xr13.take 18)) (a1 := 18) (nI_pos (by decide)) (nI_clamp (by decide)) (by decide) (Nat.le_of_ble_eq_true rfl) (Nat.le_of_ble_eq_true rfl) rfl rfl dX13_init_159 rfl (fun H hM => ?_)
  refine cn_put C ha hM cl_13 (j := 48) (f := (2, 18, 0)) (fs' := [(0, 0, 0), (2, 1, 0), (0, 0, 0), (0, 0, 0), (0, 0, 0), (0, 0, 0), (2, 2, 0), (2, 3, 0), (2, 4, 0), (2, 5, 0), (2, 6, 0), (0, 0, 0), (0, 0, 0), (0, 0, 0), (0, 0, 0), (0, 0, 0), (0, 0, 0), (1, 0, 0), (0, 0, 0), (0, 0, 0), (0, 0, 0), (2, 7, 0), (2, 8, 0), (0, 0, 0), (2, 9, 0), (2, 10, 0), (0, 0, (-1 : Int32)), (2, 11, 0), (2, 12, 0), (0, 0, (-1 : Int32)), (0, 0, 0), (0, 0, 0), (0, 0, 0), (2, 13, 0), (2, 14, 0), (0, 0, 0), (2, 15, 0), (0, 0, 0), (0, 0, 0), (0, 0, 0), (2, 16, 0), (0, 0, 0), (2, 17, 0), (0, 0, 0), (0, 0, 0), (0, 0, 0), (0, 0, 0), (0, 0, 0), (2, 18, 0), (3, 0, 0), (3, 0, 0), (3, 0, 0)]) (by decide) qw_1441 rfl rfl rfl rfl (Nat.le_of_ble_eq_true rfl) rfl dX13_init_161 rfl (fun H locs hM => ?_)
  refine lv_aload_n hx hb dX13_init_164 rfl (lv_at hl 0 rfl) ?_
  refine lv_sipush (v := (nI 588)) hx hb dX13_init_165 (by decide) ?_
  refine cn_newI C hM (N := 588) (v := 0) (L' := (xr13.take 19)) (a1 := 19) (nI_pos (by decide)) (nI_clamp (by decide)) (by decide) (Nat.le_of_ble_eq_true rfl) (Nat.le_of_ble_eq_true rfl) rfl rfl dX13_init_168 rfl (fun H hM => ?_)
  refine cn_put C ha hM cl_13 (j := 49) (f := (2, 19, 0)) (fs' := [(0, 0, 0), (2, 1, 0), (0, 0, 0), (0, 0, 0), (0, 0, 0), (0, 0, 0), (2, 2, 0), (2, 3, 0), (2, 4, 0), (2, 5, 0), (2, 6, 0), (0, 0, 0), (0, 0, 0), (0, 0, 0), (0, 0, 0), (0, 0, 0), (0, 0, 0), (1, 0, 0), (0, 0, 0), (0, 0, 0), (0, 0, 0), (2, 7, 0), (2, 8, 0), (0, 0, 0), (2, 9, 0), (2, 10, 0), (0, 0, (-1 : Int32)), (2, 11, 0), (2, 12, 0), (0, 0, (-1 : Int32)), (0, 0, 0), (0, 0, 0), (0, 0, 0), (2, 13, 0), (2, 14, 0), (0, 0, 0), (2, 15, 0), (0, 0, 0), (0, 0, 0), (0, 0, 0), (2, 16, 0), (0, 0, 0), (2, 17, 0), (0, 0, 0), (0, 0, 0), (0, 0, 0), (0, 0, 0), (0, 0, 0), (2, 18, 0), (2, 19, 0), (3, 0, 0), (3, 0, 0)]) (by decide) qw_1442 rfl rfl rfl rfl (Nat.le_of_ble_eq_true rfl) rfl dX13_init_170 rfl (fun H locs hM => ?_)
  refine lv_aload_n hx hb dX13_init_173 rfl (lv_at hl 0 rfl) ?_
  refine lv_bipush (v := (nI 28)) hx hb dX13_init_174 (by decide) ?_
  refine cn_newJ C hM (N := 28) (v := 0) (L' := (xr13.take 20)) (a1 := 20) (nI_pos (by decide)) (nI_clamp (by decide)) (by decide) (Nat.le_of_ble_eq_true rfl) (Nat.le_of_ble_eq_true rfl) rfl rfl dX13_init_176 rfl (fun H hM => ?_)
  refine cn_put C ha hM cl_13 (j := 50) (f := (2, 20, 0)) (fs' := [(0, 0, 0), (2, 1, 0), (0, 0, 0), (0, 0, 0), (0, 0, 0), (0, 0, 0), (2, 2, 0), (2, 3, 0), (2, 4, 0), (2, 5, 0), (2, 6, 0), (0, 0, 0), (0, 0, 0), (0, 0, 0), (0, 0, 0), (0, 0, 0), (0, 0, 0), (1, 0, 0), (0, 0, 0), (0, 0, 0), (0, 0, 0), (2, 7, 0), (2, 8, 0), (0, 0, 0), (2, 9, 0), (2, 10, 0), (0, 0, (-1 : Int32)), (2, 11, 0), (2, 12, 0), (0, 0, (-1 : Int32)), (0, 0, 0), (0, 0, 0), (0, 0, 0), (2, 13, 0), (2, 14, 0), (0, 0, 0), (2, 15, 0), (0, 0, 0), (0, 0, 0), (0, 0, 0), (2, 16, 0), (0, 0, 0), (2, 17, 0), (0, 0, 0), (0, 0, 0), (0, 0, 0), (0, 0, 0), (0, 0, 0), (2, 18, 0), (2, 19, 0), (2, 20, 0), (3, 0, 0)]) (by decide) qw_1443 rfl rfl rfl rfl (Nat.le_of_ble_eq_true rfl) rfl dX13_init_178 rfl (fun H locs hM => ?_)
  refine lv_aload_n hx hb dX13_init_181 rfl (lv_at hl 0 rfl) ?_
  refine lv_iconst (v := (nI 2)) hx hb dX13_init_182 (by decide) ?_
  refine cn_newZ C hM (N := 2) (v := 0) (L' := (xr13.take 21)) (a1 := 21) (nI_pos (by decide)) (nI_clamp (by decide)) (by decide) (Nat.le_of_ble_eq_true rfl) (Nat.le_of_ble_eq_true rfl) rfl rfl dX13_init_183 rfl (fun H hM => ?_)
  refine cn_put C ha hM cl_13 (j := 51) (f := (2, 21, 0)) (fs' := [(0, 0, 0), (2, 1, 0), (0, 0, 0), (0, 0, 0), (0, 0, 0), (0, 0, 0), (2, 2, 0), (2, 3, 0), (2, 4, 0), (2, 5, 0), (2, 6, 0), (0, 0, 0), (0, 0, 0), (0, 0, 0), (0, 0, 0), (0, 0, 0), (0, 0, 0), (1, 0, 0), (0, 0, 0), (0, 0, 0), (0, 0, 0), (2, 7, 0), (2, 8, 0), (0, 0, 0), (2, 9, 0), (2, 10, 0), (0, 0, (-1 : Int32)), (2, 11, 0), (2, 12, 0), (0, 0, (-1 : Int32)), (0, 0, 0), (0, 0, 0), (0, 0, 0), (2, 13, 0), (2, 14, 0), (0, 0, 0), (2, 15, 0), (0, 0, 0), (0, 0, 0), (0, 0, 0), (2, 16, 0), (0, 0, 0), (2, 17, 0), (0, 0, 0), (0, 0, 0), (0, 0, 0), (0, 0, 0), (0, 0, 0), (2, 18, 0), (2, 19, 0), (2, 20, 0), (2, 21, 0)]) (by decide) qw_1444 rfl rfl rfl rfl (Nat.le_of_ble_eq_true rfl) rfl dX13_init_185 rfl (fun H locs hM => ?_)
  have C2 : mx_C (mE X) p m c cX13_init 2 s [Value.ref (X.2.1 0)].toArray RX13 meth none := ⟨C.1, C.2.1, trivial, mE_ok hX, C.2.2.2.2.1, C.2.2.2.2.2.1⟩
  replace hM : mx_H (mE X) s (cw_M x13) H locs := ⟨cm_P (T := x13) cm_13 hM.1, hM.2.1⟩
  refine lv_aload_n hx hb dX13_init_188 rfl (lv_at hl 0 rfl) ?_
  refine g13_47 C2 rfl hM dX13_init_189 ?_
  refine lv_iconst (v := (nI 0)) hx hb dX13_init_192 (by decide) ?_
  refine lv_ldc2 (v := (123581014175598)) hx hb hown (hts _ qw_1366) dX13_init_193 ?_
  refine mx_lastL C2 hM (mt_6 rfl) (j := 0) (nI_clamp (by decide)) (vp_in_nI (by decide) (by decide)) dX13_init_196 (fun H locs hM => ?_)
  refine lv_aload_n hx hb dX13_init_197 rfl (lv_at hl 0 rfl) ?_
  refine g13_47 C2 rfl hM dX13_init_198 ?_
  refine lv_iconst (v := (nI 1)) hx hb dX13_init_201 (by decide) ?_
  refine lv_ldc2 (v := (1919512167)) hx hb hown (hts _ qw_1367) dX13_init_202 ?_
  refine mx_lastL C2 hM (mt_6 rfl) (j := 1) (nI_clamp (by decide)) (vp_in_nI (by decide) (by decide)) dX13_init_205 (fun H locs hM => ?_)
  refine lv_aload_n hx hb dX13_init_206 rfl (lv_at hl 0 rfl) ?_
  refine g13_47 C2 rfl hM dX13_init_207 ?_
  refine lv_iconst (v := (nI 2)) hx hb dX13_init_210 (by decide) ?_
  refine lv_ldc2 (v := (6711668)) hx hb hown (hts _ qw_1368) dX13_init_211 ?_
  refine mx_lastL C2 hM (mt_6 rfl) (j := 2) (nI_clamp (by decide)) (vp_in_nI (by decide) (by decide)) dX13_init_214 (fun H locs hM => ?_)
  refine lv_aload_n hx hb dX13_init_215 rfl (lv_at hl 0 rfl) ?_
  refine g13_47 C2 rfl hM dX13_init_216 ?_
  refine lv_iconst (v := (nI 3)) hx hb dX13_init_219 (by decide) ?_
  refine lv_ldc2 (v := (2002873451)) hx hb hown (hts _ qw_1369) dX13_init_220 ?_
  refine mx_lastL C2 hM (mt_6 rfl) (j := 3) (nI_clamp (by decide)) (vp_in_nI (by decide) (by decide)) dX13_init_223 (fun H locs hM => ?_)
  refine lv_aload_n hx hb dX13_init_224 rfl (lv_at hl 0 rfl) ?_
  refine g13_47 C2 rfl hM dX13_init_225 ?_
  refine lv_iconst (v := (nI 4)) hx hb dX13_init_228 (by decide) ?_
  refine lv_ldc2 (v := (117001056382053)) hx hb hown (hts _ qw_1370) dX13_init_229 ?_
  refine mx_lastL C2 hM (mt_6 rfl) (j := 4) (nI_clamp (by decide)) (vp_in_nI (by decide) (by decide)) dX13_init_232 (fun H locs hM => ?_)
  refine lv_aload_n hx hb dX13_init_233 rfl (lv_at hl 0 rfl) ?_
  refine g13_47 C2 rfl hM dX13_init_234 ?_
  refine lv_iconst (v := (nI 5)) hx hb dX13_init_237 (by decide) ?_
  refine lv_ldc2 (v := (1735353715)) hx hb hown (hts _ qw_1371) dX13_init_238 ?_
  refine mx_lastL C2 hM (mt_6 rfl) (j := 5) (nI_clamp (by decide)) (vp_in_nI (by decide) (by decide)) dX13_init_241 (fun H locs hM => ?_)
  refine lv_aload_n hx hb dX13_init_242 rfl (lv_at hl 0 rfl) ?_
  refine g13_47 C2 rfl hM dX13_init_243 ?_
  refine lv_bipush (v := (nI 6)) hx hb dX13_init_246 (by decide) ?_
  refine lv_ldc2 (v := (448311223411)) hx hb hown (hts _ qw_1372) dX13_init_248 ?_
  refine mx_lastL C2 hM (mt_6 rfl) (j := 6) (nI_clamp (by decide)) (vp_in_nI (by decide) (by decide)) dX13_init_251 (fun H locs hM => ?_)
  refine lv_aload_n hx hb dX13_init_252 rfl (lv_at hl 0 rfl) ?_
  refine g13_47 C2 rfl hM dX13_init_253 ?_
  refine lv_bipush (v := (nI 7)) hx hb dX13_init_256 (by decide) ?_
  refine lv_ldc2 (v := (512801993331)) hx hb hown (hts _ qw_1373) dX13_init_258 ?_
  refine mx_lastL C2 hM (mt_6 rfl) (j := 7) (nI_clamp (by decide)) (vp_in_nI (by decide) (by decide)) dX13_init_261 (fun H locs hM => ?_)
  refine lv_aload_n hx hb dX13_init_262 rfl (lv_at hl 0 rfl) ?_
  refine g13_47 C2 rfl hM dX13_init_263 ?_
  refine lv_bipush (v := (nI 8)) hx hb dX13_init_266 (by decide) ?_
  refine lv_ldc2 (v := (431365711475)) hx hb hown (hts _ qw_1374) dX13_init_268 ?_
  refine mx_lastL C2 hM (mt_6 rfl) (j := 8) (nI_clamp (by decide)) (vp_in_nI (by decide) (by decide)) dX13_init_271 (fun H locs hM => ?_)
  refine lv_aload_n hx hb dX13_init_272 rfl (lv_at hl 0 rfl) ?_
  refine g13_47 C2 rfl hM dX13_init_273 ?_
  refine lv_bipush (v := (nI 9)) hx hb dX13_init_276 (by decide) ?_
  refine lv_ldc2 (v := (439855506547)) hx hb hown (hts _ qw_1375) dX13_init_278 ?_
  refine mx_lastL C2 hM (mt_6 rfl) (j := 9) (nI_clamp (by decide)) (vp_in_nI (by decide) (by decide)) dX13_init_281 (fun H locs hM => ?_)
  refine lv_aload_n hx hb dX13_init_282 rfl (lv_at hl 0 rfl) ?_
  refine g13_47 C2 rfl hM dX13_init_283 ?_
  refine lv_bipush (v := (nI 10)) hx hb dX13_init_286 (by decide) ?_
  refine lv_ldc2 (v := (6578553)) hx hb hown (hts _ qw_1376) dX13_init_288 ?_
  refine mx_lastL C2 hM (mt_6 rfl) (j := 10) (nI_clamp (by decide)) (vp_in_nI (by decide) (by decide)) dX13_init_291 (fun H locs hM => ?_)
  refine lv_aload_n hx hb dX13_init_292 rfl (lv_at hl 0 rfl) ?_
  refine g13_47 C2 rfl hM dX13_init_293 ?_
  refine lv_bipush (v := (nI 11)) hx hb dX13_init_296 (by decide) ?_
  refine lv_ldc2 (v := (28530)) hx hb hown (hts _ qw_1377) dX13_init_298 ?_
  refine mx_lastL C2 hM (mt_6 rfl) (j := 11) (nI_clamp (by decide)) (vp_in_nI (by decide) (by decide)) dX13_init_301 (fun H locs hM => ?_)
  refine lv_aload_n hx hb dX13_init_302 rfl (lv_at hl 0 rfl) ?_
  refine g13_47 C2 rfl hM dX13_init_303 ?_
  refine lv_bipush (v := (nI 12)) hx hb dX13_init_306 (by decide) ?_
  refine lv_ldc2 (v := (6385252)) hx hb hown (hts _ qw_1378) dX13_init_308 ?_
  refine mx_lastL C2 hM (mt_6 rfl) (j := 12) (nI_clamp (by decide)) (vp_in_nI (by decide) (by decide)) dX13_init_311 (fun H locs hM => ?_)
  refine lv_aload_n hx hb dX13_init_312 rfl (lv_at hl 0 rfl) ?_
  refine g13_47 C2 rfl hM dX13_init_313 ?_
  refine lv_bipush (v := (nI 13)) hx hb dX13_init_316 (by decide) ?_
  refine lv_ldc2 (v := (7237492)) hx hb hown (hts _ qw_1379) dX13_init_318 ?_
  refine mx_lastL C2 hM (mt_6 rfl) (j := 13) (nI_clamp (by decide)) (vp_in_nI (by decide) (by decide)) dX13_init_321 (fun H locs hM => ?_)
  refine lv_aload_n hx hb dX13_init_322 rfl (lv_at hl 0 rfl) ?_
  refine g13_47 C2 rfl hM dX13_init_323 ?_
  refine lv_bipush (v := (nI 14)) hx hb dX13_init_326 (by decide) ?_
  refine lv_ldc2 (v := (125797149402468)) hx hb hown (hts _ qw_1380) dX13_init_328 ?_
  refine mx_lastL C2 hM (mt_6 rfl) (j := 14) (nI_clamp (by decide)) (vp_in_nI (by decide) (by decide)) dX13_init_331 (fun H locs hM => ?_)
  refine lv_aload_n hx hb dX13_init_332 rfl (lv_at hl 0 rfl) ?_
  refine g13_47 C2 rfl hM dX13_init_333 ?_
  refine lv_bipush (v := (nI 15)) hx hb dX13_init_336 (by decide) ?_
  refine lv_ldc2 (v := (448311357561)) hx hb hown (hts _ qw_1381) dX13_init_338 ?_
  refine mx_lastL C2 hM (mt_6 rfl) (j := 15) (nI_clamp (by decide)) (vp_in_nI (by decide) (by decide)) dX13_init_341 (fun H locs hM => ?_)
  refine lv_aload_n hx hb dX13_init_342 rfl (lv_at hl 0 rfl) ?_
  refine g13_47 C2 rfl hM dX13_init_343 ?_
  refine lv_bipush (v := (nI 16)) hx hb dX13_init_346 (by decide) ?_
  refine lv_ldc2 (v := (1650553445)) hx hb hown (hts _ qw_1382) dX13_init_348 ?_
  refine mx_lastL C2 hM (mt_6 rfl) (j := 16) (nI_clamp (by decide)) (vp_in_nI (by decide) (by decide)) dX13_init_351 (fun H locs hM => ?_)
  refine lv_aload_n hx hb dX13_init_352 rfl (lv_at hl 0 rfl) ?_
  refine g13_47 C2 rfl hM dX13_init_353 ?_
  refine lv_bipush (v := (nI 17)) hx hb dX13_init_356 (by decide) ?_
  refine lv_ldc2 (v := (6840691)) hx hb hown (hts _ qw_1383) dX13_init_358 ?_
  refine mx_lastL C2 hM (mt_6 rfl) (j := 17) (nI_clamp (by decide)) (vp_in_nI (by decide) (by decide)) dX13_init_361 (fun H locs hM => ?_)
  refine lv_aload_n hx hb dX13_init_362 rfl (lv_at hl 0 rfl) ?_
  refine g13_47 C2 rfl hM dX13_init_363 ?_
  refine lv_bipush (v := (nI 18)) hx hb dX13_init_366 (by decide) ?_
  refine lv_ldc2 (v := (25209)) hx hb hown (hts _ qw_1384) dX13_init_368 ?_
  refine mx_lastL C2 hM (mt_6 rfl) (j := 18) (nI_clamp (by decide)) (vp_in_nI (by decide) (by decide)) dX13_init_371 (fun H locs hM => ?_)
  refine lv_aload_n hx hb dX13_init_372 rfl (lv_at hl 0 rfl) ?_
  refine g13_47 C2 rfl hM dX13_init_373 ?_
  refine lv_bipush (v := (nI 19)) hx hb dX13_init_376 (by decide) ?_
  refine lv_ldc2 (v := (461262647411)) hx hb hown (hts _ qw_1385) dX13_init_378 ?_
  refine mx_lastL C2 hM (mt_6 rfl) (j := 19) (nI_clamp (by decide)) (vp_in_nI (by decide) (by decide)) dX13_init_381 (fun H locs hM => ?_)
  refine lv_aload_n hx hb dX13_init_382 rfl (lv_at hl 0 rfl) ?_
  refine g13_47 C2 rfl hM dX13_init_383 ?_
  refine lv_bipush (v := (nI 20)) hx hb dX13_init_386 (by decide) ?_
  refine lv_ldc2 (v := (495874044019)) hx hb hown (hts _ qw_1386) dX13_init_388 ?_
  refine mx_lastL C2 hM (mt_6 rfl) (j := 20) (nI_clamp (by decide)) (vp_in_nI (by decide) (by decide)) dX13_init_391 (fun H locs hM => ?_)
  refine lv_aload_n hx hb dX13_init_392 rfl (lv_at hl 0 rfl) ?_
  refine g13_47 C2 rfl hM dX13_init_393 ?_
  refine lv_bipush (v := (nI 21)) hx hb dX13_init_396 (by decide) ?_
  refine lv_ldc2 (v := (112603009869170)) hx hb hown (hts _ qw_1387) dX13_init_398 ?_
  refine mx_lastL C2 hM (mt_6 rfl) (j := 21) (nI_clamp (by decide)) (vp_in_nI (by decide) (by decide)) dX13_init_401 (fun H locs hM => ?_)
  refine lv_aload_n hx hb dX13_init_402 rfl (lv_at hl 0 rfl) ?_
  refine g13_47 C2 rfl hM dX13_init_403 ?_
  refine lv_bipush (v := (nI 22)) hx hb dX13_init_406 (by decide) ?_
  refine lv_ldc2 (v := (121450625394034)) hx hb hown (hts _ qw_1388) dX13_init_408 ?_
  refine mx_lastL C2 hM (mt_6 rfl) (j := 22) (nI_clamp (by decide)) (vp_in_nI (by decide) (by decide)) dX13_init_411 (fun H locs hM => ?_)
  replace hM : mx_H (mE X) s (m0a (cw_M x13)) H locs := hM
  refine lv_aload_n hx hb dX13_init_412 rfl (lv_at hl 0 rfl) ?_
  refine lw_callV (E := mE X) (A := cw_A X) (As := []) (ci := 13) C2.1 C2.2.1 trivial (mE_ok hX) hM.1 hM.2 (fun _ h => h) (fun _ _ h => h) hl.1 yo_X13_clears (by decide) qw_1389 qw_1391 qs_111 (q := (RX13, TX13, 52)) rfl (mt_0 rfl) (kX13_clears (mE_ok hX) rfl _ hq) rfl rfl rfl (Nat.le_of_ble_eq_true rfl) dX13_init_413 ⟨Nat.le_refl _, Nat.le_refl _⟩ (fun H locs hP hS _ _ => ?_)
  refine lv_iconst (v := (nI 0)) hx hb dX13_init_416 (by decide) ?_
  refine lv_istore_n (lv' := [(1, .int (nI 0)), (0, .ref (X.2.1 0))]) hx hb dX13_init_417 rfl hl (by decide) rfl (fun ls hl => ?_)
  exact wX13_init_l C2 q 54 0 rfl _ _ _ ⟨hP, hS⟩ hl
